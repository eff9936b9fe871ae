/-! READER: THE LINE, THE WHOLE TEXT, THE TAPE -/
def x_lb (tp : Nat → Int32) (n : Nat) (q : x_K) : x_K :=
  if x_lk tp n q.1.2 = -1 then (x_fail 1 q.1, q.2) else if x_lk tp n q.1.2 = 4 then x_bread tp n q else if x_lk tp n q.1.2 = 5 then x_meet tp n q else if x_lk tp n q.1.2 = 6 then x_forg tp n q else if x_lk tp n q.1.2 = 7 then x_noon tp n q else if x_lk tp n q.1.2 = 8 then x_rule tp n q else x_human tp n (x_lk tp n q.1.2) q
def x_line (tp : Nat → Int32) (n : Nat) (q : x_K) : x_K := (x_rs tp n 59 (x_lb tp n q).1, (x_lb tp n q).2)
theorem x_rs_0 {tp : Nat → Int32} {n : Nat} {c : Int32} {s : Int32 × Nat} (h : (x_rs tp n c s).1 = 0) : s.1 = 0 := by
  have h1 := x_adv_0 h
  split at h1
  · exact h1
  · exact absurd h1 (x_fail_n (by decide) _)
def x_rdl (tp : Nat → Int32) (n : Nat) : Nat → x_K → x_K
  | 0, q => q
  | f + 1, q => if q.1.1 = 0 ∧ ¬ x_tk tp n q.1.2 = 0 then x_rdl tp n f (x_line tp n q) else q
abbrev x_T0 : x_T := ([], [], [], (365, 12), [])
def x_read (tp : Nat → Int32) (n : Nat) : x_K := x_rdl tp n 601 ((0, x_run x_bl tp n 0), x_T0, (0, 0, 0))
theorem f_clr_oo {I : Nat → Nat → Int32} {t : Nat} : ∀ a, (a < t ∨ t + 19 ≤ a) → f_clr I t a = I a := fun a h => by unfold f_clr; simp (disch := omega) only [am_uA_o]
theorem k_tw_clr (I : Nat → Nat → Int32) (t : Nat) : k_tw (f_clr I t) t x_T0 := by
  have e0 : f_clr I t t = upd (upd (upd (upd (I t) 0 0) 1 0) 2 365) 3 12 := by unfold f_clr; simp (disch := omega) only [am_uA_o, am_uA_s]
  have e8 : f_clr I t (t + 8) = upd (I (t + 8)) 0 0 := by unfold f_clr; simp (disch := omega) only [am_uA_o, am_uA_s]
  have e16 : f_clr I t (t + 16) = upd (I (t + 16)) 2 0 := by unfold f_clr; simp (disch := omega) only [am_uA_o, am_uA_s]
  refine ⟨⟨by rw [e0]; rfl, by decide, fun j hj => absurd hj (Nat.not_lt_zero j)⟩, ⟨by rw [e8]; rfl, by decide, fun j hj => absurd hj (Nat.not_lt_zero j)⟩, ⟨by rw [e0]; rfl, by decide, fun j hj => absurd hj (Nat.not_lt_zero j)⟩, by rw [e0]; rfl, by rw [e0]; rfl, ⟨by rw [e16]; rfl, by decide, fun j hj => absurd hj (Nat.not_lt_zero j)⟩⟩
theorem dX6_readLine_0 : decode cX6_readLine 0 = .ok (.aload_n 0, 1) := by decide +kernel
theorem dX6_readLine_1 : decode cX6_readLine 1 = .ok (.invokevirtual 94, 3) := by decide +kernel
theorem dX6_readLine_4 : decode cX6_readLine 4 = .ok (.istore_n 2, 1) := by decide +kernel
theorem dX6_readLine_5 : decode cX6_readLine 5 = .ok (.iload_n 2, 1) := by decide +kernel
theorem dX6_readLine_6 : decode cX6_readLine 6 = .ok (.tableswitch 102 (-1) 8 #[54, 102, 102, 102, 102, 62, 70, 78, 86, 94], 54) := by decide +kernel
theorem dX6_readLine_60 : decode cX6_readLine 60 = .ok (.aload_n 0, 1) := by decide +kernel
theorem dX6_readLine_61 : decode cX6_readLine 61 = .ok (.iconst 1, 1) := by decide +kernel
theorem dX6_readLine_62 : decode cX6_readLine 62 = .ok (.invokevirtual 97, 3) := by decide +kernel
theorem dX6_readLine_65 : decode cX6_readLine 65 = .ok (.goto 49, 3) := by decide +kernel
theorem dX6_readLine_68 : decode cX6_readLine 68 = .ok (.aload_n 0, 1) := by decide +kernel
theorem dX6_readLine_69 : decode cX6_readLine 69 = .ok (.aload_n 1, 1) := by decide +kernel
theorem dX6_readLine_70 : decode cX6_readLine 70 = .ok (.invokevirtual 101, 3) := by decide +kernel
theorem dX6_readLine_73 : decode cX6_readLine 73 = .ok (.goto 41, 3) := by decide +kernel
theorem dX6_readLine_76 : decode cX6_readLine 76 = .ok (.aload_n 0, 1) := by decide +kernel
theorem dX6_readLine_77 : decode cX6_readLine 77 = .ok (.aload_n 1, 1) := by decide +kernel
theorem dX6_readLine_78 : decode cX6_readLine 78 = .ok (.invokevirtual 104, 3) := by decide +kernel
theorem dX6_readLine_81 : decode cX6_readLine 81 = .ok (.goto 33, 3) := by decide +kernel
theorem dX6_readLine_84 : decode cX6_readLine 84 = .ok (.aload_n 0, 1) := by decide +kernel
theorem dX6_readLine_85 : decode cX6_readLine 85 = .ok (.aload_n 1, 1) := by decide +kernel
theorem dX6_readLine_86 : decode cX6_readLine 86 = .ok (.invokevirtual 107, 3) := by decide +kernel
theorem dX6_readLine_89 : decode cX6_readLine 89 = .ok (.goto 25, 3) := by decide +kernel
theorem dX6_readLine_92 : decode cX6_readLine 92 = .ok (.aload_n 0, 1) := by decide +kernel
theorem dX6_readLine_93 : decode cX6_readLine 93 = .ok (.aload_n 1, 1) := by decide +kernel
theorem dX6_readLine_94 : decode cX6_readLine 94 = .ok (.invokevirtual 110, 3) := by decide +kernel
theorem dX6_readLine_97 : decode cX6_readLine 97 = .ok (.goto 17, 3) := by decide +kernel
theorem dX6_readLine_100 : decode cX6_readLine 100 = .ok (.aload_n 0, 1) := by decide +kernel
theorem dX6_readLine_101 : decode cX6_readLine 101 = .ok (.aload_n 1, 1) := by decide +kernel
theorem dX6_readLine_102 : decode cX6_readLine 102 = .ok (.invokevirtual 113, 3) := by decide +kernel
theorem dX6_readLine_105 : decode cX6_readLine 105 = .ok (.goto 9, 3) := by decide +kernel
theorem dX6_readLine_108 : decode cX6_readLine 108 = .ok (.aload_n 0, 1) := by decide +kernel
theorem dX6_readLine_109 : decode cX6_readLine 109 = .ok (.aload_n 1, 1) := by decide +kernel
theorem dX6_readLine_110 : decode cX6_readLine 110 = .ok (.iload_n 2, 1) := by decide +kernel
theorem dX6_readLine_111 : decode cX6_readLine 111 = .ok (.invokevirtual 116, 3) := by decide +kernel
theorem dX6_readLine_114 : decode cX6_readLine 114 = .ok (.aload_n 0, 1) := by decide +kernel
theorem dX6_readLine_115 : decode cX6_readLine 115 = .ok (.bipush 59, 2) := by decide +kernel
theorem dX6_readLine_117 : decode cX6_readLine 117 = .ok (.invokevirtual 120, 3) := by decide +kernel
theorem dX6_readLine_120 : decode cX6_readLine 120 = .ok (.return_, 1) := by decide +kernel
set_option maxRecDepth 100000 in
set_option maxHeartbeats 4000000 in
theorem k_X6_readLine {G : am_G} (hK : k_OK G) {d : Nat} (hd : 52 ≤ d) {sh : List (Nat ⊕ (Nat × Nat))} {I : Nat → Nat → Int32} {R : Nat → Nat → Option Nat} {L : Nat → Nat → Int64} {g : Nat} {e n t : Nat} {tp : Nat → Int32} {s : Int32 × Nat} {T : x_T} {fl : x_F} (hr : k_rd sh R e tp n) (ht : k_Town sh R t) (het : e + 2 ≤ t ∨ t + 19 ≤ e) (hs : k_s I e tp n s) (hl : k_fl I e fl) (hT : k_tw I t T) : AM G mX6_readLine d [.ref e, .ref t] (sh, I, R, L, g) (fun v w => v = none ∧ ∃ J, w = (sh, J, R, L, g) ∧ k_rt I J e t tp n (x_line tp n (s, T, fl))) (fun _ _ => False) := by
  have hG := hK.1
  have he := hr.1
  have hn6 := hr.2.1
  have hf := k_ft_0 I e t
  refine AM.of (n := 1) (by decide +kernel) (Nat.le_of_ble_eq_true rfl) ?_
  show AW G mX6_readLine d (fun v w => v = none ∧ ∃ J, w = (sh, J, R, L, g) ∧ k_rt I J e t tp n (x_line tp n (s, T, fl))) (fun _ _ => False) 0 [some (.ref e), some (.ref t), none] [] (sh, I, R, L, g) 0 0
  have J114 : ∀ (J : Nat → Nat → Int32) (y : Int32), k_rt I J e t tp n (x_lb tp n (s, T, fl)) → AW G mX6_readLine d (fun v w => v = none ∧ ∃ J, w = (sh, J, R, L, g) ∧ k_rt I J e t tp n (x_line tp n (s, T, fl))) (fun _ _ => False) 114 [some (.ref e), some (.ref t), some (.int y)] [] (sh, J, R, L, g) 0 0 := by
    intro J y hi114
    obtain ⟨hfJ, hsJ, hlJ, hTJ⟩ := hi114
    clear hs hl hT hf
    refine AW.aload_n dX6_readLine_114 rfl ?_
    refine AW.bipush 59 dX6_readLine_115 (by decide) ?_
    refine AW.callV (b := e) (As := [.int 59]) hG.2.2 (vX6_120 hG) (he.1 0 _ rfl) (k_X6_readSign hK (d := 6) (Nat.le_refl _) hr (by assumption) 59) (by omega) dX6_readLine_117 rfl rfl (Nat.le_of_ble_eq_true rfl) (fun v w9 hq9 h09 => by obtain ⟨rfl, J9, rfl, -⟩ := hq9; exact ⟨h09, rfl⟩) (by decide) (by decide) (fun _ _ hx => hx) (fun v117 w117 hq117 => ?_)
    obtain ⟨rfl, I117, rfl, hr117⟩ := hq117
    have hs117 := k_rp_i hr117
    show AW G mX6_readLine d (fun v w => v = none ∧ ∃ J, w = (sh, J, R, L, g) ∧ k_rt I J e t tp n (x_line tp n (s, T, fl))) (fun _ _ => False) 120 [some (.ref e), some (.ref t), some (.int y)] [] (sh, I117, R, L, g) 0 0
    exact AW.vret dX6_readLine_120 rfl (by decide) (by decide) (⟨rfl, I117, rfl, by
      show k_rt I I117 e t tp n (x_rs tp n 59 (x_lb tp n (s, T, fl)).1, (x_lb tp n (s, T, fl)).2)
      exact ⟨k_ft_t hfJ (k_ft_r hr117), hs117, k_fl_r hlJ hr117, fun h => k_tw_r het (hTJ (x_rs_0 h)) hr117⟩⟩)
  refine AW.aload_n dX6_readLine_0 rfl ?_
  refine AW.callV (b := e) (As := []) hG.2.2 (vX6_94 hG) (he.1 0 _ rfl) (k_X6_lineKind hK (d := 5) (Nat.le_refl _) hr (by assumption)) (by omega) dX6_readLine_1 rfl rfl (Nat.le_of_ble_eq_true rfl) (fun v w9 hq9 h09 => by obtain ⟨rfl, rfl⟩ := hq9; exact ⟨h09, rfl⟩) (by decide) (by decide) (fun _ _ hx => hx) (fun v1 w1 hq1 => ?_)
  obtain ⟨rfl, rfl⟩ := hq1
  refine AW.nam (fun x1 ex1 => ?_)
  refine AW.is_n [some (.ref e), some (.ref t), some (.int x1)] dX6_readLine_4 (by decide) rfl rfl ?_
  refine AW.iload_n dX6_readLine_5 rfl ?_
  refine AW.nam (fun x6 ex6 => ?_)
  by_cases hs6_0 : x6 = (-1)
  · subst hs6_0
    refine AW.tabIn 60 dX6_readLine_6 (by decide) (by decide) rfl (by decide) ?_
    refine AW.aload_n dX6_readLine_60 rfl ?_
    refine AW.iconst 1 dX6_readLine_61 (by decide) ?_
    refine AW.callV (b := e) (As := [.int 1]) hG.2.2 (vX6_97 hG) (he.1 0 _ rfl) (k_X6_fail hK (d := 0) (Nat.le_refl _) he (by assumption) 1) (by omega) dX6_readLine_62 rfl rfl (Nat.le_of_ble_eq_true rfl) (fun v w9 hq9 h09 => by obtain ⟨rfl, J9, rfl, -⟩ := hq9; exact ⟨h09, rfl⟩) (by decide) (by decide) (fun _ _ hx => hx) (fun v62 w62 hq62 => ?_)
    obtain ⟨rfl, I62, rfl, hr62⟩ := hq62
    have hs62 := k_rp_i hr62
    have hT62 := k_tw_r het (by assumption) hr62
    have hl62 := k_fl_r (by assumption) hr62
    have hf62 := k_ft_t (by assumption) (k_ft_r (t := t) hr62)
    show AW G mX6_readLine d (fun v w => v = none ∧ ∃ J, w = (sh, J, R, L, g) ∧ k_rt I J e t tp n (x_line tp n (s, T, fl))) (fun _ _ => False) 65 [some (.ref e), some (.ref t), some (.int x1)] [] (sh, I62, R, L, g) 0 0
    refine AW.goto 114 dX6_readLine_65 (by decide) ?_
    exact J114 I62 x1 (by
      have hk : x_lk tp n s.2 = (-1) := ex1.symm.trans ex6.symm
      have e9 : x_lb tp n (s, T, fl) = (x_fail 1 s, T, fl) := by unfold x_lb; show (if x_lk tp n s.2 = -1 then _ else _) = _; rw [if_pos hk]
      rw [e9]; exact ⟨hf62, hs62, hl62, fun _ => hT62⟩)
  by_cases hs6_1 : x6 = 0
  · subst hs6_1
    refine AW.tabIn 108 dX6_readLine_6 (by decide) (by decide) rfl (by decide) ?_
    refine AW.aload_n dX6_readLine_108 rfl ?_
    refine AW.aload_n dX6_readLine_109 rfl ?_
    refine AW.iload_n dX6_readLine_110 rfl ?_
    refine AW.callV (b := e) (As := [.ref t, .int x1]) hG.2.2 (vX6_116 hG) (he.1 0 _ rfl) (k_X6_readHuman hK (d := 7) (Nat.le_refl _) hr ht het (by assumption) (by assumption) (by assumption) x1) (by omega) dX6_readLine_111 rfl rfl (Nat.le_of_ble_eq_true rfl) (fun v w9 hq9 h09 => by obtain ⟨rfl, J9, rfl, -⟩ := hq9; exact ⟨h09, rfl⟩) (by decide) (by decide) (fun _ _ hx => hx) (fun v111 w111 hq111 => ?_)
    obtain ⟨rfl, I111, rfl, hg111, hs111, hl111, hT111⟩ := hq111
    have hf111 := k_ft_t (by assumption) hg111
    show AW G mX6_readLine d (fun v w => v = none ∧ ∃ J, w = (sh, J, R, L, g) ∧ k_rt I J e t tp n (x_line tp n (s, T, fl))) (fun _ _ => False) 114 [some (.ref e), some (.ref t), some (.int x1)] [] (sh, I111, R, L, g) 0 0
    exact J114 I111 x1 (by
      have hk : x_lk tp n s.2 = 0 := ex1.symm.trans ex6.symm
      have e9 : x_lb tp n (s, T, fl) = x_human tp n x1 (s, T, fl) := by unfold x_lb; show (if x_lk tp n s.2 = -1 then _ else _) = _; rw [if_neg (by rw [hk]; decide), if_neg (by rw [hk]; decide), if_neg (by rw [hk]; decide), if_neg (by rw [hk]; decide), if_neg (by rw [hk]; decide), if_neg (by rw [hk]; decide), ← ex1]
      rw [e9]; exact ⟨hg111, hs111, hl111, hT111⟩)
  by_cases hs6_2 : x6 = 1
  · subst hs6_2
    refine AW.tabIn 108 dX6_readLine_6 (by decide) (by decide) rfl (by decide) ?_
    refine AW.aload_n dX6_readLine_108 rfl ?_
    refine AW.aload_n dX6_readLine_109 rfl ?_
    refine AW.iload_n dX6_readLine_110 rfl ?_
    refine AW.callV (b := e) (As := [.ref t, .int x1]) hG.2.2 (vX6_116 hG) (he.1 0 _ rfl) (k_X6_readHuman hK (d := 7) (Nat.le_refl _) hr ht het (by assumption) (by assumption) (by assumption) x1) (by omega) dX6_readLine_111 rfl rfl (Nat.le_of_ble_eq_true rfl) (fun v w9 hq9 h09 => by obtain ⟨rfl, J9, rfl, -⟩ := hq9; exact ⟨h09, rfl⟩) (by decide) (by decide) (fun _ _ hx => hx) (fun v111 w111 hq111 => ?_)
    obtain ⟨rfl, I111, rfl, hg111, hs111, hl111, hT111⟩ := hq111
    have hf111 := k_ft_t (by assumption) hg111
    show AW G mX6_readLine d (fun v w => v = none ∧ ∃ J, w = (sh, J, R, L, g) ∧ k_rt I J e t tp n (x_line tp n (s, T, fl))) (fun _ _ => False) 114 [some (.ref e), some (.ref t), some (.int x1)] [] (sh, I111, R, L, g) 0 0
    exact J114 I111 x1 (by
      have hk : x_lk tp n s.2 = 1 := ex1.symm.trans ex6.symm
      have e9 : x_lb tp n (s, T, fl) = x_human tp n x1 (s, T, fl) := by unfold x_lb; show (if x_lk tp n s.2 = -1 then _ else _) = _; rw [if_neg (by rw [hk]; decide), if_neg (by rw [hk]; decide), if_neg (by rw [hk]; decide), if_neg (by rw [hk]; decide), if_neg (by rw [hk]; decide), if_neg (by rw [hk]; decide), ← ex1]
      rw [e9]; exact ⟨hg111, hs111, hl111, hT111⟩)
  by_cases hs6_3 : x6 = 2
  · subst hs6_3
    refine AW.tabIn 108 dX6_readLine_6 (by decide) (by decide) rfl (by decide) ?_
    refine AW.aload_n dX6_readLine_108 rfl ?_
    refine AW.aload_n dX6_readLine_109 rfl ?_
    refine AW.iload_n dX6_readLine_110 rfl ?_
    refine AW.callV (b := e) (As := [.ref t, .int x1]) hG.2.2 (vX6_116 hG) (he.1 0 _ rfl) (k_X6_readHuman hK (d := 7) (Nat.le_refl _) hr ht het (by assumption) (by assumption) (by assumption) x1) (by omega) dX6_readLine_111 rfl rfl (Nat.le_of_ble_eq_true rfl) (fun v w9 hq9 h09 => by obtain ⟨rfl, J9, rfl, -⟩ := hq9; exact ⟨h09, rfl⟩) (by decide) (by decide) (fun _ _ hx => hx) (fun v111 w111 hq111 => ?_)
    obtain ⟨rfl, I111, rfl, hg111, hs111, hl111, hT111⟩ := hq111
    have hf111 := k_ft_t (by assumption) hg111
    show AW G mX6_readLine d (fun v w => v = none ∧ ∃ J, w = (sh, J, R, L, g) ∧ k_rt I J e t tp n (x_line tp n (s, T, fl))) (fun _ _ => False) 114 [some (.ref e), some (.ref t), some (.int x1)] [] (sh, I111, R, L, g) 0 0
    exact J114 I111 x1 (by
      have hk : x_lk tp n s.2 = 2 := ex1.symm.trans ex6.symm
      have e9 : x_lb tp n (s, T, fl) = x_human tp n x1 (s, T, fl) := by unfold x_lb; show (if x_lk tp n s.2 = -1 then _ else _) = _; rw [if_neg (by rw [hk]; decide), if_neg (by rw [hk]; decide), if_neg (by rw [hk]; decide), if_neg (by rw [hk]; decide), if_neg (by rw [hk]; decide), if_neg (by rw [hk]; decide), ← ex1]
      rw [e9]; exact ⟨hg111, hs111, hl111, hT111⟩)
  by_cases hs6_4 : x6 = 3
  · subst hs6_4
    refine AW.tabIn 108 dX6_readLine_6 (by decide) (by decide) rfl (by decide) ?_
    refine AW.aload_n dX6_readLine_108 rfl ?_
    refine AW.aload_n dX6_readLine_109 rfl ?_
    refine AW.iload_n dX6_readLine_110 rfl ?_
    refine AW.callV (b := e) (As := [.ref t, .int x1]) hG.2.2 (vX6_116 hG) (he.1 0 _ rfl) (k_X6_readHuman hK (d := 7) (Nat.le_refl _) hr ht het (by assumption) (by assumption) (by assumption) x1) (by omega) dX6_readLine_111 rfl rfl (Nat.le_of_ble_eq_true rfl) (fun v w9 hq9 h09 => by obtain ⟨rfl, J9, rfl, -⟩ := hq9; exact ⟨h09, rfl⟩) (by decide) (by decide) (fun _ _ hx => hx) (fun v111 w111 hq111 => ?_)
    obtain ⟨rfl, I111, rfl, hg111, hs111, hl111, hT111⟩ := hq111
    have hf111 := k_ft_t (by assumption) hg111
    show AW G mX6_readLine d (fun v w => v = none ∧ ∃ J, w = (sh, J, R, L, g) ∧ k_rt I J e t tp n (x_line tp n (s, T, fl))) (fun _ _ => False) 114 [some (.ref e), some (.ref t), some (.int x1)] [] (sh, I111, R, L, g) 0 0
    exact J114 I111 x1 (by
      have hk : x_lk tp n s.2 = 3 := ex1.symm.trans ex6.symm
      have e9 : x_lb tp n (s, T, fl) = x_human tp n x1 (s, T, fl) := by unfold x_lb; show (if x_lk tp n s.2 = -1 then _ else _) = _; rw [if_neg (by rw [hk]; decide), if_neg (by rw [hk]; decide), if_neg (by rw [hk]; decide), if_neg (by rw [hk]; decide), if_neg (by rw [hk]; decide), if_neg (by rw [hk]; decide), ← ex1]
      rw [e9]; exact ⟨hg111, hs111, hl111, hT111⟩)
  by_cases hs6_5 : x6 = 4
  · subst hs6_5
    refine AW.tabIn 68 dX6_readLine_6 (by decide) (by decide) rfl (by decide) ?_
    refine AW.aload_n dX6_readLine_68 rfl ?_
    refine AW.aload_n dX6_readLine_69 rfl ?_
    refine AW.callV (b := e) (As := [.ref t]) hG.2.2 (vX6_101 hG) (he.1 0 _ rfl) (k_X6_readBread hK (d := 7) (Nat.le_refl _) hr ht het (by assumption) (by assumption) (by assumption)) (by omega) dX6_readLine_70 rfl rfl (Nat.le_of_ble_eq_true rfl) (fun v w9 hq9 h09 => by obtain ⟨rfl, J9, rfl, -⟩ := hq9; exact ⟨h09, rfl⟩) (by decide) (by decide) (fun _ _ hx => hx) (fun v70 w70 hq70 => ?_)
    obtain ⟨rfl, I70, rfl, hg70, hs70, hl70, hT70⟩ := hq70
    have hf70 := k_ft_t (by assumption) hg70
    show AW G mX6_readLine d (fun v w => v = none ∧ ∃ J, w = (sh, J, R, L, g) ∧ k_rt I J e t tp n (x_line tp n (s, T, fl))) (fun _ _ => False) 73 [some (.ref e), some (.ref t), some (.int x1)] [] (sh, I70, R, L, g) 0 0
    refine AW.goto 114 dX6_readLine_73 (by decide) ?_
    exact J114 I70 x1 (by
      have hk : x_lk tp n s.2 = 4 := ex1.symm.trans ex6.symm
      have e9 : x_lb tp n (s, T, fl) = x_bread tp n (s, T, fl) := by unfold x_lb; show (if x_lk tp n s.2 = -1 then _ else _) = _; rw [if_neg (by rw [hk]; decide), if_pos hk]
      rw [e9]; exact ⟨hg70, hs70, hl70, hT70⟩)
  by_cases hs6_6 : x6 = 5
  · subst hs6_6
    refine AW.tabIn 76 dX6_readLine_6 (by decide) (by decide) rfl (by decide) ?_
    refine AW.aload_n dX6_readLine_76 rfl ?_
    refine AW.aload_n dX6_readLine_77 rfl ?_
    refine AW.callV (b := e) (As := [.ref t]) hG.2.2 (vX6_104 hG) (he.1 0 _ rfl) (k_X6_readMeeting hK (d := 7) (Nat.le_refl _) hr ht het (by assumption) (by assumption) (by assumption)) (by omega) dX6_readLine_78 rfl rfl (Nat.le_of_ble_eq_true rfl) (fun v w9 hq9 h09 => by obtain ⟨rfl, J9, rfl, -⟩ := hq9; exact ⟨h09, rfl⟩) (by decide) (by decide) (fun _ _ hx => hx) (fun v78 w78 hq78 => ?_)
    obtain ⟨rfl, I78, rfl, hg78, hs78, hl78, hT78⟩ := hq78
    have hf78 := k_ft_t (by assumption) hg78
    show AW G mX6_readLine d (fun v w => v = none ∧ ∃ J, w = (sh, J, R, L, g) ∧ k_rt I J e t tp n (x_line tp n (s, T, fl))) (fun _ _ => False) 81 [some (.ref e), some (.ref t), some (.int x1)] [] (sh, I78, R, L, g) 0 0
    refine AW.goto 114 dX6_readLine_81 (by decide) ?_
    exact J114 I78 x1 (by
      have hk : x_lk tp n s.2 = 5 := ex1.symm.trans ex6.symm
      have e9 : x_lb tp n (s, T, fl) = x_meet tp n (s, T, fl) := by unfold x_lb; show (if x_lk tp n s.2 = -1 then _ else _) = _; rw [if_neg (by rw [hk]; decide), if_neg (by rw [hk]; decide), if_pos hk]
      rw [e9]; exact ⟨hg78, hs78, hl78, hT78⟩)
  by_cases hs6_7 : x6 = 6
  · subst hs6_7
    refine AW.tabIn 84 dX6_readLine_6 (by decide) (by decide) rfl (by decide) ?_
    refine AW.aload_n dX6_readLine_84 rfl ?_
    refine AW.aload_n dX6_readLine_85 rfl ?_
    refine AW.callV (b := e) (As := [.ref t]) hG.2.2 (vX6_107 hG) (he.1 0 _ rfl) (k_X6_readForgetting hK (d := 7) (Nat.le_refl _) hr ht het (by assumption) (by assumption) (by assumption)) (by omega) dX6_readLine_86 rfl rfl (Nat.le_of_ble_eq_true rfl) (fun v w9 hq9 h09 => by obtain ⟨rfl, J9, rfl, -⟩ := hq9; exact ⟨h09, rfl⟩) (by decide) (by decide) (fun _ _ hx => hx) (fun v86 w86 hq86 => ?_)
    obtain ⟨rfl, I86, rfl, hg86, hs86, hl86, hT86⟩ := hq86
    have hf86 := k_ft_t (by assumption) hg86
    show AW G mX6_readLine d (fun v w => v = none ∧ ∃ J, w = (sh, J, R, L, g) ∧ k_rt I J e t tp n (x_line tp n (s, T, fl))) (fun _ _ => False) 89 [some (.ref e), some (.ref t), some (.int x1)] [] (sh, I86, R, L, g) 0 0
    refine AW.goto 114 dX6_readLine_89 (by decide) ?_
    exact J114 I86 x1 (by
      have hk : x_lk tp n s.2 = 6 := ex1.symm.trans ex6.symm
      have e9 : x_lb tp n (s, T, fl) = x_forg tp n (s, T, fl) := by unfold x_lb; show (if x_lk tp n s.2 = -1 then _ else _) = _; rw [if_neg (by rw [hk]; decide), if_neg (by rw [hk]; decide), if_neg (by rw [hk]; decide), if_pos hk]
      rw [e9]; exact ⟨hg86, hs86, hl86, hT86⟩)
  by_cases hs6_8 : x6 = 7
  · subst hs6_8
    refine AW.tabIn 92 dX6_readLine_6 (by decide) (by decide) rfl (by decide) ?_
    refine AW.aload_n dX6_readLine_92 rfl ?_
    refine AW.aload_n dX6_readLine_93 rfl ?_
    refine AW.callV (b := e) (As := [.ref t]) hG.2.2 (vX6_110 hG) (he.1 0 _ rfl) (k_X6_readNoonHour hK (d := 7) (Nat.le_refl _) hr ht het (by assumption) (by assumption) (by assumption)) (by omega) dX6_readLine_94 rfl rfl (Nat.le_of_ble_eq_true rfl) (fun v w9 hq9 h09 => by obtain ⟨rfl, J9, rfl, -⟩ := hq9; exact ⟨h09, rfl⟩) (by decide) (by decide) (fun _ _ hx => hx) (fun v94 w94 hq94 => ?_)
    obtain ⟨rfl, I94, rfl, hg94, hs94, hl94, hT94⟩ := hq94
    have hf94 := k_ft_t (by assumption) hg94
    show AW G mX6_readLine d (fun v w => v = none ∧ ∃ J, w = (sh, J, R, L, g) ∧ k_rt I J e t tp n (x_line tp n (s, T, fl))) (fun _ _ => False) 97 [some (.ref e), some (.ref t), some (.int x1)] [] (sh, I94, R, L, g) 0 0
    refine AW.goto 114 dX6_readLine_97 (by decide) ?_
    exact J114 I94 x1 (by
      have hk : x_lk tp n s.2 = 7 := ex1.symm.trans ex6.symm
      have e9 : x_lb tp n (s, T, fl) = x_noon tp n (s, T, fl) := by unfold x_lb; show (if x_lk tp n s.2 = -1 then _ else _) = _; rw [if_neg (by rw [hk]; decide), if_neg (by rw [hk]; decide), if_neg (by rw [hk]; decide), if_neg (by rw [hk]; decide), if_pos hk]
      rw [e9]; exact ⟨hg94, hs94, hl94, hT94⟩)
  by_cases hs6_9 : x6 = 8
  · subst hs6_9
    refine AW.tabIn 100 dX6_readLine_6 (by decide) (by decide) rfl (by decide) ?_
    refine AW.aload_n dX6_readLine_100 rfl ?_
    refine AW.aload_n dX6_readLine_101 rfl ?_
    refine AW.callV (b := e) (As := [.ref t]) hG.2.2 (vX6_113 hG) (he.1 0 _ rfl) (k_X6_readRule hK (d := 51) (Nat.le_refl _) hr ht het (by assumption) (by assumption) (by assumption)) (by omega) dX6_readLine_102 rfl rfl (Nat.le_of_ble_eq_true rfl) (fun v w9 hq9 h09 => by obtain ⟨rfl, J9, rfl, -⟩ := hq9; exact ⟨h09, rfl⟩) (by decide) (by decide) (fun _ _ hx => hx) (fun v102 w102 hq102 => ?_)
    obtain ⟨rfl, I102, rfl, hg102, hs102, hl102, hT102⟩ := hq102
    have hf102 := k_ft_t (by assumption) hg102
    show AW G mX6_readLine d (fun v w => v = none ∧ ∃ J, w = (sh, J, R, L, g) ∧ k_rt I J e t tp n (x_line tp n (s, T, fl))) (fun _ _ => False) 105 [some (.ref e), some (.ref t), some (.int x1)] [] (sh, I102, R, L, g) 0 0
    refine AW.goto 114 dX6_readLine_105 (by decide) ?_
    exact J114 I102 x1 (by
      have hk : x_lk tp n s.2 = 8 := ex1.symm.trans ex6.symm
      have e9 : x_lb tp n (s, T, fl) = x_rule tp n (s, T, fl) := by unfold x_lb; show (if x_lk tp n s.2 = -1 then _ else _) = _; rw [if_neg (by rw [hk]; decide), if_neg (by rw [hk]; decide), if_neg (by rw [hk]; decide), if_neg (by rw [hk]; decide), if_neg (by rw [hk]; decide), if_pos hk]
      rw [e9]; exact ⟨hg102, hs102, hl102, hT102⟩)
  have ht6 : x6.toInt < -1 ∨ 8 < x6.toInt := by
    have h90 : ¬ x6.toInt = -1 := fun h => hs6_0 (Int32.toInt_inj.mp (h.trans (by decide)))
    have h91 : ¬ x6.toInt = 0 := fun h => hs6_1 (Int32.toInt_inj.mp (h.trans (by decide)))
    have h92 : ¬ x6.toInt = 1 := fun h => hs6_2 (Int32.toInt_inj.mp (h.trans (by decide)))
    have h93 : ¬ x6.toInt = 2 := fun h => hs6_3 (Int32.toInt_inj.mp (h.trans (by decide)))
    have h94 : ¬ x6.toInt = 3 := fun h => hs6_4 (Int32.toInt_inj.mp (h.trans (by decide)))
    have h95 : ¬ x6.toInt = 4 := fun h => hs6_5 (Int32.toInt_inj.mp (h.trans (by decide)))
    have h96 : ¬ x6.toInt = 5 := fun h => hs6_6 (Int32.toInt_inj.mp (h.trans (by decide)))
    have h97 : ¬ x6.toInt = 6 := fun h => hs6_7 (Int32.toInt_inj.mp (h.trans (by decide)))
    have h98 : ¬ x6.toInt = 7 := fun h => hs6_8 (Int32.toInt_inj.mp (h.trans (by decide)))
    have h99 : ¬ x6.toInt = 8 := fun h => hs6_9 (Int32.toInt_inj.mp (h.trans (by decide)))
    omega
  refine AW.tabOut 108 dX6_readLine_6 ht6 (by decide) ?_
  refine AW.aload_n dX6_readLine_108 rfl ?_
  refine AW.aload_n dX6_readLine_109 rfl ?_
  refine AW.iload_n dX6_readLine_110 rfl ?_
  refine AW.callV (b := e) (As := [.ref t, .int x1]) hG.2.2 (vX6_116 hG) (he.1 0 _ rfl) (k_X6_readHuman hK (d := 7) (Nat.le_refl _) hr ht het (by assumption) (by assumption) (by assumption) x1) (by omega) dX6_readLine_111 rfl rfl (Nat.le_of_ble_eq_true rfl) (fun v w9 hq9 h09 => by obtain ⟨rfl, J9, rfl, -⟩ := hq9; exact ⟨h09, rfl⟩) (by decide) (by decide) (fun _ _ hx => hx) (fun v111 w111 hq111 => ?_)
  obtain ⟨rfl, I111, rfl, hg111, hs111, hl111, hT111⟩ := hq111
  have hf111 := k_ft_t (by assumption) hg111
  show AW G mX6_readLine d (fun v w => v = none ∧ ∃ J, w = (sh, J, R, L, g) ∧ k_rt I J e t tp n (x_line tp n (s, T, fl))) (fun _ _ => False) 114 [some (.ref e), some (.ref t), some (.int x1)] [] (sh, I111, R, L, g) 0 0
  exact J114 I111 x1 (by
    have e9 : x_lb tp n (s, T, fl) = x_human tp n x1 (s, T, fl) := by unfold x_lb; show (if x_lk tp n s.2 = -1 then _ else _) = _; rw [if_neg (fun h => hs6_0 (ex6.trans (ex1.trans h))), if_neg (fun h => hs6_5 (ex6.trans (ex1.trans h))), if_neg (fun h => hs6_6 (ex6.trans (ex1.trans h))), if_neg (fun h => hs6_7 (ex6.trans (ex1.trans h))), if_neg (fun h => hs6_8 (ex6.trans (ex1.trans h))), if_neg (fun h => hs6_9 (ex6.trans (ex1.trans h))), ← ex1]
    rw [e9]; exact ⟨hg111, hs111, hl111, hT111⟩)
theorem dX6_read_0 : decode cX6_read 0 = .ok (.aload_n 2, 1) := by decide +kernel
theorem dX6_read_1 : decode cX6_read 1 = .ok (.invokevirtual 19, 3) := by decide +kernel
theorem dX6_read_4 : decode cX6_read 4 = .ok (.aload_n 0, 1) := by decide +kernel
theorem dX6_read_5 : decode cX6_read 5 = .ok (.iconst 0, 1) := by decide +kernel
theorem dX6_read_6 : decode cX6_read 6 = .ok (.iload_n 1, 1) := by decide +kernel
theorem dX6_read_7 : decode cX6_read 7 = .ok (.aload_n 0, 1) := by decide +kernel
theorem dX6_read_8 : decode cX6_read 8 = .ok (.getfield 15, 3) := by decide +kernel
theorem dX6_read_11 : decode cX6_read 11 = .ok (.invokestatic 24, 3) := by decide +kernel
theorem dX6_read_14 : decode cX6_read 14 = .ok (.invokestatic 30, 3) := by decide +kernel
theorem dX6_read_17 : decode cX6_read 17 = .ok (.putfield 33, 3) := by decide +kernel
theorem dX6_read_20 : decode cX6_read 20 = .ok (.aload_n 0, 1) := by decide +kernel
theorem dX6_read_21 : decode cX6_read 21 = .ok (.iconst 0, 1) := by decide +kernel
theorem dX6_read_22 : decode cX6_read 22 = .ok (.putfield 36, 3) := by decide +kernel
theorem dX6_read_25 : decode cX6_read 25 = .ok (.aload_n 0, 1) := by decide +kernel
theorem dX6_read_26 : decode cX6_read 26 = .ok (.iconst 0, 1) := by decide +kernel
theorem dX6_read_27 : decode cX6_read 27 = .ok (.putfield 39, 3) := by decide +kernel
theorem dX6_read_30 : decode cX6_read 30 = .ok (.aload_n 0, 1) := by decide +kernel
theorem dX6_read_31 : decode cX6_read 31 = .ok (.iconst 0, 1) := by decide +kernel
theorem dX6_read_32 : decode cX6_read 32 = .ok (.putfield 42, 3) := by decide +kernel
theorem dX6_read_35 : decode cX6_read 35 = .ok (.aload_n 0, 1) := by decide +kernel
theorem dX6_read_36 : decode cX6_read 36 = .ok (.iconst 0, 1) := by decide +kernel
theorem dX6_read_37 : decode cX6_read 37 = .ok (.putfield 46, 3) := by decide +kernel
theorem dX6_read_40 : decode cX6_read 40 = .ok (.aload_n 0, 1) := by decide +kernel
theorem dX6_read_41 : decode cX6_read 41 = .ok (.iconst 0, 1) := by decide +kernel
theorem dX6_read_42 : decode cX6_read 42 = .ok (.putfield 49, 3) := by decide +kernel
theorem dX6_read_45 : decode cX6_read 45 = .ok (.aload_n 0, 1) := by decide +kernel
theorem dX6_read_46 : decode cX6_read 46 = .ok (.invokevirtual 52, 3) := by decide +kernel
theorem dX6_read_49 : decode cX6_read 49 = .ok (.iconst 0, 1) := by decide +kernel
theorem dX6_read_50 : decode cX6_read 50 = .ok (.istore_n 3, 1) := by decide +kernel
theorem dX6_read_51 : decode cX6_read 51 = .ok (.iload_n 3, 1) := by decide +kernel
theorem dX6_read_52 : decode cX6_read 52 = .ok (.sipush 600, 3) := by decide +kernel
theorem dX6_read_55 : decode cX6_read 55 = .ok (.if_icmp .gt 28, 3) := by decide +kernel
theorem dX6_read_58 : decode cX6_read 58 = .ok (.aload_n 0, 1) := by decide +kernel
theorem dX6_read_59 : decode cX6_read 59 = .ok (.getfield 39, 3) := by decide +kernel
theorem dX6_read_62 : decode cX6_read 62 = .ok (.ifCond .ne 21, 3) := by decide +kernel
theorem dX6_read_65 : decode cX6_read 65 = .ok (.aload_n 0, 1) := by decide +kernel
theorem dX6_read_66 : decode cX6_read 66 = .ok (.getfield 55, 3) := by decide +kernel
theorem dX6_read_69 : decode cX6_read 69 = .ok (.ifCond .eq 14, 3) := by decide +kernel
theorem dX6_read_72 : decode cX6_read 72 = .ok (.aload_n 0, 1) := by decide +kernel
theorem dX6_read_73 : decode cX6_read 73 = .ok (.aload_n 2, 1) := by decide +kernel
theorem dX6_read_74 : decode cX6_read 74 = .ok (.invokevirtual 58, 3) := by decide +kernel
theorem dX6_read_77 : decode cX6_read 77 = .ok (.iinc 3 1, 3) := by decide +kernel
theorem dX6_read_80 : decode cX6_read 80 = .ok (.goto (-29), 3) := by decide +kernel
theorem dX6_read_83 : decode cX6_read 83 = .ok (.aload_n 0, 1) := by decide +kernel
theorem dX6_read_84 : decode cX6_read 84 = .ok (.getfield 39, 3) := by decide +kernel
theorem dX6_read_87 : decode cX6_read 87 = .ok (.ireturn, 1) := by decide +kernel
set_option maxRecDepth 100000 in
set_option maxHeartbeats 4000000 in
theorem k_X6_read {G : am_G} (hK : k_OK G) {d : Nat} (hd : 53 ≤ d) {sh : List (Nat ⊕ (Nat × Nat))} {I : Nat → Nat → Int32} {R : Nat → Nat → Option Nat} {L : Nat → Nat → Int64} {g : Nat} {e n t fd : Nat} {tp : Nat → Int32} (hr : k_rd sh R e tp n) (ht : k_Town sh R t) (het : e + 2 ≤ t ∨ t + 19 ≤ e) (htp : I (e + 1) = tp) (hfd : I e 1 = nI fd) (hnf : n ≤ fd) (hf6 : fd ≤ 600) (x : Int32) (hx : x = nI n) : AM G mX6_read d [.ref e, .int x, .ref t] (sh, I, R, L, g) (fun v w => v = some (.int (x_read tp n).1.1) ∧ ∃ J, w = (sh, J, R, L, g) ∧ k_rt (am_up I e 2 (nI n)) J e t tp n (x_read tp n)) (fun _ _ => False) := by
  have hG := hK.1
  have he := hr.1
  have hn6 := hr.2.1
  refine AM.of (n := 1) (by decide +kernel) (Nat.le_of_ble_eq_true rfl) ?_
  show AW G mX6_read d (fun v w => v = some (.int (x_read tp n).1.1) ∧ ∃ J, w = (sh, J, R, L, g) ∧ k_rt (am_up I e 2 (nI n)) J e t tp n (x_read tp n)) (fun _ _ => False) 0 [some (.ref e), some (.int x), some (.ref t), none] [] (sh, I, R, L, g) 0 0
  refine AW.aload_n dX6_read_0 rfl ?_
  refine AW.callV (b := t) (As := []) hG.2.2 (vX6_19 hG) (ht.1 0 _ rfl) (k_X9_clear hK (d := 0) (Nat.le_refl _) ht) (by omega) dX6_read_1 rfl rfl (Nat.le_of_ble_eq_true rfl) (fun v w9 hq9 h09 => by obtain ⟨rfl, rfl⟩ := hq9; exact ⟨h09, rfl⟩) (by decide) (by decide) (fun _ _ hx => hx) (fun v1 w1 hq1 => ?_)
  obtain ⟨rfl, rfl⟩ := hq1
  refine AW.namI (fun I1 eI1 => ?_)
  show AW G mX6_read d (fun v w => v = some (.int (x_read tp n).1.1) ∧ ∃ J, w = (sh, J, R, L, g) ∧ k_rt (am_up I e 2 (nI n)) J e t tp n (x_read tp n)) (fun _ _ => False) 4 [some (.ref e), some (.int x), some (.ref t), none] [] (sh, I1, R, L, g) 0 0
  refine AW.aload_n dX6_read_4 rfl ?_
  refine AW.iconst 0 dX6_read_5 (by decide) ?_
  refine AW.iload_n dX6_read_6 rfl ?_
  refine AW.aload_n dX6_read_7 rfl ?_
  refine AW.getI (fX6_15 hG).r rfl (he.1 0 _ rfl) dX6_read_8 ?_
  refine AW.mmin (k_c hG 929 (by decide +kernel) (by decide +kernel)) (k_mmin hG) dX6_read_11 (by omega) (Nat.le_of_ble_eq_true rfl) (by decide) (by decide) ?_
  refine AW.mmax (k_c hG 930 (by decide +kernel) (by decide +kernel)) (k_mmax hG) dX6_read_14 (by omega) (Nat.le_of_ble_eq_true rfl) (by decide) (by decide) ?_
  refine AW.putI (fX6_33 hG) rfl (vp_nar_int _) rfl (he.1 0 _ rfl) dX6_read_17 ?_
  refine AW.namI (fun I17 eI17 => ?_)
  refine AW.aload_n dX6_read_20 rfl ?_
  refine AW.iconst 0 dX6_read_21 (by decide) ?_
  refine AW.putI (fX6_36 hG) rfl (vp_nar_int _) rfl (he.1 0 _ rfl) dX6_read_22 ?_
  refine AW.namI (fun I22 eI22 => ?_)
  refine AW.aload_n dX6_read_25 rfl ?_
  refine AW.iconst 0 dX6_read_26 (by decide) ?_
  refine AW.putI (fX6_39 hG) rfl (vp_nar_int _) rfl (he.1 0 _ rfl) dX6_read_27 ?_
  refine AW.namI (fun I27 eI27 => ?_)
  refine AW.aload_n dX6_read_30 rfl ?_
  refine AW.iconst 0 dX6_read_31 (by decide) ?_
  refine AW.putI (fX6_42 hG) rfl (by decide) (by decide) (he.1 0 _ rfl) dX6_read_32 ?_
  refine AW.namI (fun I32 eI32 => ?_)
  refine AW.aload_n dX6_read_35 rfl ?_
  refine AW.iconst 0 dX6_read_36 (by decide) ?_
  refine AW.putI (fX6_46 hG) rfl (by decide) (by decide) (he.1 0 _ rfl) dX6_read_37 ?_
  refine AW.namI (fun I37 eI37 => ?_)
  refine AW.aload_n dX6_read_40 rfl ?_
  refine AW.iconst 0 dX6_read_41 (by decide) ?_
  refine AW.putI (fX6_49 hG) rfl (by decide) (by decide) (he.1 0 _ rfl) dX6_read_42 ?_
  refine AW.namI (fun I42 eI42 => ?_)
  have hmn : (if (0 : Int32) < (if I1 e 1 < x then I1 e 1 else x) then (if I1 e 1 < x then I1 e 1 else x) else 0) = nI n := by
    have e1 : I1 e 1 = nI fd := by rw [eI1, f_clr_oo e (by omega)]; exact hfd
    rw [e1, hx, if_neg (nI_nlt hnf (by omega))]
    by_cases h0 : n = 0
    · subst h0; rfl
    · rw [if_pos (show (0 : Int32) < nI n from nI_lt (a := 0) (by omega) (by omega))]
  rw [hmn] at eI17
  have hfo : ∀ a, a ≠ e → (a < t ∨ t + 19 ≤ a) → I42 a = (am_up I e 2 (nI n)) a := fun a h1 h2 => by rw [eI42, eI37, eI32, eI27, eI22, eI17, eI1]; simp (disch := omega) only [am_up_o]; exact f_clr_oo a h2
  have hfe : ∀ k, k < 5 → I42 e k = (am_up I e 2 (nI n)) e k := fun k hk => by
    rw [eI42, eI37, eI32, eI27, eI22, eI17, eI1]; simp (disch := omega) only [up_ne]
    by_cases e2 : k = 2
    · subst e2; rw [up_eq, up_eq]
    · rw [up_ne e2, up_ne e2, f_clr_oo e (by omega)]
  have hf42 : k_ft (am_up I e 2 (nI n)) I42 e t := ⟨hfo, fun k hk => hfe k (by omega)⟩
  have h42t : I42 (e + 1) = tp := by rw [hfo (e + 1) (by omega) (by omega), am_up_o _ _ _ _ (by omega)]; exact htp
  have h42e : I42 e 2 = nI n := by rw [hfe 2 (by omega), up_eq]
  have h42p : I42 e 5 = nI 0 := by rw [eI42, eI37, eI32, eI27, eI22]; simp (disch := omega) only [up_ne]; exact up_eq
  have h427 : I42 e 7 = 0 := by rw [eI42, eI37, eI32, eI27]; simp (disch := omega) only [up_ne]; exact up_eq
  have hl42 : k_fl I42 e (0, 0, 0) := ⟨by rw [eI42, eI37, eI32]; simp (disch := omega) only [up_ne]; exact up_eq, by rw [eI42, eI37]; simp (disch := omega) only [up_ne]; exact up_eq, by rw [eI42]; exact up_eq⟩
  have hT42 : k_tw I42 t x_T0 := k_tw_o (k_tw_clr I t) (fun a h1 h2 => by rw [eI42, eI37, eI32, eI27, eI22, eI17, eI1]; simp (disch := omega) only [am_up_o])
  refine AW.aload_n dX6_read_45 rfl ?_
  refine AW.callV (b := e) (As := []) hG.2.2 (vX6_52 hG) (he.1 0 _ rfl) (k_X6_advance hK (d := 5) (Nat.le_refl _) he hn6 h42t h42e hr.2.2 (p := 0) (b := 0) h42p (Nat.zero_le _) (fun h => absurd h427 h)) (by omega) dX6_read_46 rfl rfl (Nat.le_of_ble_eq_true rfl) (fun v w9 hq9 h09 => by obtain ⟨rfl, J9, rfl, -⟩ := hq9; exact ⟨h09, rfl⟩) (by decide) (by decide) (fun _ _ hx => hx) (fun v46 w46 hq46 => ?_)
  obtain ⟨rfl, I46, rfl, hr46⟩ := hq46
  have hs46 := k_rp_i hr46
  show AW G mX6_read d (fun v w => v = some (.int (x_read tp n).1.1) ∧ ∃ J, w = (sh, J, R, L, g) ∧ k_rt (am_up I e 2 (nI n)) J e t tp n (x_read tp n)) (fun _ _ => False) 49 [some (.ref e), some (.int x), some (.ref t), none] [] (sh, I46, R, L, g) 0 0
  rw [if_pos h427] at hr46 hs46
  have hf46 := k_ft_t hf42 (k_ft_r (t := t) hr46)
  have hl46 := k_fl_r hl42 hr46
  have hT46 := k_tw_r het hT42 hr46
  refine AW.iconst 0 dX6_read_49 (by decide) ?_
  refine AW.is_n [some (.ref e), some (.int x), some (.ref t), some (.int 0)] dX6_read_50 (by decide) rfl rfl ?_
  have L51 : ∀ k51, k51 ≤ 601 → ∀ (y : Int32) (J : Nat → Nat → Int32), (y = nI k51 ∧ ∃ s9 T9 f9, k_ft (am_up I e 2 (nI n)) J e t ∧ k_s J e tp n s9 ∧ k_fl J e f9 ∧ (s9.1 = 0 → k_tw J t T9) ∧ x_rdl tp n (601 - k51) (s9, T9, f9) = x_read tp n) → AW G mX6_read d (fun v w => v = some (.int (x_read tp n).1.1) ∧ ∃ J, w = (sh, J, R, L, g) ∧ k_rt (am_up I e 2 (nI n)) J e t tp n (x_read tp n)) (fun _ _ => False) 51 [some (.ref e), some (.int x), some (.ref t), some (.int y)] [] (sh, J, R, L, g) 0 0 := by
    refine am_rec 601 (fun k51 hk51 ih51 => ?_)
    intro y J hi51
    obtain ⟨hy, s9, T9, f9, hf9, hs9, hl9, hT9, hV⟩ := hi51
    clear hf46 hs46 hl46 hT46 hr46 hf42 hl42 hT42
    refine AW.iload_n dX6_read_51 rfl ?_
    refine AW.sipush 600 dX6_read_52 (by decide) ?_
    refine AW.icmp_gt 83 dX6_read_55 (by decide) (fun h55 => ?_) (fun h55 => ?_)
    · have hk7 : k51 = 601 := by
        rcases Nat.lt_or_ge k51 601 with h | h
        · exact absurd h55 (by rw [hy]; exact nI_nlt (b := k51) (a := 600) (by omega) (by decide))
        · omega
      refine AW.aload_n dX6_read_83 rfl ?_
      refine AW.getI (fX6_39 hG).r rfl (he.1 0 _ rfl) dX6_read_84 ?_
      exact AW.iret dX6_read_87 rfl (by decide) (by decide) (by
        have e9 : (s9, T9, f9) = x_read tp n := by
          rw [← hV, show 601 - k51 = 0 by omega]; rfl
        rw [← e9]
        exact ⟨congrArg (fun x => some (Value.int x)) hs9.1, J, rfl, hf9, hs9, hl9, hT9⟩)
    · have hk7 : k51 < 601 := by
        rcases Nat.lt_or_ge k51 601 with h | h
        · exact h
        · exact absurd (by rw [hy]; exact nI_lt (a := 600) (b := k51) (by omega) (by omega)) h55
      refine AW.aload_n dX6_read_58 rfl ?_
      refine AW.getI (fX6_39 hG).r rfl (he.1 0 _ rfl) dX6_read_59 ?_
      refine AW.if_ne 83 dX6_read_62 (by decide) (fun h62 => ?_) (fun h62 => ?_)
      · have q62 : ¬ s9.1 = 0 := fun h => h62 (hs9.1.trans h)
        refine AW.aload_n dX6_read_83 rfl ?_
        refine AW.getI (fX6_39 hG).r rfl (he.1 0 _ rfl) dX6_read_84 ?_
        exact AW.iret dX6_read_87 rfl (by decide) (by decide) (by
          have e9 : (s9, T9, f9) = x_read tp n := by
            rw [← hV, show 601 - k51 = (601 - (k51 + 1)) + 1 by omega]
            show _ = (if s9.1 = 0 ∧ ¬ x_tk tp n s9.2 = 0 then _ else _)
            rw [if_neg (fun h => q62 h.1)]
          rw [← e9]
          exact ⟨congrArg (fun x => some (Value.int x)) hs9.1, J, rfl, hf9, hs9, hl9, hT9⟩)
      · have q62 : s9.1 = 0 := hs9.1.symm.trans h62
        refine AW.aload_n dX6_read_65 rfl ?_
        refine AW.getI (fX6_55 hG).r rfl (he.1 0 _ rfl) dX6_read_66 ?_
        refine AW.if_eq 83 dX6_read_69 (by decide) (fun h69 => ?_) (fun h69 => ?_)
        · rw [hs9.2.2.2.2.2.1] at h69
          have q69 : x_tk tp n s9.2 = 0 := (x_tk_e (k := 0) (by decide)).mp h69
          refine AW.aload_n dX6_read_83 rfl ?_
          refine AW.getI (fX6_39 hG).r rfl (he.1 0 _ rfl) dX6_read_84 ?_
          exact AW.iret dX6_read_87 rfl (by decide) (by decide) (by
            have e9 : (s9, T9, f9) = x_read tp n := by
              rw [← hV, show 601 - k51 = (601 - (k51 + 1)) + 1 by omega]
              show _ = (if s9.1 = 0 ∧ ¬ x_tk tp n s9.2 = 0 then _ else _)
              rw [if_neg (fun h => h.2 q69)]
            rw [← e9]
            exact ⟨congrArg (fun x => some (Value.int x)) hs9.1, J, rfl, hf9, hs9, hl9, hT9⟩)
        · rw [hs9.2.2.2.2.2.1] at h69
          have q69 : ¬ x_tk tp n s9.2 = 0 := fun h => h69 ((x_tk_e (k := 0) (by decide)).mpr h)
          refine AW.aload_n dX6_read_72 rfl ?_
          refine AW.aload_n dX6_read_73 rfl ?_
          refine AW.callV (b := e) (As := [.ref t]) hG.2.2 (vX6_58 hG) (he.1 0 _ rfl) (k_X6_readLine hK (d := 52) (Nat.le_refl _) hr ht het hs9 hl9 (hT9 q62)) (by omega) dX6_read_74 rfl rfl (Nat.le_of_ble_eq_true rfl) (fun v w9 hq9 h09 => by obtain ⟨rfl, J9, rfl, -⟩ := hq9; exact ⟨h09, rfl⟩) (by decide) (by decide) (fun _ _ hx => hx) (fun v74 w74 hq74 => ?_)
          obtain ⟨rfl, I74, rfl, hg74, hs74, hl74, hT74⟩ := hq74
          have hf74 := k_ft_t (by assumption) hg74
          show AW G mX6_read d (fun v w => v = some (.int (x_read tp n).1.1) ∧ ∃ J, w = (sh, J, R, L, g) ∧ k_rt (am_up I e 2 (nI n)) J e t tp n (x_read tp n)) (fun _ _ => False) 77 [some (.ref e), some (.int x), some (.ref t), some (.int y)] [] (sh, I74, R, L, g) 0 0
          refine AW.inc (fun x77 => [some (.ref e), some (.int x), some (.ref t), some (.int x77)]) dX6_read_77 rfl (by decide) rfl (fun _ => rfl) (fun x77 ex77 => ?_)
          refine AW.goto 51 dX6_read_80 (by decide) ?_
          exact ih51 (k51 + 1) (by omega) (by omega) _ _ (⟨k_inc (by assumption) hy, _, _, _, hf74, hs74, hl74, hT74, by
            rw [← hV, show 601 - k51 = (601 - (k51 + 1)) + 1 by omega]
            show _ = (if s9.1 = 0 ∧ ¬ x_tk tp n s9.2 = 0 then _ else _)
            rw [if_pos ⟨q62, q69⟩]⟩)
  exact L51 0 (by omega) _ _ (⟨nI_0.symm, _, _, _, hf46, hs46, hl46, fun _ => hT46, rfl⟩)
theorem z_nb (z : Int32) : vp_nar .byte z.toInt8.toInt32 = z.toInt8.toInt32 := by unfold vp_nar; rw [pk_nb z]
def f_sh (k : Nat) : Int32 := if k = 0 then 24 else if k = 1 then 16 else if k = 2 then 8 else if k = 3 then 0 else -8
def f_apk (I : Nat → Nat → Int32) (e fd : Nat) (v : Int32) (k : Nat) : Nat → Nat → Int32 := am_up (am_uA I (e + 1) (lfold (fun j tp => upd tp (fd + j) ((v >>> (f_sh j &&& 31)).toInt8.toInt32)) (I (e + 1)) k)) e 1 (nI (fd + k))
theorem f_apk_0 {I : Nat → Nat → Int32} {e fd : Nat} {v : Int32} (h : I e 1 = nI fd) : f_apk I e fd v 0 = I := by
  unfold f_apk
  show am_up (am_uA I (e + 1) (I (e + 1))) e 1 (nI fd) = I
  rw [am_uA_id, ← h]
  funext a
  by_cases e1 : a = e
  · subst e1; rw [am_up_s]; funext j; unfold upd; by_cases e2 : j = 1
    · rw [if_pos e2, e2]
    · rw [if_neg e2]
  · rw [am_up_o _ _ _ _ e1]
theorem f_apk_s {I : Nat → Nat → Int32} {e fd : Nat} {v : Int32} {k : Nat} : am_up (am_up (f_apk I e fd v k) (e + 1) (fd + k) ((v >>> (f_sh k &&& 31)).toInt8.toInt32)) e 1 (nI (fd + (k + 1))) = f_apk I e fd v (k + 1) := by
  unfold f_apk
  funext a
  by_cases e1 : a = e
  · subst e1
    rw [am_up_s, am_up_s, am_up_o _ _ _ _ (by omega), am_up_s, am_uA_o _ _ _ (by omega), am_uA_o _ _ _ (by omega)]
    funext j; unfold upd; by_cases e2 : j = 1 <;> simp [e2]
  · rw [am_up_o _ _ _ _ e1, am_up_o (am_uA _ _ _) _ _ _ e1]
    by_cases e2 : a = e + 1
    · subst e2
      rw [am_up_s, am_up_o _ _ _ _ e1, am_uA_s, am_uA_s]
      rfl
    · rw [am_up_o _ _ _ _ e2, am_up_o _ _ _ _ e1, am_uA_o _ _ _ e2, am_uA_o _ _ _ e2]
theorem f_sh_n : ∀ k, k ≤ 4 → (f_sh k < 0 ↔ k = 4) := by
  intro k hk
  match k, hk with
  | 0, _ => decide
  | 1, _ => decide
  | 2, _ => decide
  | 3, _ => decide
  | 4, _ => decide
  | k + 5, h => omega
theorem f_sh_m : ∀ k, k < 4 → f_sh k + Int32.ofInt (-8) = f_sh (k + 1) := by
  intro k hk
  match k, hk with
  | 0, _ => decide
  | 1, _ => decide
  | 2, _ => decide
  | 3, _ => decide
  | k + 4, h => omega
theorem dX6_append_0 : decode cX6_append 0 = .ok (.bipush 24, 2) := by decide +kernel
theorem dX6_append_2 : decode cX6_append 2 = .ok (.istore_n 2, 1) := by decide +kernel
theorem dX6_append_3 : decode cX6_append 3 = .ok (.iload_n 2, 1) := by decide +kernel
theorem dX6_append_4 : decode cX6_append 4 = .ok (.ifCond .lt 42, 3) := by decide +kernel
theorem dX6_append_7 : decode cX6_append 7 = .ok (.aload_n 0, 1) := by decide +kernel
theorem dX6_append_8 : decode cX6_append 8 = .ok (.getfield 15, 3) := by decide +kernel
theorem dX6_append_11 : decode cX6_append 11 = .ok (.sipush 600, 3) := by decide +kernel
theorem dX6_append_14 : decode cX6_append 14 = .ok (.if_icmp .ge 26, 3) := by decide +kernel
theorem dX6_append_17 : decode cX6_append 17 = .ok (.aload_n 0, 1) := by decide +kernel
theorem dX6_append_18 : decode cX6_append 18 = .ok (.getfield 9, 3) := by decide +kernel
theorem dX6_append_21 : decode cX6_append 21 = .ok (.aload_n 0, 1) := by decide +kernel
theorem dX6_append_22 : decode cX6_append 22 = .ok (.getfield 15, 3) := by decide +kernel
theorem dX6_append_25 : decode cX6_append 25 = .ok (.iload_n 1, 1) := by decide +kernel
theorem dX6_append_26 : decode cX6_append 26 = .ok (.iload_n 2, 1) := by decide +kernel
theorem dX6_append_27 : decode cX6_append 27 = .ok (.ishr, 1) := by decide +kernel
theorem dX6_append_28 : decode cX6_append 28 = .ok (.i2b, 1) := by decide +kernel
theorem dX6_append_29 : decode cX6_append 29 = .ok (.bastore, 1) := by decide +kernel
theorem dX6_append_30 : decode cX6_append 30 = .ok (.aload_n 0, 1) := by decide +kernel
theorem dX6_append_31 : decode cX6_append 31 = .ok (.dup, 1) := by decide +kernel
theorem dX6_append_32 : decode cX6_append 32 = .ok (.getfield 15, 3) := by decide +kernel
theorem dX6_append_35 : decode cX6_append 35 = .ok (.iconst 1, 1) := by decide +kernel
theorem dX6_append_36 : decode cX6_append 36 = .ok (.iadd, 1) := by decide +kernel
theorem dX6_append_37 : decode cX6_append 37 = .ok (.putfield 15, 3) := by decide +kernel
theorem dX6_append_40 : decode cX6_append 40 = .ok (.iinc 2 (-8), 3) := by decide +kernel
theorem dX6_append_43 : decode cX6_append 43 = .ok (.goto (-40), 3) := by decide +kernel
theorem dX6_append_46 : decode cX6_append 46 = .ok (.return_, 1) := by decide +kernel
set_option maxRecDepth 100000 in
set_option maxHeartbeats 4000000 in
theorem k_X6_append {G : am_G} (hK : k_OK G) {d : Nat} (hd : 1 ≤ d) {sh : List (Nat ⊕ (Nat × Nat))} {I : Nat → Nat → Int32} {R : Nat → Nat → Option Nat} {L : Nat → Nat → Int64} {g : Nat} {e fd : Nat} (he : k_Reader sh R e) (hfd : I e 1 = nI fd) (hf6 : fd + 4 ≤ 600) (x9 : Int32) : AM G mX6_append d [.ref e, .int x9] (sh, I, R, L, g) (fun v w => v = none ∧ w = (sh, f_apk I e fd x9 4, R, L, g)) (fun _ _ => False) := by
  have hG := hK.1
  refine AM.of (n := 1) (by decide +kernel) (Nat.le_of_ble_eq_true rfl) ?_
  show AW G mX6_append d (fun v w => v = none ∧ w = (sh, f_apk I e fd x9 4, R, L, g)) (fun _ _ => False) 0 [some (.ref e), some (.int x9), none] [] (sh, I, R, L, g) 0 0
  refine AW.bipush 24 dX6_append_0 (by decide) ?_
  refine AW.is_n [some (.ref e), some (.int x9), some (.int 24)] dX6_append_2 (by decide) rfl rfl ?_
  have L3 : ∀ k3, k3 ≤ 4 → ∀ (y : Int32) (J : Nat → Nat → Int32), (y = f_sh k3 ∧ J = f_apk I e fd x9 k3) → AW G mX6_append d (fun v w => v = none ∧ w = (sh, f_apk I e fd x9 4, R, L, g)) (fun _ _ => False) 3 [some (.ref e), some (.int x9), some (.int y)] [] (sh, J, R, L, g) 0 0 := by
    refine am_rec 4 (fun k3 hk3 ih3 => ?_)
    intro y J hi3
    obtain ⟨hy, hJ⟩ := hi3
    have hJ1 : J e 1 = nI (fd + k3) := by rw [hJ]; unfold f_apk; exact up_eq
    refine AW.iload_n dX6_append_3 rfl ?_
    refine AW.if_lt 46 dX6_append_4 (by decide) (fun h4 => ?_) (fun h4 => ?_)
    · rw [hy] at h4
      have hk4 := (f_sh_n k3 hk3).mp h4
      exact AW.vret dX6_append_46 rfl (by decide) (by decide) (⟨rfl, by rw [hJ, hk4]⟩)
    · rw [hy] at h4
      have hlt : k3 < 4 := by have : ¬ k3 = 4 := fun h => h4 ((f_sh_n k3 hk3).mpr h); omega
      have hix : (J e 1).toNatClampNeg = fd + k3 := k_lit hJ1 (by omega)
      have hbx : vp_in (J e 1) 600 := by rw [hJ1]; exact vp_in_nI (by omega) (by decide)
      refine AW.aload_n dX6_append_7 rfl ?_
      refine AW.getI (fX6_15 hG).r rfl (he.1 0 _ rfl) dX6_append_8 ?_
      refine AW.sipush 600 dX6_append_11 (by decide) ?_
      refine AW.icmp_ge 40 dX6_append_14 (by decide) (fun h14 => ?_) (fun h14 => ?_)
      · exact absurd (nI_lel (m := fd + k3) (n := 600) rfl hJ1 (by omega) (by omega) |>.mp h14) (by omega)
      · refine AW.aload_n dX6_append_17 rfl ?_
        refine AW.getR (c' := (e + 1)) (fX6_9 hG).r rfl (he.1 0 _ rfl) (he.2 (0, 0, 1) (by decide)) dX6_append_18 ?_
        refine AW.aload_n dX6_append_21 rfl ?_
        refine AW.getI (fX6_15 hG).r rfl (he.1 0 _ rfl) dX6_append_22 ?_
        refine AW.iload_n dX6_append_25 rfl ?_
        refine AW.iload_n dX6_append_26 rfl ?_
        refine AW.ishr dX6_append_27 ?_
        refine AW.i2b dX6_append_28 ?_
        refine AW.bast (he.1 1 _ rfl) (by first | assumption | (unfold vp_in; decide) | exact vp_in_nI (by omega) (by decide)) dX6_append_29 ?_
        refine AW.namI (fun I29 eI29 => ?_)
        refine AW.aload_n dX6_append_30 rfl ?_
        refine AW.dup dX6_append_31 rfl ?_
        refine AW.getI (fX6_15 hG).r rfl (he.1 0 _ rfl) dX6_append_32 ?_
        refine AW.iconst 1 dX6_append_35 (by decide) ?_
        refine AW.iadd dX6_append_36 ?_
        have up_ot : I29 e 1 = J e 1 := by rw [eI29, am_up_o _ _ _ _ (by omega)]
        refine AW.putI (fX6_15 hG) rfl (vp_nar_int _) rfl (he.1 0 _ rfl) dX6_append_37 ?_
        refine AW.namI (fun I37 eI37 => ?_)
        refine AW.inc (fun x40 => [some (.ref e), some (.int x9), some (.int x40)]) dX6_append_40 rfl (by decide) rfl (fun _ => rfl) (fun x40 ex40 => ?_)
        refine AW.goto 3 dX6_append_43 (by decide) ?_
        exact ih3 (k3 + 1) (by omega) (by omega) _ _ (⟨by rw [ex40, hy]; exact f_sh_m _ hlt, by
          rw [eI37, up_ot, hJ1, nI_1, eI29, hix]
          have e9 : vp_nar .byte ((x9 >>> (y &&& 31)).toInt8.toInt32) = (x9 >>> (f_sh k3 &&& 31)).toInt8.toInt32 := by rw [hy]; exact z_nb _
          rw [e9, hJ]; exact f_apk_s⟩)
  exact L3 0 (by omega) _ _ (⟨rfl, (f_apk_0 hfd).symm⟩)
