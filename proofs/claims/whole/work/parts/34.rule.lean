/-! RULE -/
def f_jn (s a b : Int32) : Int32 := if s = -8 then a * b else if s = -7 then a - b else if s = -6 then a + b else if s = -5 then kb (decide (a = b)) else if s = -4 then kb (decide (a < b)) else if s = -2 then kb (decide (¬ a = 0) && decide (¬ b = 0)) else if s = -1 then kb (decide (¬ a = 0) || decide (¬ b = 0)) else if b = 0 then 0 else a / b
def f_vo (vs : Nat → Int32) (i : Int32) : Int32 := if i < 0 ∨ 6 ≤ i then 0 else vs i.toNatClampNeg
def f_ev1 (vs : Nat → Int32) (s : Int32) (q : Nat × (Nat → Int32)) : Nat × (Nat → Int32) :=
  if 0 ≤ s ∨ ¬ -10 < s then (if 64 ≤ nI q.1 then q else (q.1 + 1, upd q.2 q.1 (if s < 0 then f_vo vs (-10 - s) else s)))
  else if ¬ s = -3 then (if nI q.1 < 2 then q else (q.1 - 1, upd q.2 (q.1 - 2) (f_jn s (q.2 (q.1 - 2)) (q.2 (q.1 - 1)))))
  else if nI q.1 < 1 then q else (q.1, upd q.2 (q.1 - 1) (if ¬ q.2 (q.1 - 1) = 0 then 0 else 1))
def f_ev (vs ss S0 : Nat → Int32) (k : Nat) : Nat × (Nat → Int32) := lfold (fun j q => f_ev1 vs (ss j) q) (0, S0) k
theorem dX7_joined_0 : decode cX7_joined 0 = .ok (.iload_n 0, 1) := by decide +kernel
theorem dX7_joined_1 : decode cX7_joined 1 = .ok (.tableswitch 109 (-8) (-1) #[105, 101, 97, 86, 75, 109, 61, 47], 47) := by decide +kernel
theorem dX7_joined_48 : decode cX7_joined 48 = .ok (.iload_n 1, 1) := by decide +kernel
theorem dX7_joined_49 : decode cX7_joined 49 = .ok (.ifCond .ne 7, 3) := by decide +kernel
theorem dX7_joined_52 : decode cX7_joined 52 = .ok (.iload_n 2, 1) := by decide +kernel
theorem dX7_joined_53 : decode cX7_joined 53 = .ok (.ifCond .eq 7, 3) := by decide +kernel
theorem dX7_joined_56 : decode cX7_joined 56 = .ok (.iconst 1, 1) := by decide +kernel
theorem dX7_joined_57 : decode cX7_joined 57 = .ok (.goto 4, 3) := by decide +kernel
theorem dX7_joined_60 : decode cX7_joined 60 = .ok (.iconst 0, 1) := by decide +kernel
theorem dX7_joined_61 : decode cX7_joined 61 = .ok (.ireturn, 1) := by decide +kernel
theorem dX7_joined_62 : decode cX7_joined 62 = .ok (.iload_n 1, 1) := by decide +kernel
theorem dX7_joined_63 : decode cX7_joined 63 = .ok (.ifCond .eq 11, 3) := by decide +kernel
theorem dX7_joined_66 : decode cX7_joined 66 = .ok (.iload_n 2, 1) := by decide +kernel
theorem dX7_joined_67 : decode cX7_joined 67 = .ok (.ifCond .eq 7, 3) := by decide +kernel
theorem dX7_joined_70 : decode cX7_joined 70 = .ok (.iconst 1, 1) := by decide +kernel
theorem dX7_joined_71 : decode cX7_joined 71 = .ok (.goto 4, 3) := by decide +kernel
theorem dX7_joined_74 : decode cX7_joined 74 = .ok (.iconst 0, 1) := by decide +kernel
theorem dX7_joined_75 : decode cX7_joined 75 = .ok (.ireturn, 1) := by decide +kernel
theorem dX7_joined_76 : decode cX7_joined 76 = .ok (.iload_n 1, 1) := by decide +kernel
theorem dX7_joined_77 : decode cX7_joined 77 = .ok (.iload_n 2, 1) := by decide +kernel
theorem dX7_joined_78 : decode cX7_joined 78 = .ok (.if_icmp .ge 7, 3) := by decide +kernel
theorem dX7_joined_81 : decode cX7_joined 81 = .ok (.iconst 1, 1) := by decide +kernel
theorem dX7_joined_82 : decode cX7_joined 82 = .ok (.goto 4, 3) := by decide +kernel
theorem dX7_joined_85 : decode cX7_joined 85 = .ok (.iconst 0, 1) := by decide +kernel
theorem dX7_joined_86 : decode cX7_joined 86 = .ok (.ireturn, 1) := by decide +kernel
theorem dX7_joined_87 : decode cX7_joined 87 = .ok (.iload_n 1, 1) := by decide +kernel
theorem dX7_joined_88 : decode cX7_joined 88 = .ok (.iload_n 2, 1) := by decide +kernel
theorem dX7_joined_89 : decode cX7_joined 89 = .ok (.if_icmp .ne 7, 3) := by decide +kernel
theorem dX7_joined_92 : decode cX7_joined 92 = .ok (.iconst 1, 1) := by decide +kernel
theorem dX7_joined_93 : decode cX7_joined 93 = .ok (.goto 4, 3) := by decide +kernel
theorem dX7_joined_96 : decode cX7_joined 96 = .ok (.iconst 0, 1) := by decide +kernel
theorem dX7_joined_97 : decode cX7_joined 97 = .ok (.ireturn, 1) := by decide +kernel
theorem dX7_joined_98 : decode cX7_joined 98 = .ok (.iload_n 1, 1) := by decide +kernel
theorem dX7_joined_99 : decode cX7_joined 99 = .ok (.iload_n 2, 1) := by decide +kernel
theorem dX7_joined_100 : decode cX7_joined 100 = .ok (.iadd, 1) := by decide +kernel
theorem dX7_joined_101 : decode cX7_joined 101 = .ok (.ireturn, 1) := by decide +kernel
theorem dX7_joined_102 : decode cX7_joined 102 = .ok (.iload_n 1, 1) := by decide +kernel
theorem dX7_joined_103 : decode cX7_joined 103 = .ok (.iload_n 2, 1) := by decide +kernel
theorem dX7_joined_104 : decode cX7_joined 104 = .ok (.isub, 1) := by decide +kernel
theorem dX7_joined_105 : decode cX7_joined 105 = .ok (.ireturn, 1) := by decide +kernel
theorem dX7_joined_106 : decode cX7_joined 106 = .ok (.iload_n 1, 1) := by decide +kernel
theorem dX7_joined_107 : decode cX7_joined 107 = .ok (.iload_n 2, 1) := by decide +kernel
theorem dX7_joined_108 : decode cX7_joined 108 = .ok (.imul, 1) := by decide +kernel
theorem dX7_joined_109 : decode cX7_joined 109 = .ok (.ireturn, 1) := by decide +kernel
theorem dX7_joined_110 : decode cX7_joined 110 = .ok (.iload_n 2, 1) := by decide +kernel
theorem dX7_joined_111 : decode cX7_joined 111 = .ok (.ifCond .ne 7, 3) := by decide +kernel
theorem dX7_joined_114 : decode cX7_joined 114 = .ok (.iconst 0, 1) := by decide +kernel
theorem dX7_joined_115 : decode cX7_joined 115 = .ok (.goto 6, 3) := by decide +kernel
theorem dX7_joined_118 : decode cX7_joined 118 = .ok (.iload_n 1, 1) := by decide +kernel
theorem dX7_joined_119 : decode cX7_joined 119 = .ok (.iload_n 2, 1) := by decide +kernel
theorem dX7_joined_120 : decode cX7_joined 120 = .ok (.idiv, 1) := by decide +kernel
theorem dX7_joined_121 : decode cX7_joined 121 = .ok (.ireturn, 1) := by decide +kernel
set_option maxRecDepth 100000 in
set_option maxHeartbeats 4000000 in
theorem k_X7_joined {G : am_G} (hK : k_OK G) {d : Nat} (hd : 0 ≤ d) {sh : List (Nat ⊕ (Nat × Nat))} {I : Nat → Nat → Int32} {R : Nat → Nat → Option Nat} {L : Nat → Nat → Int64} {g : Nat} (s a b : Int32) : AM G mX7_joined d [.int s, .int a, .int b] (sh, I, R, L, g) (fun v w => v = some (.int (f_jn s a b)) ∧ w = (sh, I, R, L, g)) (fun _ _ => False) := by
  have hG := hK.1
  refine AM.of (n := 0) (by decide +kernel) (Nat.le_of_ble_eq_true rfl) ?_
  show AW G mX7_joined d (fun v w => v = some (.int (f_jn s a b)) ∧ w = (sh, I, R, L, g)) (fun _ _ => False) 0 [some (.int s), some (.int a), some (.int b)] [] (sh, I, R, L, g) 0 0
  refine AW.iload_n dX7_joined_0 rfl ?_
  refine AW.nam (fun x1 ex1 => ?_)
  by_cases hs1_0 : x1 = (-8)
  · subst hs1_0
    refine AW.tabIn 106 dX7_joined_1 (by decide) (by decide) rfl (by decide) ?_
    refine AW.iload_n dX7_joined_106 rfl ?_
    refine AW.iload_n dX7_joined_107 rfl ?_
    refine AW.imul dX7_joined_108 ?_
    exact AW.iret dX7_joined_109 rfl (by decide) (by decide) (⟨by subst_vars; simp [f_jn, kb, *], rfl⟩)
  by_cases hs1_1 : x1 = (-7)
  · subst hs1_1
    refine AW.tabIn 102 dX7_joined_1 (by decide) (by decide) rfl (by decide) ?_
    refine AW.iload_n dX7_joined_102 rfl ?_
    refine AW.iload_n dX7_joined_103 rfl ?_
    refine AW.isub dX7_joined_104 ?_
    exact AW.iret dX7_joined_105 rfl (by decide) (by decide) (⟨by subst_vars; simp [f_jn, kb, *], rfl⟩)
  by_cases hs1_2 : x1 = (-6)
  · subst hs1_2
    refine AW.tabIn 98 dX7_joined_1 (by decide) (by decide) rfl (by decide) ?_
    refine AW.iload_n dX7_joined_98 rfl ?_
    refine AW.iload_n dX7_joined_99 rfl ?_
    refine AW.iadd dX7_joined_100 ?_
    exact AW.iret dX7_joined_101 rfl (by decide) (by decide) (⟨by subst_vars; simp [f_jn, kb, *], rfl⟩)
  by_cases hs1_3 : x1 = (-5)
  · subst hs1_3
    refine AW.tabIn 87 dX7_joined_1 (by decide) (by decide) rfl (by decide) ?_
    refine AW.iload_n dX7_joined_87 rfl ?_
    refine AW.iload_n dX7_joined_88 rfl ?_
    refine AW.icmp_ne 96 dX7_joined_89 (by decide) (fun h89 => ?_) (fun h89 => ?_)
    · refine AW.iconst 0 dX7_joined_96 (by decide) ?_
      exact AW.iret dX7_joined_97 rfl (by decide) (by decide) (⟨by subst_vars; simp [f_jn, kb, *], rfl⟩)
    · refine AW.iconst 1 dX7_joined_92 (by decide) ?_
      refine AW.goto 97 dX7_joined_93 (by decide) ?_
      exact AW.iret dX7_joined_97 rfl (by decide) (by decide) (⟨by subst_vars; simp [f_jn, kb, *], rfl⟩)
  by_cases hs1_4 : x1 = (-4)
  · subst hs1_4
    refine AW.tabIn 76 dX7_joined_1 (by decide) (by decide) rfl (by decide) ?_
    refine AW.iload_n dX7_joined_76 rfl ?_
    refine AW.iload_n dX7_joined_77 rfl ?_
    refine AW.icmp_ge 85 dX7_joined_78 (by decide) (fun h78 => ?_) (fun h78 => ?_)
    · refine AW.iconst 0 dX7_joined_85 (by decide) ?_
      exact AW.iret dX7_joined_86 rfl (by decide) (by decide) (⟨by subst_vars; simp [f_jn, kb, *], rfl⟩)
    · refine AW.iconst 1 dX7_joined_81 (by decide) ?_
      refine AW.goto 86 dX7_joined_82 (by decide) ?_
      exact AW.iret dX7_joined_86 rfl (by decide) (by decide) (⟨by subst_vars; simp [f_jn, kb, *], rfl⟩)
  by_cases hs1_5 : x1 = (-3)
  · subst hs1_5
    refine AW.tabIn 110 dX7_joined_1 (by decide) (by decide) rfl (by decide) ?_
    refine AW.iload_n dX7_joined_110 rfl ?_
    refine AW.if_ne 118 dX7_joined_111 (by decide) (fun h111 => ?_) (fun h111 => ?_)
    · refine AW.iload_n dX7_joined_118 rfl ?_
      refine AW.iload_n dX7_joined_119 rfl ?_
      refine AW.idiv dX7_joined_120 h111 ?_
      exact AW.iret dX7_joined_121 rfl (by decide) (by decide) (⟨by subst_vars; simp [f_jn, kb, *], rfl⟩)
    · refine AW.iconst 0 dX7_joined_114 (by decide) ?_
      refine AW.goto 121 dX7_joined_115 (by decide) ?_
      exact AW.iret dX7_joined_121 rfl (by decide) (by decide) (⟨by subst_vars; simp [f_jn, kb, *], rfl⟩)
  by_cases hs1_6 : x1 = (-2)
  · subst hs1_6
    refine AW.tabIn 62 dX7_joined_1 (by decide) (by decide) rfl (by decide) ?_
    refine AW.iload_n dX7_joined_62 rfl ?_
    refine AW.if_eq 74 dX7_joined_63 (by decide) (fun h63 => ?_) (fun h63 => ?_)
    · refine AW.iconst 0 dX7_joined_74 (by decide) ?_
      exact AW.iret dX7_joined_75 rfl (by decide) (by decide) (⟨by subst_vars; simp [f_jn, kb, *], rfl⟩)
    · refine AW.iload_n dX7_joined_66 rfl ?_
      refine AW.if_eq 74 dX7_joined_67 (by decide) (fun h67 => ?_) (fun h67 => ?_)
      · refine AW.iconst 0 dX7_joined_74 (by decide) ?_
        exact AW.iret dX7_joined_75 rfl (by decide) (by decide) (⟨by subst_vars; simp [f_jn, kb, *], rfl⟩)
      · refine AW.iconst 1 dX7_joined_70 (by decide) ?_
        refine AW.goto 75 dX7_joined_71 (by decide) ?_
        exact AW.iret dX7_joined_75 rfl (by decide) (by decide) (⟨by subst_vars; simp [f_jn, kb, *], rfl⟩)
  by_cases hs1_7 : x1 = (-1)
  · subst hs1_7
    refine AW.tabIn 48 dX7_joined_1 (by decide) (by decide) rfl (by decide) ?_
    refine AW.iload_n dX7_joined_48 rfl ?_
    refine AW.if_ne 56 dX7_joined_49 (by decide) (fun h49 => ?_) (fun h49 => ?_)
    · refine AW.iconst 1 dX7_joined_56 (by decide) ?_
      refine AW.goto 61 dX7_joined_57 (by decide) ?_
      exact AW.iret dX7_joined_61 rfl (by decide) (by decide) (⟨by subst_vars; simp [f_jn, kb, *], rfl⟩)
    · refine AW.iload_n dX7_joined_52 rfl ?_
      refine AW.if_eq 60 dX7_joined_53 (by decide) (fun h53 => ?_) (fun h53 => ?_)
      · refine AW.iconst 0 dX7_joined_60 (by decide) ?_
        exact AW.iret dX7_joined_61 rfl (by decide) (by decide) (⟨by subst_vars; simp [f_jn, kb, *], rfl⟩)
      · refine AW.iconst 1 dX7_joined_56 (by decide) ?_
        refine AW.goto 61 dX7_joined_57 (by decide) ?_
        exact AW.iret dX7_joined_61 rfl (by decide) (by decide) (⟨by subst_vars; simp [f_jn, kb, *], rfl⟩)
  have ht1 : x1.toInt < -8 ∨ -1 < x1.toInt := by
    have h90 : ¬ x1.toInt = -8 := fun h => hs1_0 (Int32.toInt_inj.mp (h.trans (by decide)))
    have h91 : ¬ x1.toInt = -7 := fun h => hs1_1 (Int32.toInt_inj.mp (h.trans (by decide)))
    have h92 : ¬ x1.toInt = -6 := fun h => hs1_2 (Int32.toInt_inj.mp (h.trans (by decide)))
    have h93 : ¬ x1.toInt = -5 := fun h => hs1_3 (Int32.toInt_inj.mp (h.trans (by decide)))
    have h94 : ¬ x1.toInt = -4 := fun h => hs1_4 (Int32.toInt_inj.mp (h.trans (by decide)))
    have h95 : ¬ x1.toInt = -3 := fun h => hs1_5 (Int32.toInt_inj.mp (h.trans (by decide)))
    have h96 : ¬ x1.toInt = -2 := fun h => hs1_6 (Int32.toInt_inj.mp (h.trans (by decide)))
    have h97 : ¬ x1.toInt = -1 := fun h => hs1_7 (Int32.toInt_inj.mp (h.trans (by decide)))
    omega
  refine AW.tabOut 110 dX7_joined_1 ht1 (by decide) ?_
  refine AW.iload_n dX7_joined_110 rfl ?_
  refine AW.if_ne 118 dX7_joined_111 (by decide) (fun h111 => ?_) (fun h111 => ?_)
  · refine AW.iload_n dX7_joined_118 rfl ?_
    refine AW.iload_n dX7_joined_119 rfl ?_
    refine AW.idiv dX7_joined_120 h111 ?_
    exact AW.iret dX7_joined_121 rfl (by decide) (by decide) (⟨by subst_vars; simp [f_jn, kb, *], rfl⟩)
  · refine AW.iconst 0 dX7_joined_114 (by decide) ?_
    refine AW.goto 121 dX7_joined_115 (by decide) ?_
    exact AW.iret dX7_joined_121 rfl (by decide) (by decide) (⟨by subst_vars; simp [f_jn, kb, *], rfl⟩)
theorem dX7_valueOf_0 : decode cX7_valueOf 0 = .ok (.iload_n 1, 1) := by decide +kernel
theorem dX7_valueOf_1 : decode cX7_valueOf 1 = .ok (.ifCond .lt 15, 3) := by decide +kernel
theorem dX7_valueOf_4 : decode cX7_valueOf 4 = .ok (.iload_n 1, 1) := by decide +kernel
theorem dX7_valueOf_5 : decode cX7_valueOf 5 = .ok (.aload_n 0, 1) := by decide +kernel
theorem dX7_valueOf_6 : decode cX7_valueOf 6 = .ok (.arraylength, 1) := by decide +kernel
theorem dX7_valueOf_7 : decode cX7_valueOf 7 = .ok (.if_icmp .ge 9, 3) := by decide +kernel
theorem dX7_valueOf_10 : decode cX7_valueOf 10 = .ok (.aload_n 0, 1) := by decide +kernel
theorem dX7_valueOf_11 : decode cX7_valueOf 11 = .ok (.iload_n 1, 1) := by decide +kernel
theorem dX7_valueOf_12 : decode cX7_valueOf 12 = .ok (.iaload, 1) := by decide +kernel
theorem dX7_valueOf_13 : decode cX7_valueOf 13 = .ok (.goto 4, 3) := by decide +kernel
theorem dX7_valueOf_16 : decode cX7_valueOf 16 = .ok (.iconst 0, 1) := by decide +kernel
theorem dX7_valueOf_17 : decode cX7_valueOf 17 = .ok (.ireturn, 1) := by decide +kernel
set_option maxRecDepth 100000 in
set_option maxHeartbeats 4000000 in
theorem k_X7_valueOf {G : am_G} (hK : k_OK G) {d : Nat} (hd : 0 ≤ d) {sh : List (Nat ⊕ (Nat × Nat))} {I : Nat → Nat → Int32} {R : Nat → Nat → Option Nat} {L : Nat → Nat → Int64} {g : Nat} {c : Nat} (hs : sh[c]? = some (.inr (0, 6))) (x : Int32) : AM G mX7_valueOf d [.ref c, .int x] (sh, I, R, L, g) (fun v w => v = some (.int (f_vo (I c) x)) ∧ w = (sh, I, R, L, g)) (fun _ _ => False) := by
  have hG := hK.1
  refine AM.of (n := 0) (by decide +kernel) (Nat.le_of_ble_eq_true rfl) ?_
  show AW G mX7_valueOf d (fun v w => v = some (.int (f_vo (I c) x)) ∧ w = (sh, I, R, L, g)) (fun _ _ => False) 0 [some (.ref c), some (.int x)] [] (sh, I, R, L, g) 0 0
  refine AW.iload_n dX7_valueOf_0 rfl ?_
  refine AW.if_lt 16 dX7_valueOf_1 (by decide) (fun h1 => ?_) (fun h1 => ?_)
  · refine AW.iconst 0 dX7_valueOf_16 (by decide) ?_
    exact AW.iret dX7_valueOf_17 rfl (by decide) (by decide) (⟨by rw [f_vo, if_pos (Or.inl h1)], rfl⟩)
  · refine AW.iload_n dX7_valueOf_4 rfl ?_
    refine AW.aload_n dX7_valueOf_5 rfl ?_
    refine AW.alen (v := 6) hs (by decide) (by decide) dX7_valueOf_6 ?_
    refine AW.icmp_ge 16 dX7_valueOf_7 (by decide) (fun h7 => ?_) (fun h7 => ?_)
    · refine AW.iconst 0 dX7_valueOf_16 (by decide) ?_
      exact AW.iret dX7_valueOf_17 rfl (by decide) (by decide) (⟨by rw [f_vo, if_pos (Or.inr h7)], rfl⟩)
    · refine AW.aload_n dX7_valueOf_10 rfl ?_
      refine AW.iload_n dX7_valueOf_11 rfl ?_
      refine AW.iald hs (by rcases pk_ix x (n := 6) (by decide) with h | h | ⟨j, hj, e⟩; exact absurd h h1; exact absurd h h7; rw [e]; exact vp_in_nI hj (by decide)) dX7_valueOf_12 ?_
      refine AW.goto 17 dX7_valueOf_13 (by decide) ?_
      exact AW.iret dX7_valueOf_17 rfl (by decide) (by decide) (⟨by rw [f_vo, if_neg (by rintro (h | h); exact h1 h; exact h7 h)], rfl⟩)
theorem dX7_add_0 : decode cX7_add 0 = .ok (.aload_n 0, 1) := by decide +kernel
theorem dX7_add_1 : decode cX7_add 1 = .ok (.getfield 18, 3) := by decide +kernel
theorem dX7_add_4 : decode cX7_add 4 = .ok (.sipush 600, 3) := by decide +kernel
theorem dX7_add_7 : decode cX7_add 7 = .ok (.if_icmp .ge 23, 3) := by decide +kernel
theorem dX7_add_10 : decode cX7_add 10 = .ok (.aload_n 0, 1) := by decide +kernel
theorem dX7_add_11 : decode cX7_add 11 = .ok (.getfield 9, 3) := by decide +kernel
theorem dX7_add_14 : decode cX7_add 14 = .ok (.aload_n 0, 1) := by decide +kernel
theorem dX7_add_15 : decode cX7_add 15 = .ok (.getfield 18, 3) := by decide +kernel
theorem dX7_add_18 : decode cX7_add 18 = .ok (.iload_n 1, 1) := by decide +kernel
theorem dX7_add_19 : decode cX7_add 19 = .ok (.iastore, 1) := by decide +kernel
theorem dX7_add_20 : decode cX7_add 20 = .ok (.aload_n 0, 1) := by decide +kernel
theorem dX7_add_21 : decode cX7_add 21 = .ok (.dup, 1) := by decide +kernel
theorem dX7_add_22 : decode cX7_add 22 = .ok (.getfield 18, 3) := by decide +kernel
theorem dX7_add_25 : decode cX7_add 25 = .ok (.iconst 1, 1) := by decide +kernel
theorem dX7_add_26 : decode cX7_add 26 = .ok (.iadd, 1) := by decide +kernel
theorem dX7_add_27 : decode cX7_add 27 = .ok (.putfield 18, 3) := by decide +kernel
theorem dX7_add_30 : decode cX7_add 30 = .ok (.return_, 1) := by decide +kernel
set_option maxRecDepth 100000 in
set_option maxHeartbeats 4000000 in
theorem k_X7_add {G : am_G} (hK : k_OK G) {d : Nat} (hd : 0 ≤ d) {sh : List (Nat ⊕ (Nat × Nat))} {I : Nat → Nat → Int32} {R : Nat → Nat → Option Nat} {L : Nat → Nat → Int64} {g : Nat} {u k : Nat} (hu : k_Rule sh R u) (hk : I u 2 = nI k) (hk6 : k ≤ 600) (x : Int32) : AM G mX7_add d [.ref u, .int x] (sh, I, R, L, g) (fun v w => v = none ∧ w = (sh, (if k < 600 then am_uA (am_uA I (u + 1) (upd (I (u + 1)) k x)) u (upd (I u) 2 (nI (k + 1))) else I), R, L, g)) (fun _ _ => False) := by
  have hG := hK.1
  have hck := k_lit hk (by omega)
  refine AM.of (n := 0) (by decide +kernel) (Nat.le_of_ble_eq_true rfl) ?_
  show AW G mX7_add d (fun v w => v = none ∧ w = (sh, (if k < 600 then am_uA (am_uA I (u + 1) (upd (I (u + 1)) k x)) u (upd (I u) 2 (nI (k + 1))) else I), R, L, g)) (fun _ _ => False) 0 [some (.ref u), some (.int x)] [] (sh, I, R, L, g) 0 0
  refine AW.aload_n dX7_add_0 rfl ?_
  refine AW.getI (fX7_18 hG).r rfl (hu.1 0 _ rfl) dX7_add_1 ?_
  refine AW.sipush 600 dX7_add_4 (by decide) ?_
  refine AW.icmp_ge 30 dX7_add_7 (by decide) (fun h7 => ?_) (fun h7 => ?_)
  · have hk9 : ¬ k < 600 := by have := (nI_lel (n := 600) rfl hk (by decide) (by omega)).mp h7; omega
    exact AW.vret dX7_add_30 rfl (by decide) (by decide) (⟨rfl, by rw [if_neg hk9]⟩)
  · have hk9 : k < 600 := by
      rcases Nat.lt_or_ge k 600 with h | h
      · exact h
      · exact absurd ((nI_lel (n := 600) rfl hk (by decide) (by omega)).mpr h) h7
    have hbk : vp_in (I u 2) 600 := by rw [hk]; exact vp_in_nI hk9 (by decide)
    refine AW.aload_n dX7_add_10 rfl ?_
    refine AW.getR (c' := (u + 1)) (fX7_9 hG).r rfl (hu.1 0 _ rfl) (hu.2 (0, 0, 1) (by decide)) dX7_add_11 ?_
    refine AW.aload_n dX7_add_14 rfl ?_
    refine AW.getI (fX7_18 hG).r rfl (hu.1 0 _ rfl) dX7_add_15 ?_
    refine AW.iload_n dX7_add_18 rfl ?_
    refine AW.iast (hu.1 1 _ rfl) (by first | assumption | (unfold vp_in; decide) | exact vp_in_nI (by omega) (by decide)) dX7_add_19 ?_
    refine AW.namI (fun I19 eI19 => ?_)
    refine AW.aload_n dX7_add_20 rfl ?_
    refine AW.dup dX7_add_21 rfl ?_
    refine AW.getI (fX7_18 hG).r rfl (hu.1 0 _ rfl) dX7_add_22 ?_
    refine AW.iconst 1 dX7_add_25 (by decide) ?_
    refine AW.iadd dX7_add_26 ?_
    refine AW.putI (fX7_18 hG) rfl (vp_nar_int _) rfl (hu.1 0 _ rfl) dX7_add_27 ?_
    refine AW.namI (fun I27 eI27 => ?_)
    exact AW.vret dX7_add_30 rfl (by decide) (by decide) (⟨rfl, by rw [if_pos hk9, eI27, eI19, hck]; simp (disch := omega) only [am_up_uA, am_uA_s, am_uA_o, am_uA_uA]; rw [hk, nI_1]⟩)
theorem dX7_evaluate_0 : decode cX7_evaluate 0 = .ok (.iconst 0, 1) := by decide +kernel
theorem dX7_evaluate_1 : decode cX7_evaluate 1 = .ok (.istore_n 2, 1) := by decide +kernel
theorem dX7_evaluate_2 : decode cX7_evaluate 2 = .ok (.iconst 0, 1) := by decide +kernel
theorem dX7_evaluate_3 : decode cX7_evaluate 3 = .ok (.istore_n 3, 1) := by decide +kernel
theorem dX7_evaluate_4 : decode cX7_evaluate 4 = .ok (.iload_n 3, 1) := by decide +kernel
theorem dX7_evaluate_5 : decode cX7_evaluate 5 = .ok (.aload_n 0, 1) := by decide +kernel
theorem dX7_evaluate_6 : decode cX7_evaluate 6 = .ok (.getfield 18, 3) := by decide +kernel
theorem dX7_evaluate_9 : decode cX7_evaluate 9 = .ok (.if_icmp .ge 140, 3) := by decide +kernel
theorem dX7_evaluate_12 : decode cX7_evaluate 12 = .ok (.aload_n 0, 1) := by decide +kernel
theorem dX7_evaluate_13 : decode cX7_evaluate 13 = .ok (.getfield 9, 3) := by decide +kernel
theorem dX7_evaluate_16 : decode cX7_evaluate 16 = .ok (.iload_n 3, 1) := by decide +kernel
theorem dX7_evaluate_17 : decode cX7_evaluate 17 = .ok (.iaload, 1) := by decide +kernel
theorem dX7_evaluate_18 : decode cX7_evaluate 18 = .ok (.istore 4, 2) := by decide +kernel
theorem dX7_evaluate_20 : decode cX7_evaluate 20 = .ok (.iload 4, 2) := by decide +kernel
theorem dX7_evaluate_22 : decode cX7_evaluate 22 = .ok (.ifCond .ge 10, 3) := by decide +kernel
theorem dX7_evaluate_25 : decode cX7_evaluate 25 = .ok (.iload 4, 2) := by decide +kernel
theorem dX7_evaluate_27 : decode cX7_evaluate 27 = .ok (.bipush (-10), 2) := by decide +kernel
theorem dX7_evaluate_29 : decode cX7_evaluate 29 = .ok (.if_icmp .gt 40, 3) := by decide +kernel
theorem dX7_evaluate_32 : decode cX7_evaluate 32 = .ok (.iload_n 2, 1) := by decide +kernel
theorem dX7_evaluate_33 : decode cX7_evaluate 33 = .ok (.bipush 64, 2) := by decide +kernel
theorem dX7_evaluate_35 : decode cX7_evaluate 35 = .ok (.if_icmp .ge 108, 3) := by decide +kernel
theorem dX7_evaluate_38 : decode cX7_evaluate 38 = .ok (.aload_n 0, 1) := by decide +kernel
theorem dX7_evaluate_39 : decode cX7_evaluate 39 = .ok (.getfield 15, 3) := by decide +kernel
theorem dX7_evaluate_42 : decode cX7_evaluate 42 = .ok (.iload_n 2, 1) := by decide +kernel
theorem dX7_evaluate_43 : decode cX7_evaluate 43 = .ok (.iload 4, 2) := by decide +kernel
theorem dX7_evaluate_45 : decode cX7_evaluate 45 = .ok (.ifCond .lt 8, 3) := by decide +kernel
theorem dX7_evaluate_48 : decode cX7_evaluate 48 = .ok (.iload 4, 2) := by decide +kernel
theorem dX7_evaluate_50 : decode cX7_evaluate 50 = .ok (.goto 12, 3) := by decide +kernel
theorem dX7_evaluate_53 : decode cX7_evaluate 53 = .ok (.aload_n 1, 1) := by decide +kernel
theorem dX7_evaluate_54 : decode cX7_evaluate 54 = .ok (.bipush (-10), 2) := by decide +kernel
theorem dX7_evaluate_56 : decode cX7_evaluate 56 = .ok (.iload 4, 2) := by decide +kernel
theorem dX7_evaluate_58 : decode cX7_evaluate 58 = .ok (.isub, 1) := by decide +kernel
theorem dX7_evaluate_59 : decode cX7_evaluate 59 = .ok (.invokestatic 22, 3) := by decide +kernel
theorem dX7_evaluate_62 : decode cX7_evaluate 62 = .ok (.iastore, 1) := by decide +kernel
theorem dX7_evaluate_63 : decode cX7_evaluate 63 = .ok (.iinc 2 1, 3) := by decide +kernel
theorem dX7_evaluate_66 : decode cX7_evaluate 66 = .ok (.goto 77, 3) := by decide +kernel
theorem dX7_evaluate_69 : decode cX7_evaluate 69 = .ok (.iload 4, 2) := by decide +kernel
theorem dX7_evaluate_71 : decode cX7_evaluate 71 = .ok (.bipush (-3), 2) := by decide +kernel
theorem dX7_evaluate_73 : decode cX7_evaluate 73 = .ok (.if_icmp .ne 35, 3) := by decide +kernel
theorem dX7_evaluate_76 : decode cX7_evaluate 76 = .ok (.iload_n 2, 1) := by decide +kernel
theorem dX7_evaluate_77 : decode cX7_evaluate 77 = .ok (.iconst 1, 1) := by decide +kernel
theorem dX7_evaluate_78 : decode cX7_evaluate 78 = .ok (.if_icmp .lt 65, 3) := by decide +kernel
theorem dX7_evaluate_81 : decode cX7_evaluate 81 = .ok (.aload_n 0, 1) := by decide +kernel
theorem dX7_evaluate_82 : decode cX7_evaluate 82 = .ok (.getfield 15, 3) := by decide +kernel
theorem dX7_evaluate_85 : decode cX7_evaluate 85 = .ok (.iload_n 2, 1) := by decide +kernel
theorem dX7_evaluate_86 : decode cX7_evaluate 86 = .ok (.iconst 1, 1) := by decide +kernel
theorem dX7_evaluate_87 : decode cX7_evaluate 87 = .ok (.isub, 1) := by decide +kernel
theorem dX7_evaluate_88 : decode cX7_evaluate 88 = .ok (.aload_n 0, 1) := by decide +kernel
theorem dX7_evaluate_89 : decode cX7_evaluate 89 = .ok (.getfield 15, 3) := by decide +kernel
theorem dX7_evaluate_92 : decode cX7_evaluate 92 = .ok (.iload_n 2, 1) := by decide +kernel
theorem dX7_evaluate_93 : decode cX7_evaluate 93 = .ok (.iconst 1, 1) := by decide +kernel
theorem dX7_evaluate_94 : decode cX7_evaluate 94 = .ok (.isub, 1) := by decide +kernel
theorem dX7_evaluate_95 : decode cX7_evaluate 95 = .ok (.iaload, 1) := by decide +kernel
theorem dX7_evaluate_96 : decode cX7_evaluate 96 = .ok (.ifCond .ne 7, 3) := by decide +kernel
theorem dX7_evaluate_99 : decode cX7_evaluate 99 = .ok (.iconst 1, 1) := by decide +kernel
theorem dX7_evaluate_100 : decode cX7_evaluate 100 = .ok (.goto 4, 3) := by decide +kernel
theorem dX7_evaluate_103 : decode cX7_evaluate 103 = .ok (.iconst 0, 1) := by decide +kernel
theorem dX7_evaluate_104 : decode cX7_evaluate 104 = .ok (.iastore, 1) := by decide +kernel
theorem dX7_evaluate_105 : decode cX7_evaluate 105 = .ok (.goto 38, 3) := by decide +kernel
theorem dX7_evaluate_108 : decode cX7_evaluate 108 = .ok (.iload_n 2, 1) := by decide +kernel
theorem dX7_evaluate_109 : decode cX7_evaluate 109 = .ok (.iconst 2, 1) := by decide +kernel
theorem dX7_evaluate_110 : decode cX7_evaluate 110 = .ok (.if_icmp .lt 33, 3) := by decide +kernel
theorem dX7_evaluate_113 : decode cX7_evaluate 113 = .ok (.iinc 2 (-1), 3) := by decide +kernel
theorem dX7_evaluate_116 : decode cX7_evaluate 116 = .ok (.aload_n 0, 1) := by decide +kernel
theorem dX7_evaluate_117 : decode cX7_evaluate 117 = .ok (.getfield 15, 3) := by decide +kernel
theorem dX7_evaluate_120 : decode cX7_evaluate 120 = .ok (.iload_n 2, 1) := by decide +kernel
theorem dX7_evaluate_121 : decode cX7_evaluate 121 = .ok (.iconst 1, 1) := by decide +kernel
theorem dX7_evaluate_122 : decode cX7_evaluate 122 = .ok (.isub, 1) := by decide +kernel
theorem dX7_evaluate_123 : decode cX7_evaluate 123 = .ok (.iload 4, 2) := by decide +kernel
theorem dX7_evaluate_125 : decode cX7_evaluate 125 = .ok (.aload_n 0, 1) := by decide +kernel
theorem dX7_evaluate_126 : decode cX7_evaluate 126 = .ok (.getfield 15, 3) := by decide +kernel
theorem dX7_evaluate_129 : decode cX7_evaluate 129 = .ok (.iload_n 2, 1) := by decide +kernel
theorem dX7_evaluate_130 : decode cX7_evaluate 130 = .ok (.iconst 1, 1) := by decide +kernel
theorem dX7_evaluate_131 : decode cX7_evaluate 131 = .ok (.isub, 1) := by decide +kernel
theorem dX7_evaluate_132 : decode cX7_evaluate 132 = .ok (.iaload, 1) := by decide +kernel
theorem dX7_evaluate_133 : decode cX7_evaluate 133 = .ok (.aload_n 0, 1) := by decide +kernel
theorem dX7_evaluate_134 : decode cX7_evaluate 134 = .ok (.getfield 15, 3) := by decide +kernel
theorem dX7_evaluate_137 : decode cX7_evaluate 137 = .ok (.iload_n 2, 1) := by decide +kernel
theorem dX7_evaluate_138 : decode cX7_evaluate 138 = .ok (.iaload, 1) := by decide +kernel
theorem dX7_evaluate_139 : decode cX7_evaluate 139 = .ok (.invokestatic 26, 3) := by decide +kernel
theorem dX7_evaluate_142 : decode cX7_evaluate 142 = .ok (.iastore, 1) := by decide +kernel
theorem dX7_evaluate_143 : decode cX7_evaluate 143 = .ok (.iinc 3 1, 3) := by decide +kernel
theorem dX7_evaluate_146 : decode cX7_evaluate 146 = .ok (.goto (-142), 3) := by decide +kernel
theorem dX7_evaluate_149 : decode cX7_evaluate 149 = .ok (.aload_n 0, 1) := by decide +kernel
theorem dX7_evaluate_150 : decode cX7_evaluate 150 = .ok (.getfield 15, 3) := by decide +kernel
theorem dX7_evaluate_153 : decode cX7_evaluate 153 = .ok (.iconst 0, 1) := by decide +kernel
theorem dX7_evaluate_154 : decode cX7_evaluate 154 = .ok (.iaload, 1) := by decide +kernel
theorem dX7_evaluate_155 : decode cX7_evaluate 155 = .ok (.ireturn, 1) := by decide +kernel
set_option maxRecDepth 100000 in
set_option maxHeartbeats 4000000 in
theorem k_X7_evaluate {G : am_G} (hK : k_OK G) {d : Nat} (hd : 1 ≤ d) {sh : List (Nat ⊕ (Nat × Nat))} {I : Nat → Nat → Int32} {R : Nat → Nat → Option Nat} {L : Nat → Nat → Int64} {g : Nat} {u v m : Nat} (hu : k_Rule sh R u) (hs : sh[v]? = some (.inr (0, 6))) (hvu : v < u ∨ u + 3 ≤ v) (hm : I u 2 = nI m) (hm6 : m ≤ 600) : AM G mX7_evaluate d [.ref u, .ref v] (sh, I, R, L, g) (fun v9 w => v9 = some (.int ((f_ev (I v) (I (u + 1)) (I (u + 2)) m).2 0)) ∧ w = (sh, am_uA I (u + 2) (f_ev (I v) (I (u + 1)) (I (u + 2)) m).2, R, L, g)) (fun _ _ => False) := by
  have hG := hK.1
  refine AM.of (n := 3) (by decide +kernel) (Nat.le_of_ble_eq_true rfl) ?_
  show AW G mX7_evaluate d (fun v9 w => v9 = some (.int ((f_ev (I v) (I (u + 1)) (I (u + 2)) m).2 0)) ∧ w = (sh, am_uA I (u + 2) (f_ev (I v) (I (u + 1)) (I (u + 2)) m).2, R, L, g)) (fun _ _ => False) 0 [some (.ref u), some (.ref v), none, none, none] [] (sh, I, R, L, g) 0 0
  refine AW.iconst 0 dX7_evaluate_0 (by decide) ?_
  refine AW.is_n [some (.ref u), some (.ref v), some (.int 0), none, none] dX7_evaluate_1 (by decide) rfl rfl ?_
  refine AW.iconst 0 dX7_evaluate_2 (by decide) ?_
  refine AW.is_n [some (.ref u), some (.ref v), some (.int 0), some (.int 0), none] dX7_evaluate_3 (by decide) rfl rfl ?_
  have L4 : ∀ k4, k4 ≤ m → ∀ (y x : Int32) (J : Nat → Nat → Int32), (x = nI k4 ∧ y = nI (f_ev (I v) (I (u + 1)) (I (u + 2)) k4).1 ∧ (f_ev (I v) (I (u + 1)) (I (u + 2)) k4).1 ≤ 64 ∧ J = am_uA I (u + 2) (f_ev (I v) (I (u + 1)) (I (u + 2)) k4).2) → AW G mX7_evaluate d (fun v9 w => v9 = some (.int ((f_ev (I v) (I (u + 1)) (I (u + 2)) m).2 0)) ∧ w = (sh, am_uA I (u + 2) (f_ev (I v) (I (u + 1)) (I (u + 2)) m).2, R, L, g)) (fun _ _ => False) 4 [some (.ref u), some (.ref v), some (.int y), some (.int x), none] [] (sh, J, R, L, g) 0 0 := by
    refine am_rec m (fun k4 hk4 ih4 => ?_)
    intro y x J hi4
    obtain ⟨hx, hy, hq64, hJ⟩ := hi4
    obtain ⟨q, S, hqS⟩ : ∃ q S, f_ev (I v) (I (u + 1)) (I (u + 2)) k4 = (q, S) := ⟨_, _, rfl⟩
    rw [hqS] at hy hq64 hJ
    have hy : y = nI q := hy
    have hq64 : q ≤ 64 := hq64
    have hJ : J = am_uA I (u + 2) S := hJ
    have q1 : J (u + 1) = I (u + 1) := by rw [hJ, am_uA_o _ _ _ (by omega)]
    have qv : J v = I v := by rw [hJ, am_uA_o _ _ _ (by omega)]
    have qS : J (u + 2) = S := by rw [hJ, am_uA_s]
    have hJm : J u 2 = nI m := by rw [hJ, am_uA_o _ _ _ (by omega)]; exact hm
    have hcq : y.toNatClampNeg = q := k_lit hy (by omega)
    refine AW.iload_n dX7_evaluate_4 rfl ?_
    refine AW.aload_n dX7_evaluate_5 rfl ?_
    refine AW.getI (fX7_18 hG).r rfl (hu.1 0 _ rfl) dX7_evaluate_6 ?_
    refine AW.icmp_ge 149 dX7_evaluate_9 (by decide) (fun h9 => ?_) (fun h9 => ?_)
    · have hke := k_ge h9 hx hJm hk4 (by omega)
      rw [hke] at hqS
      refine AW.aload_n dX7_evaluate_149 rfl ?_
      refine AW.getR (c' := (u + 2)) (fX7_15 hG).r rfl (hu.1 0 _ rfl) (hu.2 (0, 1, 2) (by decide)) dX7_evaluate_150 ?_
      refine AW.iconst 0 dX7_evaluate_153 (by decide) ?_
      refine AW.iald (hu.1 2 _ rfl) (by first | assumption | (unfold vp_in; decide) | exact vp_in_nI (by omega) (by decide)) dX7_evaluate_154 ?_
      exact AW.iret dX7_evaluate_155 rfl (by decide) (by decide) (⟨by rw [hqS, qS]; rfl, by rw [hqS, hJ]⟩)
    · have hlt := k_lt h9 hx hJm hk4 (by omega)
      have hbx : vp_in x 600 := by rw [hx]; exact vp_in_nI (by omega) (by decide)
      have hcx : x.toNatClampNeg = k4 := by rw [hx]; exact nI_clamp (by omega)
      refine AW.aload_n dX7_evaluate_12 rfl ?_
      refine AW.getR (c' := (u + 1)) (fX7_9 hG).r rfl (hu.1 0 _ rfl) (hu.2 (0, 0, 1) (by decide)) dX7_evaluate_13 ?_
      refine AW.iload_n dX7_evaluate_16 rfl ?_
      refine AW.iald (hu.1 1 _ rfl) (by first | assumption | (unfold vp_in; decide) | exact vp_in_nI (by omega) (by decide)) dX7_evaluate_17 ?_
      refine AW.nam (fun x18 ex18 => ?_)
      refine AW.is [some (.ref u), some (.ref v), some (.int y), some (.int x), some (.int x18)] dX7_evaluate_18 (by decide) rfl rfl ?_
      rw [q1, hcx] at ex18
      refine AW.iload dX7_evaluate_20 rfl ?_
      refine AW.if_ge 32 dX7_evaluate_22 (by decide) (fun h22 => ?_) (fun h22 => ?_)
      · refine AW.iload_n dX7_evaluate_32 rfl ?_
        refine AW.bipush 64 dX7_evaluate_33 (by decide) ?_
        refine AW.icmp_ge 143 dX7_evaluate_35 (by decide) (fun h35 => ?_) (fun h35 => ?_)
        · rw [hy] at h35
          refine AW.inc (fun x143 => [some (.ref u), some (.ref v), some (.int y), some (.int x143), some (.int x18)]) dX7_evaluate_143 rfl (by decide) rfl (fun _ => rfl) (fun x143 ex143 => ?_)
          refine AW.goto 4 dX7_evaluate_146 (by decide) ?_
          refine AW.mask [4] [some (.ref u), some (.ref v), some (.int y), some (.int x143), none] rfl ?_
          exact ih4 (k4 + 1) (by omega) (by omega) _ _ _ (by
            have hF : f_ev (I v) (I (u + 1)) (I (u + 2)) (k4 + 1) = (q, S) := by rw [show f_ev (I v) (I (u + 1)) (I (u + 2)) (k4 + 1) = f_ev1 (I v) (I (u + 1) k4) (f_ev (I v) (I (u + 1)) (I (u + 2)) k4) from rfl, hqS, ← ex18]; unfold f_ev1; dsimp only; rw [if_pos (Or.inl h22), if_pos h35]
            exact ⟨k_inc (by assumption) hx, by rw [hF]; exact hy, by rw [hF]; show q ≤ 64; omega, by rw [hF]; exact hJ⟩)
        · rw [hy] at h35
          have hq9 : q < 64 := by
            rcases Nat.lt_or_ge q 64 with h | h
            · exact h
            · exact absurd ((nI_lel (n := 64) rfl rfl (by decide) (by omega)).mpr h) h35
          have hbq : vp_in y 64 := by rw [hy]; exact vp_in_nI hq9 (by decide)
          refine AW.aload_n dX7_evaluate_38 rfl ?_
          refine AW.getR (c' := (u + 2)) (fX7_15 hG).r rfl (hu.1 0 _ rfl) (hu.2 (0, 1, 2) (by decide)) dX7_evaluate_39 ?_
          refine AW.iload_n dX7_evaluate_42 rfl ?_
          refine AW.iload dX7_evaluate_43 rfl ?_
          refine AW.if_lt 53 dX7_evaluate_45 (by decide) (fun h45 => ?_) (fun h45 => ?_)
          · refine AW.aload_n dX7_evaluate_53 rfl ?_
            refine AW.bipush (-10) dX7_evaluate_54 (by decide) ?_
            refine AW.iload dX7_evaluate_56 rfl ?_
            refine AW.isub dX7_evaluate_58 ?_
            refine AW.callS (As := [.ref v, .int ((-10) - x18)]) hG.2.2 (vX7_22 hG) (k_X7_valueOf hK (d := 0) (Nat.le_refl _) hs ((-10) - x18)) (by omega) dX7_evaluate_59 rfl rfl (Nat.le_of_ble_eq_true rfl) (fun v w9 hq9 h09 => by obtain ⟨rfl, rfl⟩ := hq9; exact ⟨h09, rfl⟩) (by decide) (by decide) (fun _ _ hx => hx) (fun v59 w59 hq59 => ?_)
            obtain ⟨rfl, rfl⟩ := hq59
            refine AW.nam (fun x59 ex59 => ?_)
            refine AW.iast (hu.1 2 _ rfl) (by first | assumption | (unfold vp_in; decide) | exact vp_in_nI (by omega) (by decide)) dX7_evaluate_62 ?_
            refine AW.namI (fun I62 eI62 => ?_)
            refine AW.inc (fun x63 => [some (.ref u), some (.ref v), some (.int x63), some (.int x), some (.int x18)]) dX7_evaluate_63 rfl (by decide) rfl (fun _ => rfl) (fun x63 ex63 => ?_)
            refine AW.goto 143 dX7_evaluate_66 (by decide) ?_
            refine AW.inc (fun x143 => [some (.ref u), some (.ref v), some (.int x63), some (.int x143), some (.int x18)]) dX7_evaluate_143 rfl (by decide) rfl (fun _ => rfl) (fun x143 ex143 => ?_)
            refine AW.goto 4 dX7_evaluate_146 (by decide) ?_
            refine AW.mask [4] [some (.ref u), some (.ref v), some (.int x63), some (.int x143), none] rfl ?_
            exact ih4 (k4 + 1) (by omega) (by omega) _ _ _ (by
              have hF : f_ev (I v) (I (u + 1)) (I (u + 2)) (k4 + 1) = ((q + 1), (upd S q (f_vo (I v) (-10 - x18)))) := by rw [show f_ev (I v) (I (u + 1)) (I (u + 2)) (k4 + 1) = f_ev1 (I v) (I (u + 1) k4) (f_ev (I v) (I (u + 1)) (I (u + 2)) k4) from rfl, hqS, ← ex18]; unfold f_ev1; dsimp only; rw [if_pos (Or.inl h22), if_neg h35, if_pos h45]
              exact ⟨k_inc (by assumption) hx, by rw [hF]; exact k_inc (by assumption) hy, by rw [hF]; show (q + 1) ≤ 64; omega, by rw [hF]; exact by rw [eI62, hcq, ex59, qv, hJ]; simp (disch := omega) only [am_up_uA, am_uA_s, am_uA_o, am_uA_uA]⟩)
          · refine AW.iload dX7_evaluate_48 rfl ?_
            refine AW.goto 62 dX7_evaluate_50 (by decide) ?_
            refine AW.iast (hu.1 2 _ rfl) (by first | assumption | (unfold vp_in; decide) | exact vp_in_nI (by omega) (by decide)) dX7_evaluate_62 ?_
            refine AW.namI (fun I62 eI62 => ?_)
            refine AW.inc (fun x63 => [some (.ref u), some (.ref v), some (.int x63), some (.int x), some (.int x18)]) dX7_evaluate_63 rfl (by decide) rfl (fun _ => rfl) (fun x63 ex63 => ?_)
            refine AW.goto 143 dX7_evaluate_66 (by decide) ?_
            refine AW.inc (fun x143 => [some (.ref u), some (.ref v), some (.int x63), some (.int x143), some (.int x18)]) dX7_evaluate_143 rfl (by decide) rfl (fun _ => rfl) (fun x143 ex143 => ?_)
            refine AW.goto 4 dX7_evaluate_146 (by decide) ?_
            refine AW.mask [4] [some (.ref u), some (.ref v), some (.int x63), some (.int x143), none] rfl ?_
            exact ih4 (k4 + 1) (by omega) (by omega) _ _ _ (by
              have hF : f_ev (I v) (I (u + 1)) (I (u + 2)) (k4 + 1) = ((q + 1), (upd S q (x18))) := by rw [show f_ev (I v) (I (u + 1)) (I (u + 2)) (k4 + 1) = f_ev1 (I v) (I (u + 1) k4) (f_ev (I v) (I (u + 1)) (I (u + 2)) k4) from rfl, hqS, ← ex18]; unfold f_ev1; dsimp only; rw [if_pos (Or.inl h22), if_neg h35, if_neg h45]
              exact ⟨k_inc (by assumption) hx, by rw [hF]; exact k_inc (by assumption) hy, by rw [hF]; show (q + 1) ≤ 64; omega, by rw [hF]; exact by rw [eI62, hcq, hJ]; simp (disch := omega) only [am_up_uA, am_uA_s, am_uA_o, am_uA_uA]⟩)
      · refine AW.iload dX7_evaluate_25 rfl ?_
        refine AW.bipush (-10) dX7_evaluate_27 (by decide) ?_
        refine AW.icmp_gt 69 dX7_evaluate_29 (by decide) (fun h29 => ?_) (fun h29 => ?_)
        · refine AW.iload dX7_evaluate_69 rfl ?_
          refine AW.bipush (-3) dX7_evaluate_71 (by decide) ?_
          refine AW.icmp_ne 108 dX7_evaluate_73 (by decide) (fun h73 => ?_) (fun h73 => ?_)
          · refine AW.iload_n dX7_evaluate_108 rfl ?_
            refine AW.iconst 2 dX7_evaluate_109 (by decide) ?_
            refine AW.icmp_lt 143 dX7_evaluate_110 (by decide) (fun h110 => ?_) (fun h110 => ?_)
            · rw [hy] at h110
              refine AW.inc (fun x143 => [some (.ref u), some (.ref v), some (.int y), some (.int x143), some (.int x18)]) dX7_evaluate_143 rfl (by decide) rfl (fun _ => rfl) (fun x143 ex143 => ?_)
              refine AW.goto 4 dX7_evaluate_146 (by decide) ?_
              refine AW.mask [4] [some (.ref u), some (.ref v), some (.int y), some (.int x143), none] rfl ?_
              exact ih4 (k4 + 1) (by omega) (by omega) _ _ _ (by
                have hF : f_ev (I v) (I (u + 1)) (I (u + 2)) (k4 + 1) = (q, S) := by rw [show f_ev (I v) (I (u + 1)) (I (u + 2)) (k4 + 1) = f_ev1 (I v) (I (u + 1) k4) (f_ev (I v) (I (u + 1)) (I (u + 2)) k4) from rfl, hqS, ← ex18]; unfold f_ev1; dsimp only; rw [if_neg (by rintro (h | h); exact h22 h; exact h h29), if_pos h73, if_pos h110]
                exact ⟨k_inc (by assumption) hx, by rw [hF]; exact hy, by rw [hF]; show q ≤ 64; omega, by rw [hF]; exact hJ⟩)
            · rw [hy] at h110
              have hq9 : 2 ≤ q := by
                rcases Nat.lt_or_ge q 2 with h | h
                · exact absurd ((nI_ltl (m := 2) rfl rfl (by omega) (by decide)).mpr h) h110
                · exact h
              refine AW.inc (fun x113 => [some (.ref u), some (.ref v), some (.int x113), some (.int x), some (.int x18)]) dX7_evaluate_113 rfl (by decide) rfl (fun _ => rfl) (fun x113 ex113 => ?_)
              have hm1 : x113 = nI (q - 1) := by rw [ex113, hy, show q = q - 1 + 1 by omega]; exact pk_m1 _
              have hm1b : vp_in x113 64 := by rw [hm1]; exact vp_in_nI (by omega) (by decide)
              have hm1c : x113.toNatClampNeg = q - 1 := k_lit hm1 (by omega)
              have hm2 : x113 - 1 = nI (q - 2) := by rw [hm1, show q - 1 = q - 2 + 1 by omega]; exact nI_pred _
              have hm2b : vp_in (x113 - 1) 64 := by rw [hm2]; exact vp_in_nI (by omega) (by decide)
              have hm2c : (x113 - 1).toNatClampNeg = q - 2 := k_lit hm2 (by omega)
              refine AW.aload_n dX7_evaluate_116 rfl ?_
              refine AW.getR (c' := (u + 2)) (fX7_15 hG).r rfl (hu.1 0 _ rfl) (hu.2 (0, 1, 2) (by decide)) dX7_evaluate_117 ?_
              refine AW.iload_n dX7_evaluate_120 rfl ?_
              refine AW.iconst 1 dX7_evaluate_121 (by decide) ?_
              refine AW.isub dX7_evaluate_122 ?_
              refine AW.iload dX7_evaluate_123 rfl ?_
              refine AW.aload_n dX7_evaluate_125 rfl ?_
              refine AW.getR (c' := (u + 2)) (fX7_15 hG).r rfl (hu.1 0 _ rfl) (hu.2 (0, 1, 2) (by decide)) dX7_evaluate_126 ?_
              refine AW.iload_n dX7_evaluate_129 rfl ?_
              refine AW.iconst 1 dX7_evaluate_130 (by decide) ?_
              refine AW.isub dX7_evaluate_131 ?_
              refine AW.iald (hu.1 2 _ rfl) (by first | assumption | (unfold vp_in; decide) | exact vp_in_nI (by omega) (by decide)) dX7_evaluate_132 ?_
              refine AW.aload_n dX7_evaluate_133 rfl ?_
              refine AW.getR (c' := (u + 2)) (fX7_15 hG).r rfl (hu.1 0 _ rfl) (hu.2 (0, 1, 2) (by decide)) dX7_evaluate_134 ?_
              refine AW.iload_n dX7_evaluate_137 rfl ?_
              refine AW.iald (hu.1 2 _ rfl) (by first | assumption | (unfold vp_in; decide) | exact vp_in_nI (by omega) (by decide)) dX7_evaluate_138 ?_
              refine AW.callS (As := [.int x18, .int (J (u + 2) (x113 - 1).toNatClampNeg), .int (J (u + 2) x113.toNatClampNeg)]) hG.2.2 (vX7_26 hG) (k_X7_joined hK (d := 0) (Nat.le_refl _) x18 (J (u + 2) (x113 - 1).toNatClampNeg) (J (u + 2) x113.toNatClampNeg)) (by omega) dX7_evaluate_139 rfl rfl (Nat.le_of_ble_eq_true rfl) (fun v w9 hq9 h09 => by obtain ⟨rfl, rfl⟩ := hq9; exact ⟨h09, rfl⟩) (by decide) (by decide) (fun _ _ hx => hx) (fun v139 w139 hq139 => ?_)
              obtain ⟨rfl, rfl⟩ := hq139
              refine AW.nam (fun x139 ex139 => ?_)
              refine AW.iast (hu.1 2 _ rfl) (by first | assumption | (unfold vp_in; decide) | exact vp_in_nI (by omega) (by decide)) dX7_evaluate_142 ?_
              refine AW.namI (fun I142 eI142 => ?_)
              refine AW.inc (fun x143 => [some (.ref u), some (.ref v), some (.int x113), some (.int x143), some (.int x18)]) dX7_evaluate_143 rfl (by decide) rfl (fun _ => rfl) (fun x143 ex143 => ?_)
              refine AW.goto 4 dX7_evaluate_146 (by decide) ?_
              refine AW.mask [4] [some (.ref u), some (.ref v), some (.int x113), some (.int x143), none] rfl ?_
              exact ih4 (k4 + 1) (by omega) (by omega) _ _ _ (by
                have hF : f_ev (I v) (I (u + 1)) (I (u + 2)) (k4 + 1) = ((q - 1), (upd S (q - 2) (f_jn x18 (S (q - 2)) (S (q - 1))))) := by rw [show f_ev (I v) (I (u + 1)) (I (u + 2)) (k4 + 1) = f_ev1 (I v) (I (u + 1) k4) (f_ev (I v) (I (u + 1)) (I (u + 2)) k4) from rfl, hqS, ← ex18]; unfold f_ev1; dsimp only; rw [if_neg (by rintro (h | h); exact h22 h; exact h h29), if_pos h73, if_neg h110]
                exact ⟨k_inc (by assumption) hx, by rw [hF]; exact hm1, by rw [hF]; show (q - 1) ≤ 64; omega, by rw [hF]; exact by rw [eI142, hm2c, ex139, hm2c, hm1c, hJ]; simp (disch := omega) only [am_up_uA, am_uA_s, am_uA_o, am_uA_uA]⟩)
          · refine AW.iload_n dX7_evaluate_76 rfl ?_
            refine AW.iconst 1 dX7_evaluate_77 (by decide) ?_
            refine AW.icmp_lt 143 dX7_evaluate_78 (by decide) (fun h78 => ?_) (fun h78 => ?_)
            · rw [hy] at h78
              refine AW.inc (fun x143 => [some (.ref u), some (.ref v), some (.int y), some (.int x143), some (.int x18)]) dX7_evaluate_143 rfl (by decide) rfl (fun _ => rfl) (fun x143 ex143 => ?_)
              refine AW.goto 4 dX7_evaluate_146 (by decide) ?_
              refine AW.mask [4] [some (.ref u), some (.ref v), some (.int y), some (.int x143), none] rfl ?_
              exact ih4 (k4 + 1) (by omega) (by omega) _ _ _ (by
                have hF : f_ev (I v) (I (u + 1)) (I (u + 2)) (k4 + 1) = (q, S) := by rw [show f_ev (I v) (I (u + 1)) (I (u + 2)) (k4 + 1) = f_ev1 (I v) (I (u + 1) k4) (f_ev (I v) (I (u + 1)) (I (u + 2)) k4) from rfl, hqS, ← ex18]; unfold f_ev1; dsimp only; rw [if_neg (by rintro (h | h); exact h22 h; exact h h29), if_neg (fun h => h h73), if_pos h78]
                exact ⟨k_inc (by assumption) hx, by rw [hF]; exact hy, by rw [hF]; show q ≤ 64; omega, by rw [hF]; exact hJ⟩)
            · rw [hy] at h78
              have hq9 : 1 ≤ q := by
                rcases Nat.lt_or_ge q 1 with h | h
                · exact absurd ((nI_ltl (m := 1) rfl rfl (by omega) (by decide)).mpr h) h78
                · exact h
              have hm1 : y - 1 = nI (q - 1) := by rw [hy, show q = q - 1 + 1 by omega]; exact nI_pred _
              have hm1b : vp_in (y - 1) 64 := by rw [hm1]; exact vp_in_nI (by omega) (by decide)
              have hm1c : (y - 1).toNatClampNeg = q - 1 := k_lit hm1 (by omega)
              refine AW.aload_n dX7_evaluate_81 rfl ?_
              refine AW.getR (c' := (u + 2)) (fX7_15 hG).r rfl (hu.1 0 _ rfl) (hu.2 (0, 1, 2) (by decide)) dX7_evaluate_82 ?_
              refine AW.iload_n dX7_evaluate_85 rfl ?_
              refine AW.iconst 1 dX7_evaluate_86 (by decide) ?_
              refine AW.isub dX7_evaluate_87 ?_
              refine AW.aload_n dX7_evaluate_88 rfl ?_
              refine AW.getR (c' := (u + 2)) (fX7_15 hG).r rfl (hu.1 0 _ rfl) (hu.2 (0, 1, 2) (by decide)) dX7_evaluate_89 ?_
              refine AW.iload_n dX7_evaluate_92 rfl ?_
              refine AW.iconst 1 dX7_evaluate_93 (by decide) ?_
              refine AW.isub dX7_evaluate_94 ?_
              refine AW.iald (hu.1 2 _ rfl) (by first | assumption | (unfold vp_in; decide) | exact vp_in_nI (by omega) (by decide)) dX7_evaluate_95 ?_
              refine AW.if_ne 103 dX7_evaluate_96 (by decide) (fun h96 => ?_) (fun h96 => ?_)
              · rw [hm1c, qS] at h96
                have hS96 : S (q - 1) = S (q - 1) := rfl
                refine AW.iconst 0 dX7_evaluate_103 (by decide) ?_
                refine AW.iast (hu.1 2 _ rfl) (by first | assumption | (unfold vp_in; decide) | exact vp_in_nI (by omega) (by decide)) dX7_evaluate_104 ?_
                refine AW.namI (fun I104 eI104 => ?_)
                refine AW.goto 143 dX7_evaluate_105 (by decide) ?_
                refine AW.inc (fun x143 => [some (.ref u), some (.ref v), some (.int y), some (.int x143), some (.int x18)]) dX7_evaluate_143 rfl (by decide) rfl (fun _ => rfl) (fun x143 ex143 => ?_)
                refine AW.goto 4 dX7_evaluate_146 (by decide) ?_
                refine AW.mask [4] [some (.ref u), some (.ref v), some (.int y), some (.int x143), none] rfl ?_
                exact ih4 (k4 + 1) (by omega) (by omega) _ _ _ (by
                  have hF : f_ev (I v) (I (u + 1)) (I (u + 2)) (k4 + 1) = (q, (upd S (q - 1) 0)) := by rw [show f_ev (I v) (I (u + 1)) (I (u + 2)) (k4 + 1) = f_ev1 (I v) (I (u + 1) k4) (f_ev (I v) (I (u + 1)) (I (u + 2)) k4) from rfl, hqS, ← ex18]; unfold f_ev1; dsimp only; rw [if_neg (by rintro (h | h); exact h22 h; exact h h29), if_neg (fun h => h h73), if_neg h78, if_pos h96]
                  exact ⟨k_inc (by assumption) hx, by rw [hF]; exact hy, by rw [hF]; show q ≤ 64; omega, by rw [hF]; exact by rw [eI104, hm1c, hJ]; simp (disch := omega) only [am_up_uA, am_uA_s, am_uA_o, am_uA_uA]⟩)
              · rw [hm1c, qS] at h96
                have hS96 : S (q - 1) = S (q - 1) := rfl
                refine AW.iconst 1 dX7_evaluate_99 (by decide) ?_
                refine AW.goto 104 dX7_evaluate_100 (by decide) ?_
                refine AW.iast (hu.1 2 _ rfl) (by first | assumption | (unfold vp_in; decide) | exact vp_in_nI (by omega) (by decide)) dX7_evaluate_104 ?_
                refine AW.namI (fun I104 eI104 => ?_)
                refine AW.goto 143 dX7_evaluate_105 (by decide) ?_
                refine AW.inc (fun x143 => [some (.ref u), some (.ref v), some (.int y), some (.int x143), some (.int x18)]) dX7_evaluate_143 rfl (by decide) rfl (fun _ => rfl) (fun x143 ex143 => ?_)
                refine AW.goto 4 dX7_evaluate_146 (by decide) ?_
                refine AW.mask [4] [some (.ref u), some (.ref v), some (.int y), some (.int x143), none] rfl ?_
                exact ih4 (k4 + 1) (by omega) (by omega) _ _ _ (by
                  have hF : f_ev (I v) (I (u + 1)) (I (u + 2)) (k4 + 1) = (q, (upd S (q - 1) 1)) := by rw [show f_ev (I v) (I (u + 1)) (I (u + 2)) (k4 + 1) = f_ev1 (I v) (I (u + 1) k4) (f_ev (I v) (I (u + 1)) (I (u + 2)) k4) from rfl, hqS, ← ex18]; unfold f_ev1; dsimp only; rw [if_neg (by rintro (h | h); exact h22 h; exact h h29), if_neg (fun h => h h73), if_neg h78, if_neg (fun h => h h96)]
                  exact ⟨k_inc (by assumption) hx, by rw [hF]; exact hy, by rw [hF]; show q ≤ 64; omega, by rw [hF]; exact by rw [eI104, hm1c, hJ]; simp (disch := omega) only [am_up_uA, am_uA_s, am_uA_o, am_uA_uA]⟩)
        · refine AW.iload_n dX7_evaluate_32 rfl ?_
          refine AW.bipush 64 dX7_evaluate_33 (by decide) ?_
          refine AW.icmp_ge 143 dX7_evaluate_35 (by decide) (fun h35 => ?_) (fun h35 => ?_)
          · rw [hy] at h35
            refine AW.inc (fun x143 => [some (.ref u), some (.ref v), some (.int y), some (.int x143), some (.int x18)]) dX7_evaluate_143 rfl (by decide) rfl (fun _ => rfl) (fun x143 ex143 => ?_)
            refine AW.goto 4 dX7_evaluate_146 (by decide) ?_
            refine AW.mask [4] [some (.ref u), some (.ref v), some (.int y), some (.int x143), none] rfl ?_
            exact ih4 (k4 + 1) (by omega) (by omega) _ _ _ (by
              have hF : f_ev (I v) (I (u + 1)) (I (u + 2)) (k4 + 1) = (q, S) := by rw [show f_ev (I v) (I (u + 1)) (I (u + 2)) (k4 + 1) = f_ev1 (I v) (I (u + 1) k4) (f_ev (I v) (I (u + 1)) (I (u + 2)) k4) from rfl, hqS, ← ex18]; unfold f_ev1; dsimp only; rw [if_pos (Or.inr h29), if_pos h35]
              exact ⟨k_inc (by assumption) hx, by rw [hF]; exact hy, by rw [hF]; show q ≤ 64; omega, by rw [hF]; exact hJ⟩)
          · rw [hy] at h35
            have hq9 : q < 64 := by
              rcases Nat.lt_or_ge q 64 with h | h
              · exact h
              · exact absurd ((nI_lel (n := 64) rfl rfl (by decide) (by omega)).mpr h) h35
            have hbq : vp_in y 64 := by rw [hy]; exact vp_in_nI hq9 (by decide)
            refine AW.aload_n dX7_evaluate_38 rfl ?_
            refine AW.getR (c' := (u + 2)) (fX7_15 hG).r rfl (hu.1 0 _ rfl) (hu.2 (0, 1, 2) (by decide)) dX7_evaluate_39 ?_
            refine AW.iload_n dX7_evaluate_42 rfl ?_
            refine AW.iload dX7_evaluate_43 rfl ?_
            refine AW.if_lt 53 dX7_evaluate_45 (by decide) (fun h45 => ?_) (fun h45 => ?_)
            · refine AW.aload_n dX7_evaluate_53 rfl ?_
              refine AW.bipush (-10) dX7_evaluate_54 (by decide) ?_
              refine AW.iload dX7_evaluate_56 rfl ?_
              refine AW.isub dX7_evaluate_58 ?_
              refine AW.callS (As := [.ref v, .int ((-10) - x18)]) hG.2.2 (vX7_22 hG) (k_X7_valueOf hK (d := 0) (Nat.le_refl _) hs ((-10) - x18)) (by omega) dX7_evaluate_59 rfl rfl (Nat.le_of_ble_eq_true rfl) (fun v w9 hq9 h09 => by obtain ⟨rfl, rfl⟩ := hq9; exact ⟨h09, rfl⟩) (by decide) (by decide) (fun _ _ hx => hx) (fun v59 w59 hq59 => ?_)
              obtain ⟨rfl, rfl⟩ := hq59
              refine AW.nam (fun x59 ex59 => ?_)
              refine AW.iast (hu.1 2 _ rfl) (by first | assumption | (unfold vp_in; decide) | exact vp_in_nI (by omega) (by decide)) dX7_evaluate_62 ?_
              refine AW.namI (fun I62 eI62 => ?_)
              refine AW.inc (fun x63 => [some (.ref u), some (.ref v), some (.int x63), some (.int x), some (.int x18)]) dX7_evaluate_63 rfl (by decide) rfl (fun _ => rfl) (fun x63 ex63 => ?_)
              refine AW.goto 143 dX7_evaluate_66 (by decide) ?_
              refine AW.inc (fun x143 => [some (.ref u), some (.ref v), some (.int x63), some (.int x143), some (.int x18)]) dX7_evaluate_143 rfl (by decide) rfl (fun _ => rfl) (fun x143 ex143 => ?_)
              refine AW.goto 4 dX7_evaluate_146 (by decide) ?_
              refine AW.mask [4] [some (.ref u), some (.ref v), some (.int x63), some (.int x143), none] rfl ?_
              exact ih4 (k4 + 1) (by omega) (by omega) _ _ _ (by
                have hF : f_ev (I v) (I (u + 1)) (I (u + 2)) (k4 + 1) = ((q + 1), (upd S q (f_vo (I v) (-10 - x18)))) := by rw [show f_ev (I v) (I (u + 1)) (I (u + 2)) (k4 + 1) = f_ev1 (I v) (I (u + 1) k4) (f_ev (I v) (I (u + 1)) (I (u + 2)) k4) from rfl, hqS, ← ex18]; unfold f_ev1; dsimp only; rw [if_pos (Or.inr h29), if_neg h35, if_pos h45]
                exact ⟨k_inc (by assumption) hx, by rw [hF]; exact k_inc (by assumption) hy, by rw [hF]; show (q + 1) ≤ 64; omega, by rw [hF]; exact by rw [eI62, hcq, ex59, qv, hJ]; simp (disch := omega) only [am_up_uA, am_uA_s, am_uA_o, am_uA_uA]⟩)
            · refine AW.iload dX7_evaluate_48 rfl ?_
              refine AW.goto 62 dX7_evaluate_50 (by decide) ?_
              refine AW.iast (hu.1 2 _ rfl) (by first | assumption | (unfold vp_in; decide) | exact vp_in_nI (by omega) (by decide)) dX7_evaluate_62 ?_
              refine AW.namI (fun I62 eI62 => ?_)
              refine AW.inc (fun x63 => [some (.ref u), some (.ref v), some (.int x63), some (.int x), some (.int x18)]) dX7_evaluate_63 rfl (by decide) rfl (fun _ => rfl) (fun x63 ex63 => ?_)
              refine AW.goto 143 dX7_evaluate_66 (by decide) ?_
              refine AW.inc (fun x143 => [some (.ref u), some (.ref v), some (.int x63), some (.int x143), some (.int x18)]) dX7_evaluate_143 rfl (by decide) rfl (fun _ => rfl) (fun x143 ex143 => ?_)
              refine AW.goto 4 dX7_evaluate_146 (by decide) ?_
              refine AW.mask [4] [some (.ref u), some (.ref v), some (.int x63), some (.int x143), none] rfl ?_
              exact ih4 (k4 + 1) (by omega) (by omega) _ _ _ (by
                have hF : f_ev (I v) (I (u + 1)) (I (u + 2)) (k4 + 1) = ((q + 1), (upd S q (x18))) := by rw [show f_ev (I v) (I (u + 1)) (I (u + 2)) (k4 + 1) = f_ev1 (I v) (I (u + 1) k4) (f_ev (I v) (I (u + 1)) (I (u + 2)) k4) from rfl, hqS, ← ex18]; unfold f_ev1; dsimp only; rw [if_pos (Or.inr h29), if_neg h35, if_neg h45]
                exact ⟨k_inc (by assumption) hx, by rw [hF]; exact k_inc (by assumption) hy, by rw [hF]; show (q + 1) ≤ 64; omega, by rw [hF]; exact by rw [eI62, hcq, hJ]; simp (disch := omega) only [am_up_uA, am_uA_s, am_uA_o, am_uA_uA]⟩)
  exact L4 0 (by omega) _ _ _ (⟨nI_0.symm, nI_0.symm, Nat.zero_le _, (am_uA_id _ _).symm⟩)
/-! PORTIONS -/
theorem k_66 {x y v : Int32} {k j : Nat} (hv : v = x * 6 + y) (hx : x = nI k) (hy : y = nI j) : v = nI (6 * k + j) := by rw [hv, hx, hy, show (6 : Int32) = nI 6 from rfl, pk_mul, nI_add, Nat.mul_comm]
def f_ins : (Nat → Int32) → Nat → (Nat → Int32)
  | S, 0 => S
  | S, j + 1 => if S j < S (j + 1) then f_ins (upd (upd S (j + 1) (S j)) j (S (j + 1))) j else S
def f_srt (S : Nat → Int32) (k : Nat) : Nat → Int32 := lfold (fun j S => f_ins S j) S k
def f_pb1 (ea : Nat → Int32) (p : Int32) : Nat → Nat → Int32
  | _, 0 => -1
  | j, n + 1 => if ea j = p then nI j else f_pb1 ea p (j + 1) n
def f_pb (ea : Nat → Int32) (p : Int32) (q ec : Nat) : Int32 := f_pb1 ea p (q + 1) (ec - (q + 1))
theorem dX5_spread_0 : decode cX5_spread 0 = .ok (.aload_n 0, 1) := by decide +kernel
theorem dX5_spread_1 : decode cX5_spread 1 = .ok (.getfield 29, 3) := by decide +kernel
theorem dX5_spread_4 : decode cX5_spread 4 = .ok (.iconst 1, 1) := by decide +kernel
theorem dX5_spread_5 : decode cX5_spread 5 = .ok (.if_icmp .ge 7, 3) := by decide +kernel
theorem dX5_spread_8 : decode cX5_spread 8 = .ok (.iconst 0, 1) := by decide +kernel
theorem dX5_spread_9 : decode cX5_spread 9 = .ok (.goto 21, 3) := by decide +kernel
theorem dX5_spread_12 : decode cX5_spread 12 = .ok (.aload_n 0, 1) := by decide +kernel
theorem dX5_spread_13 : decode cX5_spread 13 = .ok (.getfield 9, 3) := by decide +kernel
theorem dX5_spread_16 : decode cX5_spread 16 = .ok (.iconst 0, 1) := by decide +kernel
theorem dX5_spread_17 : decode cX5_spread 17 = .ok (.iaload, 1) := by decide +kernel
theorem dX5_spread_18 : decode cX5_spread 18 = .ok (.aload_n 0, 1) := by decide +kernel
theorem dX5_spread_19 : decode cX5_spread 19 = .ok (.getfield 9, 3) := by decide +kernel
theorem dX5_spread_22 : decode cX5_spread 22 = .ok (.aload_n 0, 1) := by decide +kernel
theorem dX5_spread_23 : decode cX5_spread 23 = .ok (.getfield 29, 3) := by decide +kernel
theorem dX5_spread_26 : decode cX5_spread 26 = .ok (.iconst 1, 1) := by decide +kernel
theorem dX5_spread_27 : decode cX5_spread 27 = .ok (.isub, 1) := by decide +kernel
theorem dX5_spread_28 : decode cX5_spread 28 = .ok (.iaload, 1) := by decide +kernel
theorem dX5_spread_29 : decode cX5_spread 29 = .ok (.isub, 1) := by decide +kernel
theorem dX5_spread_30 : decode cX5_spread 30 = .ok (.ireturn, 1) := by decide +kernel
set_option maxRecDepth 100000 in
set_option maxHeartbeats 4000000 in
theorem k_X5_spread {G : am_G} (hK : k_OK G) {d : Nat} (hd : 0 ≤ d) {sh : List (Nat ⊕ (Nat × Nat))} {I : Nat → Nat → Int32} {R : Nat → Nat → Option Nat} {L : Nat → Nat → Int64} {g : Nat} {o q : Nat} (ho : k_Portions sh R o) (hq : I o 3 = nI q) (hq1 : 1 ≤ q) (hq6 : q ≤ 6) : AM G mX5_spread d [.ref o] (sh, I, R, L, g) (fun v w => v = some (.int (I (o + 1) 0 - I (o + 1) (q - 1))) ∧ w = (sh, I, R, L, g)) (fun _ _ => False) := by
  have hG := hK.1
  have hm : I o 3 - 1 = nI (q - 1) := by rw [hq, show q = q - 1 + 1 by omega]; exact nI_pred _
  have hmb : vp_in (I o 3 - 1) 6 := by rw [hm]; exact vp_in_nI (by omega) (by decide)
  have hmc : (I o 3 - 1).toNatClampNeg = q - 1 := k_lit hm (by omega)
  refine AM.of (n := 0) (by decide +kernel) (Nat.le_of_ble_eq_true rfl) ?_
  show AW G mX5_spread d (fun v w => v = some (.int (I (o + 1) 0 - I (o + 1) (q - 1))) ∧ w = (sh, I, R, L, g)) (fun _ _ => False) 0 [some (.ref o)] [] (sh, I, R, L, g) 0 0
  refine AW.aload_n dX5_spread_0 rfl ?_
  refine AW.getI (fX5_29 hG).r rfl (ho.1 0 _ rfl) dX5_spread_1 ?_
  refine AW.iconst 1 dX5_spread_4 (by decide) ?_
  refine AW.icmp_ge 12 dX5_spread_5 (by decide) (fun h5 => ?_) (fun h5 => ?_)
  · refine AW.aload_n dX5_spread_12 rfl ?_
    refine AW.getR (c' := (o + 1)) (fX5_9 hG).r rfl (ho.1 0 _ rfl) (ho.2 (0, 0, 1) (by decide)) dX5_spread_13 ?_
    refine AW.iconst 0 dX5_spread_16 (by decide) ?_
    refine AW.iald (ho.1 1 _ rfl) (by first | assumption | (unfold vp_in; decide) | exact vp_in_nI (by omega) (by decide)) dX5_spread_17 ?_
    refine AW.aload_n dX5_spread_18 rfl ?_
    refine AW.getR (c' := (o + 1)) (fX5_9 hG).r rfl (ho.1 0 _ rfl) (ho.2 (0, 0, 1) (by decide)) dX5_spread_19 ?_
    refine AW.aload_n dX5_spread_22 rfl ?_
    refine AW.getI (fX5_29 hG).r rfl (ho.1 0 _ rfl) dX5_spread_23 ?_
    refine AW.iconst 1 dX5_spread_26 (by decide) ?_
    refine AW.isub dX5_spread_27 ?_
    refine AW.iald (ho.1 1 _ rfl) (by first | assumption | (unfold vp_in; decide) | exact vp_in_nI (by omega) (by decide)) dX5_spread_28 ?_
    refine AW.isub dX5_spread_29 ?_
    exact AW.iret dX5_spread_30 rfl (by decide) (by decide) (⟨by rw [hmc]; rfl, rfl⟩)
  · exact absurd ((nI_lel (n := 1) rfl hq (by decide) (by omega)).mpr hq1) h5
theorem dX5_sortDown_0 : decode cX5_sortDown 0 = .ok (.iconst 1, 1) := by decide +kernel
theorem dX5_sortDown_1 : decode cX5_sortDown 1 = .ok (.istore_n 1, 1) := by decide +kernel
theorem dX5_sortDown_2 : decode cX5_sortDown 2 = .ok (.iload_n 1, 1) := by decide +kernel
theorem dX5_sortDown_3 : decode cX5_sortDown 3 = .ok (.aload_n 0, 1) := by decide +kernel
theorem dX5_sortDown_4 : decode cX5_sortDown 4 = .ok (.getfield 29, 3) := by decide +kernel
theorem dX5_sortDown_7 : decode cX5_sortDown 7 = .ok (.if_icmp .ge 68, 3) := by decide +kernel
theorem dX5_sortDown_10 : decode cX5_sortDown 10 = .ok (.iload_n 1, 1) := by decide +kernel
theorem dX5_sortDown_11 : decode cX5_sortDown 11 = .ok (.istore_n 2, 1) := by decide +kernel
theorem dX5_sortDown_12 : decode cX5_sortDown 12 = .ok (.iload_n 2, 1) := by decide +kernel
theorem dX5_sortDown_13 : decode cX5_sortDown 13 = .ok (.ifCond .le 56, 3) := by decide +kernel
theorem dX5_sortDown_16 : decode cX5_sortDown 16 = .ok (.aload_n 0, 1) := by decide +kernel
theorem dX5_sortDown_17 : decode cX5_sortDown 17 = .ok (.getfield 9, 3) := by decide +kernel
theorem dX5_sortDown_20 : decode cX5_sortDown 20 = .ok (.iload_n 2, 1) := by decide +kernel
theorem dX5_sortDown_21 : decode cX5_sortDown 21 = .ok (.iconst 1, 1) := by decide +kernel
theorem dX5_sortDown_22 : decode cX5_sortDown 22 = .ok (.isub, 1) := by decide +kernel
theorem dX5_sortDown_23 : decode cX5_sortDown 23 = .ok (.iaload, 1) := by decide +kernel
theorem dX5_sortDown_24 : decode cX5_sortDown 24 = .ok (.aload_n 0, 1) := by decide +kernel
theorem dX5_sortDown_25 : decode cX5_sortDown 25 = .ok (.getfield 9, 3) := by decide +kernel
theorem dX5_sortDown_28 : decode cX5_sortDown 28 = .ok (.iload_n 2, 1) := by decide +kernel
theorem dX5_sortDown_29 : decode cX5_sortDown 29 = .ok (.iaload, 1) := by decide +kernel
theorem dX5_sortDown_30 : decode cX5_sortDown 30 = .ok (.if_icmp .ge 39, 3) := by decide +kernel
theorem dX5_sortDown_33 : decode cX5_sortDown 33 = .ok (.aload_n 0, 1) := by decide +kernel
theorem dX5_sortDown_34 : decode cX5_sortDown 34 = .ok (.getfield 9, 3) := by decide +kernel
theorem dX5_sortDown_37 : decode cX5_sortDown 37 = .ok (.iload_n 2, 1) := by decide +kernel
theorem dX5_sortDown_38 : decode cX5_sortDown 38 = .ok (.iaload, 1) := by decide +kernel
theorem dX5_sortDown_39 : decode cX5_sortDown 39 = .ok (.istore_n 3, 1) := by decide +kernel
theorem dX5_sortDown_40 : decode cX5_sortDown 40 = .ok (.aload_n 0, 1) := by decide +kernel
theorem dX5_sortDown_41 : decode cX5_sortDown 41 = .ok (.getfield 9, 3) := by decide +kernel
theorem dX5_sortDown_44 : decode cX5_sortDown 44 = .ok (.iload_n 2, 1) := by decide +kernel
theorem dX5_sortDown_45 : decode cX5_sortDown 45 = .ok (.aload_n 0, 1) := by decide +kernel
theorem dX5_sortDown_46 : decode cX5_sortDown 46 = .ok (.getfield 9, 3) := by decide +kernel
theorem dX5_sortDown_49 : decode cX5_sortDown 49 = .ok (.iload_n 2, 1) := by decide +kernel
theorem dX5_sortDown_50 : decode cX5_sortDown 50 = .ok (.iconst 1, 1) := by decide +kernel
theorem dX5_sortDown_51 : decode cX5_sortDown 51 = .ok (.isub, 1) := by decide +kernel
theorem dX5_sortDown_52 : decode cX5_sortDown 52 = .ok (.iaload, 1) := by decide +kernel
theorem dX5_sortDown_53 : decode cX5_sortDown 53 = .ok (.iastore, 1) := by decide +kernel
theorem dX5_sortDown_54 : decode cX5_sortDown 54 = .ok (.aload_n 0, 1) := by decide +kernel
theorem dX5_sortDown_55 : decode cX5_sortDown 55 = .ok (.getfield 9, 3) := by decide +kernel
theorem dX5_sortDown_58 : decode cX5_sortDown 58 = .ok (.iload_n 2, 1) := by decide +kernel
theorem dX5_sortDown_59 : decode cX5_sortDown 59 = .ok (.iconst 1, 1) := by decide +kernel
theorem dX5_sortDown_60 : decode cX5_sortDown 60 = .ok (.isub, 1) := by decide +kernel
theorem dX5_sortDown_61 : decode cX5_sortDown 61 = .ok (.iload_n 3, 1) := by decide +kernel
theorem dX5_sortDown_62 : decode cX5_sortDown 62 = .ok (.iastore, 1) := by decide +kernel
theorem dX5_sortDown_63 : decode cX5_sortDown 63 = .ok (.iinc 2 (-1), 3) := by decide +kernel
theorem dX5_sortDown_66 : decode cX5_sortDown 66 = .ok (.goto (-54), 3) := by decide +kernel
theorem dX5_sortDown_69 : decode cX5_sortDown 69 = .ok (.iinc 1 1, 3) := by decide +kernel
theorem dX5_sortDown_72 : decode cX5_sortDown 72 = .ok (.goto (-70), 3) := by decide +kernel
theorem dX5_sortDown_75 : decode cX5_sortDown 75 = .ok (.return_, 1) := by decide +kernel
set_option maxRecDepth 100000 in
set_option maxHeartbeats 4000000 in
theorem k_X5_sortDown {G : am_G} (hK : k_OK G) {d : Nat} (hd : 0 ≤ d) {sh : List (Nat ⊕ (Nat × Nat))} {I : Nat → Nat → Int32} {R : Nat → Nat → Option Nat} {L : Nat → Nat → Int64} {g : Nat} {o q : Nat} (ho : k_Portions sh R o) (hq : I o 3 = nI q) (hq1 : 1 ≤ q) (hq6 : q ≤ 6) : AM G mX5_sortDown d [.ref o] (sh, I, R, L, g) (fun v w => v = none ∧ w = (sh, am_uA I (o + 1) (f_srt (I (o + 1)) q), R, L, g)) (fun _ _ => False) := by
  have hG := hK.1
  refine AM.of (n := 3) (by decide +kernel) (Nat.le_of_ble_eq_true rfl) ?_
  show AW G mX5_sortDown d (fun v w => v = none ∧ w = (sh, am_uA I (o + 1) (f_srt (I (o + 1)) q), R, L, g)) (fun _ _ => False) 0 [some (.ref o), none, none, none] [] (sh, I, R, L, g) 0 0
  refine AW.iconst 1 dX5_sortDown_0 (by decide) ?_
  refine AW.is_n [some (.ref o), some (.int 1), none, none] dX5_sortDown_1 (by decide) rfl rfl ?_
  have L2 : ∀ k2, k2 ≤ q → ∀ (x : Int32) (J : Nat → Nat → Int32), (x = nI k2 ∧ J = am_uA I (o + 1) (f_srt (I (o + 1)) k2)) → AW G mX5_sortDown d (fun v w => v = none ∧ w = (sh, am_uA I (o + 1) (f_srt (I (o + 1)) q), R, L, g)) (fun _ _ => False) 2 [some (.ref o), some (.int x), none, none] [] (sh, J, R, L, g) 0 0 := by
    refine am_rec q (fun k2 hk2 ih2 => ?_)
    intro x J hi2
    obtain ⟨hx, hJ⟩ := hi2
    have hJq : J o 3 = nI q := by rw [hJ, am_uA_o _ _ _ (by omega)]; exact hq
    refine AW.iload_n dX5_sortDown_2 rfl ?_
    refine AW.aload_n dX5_sortDown_3 rfl ?_
    refine AW.getI (fX5_29 hG).r rfl (ho.1 0 _ rfl) dX5_sortDown_4 ?_
    refine AW.icmp_ge 75 dX5_sortDown_7 (by decide) (fun h7 => ?_) (fun h7 => ?_)
    · have hke := k_ge h7 hx hJq hk2 (by omega)
      subst hke
      exact AW.vret dX5_sortDown_75 rfl (by decide) (by decide) (⟨rfl, by rw [hJ]⟩)
    · have hlt := k_lt h7 hx hJq hk2 (by omega)
      refine AW.iload_n dX5_sortDown_10 rfl ?_
      refine AW.is_n [some (.ref o), some (.int x), some (.int x), none] dX5_sortDown_11 (by decide) rfl rfl ?_
      have L12 : ∀ k12, k12 ≤ k2 → ∀ (y : Int32) (J2 : Nat → Nat → Int32), (k12 ≤ k2 ∧ y = nI (k2 - k12) ∧ J2 = am_uA I (o + 1) (J2 (o + 1)) ∧ f_ins (J2 (o + 1)) (k2 - k12) = f_srt (I (o + 1)) (k2 + 1)) → AW G mX5_sortDown d (fun v w => v = none ∧ w = (sh, am_uA I (o + 1) (f_srt (I (o + 1)) q), R, L, g)) (fun _ _ => False) 12 [some (.ref o), some (.int x), some (.int y), none] [] (sh, J2, R, L, g) 0 0 := by
        refine am_rec k2 (fun k12 hk12 ih12 => ?_)
        intro y J2 hi12
        obtain ⟨hkk, hy, hJ2, hrem⟩ := hi12
        refine AW.iload_n dX5_sortDown_12 rfl ?_
        refine AW.if_le 69 dX5_sortDown_13 (by decide) (fun h13 => ?_) (fun h13 => ?_)
        · have h0 : k2 - k12 = 0 := by
            rcases Nat.eq_zero_or_pos (k2 - k12) with h | h
            · exact h
            · exact absurd h13 (by rw [hy]; exact nI_nle h (by omega))
          have hend : J2 = am_uA I (o + 1) (f_srt (I (o + 1)) (k2 + 1)) := by rw [← hrem, h0]; exact hJ2
          refine AW.inc (fun x69 => [some (.ref o), some (.int x69), some (.int y), none]) dX5_sortDown_69 rfl (by decide) rfl (fun _ => rfl) (fun x69 ex69 => ?_)
          refine AW.goto 2 dX5_sortDown_72 (by decide) ?_
          refine AW.mask [2, 3] [some (.ref o), some (.int x69), none, none] rfl ?_
          exact ih2 (k2 + 1) (by omega) (by omega) _ _ (⟨k_inc (by assumption) hx, hend⟩)
        · have h0 : 0 < k2 - k12 := by
            rcases Nat.eq_zero_or_pos (k2 - k12) with h | h
            · exact absurd (by rw [hy, h]; decide) h13
            · exact h
          have hby : vp_in y 6 := by rw [hy]; exact vp_in_nI (by omega) (by decide)
          have hcy : y.toNatClampNeg = k2 - (k12 + 1) + 1 := by rw [hy, show k2 - k12 = (k2 - (k12 + 1)) + 1 by omega]; exact nI_clamp (by omega)
          have hm1 : y - 1 = nI (k2 - (k12 + 1)) := by rw [hy, show k2 - k12 = (k2 - (k12 + 1)) + 1 by omega]; exact nI_pred _
          have hm1b : vp_in (y - 1) 6 := by rw [hm1]; exact vp_in_nI (by omega) (by decide)
          have hm1c : (y - 1).toNatClampNeg = k2 - (k12 + 1) := k_lit hm1 (by omega)
          refine AW.aload_n dX5_sortDown_16 rfl ?_
          refine AW.getR (c' := (o + 1)) (fX5_9 hG).r rfl (ho.1 0 _ rfl) (ho.2 (0, 0, 1) (by decide)) dX5_sortDown_17 ?_
          refine AW.iload_n dX5_sortDown_20 rfl ?_
          refine AW.iconst 1 dX5_sortDown_21 (by decide) ?_
          refine AW.isub dX5_sortDown_22 ?_
          refine AW.iald (ho.1 1 _ rfl) (by first | assumption | (unfold vp_in; decide) | exact vp_in_nI (by omega) (by decide)) dX5_sortDown_23 ?_
          refine AW.aload_n dX5_sortDown_24 rfl ?_
          refine AW.getR (c' := (o + 1)) (fX5_9 hG).r rfl (ho.1 0 _ rfl) (ho.2 (0, 0, 1) (by decide)) dX5_sortDown_25 ?_
          refine AW.iload_n dX5_sortDown_28 rfl ?_
          refine AW.iald (ho.1 1 _ rfl) (by first | assumption | (unfold vp_in; decide) | exact vp_in_nI (by omega) (by decide)) dX5_sortDown_29 ?_
          refine AW.icmp_ge 69 dX5_sortDown_30 (by decide) (fun h30 => ?_) (fun h30 => ?_)
          · rw [hm1c, hcy] at h30
            have hend : J2 = am_uA I (o + 1) (f_srt (I (o + 1)) (k2 + 1)) := by
              rw [← hrem, show k2 - k12 = (k2 - (k12 + 1)) + 1 by omega]
              refine hJ2.trans (congrArg (am_uA I (o + 1)) ?_)
              show _ = (if _ then _ else _)
              rw [if_neg (Int32.not_lt.mpr h30)]
            refine AW.inc (fun x69 => [some (.ref o), some (.int x69), some (.int y), none]) dX5_sortDown_69 rfl (by decide) rfl (fun _ => rfl) (fun x69 ex69 => ?_)
            refine AW.goto 2 dX5_sortDown_72 (by decide) ?_
            refine AW.mask [2, 3] [some (.ref o), some (.int x69), none, none] rfl ?_
            exact ih2 (k2 + 1) (by omega) (by omega) _ _ (⟨k_inc (by assumption) hx, hend⟩)
          · rw [hm1c, hcy] at h30
            have hlts := Int32.not_le.mp h30
            refine AW.aload_n dX5_sortDown_33 rfl ?_
            refine AW.getR (c' := (o + 1)) (fX5_9 hG).r rfl (ho.1 0 _ rfl) (ho.2 (0, 0, 1) (by decide)) dX5_sortDown_34 ?_
            refine AW.iload_n dX5_sortDown_37 rfl ?_
            refine AW.iald (ho.1 1 _ rfl) (by first | assumption | (unfold vp_in; decide) | exact vp_in_nI (by omega) (by decide)) dX5_sortDown_38 ?_
            refine AW.nam (fun x39 ex39 => ?_)
            refine AW.is_n [some (.ref o), some (.int x), some (.int y), some (.int x39)] dX5_sortDown_39 (by decide) rfl rfl ?_
            refine AW.aload_n dX5_sortDown_40 rfl ?_
            refine AW.getR (c' := (o + 1)) (fX5_9 hG).r rfl (ho.1 0 _ rfl) (ho.2 (0, 0, 1) (by decide)) dX5_sortDown_41 ?_
            refine AW.iload_n dX5_sortDown_44 rfl ?_
            refine AW.aload_n dX5_sortDown_45 rfl ?_
            refine AW.getR (c' := (o + 1)) (fX5_9 hG).r rfl (ho.1 0 _ rfl) (ho.2 (0, 0, 1) (by decide)) dX5_sortDown_46 ?_
            refine AW.iload_n dX5_sortDown_49 rfl ?_
            refine AW.iconst 1 dX5_sortDown_50 (by decide) ?_
            refine AW.isub dX5_sortDown_51 ?_
            refine AW.iald (ho.1 1 _ rfl) (by first | assumption | (unfold vp_in; decide) | exact vp_in_nI (by omega) (by decide)) dX5_sortDown_52 ?_
            refine AW.iast (ho.1 1 _ rfl) (by first | assumption | (unfold vp_in; decide) | exact vp_in_nI (by omega) (by decide)) dX5_sortDown_53 ?_
            refine AW.namI (fun I53 eI53 => ?_)
            refine AW.aload_n dX5_sortDown_54 rfl ?_
            refine AW.getR (c' := (o + 1)) (fX5_9 hG).r rfl (ho.1 0 _ rfl) (ho.2 (0, 0, 1) (by decide)) dX5_sortDown_55 ?_
            refine AW.iload_n dX5_sortDown_58 rfl ?_
            refine AW.iconst 1 dX5_sortDown_59 (by decide) ?_
            refine AW.isub dX5_sortDown_60 ?_
            refine AW.iload_n dX5_sortDown_61 rfl ?_
            refine AW.iast (ho.1 1 _ rfl) (by first | assumption | (unfold vp_in; decide) | exact vp_in_nI (by omega) (by decide)) dX5_sortDown_62 ?_
            refine AW.namI (fun I62 eI62 => ?_)
            refine AW.inc (fun x63 => [some (.ref o), some (.int x), some (.int x63), some (.int x39)]) dX5_sortDown_63 rfl (by decide) rfl (fun _ => rfl) (fun x63 ex63 => ?_)
            refine AW.goto 12 dX5_sortDown_66 (by decide) ?_
            refine AW.mask [3] [some (.ref o), some (.int x), some (.int x63), none] rfl ?_
            exact ih12 (k12 + 1) (by omega) (by omega) _ _ (⟨by omega, by rw [ex63, hy, show k2 - k12 = (k2 - (k12 + 1)) + 1 by omega]; exact pk_m1 _, by rw [eI62, am_up_uA, am_uA_s, eI53, am_up_uA, am_uA_uA, hJ2, am_uA_uA, am_uA_s], by rw [← hrem, show k2 - k12 = (k2 - (k12 + 1)) + 1 by omega]; show _ = (if _ then _ else _); rw [if_pos hlts, eI62, am_up_s, eI53, am_up_s, ex39, hm1c, hcy]; try rfl⟩)
      exact L12 0 (by omega) _ _ (⟨Nat.zero_le _, hx, by rw [hJ, am_uA_s], by rw [hJ, am_uA_s]; rfl⟩)
  exact L2 1 (by omega) _ _ (⟨rfl, (am_uA_id _ _).symm⟩)
theorem dX5_placeBehind_0 : decode cX5_placeBehind 0 = .ok (.iload_n 2, 1) := by decide +kernel
theorem dX5_placeBehind_1 : decode cX5_placeBehind 1 = .ok (.iconst 1, 1) := by decide +kernel
theorem dX5_placeBehind_2 : decode cX5_placeBehind 2 = .ok (.iadd, 1) := by decide +kernel
theorem dX5_placeBehind_3 : decode cX5_placeBehind 3 = .ok (.istore 4, 2) := by decide +kernel
theorem dX5_placeBehind_5 : decode cX5_placeBehind 5 = .ok (.iload 4, 2) := by decide +kernel
theorem dX5_placeBehind_7 : decode cX5_placeBehind 7 = .ok (.aload_n 0, 1) := by decide +kernel
theorem dX5_placeBehind_8 : decode cX5_placeBehind 8 = .ok (.getfield 87, 3) := by decide +kernel
theorem dX5_placeBehind_11 : decode cX5_placeBehind 11 = .ok (.iload_n 1, 1) := by decide +kernel
theorem dX5_placeBehind_12 : decode cX5_placeBehind 12 = .ok (.iaload, 1) := by decide +kernel
theorem dX5_placeBehind_13 : decode cX5_placeBehind 13 = .ok (.if_icmp .ge 23, 3) := by decide +kernel
theorem dX5_placeBehind_16 : decode cX5_placeBehind 16 = .ok (.aload_n 0, 1) := by decide +kernel
theorem dX5_placeBehind_17 : decode cX5_placeBehind 17 = .ok (.iload_n 1, 1) := by decide +kernel
theorem dX5_placeBehind_18 : decode cX5_placeBehind 18 = .ok (.iload 4, 2) := by decide +kernel
theorem dX5_placeBehind_20 : decode cX5_placeBehind 20 = .ok (.invokevirtual 93, 3) := by decide +kernel
theorem dX5_placeBehind_23 : decode cX5_placeBehind 23 = .ok (.iload_n 3, 1) := by decide +kernel
theorem dX5_placeBehind_24 : decode cX5_placeBehind 24 = .ok (.if_icmp .ne 6, 3) := by decide +kernel
theorem dX5_placeBehind_27 : decode cX5_placeBehind 27 = .ok (.iload 4, 2) := by decide +kernel
theorem dX5_placeBehind_29 : decode cX5_placeBehind 29 = .ok (.ireturn, 1) := by decide +kernel
theorem dX5_placeBehind_30 : decode cX5_placeBehind 30 = .ok (.iinc 4 1, 3) := by decide +kernel
theorem dX5_placeBehind_33 : decode cX5_placeBehind 33 = .ok (.goto (-28), 3) := by decide +kernel
theorem dX5_placeBehind_36 : decode cX5_placeBehind 36 = .ok (.iconst (-1), 1) := by decide +kernel
theorem dX5_placeBehind_37 : decode cX5_placeBehind 37 = .ok (.ireturn, 1) := by decide +kernel
set_option maxRecDepth 100000 in
set_option maxHeartbeats 4000000 in
theorem k_X5_placeBehind {G : am_G} (hK : k_OK G) {d : Nat} (hd : 1 ≤ d) {sh : List (Nat ⊕ (Nat × Nat))} {I : Nat → Nat → Int32} {R : Nat → Nat → Option Nat} {L : Nat → Nat → Int64} {g : Nat} {l lf q ec : Nat} (hl : k_Loaves sh R l) (x y p : Int32) (hx : x = nI lf) (hlf : lf < 6) (hy : y = nI q) (hec : I (l + 5) lf = nI ec) (hec6 : ec ≤ 6) (hq : q < ec) : AM G mX5_placeBehind d [.ref l, .int x, .int y, .int p] (sh, I, R, L, g) (fun v w => v = some (.int (f_pb (fun j => I (l + 7) (6 * lf + j)) p q ec)) ∧ w = (sh, I, R, L, g)) (fun _ _ => False) := by
  have hG := hK.1
  have hcx : x.toNatClampNeg = lf := k_lit hx (by omega)
  have hbx : vp_in x 6 := by rw [hx]; exact vp_in_nI hlf (by decide)
  refine AM.of (n := 1) (by decide +kernel) (Nat.le_of_ble_eq_true rfl) ?_
  show AW G mX5_placeBehind d (fun v w => v = some (.int (f_pb (fun j => I (l + 7) (6 * lf + j)) p q ec)) ∧ w = (sh, I, R, L, g)) (fun _ _ => False) 0 [some (.ref l), some (.int x), some (.int y), some (.int p), none] [] (sh, I, R, L, g) 0 0
  refine AW.iload_n dX5_placeBehind_0 rfl ?_
  refine AW.iconst 1 dX5_placeBehind_1 (by decide) ?_
  refine AW.iadd dX5_placeBehind_2 ?_
  refine AW.nam (fun x3 ex3 => ?_)
  refine AW.is [some (.ref l), some (.int x), some (.int y), some (.int p), some (.int x3)] dX5_placeBehind_3 (by decide) rfl rfl ?_
  have L5 : ∀ k5, k5 ≤ ec → ∀ (z : Int32), (z = nI k5 ∧ f_pb (fun j => I (l + 7) (6 * lf + j)) p q ec = f_pb1 (fun j => I (l + 7) (6 * lf + j)) p k5 (ec - k5)) → AW G mX5_placeBehind d (fun v w => v = some (.int (f_pb (fun j => I (l + 7) (6 * lf + j)) p q ec)) ∧ w = (sh, I, R, L, g)) (fun _ _ => False) 5 [some (.ref l), some (.int x), some (.int y), some (.int p), some (.int z)] [] (sh, I, R, L, g) 0 0 := by
    refine am_rec ec (fun k5 hk5 ih5 => ?_)
    intro z hi5
    obtain ⟨hz, hr⟩ := hi5
    refine AW.iload dX5_placeBehind_5 rfl ?_
    refine AW.aload_n dX5_placeBehind_7 rfl ?_
    refine AW.getR (c' := (l + 5)) (fX5_87 hG) rfl (hl.1 0 _ rfl) (hl.2 (0, 5, 5) (by decide)) dX5_placeBehind_8 ?_
    refine AW.iload_n dX5_placeBehind_11 rfl ?_
    refine AW.iald (hl.1 5 _ rfl) (by first | assumption | (unfold vp_in; decide) | exact vp_in_nI (by omega) (by decide)) dX5_placeBehind_12 ?_
    refine AW.icmp_ge 36 dX5_placeBehind_13 (by decide) (fun h13 => ?_) (fun h13 => ?_)
    · rw [hcx] at h13
      have hke := k_ge h13 hz hec hk5 (by omega)
      refine AW.iconst (-1) dX5_placeBehind_36 (by decide) ?_
      exact AW.iret dX5_placeBehind_37 rfl (by decide) (by decide) (⟨by rw [hr, hke, Nat.sub_self]; rfl, rfl⟩)
    · rw [hcx] at h13
      have hlt := k_lt h13 hz hec hk5 (by omega)
      have hix : x * 6 + z = nI (6 * lf + k5) := k_66 rfl hx hz
      have hbix : vp_in (x * 6 + z) 36 := by rw [hix]; exact vp_in_nI (by omega) (by decide)
      have hcix : (x * 6 + z).toNatClampNeg = 6 * lf + k5 := k_lit hix (by omega)
      refine AW.aload_n dX5_placeBehind_16 rfl ?_
      refine AW.iload_n dX5_placeBehind_17 rfl ?_
      refine AW.iload dX5_placeBehind_18 rfl ?_
      refine AW.callV (b := l) (As := [.int x, .int z]) hG.2.2 (vX5_93 hG) (hl.1 0 _ rfl) (k_X3_eater hK (d := 0) (Nat.le_refl _) hl x z (by assumption)) (by omega) dX5_placeBehind_20 rfl rfl (Nat.le_of_ble_eq_true rfl) (fun v w9 hq9 h09 => by obtain ⟨rfl, rfl⟩ := hq9; exact ⟨h09, rfl⟩) (by decide) (by decide) (fun _ _ hx => hx) (fun v20 w20 hq20 => ?_)
      obtain ⟨rfl, rfl⟩ := hq20
      refine AW.nam (fun x20 ex20 => ?_)
      refine AW.iload_n dX5_placeBehind_23 rfl ?_
      refine AW.icmp_ne 30 dX5_placeBehind_24 (by decide) (fun h24 => ?_) (fun h24 => ?_)
      · rw [ex20, hcix] at h24
        refine AW.inc (fun x30 => [some (.ref l), some (.int x), some (.int y), some (.int p), some (.int x30)]) dX5_placeBehind_30 rfl (by decide) rfl (fun _ => rfl) (fun x30 ex30 => ?_)
        refine AW.goto 5 dX5_placeBehind_33 (by decide) ?_
        exact ih5 (k5 + 1) (by omega) (by omega) _ (⟨k_inc (by assumption) hz, by rw [hr, show ec - k5 = (ec - (k5 + 1)) + 1 by omega]; show (if _ then _ else _) = _; rw [if_neg h24]⟩)
      · rw [ex20, hcix] at h24
        refine AW.iload dX5_placeBehind_27 rfl ?_
        exact AW.iret dX5_placeBehind_29 rfl (by decide) (by decide) (⟨by rw [hr, show ec - k5 = (ec - (k5 + 1)) + 1 by omega]; show _ = some (Value.int (if _ then _ else _)); rw [if_pos h24, hz], rfl⟩)
  exact L5 (q + 1) (by omega) _ (⟨by rw [ex3, hy]; exact nI_1 _, rfl⟩)
theorem f_pb1_c (ea : Nat → Int32) (p : Int32) : ∀ n j, f_pb1 ea p j n = -1 ∨ ∃ k, j ≤ k ∧ k < j + n ∧ f_pb1 ea p j n = nI k ∧ ea k = p := by
  intro n
  induction n with
  | zero => exact fun j => Or.inl rfl
  | succ n ih =>
    intro j
    by_cases h : ea j = p
    · exact Or.inr ⟨j, Nat.le_refl _, by omega, if_pos h, h⟩
    · have e : f_pb1 ea p j (n + 1) = f_pb1 ea p (j + 1) n := if_neg h
      rw [e]
      rcases ih (j + 1) with h1 | ⟨k, h1, h2, h3, h4⟩
      · exact Or.inl h1
      · exact Or.inr ⟨k, by omega, by omega, h3, h4⟩
def f_ho1 (tw ea sl : Nat → Int32) (mn ec i : Nat) (st : Nat × (Nat → Int32)) : Nat × (Nat → Int32) :=
  if f_pb ea (tw (ea i).toNatClampNeg) i ec = -1 then (if nI mn ≤ nI st.1 then st else (st.1 + 1, upd st.2 i (sl st.1))) else (st.1, upd st.2 i (st.2 (f_pb ea (tw (ea i).toNatClampNeg) i ec).toNatClampNeg))
def f_ho (tw ea sl : Nat → Int32) (mn ec : Nat) (g0 : Nat → Int32) (k : Nat) : Nat × (Nat → Int32) := lfold (fun j st => f_ho1 tw ea sl mn ec (ec - 1 - j) st) (0, g0) k
theorem dX5_handOut_0 : decode cX5_handOut 0 = .ok (.aload_n 1, 1) := by decide +kernel
theorem dX5_handOut_1 : decode cX5_handOut 1 = .ok (.getfield 37, 3) := by decide +kernel
theorem dX5_handOut_4 : decode cX5_handOut 4 = .ok (.astore_n 3, 1) := by decide +kernel
theorem dX5_handOut_5 : decode cX5_handOut 5 = .ok (.aload_n 3, 1) := by decide +kernel
theorem dX5_handOut_6 : decode cX5_handOut 6 = .ok (.getfield 87, 3) := by decide +kernel
theorem dX5_handOut_9 : decode cX5_handOut 9 = .ok (.iload_n 2, 1) := by decide +kernel
theorem dX5_handOut_10 : decode cX5_handOut 10 = .ok (.iaload, 1) := by decide +kernel
theorem dX5_handOut_11 : decode cX5_handOut 11 = .ok (.istore 4, 2) := by decide +kernel
theorem dX5_handOut_13 : decode cX5_handOut 13 = .ok (.iconst 0, 1) := by decide +kernel
theorem dX5_handOut_14 : decode cX5_handOut 14 = .ok (.istore 5, 2) := by decide +kernel
theorem dX5_handOut_16 : decode cX5_handOut 16 = .ok (.iload 4, 2) := by decide +kernel
theorem dX5_handOut_18 : decode cX5_handOut 18 = .ok (.iconst 1, 1) := by decide +kernel
theorem dX5_handOut_19 : decode cX5_handOut 19 = .ok (.isub, 1) := by decide +kernel
theorem dX5_handOut_20 : decode cX5_handOut 20 = .ok (.istore 6, 2) := by decide +kernel
theorem dX5_handOut_22 : decode cX5_handOut 22 = .ok (.iload 6, 2) := by decide +kernel
theorem dX5_handOut_24 : decode cX5_handOut 24 = .ok (.ifCond .lt 79, 3) := by decide +kernel
theorem dX5_handOut_27 : decode cX5_handOut 27 = .ok (.aload_n 3, 1) := by decide +kernel
theorem dX5_handOut_28 : decode cX5_handOut 28 = .ok (.iload_n 2, 1) := by decide +kernel
theorem dX5_handOut_29 : decode cX5_handOut 29 = .ok (.iload 6, 2) := by decide +kernel
theorem dX5_handOut_31 : decode cX5_handOut 31 = .ok (.aload_n 1, 1) := by decide +kernel
theorem dX5_handOut_32 : decode cX5_handOut 32 = .ok (.getfield 90, 3) := by decide +kernel
theorem dX5_handOut_35 : decode cX5_handOut 35 = .ok (.aload_n 3, 1) := by decide +kernel
theorem dX5_handOut_36 : decode cX5_handOut 36 = .ok (.iload_n 2, 1) := by decide +kernel
theorem dX5_handOut_37 : decode cX5_handOut 37 = .ok (.iload 6, 2) := by decide +kernel
theorem dX5_handOut_39 : decode cX5_handOut 39 = .ok (.invokevirtual 93, 3) := by decide +kernel
theorem dX5_handOut_42 : decode cX5_handOut 42 = .ok (.iaload, 1) := by decide +kernel
theorem dX5_handOut_43 : decode cX5_handOut 43 = .ok (.invokestatic 96, 3) := by decide +kernel
theorem dX5_handOut_46 : decode cX5_handOut 46 = .ok (.istore 7, 2) := by decide +kernel
theorem dX5_handOut_48 : decode cX5_handOut 48 = .ok (.iload 7, 2) := by decide +kernel
theorem dX5_handOut_50 : decode cX5_handOut 50 = .ok (.iconst (-1), 1) := by decide +kernel
theorem dX5_handOut_51 : decode cX5_handOut 51 = .ok (.if_icmp .eq 20, 3) := by decide +kernel
theorem dX5_handOut_54 : decode cX5_handOut 54 = .ok (.aload_n 0, 1) := by decide +kernel
theorem dX5_handOut_55 : decode cX5_handOut 55 = .ok (.getfield 15, 3) := by decide +kernel
theorem dX5_handOut_58 : decode cX5_handOut 58 = .ok (.iload 6, 2) := by decide +kernel
theorem dX5_handOut_60 : decode cX5_handOut 60 = .ok (.aload_n 0, 1) := by decide +kernel
theorem dX5_handOut_61 : decode cX5_handOut 61 = .ok (.getfield 15, 3) := by decide +kernel
theorem dX5_handOut_64 : decode cX5_handOut 64 = .ok (.iload 7, 2) := by decide +kernel
theorem dX5_handOut_66 : decode cX5_handOut 66 = .ok (.iaload, 1) := by decide +kernel
theorem dX5_handOut_67 : decode cX5_handOut 67 = .ok (.iastore, 1) := by decide +kernel
theorem dX5_handOut_68 : decode cX5_handOut 68 = .ok (.goto 29, 3) := by decide +kernel
theorem dX5_handOut_71 : decode cX5_handOut 71 = .ok (.iload 5, 2) := by decide +kernel
theorem dX5_handOut_73 : decode cX5_handOut 73 = .ok (.aload_n 0, 1) := by decide +kernel
theorem dX5_handOut_74 : decode cX5_handOut 74 = .ok (.getfield 29, 3) := by decide +kernel
theorem dX5_handOut_77 : decode cX5_handOut 77 = .ok (.if_icmp .ge 20, 3) := by decide +kernel
theorem dX5_handOut_80 : decode cX5_handOut 80 = .ok (.aload_n 0, 1) := by decide +kernel
theorem dX5_handOut_81 : decode cX5_handOut 81 = .ok (.getfield 15, 3) := by decide +kernel
theorem dX5_handOut_84 : decode cX5_handOut 84 = .ok (.iload 6, 2) := by decide +kernel
theorem dX5_handOut_86 : decode cX5_handOut 86 = .ok (.aload_n 0, 1) := by decide +kernel
theorem dX5_handOut_87 : decode cX5_handOut 87 = .ok (.getfield 9, 3) := by decide +kernel
theorem dX5_handOut_90 : decode cX5_handOut 90 = .ok (.iload 5, 2) := by decide +kernel
theorem dX5_handOut_92 : decode cX5_handOut 92 = .ok (.iaload, 1) := by decide +kernel
theorem dX5_handOut_93 : decode cX5_handOut 93 = .ok (.iastore, 1) := by decide +kernel
theorem dX5_handOut_94 : decode cX5_handOut 94 = .ok (.iinc 5 1, 3) := by decide +kernel
theorem dX5_handOut_97 : decode cX5_handOut 97 = .ok (.iinc 6 (-1), 3) := by decide +kernel
theorem dX5_handOut_100 : decode cX5_handOut 100 = .ok (.goto (-78), 3) := by decide +kernel
theorem dX5_handOut_103 : decode cX5_handOut 103 = .ok (.return_, 1) := by decide +kernel
set_option maxRecDepth 100000 in
set_option maxHeartbeats 4000000 in
theorem k_X5_handOut {G : am_G} (hK : k_OK G) {d : Nat} (hd : 2 ≤ d) {sh : List (Nat ⊕ (Nat × Nat))} {I : Nat → Nat → Int32} {R : Nat → Nat → Option Nat} {L : Nat → Nat → Int64} {g : Nat} {o t lf ec mn : Nat} (ho : k_Portions sh R o) (ht : k_Town sh R t) (hot : o + 4 ≤ t ∨ t + 19 ≤ o) (x : Int32) (hx : x = nI lf) (hlf : lf < 6) (hec : I (t + 13) lf = nI ec) (hec6 : ec ≤ 6) (hmn : I o 3 = nI mn) (hmn6 : mn ≤ 6) (he : ∀ j, j < ec → vp_in (I (t + 15) (6 * lf + j)) 8) : AM G mX5_handOut d [.ref o, .ref t, .int x] (sh, I, R, L, g) (fun v w => v = none ∧ w = (sh, am_uA I (o + 2) (f_ho (I (t + 4)) (fun j => I (t + 15) (6 * lf + j)) (I (o + 1)) mn ec (I (o + 2)) ec).2, R, L, g)) (fun _ _ => False) := by
  have hG := hK.1
  have hcx : x.toNatClampNeg = lf := k_lit hx (by omega)
  have hbx : vp_in x 6 := by rw [hx]; exact vp_in_nI hlf (by decide)
  refine AM.of (n := 5) (by decide +kernel) (Nat.le_of_ble_eq_true rfl) ?_
  show AW G mX5_handOut d (fun v w => v = none ∧ w = (sh, am_uA I (o + 2) (f_ho (I (t + 4)) (fun j => I (t + 15) (6 * lf + j)) (I (o + 1)) mn ec (I (o + 2)) ec).2, R, L, g)) (fun _ _ => False) 0 [some (.ref o), some (.ref t), some (.int x), none, none, none, none, none] [] (sh, I, R, L, g) 0 0
  refine AW.aload_n dX5_handOut_0 rfl ?_
  refine AW.getR (c' := (t + 8)) (fX5_37 hG) rfl (ht.1 0 _ rfl) (ht.2 (0, 11, 8) (by decide)) dX5_handOut_1 ?_
  refine AW.as_n [some (.ref o), some (.ref t), some (.int x), some (.ref (t + 8)), none, none, none, none] dX5_handOut_4 (by decide) rfl rfl ?_
  refine AW.aload_n dX5_handOut_5 rfl ?_
  refine AW.getR (c' := (t + 13)) (fX5_87 hG) rfl (ht.1 8 _ rfl) (ht.2 (8, 5, 13) (by decide)) dX5_handOut_6 ?_
  refine AW.iload_n dX5_handOut_9 rfl ?_
  refine AW.iald (ht.1 13 _ rfl) (by first | assumption | (unfold vp_in; decide) | exact vp_in_nI (by omega) (by decide)) dX5_handOut_10 ?_
  refine AW.nam (fun x11 ex11 => ?_)
  refine AW.is [some (.ref o), some (.ref t), some (.int x), some (.ref (t + 8)), some (.int x11), none, none, none] dX5_handOut_11 (by decide) rfl rfl ?_
  have ex11 : x11 = nI ec := by rw [ex11, hcx]; exact hec
  refine AW.iconst 0 dX5_handOut_13 (by decide) ?_
  refine AW.is [some (.ref o), some (.ref t), some (.int x), some (.ref (t + 8)), some (.int x11), some (.int 0), none, none] dX5_handOut_14 (by decide) rfl rfl ?_
  refine AW.iload dX5_handOut_16 rfl ?_
  refine AW.iconst 1 dX5_handOut_18 (by decide) ?_
  refine AW.isub dX5_handOut_19 ?_
  refine AW.nam (fun x20 ex20 => ?_)
  refine AW.is [some (.ref o), some (.ref t), some (.int x), some (.ref (t + 8)), some (.int x11), some (.int 0), some (.int x20), none] dX5_handOut_20 (by decide) rfl rfl ?_
  have L22 : ∀ k22, k22 ≤ ec → ∀ (y z : Int32) (J : Nat → Nat → Int32), (z = nI (ec - k22) - 1 ∧ y = nI (f_ho (I (t + 4)) (fun j => I (t + 15) (6 * lf + j)) (I (o + 1)) mn ec (I (o + 2)) k22).1 ∧ (f_ho (I (t + 4)) (fun j => I (t + 15) (6 * lf + j)) (I (o + 1)) mn ec (I (o + 2)) k22).1 ≤ k22 ∧ J = am_uA I (o + 2) (f_ho (I (t + 4)) (fun j => I (t + 15) (6 * lf + j)) (I (o + 1)) mn ec (I (o + 2)) k22).2) → AW G mX5_handOut d (fun v w => v = none ∧ w = (sh, am_uA I (o + 2) (f_ho (I (t + 4)) (fun j => I (t + 15) (6 * lf + j)) (I (o + 1)) mn ec (I (o + 2)) ec).2, R, L, g)) (fun _ _ => False) 22 [some (.ref o), some (.ref t), some (.int x), some (.ref (t + 8)), some (.int x11), some (.int y), some (.int z), none] [] (sh, J, R, L, g) 0 0 := by
    refine am_rec ec (fun k22 hk22 ih22 => ?_)
    intro y z J hi22
    obtain ⟨hz, hy, hqk, hJ⟩ := hi22
    obtain ⟨q, S, hqS⟩ : ∃ q S, f_ho (I (t + 4)) (fun j => I (t + 15) (6 * lf + j)) (I (o + 1)) mn ec (I (o + 2)) k22 = (q, S) := ⟨_, _, rfl⟩
    rw [hqS] at hy hqk hJ
    have hy : y = nI q := hy
    have hqk : q ≤ k22 := hqk
    have hJ : J = am_uA I (o + 2) S := hJ
    have hJo : ∀ a, a ≠ o + 2 → J a = I a := fun a h => by rw [hJ, am_uA_o _ _ _ h]
    have hJec : J (t + 8 + 5) lf = nI ec := (congrFun (hJo (t + 13) (by omega)) lf).trans hec
    have qt := hJo (t + 4) (by omega)
    have qe : J (t + 8 + 7) = I (t + 15) := hJo (t + 15) (by omega)
    have qG : J (o + 2) = S := by rw [hJ, am_uA_s]
    have qs := hJo (o + 1) (by omega)
    have qo := hJo o (by omega)
    have hcy : y.toNatClampNeg = q := k_lit hy (by omega)
    refine AW.iload dX5_handOut_22 rfl ?_
    refine AW.if_lt 103 dX5_handOut_24 (by decide) (fun h24 => ?_) (fun h24 => ?_)
    · have hke : k22 = ec := by
        rcases Nat.lt_or_ge k22 ec with h | h
        · exact absurd h24 (by rw [hz, show ec - k22 = ec - 1 - k22 + 1 by omega, nI_pred]; exact nI_pos (by omega))
        · omega
      rw [hke] at hqS
      exact AW.vret dX5_handOut_103 rfl (by decide) (by decide) (⟨rfl, by rw [hqS, hJ]⟩)
    · have hlt : k22 < ec := by
        rcases Nat.lt_or_ge k22 ec with h | h
        · exact h
        · exact absurd (by rw [hz, show ec - k22 = 0 by omega]; decide) h24
      have hz2 : z = nI (ec - 1 - k22) := by rw [hz, show ec - k22 = ec - 1 - k22 + 1 by omega]; exact nI_pred _
      have hcz : z.toNatClampNeg = ec - 1 - k22 := k_lit hz2 (by omega)
      have hbz : vp_in z 6 := by rw [hz2]; exact vp_in_nI (by omega) (by decide)
      have hix : x * 6 + z = nI (6 * lf + (ec - 1 - k22)) := k_66 rfl hx hz2
      have hbix : vp_in (x * 6 + z) 36 := by rw [hix]; exact vp_in_nI (by omega) (by decide)
      have hcix : (x * 6 + z).toNatClampNeg = 6 * lf + (ec - 1 - k22) := k_lit hix (by omega)
      have hq9 : ec - 1 - k22 < ec := by omega
      refine AW.aload_n dX5_handOut_27 rfl ?_
      refine AW.iload_n dX5_handOut_28 rfl ?_
      refine AW.iload dX5_handOut_29 rfl ?_
      refine AW.aload_n dX5_handOut_31 rfl ?_
      refine AW.getR (c' := (t + 4)) (fX5_90 hG) rfl (ht.1 0 _ rfl) (ht.2 (0, 7, 4) (by decide)) dX5_handOut_32 ?_
      refine AW.aload_n dX5_handOut_35 rfl ?_
      refine AW.iload_n dX5_handOut_36 rfl ?_
      refine AW.iload dX5_handOut_37 rfl ?_
      refine AW.callV (b := (t + 8)) (As := [.int x, .int z]) hG.2.2 (vX5_93 hG) (ht.1 8 _ rfl) (k_X3_eater hK (d := 0) (Nat.le_refl _) (k_sub_Town_8 ht) x z (by assumption)) (by omega) dX5_handOut_39 rfl rfl (Nat.le_of_ble_eq_true rfl) (fun v w9 hq9 h09 => by obtain ⟨rfl, rfl⟩ := hq9; exact ⟨h09, rfl⟩) (by decide) (by decide) (fun _ _ hx => hx) (fun v39 w39 hq39 => ?_)
      obtain ⟨rfl, rfl⟩ := hq39
      refine AW.nam (fun x39 ex39 => ?_)
      have ex39 : x39 = I (t + 15) (6 * lf + (ec - 1 - k22)) := by rw [ex39, hcix]; exact congrFun qe _
      have hb39 : vp_in x39 8 := by rw [ex39]; exact he _ hq9
      refine AW.iald (ht.1 4 _ rfl) (by first | assumption | (unfold vp_in; decide) | exact vp_in_nI (by omega) (by decide)) dX5_handOut_42 ?_
      refine AW.callS (As := [.ref (t + 8), .int x, .int z, .int (J (t + 4) x39.toNatClampNeg)]) hG.2.2 (vX5_96 hG) (k_X5_placeBehind hK (d := 1) (Nat.le_refl _) (k_sub_Town_8 ht) x z (J (t + 4) x39.toNatClampNeg) (by assumption) (by assumption) (by assumption) (by assumption) (by assumption) (by assumption)) (by omega) dX5_handOut_43 rfl rfl (Nat.le_of_ble_eq_true rfl) (fun v w9 hq9 h09 => by obtain ⟨rfl, rfl⟩ := hq9; exact ⟨h09, rfl⟩) (by decide) (by decide) (fun _ _ hx => hx) (fun v43 w43 hq43 => ?_)
      obtain ⟨rfl, rfl⟩ := hq43
      refine AW.nam (fun x43 ex43 => ?_)
      have ex43 : x43 = f_pb (fun j => I (t + 15) (6 * lf + j)) (I (t + 4) (I (t + 15) (6 * lf + (ec - 1 - k22))).toNatClampNeg) (ec - 1 - k22) ec := by rw [ex43, qe, qt, ex39]
      refine AW.is [some (.ref o), some (.ref t), some (.int x), some (.ref (t + 8)), some (.int x11), some (.int y), some (.int z), some (.int x43)] dX5_handOut_46 (by decide) rfl rfl ?_
      refine AW.iload dX5_handOut_48 rfl ?_
      refine AW.iconst (-1) dX5_handOut_50 (by decide) ?_
      refine AW.icmp_eq 71 dX5_handOut_51 (by decide) (fun h51 => ?_) (fun h51 => ?_)
      · rw [ex43] at h51
        refine AW.iload dX5_handOut_71 rfl ?_
        refine AW.aload_n dX5_handOut_73 rfl ?_
        refine AW.getI (fX5_29 hG).r rfl (ho.1 0 _ rfl) dX5_handOut_74 ?_
        refine AW.icmp_ge 97 dX5_handOut_77 (by decide) (fun h77 => ?_) (fun h77 => ?_)
        · rw [qo] at h77
          refine AW.inc (fun x97 => [some (.ref o), some (.ref t), some (.int x), some (.ref (t + 8)), some (.int x11), some (.int y), some (.int x97), some (.int x43)]) dX5_handOut_97 rfl (by decide) rfl (fun _ => rfl) (fun x97 ex97 => ?_)
          refine AW.goto 22 dX5_handOut_100 (by decide) ?_
          refine AW.mask [7] [some (.ref o), some (.ref t), some (.int x), some (.ref (t + 8)), some (.int x11), some (.int y), some (.int x97), none] rfl ?_
          exact ih22 (k22 + 1) (by omega) (by omega) _ _ _ (by
            have hF : f_ho (I (t + 4)) (fun j => I (t + 15) (6 * lf + j)) (I (o + 1)) mn ec (I (o + 2)) (k22 + 1) = (q, S) := by rw [show f_ho (I (t + 4)) (fun j => I (t + 15) (6 * lf + j)) (I (o + 1)) mn ec (I (o + 2)) (k22 + 1) = f_ho1 (I (t + 4)) (fun j => I (t + 15) (6 * lf + j)) (I (o + 1)) mn ec (ec - 1 - k22) (f_ho (I (t + 4)) (fun j => I (t + 15) (6 * lf + j)) (I (o + 1)) mn ec (I (o + 2)) k22) from rfl, hqS]; unfold f_ho1; rw [if_pos h51, if_pos (by rw [hmn, hy] at h77; exact h77)]
            exact ⟨by rw [ex97, hz2, show ec - (k22 + 1) = ec - 1 - k22 by omega, Int32.sub_eq_add_neg]; exact congrArg (nI (ec - 1 - k22) + ·) (by decide), by rw [hF]; exact hy, by rw [hF]; show q ≤ k22 + 1; omega, by rw [hF]; exact hJ⟩)
        · rw [qo] at h77
          have hq6 : q < 6 := by
            rcases Nat.lt_or_ge q 6 with h | h
            · exact h
            · exact absurd (by rw [hmn, hy]; exact nI_le (by omega) (by omega)) h77
          have hby : vp_in y 6 := by rw [hy]; exact vp_in_nI hq6 (by decide)
          refine AW.aload_n dX5_handOut_80 rfl ?_
          refine AW.getR (c' := (o + 2)) (fX5_15 hG).r rfl (ho.1 0 _ rfl) (ho.2 (0, 1, 2) (by decide)) dX5_handOut_81 ?_
          refine AW.iload dX5_handOut_84 rfl ?_
          refine AW.aload_n dX5_handOut_86 rfl ?_
          refine AW.getR (c' := (o + 1)) (fX5_9 hG).r rfl (ho.1 0 _ rfl) (ho.2 (0, 0, 1) (by decide)) dX5_handOut_87 ?_
          refine AW.iload dX5_handOut_90 rfl ?_
          refine AW.iald (ho.1 1 _ rfl) (by first | assumption | (unfold vp_in; decide) | exact vp_in_nI (by omega) (by decide)) dX5_handOut_92 ?_
          refine AW.iast (ho.1 2 _ rfl) (by first | assumption | (unfold vp_in; decide) | exact vp_in_nI (by omega) (by decide)) dX5_handOut_93 ?_
          refine AW.namI (fun I93 eI93 => ?_)
          refine AW.inc (fun x94 => [some (.ref o), some (.ref t), some (.int x), some (.ref (t + 8)), some (.int x11), some (.int x94), some (.int z), some (.int x43)]) dX5_handOut_94 rfl (by decide) rfl (fun _ => rfl) (fun x94 ex94 => ?_)
          refine AW.inc (fun x97 => [some (.ref o), some (.ref t), some (.int x), some (.ref (t + 8)), some (.int x11), some (.int x94), some (.int x97), some (.int x43)]) dX5_handOut_97 rfl (by decide) rfl (fun _ => rfl) (fun x97 ex97 => ?_)
          refine AW.goto 22 dX5_handOut_100 (by decide) ?_
          refine AW.mask [7] [some (.ref o), some (.ref t), some (.int x), some (.ref (t + 8)), some (.int x11), some (.int x94), some (.int x97), none] rfl ?_
          exact ih22 (k22 + 1) (by omega) (by omega) _ _ _ (by
            have hF : f_ho (I (t + 4)) (fun j => I (t + 15) (6 * lf + j)) (I (o + 1)) mn ec (I (o + 2)) (k22 + 1) = ((q + 1), (upd S (ec - 1 - k22) (I (o + 1) q))) := by rw [show f_ho (I (t + 4)) (fun j => I (t + 15) (6 * lf + j)) (I (o + 1)) mn ec (I (o + 2)) (k22 + 1) = f_ho1 (I (t + 4)) (fun j => I (t + 15) (6 * lf + j)) (I (o + 1)) mn ec (ec - 1 - k22) (f_ho (I (t + 4)) (fun j => I (t + 15) (6 * lf + j)) (I (o + 1)) mn ec (I (o + 2)) k22) from rfl, hqS]; unfold f_ho1; rw [if_pos h51, if_neg (by rw [hmn, hy] at h77; exact h77)]
            exact ⟨by rw [ex97, hz2, show ec - (k22 + 1) = ec - 1 - k22 by omega, Int32.sub_eq_add_neg]; exact congrArg (nI (ec - 1 - k22) + ·) (by decide), by rw [hF]; exact k_inc (by assumption) hy, by rw [hF]; show (q + 1) ≤ k22 + 1; omega, by rw [hF]; exact by rw [eI93, hcz, hcy, qs, hJ]; simp (disch := omega) only [am_up_uA, am_uA_s, am_uA_o, am_uA_uA]⟩)
      · rw [ex43] at h51
        have hb43 : vp_in x43 6 := by
          rcases f_pb1_c (fun j => I (t + 15) (6 * lf + j)) (I (t + 4) (I (t + 15) (6 * lf + (ec - 1 - k22))).toNatClampNeg) (ec - (ec - 1 - k22 + 1)) (ec - 1 - k22 + 1) with h | ⟨k, h1, h2, h3, -⟩
          · exact absurd h h51
          · rw [ex43, show f_pb (fun j => I (t + 15) (6 * lf + j)) (I (t + 4) (I (t + 15) (6 * lf + (ec - 1 - k22))).toNatClampNeg) (ec - 1 - k22) ec = nI k from h3]; exact vp_in_nI (by omega) (by decide)
        refine AW.aload_n dX5_handOut_54 rfl ?_
        refine AW.getR (c' := (o + 2)) (fX5_15 hG).r rfl (ho.1 0 _ rfl) (ho.2 (0, 1, 2) (by decide)) dX5_handOut_55 ?_
        refine AW.iload dX5_handOut_58 rfl ?_
        refine AW.aload_n dX5_handOut_60 rfl ?_
        refine AW.getR (c' := (o + 2)) (fX5_15 hG).r rfl (ho.1 0 _ rfl) (ho.2 (0, 1, 2) (by decide)) dX5_handOut_61 ?_
        refine AW.iload dX5_handOut_64 rfl ?_
        refine AW.iald (ho.1 2 _ rfl) (by first | assumption | (unfold vp_in; decide) | exact vp_in_nI (by omega) (by decide)) dX5_handOut_66 ?_
        refine AW.iast (ho.1 2 _ rfl) (by first | assumption | (unfold vp_in; decide) | exact vp_in_nI (by omega) (by decide)) dX5_handOut_67 ?_
        refine AW.namI (fun I67 eI67 => ?_)
        refine AW.goto 97 dX5_handOut_68 (by decide) ?_
        refine AW.inc (fun x97 => [some (.ref o), some (.ref t), some (.int x), some (.ref (t + 8)), some (.int x11), some (.int y), some (.int x97), some (.int x43)]) dX5_handOut_97 rfl (by decide) rfl (fun _ => rfl) (fun x97 ex97 => ?_)
        refine AW.goto 22 dX5_handOut_100 (by decide) ?_
        refine AW.mask [7] [some (.ref o), some (.ref t), some (.int x), some (.ref (t + 8)), some (.int x11), some (.int y), some (.int x97), none] rfl ?_
        exact ih22 (k22 + 1) (by omega) (by omega) _ _ _ (by
          have hF : f_ho (I (t + 4)) (fun j => I (t + 15) (6 * lf + j)) (I (o + 1)) mn ec (I (o + 2)) (k22 + 1) = (q, (upd S (ec - 1 - k22) (S (f_pb (fun j => I (t + 15) (6 * lf + j)) (I (t + 4) (I (t + 15) (6 * lf + (ec - 1 - k22))).toNatClampNeg) (ec - 1 - k22) ec).toNatClampNeg))) := by rw [show f_ho (I (t + 4)) (fun j => I (t + 15) (6 * lf + j)) (I (o + 1)) mn ec (I (o + 2)) (k22 + 1) = f_ho1 (I (t + 4)) (fun j => I (t + 15) (6 * lf + j)) (I (o + 1)) mn ec (ec - 1 - k22) (f_ho (I (t + 4)) (fun j => I (t + 15) (6 * lf + j)) (I (o + 1)) mn ec (I (o + 2)) k22) from rfl, hqS]; unfold f_ho1; rw [if_neg h51]
          exact ⟨by rw [ex97, hz2, show ec - (k22 + 1) = ec - 1 - k22 by omega, Int32.sub_eq_add_neg]; exact congrArg (nI (ec - 1 - k22) + ·) (by decide), by rw [hF]; exact hy, by rw [hF]; show q ≤ k22 + 1; omega, by rw [hF]; exact by rw [eI67, hcz, qG, hJ, ex43]; simp (disch := omega) only [am_up_uA, am_uA_s, am_uA_o, am_uA_uA]⟩)
  exact L22 0 (by omega) _ _ _ (⟨by rw [ex20, ex11]; rfl, nI_0.symm, Nat.zero_le _, (am_uA_id _ _).symm⟩)
