/-! PORTIONS: weigh, divide -/
def f_cl (w : Int32) : Int32 := f_mx 1 (if w < 99 then w else 99)
def f_rl (len kd : Int32) : Bool := decide (¬ len ≤ 0) && decide (¬ kd = 2)
def f_wg1 (ss : Nat → Int32) (len : Nat) (rl : Bool) (kd : Int32) (mn k : Nat) (q : (Nat → Int32) × (Nat → Int32) × (Nat → Int32)) : (Nat → Int32) × (Nat → Int32) × (Nat → Int32) :=
  let V := upd q.1 0 (if ¬ kd = 1 then nI k else nI mn - 1 - nI k)
  if rl then (V, (f_ev V ss q.2.1 len).2, upd q.2.2 k (f_cl ((f_ev V ss q.2.1 len).2 0))) else (V, q.2.1, upd q.2.2 k (f_cl 1))
def f_wg (ss : Nat → Int32) (len : Nat) (rl : Bool) (kd : Int32) (mn : Nat) (q0 : (Nat → Int32) × (Nat → Int32) × (Nat → Int32)) (k : Nat) : (Nat → Int32) × (Nat → Int32) × (Nat → Int32) := lfold (fun j q => f_wg1 ss len rl kd mn j q) q0 k
def f_v0 (V : Nat → Int32) (mn sz kd hg tk : Int32) : Nat → Int32 := upd (upd (upd (upd (upd V 1 mn) 2 sz) 3 kd) 4 hg) 5 tk
/-- the three rows of a division: what was asked, the stack, the slices -/
def f_W3 (I : Nat → Nat → Int32) (o t b pj lf len mn k : Nat) : (Nat → Int32) × (Nat → Int32) × (Nat → Int32) := f_wg (I (t + 17)) len (f_rl (I (t + 16) 2) (I (t + 1) pj)) (I (t + 1) pj) mn (f_v0 (I (o + 3)) (nI mn) (I (t + 10) lf) (I (t + 1) pj) (I (t + 3) pj) (I (b + 3) pj), I (t + 18), I (o + 1)) k
def f_w3 (I : Nat → Nat → Int32) (o t : Nat) (q : (Nat → Int32) × (Nat → Int32) × (Nat → Int32)) : Nat → Nat → Int32 := am_uA (am_uA (am_uA I (t + 18) q.2.1) (o + 3) q.1) (o + 1) q.2.2
theorem f_w3_o {I : Nat → Nat → Int32} {o t : Nat} {q : (Nat → Int32) × (Nat → Int32) × (Nat → Int32)} {a : Nat} (h1 : a ≠ t + 18) (h2 : a ≠ o + 3) (h3 : a ≠ o + 1) : f_w3 I o t q a = I a := by
  unfold f_w3
  rw [am_uA_o _ _ _ h3, am_uA_o _ _ _ h2, am_uA_o _ _ _ h1]
theorem f_w3_e {I J : Nat → Nat → Int32} {o t : Nat} {q : (Nat → Int32) × (Nat → Int32) × (Nat → Int32)} (hot : o + 4 ≤ t ∨ t + 19 ≤ o) (h1 : J (t + 18) = q.2.1) (h2 : J (o + 3) = q.1) (h3 : J (o + 1) = q.2.2) (h : ∀ a, a ≠ t + 18 → a ≠ o + 3 → a ≠ o + 1 → J a = I a) : J = f_w3 I o t q := by
  funext a
  by_cases e3 : a = o + 1
  · rw [e3, h3]; unfold f_w3; rw [am_uA_s]
  · by_cases e2 : a = o + 3
    · rw [e2, h2]; unfold f_w3; rw [am_uA_o _ _ _ (by omega), am_uA_s]
    · by_cases e1 : a = t + 18
      · rw [e1, h1]; unfold f_w3; rw [am_uA_o _ _ _ (by omega), am_uA_o _ _ _ (by omega), am_uA_s]
      · rw [h a e1 e2 e3, f_w3_o e1 e2 e3]
theorem dX5_weigh_0 : decode cX5_weigh 0 = .ok (.aload_n 1, 1) := by decide +kernel
theorem dX5_weigh_1 : decode cX5_weigh 1 = .ok (.getfield 56, 3) := by decide +kernel
theorem dX5_weigh_4 : decode cX5_weigh 4 = .ok (.iload_n 3, 1) := by decide +kernel
theorem dX5_weigh_5 : decode cX5_weigh 5 = .ok (.iaload, 1) := by decide +kernel
theorem dX5_weigh_6 : decode cX5_weigh 6 = .ok (.istore 5, 2) := by decide +kernel
theorem dX5_weigh_8 : decode cX5_weigh 8 = .ok (.aload_n 1, 1) := by decide +kernel
theorem dX5_weigh_9 : decode cX5_weigh 9 = .ok (.getfield 59, 3) := by decide +kernel
theorem dX5_weigh_12 : decode cX5_weigh 12 = .ok (.getfield 63, 3) := by decide +kernel
theorem dX5_weigh_15 : decode cX5_weigh 15 = .ok (.ifCond .le 13, 3) := by decide +kernel
theorem dX5_weigh_18 : decode cX5_weigh 18 = .ok (.iload 5, 2) := by decide +kernel
theorem dX5_weigh_20 : decode cX5_weigh 20 = .ok (.iconst 2, 1) := by decide +kernel
theorem dX5_weigh_21 : decode cX5_weigh 21 = .ok (.if_icmp .eq 7, 3) := by decide +kernel
theorem dX5_weigh_24 : decode cX5_weigh 24 = .ok (.iconst 1, 1) := by decide +kernel
theorem dX5_weigh_25 : decode cX5_weigh 25 = .ok (.goto 4, 3) := by decide +kernel
theorem dX5_weigh_28 : decode cX5_weigh 28 = .ok (.iconst 0, 1) := by decide +kernel
theorem dX5_weigh_29 : decode cX5_weigh 29 = .ok (.istore 6, 2) := by decide +kernel
theorem dX5_weigh_31 : decode cX5_weigh 31 = .ok (.aload_n 0, 1) := by decide +kernel
theorem dX5_weigh_32 : decode cX5_weigh 32 = .ok (.getfield 20, 3) := by decide +kernel
theorem dX5_weigh_35 : decode cX5_weigh 35 = .ok (.iconst 1, 1) := by decide +kernel
theorem dX5_weigh_36 : decode cX5_weigh 36 = .ok (.aload_n 0, 1) := by decide +kernel
theorem dX5_weigh_37 : decode cX5_weigh 37 = .ok (.getfield 29, 3) := by decide +kernel
theorem dX5_weigh_40 : decode cX5_weigh 40 = .ok (.iastore, 1) := by decide +kernel
theorem dX5_weigh_41 : decode cX5_weigh 41 = .ok (.aload_n 0, 1) := by decide +kernel
theorem dX5_weigh_42 : decode cX5_weigh 42 = .ok (.getfield 20, 3) := by decide +kernel
theorem dX5_weigh_45 : decode cX5_weigh 45 = .ok (.iconst 2, 1) := by decide +kernel
theorem dX5_weigh_46 : decode cX5_weigh 46 = .ok (.aload_n 1, 1) := by decide +kernel
theorem dX5_weigh_47 : decode cX5_weigh 47 = .ok (.getfield 37, 3) := by decide +kernel
theorem dX5_weigh_50 : decode cX5_weigh 50 = .ok (.getfield 41, 3) := by decide +kernel
theorem dX5_weigh_53 : decode cX5_weigh 53 = .ok (.iload 4, 2) := by decide +kernel
theorem dX5_weigh_55 : decode cX5_weigh 55 = .ok (.iaload, 1) := by decide +kernel
theorem dX5_weigh_56 : decode cX5_weigh 56 = .ok (.iastore, 1) := by decide +kernel
theorem dX5_weigh_57 : decode cX5_weigh 57 = .ok (.aload_n 0, 1) := by decide +kernel
theorem dX5_weigh_58 : decode cX5_weigh 58 = .ok (.getfield 20, 3) := by decide +kernel
theorem dX5_weigh_61 : decode cX5_weigh 61 = .ok (.iconst 3, 1) := by decide +kernel
theorem dX5_weigh_62 : decode cX5_weigh 62 = .ok (.iload 5, 2) := by decide +kernel
theorem dX5_weigh_64 : decode cX5_weigh 64 = .ok (.iastore, 1) := by decide +kernel
theorem dX5_weigh_65 : decode cX5_weigh 65 = .ok (.aload_n 0, 1) := by decide +kernel
theorem dX5_weigh_66 : decode cX5_weigh 66 = .ok (.getfield 20, 3) := by decide +kernel
theorem dX5_weigh_69 : decode cX5_weigh 69 = .ok (.iconst 4, 1) := by decide +kernel
theorem dX5_weigh_70 : decode cX5_weigh 70 = .ok (.aload_n 1, 1) := by decide +kernel
theorem dX5_weigh_71 : decode cX5_weigh 71 = .ok (.getfield 66, 3) := by decide +kernel
theorem dX5_weigh_74 : decode cX5_weigh 74 = .ok (.iload_n 3, 1) := by decide +kernel
theorem dX5_weigh_75 : decode cX5_weigh 75 = .ok (.iaload, 1) := by decide +kernel
theorem dX5_weigh_76 : decode cX5_weigh 76 = .ok (.iastore, 1) := by decide +kernel
theorem dX5_weigh_77 : decode cX5_weigh 77 = .ok (.aload_n 0, 1) := by decide +kernel
theorem dX5_weigh_78 : decode cX5_weigh 78 = .ok (.getfield 20, 3) := by decide +kernel
theorem dX5_weigh_81 : decode cX5_weigh 81 = .ok (.iconst 5, 1) := by decide +kernel
theorem dX5_weigh_82 : decode cX5_weigh 82 = .ok (.aload_n 2, 1) := by decide +kernel
theorem dX5_weigh_83 : decode cX5_weigh 83 = .ok (.getfield 69, 3) := by decide +kernel
theorem dX5_weigh_86 : decode cX5_weigh 86 = .ok (.iload_n 3, 1) := by decide +kernel
theorem dX5_weigh_87 : decode cX5_weigh 87 = .ok (.iaload, 1) := by decide +kernel
theorem dX5_weigh_88 : decode cX5_weigh 88 = .ok (.iastore, 1) := by decide +kernel
theorem dX5_weigh_89 : decode cX5_weigh 89 = .ok (.iconst 0, 1) := by decide +kernel
theorem dX5_weigh_90 : decode cX5_weigh 90 = .ok (.istore 7, 2) := by decide +kernel
theorem dX5_weigh_92 : decode cX5_weigh 92 = .ok (.iload 7, 2) := by decide +kernel
theorem dX5_weigh_94 : decode cX5_weigh 94 = .ok (.aload_n 0, 1) := by decide +kernel
theorem dX5_weigh_95 : decode cX5_weigh 95 = .ok (.getfield 29, 3) := by decide +kernel
theorem dX5_weigh_98 : decode cX5_weigh 98 = .ok (.if_icmp .ge 75, 3) := by decide +kernel
theorem dX5_weigh_101 : decode cX5_weigh 101 = .ok (.aload_n 0, 1) := by decide +kernel
theorem dX5_weigh_102 : decode cX5_weigh 102 = .ok (.getfield 20, 3) := by decide +kernel
theorem dX5_weigh_105 : decode cX5_weigh 105 = .ok (.iconst 0, 1) := by decide +kernel
theorem dX5_weigh_106 : decode cX5_weigh 106 = .ok (.iload 5, 2) := by decide +kernel
theorem dX5_weigh_108 : decode cX5_weigh 108 = .ok (.iconst 1, 1) := by decide +kernel
theorem dX5_weigh_109 : decode cX5_weigh 109 = .ok (.if_icmp .ne 15, 3) := by decide +kernel
theorem dX5_weigh_112 : decode cX5_weigh 112 = .ok (.aload_n 0, 1) := by decide +kernel
theorem dX5_weigh_113 : decode cX5_weigh 113 = .ok (.getfield 29, 3) := by decide +kernel
theorem dX5_weigh_116 : decode cX5_weigh 116 = .ok (.iconst 1, 1) := by decide +kernel
theorem dX5_weigh_117 : decode cX5_weigh 117 = .ok (.isub, 1) := by decide +kernel
theorem dX5_weigh_118 : decode cX5_weigh 118 = .ok (.iload 7, 2) := by decide +kernel
theorem dX5_weigh_120 : decode cX5_weigh 120 = .ok (.isub, 1) := by decide +kernel
theorem dX5_weigh_121 : decode cX5_weigh 121 = .ok (.goto 5, 3) := by decide +kernel
theorem dX5_weigh_124 : decode cX5_weigh 124 = .ok (.iload 7, 2) := by decide +kernel
theorem dX5_weigh_126 : decode cX5_weigh 126 = .ok (.iastore, 1) := by decide +kernel
theorem dX5_weigh_127 : decode cX5_weigh 127 = .ok (.iload 6, 2) := by decide +kernel
theorem dX5_weigh_129 : decode cX5_weigh 129 = .ok (.ifCond .eq 17, 3) := by decide +kernel
theorem dX5_weigh_132 : decode cX5_weigh 132 = .ok (.aload_n 1, 1) := by decide +kernel
theorem dX5_weigh_133 : decode cX5_weigh 133 = .ok (.getfield 59, 3) := by decide +kernel
theorem dX5_weigh_136 : decode cX5_weigh 136 = .ok (.aload_n 0, 1) := by decide +kernel
theorem dX5_weigh_137 : decode cX5_weigh 137 = .ok (.getfield 20, 3) := by decide +kernel
theorem dX5_weigh_140 : decode cX5_weigh 140 = .ok (.invokevirtual 74, 3) := by decide +kernel
theorem dX5_weigh_143 : decode cX5_weigh 143 = .ok (.goto 4, 3) := by decide +kernel
theorem dX5_weigh_146 : decode cX5_weigh 146 = .ok (.iconst 1, 1) := by decide +kernel
theorem dX5_weigh_147 : decode cX5_weigh 147 = .ok (.istore 8, 2) := by decide +kernel
theorem dX5_weigh_149 : decode cX5_weigh 149 = .ok (.aload_n 0, 1) := by decide +kernel
theorem dX5_weigh_150 : decode cX5_weigh 150 = .ok (.getfield 9, 3) := by decide +kernel
theorem dX5_weigh_153 : decode cX5_weigh 153 = .ok (.iload 7, 2) := by decide +kernel
theorem dX5_weigh_155 : decode cX5_weigh 155 = .ok (.iconst 1, 1) := by decide +kernel
theorem dX5_weigh_156 : decode cX5_weigh 156 = .ok (.bipush 99, 2) := by decide +kernel
theorem dX5_weigh_158 : decode cX5_weigh 158 = .ok (.iload 8, 2) := by decide +kernel
theorem dX5_weigh_160 : decode cX5_weigh 160 = .ok (.invokestatic 78, 3) := by decide +kernel
theorem dX5_weigh_163 : decode cX5_weigh 163 = .ok (.invokestatic 84, 3) := by decide +kernel
theorem dX5_weigh_166 : decode cX5_weigh 166 = .ok (.iastore, 1) := by decide +kernel
theorem dX5_weigh_167 : decode cX5_weigh 167 = .ok (.iinc 7 1, 3) := by decide +kernel
theorem dX5_weigh_170 : decode cX5_weigh 170 = .ok (.goto (-78), 3) := by decide +kernel
theorem dX5_weigh_173 : decode cX5_weigh 173 = .ok (.return_, 1) := by decide +kernel
set_option maxRecDepth 100000 in
set_option maxHeartbeats 4000000 in
theorem k_X5_weigh {G : am_G} (hK : k_OK G) {d : Nat} (hd : 2 ≤ d) {sh : List (Nat ⊕ (Nat × Nat))} {I : Nat → Nat → Int32} {R : Nat → Nat → Option Nat} {L : Nat → Nat → Int64} {g : Nat} {o t b pj lf len mn : Nat} (ho : k_Portions sh R o) (ht : k_Town sh R t) (hb : k_Days sh R b) (hot : o + 4 ≤ t ∨ t + 19 ≤ o) (hob : o + 4 ≤ b ∨ b + 4 ≤ o) (hbt : b + 4 ≤ t ∨ t + 19 ≤ b) (p x : Int32) (hp : p = nI pj) (hpj : pj < 8) (hx : x = nI lf) (hlf : lf < 6) (hlen : I (t + 16) 2 = nI len) (hlen6 : len ≤ 600) (hmn : I o 3 = nI mn) (hmn6 : mn ≤ 6) : AM G mX5_weigh d [.ref o, .ref t, .ref b, .int p, .int x] (sh, I, R, L, g) (fun v w => v = none ∧ w = (sh, f_w3 I o t (f_W3 I o t b pj lf len mn mn), R, L, g)) (fun _ _ => False) := by
  have hG := hK.1
  have hcp : p.toNatClampNeg = pj := k_lit hp (by omega)
  have hbp : vp_in p 8 := by rw [hp]; exact vp_in_nI hpj (by decide)
  have hcx : x.toNatClampNeg = lf := k_lit hx (by omega)
  have hbx : vp_in x 6 := by rw [hx]; exact vp_in_nI hlf (by decide)
  refine AM.of (n := 4) (by decide +kernel) (Nat.le_of_ble_eq_true rfl) ?_
  show AW G mX5_weigh d (fun v w => v = none ∧ w = (sh, f_w3 I o t (f_W3 I o t b pj lf len mn mn), R, L, g)) (fun _ _ => False) 0 [some (.ref o), some (.ref t), some (.ref b), some (.int p), some (.int x), none, none, none, none] [] (sh, I, R, L, g) 0 0
  have J31 : ∀ (kd ru : Int32), (kd = I (t + 1) pj ∧ ru = kb (f_rl (I (t + 16) 2) (I (t + 1) pj))) → AW G mX5_weigh d (fun v w => v = none ∧ w = (sh, f_w3 I o t (f_W3 I o t b pj lf len mn mn), R, L, g)) (fun _ _ => False) 31 [some (.ref o), some (.ref t), some (.ref b), some (.int p), some (.int x), some (.int kd), some (.int ru), none, none] [] (sh, I, R, L, g) 0 0 := by
    intro kd ru hj
    obtain ⟨hkd, hrv⟩ := hj
    refine AW.aload_n dX5_weigh_31 rfl ?_
    refine AW.getR (c' := (o + 3)) (fX5_20 hG).r rfl (ho.1 0 _ rfl) (ho.2 (0, 2, 3) (by decide)) dX5_weigh_32 ?_
    refine AW.iconst 1 dX5_weigh_35 (by decide) ?_
    refine AW.aload_n dX5_weigh_36 rfl ?_
    refine AW.getI (fX5_29 hG).r rfl (ho.1 0 _ rfl) dX5_weigh_37 ?_
    refine AW.iast (ho.1 3 _ rfl) (by unfold vp_in; decide) dX5_weigh_40 ?_
    refine AW.namI (fun I40 eI40 => ?_)
    refine AW.aload_n dX5_weigh_41 rfl ?_
    refine AW.getR (c' := (o + 3)) (fX5_20 hG).r rfl (ho.1 0 _ rfl) (ho.2 (0, 2, 3) (by decide)) dX5_weigh_42 ?_
    refine AW.iconst 2 dX5_weigh_45 (by decide) ?_
    refine AW.aload_n dX5_weigh_46 rfl ?_
    refine AW.getR (c' := (t + 8)) (fX5_37 hG) rfl (ht.1 0 _ rfl) (ht.2 (0, 11, 8) (by decide)) dX5_weigh_47 ?_
    refine AW.getR (c' := (t + 10)) (fX5_41 hG) rfl (ht.1 8 _ rfl) (ht.2 (8, 2, 10) (by decide)) dX5_weigh_50 ?_
    refine AW.iload dX5_weigh_53 rfl ?_
    refine AW.iald (ht.1 10 _ rfl) (by first | assumption | (unfold vp_in; decide) | exact vp_in_nI (by omega) (by decide)) dX5_weigh_55 ?_
    refine AW.iast (ho.1 3 _ rfl) (by first | assumption | (unfold vp_in; decide) | exact vp_in_nI (by omega) (by decide)) dX5_weigh_56 ?_
    refine AW.namI (fun I56 eI56 => ?_)
    refine AW.aload_n dX5_weigh_57 rfl ?_
    refine AW.getR (c' := (o + 3)) (fX5_20 hG).r rfl (ho.1 0 _ rfl) (ho.2 (0, 2, 3) (by decide)) dX5_weigh_58 ?_
    refine AW.iconst 3 dX5_weigh_61 (by decide) ?_
    refine AW.iload dX5_weigh_62 rfl ?_
    refine AW.iast (ho.1 3 _ rfl) (by first | assumption | (unfold vp_in; decide) | exact vp_in_nI (by omega) (by decide)) dX5_weigh_64 ?_
    refine AW.namI (fun I64 eI64 => ?_)
    refine AW.aload_n dX5_weigh_65 rfl ?_
    refine AW.getR (c' := (o + 3)) (fX5_20 hG).r rfl (ho.1 0 _ rfl) (ho.2 (0, 2, 3) (by decide)) dX5_weigh_66 ?_
    refine AW.iconst 4 dX5_weigh_69 (by decide) ?_
    refine AW.aload_n dX5_weigh_70 rfl ?_
    refine AW.getR (c' := (t + 3)) (fX5_66 hG) rfl (ht.1 0 _ rfl) (ht.2 (0, 6, 3) (by decide)) dX5_weigh_71 ?_
    refine AW.iload_n dX5_weigh_74 rfl ?_
    refine AW.iald (ht.1 3 _ rfl) (by first | assumption | (unfold vp_in; decide) | exact vp_in_nI (by omega) (by decide)) dX5_weigh_75 ?_
    refine AW.iast (ho.1 3 _ rfl) (by first | assumption | (unfold vp_in; decide) | exact vp_in_nI (by omega) (by decide)) dX5_weigh_76 ?_
    refine AW.namI (fun I76 eI76 => ?_)
    refine AW.aload_n dX5_weigh_77 rfl ?_
    refine AW.getR (c' := (o + 3)) (fX5_20 hG).r rfl (ho.1 0 _ rfl) (ho.2 (0, 2, 3) (by decide)) dX5_weigh_78 ?_
    refine AW.iconst 5 dX5_weigh_81 (by decide) ?_
    refine AW.aload_n dX5_weigh_82 rfl ?_
    refine AW.getR (c' := (b + 3)) (fX5_69 hG) rfl (hb.1 0 _ rfl) (hb.2 (0, 4, 3) (by decide)) dX5_weigh_83 ?_
    refine AW.iload_n dX5_weigh_86 rfl ?_
    refine AW.iald (hb.1 3 _ rfl) (by first | assumption | (unfold vp_in; decide) | exact vp_in_nI (by omega) (by decide)) dX5_weigh_87 ?_
    refine AW.iast (ho.1 3 _ rfl) (by first | assumption | (unfold vp_in; decide) | exact vp_in_nI (by omega) (by decide)) dX5_weigh_88 ?_
    refine AW.namI (fun I88 eI88 => ?_)
    have e88 : I88 = am_uA I (o + 3) (f_v0 (I (o + 3)) (nI mn) (I (t + 10) lf) (I (t + 1) pj) (I (t + 3) pj) (I (b + 3) pj)) := by
      rw [eI88, eI76, eI64, eI56, eI40]
      simp (disch := omega) only [am_up_uA, am_uA_s, am_uA_o, am_uA_uA, hcp, hcx, hkd, hmn]
      rfl
    refine AW.iconst 0 dX5_weigh_89 (by decide) ?_
    refine AW.is [some (.ref o), some (.ref t), some (.ref b), some (.int p), some (.int x), some (.int kd), some (.int ru), some (.int 0), none] dX5_weigh_90 (by decide) rfl rfl ?_
    have L92 : ∀ k92, k92 ≤ mn → ∀ (y : Int32) (J : Nat → Nat → Int32), (y = nI k92 ∧ J = f_w3 I o t (f_W3 I o t b pj lf len mn k92)) → AW G mX5_weigh d (fun v w => v = none ∧ w = (sh, f_w3 I o t (f_W3 I o t b pj lf len mn mn), R, L, g)) (fun _ _ => False) 92 [some (.ref o), some (.ref t), some (.ref b), some (.int p), some (.int x), some (.int kd), some (.int ru), some (.int y), none] [] (sh, J, R, L, g) 0 0 := by
      refine am_rec mn (fun k92 hk92 ih92 => ?_)
      intro y J hi92
      obtain ⟨hy, hJ⟩ := hi92
      obtain ⟨V, K, S, hqS⟩ : ∃ V K S, f_W3 I o t b pj lf len mn k92 = (V, K, S) := ⟨_, _, _, rfl⟩
      rw [hqS] at hJ
      have qV : J (o + 3) = V := by rw [hJ]; unfold f_w3; rw [am_uA_o _ _ _ (by omega), am_uA_s]
      have qK : J (t + 18) = K := by rw [hJ]; unfold f_w3; rw [am_uA_o _ _ _ (by omega), am_uA_o _ _ _ (by omega), am_uA_s]
      have qS : J (o + 1) = S := by rw [hJ]; unfold f_w3; rw [am_uA_s]
      have hJo : ∀ a, a ≠ t + 18 → a ≠ o + 3 → a ≠ o + 1 → J a = I a := fun a a1 a2 a3 => by rw [hJ, f_w3_o a1 a2 a3]
      have qst : J (t + 16 + 1) = I (t + 17) := hJo (t + 17) (by omega) (by omega) (by omega)
      have qo3 : J o 3 = nI mn := by rw [hJo o (by omega) (by omega) (by omega)]; exact hmn
      have hcy : ∀ _ : k92 < mn, y.toNatClampNeg = k92 := fun _ => k_lit hy (by omega)
      refine AW.iload dX5_weigh_92 rfl ?_
      refine AW.aload_n dX5_weigh_94 rfl ?_
      refine AW.getI (fX5_29 hG).r rfl (ho.1 0 _ rfl) dX5_weigh_95 ?_
      refine AW.icmp_ge 173 dX5_weigh_98 (by decide) (fun h98 => ?_) (fun h98 => ?_)
      · have hke := k_ge h98 hy qo3 hk92 (by omega)
        rw [hke] at hqS
        exact AW.vret dX5_weigh_173 rfl (by decide) (by decide) (⟨rfl, by rw [hqS, hJ]⟩)
      · have hlt := k_lt h98 hy qo3 hk92 (by omega)
        have hcy := hcy hlt
        have hby : vp_in y 6 := by rw [hy]; exact vp_in_nI (by omega) (by decide)
        refine AW.aload_n dX5_weigh_101 rfl ?_
        refine AW.getR (c' := (o + 3)) (fX5_20 hG).r rfl (ho.1 0 _ rfl) (ho.2 (0, 2, 3) (by decide)) dX5_weigh_102 ?_
        refine AW.iconst 0 dX5_weigh_105 (by decide) ?_
        refine AW.iload dX5_weigh_106 rfl ?_
        refine AW.iconst 1 dX5_weigh_108 (by decide) ?_
        refine AW.icmp_ne 124 dX5_weigh_109 (by decide) (fun h109 => ?_) (fun h109 => ?_)
        · rw [hkd] at h109
          refine AW.iload dX5_weigh_124 rfl ?_
          refine AW.iast (ho.1 3 _ rfl) (by first | assumption | (unfold vp_in; decide) | exact vp_in_nI (by omega) (by decide)) dX5_weigh_126 ?_
          refine AW.namI (fun I126 eI126 => ?_)
          refine AW.iload dX5_weigh_127 rfl ?_
          refine AW.if_eq 146 dX5_weigh_129 (by decide) (fun h129 => ?_) (fun h129 => ?_)
          · rw [hrv] at h129
            have hru := kb_0.mp h129
            refine AW.iconst 1 dX5_weigh_146 (by decide) ?_
            refine AW.is [some (.ref o), some (.ref t), some (.ref b), some (.int p), some (.int x), some (.int kd), some (.int ru), some (.int y), some (.int 1)] dX5_weigh_147 (by decide) rfl rfl ?_
            refine AW.aload_n dX5_weigh_149 rfl ?_
            refine AW.getR (c' := (o + 1)) (fX5_9 hG).r rfl (ho.1 0 _ rfl) (ho.2 (0, 0, 1) (by decide)) dX5_weigh_150 ?_
            refine AW.iload dX5_weigh_153 rfl ?_
            refine AW.iconst 1 dX5_weigh_155 (by decide) ?_
            refine AW.bipush 99 dX5_weigh_156 (by decide) ?_
            refine AW.iload dX5_weigh_158 rfl ?_
            refine AW.mmin (k_c hG 1310 (by decide +kernel) (by decide +kernel)) (k_mmin hG) dX5_weigh_160 (by omega) (Nat.le_of_ble_eq_true rfl) (by decide) (by decide) ?_
            refine AW.mmax (k_c hG 1311 (by decide +kernel) (by decide +kernel)) (k_mmax hG) dX5_weigh_163 (by omega) (Nat.le_of_ble_eq_true rfl) (by decide) (by decide) ?_
            refine AW.iast (ho.1 1 _ rfl) (by first | assumption | (unfold vp_in; decide) | exact vp_in_nI (by omega) (by decide)) dX5_weigh_166 ?_
            refine AW.namI (fun I166 eI166 => ?_)
            refine AW.inc (fun x167 => [some (.ref o), some (.ref t), some (.ref b), some (.int p), some (.int x), some (.int kd), some (.int ru), some (.int x167), some (.int 1)]) dX5_weigh_167 rfl (by decide) rfl (fun _ => rfl) (fun x167 ex167 => ?_)
            refine AW.goto 92 dX5_weigh_170 (by decide) ?_
            refine AW.mask [8] [some (.ref o), some (.ref t), some (.ref b), some (.int p), some (.int x), some (.int kd), some (.int ru), some (.int x167), none] rfl ?_
            exact ih92 (k92 + 1) (by omega) (by omega) _ _ (by
              have e126 : I126 = am_uA J (o + 3) (upd V 0 (nI k92)) := by rw [eI126, am_up_uA, qV, hy, cl0]
              have hF : f_W3 I o t b pj lf len mn (k92 + 1) = (upd V 0 (nI k92), K, upd S k92 (f_cl 1)) := by
                rw [show f_W3 I o t b pj lf len mn (k92 + 1) = f_wg1 (I (t + 17)) len (f_rl (I (t + 16) 2) (I (t + 1) pj)) (I (t + 1) pj) mn k92 (f_W3 I o t b pj lf len mn k92) from rfl, hqS]
                unfold f_wg1
                dsimp only
                rw [if_neg (by rw [hru]; decide), if_pos h109]
              refine ⟨k_inc (by assumption) hy, ?_⟩
              rw [hF]
              have e166 : I166 = am_uA I126 (o + 1) (upd S k92 (f_cl 1)) := by
                rw [eI166, am_up_uA, hcy, e126, am_uA_o _ _ _ (show o + 1 ≠ o + 3 by omega), qS]; rfl
              refine f_w3_e hot ?_ ?_ ?_ (fun a a1 a2 a3 => ?_)
              · rw [e166, am_uA_o _ _ _ (by omega), e126, am_uA_o _ _ _ (by omega), qK]
              · rw [e166, am_uA_o _ _ _ (by omega), e126, am_uA_s]
              · rw [e166, am_uA_s]
              · rw [e166, am_uA_o _ _ _ a3, e126, am_uA_o _ _ _ a2, hJ, f_w3_o a1 a2 a3])
          · rw [hrv] at h129
            have hru := kb_1.mp h129
            have hlJ : I126 (t + 16) 2 = nI len := by rw [eI126, am_up_o _ _ _ _ (by omega), hJo (t + 16) (by omega) (by omega) (by omega)]; exact hlen
            refine AW.aload_n dX5_weigh_132 rfl ?_
            refine AW.getR (c' := (t + 16)) (fX5_59 hG) rfl (ht.1 0 _ rfl) (ht.2 (0, 12, 16) (by decide)) dX5_weigh_133 ?_
            refine AW.aload_n dX5_weigh_136 rfl ?_
            refine AW.getR (c' := (o + 3)) (fX5_20 hG).r rfl (ho.1 0 _ rfl) (ho.2 (0, 2, 3) (by decide)) dX5_weigh_137 ?_
            refine AW.callV (b := (t + 16)) (As := [.ref (o + 3)]) hG.2.2 (vX5_74 hG) (ht.1 16 _ rfl) (k_X7_evaluate hK (d := 1) (Nat.le_refl _) (k_sub_Town_16 ht) (ho.1 3 _ rfl) (by omega) (by assumption) (by assumption)) (by omega) dX5_weigh_140 rfl rfl (Nat.le_of_ble_eq_true rfl) (fun v w9 hq9 h09 => by obtain ⟨rfl, rfl⟩ := hq9; exact ⟨h09, rfl⟩) (by decide) (by decide) (fun _ _ hx => hx) (fun v140 w140 hq140 => ?_)
            obtain ⟨rfl, rfl⟩ := hq140
            refine AW.namI (fun I140 eI140 => ?_)
            refine AW.nam (fun x140 ex140 => ?_)
            refine AW.goto 147 dX5_weigh_143 (by decide) ?_
            refine AW.is [some (.ref o), some (.ref t), some (.ref b), some (.int p), some (.int x), some (.int kd), some (.int ru), some (.int y), some (.int x140)] dX5_weigh_147 (by decide) rfl rfl ?_
            refine AW.aload_n dX5_weigh_149 rfl ?_
            refine AW.getR (c' := (o + 1)) (fX5_9 hG).r rfl (ho.1 0 _ rfl) (ho.2 (0, 0, 1) (by decide)) dX5_weigh_150 ?_
            refine AW.iload dX5_weigh_153 rfl ?_
            refine AW.iconst 1 dX5_weigh_155 (by decide) ?_
            refine AW.bipush 99 dX5_weigh_156 (by decide) ?_
            refine AW.iload dX5_weigh_158 rfl ?_
            refine AW.mmin (k_c hG 1310 (by decide +kernel) (by decide +kernel)) (k_mmin hG) dX5_weigh_160 (by omega) (Nat.le_of_ble_eq_true rfl) (by decide) (by decide) ?_
            refine AW.mmax (k_c hG 1311 (by decide +kernel) (by decide +kernel)) (k_mmax hG) dX5_weigh_163 (by omega) (Nat.le_of_ble_eq_true rfl) (by decide) (by decide) ?_
            refine AW.iast (ho.1 1 _ rfl) (by first | assumption | (unfold vp_in; decide) | exact vp_in_nI (by omega) (by decide)) dX5_weigh_166 ?_
            refine AW.namI (fun I166 eI166 => ?_)
            refine AW.inc (fun x167 => [some (.ref o), some (.ref t), some (.ref b), some (.int p), some (.int x), some (.int kd), some (.int ru), some (.int x167), some (.int x140)]) dX5_weigh_167 rfl (by decide) rfl (fun _ => rfl) (fun x167 ex167 => ?_)
            refine AW.goto 92 dX5_weigh_170 (by decide) ?_
            refine AW.mask [8] [some (.ref o), some (.ref t), some (.ref b), some (.int p), some (.int x), some (.int kd), some (.int ru), some (.int x167), none] rfl ?_
            exact ih92 (k92 + 1) (by omega) (by omega) _ _ (by
              have e126 : I126 = am_uA J (o + 3) (upd V 0 (nI k92)) := by rw [eI126, am_up_uA, qV, hy, cl0]
              have e140 : I140 = am_uA I126 (t + 18) (f_ev (upd V 0 (nI k92)) (I (t + 17)) K len).2 := by
                rw [eI140, e126]
                rw [am_uA_s, am_uA_o _ _ _ (show t + 16 + 1 ≠ o + 3 by omega), am_uA_o _ _ _ (show t + 16 + 2 ≠ o + 3 by omega), qst, qK]
              have e143 : x140 = (f_ev (upd V 0 (nI k92)) (I (t + 17)) K len).2 0 := by
                rw [ex140, e126, am_uA_s, am_uA_o _ _ _ (show t + 16 + 1 ≠ o + 3 by omega), am_uA_o _ _ _ (show t + 16 + 2 ≠ o + 3 by omega), qst, qK]
              have hF : f_W3 I o t b pj lf len mn (k92 + 1) = (upd V 0 (nI k92), (f_ev (upd V 0 (nI k92)) (I (t + 17)) K len).2, upd S k92 (f_cl ((f_ev (upd V 0 (nI k92)) (I (t + 17)) K len).2 0))) := by
                rw [show f_W3 I o t b pj lf len mn (k92 + 1) = f_wg1 (I (t + 17)) len (f_rl (I (t + 16) 2) (I (t + 1) pj)) (I (t + 1) pj) mn k92 (f_W3 I o t b pj lf len mn k92) from rfl, hqS]
                unfold f_wg1
                dsimp only
                rw [if_pos hru, if_pos h109]
              refine ⟨k_inc (by assumption) hy, ?_⟩
              rw [hF]
              have e166 : I166 = am_uA I140 (o + 1) (upd S k92 (f_cl ((f_ev (upd V 0 (nI k92)) (I (t + 17)) K len).2 0))) := by
                rw [eI166, am_up_uA, hcy, e143, e140, am_uA_o _ _ _ (show o + 1 ≠ t + 18 by omega), e126, am_uA_o _ _ _ (show o + 1 ≠ o + 3 by omega), qS]; rfl
              refine f_w3_e hot ?_ ?_ ?_ (fun a a1 a2 a3 => ?_)
              · rw [e166, am_uA_o _ _ _ (by omega), e140, am_uA_s]
              · rw [e166, am_uA_o _ _ _ (by omega), e140, am_uA_o _ _ _ (by omega), e126, am_uA_s]
              · rw [e166, am_uA_s]
              · rw [e166, am_uA_o _ _ _ a3, e140, am_uA_o _ _ _ a1, e126, am_uA_o _ _ _ a2, hJ, f_w3_o a1 a2 a3])
        · rw [hkd] at h109
          refine AW.aload_n dX5_weigh_112 rfl ?_
          refine AW.getI (fX5_29 hG).r rfl (ho.1 0 _ rfl) dX5_weigh_113 ?_
          refine AW.iconst 1 dX5_weigh_116 (by decide) ?_
          refine AW.isub dX5_weigh_117 ?_
          refine AW.iload dX5_weigh_118 rfl ?_
          refine AW.isub dX5_weigh_120 ?_
          refine AW.goto 126 dX5_weigh_121 (by decide) ?_
          refine AW.iast (ho.1 3 _ rfl) (by first | assumption | (unfold vp_in; decide) | exact vp_in_nI (by omega) (by decide)) dX5_weigh_126 ?_
          refine AW.namI (fun I126 eI126 => ?_)
          refine AW.iload dX5_weigh_127 rfl ?_
          refine AW.if_eq 146 dX5_weigh_129 (by decide) (fun h129 => ?_) (fun h129 => ?_)
          · rw [hrv] at h129
            have hru := kb_0.mp h129
            refine AW.iconst 1 dX5_weigh_146 (by decide) ?_
            refine AW.is [some (.ref o), some (.ref t), some (.ref b), some (.int p), some (.int x), some (.int kd), some (.int ru), some (.int y), some (.int 1)] dX5_weigh_147 (by decide) rfl rfl ?_
            refine AW.aload_n dX5_weigh_149 rfl ?_
            refine AW.getR (c' := (o + 1)) (fX5_9 hG).r rfl (ho.1 0 _ rfl) (ho.2 (0, 0, 1) (by decide)) dX5_weigh_150 ?_
            refine AW.iload dX5_weigh_153 rfl ?_
            refine AW.iconst 1 dX5_weigh_155 (by decide) ?_
            refine AW.bipush 99 dX5_weigh_156 (by decide) ?_
            refine AW.iload dX5_weigh_158 rfl ?_
            refine AW.mmin (k_c hG 1310 (by decide +kernel) (by decide +kernel)) (k_mmin hG) dX5_weigh_160 (by omega) (Nat.le_of_ble_eq_true rfl) (by decide) (by decide) ?_
            refine AW.mmax (k_c hG 1311 (by decide +kernel) (by decide +kernel)) (k_mmax hG) dX5_weigh_163 (by omega) (Nat.le_of_ble_eq_true rfl) (by decide) (by decide) ?_
            refine AW.iast (ho.1 1 _ rfl) (by first | assumption | (unfold vp_in; decide) | exact vp_in_nI (by omega) (by decide)) dX5_weigh_166 ?_
            refine AW.namI (fun I166 eI166 => ?_)
            refine AW.inc (fun x167 => [some (.ref o), some (.ref t), some (.ref b), some (.int p), some (.int x), some (.int kd), some (.int ru), some (.int x167), some (.int 1)]) dX5_weigh_167 rfl (by decide) rfl (fun _ => rfl) (fun x167 ex167 => ?_)
            refine AW.goto 92 dX5_weigh_170 (by decide) ?_
            refine AW.mask [8] [some (.ref o), some (.ref t), some (.ref b), some (.int p), some (.int x), some (.int kd), some (.int ru), some (.int x167), none] rfl ?_
            exact ih92 (k92 + 1) (by omega) (by omega) _ _ (by
              have e126 : I126 = am_uA J (o + 3) (upd V 0 (nI mn - 1 - nI k92)) := by rw [eI126, am_up_uA, qV, qo3, hy, cl0]
              have hF : f_W3 I o t b pj lf len mn (k92 + 1) = (upd V 0 (nI mn - 1 - nI k92), K, upd S k92 (f_cl 1)) := by
                rw [show f_W3 I o t b pj lf len mn (k92 + 1) = f_wg1 (I (t + 17)) len (f_rl (I (t + 16) 2) (I (t + 1) pj)) (I (t + 1) pj) mn k92 (f_W3 I o t b pj lf len mn k92) from rfl, hqS]
                unfold f_wg1
                dsimp only
                rw [if_neg (by rw [hru]; decide), if_neg (fun h => h h109)]
              refine ⟨k_inc (by assumption) hy, ?_⟩
              rw [hF]
              have e166 : I166 = am_uA I126 (o + 1) (upd S k92 (f_cl 1)) := by
                rw [eI166, am_up_uA, hcy, e126, am_uA_o _ _ _ (show o + 1 ≠ o + 3 by omega), qS]; rfl
              refine f_w3_e hot ?_ ?_ ?_ (fun a a1 a2 a3 => ?_)
              · rw [e166, am_uA_o _ _ _ (by omega), e126, am_uA_o _ _ _ (by omega), qK]
              · rw [e166, am_uA_o _ _ _ (by omega), e126, am_uA_s]
              · rw [e166, am_uA_s]
              · rw [e166, am_uA_o _ _ _ a3, e126, am_uA_o _ _ _ a2, hJ, f_w3_o a1 a2 a3])
          · rw [hrv] at h129
            have hru := kb_1.mp h129
            have hlJ : I126 (t + 16) 2 = nI len := by rw [eI126, am_up_o _ _ _ _ (by omega), hJo (t + 16) (by omega) (by omega) (by omega)]; exact hlen
            refine AW.aload_n dX5_weigh_132 rfl ?_
            refine AW.getR (c' := (t + 16)) (fX5_59 hG) rfl (ht.1 0 _ rfl) (ht.2 (0, 12, 16) (by decide)) dX5_weigh_133 ?_
            refine AW.aload_n dX5_weigh_136 rfl ?_
            refine AW.getR (c' := (o + 3)) (fX5_20 hG).r rfl (ho.1 0 _ rfl) (ho.2 (0, 2, 3) (by decide)) dX5_weigh_137 ?_
            refine AW.callV (b := (t + 16)) (As := [.ref (o + 3)]) hG.2.2 (vX5_74 hG) (ht.1 16 _ rfl) (k_X7_evaluate hK (d := 1) (Nat.le_refl _) (k_sub_Town_16 ht) (ho.1 3 _ rfl) (by omega) (by assumption) (by assumption)) (by omega) dX5_weigh_140 rfl rfl (Nat.le_of_ble_eq_true rfl) (fun v w9 hq9 h09 => by obtain ⟨rfl, rfl⟩ := hq9; exact ⟨h09, rfl⟩) (by decide) (by decide) (fun _ _ hx => hx) (fun v140 w140 hq140 => ?_)
            obtain ⟨rfl, rfl⟩ := hq140
            refine AW.namI (fun I140 eI140 => ?_)
            refine AW.nam (fun x140 ex140 => ?_)
            refine AW.goto 147 dX5_weigh_143 (by decide) ?_
            refine AW.is [some (.ref o), some (.ref t), some (.ref b), some (.int p), some (.int x), some (.int kd), some (.int ru), some (.int y), some (.int x140)] dX5_weigh_147 (by decide) rfl rfl ?_
            refine AW.aload_n dX5_weigh_149 rfl ?_
            refine AW.getR (c' := (o + 1)) (fX5_9 hG).r rfl (ho.1 0 _ rfl) (ho.2 (0, 0, 1) (by decide)) dX5_weigh_150 ?_
            refine AW.iload dX5_weigh_153 rfl ?_
            refine AW.iconst 1 dX5_weigh_155 (by decide) ?_
            refine AW.bipush 99 dX5_weigh_156 (by decide) ?_
            refine AW.iload dX5_weigh_158 rfl ?_
            refine AW.mmin (k_c hG 1310 (by decide +kernel) (by decide +kernel)) (k_mmin hG) dX5_weigh_160 (by omega) (Nat.le_of_ble_eq_true rfl) (by decide) (by decide) ?_
            refine AW.mmax (k_c hG 1311 (by decide +kernel) (by decide +kernel)) (k_mmax hG) dX5_weigh_163 (by omega) (Nat.le_of_ble_eq_true rfl) (by decide) (by decide) ?_
            refine AW.iast (ho.1 1 _ rfl) (by first | assumption | (unfold vp_in; decide) | exact vp_in_nI (by omega) (by decide)) dX5_weigh_166 ?_
            refine AW.namI (fun I166 eI166 => ?_)
            refine AW.inc (fun x167 => [some (.ref o), some (.ref t), some (.ref b), some (.int p), some (.int x), some (.int kd), some (.int ru), some (.int x167), some (.int x140)]) dX5_weigh_167 rfl (by decide) rfl (fun _ => rfl) (fun x167 ex167 => ?_)
            refine AW.goto 92 dX5_weigh_170 (by decide) ?_
            refine AW.mask [8] [some (.ref o), some (.ref t), some (.ref b), some (.int p), some (.int x), some (.int kd), some (.int ru), some (.int x167), none] rfl ?_
            exact ih92 (k92 + 1) (by omega) (by omega) _ _ (by
              have e126 : I126 = am_uA J (o + 3) (upd V 0 (nI mn - 1 - nI k92)) := by rw [eI126, am_up_uA, qV, qo3, hy, cl0]
              have e140 : I140 = am_uA I126 (t + 18) (f_ev (upd V 0 (nI mn - 1 - nI k92)) (I (t + 17)) K len).2 := by
                rw [eI140, e126]
                rw [am_uA_s, am_uA_o _ _ _ (show t + 16 + 1 ≠ o + 3 by omega), am_uA_o _ _ _ (show t + 16 + 2 ≠ o + 3 by omega), qst, qK]
              have e143 : x140 = (f_ev (upd V 0 (nI mn - 1 - nI k92)) (I (t + 17)) K len).2 0 := by
                rw [ex140, e126, am_uA_s, am_uA_o _ _ _ (show t + 16 + 1 ≠ o + 3 by omega), am_uA_o _ _ _ (show t + 16 + 2 ≠ o + 3 by omega), qst, qK]
              have hF : f_W3 I o t b pj lf len mn (k92 + 1) = (upd V 0 (nI mn - 1 - nI k92), (f_ev (upd V 0 (nI mn - 1 - nI k92)) (I (t + 17)) K len).2, upd S k92 (f_cl ((f_ev (upd V 0 (nI mn - 1 - nI k92)) (I (t + 17)) K len).2 0))) := by
                rw [show f_W3 I o t b pj lf len mn (k92 + 1) = f_wg1 (I (t + 17)) len (f_rl (I (t + 16) 2) (I (t + 1) pj)) (I (t + 1) pj) mn k92 (f_W3 I o t b pj lf len mn k92) from rfl, hqS]
                unfold f_wg1
                dsimp only
                rw [if_pos hru, if_neg (fun h => h h109)]
              refine ⟨k_inc (by assumption) hy, ?_⟩
              rw [hF]
              have e166 : I166 = am_uA I140 (o + 1) (upd S k92 (f_cl ((f_ev (upd V 0 (nI mn - 1 - nI k92)) (I (t + 17)) K len).2 0))) := by
                rw [eI166, am_up_uA, hcy, e143, e140, am_uA_o _ _ _ (show o + 1 ≠ t + 18 by omega), e126, am_uA_o _ _ _ (show o + 1 ≠ o + 3 by omega), qS]; rfl
              refine f_w3_e hot ?_ ?_ ?_ (fun a a1 a2 a3 => ?_)
              · rw [e166, am_uA_o _ _ _ (by omega), e140, am_uA_s]
              · rw [e166, am_uA_o _ _ _ (by omega), e140, am_uA_o _ _ _ (by omega), e126, am_uA_s]
              · rw [e166, am_uA_s]
              · rw [e166, am_uA_o _ _ _ a3, e140, am_uA_o _ _ _ a1, e126, am_uA_o _ _ _ a2, hJ, f_w3_o a1 a2 a3])
    exact L92 0 (by omega) _ _ (⟨nI_0.symm, f_w3_e hot (by rw [e88, am_uA_o _ _ _ (by omega)]; rfl) (by rw [e88, am_uA_s]; rfl) (by rw [e88, am_uA_o _ _ _ (by omega)]; rfl) (fun a a1 a2 a3 => by rw [e88, am_uA_o _ _ _ a2])⟩)
  refine AW.aload_n dX5_weigh_0 rfl ?_
  refine AW.getR (c' := (t + 1)) (fX5_56 hG) rfl (ht.1 0 _ rfl) (ht.2 (0, 4, 1) (by decide)) dX5_weigh_1 ?_
  refine AW.iload_n dX5_weigh_4 rfl ?_
  refine AW.iald (ht.1 1 _ rfl) (by first | assumption | (unfold vp_in; decide) | exact vp_in_nI (by omega) (by decide)) dX5_weigh_5 ?_
  refine AW.nam (fun x6 ex6 => ?_)
  refine AW.is [some (.ref o), some (.ref t), some (.ref b), some (.int p), some (.int x), some (.int x6), none, none, none] dX5_weigh_6 (by decide) rfl rfl ?_
  refine AW.aload_n dX5_weigh_8 rfl ?_
  refine AW.getR (c' := (t + 16)) (fX5_59 hG) rfl (ht.1 0 _ rfl) (ht.2 (0, 12, 16) (by decide)) dX5_weigh_9 ?_
  refine AW.getI (fX5_63 hG).r rfl (ht.1 16 _ rfl) dX5_weigh_12 ?_
  refine AW.if_le 28 dX5_weigh_15 (by decide) (fun h15 => ?_) (fun h15 => ?_)
  · refine AW.iconst 0 dX5_weigh_28 (by decide) ?_
    refine AW.is [some (.ref o), some (.ref t), some (.ref b), some (.int p), some (.int x), some (.int x6), some (.int 0), none, none] dX5_weigh_29 (by decide) rfl rfl ?_
    exact J31 _ _ ⟨by rw [ex6, hcp], by rw [f_rl, decide_eq_false (fun h => h h15)]; rfl⟩
  · refine AW.iload dX5_weigh_18 rfl ?_
    refine AW.iconst 2 dX5_weigh_20 (by decide) ?_
    refine AW.icmp_eq 28 dX5_weigh_21 (by decide) (fun h21 => ?_) (fun h21 => ?_)
    · refine AW.iconst 0 dX5_weigh_28 (by decide) ?_
      refine AW.is [some (.ref o), some (.ref t), some (.ref b), some (.int p), some (.int x), some (.int x6), some (.int 0), none, none] dX5_weigh_29 (by decide) rfl rfl ?_
      exact J31 _ _ ⟨by rw [ex6, hcp], by rw [ex6, hcp] at h21; rw [f_rl, h21]; simp [kb]⟩
    · refine AW.iconst 1 dX5_weigh_24 (by decide) ?_
      refine AW.goto 29 dX5_weigh_25 (by decide) ?_
      refine AW.is [some (.ref o), some (.ref t), some (.ref b), some (.int p), some (.int x), some (.int x6), some (.int 1), none, none] dX5_weigh_29 (by decide) rfl rfl ?_
      exact J31 _ _ ⟨by rw [ex6, hcp], by rw [ex6, hcp] at h21; rw [f_rl, decide_eq_true h15, decide_eq_true h21]; rfl⟩
def f_sum (S : Nat → Int32) (k : Nat) : Int32 := lfold (fun j a => a + S j) 0 k
def f_q (sz sm s : Int32) : Int32 := if 0 < sm then sz * s / sm else 0
def f_cr (sz sm : Int32) (S : Nat → Int32) (k : Nat) : Int32 := lfold (fun j c => c - f_q sz sm (S j)) sz k
/-- the division's world by its five cells -/
def f_w5 (I : Nat → Nat → Int32) (o t : Nat) (A B C D E : Nat → Int32) : Nat → Nat → Int32 := am_uA (am_uA (am_uA (am_uA (am_uA I (t + 18) A) (o + 3) B) (o + 2) C) (o + 1) D) o E
section
variable {I J : Nat → Nat → Int32} {o t : Nat} {A B C D E : Nat → Int32}
theorem f_w5_o {a : Nat} (h1 : a ≠ t + 18) (h2 : a ≠ o + 3) (h3 : a ≠ o + 2) (h4 : a ≠ o + 1) (h5 : a ≠ o) : f_w5 I o t A B C D E a = I a := by
  unfold f_w5
  rw [am_uA_o _ _ _ h5, am_uA_o _ _ _ h4, am_uA_o _ _ _ h3, am_uA_o _ _ _ h2, am_uA_o _ _ _ h1]
theorem f_w5_E : f_w5 I o t A B C D E o = E := by unfold f_w5; rw [am_uA_s]
theorem f_w5_D : f_w5 I o t A B C D E (o + 1) = D := by unfold f_w5; rw [am_uA_o _ _ _ (by omega), am_uA_s]
theorem f_w5_C : f_w5 I o t A B C D E (o + 2) = C := by unfold f_w5; rw [am_uA_o _ _ _ (by omega), am_uA_o _ _ _ (by omega), am_uA_s]
theorem f_w5_B : f_w5 I o t A B C D E (o + 3) = B := by unfold f_w5; rw [am_uA_o _ _ _ (by omega), am_uA_o _ _ _ (by omega), am_uA_o _ _ _ (by omega), am_uA_s]
theorem f_w5_A (hot : o + 4 ≤ t ∨ t + 19 ≤ o) : f_w5 I o t A B C D E (t + 18) = A := by unfold f_w5; rw [am_uA_o _ _ _ (by omega), am_uA_o _ _ _ (by omega), am_uA_o _ _ _ (by omega), am_uA_o _ _ _ (by omega), am_uA_s]
theorem f_w5_e (hot : o + 4 ≤ t ∨ t + 19 ≤ o) (hA : J (t + 18) = A) (hB : J (o + 3) = B) (hC : J (o + 2) = C) (hD : J (o + 1) = D) (hE : J o = E) (h : ∀ a, a ≠ t + 18 → a ≠ o + 3 → a ≠ o + 2 → a ≠ o + 1 → a ≠ o → J a = I a) : J = f_w5 I o t A B C D E := by
  funext a
  by_cases e5 : a = o
  · rw [e5, hE, f_w5_E]
  by_cases e4 : a = o + 1
  · rw [e4, hD, f_w5_D]
  by_cases e3 : a = o + 2
  · rw [e3, hC, f_w5_C]
  by_cases e2 : a = o + 3
  · rw [e2, hB, f_w5_B]
  by_cases e1 : a = t + 18
  · rw [e1, hA, f_w5_A hot]
  rw [h a e1 e2 e3 e4 e5, f_w5_o e1 e2 e3 e4 e5]
end
def f_S1 (I : Nat → Nat → Int32) (o t b pj lf len mn k : Nat) : Nat → Int32 := f_row (fun j => f_q (I (t + 10) lf) (f_sum (f_W3 I o t b pj lf len mn mn).2.2 mn) ((f_W3 I o t b pj lf len mn mn).2.2 j)) (f_W3 I o t b pj lf len mn mn).2.2 k
def f_c1 (I : Nat → Nat → Int32) (o t b pj lf len mn k : Nat) : Int32 := f_cr (I (t + 10) lf) (f_sum (f_W3 I o t b pj lf len mn mn).2.2 mn) (f_W3 I o t b pj lf len mn mn).2.2 k
def f_S2 (I : Nat → Nat → Int32) (o t b pj lf len mn : Nat) : Nat → Int32 := f_srt (f_S1 I o t b pj lf len mn mn) mn
def f_G2 (I : Nat → Nat → Int32) (o t b pj lf len mn ec : Nat) : Nat → Int32 := (f_ho (I (t + 4)) (fun j => I (t + 15) (6 * lf + j)) (f_S2 I o t b pj lf len mn) mn ec (I (o + 2)) ec).2
def f_div (I : Nat → Nat → Int32) (o t b pj lf len mn ec : Nat) : Nat → Nat → Int32 := f_w5 I o t (f_W3 I o t b pj lf len mn mn).2.1 (f_W3 I o t b pj lf len mn mn).1 (f_G2 I o t b pj lf len mn ec) (f_S2 I o t b pj lf len mn) (upd (upd (I o) 3 (nI mn)) 4 (f_c1 I o t b pj lf len mn mn))
theorem f_W3_c {I J : Nat → Nat → Int32} {o t b pj lf len mn k : Nat} (h : ∀ a, a ≠ o → J a = I a) (h1 : o < t ∨ t + 19 ≤ o) (h2 : o < b ∨ b + 4 ≤ o) : f_W3 J o t b pj lf len mn k = f_W3 I o t b pj lf len mn k := by
  unfold f_W3
  rw [h (t + 17) (by omega), h (t + 16) (by omega), h (t + 1) (by omega), h (o + 3) (by omega), h (t + 10) (by omega), h (t + 3) (by omega), h (b + 3) (by omega), h (t + 18) (by omega), h (o + 1) (by omega)]
theorem dX5_divide_0 : decode cX5_divide 0 = .ok (.aload_n 0, 1) := by decide +kernel
theorem dX5_divide_1 : decode cX5_divide 1 = .ok (.aload_n 1, 1) := by decide +kernel
theorem dX5_divide_2 : decode cX5_divide 2 = .ok (.iload 4, 2) := by decide +kernel
theorem dX5_divide_4 : decode cX5_divide 4 = .ok (.invokevirtual 23, 3) := by decide +kernel
theorem dX5_divide_7 : decode cX5_divide 7 = .ok (.putfield 29, 3) := by decide +kernel
theorem dX5_divide_10 : decode cX5_divide 10 = .ok (.aload_n 0, 1) := by decide +kernel
theorem dX5_divide_11 : decode cX5_divide 11 = .ok (.aload_n 1, 1) := by decide +kernel
theorem dX5_divide_12 : decode cX5_divide 12 = .ok (.aload_n 2, 1) := by decide +kernel
theorem dX5_divide_13 : decode cX5_divide 13 = .ok (.iload_n 3, 1) := by decide +kernel
theorem dX5_divide_14 : decode cX5_divide 14 = .ok (.iload 4, 2) := by decide +kernel
theorem dX5_divide_16 : decode cX5_divide 16 = .ok (.invokevirtual 33, 3) := by decide +kernel
theorem dX5_divide_19 : decode cX5_divide 19 = .ok (.iconst 0, 1) := by decide +kernel
theorem dX5_divide_20 : decode cX5_divide 20 = .ok (.istore 5, 2) := by decide +kernel
theorem dX5_divide_22 : decode cX5_divide 22 = .ok (.iconst 0, 1) := by decide +kernel
theorem dX5_divide_23 : decode cX5_divide 23 = .ok (.istore 6, 2) := by decide +kernel
theorem dX5_divide_25 : decode cX5_divide 25 = .ok (.iload 6, 2) := by decide +kernel
theorem dX5_divide_27 : decode cX5_divide 27 = .ok (.aload_n 0, 1) := by decide +kernel
theorem dX5_divide_28 : decode cX5_divide 28 = .ok (.getfield 29, 3) := by decide +kernel
theorem dX5_divide_31 : decode cX5_divide 31 = .ok (.if_icmp .ge 21, 3) := by decide +kernel
theorem dX5_divide_34 : decode cX5_divide 34 = .ok (.iload 5, 2) := by decide +kernel
theorem dX5_divide_36 : decode cX5_divide 36 = .ok (.aload_n 0, 1) := by decide +kernel
theorem dX5_divide_37 : decode cX5_divide 37 = .ok (.getfield 9, 3) := by decide +kernel
theorem dX5_divide_40 : decode cX5_divide 40 = .ok (.iload 6, 2) := by decide +kernel
theorem dX5_divide_42 : decode cX5_divide 42 = .ok (.iaload, 1) := by decide +kernel
theorem dX5_divide_43 : decode cX5_divide 43 = .ok (.iadd, 1) := by decide +kernel
theorem dX5_divide_44 : decode cX5_divide 44 = .ok (.istore 5, 2) := by decide +kernel
theorem dX5_divide_46 : decode cX5_divide 46 = .ok (.iinc 6 1, 3) := by decide +kernel
theorem dX5_divide_49 : decode cX5_divide 49 = .ok (.goto (-24), 3) := by decide +kernel
theorem dX5_divide_52 : decode cX5_divide 52 = .ok (.aload_n 1, 1) := by decide +kernel
theorem dX5_divide_53 : decode cX5_divide 53 = .ok (.getfield 37, 3) := by decide +kernel
theorem dX5_divide_56 : decode cX5_divide 56 = .ok (.getfield 41, 3) := by decide +kernel
theorem dX5_divide_59 : decode cX5_divide 59 = .ok (.iload 4, 2) := by decide +kernel
theorem dX5_divide_61 : decode cX5_divide 61 = .ok (.iaload, 1) := by decide +kernel
theorem dX5_divide_62 : decode cX5_divide 62 = .ok (.istore 6, 2) := by decide +kernel
theorem dX5_divide_64 : decode cX5_divide 64 = .ok (.aload_n 0, 1) := by decide +kernel
theorem dX5_divide_65 : decode cX5_divide 65 = .ok (.iload 6, 2) := by decide +kernel
theorem dX5_divide_67 : decode cX5_divide 67 = .ok (.putfield 46, 3) := by decide +kernel
theorem dX5_divide_70 : decode cX5_divide 70 = .ok (.iconst 0, 1) := by decide +kernel
theorem dX5_divide_71 : decode cX5_divide 71 = .ok (.istore 7, 2) := by decide +kernel
theorem dX5_divide_73 : decode cX5_divide 73 = .ok (.iload 7, 2) := by decide +kernel
theorem dX5_divide_75 : decode cX5_divide 75 = .ok (.aload_n 0, 1) := by decide +kernel
theorem dX5_divide_76 : decode cX5_divide 76 = .ok (.getfield 29, 3) := by decide +kernel
theorem dX5_divide_79 : decode cX5_divide 79 = .ok (.if_icmp .ge 54, 3) := by decide +kernel
theorem dX5_divide_82 : decode cX5_divide 82 = .ok (.aload_n 0, 1) := by decide +kernel
theorem dX5_divide_83 : decode cX5_divide 83 = .ok (.getfield 9, 3) := by decide +kernel
theorem dX5_divide_86 : decode cX5_divide 86 = .ok (.iload 7, 2) := by decide +kernel
theorem dX5_divide_88 : decode cX5_divide 88 = .ok (.iload 5, 2) := by decide +kernel
theorem dX5_divide_90 : decode cX5_divide 90 = .ok (.ifCond .gt 7, 3) := by decide +kernel
theorem dX5_divide_93 : decode cX5_divide 93 = .ok (.iconst 0, 1) := by decide +kernel
theorem dX5_divide_94 : decode cX5_divide 94 = .ok (.goto 16, 3) := by decide +kernel
theorem dX5_divide_97 : decode cX5_divide 97 = .ok (.iload 6, 2) := by decide +kernel
theorem dX5_divide_99 : decode cX5_divide 99 = .ok (.aload_n 0, 1) := by decide +kernel
theorem dX5_divide_100 : decode cX5_divide 100 = .ok (.getfield 9, 3) := by decide +kernel
theorem dX5_divide_103 : decode cX5_divide 103 = .ok (.iload 7, 2) := by decide +kernel
theorem dX5_divide_105 : decode cX5_divide 105 = .ok (.iaload, 1) := by decide +kernel
theorem dX5_divide_106 : decode cX5_divide 106 = .ok (.imul, 1) := by decide +kernel
theorem dX5_divide_107 : decode cX5_divide 107 = .ok (.iload 5, 2) := by decide +kernel
theorem dX5_divide_109 : decode cX5_divide 109 = .ok (.idiv, 1) := by decide +kernel
theorem dX5_divide_110 : decode cX5_divide 110 = .ok (.iastore, 1) := by decide +kernel
theorem dX5_divide_111 : decode cX5_divide 111 = .ok (.aload_n 0, 1) := by decide +kernel
theorem dX5_divide_112 : decode cX5_divide 112 = .ok (.dup, 1) := by decide +kernel
theorem dX5_divide_113 : decode cX5_divide 113 = .ok (.getfield 46, 3) := by decide +kernel
theorem dX5_divide_116 : decode cX5_divide 116 = .ok (.aload_n 0, 1) := by decide +kernel
theorem dX5_divide_117 : decode cX5_divide 117 = .ok (.getfield 9, 3) := by decide +kernel
theorem dX5_divide_120 : decode cX5_divide 120 = .ok (.iload 7, 2) := by decide +kernel
theorem dX5_divide_122 : decode cX5_divide 122 = .ok (.iaload, 1) := by decide +kernel
theorem dX5_divide_123 : decode cX5_divide 123 = .ok (.isub, 1) := by decide +kernel
theorem dX5_divide_124 : decode cX5_divide 124 = .ok (.putfield 46, 3) := by decide +kernel
theorem dX5_divide_127 : decode cX5_divide 127 = .ok (.iinc 7 1, 3) := by decide +kernel
theorem dX5_divide_130 : decode cX5_divide 130 = .ok (.goto (-57), 3) := by decide +kernel
theorem dX5_divide_133 : decode cX5_divide 133 = .ok (.aload_n 0, 1) := by decide +kernel
theorem dX5_divide_134 : decode cX5_divide 134 = .ok (.invokevirtual 49, 3) := by decide +kernel
theorem dX5_divide_137 : decode cX5_divide 137 = .ok (.aload_n 0, 1) := by decide +kernel
theorem dX5_divide_138 : decode cX5_divide 138 = .ok (.aload_n 1, 1) := by decide +kernel
theorem dX5_divide_139 : decode cX5_divide 139 = .ok (.iload 4, 2) := by decide +kernel
theorem dX5_divide_141 : decode cX5_divide 141 = .ok (.invokevirtual 52, 3) := by decide +kernel
theorem dX5_divide_144 : decode cX5_divide 144 = .ok (.return_, 1) := by decide +kernel
set_option maxRecDepth 100000 in
set_option maxHeartbeats 4000000 in
theorem k_X5_divide {G : am_G} (hK : k_OK G) {d : Nat} (hd : 4 ≤ d) {sh : List (Nat ⊕ (Nat × Nat))} {I : Nat → Nat → Int32} {R : Nat → Nat → Option Nat} {L : Nat → Nat → Int64} {g : Nat} {o t b pj lf len mn : Nat} (ho : k_Portions sh R o) (ht : k_Town sh R t) (hb : k_Days sh R b) (hot : o + 4 ≤ t ∨ t + 19 ≤ o) (hob : o + 4 ≤ b ∨ b + 4 ≤ o) (hbt : b + 4 ≤ t ∨ t + 19 ≤ b) (p x : Int32) (hp : p = nI pj) (hpj : pj < 8) (hx : x = nI lf) (hlf : lf < 6) (hlen : I (t + 16) 2 = nI len) (hlen6 : len ≤ 600) {n ec : Nat} (hn : I t 0 = nI n) (hn8 : n ≤ 8) (hsc : f_sc (I (t + 4)) (I (t + 14) lf) n = nI mn) (hmn1 : 1 ≤ mn) (hmn6 : mn ≤ 6) (hec : I (t + 13) lf = nI ec) (hec6 : ec ≤ 6) (he : ∀ j, j < ec → vp_in (I (t + 15) (6 * lf + j)) 8) : AM G mX5_divide d [.ref o, .ref t, .ref b, .int p, .int x] (sh, I, R, L, g) (fun v w => v = none ∧ w = (sh, f_div I o t b pj lf len mn ec, R, L, g)) (fun _ _ => False) := by
  have hG := hK.1
  have hcx : x.toNatClampNeg = lf := k_lit hx (by omega)
  have hbx : vp_in x 6 := by rw [hx]; exact vp_in_nI hlf (by decide)
  refine AM.of (n := 3) (by decide +kernel) (Nat.le_of_ble_eq_true rfl) ?_
  show AW G mX5_divide d (fun v w => v = none ∧ w = (sh, f_div I o t b pj lf len mn ec, R, L, g)) (fun _ _ => False) 0 [some (.ref o), some (.ref t), some (.ref b), some (.int p), some (.int x), none, none, none] [] (sh, I, R, L, g) 0 0
  refine AW.aload_n dX5_divide_0 rfl ?_
  refine AW.aload_n dX5_divide_1 rfl ?_
  refine AW.iload dX5_divide_2 rfl ?_
  refine AW.callV (b := t) (As := [.int x]) hG.2.2 (vX5_23 hG) (ht.1 0 _ rfl) (k_X9_sliceCount hK (d := 1) (Nat.le_refl _) ht (by assumption) (by assumption) x (by first | assumption | exact vp_in_nI (by omega) (by decide))) (by omega) dX5_divide_4 rfl rfl (Nat.le_of_ble_eq_true rfl) (fun v w9 hq9 h09 => by obtain ⟨rfl, rfl⟩ := hq9; exact ⟨h09, rfl⟩) (by decide) (by decide) (fun _ _ hx => hx) (fun v4 w4 hq4 => ?_)
  obtain ⟨rfl, rfl⟩ := hq4
  refine AW.nam (fun x4 ex4 => ?_)
  refine AW.putI (fX5_29 hG) rfl (vp_nar_int _) rfl (ho.1 0 _ rfl) dX5_divide_7 ?_
  refine AW.namI (fun I7 eI7 => ?_)
  rw [hcx, hsc] at ex4
  have h7o : ∀ a, a ≠ o → I7 a = I a := fun a h => by rw [eI7, am_up_o _ _ _ _ h]
  have h7m : I7 o 3 = nI mn := by rw [eI7, am_up_s, ex4]; exact pk_us
  have h7l : I7 (t + 16) 2 = nI len := by rw [h7o (t + 16) (by omega)]; exact hlen
  refine AW.aload_n dX5_divide_10 rfl ?_
  refine AW.aload_n dX5_divide_11 rfl ?_
  refine AW.aload_n dX5_divide_12 rfl ?_
  refine AW.iload_n dX5_divide_13 rfl ?_
  refine AW.iload dX5_divide_14 rfl ?_
  refine AW.callV (b := o) (As := [.ref t, .ref b, .int p, .int x]) hG.2.2 (vX5_33 hG) (ho.1 0 _ rfl) (k_X5_weigh hK (d := 2) (Nat.le_refl _) ho ht hb (by omega) (by omega) (by omega) p x (by assumption) (by assumption) (by assumption) (by assumption) (by assumption) (by assumption) (by assumption) (by assumption)) (by omega) dX5_divide_16 rfl rfl (Nat.le_of_ble_eq_true rfl) (fun v w9 hq9 h09 => by obtain ⟨rfl, rfl⟩ := hq9; exact ⟨h09, rfl⟩) (by decide) (by decide) (fun _ _ hx => hx) (fun v16 w16 hq16 => ?_)
  obtain ⟨rfl, rfl⟩ := hq16
  refine AW.namI (fun I16 eI16 => ?_)
  show AW G mX5_divide d (fun v w => v = none ∧ w = (sh, f_div I o t b pj lf len mn ec, R, L, g)) (fun _ _ => False) 19 [some (.ref o), some (.ref t), some (.ref b), some (.int p), some (.int x), none, none, none] [] (sh, I16, R, L, g) 0 0
  rw [f_W3_c h7o (by omega) (by omega)] at eI16
  have q16A : I16 (t + 18) = (f_W3 I o t b pj lf len mn mn).2.1 := by rw [eI16]; unfold f_w3; rw [am_uA_o _ _ _ (by omega), am_uA_o _ _ _ (by omega), am_uA_s]
  have q16B : I16 (o + 3) = (f_W3 I o t b pj lf len mn mn).1 := by rw [eI16]; unfold f_w3; rw [am_uA_o _ _ _ (by omega), am_uA_s]
  have q16D : I16 (o + 1) = (f_W3 I o t b pj lf len mn mn).2.2 := by rw [eI16]; unfold f_w3; rw [am_uA_s]
  have q16o : ∀ a, a ≠ t + 18 → a ≠ o + 3 → a ≠ o + 1 → I16 a = I7 a := fun a a1 a2 a3 => by rw [eI16, f_w3_o a1 a2 a3]
  have h16m : I16 o 3 = nI mn := by rw [q16o o (by omega) (by omega) (by omega)]; exact h7m
  refine AW.iconst 0 dX5_divide_19 (by decide) ?_
  refine AW.is [some (.ref o), some (.ref t), some (.ref b), some (.int p), some (.int x), some (.int 0), none, none] dX5_divide_20 (by decide) rfl rfl ?_
  refine AW.iconst 0 dX5_divide_22 (by decide) ?_
  refine AW.is [some (.ref o), some (.ref t), some (.ref b), some (.int p), some (.int x), some (.int 0), some (.int 0), none] dX5_divide_23 (by decide) rfl rfl ?_
  have L25 : ∀ k25, k25 ≤ mn → ∀ (sm y : Int32), (y = nI k25 ∧ sm = f_sum (f_W3 I o t b pj lf len mn mn).2.2 k25) → AW G mX5_divide d (fun v w => v = none ∧ w = (sh, f_div I o t b pj lf len mn ec, R, L, g)) (fun _ _ => False) 25 [some (.ref o), some (.ref t), some (.ref b), some (.int p), some (.int x), some (.int sm), some (.int y), none] [] (sh, I16, R, L, g) 0 0 := by
    refine am_rec mn (fun k25 hk25 ih25 => ?_)
    intro sm y hi25
    obtain ⟨hy, hsm⟩ := hi25
    refine AW.iload dX5_divide_25 rfl ?_
    refine AW.aload_n dX5_divide_27 rfl ?_
    refine AW.getI (fX5_29 hG).r rfl (ho.1 0 _ rfl) dX5_divide_28 ?_
    refine AW.icmp_ge 52 dX5_divide_31 (by decide) (fun h31 => ?_) (fun h31 => ?_)
    · have hke25 := k_ge h31 hy h16m hk25 (by omega)
      rw [hke25] at hsm
      refine AW.aload_n dX5_divide_52 rfl ?_
      refine AW.getR (c' := (t + 8)) (fX5_37 hG) rfl (ht.1 0 _ rfl) (ht.2 (0, 11, 8) (by decide)) dX5_divide_53 ?_
      refine AW.getR (c' := (t + 10)) (fX5_41 hG) rfl (ht.1 8 _ rfl) (ht.2 (8, 2, 10) (by decide)) dX5_divide_56 ?_
      refine AW.iload dX5_divide_59 rfl ?_
      refine AW.iald (ht.1 10 _ rfl) (by first | assumption | (unfold vp_in; decide) | exact vp_in_nI (by omega) (by decide)) dX5_divide_61 ?_
      refine AW.nam (fun x62 ex62 => ?_)
      refine AW.is [some (.ref o), some (.ref t), some (.ref b), some (.int p), some (.int x), some (.int sm), some (.int x62), none] dX5_divide_62 (by decide) rfl rfl ?_
      refine AW.aload_n dX5_divide_64 rfl ?_
      refine AW.iload dX5_divide_65 rfl ?_
      refine AW.putI (fX5_46 hG) rfl (vp_nar_int _) rfl (ho.1 0 _ rfl) dX5_divide_67 ?_
      refine AW.namI (fun I67 eI67 => ?_)
      have e67 : I67 = f_w5 I o t (f_W3 I o t b pj lf len mn mn).2.1 (f_W3 I o t b pj lf len mn mn).1 (I (o + 2)) (f_W3 I o t b pj lf len mn mn).2.2 (upd (upd (I o) 3 (nI mn)) 4 (I (t + 10) lf)) := by
        refine f_w5_e hot ?_ ?_ ?_ ?_ ?_ (fun a a1 a2 a3 a4 a5 => ?_)
        · rw [eI67, am_up_o _ _ _ _ (by omega)]; exact q16A
        · rw [eI67, am_up_o _ _ _ _ (by omega)]; exact q16B
        · rw [eI67, am_up_o _ _ _ _ (by omega), q16o (o + 2) (by omega) (by omega) (by omega), h7o _ (by omega)]
        · rw [eI67, am_up_o _ _ _ _ (by omega)]; exact q16D
        · rw [eI67, am_up_s, q16o o (by omega) (by omega) (by omega), eI7, am_up_s, ex4, ex62, hcx, q16o (t + 10) (by omega) (by omega) (by omega), h7o _ (by omega)]
        · rw [eI67, am_up_o _ _ _ _ a5, q16o a a1 a2 a4, h7o a a5]
      refine AW.iconst 0 dX5_divide_70 (by decide) ?_
      refine AW.is [some (.ref o), some (.ref t), some (.ref b), some (.int p), some (.int x), some (.int sm), some (.int x62), some (.int 0)] dX5_divide_71 (by decide) rfl rfl ?_
      have L73 : ∀ k73, k73 ≤ mn → ∀ (y : Int32) (J : Nat → Nat → Int32), (y = nI k73 ∧ J = f_w5 I o t (f_W3 I o t b pj lf len mn mn).2.1 (f_W3 I o t b pj lf len mn mn).1 (I (o + 2)) (f_S1 I o t b pj lf len mn k73) (upd (upd (I o) 3 (nI mn)) 4 (f_c1 I o t b pj lf len mn k73))) → AW G mX5_divide d (fun v w => v = none ∧ w = (sh, f_div I o t b pj lf len mn ec, R, L, g)) (fun _ _ => False) 73 [some (.ref o), some (.ref t), some (.ref b), some (.int p), some (.int x), some (.int sm), some (.int x62), some (.int y)] [] (sh, J, R, L, g) 0 0 := by
        refine am_rec mn (fun k73 hk73 ih73 => ?_)
        intro y J hi73
        obtain ⟨hy, hJ⟩ := hi73
        have qD : J (o + 1) = f_S1 I o t b pj lf len mn k73 := by rw [hJ, f_w5_D]
        have qE : J o = upd (upd (I o) 3 (nI mn)) 4 (f_c1 I o t b pj lf len mn k73) := by rw [hJ, f_w5_E]
        have hJm : J o 3 = nI mn := by rw [qE]; rfl
        refine AW.iload dX5_divide_73 rfl ?_
        refine AW.aload_n dX5_divide_75 rfl ?_
        refine AW.getI (fX5_29 hG).r rfl (ho.1 0 _ rfl) dX5_divide_76 ?_
        refine AW.icmp_ge 133 dX5_divide_79 (by decide) (fun h79 => ?_) (fun h79 => ?_)
        · have hke := k_ge h79 hy hJm hk73 (by omega)
          refine AW.aload_n dX5_divide_133 rfl ?_
          refine AW.callV (b := o) (As := []) hG.2.2 (vX5_49 hG) (ho.1 0 _ rfl) (k_X5_sortDown hK (d := 0) (Nat.le_refl _) ho (by assumption) (by omega) (by omega)) (by omega) dX5_divide_134 rfl rfl (Nat.le_of_ble_eq_true rfl) (fun v w9 hq9 h09 => by obtain ⟨rfl, rfl⟩ := hq9; exact ⟨h09, rfl⟩) (by decide) (by decide) (fun _ _ hx => hx) (fun v134 w134 hq134 => ?_)
          obtain ⟨rfl, rfl⟩ := hq134
          refine AW.namI (fun I134 eI134 => ?_)
          show AW G mX5_divide d (fun v w => v = none ∧ w = (sh, f_div I o t b pj lf len mn ec, R, L, g)) (fun _ _ => False) 137 [some (.ref o), some (.ref t), some (.ref b), some (.int p), some (.int x), some (.int sm), some (.int x62), some (.int y)] [] (sh, I134, R, L, g) 0 0
          have e134 : I134 = f_w5 I o t (f_W3 I o t b pj lf len mn mn).2.1 (f_W3 I o t b pj lf len mn mn).1 (I (o + 2)) (f_S2 I o t b pj lf len mn) (upd (upd (I o) 3 (nI mn)) 4 (f_c1 I o t b pj lf len mn mn)) := by
            rw [hke] at hJ
            refine f_w5_e hot ?_ ?_ ?_ ?_ ?_ (fun a a1 a2 a3 a4 a5 => ?_)
            · rw [eI134, am_uA_o _ _ _ (by omega), hJ, f_w5_A hot]
            · rw [eI134, am_uA_o _ _ _ (by omega), hJ, f_w5_B]
            · rw [eI134, am_uA_o _ _ _ (by omega), hJ, f_w5_C]
            · rw [eI134, am_uA_s, hJ, f_w5_D]; rfl
            · rw [eI134, am_uA_o _ _ _ (by omega), hJ, f_w5_E]
            · rw [eI134, am_uA_o _ _ _ a4, hJ, f_w5_o a1 a2 a3 a4 a5]
          have q34o : ∀ a, a ≠ t + 18 → a ≠ o + 3 → a ≠ o + 2 → a ≠ o + 1 → a ≠ o → I134 a = I a := fun a a1 a2 a3 a4 a5 => by rw [e134, f_w5_o a1 a2 a3 a4 a5]
          have h34e : I134 (t + 13) lf = nI ec := by rw [q34o (t + 13) (by omega) (by omega) (by omega) (by omega) (by omega)]; exact hec
          have h34m : I134 o 3 = nI mn := by rw [e134, f_w5_E]; rfl
          have h34h : ∀ j, j < ec → vp_in (I134 (t + 15) (6 * lf + j)) 8 := fun j hj => by rw [q34o (t + 15) (by omega) (by omega) (by omega) (by omega) (by omega)]; exact he j hj
          refine AW.aload_n dX5_divide_137 rfl ?_
          refine AW.aload_n dX5_divide_138 rfl ?_
          refine AW.iload dX5_divide_139 rfl ?_
          refine AW.callV (b := o) (As := [.ref t, .int x]) hG.2.2 (vX5_52 hG) (ho.1 0 _ rfl) (k_X5_handOut hK (d := 2) (Nat.le_refl _) ho ht (by omega) x (by assumption) (by assumption) (by assumption) (by assumption) (by assumption) (by assumption) (by assumption)) (by omega) dX5_divide_141 rfl rfl (Nat.le_of_ble_eq_true rfl) (fun v w9 hq9 h09 => by obtain ⟨rfl, rfl⟩ := hq9; exact ⟨h09, rfl⟩) (by decide) (by decide) (fun _ _ hx => hx) (fun v141 w141 hq141 => ?_)
          obtain ⟨rfl, rfl⟩ := hq141
          refine AW.namI (fun I141 eI141 => ?_)
          show AW G mX5_divide d (fun v w => v = none ∧ w = (sh, f_div I o t b pj lf len mn ec, R, L, g)) (fun _ _ => False) 144 [some (.ref o), some (.ref t), some (.ref b), some (.int p), some (.int x), some (.int sm), some (.int x62), some (.int y)] [] (sh, I141, R, L, g) 0 0
          exact AW.vret dX5_divide_144 rfl (by decide) (by decide) (⟨rfl, f_w5_e hot (by rw [eI141, am_uA_o _ _ _ (by omega), e134, f_w5_A hot]) (by rw [eI141, am_uA_o _ _ _ (by omega), e134, f_w5_B]) (by rw [eI141, am_uA_s, q34o (t + 4) (by omega) (by omega) (by omega) (by omega) (by omega), q34o (t + 15) (by omega) (by omega) (by omega) (by omega) (by omega), e134, f_w5_D, f_w5_C]; rfl) (by rw [eI141, am_uA_o _ _ _ (by omega), e134, f_w5_D]) (by rw [eI141, am_uA_o _ _ _ (by omega), e134, f_w5_E]) (fun a a1 a2 a3 a4 a5 => by rw [eI141, am_uA_o _ _ _ a3]; exact q34o a a1 a2 a3 a4 a5) |> fun h => congrArg (fun J9 => (sh, J9, R, L, g)) h⟩)
        · have hlt := k_lt h79 hy hJm hk73 (by omega)
          have hby : vp_in y 6 := by rw [hy]; exact vp_in_nI (by omega) (by decide)
          have hcy : y.toNatClampNeg = k73 := k_lit hy (by omega)
          have hSk : f_S1 I o t b pj lf len mn k73 k73 = (f_W3 I o t b pj lf len mn mn).2.2 k73 := if_neg (Nat.lt_irrefl _)
          have hx62 : x62 = I (t + 10) lf := by rw [ex62, hcx, q16o (t + 10) (by omega) (by omega) (by omega), h7o _ (by omega)]
          have e5up : ∀ (u v : Int32), upd (upd (upd (I o) 3 (nI mn)) 4 u) 4 v = upd (upd (I o) 3 (nI mn)) 4 v := fun u v => by funext k; unfold upd; by_cases h : k = 4 <;> simp [h]
          refine AW.aload_n dX5_divide_82 rfl ?_
          refine AW.getR (c' := (o + 1)) (fX5_9 hG).r rfl (ho.1 0 _ rfl) (ho.2 (0, 0, 1) (by decide)) dX5_divide_83 ?_
          refine AW.iload dX5_divide_86 rfl ?_
          refine AW.iload dX5_divide_88 rfl ?_
          refine AW.if_gt 97 dX5_divide_90 (by decide) (fun h90 => ?_) (fun h90 => ?_)
          · have hs90 : 0 < f_sum (f_W3 I o t b pj lf len mn mn).2.2 mn := by rw [← hsm]; exact h90
            have hq73 : f_q (I (t + 10) lf) (f_sum (f_W3 I o t b pj lf len mn mn).2.2 mn) ((f_W3 I o t b pj lf len mn mn).2.2 k73) = x62 * (f_W3 I o t b pj lf len mn mn).2.2 k73 / sm := by rw [f_q, if_pos hs90, hx62, hsm]
            have hw73 := hSk
            refine AW.iload dX5_divide_97 rfl ?_
            refine AW.aload_n dX5_divide_99 rfl ?_
            refine AW.getR (c' := (o + 1)) (fX5_9 hG).r rfl (ho.1 0 _ rfl) (ho.2 (0, 0, 1) (by decide)) dX5_divide_100 ?_
            refine AW.iload dX5_divide_103 rfl ?_
            refine AW.iald (ho.1 1 _ rfl) (by first | assumption | (unfold vp_in; decide) | exact vp_in_nI (by omega) (by decide)) dX5_divide_105 ?_
            refine AW.imul dX5_divide_106 ?_
            refine AW.iload dX5_divide_107 rfl ?_
            refine AW.idiv dX5_divide_109 (fun h => by rw [h] at h90; exact absurd h90 (by decide)) ?_
            refine AW.iast (ho.1 1 _ rfl) (by first | assumption | (unfold vp_in; decide) | exact vp_in_nI (by omega) (by decide)) dX5_divide_110 ?_
            refine AW.namI (fun I110 eI110 => ?_)
            refine AW.aload_n dX5_divide_111 rfl ?_
            refine AW.dup dX5_divide_112 rfl ?_
            refine AW.getI (fX5_46 hG).r rfl (ho.1 0 _ rfl) dX5_divide_113 ?_
            refine AW.aload_n dX5_divide_116 rfl ?_
            refine AW.getR (c' := (o + 1)) (fX5_9 hG).r rfl (ho.1 0 _ rfl) (ho.2 (0, 0, 1) (by decide)) dX5_divide_117 ?_
            refine AW.iload dX5_divide_120 rfl ?_
            refine AW.iald (ho.1 1 _ rfl) (by first | assumption | (unfold vp_in; decide) | exact vp_in_nI (by omega) (by decide)) dX5_divide_122 ?_
            refine AW.isub dX5_divide_123 ?_
            refine AW.putI (fX5_46 hG) rfl (vp_nar_int _) rfl (ho.1 0 _ rfl) dX5_divide_124 ?_
            refine AW.namI (fun I124 eI124 => ?_)
            refine AW.inc (fun x127 => [some (.ref o), some (.ref t), some (.ref b), some (.int p), some (.int x), some (.int sm), some (.int x62), some (.int x127)]) dX5_divide_127 rfl (by decide) rfl (fun _ => rfl) (fun x127 ex127 => ?_)
            refine AW.goto 73 dX5_divide_130 (by decide) ?_
            exact ih73 (k73 + 1) (by omega) (by omega) _ _ (by
              refine ⟨k_inc (by assumption) hy, f_w5_e hot ?_ ?_ ?_ ?_ ?_ (fun a a1 a2 a3 a4 a5 => ?_)⟩
              · rw [eI124, am_up_o _ _ _ _ (by omega), eI110, am_up_o _ _ _ _ (by omega), hJ, f_w5_A hot]
              · rw [eI124, am_up_o _ _ _ _ (by omega), eI110, am_up_o _ _ _ _ (by omega), hJ, f_w5_B]
              · rw [eI124, am_up_o _ _ _ _ (by omega), eI110, am_up_o _ _ _ _ (by omega), hJ, f_w5_C]
              · rw [eI124, am_up_o _ _ _ _ (by omega), eI110, am_up_s, hcy, qD, hw73, ← hq73]; exact f_row_s _ _ _
              · rw [eI124, am_up_s, eI110, am_up_o _ _ _ _ (by omega), am_up_s, hcy, qD, qE, hw73, ← hq73, pk_us, pk_us]; exact e5up _ _
              · rw [eI124, am_up_o _ _ _ _ a5, eI110, am_up_o _ _ _ _ a4, hJ, f_w5_o a1 a2 a3 a4 a5])
          · have hs90 : ¬ 0 < f_sum (f_W3 I o t b pj lf len mn mn).2.2 mn := by rw [← hsm]; exact h90
            have hq73 : f_q (I (t + 10) lf) (f_sum (f_W3 I o t b pj lf len mn mn).2.2 mn) ((f_W3 I o t b pj lf len mn mn).2.2 k73) = 0 := by rw [f_q, if_neg hs90]
            refine AW.iconst 0 dX5_divide_93 (by decide) ?_
            refine AW.goto 110 dX5_divide_94 (by decide) ?_
            refine AW.iast (ho.1 1 _ rfl) (by first | assumption | (unfold vp_in; decide) | exact vp_in_nI (by omega) (by decide)) dX5_divide_110 ?_
            refine AW.namI (fun I110 eI110 => ?_)
            refine AW.aload_n dX5_divide_111 rfl ?_
            refine AW.dup dX5_divide_112 rfl ?_
            refine AW.getI (fX5_46 hG).r rfl (ho.1 0 _ rfl) dX5_divide_113 ?_
            refine AW.aload_n dX5_divide_116 rfl ?_
            refine AW.getR (c' := (o + 1)) (fX5_9 hG).r rfl (ho.1 0 _ rfl) (ho.2 (0, 0, 1) (by decide)) dX5_divide_117 ?_
            refine AW.iload dX5_divide_120 rfl ?_
            refine AW.iald (ho.1 1 _ rfl) (by first | assumption | (unfold vp_in; decide) | exact vp_in_nI (by omega) (by decide)) dX5_divide_122 ?_
            refine AW.isub dX5_divide_123 ?_
            refine AW.putI (fX5_46 hG) rfl (vp_nar_int _) rfl (ho.1 0 _ rfl) dX5_divide_124 ?_
            refine AW.namI (fun I124 eI124 => ?_)
            refine AW.inc (fun x127 => [some (.ref o), some (.ref t), some (.ref b), some (.int p), some (.int x), some (.int sm), some (.int x62), some (.int x127)]) dX5_divide_127 rfl (by decide) rfl (fun _ => rfl) (fun x127 ex127 => ?_)
            refine AW.goto 73 dX5_divide_130 (by decide) ?_
            exact ih73 (k73 + 1) (by omega) (by omega) _ _ (by
              refine ⟨k_inc (by assumption) hy, f_w5_e hot ?_ ?_ ?_ ?_ ?_ (fun a a1 a2 a3 a4 a5 => ?_)⟩
              · rw [eI124, am_up_o _ _ _ _ (by omega), eI110, am_up_o _ _ _ _ (by omega), hJ, f_w5_A hot]
              · rw [eI124, am_up_o _ _ _ _ (by omega), eI110, am_up_o _ _ _ _ (by omega), hJ, f_w5_B]
              · rw [eI124, am_up_o _ _ _ _ (by omega), eI110, am_up_o _ _ _ _ (by omega), hJ, f_w5_C]
              · rw [eI124, am_up_o _ _ _ _ (by omega), eI110, am_up_s, hcy, qD, ← hq73]; exact f_row_s _ _ _
              · rw [eI124, am_up_s, eI110, am_up_o _ _ _ _ (by omega), am_up_s, hcy, qD, qE, ← hq73, pk_us, pk_us]; exact e5up _ _
              · rw [eI124, am_up_o _ _ _ _ a5, eI110, am_up_o _ _ _ _ a4, hJ, f_w5_o a1 a2 a3 a4 a5])
      exact L73 0 (by omega) _ _ (⟨nI_0.symm, e67⟩)
    · have hlt := k_lt h31 hy h16m hk25 (by omega)
      have hby : vp_in y 6 := by rw [hy]; exact vp_in_nI (by omega) (by decide)
      have hcy : y.toNatClampNeg = k25 := k_lit hy (by omega)
      refine AW.iload dX5_divide_34 rfl ?_
      refine AW.aload_n dX5_divide_36 rfl ?_
      refine AW.getR (c' := (o + 1)) (fX5_9 hG).r rfl (ho.1 0 _ rfl) (ho.2 (0, 0, 1) (by decide)) dX5_divide_37 ?_
      refine AW.iload dX5_divide_40 rfl ?_
      refine AW.iald (ho.1 1 _ rfl) (by first | assumption | (unfold vp_in; decide) | exact vp_in_nI (by omega) (by decide)) dX5_divide_42 ?_
      refine AW.iadd dX5_divide_43 ?_
      refine AW.nam (fun x44 ex44 => ?_)
      refine AW.is [some (.ref o), some (.ref t), some (.ref b), some (.int p), some (.int x), some (.int x44), some (.int y), none] dX5_divide_44 (by decide) rfl rfl ?_
      refine AW.inc (fun x46 => [some (.ref o), some (.ref t), some (.ref b), some (.int p), some (.int x), some (.int x44), some (.int x46), none]) dX5_divide_46 rfl (by decide) rfl (fun _ => rfl) (fun x46 ex46 => ?_)
      refine AW.goto 25 dX5_divide_49 (by decide) ?_
      refine AW.mask [7] [some (.ref o), some (.ref t), some (.ref b), some (.int p), some (.int x), some (.int x44), some (.int x46), none] rfl ?_
      exact ih25 (k25 + 1) (by omega) (by omega) _ _ (⟨k_inc (by assumption) hy, by rw [ex44, hcy, q16D, hsm]; rfl⟩)
  exact L25 0 (by omega) _ _ (⟨nI_0.symm, rfl⟩)
