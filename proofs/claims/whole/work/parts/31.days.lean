/-! bitCount, fill; DAYS -/
def f_bc (x : Int32) : Int32 :=
  let a := x - ((x.toUInt32 >>> ((1 : Int32).toUInt32 &&& Int32.toUInt32 31)).toInt32 &&& 1431655765)
  let b := (a &&& 858993459) + ((a.toUInt32 >>> ((2 : Int32).toUInt32 &&& Int32.toUInt32 31)).toInt32 &&& 858993459)
  let c := (b + (b.toUInt32 >>> ((4 : Int32).toUInt32 &&& Int32.toUInt32 31)).toInt32) &&& 252645135
  let e := c + (c.toUInt32 >>> ((8 : Int32).toUInt32 &&& Int32.toUInt32 31)).toInt32
  let f := e + (e.toUInt32 >>> ((16 : Int32).toUInt32 &&& Int32.toUInt32 31)).toInt32
  f &&& 63
theorem am_up_uA (I : Nat → Nat → Int32) (c k : Nat) (x : Int32) : am_up I c k x = am_uA I c (upd (I c) k x) := rfl
theorem am_uA_uA (I : Nat → Nat → Int32) (c : Nat) (f h : Nat → Int32) : am_uA (am_uA I c f) c h = am_uA I c h := by
  funext a
  unfold am_uA
  by_cases e : a = c
  · rw [if_pos e, if_pos e]
  · rw [if_neg e, if_neg e, if_neg e]
theorem am_uA_id (I : Nat → Nat → Int32) (c : Nat) : am_uA I c (I c) = I := by
  funext a
  unfold am_uA
  by_cases e : a = c
  · rw [if_pos e, e]
  · rw [if_neg e]
def f_fill (f : Nat → Int32) (x : Int32) (n : Nat) : Nat → Int32 := fun k => if k < n then x else f k
theorem f_fill_s (f : Nat → Int32) (x : Int32) (n : Nat) : upd (f_fill f x n) n x = f_fill f x (n + 1) := by
  funext k
  unfold upd f_fill
  by_cases h : k = n
  · subst h; rw [if_pos rfl, if_pos (Nat.lt_succ_self k)]
  · rw [if_neg h]
    by_cases h2 : k < n
    · rw [if_pos h2, if_pos (by omega)]
    · rw [if_neg h2, if_neg (by omega)]
theorem dJ6_bitCount_0f7a4_0 : decode cJ6_bitCount_0f7a4 0 = .ok (.iload_n 0, 1) := by decide +kernel
theorem dJ6_bitCount_0f7a4_1 : decode cJ6_bitCount_0f7a4 1 = .ok (.iload_n 0, 1) := by decide +kernel
theorem dJ6_bitCount_0f7a4_2 : decode cJ6_bitCount_0f7a4 2 = .ok (.iconst 1, 1) := by decide +kernel
theorem dJ6_bitCount_0f7a4_3 : decode cJ6_bitCount_0f7a4 3 = .ok (.iushr, 1) := by decide +kernel
theorem dJ6_bitCount_0f7a4_4 : decode cJ6_bitCount_0f7a4 4 = .ok (.ldc_w 265, 3) := by decide +kernel
theorem dJ6_bitCount_0f7a4_7 : decode cJ6_bitCount_0f7a4 7 = .ok (.iand, 1) := by decide +kernel
theorem dJ6_bitCount_0f7a4_8 : decode cJ6_bitCount_0f7a4 8 = .ok (.isub, 1) := by decide +kernel
theorem dJ6_bitCount_0f7a4_9 : decode cJ6_bitCount_0f7a4 9 = .ok (.istore_n 0, 1) := by decide +kernel
theorem dJ6_bitCount_0f7a4_10 : decode cJ6_bitCount_0f7a4 10 = .ok (.iload_n 0, 1) := by decide +kernel
theorem dJ6_bitCount_0f7a4_11 : decode cJ6_bitCount_0f7a4 11 = .ok (.ldc_w 266, 3) := by decide +kernel
theorem dJ6_bitCount_0f7a4_14 : decode cJ6_bitCount_0f7a4 14 = .ok (.iand, 1) := by decide +kernel
theorem dJ6_bitCount_0f7a4_15 : decode cJ6_bitCount_0f7a4 15 = .ok (.iload_n 0, 1) := by decide +kernel
theorem dJ6_bitCount_0f7a4_16 : decode cJ6_bitCount_0f7a4 16 = .ok (.iconst 2, 1) := by decide +kernel
theorem dJ6_bitCount_0f7a4_17 : decode cJ6_bitCount_0f7a4 17 = .ok (.iushr, 1) := by decide +kernel
theorem dJ6_bitCount_0f7a4_18 : decode cJ6_bitCount_0f7a4 18 = .ok (.ldc_w 266, 3) := by decide +kernel
theorem dJ6_bitCount_0f7a4_21 : decode cJ6_bitCount_0f7a4 21 = .ok (.iand, 1) := by decide +kernel
theorem dJ6_bitCount_0f7a4_22 : decode cJ6_bitCount_0f7a4 22 = .ok (.iadd, 1) := by decide +kernel
theorem dJ6_bitCount_0f7a4_23 : decode cJ6_bitCount_0f7a4 23 = .ok (.istore_n 0, 1) := by decide +kernel
theorem dJ6_bitCount_0f7a4_24 : decode cJ6_bitCount_0f7a4 24 = .ok (.iload_n 0, 1) := by decide +kernel
theorem dJ6_bitCount_0f7a4_25 : decode cJ6_bitCount_0f7a4 25 = .ok (.iload_n 0, 1) := by decide +kernel
theorem dJ6_bitCount_0f7a4_26 : decode cJ6_bitCount_0f7a4 26 = .ok (.iconst 4, 1) := by decide +kernel
theorem dJ6_bitCount_0f7a4_27 : decode cJ6_bitCount_0f7a4 27 = .ok (.iushr, 1) := by decide +kernel
theorem dJ6_bitCount_0f7a4_28 : decode cJ6_bitCount_0f7a4 28 = .ok (.iadd, 1) := by decide +kernel
theorem dJ6_bitCount_0f7a4_29 : decode cJ6_bitCount_0f7a4 29 = .ok (.ldc_w 267, 3) := by decide +kernel
theorem dJ6_bitCount_0f7a4_32 : decode cJ6_bitCount_0f7a4 32 = .ok (.iand, 1) := by decide +kernel
theorem dJ6_bitCount_0f7a4_33 : decode cJ6_bitCount_0f7a4 33 = .ok (.istore_n 0, 1) := by decide +kernel
theorem dJ6_bitCount_0f7a4_34 : decode cJ6_bitCount_0f7a4 34 = .ok (.iload_n 0, 1) := by decide +kernel
theorem dJ6_bitCount_0f7a4_35 : decode cJ6_bitCount_0f7a4 35 = .ok (.iload_n 0, 1) := by decide +kernel
theorem dJ6_bitCount_0f7a4_36 : decode cJ6_bitCount_0f7a4 36 = .ok (.bipush 8, 2) := by decide +kernel
theorem dJ6_bitCount_0f7a4_38 : decode cJ6_bitCount_0f7a4 38 = .ok (.iushr, 1) := by decide +kernel
theorem dJ6_bitCount_0f7a4_39 : decode cJ6_bitCount_0f7a4 39 = .ok (.iadd, 1) := by decide +kernel
theorem dJ6_bitCount_0f7a4_40 : decode cJ6_bitCount_0f7a4 40 = .ok (.istore_n 0, 1) := by decide +kernel
theorem dJ6_bitCount_0f7a4_41 : decode cJ6_bitCount_0f7a4 41 = .ok (.iload_n 0, 1) := by decide +kernel
theorem dJ6_bitCount_0f7a4_42 : decode cJ6_bitCount_0f7a4 42 = .ok (.iload_n 0, 1) := by decide +kernel
theorem dJ6_bitCount_0f7a4_43 : decode cJ6_bitCount_0f7a4 43 = .ok (.bipush 16, 2) := by decide +kernel
theorem dJ6_bitCount_0f7a4_45 : decode cJ6_bitCount_0f7a4 45 = .ok (.iushr, 1) := by decide +kernel
theorem dJ6_bitCount_0f7a4_46 : decode cJ6_bitCount_0f7a4 46 = .ok (.iadd, 1) := by decide +kernel
theorem dJ6_bitCount_0f7a4_47 : decode cJ6_bitCount_0f7a4 47 = .ok (.istore_n 0, 1) := by decide +kernel
theorem dJ6_bitCount_0f7a4_48 : decode cJ6_bitCount_0f7a4 48 = .ok (.iload_n 0, 1) := by decide +kernel
theorem dJ6_bitCount_0f7a4_49 : decode cJ6_bitCount_0f7a4 49 = .ok (.bipush 63, 2) := by decide +kernel
theorem dJ6_bitCount_0f7a4_51 : decode cJ6_bitCount_0f7a4 51 = .ok (.iand, 1) := by decide +kernel
theorem dJ6_bitCount_0f7a4_52 : decode cJ6_bitCount_0f7a4 52 = .ok (.ireturn, 1) := by decide +kernel
set_option maxRecDepth 100000 in
set_option maxHeartbeats 4000000 in
theorem k_bitCount {G : am_G} (hK : k_OK G) {d : Nat} (hd : 0 ≤ d) {sh : List (Nat ⊕ (Nat × Nat))} {I : Nat → Nat → Int32} {R : Nat → Nat → Option Nat} {L : Nat → Nat → Int64} {g : Nat} (x : Int32) : AM G mJ6_bitCount_0f7a4 d [.int x] (sh, I, R, L, g) (fun v w => v = some (.int (f_bc x)) ∧ w = (sh, I, R, L, g)) (fun _ _ => False) := by
  have hG := hK.1
  refine AM.of (n := 0) (by decide +kernel) (Nat.le_of_ble_eq_true rfl) ?_
  show AW G mJ6_bitCount_0f7a4 d (fun v w => v = some (.int (f_bc x)) ∧ w = (sh, I, R, L, g)) (fun _ _ => False) 0 [some (.int x)] [] (sh, I, R, L, g) 0 0
  refine AW.iload_n dJ6_bitCount_0f7a4_0 rfl ?_
  refine AW.iload_n dJ6_bitCount_0f7a4_1 rfl ?_
  refine AW.iconst 1 dJ6_bitCount_0f7a4_2 (by decide) ?_
  refine AW.iushr dJ6_bitCount_0f7a4_3 ?_
  refine AW.ldc_w 1431655765 dJ6_bitCount_0f7a4_4 (k_c hG 650 (by decide +kernel) (by decide +kernel)) ?_
  refine AW.iand dJ6_bitCount_0f7a4_7 ?_
  refine AW.isub dJ6_bitCount_0f7a4_8 ?_
  refine AW.nam (fun x9 ex9 => ?_)
  refine AW.is_n [some (.int x9)] dJ6_bitCount_0f7a4_9 (by decide) rfl rfl ?_
  refine AW.iload_n dJ6_bitCount_0f7a4_10 rfl ?_
  refine AW.ldc_w 858993459 dJ6_bitCount_0f7a4_11 (k_c hG 651 (by decide +kernel) (by decide +kernel)) ?_
  refine AW.iand dJ6_bitCount_0f7a4_14 ?_
  refine AW.iload_n dJ6_bitCount_0f7a4_15 rfl ?_
  refine AW.iconst 2 dJ6_bitCount_0f7a4_16 (by decide) ?_
  refine AW.iushr dJ6_bitCount_0f7a4_17 ?_
  refine AW.ldc_w 858993459 dJ6_bitCount_0f7a4_18 (k_c hG 651 (by decide +kernel) (by decide +kernel)) ?_
  refine AW.iand dJ6_bitCount_0f7a4_21 ?_
  refine AW.iadd dJ6_bitCount_0f7a4_22 ?_
  refine AW.nam (fun x23 ex23 => ?_)
  refine AW.is_n [some (.int x23)] dJ6_bitCount_0f7a4_23 (by decide) rfl rfl ?_
  refine AW.iload_n dJ6_bitCount_0f7a4_24 rfl ?_
  refine AW.iload_n dJ6_bitCount_0f7a4_25 rfl ?_
  refine AW.iconst 4 dJ6_bitCount_0f7a4_26 (by decide) ?_
  refine AW.iushr dJ6_bitCount_0f7a4_27 ?_
  refine AW.iadd dJ6_bitCount_0f7a4_28 ?_
  refine AW.ldc_w 252645135 dJ6_bitCount_0f7a4_29 (k_c hG 652 (by decide +kernel) (by decide +kernel)) ?_
  refine AW.iand dJ6_bitCount_0f7a4_32 ?_
  refine AW.nam (fun x33 ex33 => ?_)
  refine AW.is_n [some (.int x33)] dJ6_bitCount_0f7a4_33 (by decide) rfl rfl ?_
  refine AW.iload_n dJ6_bitCount_0f7a4_34 rfl ?_
  refine AW.iload_n dJ6_bitCount_0f7a4_35 rfl ?_
  refine AW.bipush 8 dJ6_bitCount_0f7a4_36 (by decide) ?_
  refine AW.iushr dJ6_bitCount_0f7a4_38 ?_
  refine AW.iadd dJ6_bitCount_0f7a4_39 ?_
  refine AW.nam (fun x40 ex40 => ?_)
  refine AW.is_n [some (.int x40)] dJ6_bitCount_0f7a4_40 (by decide) rfl rfl ?_
  refine AW.iload_n dJ6_bitCount_0f7a4_41 rfl ?_
  refine AW.iload_n dJ6_bitCount_0f7a4_42 rfl ?_
  refine AW.bipush 16 dJ6_bitCount_0f7a4_43 (by decide) ?_
  refine AW.iushr dJ6_bitCount_0f7a4_45 ?_
  refine AW.iadd dJ6_bitCount_0f7a4_46 ?_
  refine AW.nam (fun x47 ex47 => ?_)
  refine AW.is_n [some (.int x47)] dJ6_bitCount_0f7a4_47 (by decide) rfl rfl ?_
  refine AW.iload_n dJ6_bitCount_0f7a4_48 rfl ?_
  refine AW.bipush 63 dJ6_bitCount_0f7a4_49 (by decide) ?_
  refine AW.iand dJ6_bitCount_0f7a4_51 ?_
  exact AW.iret dJ6_bitCount_0f7a4_52 rfl (by decide) (by decide) (⟨by simp only [f_bc]; subst_vars; rfl, rfl⟩)
theorem dJ7_fill_53178_0 : decode cJ7_fill_53178 0 = .ok (.iconst 0, 1) := by decide +kernel
theorem dJ7_fill_53178_1 : decode cJ7_fill_53178 1 = .ok (.istore_n 2, 1) := by decide +kernel
theorem dJ7_fill_53178_2 : decode cJ7_fill_53178 2 = .ok (.aload_n 0, 1) := by decide +kernel
theorem dJ7_fill_53178_3 : decode cJ7_fill_53178 3 = .ok (.arraylength, 1) := by decide +kernel
theorem dJ7_fill_53178_4 : decode cJ7_fill_53178 4 = .ok (.istore_n 3, 1) := by decide +kernel
theorem dJ7_fill_53178_5 : decode cJ7_fill_53178 5 = .ok (.iload_n 2, 1) := by decide +kernel
theorem dJ7_fill_53178_6 : decode cJ7_fill_53178 6 = .ok (.iload_n 3, 1) := by decide +kernel
theorem dJ7_fill_53178_7 : decode cJ7_fill_53178 7 = .ok (.if_icmp .ge 13, 3) := by decide +kernel
theorem dJ7_fill_53178_10 : decode cJ7_fill_53178 10 = .ok (.aload_n 0, 1) := by decide +kernel
theorem dJ7_fill_53178_11 : decode cJ7_fill_53178 11 = .ok (.iload_n 2, 1) := by decide +kernel
theorem dJ7_fill_53178_12 : decode cJ7_fill_53178 12 = .ok (.iload_n 1, 1) := by decide +kernel
theorem dJ7_fill_53178_13 : decode cJ7_fill_53178 13 = .ok (.iastore, 1) := by decide +kernel
theorem dJ7_fill_53178_14 : decode cJ7_fill_53178 14 = .ok (.iinc 2 1, 3) := by decide +kernel
theorem dJ7_fill_53178_17 : decode cJ7_fill_53178 17 = .ok (.goto (-12), 3) := by decide +kernel
theorem dJ7_fill_53178_20 : decode cJ7_fill_53178 20 = .ok (.return_, 1) := by decide +kernel
set_option maxRecDepth 100000 in
set_option maxHeartbeats 4000000 in
theorem k_fill {G : am_G} (hK : k_OK G) {d : Nat} (hd : 0 ≤ d) {sh : List (Nat ⊕ (Nat × Nat))} {I : Nat → Nat → Int32} {R : Nat → Nat → Option Nat} {L : Nat → Nat → Int64} {g : Nat} {c n : Nat} (hs : sh[c]? = some (.inr (0, n))) (hn : n ≤ 1000) (x : Int32) : AM G mJ7_fill_53178 d [.ref c, .int x] (sh, I, R, L, g) (fun v w => v = none ∧ w = (sh, am_uA I c (f_fill (I c) x n), R, L, g)) (fun _ _ => False) := by
  have hG := hK.1
  refine AM.of (n := 2) (by decide +kernel) (Nat.le_of_ble_eq_true rfl) ?_
  show AW G mJ7_fill_53178 d (fun v w => v = none ∧ w = (sh, am_uA I c (f_fill (I c) x n), R, L, g)) (fun _ _ => False) 0 [some (.ref c), some (.int x), none, none] [] (sh, I, R, L, g) 0 0
  refine AW.iconst 0 dJ7_fill_53178_0 (by decide) ?_
  refine AW.is_n [some (.ref c), some (.int x), some (.int 0), none] dJ7_fill_53178_1 (by decide) rfl rfl ?_
  refine AW.aload_n dJ7_fill_53178_2 rfl ?_
  refine AW.alen (v := nI n) hs (by decide) rfl dJ7_fill_53178_3 ?_
  refine AW.nam (fun x4 ex4 => ?_)
  refine AW.is_n [some (.ref c), some (.int x), some (.int 0), some (.int x4)] dJ7_fill_53178_4 (by decide) rfl rfl ?_
  have L5 : ∀ k5, k5 ≤ n → ∀ (j : Int32) (J : Nat → Nat → Int32), (j = nI k5 ∧ J = am_uA I c (f_fill (I c) x k5)) → AW G mJ7_fill_53178 d (fun v w => v = none ∧ w = (sh, am_uA I c (f_fill (I c) x n), R, L, g)) (fun _ _ => False) 5 [some (.ref c), some (.int x), some (.int j), some (.int x4)] [] (sh, J, R, L, g) 0 0 := by
    refine am_rec n (fun k5 hk5 ih5 => ?_)
    intro j J hi5
    obtain ⟨hx, hJ⟩ := hi5
    refine AW.iload_n dJ7_fill_53178_5 rfl ?_
    refine AW.iload_n dJ7_fill_53178_6 rfl ?_
    refine AW.icmp_ge 20 dJ7_fill_53178_7 (by decide) (fun h7 => ?_) (fun h7 => ?_)
    · have hke := k_ge h7 hx ex4 hk5 (by omega)
      subst hke
      exact AW.vret dJ7_fill_53178_20 rfl (by decide) (by decide) (⟨rfl, by rw [hJ]⟩)
    · have hlt := k_lt h7 hx ex4 hk5 (by omega)
      have hbx : vp_in j n := by rw [hx]; exact vp_in_nI hlt (by omega)
      have hcx : j.toNatClampNeg = k5 := by rw [hx]; exact nI_clamp (by omega)
      refine AW.aload_n dJ7_fill_53178_10 rfl ?_
      refine AW.iload_n dJ7_fill_53178_11 rfl ?_
      refine AW.iload_n dJ7_fill_53178_12 rfl ?_
      refine AW.iast hs (by first | assumption | exact vp_in_nI (by omega) (by decide)) dJ7_fill_53178_13 ?_
      refine AW.namI (fun I13 eI13 => ?_)
      refine AW.inc (fun x14 => [some (.ref c), some (.int x), some (.int x14), some (.int x4)]) dJ7_fill_53178_14 rfl (by decide) rfl (fun _ => rfl) (fun x14 ex14 => ?_)
      refine AW.goto 5 dJ7_fill_53178_17 (by decide) ?_
      exact ih5 (k5 + 1) (by omega) (by omega) _ _ (⟨k_inc (by assumption) hx, by rw [eI13, hcx, hJ, am_up_uA, am_uA_s, f_fill_s, am_uA_uA]⟩)
  exact L5 0 (by omega) _ _ (⟨nI_0.symm, by rw [show f_fill (I c) x 0 = I c from rfl, am_uA_id]⟩)
theorem dX2_dayIn_0 : decode cX2_dayIn 0 = .ok (.aload_n 0, 1) := by decide +kernel
theorem dX2_dayIn_1 : decode cX2_dayIn 1 = .ok (.getfield 21, 3) := by decide +kernel
theorem dX2_dayIn_4 : decode cX2_dayIn 4 = .ok (.aload_n 0, 1) := by decide +kernel
theorem dX2_dayIn_5 : decode cX2_dayIn 5 = .ok (.getfield 25, 3) := by decide +kernel
theorem dX2_dayIn_8 : decode cX2_dayIn 8 = .ok (.iload_n 1, 1) := by decide +kernel
theorem dX2_dayIn_9 : decode cX2_dayIn 9 = .ok (.iadd, 1) := by decide +kernel
theorem dX2_dayIn_10 : decode cX2_dayIn 10 = .ok (.bipush 24, 2) := by decide +kernel
theorem dX2_dayIn_12 : decode cX2_dayIn 12 = .ok (.idiv, 1) := by decide +kernel
theorem dX2_dayIn_13 : decode cX2_dayIn 13 = .ok (.iadd, 1) := by decide +kernel
theorem dX2_dayIn_14 : decode cX2_dayIn 14 = .ok (.ireturn, 1) := by decide +kernel
set_option maxRecDepth 100000 in
set_option maxHeartbeats 4000000 in
theorem k_X2_dayIn {G : am_G} (hK : k_OK G) {d : Nat} (hd : 0 ≤ d) {sh : List (Nat ⊕ (Nat × Nat))} {I : Nat → Nat → Int32} {R : Nat → Nat → Option Nat} {L : Nat → Nat → Int64} {g : Nat} {b : Nat} (hb : k_Days sh R b) (h : Int32) : AM G mX2_dayIn d [.ref b, .int h] (sh, I, R, L, g) (fun v w => v = some (.int (I b 0 + (I b 1 + h) / 24)) ∧ w = (sh, I, R, L, g)) (fun _ _ => False) := by
  have hG := hK.1
  refine AM.of (n := 0) (by decide +kernel) (Nat.le_of_ble_eq_true rfl) ?_
  show AW G mX2_dayIn d (fun v w => v = some (.int (I b 0 + (I b 1 + h) / 24)) ∧ w = (sh, I, R, L, g)) (fun _ _ => False) 0 [some (.ref b), some (.int h)] [] (sh, I, R, L, g) 0 0
  refine AW.aload_n dX2_dayIn_0 rfl ?_
  refine AW.getI (fX2_21 hG).r rfl (hb.1 0 _ rfl) dX2_dayIn_1 ?_
  refine AW.aload_n dX2_dayIn_4 rfl ?_
  refine AW.getI (fX2_25 hG).r rfl (hb.1 0 _ rfl) dX2_dayIn_5 ?_
  refine AW.iload_n dX2_dayIn_8 rfl ?_
  refine AW.iadd dX2_dayIn_9 ?_
  refine AW.bipush 24 dX2_dayIn_10 (by decide) ?_
  refine AW.idiv dX2_dayIn_12 (by decide) ?_
  refine AW.iadd dX2_dayIn_13 ?_
  exact AW.iret dX2_dayIn_14 rfl (by decide) (by decide) (⟨rfl, rfl⟩)
def f_pass (f : Nat → Int32) (h : Int32) : Nat → Int32 := upd (upd f 0 (f 0 + (f 1 + h) / 24)) 1 ((f 1 + h) - (f 1 + h) / 24 * 24)
def f_ub (ct : Nat → Int32) (m : Nat) : Int32 := lfold (fun k a => if ct k = -1 then a ||| ((1 : Int32) <<< (nI k &&& 31)) else a) 0 m
theorem dX2_pass_0 : decode cX2_pass 0 = .ok (.aload_n 0, 1) := by decide +kernel
theorem dX2_pass_1 : decode cX2_pass 1 = .ok (.aload_n 0, 1) := by decide +kernel
theorem dX2_pass_2 : decode cX2_pass 2 = .ok (.iload_n 1, 1) := by decide +kernel
theorem dX2_pass_3 : decode cX2_pass 3 = .ok (.invokevirtual 79, 3) := by decide +kernel
theorem dX2_pass_6 : decode cX2_pass 6 = .ok (.putfield 21, 3) := by decide +kernel
theorem dX2_pass_9 : decode cX2_pass 9 = .ok (.aload_n 0, 1) := by decide +kernel
theorem dX2_pass_10 : decode cX2_pass 10 = .ok (.aload_n 0, 1) := by decide +kernel
theorem dX2_pass_11 : decode cX2_pass 11 = .ok (.getfield 25, 3) := by decide +kernel
theorem dX2_pass_14 : decode cX2_pass 14 = .ok (.iload_n 1, 1) := by decide +kernel
theorem dX2_pass_15 : decode cX2_pass 15 = .ok (.iadd, 1) := by decide +kernel
theorem dX2_pass_16 : decode cX2_pass 16 = .ok (.bipush 24, 2) := by decide +kernel
theorem dX2_pass_18 : decode cX2_pass 18 = .ok (.irem, 1) := by decide +kernel
theorem dX2_pass_19 : decode cX2_pass 19 = .ok (.putfield 25, 3) := by decide +kernel
theorem dX2_pass_22 : decode cX2_pass 22 = .ok (.return_, 1) := by decide +kernel
set_option maxRecDepth 100000 in
set_option maxHeartbeats 4000000 in
theorem k_X2_pass {G : am_G} (hK : k_OK G) {d : Nat} (hd : 1 ≤ d) {sh : List (Nat ⊕ (Nat × Nat))} {I : Nat → Nat → Int32} {R : Nat → Nat → Option Nat} {L : Nat → Nat → Int64} {g : Nat} {b : Nat} (hb : k_Days sh R b) (h : Int32) : AM G mX2_pass d [.ref b, .int h] (sh, I, R, L, g) (fun v w => v = none ∧ w = (sh, am_uA I b (f_pass (I b) h), R, L, g)) (fun _ _ => False) := by
  have hG := hK.1
  refine AM.of (n := 0) (by decide +kernel) (Nat.le_of_ble_eq_true rfl) ?_
  show AW G mX2_pass d (fun v w => v = none ∧ w = (sh, am_uA I b (f_pass (I b) h), R, L, g)) (fun _ _ => False) 0 [some (.ref b), some (.int h)] [] (sh, I, R, L, g) 0 0
  refine AW.aload_n dX2_pass_0 rfl ?_
  refine AW.aload_n dX2_pass_1 rfl ?_
  refine AW.iload_n dX2_pass_2 rfl ?_
  refine AW.callV (b := b) (As := [.int h]) hG.2.2 (vX2_79 hG) (hb.1 0 _ rfl) (k_X2_dayIn hK (d := 0) (Nat.le_refl _) hb h) (by omega) dX2_pass_3 rfl rfl (Nat.le_of_ble_eq_true rfl) (fun v w9 hq9 h09 => by obtain ⟨rfl, rfl⟩ := hq9; exact ⟨h09, rfl⟩) (by decide) (by decide) (fun _ _ hx => hx) (fun v3 w3 hq3 => ?_)
  obtain ⟨rfl, rfl⟩ := hq3
  refine AW.nam (fun x3 ex3 => ?_)
  refine AW.putI (fX2_21 hG) rfl (vp_nar_int _) rfl (hb.1 0 _ rfl) dX2_pass_6 ?_
  refine AW.namI (fun I6 eI6 => ?_)
  refine AW.aload_n dX2_pass_9 rfl ?_
  refine AW.aload_n dX2_pass_10 rfl ?_
  refine AW.getI (fX2_25 hG).r rfl (hb.1 0 _ rfl) dX2_pass_11 ?_
  refine AW.iload_n dX2_pass_14 rfl ?_
  refine AW.iadd dX2_pass_15 ?_
  refine AW.bipush 24 dX2_pass_16 (by decide) ?_
  refine AW.irem dX2_pass_18 (by decide) ?_
  refine AW.putI (fX2_25 hG) rfl (vp_nar_int _) rfl (hb.1 0 _ rfl) dX2_pass_19 ?_
  refine AW.namI (fun I19 eI19 => ?_)
  exact AW.vret dX2_pass_22 rfl (by decide) (by decide) (⟨rfl, by rw [eI19, eI6, ex3]; simp only [am_up_uA, am_uA_s, am_uA_uA, f_pass]; rfl⟩)
theorem dX2_uncutBits_0 : decode cX2_uncutBits 0 = .ok (.iconst 0, 1) := by decide +kernel
theorem dX2_uncutBits_1 : decode cX2_uncutBits 1 = .ok (.istore_n 2, 1) := by decide +kernel
theorem dX2_uncutBits_2 : decode cX2_uncutBits 2 = .ok (.iconst 0, 1) := by decide +kernel
theorem dX2_uncutBits_3 : decode cX2_uncutBits 3 = .ok (.istore_n 3, 1) := by decide +kernel
theorem dX2_uncutBits_4 : decode cX2_uncutBits 4 = .ok (.iload_n 3, 1) := by decide +kernel
theorem dX2_uncutBits_5 : decode cX2_uncutBits 5 = .ok (.aload_n 1, 1) := by decide +kernel
theorem dX2_uncutBits_6 : decode cX2_uncutBits 6 = .ok (.getfield 82, 3) := by decide +kernel
theorem dX2_uncutBits_9 : decode cX2_uncutBits 9 = .ok (.if_icmp .ge 25, 3) := by decide +kernel
theorem dX2_uncutBits_12 : decode cX2_uncutBits 12 = .ok (.aload_n 0, 1) := by decide +kernel
theorem dX2_uncutBits_13 : decode cX2_uncutBits 13 = .ok (.getfield 15, 3) := by decide +kernel
theorem dX2_uncutBits_16 : decode cX2_uncutBits 16 = .ok (.iload_n 3, 1) := by decide +kernel
theorem dX2_uncutBits_17 : decode cX2_uncutBits 17 = .ok (.iaload, 1) := by decide +kernel
theorem dX2_uncutBits_18 : decode cX2_uncutBits 18 = .ok (.iconst (-1), 1) := by decide +kernel
theorem dX2_uncutBits_19 : decode cX2_uncutBits 19 = .ok (.if_icmp .ne 9, 3) := by decide +kernel
theorem dX2_uncutBits_22 : decode cX2_uncutBits 22 = .ok (.iload_n 2, 1) := by decide +kernel
theorem dX2_uncutBits_23 : decode cX2_uncutBits 23 = .ok (.iconst 1, 1) := by decide +kernel
theorem dX2_uncutBits_24 : decode cX2_uncutBits 24 = .ok (.iload_n 3, 1) := by decide +kernel
theorem dX2_uncutBits_25 : decode cX2_uncutBits 25 = .ok (.ishl, 1) := by decide +kernel
theorem dX2_uncutBits_26 : decode cX2_uncutBits 26 = .ok (.ior, 1) := by decide +kernel
theorem dX2_uncutBits_27 : decode cX2_uncutBits 27 = .ok (.istore_n 2, 1) := by decide +kernel
theorem dX2_uncutBits_28 : decode cX2_uncutBits 28 = .ok (.iinc 3 1, 3) := by decide +kernel
theorem dX2_uncutBits_31 : decode cX2_uncutBits 31 = .ok (.goto (-27), 3) := by decide +kernel
theorem dX2_uncutBits_34 : decode cX2_uncutBits 34 = .ok (.iload_n 2, 1) := by decide +kernel
theorem dX2_uncutBits_35 : decode cX2_uncutBits 35 = .ok (.ireturn, 1) := by decide +kernel
set_option maxRecDepth 100000 in
set_option maxHeartbeats 4000000 in
theorem k_X2_uncutBits {G : am_G} (hK : k_OK G) {d : Nat} (hd : 0 ≤ d) {sh : List (Nat ⊕ (Nat × Nat))} {I : Nat → Nat → Int32} {R : Nat → Nat → Option Nat} {L : Nat → Nat → Int64} {g : Nat} {b l m : Nat} (hb : k_Days sh R b) (hl : k_Loaves sh R l) (hm : I l 0 = nI m) (hm6 : m ≤ 6) : AM G mX2_uncutBits d [.ref b, .ref l] (sh, I, R, L, g) (fun v w => v = some (.int (f_ub (I (b + 2)) m)) ∧ w = (sh, I, R, L, g)) (fun _ _ => False) := by
  have hG := hK.1
  refine AM.of (n := 2) (by decide +kernel) (Nat.le_of_ble_eq_true rfl) ?_
  show AW G mX2_uncutBits d (fun v w => v = some (.int (f_ub (I (b + 2)) m)) ∧ w = (sh, I, R, L, g)) (fun _ _ => False) 0 [some (.ref b), some (.ref l), none, none] [] (sh, I, R, L, g) 0 0
  refine AW.iconst 0 dX2_uncutBits_0 (by decide) ?_
  refine AW.is_n [some (.ref b), some (.ref l), some (.int 0), none] dX2_uncutBits_1 (by decide) rfl rfl ?_
  refine AW.iconst 0 dX2_uncutBits_2 (by decide) ?_
  refine AW.is_n [some (.ref b), some (.ref l), some (.int 0), some (.int 0)] dX2_uncutBits_3 (by decide) rfl rfl ?_
  have L4 : ∀ k4, k4 ≤ m → ∀ (a x : Int32), (x = nI k4 ∧ a = f_ub (I (b + 2)) k4) → AW G mX2_uncutBits d (fun v w => v = some (.int (f_ub (I (b + 2)) m)) ∧ w = (sh, I, R, L, g)) (fun _ _ => False) 4 [some (.ref b), some (.ref l), some (.int a), some (.int x)] [] (sh, I, R, L, g) 0 0 := by
    refine am_rec m (fun k4 hk4 ih4 => ?_)
    intro a x hi4
    obtain ⟨hx, ha⟩ := hi4
    refine AW.iload_n dX2_uncutBits_4 rfl ?_
    refine AW.aload_n dX2_uncutBits_5 rfl ?_
    refine AW.getI (fX2_82 hG).r rfl (hl.1 0 _ rfl) dX2_uncutBits_6 ?_
    refine AW.icmp_ge 34 dX2_uncutBits_9 (by decide) (fun h9 => ?_) (fun h9 => ?_)
    · have hke := k_ge h9 hx hm hk4 (by omega)
      subst hke
      refine AW.iload_n dX2_uncutBits_34 rfl ?_
      exact AW.iret dX2_uncutBits_35 rfl (by decide) (by decide) (⟨by rw [ha], rfl⟩)
    · have hlt := k_lt h9 hx hm hk4 (by omega)
      have hbx : vp_in x 6 := by rw [hx]; exact vp_in_nI (by omega) (by decide)
      have hcx : x.toNatClampNeg = k4 := by rw [hx]; exact nI_clamp (by omega)
      refine AW.aload_n dX2_uncutBits_12 rfl ?_
      refine AW.getR (c' := (b + 2)) (fX2_15 hG).r rfl (hb.1 0 _ rfl) (hb.2 (0, 3, 2) (by decide)) dX2_uncutBits_13 ?_
      refine AW.iload_n dX2_uncutBits_16 rfl ?_
      refine AW.iald (hb.1 2 _ rfl) (by first | assumption | exact vp_in_nI (by omega) (by decide)) dX2_uncutBits_17 ?_
      refine AW.iconst (-1) dX2_uncutBits_18 (by decide) ?_
      refine AW.icmp_ne 28 dX2_uncutBits_19 (by decide) (fun h19 => ?_) (fun h19 => ?_)
      · rw [hcx] at h19
        have hc := h19
        refine AW.inc (fun x28 => [some (.ref b), some (.ref l), some (.int a), some (.int x28)]) dX2_uncutBits_28 rfl (by decide) rfl (fun _ => rfl) (fun x28 ex28 => ?_)
        refine AW.goto 4 dX2_uncutBits_31 (by decide) ?_
        exact ih4 (k4 + 1) (by omega) (by omega) _ _ (⟨k_inc (by assumption) hx, (show a = (if I (b + 2) k4 = -1 then _ else _) by rw [if_neg hc]; exact ha)⟩)
      · rw [hcx] at h19
        have hc := h19
        refine AW.iload_n dX2_uncutBits_22 rfl ?_
        refine AW.iconst 1 dX2_uncutBits_23 (by decide) ?_
        refine AW.iload_n dX2_uncutBits_24 rfl ?_
        refine AW.ishl dX2_uncutBits_25 ?_
        refine AW.ior dX2_uncutBits_26 ?_
        refine AW.nam (fun x27 ex27 => ?_)
        refine AW.is_n [some (.ref b), some (.ref l), some (.int x27), some (.int x)] dX2_uncutBits_27 (by decide) rfl rfl ?_
        refine AW.inc (fun x28 => [some (.ref b), some (.ref l), some (.int x27), some (.int x28)]) dX2_uncutBits_28 rfl (by decide) rfl (fun _ => rfl) (fun x28 ex28 => ?_)
        refine AW.goto 4 dX2_uncutBits_31 (by decide) ?_
        exact ih4 (k4 + 1) (by omega) (by omega) _ _ (⟨k_inc (by assumption) hx, (show x27 = (if I (b + 2) k4 = -1 then _ else _) by rw [if_pos hc, ex27, hx, ha]; try rfl)⟩)
  exact L4 0 (by omega) _ _ (⟨nI_0.symm, rfl⟩)
theorem dX2_uncut_0 : decode cX2_uncut 0 = .ok (.aload_n 0, 1) := by decide +kernel
theorem dX2_uncut_1 : decode cX2_uncut 1 = .ok (.aload_n 1, 1) := by decide +kernel
theorem dX2_uncut_2 : decode cX2_uncut 2 = .ok (.invokevirtual 87, 3) := by decide +kernel
theorem dX2_uncut_5 : decode cX2_uncut 5 = .ok (.invokestatic 91, 3) := by decide +kernel
theorem dX2_uncut_8 : decode cX2_uncut 8 = .ok (.ireturn, 1) := by decide +kernel
set_option maxRecDepth 100000 in
set_option maxHeartbeats 4000000 in
theorem k_X2_uncut {G : am_G} (hK : k_OK G) {d : Nat} (hd : 1 ≤ d) {sh : List (Nat ⊕ (Nat × Nat))} {I : Nat → Nat → Int32} {R : Nat → Nat → Option Nat} {L : Nat → Nat → Int64} {g : Nat} {b l m : Nat} (hb : k_Days sh R b) (hl : k_Loaves sh R l) (hm : I l 0 = nI m) (hm6 : m ≤ 6) : AM G mX2_uncut d [.ref b, .ref l] (sh, I, R, L, g) (fun v w => v = some (.int (f_bc (f_ub (I (b + 2)) m))) ∧ w = (sh, I, R, L, g)) (fun _ _ => False) := by
  have hG := hK.1
  refine AM.of (n := 0) (by decide +kernel) (Nat.le_of_ble_eq_true rfl) ?_
  show AW G mX2_uncut d (fun v w => v = some (.int (f_bc (f_ub (I (b + 2)) m))) ∧ w = (sh, I, R, L, g)) (fun _ _ => False) 0 [some (.ref b), some (.ref l)] [] (sh, I, R, L, g) 0 0
  refine AW.aload_n dX2_uncut_0 rfl ?_
  refine AW.aload_n dX2_uncut_1 rfl ?_
  refine AW.callV (b := b) (As := [.ref l]) hG.2.2 (vX2_87 hG) (hb.1 0 _ rfl) (k_X2_uncutBits hK (d := 0) (Nat.le_refl _) hb hl (by first | assumption) (by first | assumption)) (by omega) dX2_uncut_2 rfl rfl (Nat.le_of_ble_eq_true rfl) (fun v w9 hq9 h09 => by obtain ⟨rfl, rfl⟩ := hq9; exact ⟨h09, rfl⟩) (by decide) (by decide) (fun _ _ hx => hx) (fun v2 w2 hq2 => ?_)
  obtain ⟨rfl, rfl⟩ := hq2
  refine AW.nam (fun x2 ex2 => ?_)
  refine AW.callS (As := [.int x2]) hG.2.2 (vX2_91 hG) (k_bitCount hK (d := 0) (Nat.le_refl _) x2) (by omega) dX2_uncut_5 rfl rfl (Nat.le_of_ble_eq_true rfl) (fun v w9 hq9 h09 => by obtain ⟨rfl, rfl⟩ := hq9; exact ⟨h09, rfl⟩) (by decide) (by decide) (fun _ _ hx => hx) (fun v5 w5 hq5 => ?_)
  obtain ⟨rfl, rfl⟩ := hq5
  refine AW.nam (fun x5 ex5 => ?_)
  exact AW.iret dX2_uncut_8 rfl (by decide) (by decide) (⟨by rw [ex5, ex2], rfl⟩)
theorem k_sub {sh : List (Nat ⊕ (Nat × Nat))} {R : Nat → Nat → Option Nat} {b : Nat} {S S' : List (Nat ⊕ (Nat × Nat))} {Rs Rs' : List (Nat × Nat × Nat)} (off : Nat) (h : k_obj sh R b S Rs) (hS : (S.drop off).take S'.length = S') (hR : ∀ q ∈ Rs', (off + q.1, q.2.1, off + q.2.2) ∈ Rs) : k_obj sh R (b + off) S' Rs' := by
  refine ⟨fun j s hj => ?_, fun q hq => ?_⟩
  · have hl : j < S'.length := (List.getElem?_eq_some_iff.mp hj).1
    have h1 : S[off + j]? = some s := by
      rw [← hj, ← hS, List.getElem?_take, if_pos hl, List.getElem?_drop]
    have h2 := h.1 (off + j) s h1
    rw [← Nat.add_assoc] at h2
    exact h2
  · have h2 := h.2 _ (hR q hq)
    rw [← Nat.add_assoc, ← Nat.add_assoc] at h2
    exact h2
theorem k_sub_Town_8 {sh : List (Nat ⊕ (Nat × Nat))} {R : Nat → Nat → Option Nat} {b : Nat} (h : k_Town sh R b) : k_Loaves sh R (b + 8) := k_sub 8 h (by decide) (by decide)
theorem k_sub_Town_16 {sh : List (Nat ⊕ (Nat × Nat))} {R : Nat → Nat → Option Nat} {b : Nat} (h : k_Town sh R b) : k_Rule sh R (b + 16) := k_sub 16 h (by decide) (by decide)
theorem k_sub_Story_1 {sh : List (Nat ⊕ (Nat × Nat))} {R : Nat → Nat → Option Nat} {b : Nat} (h : k_Story sh R b) : k_Days sh R (b + 1) := k_sub 1 h (by decide) (by decide)
theorem k_sub_Story_5 {sh : List (Nat ⊕ (Nat × Nat))} {R : Nat → Nat → Option Nat} {b : Nat} (h : k_Story sh R b) : k_Days sh R (b + 5) := k_sub 5 h (by decide) (by decide)
theorem k_sub_Memory_1 {sh : List (Nat ⊕ (Nat × Nat))} {R : Nat → Nat → Option Nat} {b : Nat} (h : k_Memory sh R b) : k_Story sh R (b + 1) := k_sub 1 h (by decide) (by decide)
theorem k_sub_Memory_2 {sh : List (Nat ⊕ (Nat × Nat))} {R : Nat → Nat → Option Nat} {b : Nat} (h : k_Memory sh R b) : k_Days sh R (b + 2) := k_sub 2 h (by decide) (by decide)
theorem k_sub_Memory_6 {sh : List (Nat ⊕ (Nat × Nat))} {R : Nat → Nat → Option Nat} {b : Nat} (h : k_Memory sh R b) : k_Days sh R (b + 6) := k_sub 6 h (by decide) (by decide)
def f_cp (n : Nat) (f h : Nat → Int32) : Nat → Int32 := va_cpy f h 0 0 n
theorem f_cp_in {n k : Nat} {f h : Nat → Int32} (hk : k < n) : f_cp n f h k = f k := by
  unfold f_cp va_cpy
  rw [if_pos ⟨Nat.zero_le k, by omega⟩]
  simp
theorem cl0 : (0 : Int32).toNatClampNeg = 0 := by decide
theorem cl1 : (1 : Int32).toNatClampNeg = 1 := by decide
theorem cl3 : (3 : Int32).toNatClampNeg = 3 := by decide
theorem cl4 : (4 : Int32).toNatClampNeg = 4 := by decide
theorem cl6 : (6 : Int32).toNatClampNeg = 6 := by decide
theorem cl8 : (8 : Int32).toNatClampNeg = 8 := by decide
theorem cl39 : (39 : Int32).toNatClampNeg = 39 := by decide
theorem cl40 : (40 : Int32).toNatClampNeg = 40 := by decide
theorem cl64 : (64 : Int32).toNatClampNeg = 64 := by decide
/-- Days b as Days o -/
def f_dcp (I : Nat → Nat → Int32) (b o : Nat) : Nat → Nat → Int32 := am_uA (am_uA (am_uA (am_uA I b (upd (upd (I b) 0 (I o 0)) 1 (I o 1))) (b + 1) (f_cp 64 (I (o + 1)) (I (b + 1)))) (b + 2) (f_cp 6 (I (o + 2)) (I (b + 2)))) (b + 3) (f_cp 8 (I (o + 3)) (I (b + 3)))
theorem k_88 {x y v : Int32} {k j : Nat} (hv : v = x * 8 + y) (hx : x = nI k) (hy : y = nI j) : v = nI (8 * k + j) := by rw [hv, hx, hy, show (8 : Int32) = nI 8 from rfl, pk_mul, nI_add, Nat.mul_comm]
def f_mx (x y : Int32) : Int32 := if x < y then y else x
/-- those who met: what a company's meeting makes of the table -/
def f_ga1 (ob wh : Int32) (p : Nat) (m : Nat → Int32) (n : Nat) : Nat → Int32 := lfold (fun q m => if f_has ob (nI q) then upd m (8 * p + q) (f_mx (m (8 * p + q)) wh) else m) m n
def f_ga (tw : Nat → Int32) (co wh : Int32) (n : Nat) (m : Nat → Int32) (k : Nat) : Nat → Int32 := lfold (fun p m => f_ga1 (f_mb tw (nI p) co) wh p m n) m k
theorem dX2_copyFrom_0 : decode cX2_copyFrom 0 = .ok (.aload_n 0, 1) := by decide +kernel
theorem dX2_copyFrom_1 : decode cX2_copyFrom 1 = .ok (.aload_n 1, 1) := by decide +kernel
theorem dX2_copyFrom_2 : decode cX2_copyFrom 2 = .ok (.getfield 21, 3) := by decide +kernel
theorem dX2_copyFrom_5 : decode cX2_copyFrom 5 = .ok (.putfield 21, 3) := by decide +kernel
theorem dX2_copyFrom_8 : decode cX2_copyFrom 8 = .ok (.aload_n 0, 1) := by decide +kernel
theorem dX2_copyFrom_9 : decode cX2_copyFrom 9 = .ok (.aload_n 1, 1) := by decide +kernel
theorem dX2_copyFrom_10 : decode cX2_copyFrom 10 = .ok (.getfield 25, 3) := by decide +kernel
theorem dX2_copyFrom_13 : decode cX2_copyFrom 13 = .ok (.putfield 25, 3) := by decide +kernel
theorem dX2_copyFrom_16 : decode cX2_copyFrom 16 = .ok (.aload_n 1, 1) := by decide +kernel
theorem dX2_copyFrom_17 : decode cX2_copyFrom 17 = .ok (.getfield 9, 3) := by decide +kernel
theorem dX2_copyFrom_20 : decode cX2_copyFrom 20 = .ok (.iconst 0, 1) := by decide +kernel
theorem dX2_copyFrom_21 : decode cX2_copyFrom 21 = .ok (.aload_n 0, 1) := by decide +kernel
theorem dX2_copyFrom_22 : decode cX2_copyFrom 22 = .ok (.getfield 9, 3) := by decide +kernel
theorem dX2_copyFrom_25 : decode cX2_copyFrom 25 = .ok (.iconst 0, 1) := by decide +kernel
theorem dX2_copyFrom_26 : decode cX2_copyFrom 26 = .ok (.aload_n 0, 1) := by decide +kernel
theorem dX2_copyFrom_27 : decode cX2_copyFrom 27 = .ok (.getfield 9, 3) := by decide +kernel
theorem dX2_copyFrom_30 : decode cX2_copyFrom 30 = .ok (.arraylength, 1) := by decide +kernel
theorem dX2_copyFrom_31 : decode cX2_copyFrom 31 = .ok (.invokestatic 53, 3) := by decide +kernel
theorem dX2_copyFrom_34 : decode cX2_copyFrom 34 = .ok (.aload_n 1, 1) := by decide +kernel
theorem dX2_copyFrom_35 : decode cX2_copyFrom 35 = .ok (.getfield 15, 3) := by decide +kernel
theorem dX2_copyFrom_38 : decode cX2_copyFrom 38 = .ok (.iconst 0, 1) := by decide +kernel
theorem dX2_copyFrom_39 : decode cX2_copyFrom 39 = .ok (.aload_n 0, 1) := by decide +kernel
theorem dX2_copyFrom_40 : decode cX2_copyFrom 40 = .ok (.getfield 15, 3) := by decide +kernel
theorem dX2_copyFrom_43 : decode cX2_copyFrom 43 = .ok (.iconst 0, 1) := by decide +kernel
theorem dX2_copyFrom_44 : decode cX2_copyFrom 44 = .ok (.aload_n 0, 1) := by decide +kernel
theorem dX2_copyFrom_45 : decode cX2_copyFrom 45 = .ok (.getfield 15, 3) := by decide +kernel
theorem dX2_copyFrom_48 : decode cX2_copyFrom 48 = .ok (.arraylength, 1) := by decide +kernel
theorem dX2_copyFrom_49 : decode cX2_copyFrom 49 = .ok (.invokestatic 53, 3) := by decide +kernel
theorem dX2_copyFrom_52 : decode cX2_copyFrom 52 = .ok (.aload_n 1, 1) := by decide +kernel
theorem dX2_copyFrom_53 : decode cX2_copyFrom 53 = .ok (.getfield 18, 3) := by decide +kernel
theorem dX2_copyFrom_56 : decode cX2_copyFrom 56 = .ok (.iconst 0, 1) := by decide +kernel
theorem dX2_copyFrom_57 : decode cX2_copyFrom 57 = .ok (.aload_n 0, 1) := by decide +kernel
theorem dX2_copyFrom_58 : decode cX2_copyFrom 58 = .ok (.getfield 18, 3) := by decide +kernel
theorem dX2_copyFrom_61 : decode cX2_copyFrom 61 = .ok (.iconst 0, 1) := by decide +kernel
theorem dX2_copyFrom_62 : decode cX2_copyFrom 62 = .ok (.aload_n 0, 1) := by decide +kernel
theorem dX2_copyFrom_63 : decode cX2_copyFrom 63 = .ok (.getfield 18, 3) := by decide +kernel
theorem dX2_copyFrom_66 : decode cX2_copyFrom 66 = .ok (.arraylength, 1) := by decide +kernel
theorem dX2_copyFrom_67 : decode cX2_copyFrom 67 = .ok (.invokestatic 53, 3) := by decide +kernel
theorem dX2_copyFrom_70 : decode cX2_copyFrom 70 = .ok (.return_, 1) := by decide +kernel
set_option maxRecDepth 100000 in
set_option maxHeartbeats 4000000 in
theorem k_X2_copyFrom {G : am_G} (hK : k_OK G) {d : Nat} (hd : 2 ≤ d) {sh : List (Nat ⊕ (Nat × Nat))} {I : Nat → Nat → Int32} {R : Nat → Nat → Option Nat} {L : Nat → Nat → Int64} {g : Nat} {b o : Nat} (hb : k_Days sh R b) (ho : k_Days sh R o) (hbo : b + 4 ≤ o ∨ o + 4 ≤ b) : AM G mX2_copyFrom d [.ref b, .ref o] (sh, I, R, L, g) (fun v w => v = none ∧ w = (sh, f_dcp I b o, R, L, g)) (fun _ _ => False) := by
  have hG := hK.1
  refine AM.of (n := 0) (by decide +kernel) (Nat.le_of_ble_eq_true rfl) ?_
  show AW G mX2_copyFrom d (fun v w => v = none ∧ w = (sh, f_dcp I b o, R, L, g)) (fun _ _ => False) 0 [some (.ref b), some (.ref o)] [] (sh, I, R, L, g) 0 0
  refine AW.aload_n dX2_copyFrom_0 rfl ?_
  refine AW.aload_n dX2_copyFrom_1 rfl ?_
  refine AW.getI (fX2_21 hG).r rfl (ho.1 0 _ rfl) dX2_copyFrom_2 ?_
  refine AW.putI (fX2_21 hG) rfl (vp_nar_int _) rfl (hb.1 0 _ rfl) dX2_copyFrom_5 ?_
  refine AW.namI (fun I5 eI5 => ?_)
  refine AW.aload_n dX2_copyFrom_8 rfl ?_
  refine AW.aload_n dX2_copyFrom_9 rfl ?_
  refine AW.getI (fX2_25 hG).r rfl (ho.1 0 _ rfl) dX2_copyFrom_10 ?_
  refine AW.putI (fX2_25 hG) rfl (vp_nar_int _) rfl (hb.1 0 _ rfl) dX2_copyFrom_13 ?_
  refine AW.namI (fun I13 eI13 => ?_)
  refine AW.aload_n dX2_copyFrom_16 rfl ?_
  refine AW.getR (c' := (o + 1)) (fX2_9 hG).r rfl (ho.1 0 _ rfl) (ho.2 (0, 2, 1) (by decide)) dX2_copyFrom_17 ?_
  refine AW.iconst 0 dX2_copyFrom_20 (by decide) ?_
  refine AW.aload_n dX2_copyFrom_21 rfl ?_
  refine AW.getR (c' := (b + 1)) (fX2_9 hG).r rfl (hb.1 0 _ rfl) (hb.2 (0, 2, 1) (by decide)) dX2_copyFrom_22 ?_
  refine AW.iconst 0 dX2_copyFrom_25 (by decide) ?_
  refine AW.aload_n dX2_copyFrom_26 rfl ?_
  refine AW.getR (c' := (b + 1)) (fX2_9 hG).r rfl (hb.1 0 _ rfl) (hb.2 (0, 2, 1) (by decide)) dX2_copyFrom_27 ?_
  refine AW.alen (v := 64) (hb.1 1 _ rfl) (by decide) (by decide) dX2_copyFrom_30 ?_
  refine AW.copy (k_c hG 584 (by decide +kernel) (by decide +kernel)) (k_copy hG) dX2_copyFrom_31 (by omega) (Nat.le_of_ble_eq_true rfl) (ho.1 1 _ rfl) (hb.1 1 _ rfl) (by decide) (by decide) (by decide) (by decide) (by decide) ?_
  refine AW.namI (fun I31 eI31 => ?_)
  refine AW.aload_n dX2_copyFrom_34 rfl ?_
  refine AW.getR (c' := (o + 2)) (fX2_15 hG).r rfl (ho.1 0 _ rfl) (ho.2 (0, 3, 2) (by decide)) dX2_copyFrom_35 ?_
  refine AW.iconst 0 dX2_copyFrom_38 (by decide) ?_
  refine AW.aload_n dX2_copyFrom_39 rfl ?_
  refine AW.getR (c' := (b + 2)) (fX2_15 hG).r rfl (hb.1 0 _ rfl) (hb.2 (0, 3, 2) (by decide)) dX2_copyFrom_40 ?_
  refine AW.iconst 0 dX2_copyFrom_43 (by decide) ?_
  refine AW.aload_n dX2_copyFrom_44 rfl ?_
  refine AW.getR (c' := (b + 2)) (fX2_15 hG).r rfl (hb.1 0 _ rfl) (hb.2 (0, 3, 2) (by decide)) dX2_copyFrom_45 ?_
  refine AW.alen (v := 6) (hb.1 2 _ rfl) (by decide) (by decide) dX2_copyFrom_48 ?_
  refine AW.copy (k_c hG 584 (by decide +kernel) (by decide +kernel)) (k_copy hG) dX2_copyFrom_49 (by omega) (Nat.le_of_ble_eq_true rfl) (ho.1 2 _ rfl) (hb.1 2 _ rfl) (by decide) (by decide) (by decide) (by decide) (by decide) ?_
  refine AW.namI (fun I49 eI49 => ?_)
  refine AW.aload_n dX2_copyFrom_52 rfl ?_
  refine AW.getR (c' := (o + 3)) (fX2_18 hG).r rfl (ho.1 0 _ rfl) (ho.2 (0, 4, 3) (by decide)) dX2_copyFrom_53 ?_
  refine AW.iconst 0 dX2_copyFrom_56 (by decide) ?_
  refine AW.aload_n dX2_copyFrom_57 rfl ?_
  refine AW.getR (c' := (b + 3)) (fX2_18 hG).r rfl (hb.1 0 _ rfl) (hb.2 (0, 4, 3) (by decide)) dX2_copyFrom_58 ?_
  refine AW.iconst 0 dX2_copyFrom_61 (by decide) ?_
  refine AW.aload_n dX2_copyFrom_62 rfl ?_
  refine AW.getR (c' := (b + 3)) (fX2_18 hG).r rfl (hb.1 0 _ rfl) (hb.2 (0, 4, 3) (by decide)) dX2_copyFrom_63 ?_
  refine AW.alen (v := 8) (hb.1 3 _ rfl) (by decide) (by decide) dX2_copyFrom_66 ?_
  refine AW.copy (k_c hG 584 (by decide +kernel) (by decide +kernel)) (k_copy hG) dX2_copyFrom_67 (by omega) (Nat.le_of_ble_eq_true rfl) (ho.1 3 _ rfl) (hb.1 3 _ rfl) (by decide) (by decide) (by decide) (by decide) (by decide) ?_
  refine AW.namI (fun I67 eI67 => ?_)
  exact AW.vret dX2_copyFrom_70 rfl (by decide) (by decide) (⟨rfl, by subst eI67; subst eI49; subst eI31; subst eI13; subst eI5; simp (disch := omega) only [am_up_uA, am_uA_s, am_uA_o, am_uA_uA, cl0, cl6, cl8, cl64, cl40, cl3, cl4, cl39, cl1]; rfl⟩)
theorem dX2_gather_0 : decode cX2_gather 0 = .ok (.aload_n 1, 1) := by decide +kernel
theorem dX2_gather_1 : decode cX2_gather 1 = .ok (.iload_n 2, 1) := by decide +kernel
theorem dX2_gather_2 : decode cX2_gather 2 = .ok (.invokevirtual 59, 3) := by decide +kernel
theorem dX2_gather_5 : decode cX2_gather 5 = .ok (.istore 4, 2) := by decide +kernel
theorem dX2_gather_7 : decode cX2_gather 7 = .ok (.iconst 0, 1) := by decide +kernel
theorem dX2_gather_8 : decode cX2_gather 8 = .ok (.istore 5, 2) := by decide +kernel
theorem dX2_gather_10 : decode cX2_gather 10 = .ok (.iload 5, 2) := by decide +kernel
theorem dX2_gather_12 : decode cX2_gather 12 = .ok (.aload_n 1, 1) := by decide +kernel
theorem dX2_gather_13 : decode cX2_gather 13 = .ok (.getfield 63, 3) := by decide +kernel
theorem dX2_gather_16 : decode cX2_gather 16 = .ok (.if_icmp .ge 75, 3) := by decide +kernel
theorem dX2_gather_19 : decode cX2_gather 19 = .ok (.aload_n 1, 1) := by decide +kernel
theorem dX2_gather_20 : decode cX2_gather 20 = .ok (.iload 5, 2) := by decide +kernel
theorem dX2_gather_22 : decode cX2_gather 22 = .ok (.iload 4, 2) := by decide +kernel
theorem dX2_gather_24 : decode cX2_gather 24 = .ok (.invokevirtual 66, 3) := by decide +kernel
theorem dX2_gather_27 : decode cX2_gather 27 = .ok (.istore 6, 2) := by decide +kernel
theorem dX2_gather_29 : decode cX2_gather 29 = .ok (.iconst 0, 1) := by decide +kernel
theorem dX2_gather_30 : decode cX2_gather 30 = .ok (.istore 7, 2) := by decide +kernel
theorem dX2_gather_32 : decode cX2_gather 32 = .ok (.iload 7, 2) := by decide +kernel
theorem dX2_gather_34 : decode cX2_gather 34 = .ok (.aload_n 1, 1) := by decide +kernel
theorem dX2_gather_35 : decode cX2_gather 35 = .ok (.getfield 63, 3) := by decide +kernel
theorem dX2_gather_38 : decode cX2_gather 38 = .ok (.if_icmp .ge 47, 3) := by decide +kernel
theorem dX2_gather_41 : decode cX2_gather 41 = .ok (.iload 6, 2) := by decide +kernel
theorem dX2_gather_43 : decode cX2_gather 43 = .ok (.iload 7, 2) := by decide +kernel
theorem dX2_gather_45 : decode cX2_gather 45 = .ok (.invokestatic 70, 3) := by decide +kernel
theorem dX2_gather_48 : decode cX2_gather 48 = .ok (.ifCond .eq 31, 3) := by decide +kernel
theorem dX2_gather_51 : decode cX2_gather 51 = .ok (.iload 5, 2) := by decide +kernel
theorem dX2_gather_53 : decode cX2_gather 53 = .ok (.bipush 8, 2) := by decide +kernel
theorem dX2_gather_55 : decode cX2_gather 55 = .ok (.imul, 1) := by decide +kernel
theorem dX2_gather_56 : decode cX2_gather 56 = .ok (.iload 7, 2) := by decide +kernel
theorem dX2_gather_58 : decode cX2_gather 58 = .ok (.iadd, 1) := by decide +kernel
theorem dX2_gather_59 : decode cX2_gather 59 = .ok (.istore 8, 2) := by decide +kernel
theorem dX2_gather_61 : decode cX2_gather 61 = .ok (.aload_n 0, 1) := by decide +kernel
theorem dX2_gather_62 : decode cX2_gather 62 = .ok (.getfield 9, 3) := by decide +kernel
theorem dX2_gather_65 : decode cX2_gather 65 = .ok (.iload 8, 2) := by decide +kernel
theorem dX2_gather_67 : decode cX2_gather 67 = .ok (.aload_n 0, 1) := by decide +kernel
theorem dX2_gather_68 : decode cX2_gather 68 = .ok (.getfield 9, 3) := by decide +kernel
theorem dX2_gather_71 : decode cX2_gather 71 = .ok (.iload 8, 2) := by decide +kernel
theorem dX2_gather_73 : decode cX2_gather 73 = .ok (.iaload, 1) := by decide +kernel
theorem dX2_gather_74 : decode cX2_gather 74 = .ok (.iload_n 3, 1) := by decide +kernel
theorem dX2_gather_75 : decode cX2_gather 75 = .ok (.invokestatic 74, 3) := by decide +kernel
theorem dX2_gather_78 : decode cX2_gather 78 = .ok (.iastore, 1) := by decide +kernel
theorem dX2_gather_79 : decode cX2_gather 79 = .ok (.iinc 7 1, 3) := by decide +kernel
theorem dX2_gather_82 : decode cX2_gather 82 = .ok (.goto (-50), 3) := by decide +kernel
theorem dX2_gather_85 : decode cX2_gather 85 = .ok (.iinc 5 1, 3) := by decide +kernel
theorem dX2_gather_88 : decode cX2_gather 88 = .ok (.goto (-78), 3) := by decide +kernel
theorem dX2_gather_91 : decode cX2_gather 91 = .ok (.return_, 1) := by decide +kernel
set_option maxRecDepth 100000 in
set_option maxHeartbeats 4000000 in
theorem k_X2_gather {G : am_G} (hK : k_OK G) {d : Nat} (hd : 2 ≤ d) {sh : List (Nat ⊕ (Nat × Nat))} {I : Nat → Nat → Int32} {R : Nat → Nat → Option Nat} {L : Nat → Nat → Int64} {g : Nat} {b t n : Nat} (hb : k_Days sh R b) (ht : k_Town sh R t) (hbt : b + 4 ≤ t ∨ t + 19 ≤ b) (hn : I t 0 = nI n) (hn8 : n ≤ 8) (pe wh : Int32) : AM G mX2_gather d [.ref b, .ref t, .int pe, .int wh] (sh, I, R, L, g) (fun v w => v = none ∧ w = (sh, am_uA I (b + 1) (f_ga (I (t + 4)) (f_wt (I (t + 4)) pe n) wh n (I (b + 1)) n), R, L, g)) (fun _ _ => False) := by
  have hG := hK.1
  refine AM.of (n := 5) (by decide +kernel) (Nat.le_of_ble_eq_true rfl) ?_
  show AW G mX2_gather d (fun v w => v = none ∧ w = (sh, am_uA I (b + 1) (f_ga (I (t + 4)) (f_wt (I (t + 4)) pe n) wh n (I (b + 1)) n), R, L, g)) (fun _ _ => False) 0 [some (.ref b), some (.ref t), some (.int pe), some (.int wh), none, none, none, none, none] [] (sh, I, R, L, g) 0 0
  refine AW.aload_n dX2_gather_0 rfl ?_
  refine AW.iload_n dX2_gather_1 rfl ?_
  refine AW.callV (b := t) (As := [.int pe]) hG.2.2 (vX2_59 hG) (ht.1 0 _ rfl) (k_X9_withTwins hK (d := 1) (Nat.le_refl _) ht hn hn8 pe) (by omega) dX2_gather_2 rfl rfl (Nat.le_of_ble_eq_true rfl) (fun v w9 hq9 h09 => by obtain ⟨rfl, rfl⟩ := hq9; exact ⟨h09, rfl⟩) (by decide) (by decide) (fun _ _ hx => hx) (fun v2 w2 hq2 => ?_)
  obtain ⟨rfl, rfl⟩ := hq2
  refine AW.nam (fun x2 ex2 => ?_)
  refine AW.is [some (.ref b), some (.ref t), some (.int pe), some (.int wh), some (.int x2), none, none, none, none] dX2_gather_5 (by decide) rfl rfl ?_
  refine AW.iconst 0 dX2_gather_7 (by decide) ?_
  refine AW.is [some (.ref b), some (.ref t), some (.int pe), some (.int wh), some (.int x2), some (.int 0), none, none, none] dX2_gather_8 (by decide) rfl rfl ?_
  have L10 : ∀ k10, k10 ≤ n → ∀ (x : Int32) (J : Nat → Nat → Int32), (x = nI k10 ∧ J = am_uA I (b + 1) (f_ga (I (t + 4)) (f_wt (I (t + 4)) pe n) wh n (I (b + 1)) k10)) → AW G mX2_gather d (fun v w => v = none ∧ w = (sh, am_uA I (b + 1) (f_ga (I (t + 4)) (f_wt (I (t + 4)) pe n) wh n (I (b + 1)) n), R, L, g)) (fun _ _ => False) 10 [some (.ref b), some (.ref t), some (.int pe), some (.int wh), some (.int x2), some (.int x), none, none, none] [] (sh, J, R, L, g) 0 0 := by
    refine am_rec n (fun k10 hk10 ih10 => ?_)
    intro x J hi10
    obtain ⟨hx, hJ⟩ := hi10
    have hJn : J t 0 = nI n := by rw [hJ, am_uA_o _ _ _ (by omega)]; exact hn
    have hJt : J (t + 4) = I (t + 4) := by rw [hJ, am_uA_o _ _ _ (by omega)]
    refine AW.iload dX2_gather_10 rfl ?_
    refine AW.aload_n dX2_gather_12 rfl ?_
    refine AW.getI (fX2_63 hG).r rfl (ht.1 0 _ rfl) dX2_gather_13 ?_
    refine AW.icmp_ge 91 dX2_gather_16 (by decide) (fun h16 => ?_) (fun h16 => ?_)
    · have hke := k_ge h16 hx hJn hk10 (by omega)
      subst hke
      exact AW.vret dX2_gather_91 rfl (by decide) (by decide) (⟨rfl, by rw [hJ]⟩)
    · have hlt := k_lt h16 hx hJn hk10 (by omega)
      have hbx : vp_in x 8 := by rw [hx]; exact vp_in_nI (by omega) (by decide)
      have hcx : x.toNatClampNeg = k10 := by rw [hx]; exact nI_clamp (by omega)
      refine AW.aload_n dX2_gather_19 rfl ?_
      refine AW.iload dX2_gather_20 rfl ?_
      refine AW.iload dX2_gather_22 rfl ?_
      refine AW.callV (b := t) (As := [.int x, .int x2]) hG.2.2 (vX2_66 hG) (ht.1 0 _ rfl) (k_X9_metBy hK (d := 1) (Nat.le_refl _) ht x x2 (by first | assumption | exact vp_in_nI (by omega) (by decide))) (by omega) dX2_gather_24 rfl rfl (Nat.le_of_ble_eq_true rfl) (fun v w9 hq9 h09 => by obtain ⟨rfl, rfl⟩ := hq9; exact ⟨h09, rfl⟩) (by decide) (by decide) (fun _ _ hx => hx) (fun v24 w24 hq24 => ?_)
      obtain ⟨rfl, rfl⟩ := hq24
      refine AW.nam (fun x24 ex24 => ?_)
      refine AW.is [some (.ref b), some (.ref t), some (.int pe), some (.int wh), some (.int x2), some (.int x), some (.int x24), none, none] dX2_gather_27 (by decide) rfl rfl ?_
      refine AW.iconst 0 dX2_gather_29 (by decide) ?_
      refine AW.is [some (.ref b), some (.ref t), some (.int pe), some (.int wh), some (.int x2), some (.int x), some (.int x24), some (.int 0), none] dX2_gather_30 (by decide) rfl rfl ?_
      have L32 : ∀ k32, k32 ≤ n → ∀ (y : Int32) (J2 : Nat → Nat → Int32), (y = nI k32 ∧ J2 = am_uA I (b + 1) (f_ga1 (f_mb (I (t + 4)) (nI k10) (f_wt (I (t + 4)) pe n)) wh k10 (f_ga (I (t + 4)) (f_wt (I (t + 4)) pe n) wh n (I (b + 1)) k10) k32)) → AW G mX2_gather d (fun v w => v = none ∧ w = (sh, am_uA I (b + 1) (f_ga (I (t + 4)) (f_wt (I (t + 4)) pe n) wh n (I (b + 1)) n), R, L, g)) (fun _ _ => False) 32 [some (.ref b), some (.ref t), some (.int pe), some (.int wh), some (.int x2), some (.int x), some (.int x24), some (.int y), none] [] (sh, J2, R, L, g) 0 0 := by
        refine am_rec n (fun k32 hk32 ih32 => ?_)
        intro y J2 hi32
        obtain ⟨hy, hJ2⟩ := hi32
        have hJn2 : J2 t 0 = nI n := by rw [hJ2, am_uA_o _ _ _ (by omega)]; exact hn
        refine AW.iload dX2_gather_32 rfl ?_
        refine AW.aload_n dX2_gather_34 rfl ?_
        refine AW.getI (fX2_63 hG).r rfl (ht.1 0 _ rfl) dX2_gather_35 ?_
        refine AW.icmp_ge 85 dX2_gather_38 (by decide) (fun h38 => ?_) (fun h38 => ?_)
        · have hke := k_ge h38 hy hJn2 hk32 (by omega)
          subst hke
          refine AW.inc (fun x85 => [some (.ref b), some (.ref t), some (.int pe), some (.int wh), some (.int x2), some (.int x85), some (.int x24), some (.int y), none]) dX2_gather_85 rfl (by decide) rfl (fun _ => rfl) (fun x85 ex85 => ?_)
          refine AW.goto 10 dX2_gather_88 (by decide) ?_
          refine AW.mask [6, 7, 8] [some (.ref b), some (.ref t), some (.int pe), some (.int wh), some (.int x2), some (.int x85), none, none, none] rfl ?_
          exact ih10 (k10 + 1) (by omega) (by omega) _ _ (⟨k_inc (by assumption) hx, by rw [hJ2]; rfl⟩)
        · have hlt := k_lt h38 hy hJn2 hk32 (by omega)
          have hbx : vp_in y 8 := by rw [hy]; exact vp_in_nI (by omega) (by decide)
          have hcx : y.toNatClampNeg = k32 := by rw [hy]; exact nI_clamp (by omega)
          refine AW.iload dX2_gather_41 rfl ?_
          refine AW.iload dX2_gather_43 rfl ?_
          refine AW.callSN (As := [.int x24, .int y]) hG.2.2 (vX2_70n hK) (kS_X10_has hG) (k_X10_has hK (d := 0) (Nat.le_refl _) x24 y) (by omega) dX2_gather_45 rfl rfl (Nat.le_of_ble_eq_true rfl) (fun v w9 hq9 h09 => by obtain ⟨rfl, rfl⟩ := hq9; exact ⟨h09, rfl⟩) (by decide) (by decide) (fun v45 w45 hq45 => ?_)
          obtain ⟨rfl, rfl⟩ := hq45
          refine AW.nam (fun x45 ex45 => ?_)
          refine AW.if_eq 79 dX2_gather_48 (by decide) (fun h48 => ?_) (fun h48 => ?_)
          · rw [ex45, ex24, hJt, ex2, hx, hy] at h48
            have hc := kb_0.mp h48
            refine AW.inc (fun x79 => [some (.ref b), some (.ref t), some (.int pe), some (.int wh), some (.int x2), some (.int x), some (.int x24), some (.int x79), none]) dX2_gather_79 rfl (by decide) rfl (fun _ => rfl) (fun x79 ex79 => ?_)
            refine AW.goto 32 dX2_gather_82 (by decide) ?_
            refine AW.mask [8] [some (.ref b), some (.ref t), some (.int pe), some (.int wh), some (.int x2), some (.int x), some (.int x24), some (.int x79), none] rfl ?_
            exact ih32 (k32 + 1) (by omega) (by omega) _ _ (⟨k_inc (by assumption) hy, by rw [hJ2]; show _ = am_uA I (b + 1) (if _ then _ else _); rw [if_neg (by rw [hc]; decide)]; rfl⟩)
          · rw [ex45, ex24, hJt, ex2, hx, hy] at h48
            have hc := kb_1.mp h48
            refine AW.iload dX2_gather_51 rfl ?_
            refine AW.bipush 8 dX2_gather_53 (by decide) ?_
            refine AW.imul dX2_gather_55 ?_
            refine AW.iload dX2_gather_56 rfl ?_
            refine AW.iadd dX2_gather_58 ?_
            refine AW.nam (fun x59 ex59 => ?_)
            refine AW.is [some (.ref b), some (.ref t), some (.int pe), some (.int wh), some (.int x2), some (.int x), some (.int x24), some (.int y), some (.int x59)] dX2_gather_59 (by decide) rfl rfl ?_
            have hix := k_88 ex59 hx hy
            have hb59 : vp_in x59 64 := by rw [hix]; exact vp_in_nI (by omega) (by decide)
            have hc59 : x59.toNatClampNeg = 8 * k10 + k32 := by rw [hix]; exact nI_clamp (by omega)
            refine AW.aload_n dX2_gather_61 rfl ?_
            refine AW.getR (c' := (b + 1)) (fX2_9 hG).r rfl (hb.1 0 _ rfl) (hb.2 (0, 2, 1) (by decide)) dX2_gather_62 ?_
            refine AW.iload dX2_gather_65 rfl ?_
            refine AW.aload_n dX2_gather_67 rfl ?_
            refine AW.getR (c' := (b + 1)) (fX2_9 hG).r rfl (hb.1 0 _ rfl) (hb.2 (0, 2, 1) (by decide)) dX2_gather_68 ?_
            refine AW.iload dX2_gather_71 rfl ?_
            refine AW.iald (hb.1 1 _ rfl) (by first | assumption | exact vp_in_nI (by omega) (by decide)) dX2_gather_73 ?_
            refine AW.iload_n dX2_gather_74 rfl ?_
            refine AW.mmax (k_c hG 577 (by decide +kernel) (by decide +kernel)) (k_mmax hG) dX2_gather_75 (by omega) (Nat.le_of_ble_eq_true rfl) (by decide) (by decide) ?_
            refine AW.iast (hb.1 1 _ rfl) (by first | assumption | exact vp_in_nI (by omega) (by decide)) dX2_gather_78 ?_
            refine AW.namI (fun I78 eI78 => ?_)
            refine AW.inc (fun x79 => [some (.ref b), some (.ref t), some (.int pe), some (.int wh), some (.int x2), some (.int x), some (.int x24), some (.int x79), some (.int x59)]) dX2_gather_79 rfl (by decide) rfl (fun _ => rfl) (fun x79 ex79 => ?_)
            refine AW.goto 32 dX2_gather_82 (by decide) ?_
            refine AW.mask [8] [some (.ref b), some (.ref t), some (.int pe), some (.int wh), some (.int x2), some (.int x), some (.int x24), some (.int x79), none] rfl ?_
            exact ih32 (k32 + 1) (by omega) (by omega) _ _ (⟨k_inc (by assumption) hy, by rw [eI78, hc59, hJ2, am_up_uA, am_uA_s, am_uA_uA]; show _ = am_uA I (b + 1) (if _ then _ else _); rw [if_pos hc]; rfl⟩)
      exact L32 0 (by omega) _ _ (⟨nI_0.symm, hJ⟩)
  exact L10 0 (by omega) _ _ (⟨nI_0.symm, (am_uA_id _ _).symm⟩)
