/-! TOWN AND LOAVES, WRITTEN; STORY; MEMORY -/
theorem k_lit {x : Int32} {n : Nat} (hx : x = nI n) (hn : n < 2 ^ 31) : x.toNatClampNeg = n := by rw [hx]; exact nI_clamp hn
theorem nI_ltl {n m : Nat} {x y : Int32} (hx : x = nI n) (hy : y = nI m) (hn : n < 2 ^ 31) (hm : m < 2 ^ 31) : x < y ↔ n < m := by rw [hx, hy]; exact nI_ltI hn hm
theorem nI_lel {n m : Nat} {x y : Int32} (hx : x = nI n) (hy : y = nI m) (hn : n < 2 ^ 31) (hm : m < 2 ^ 31) : x ≤ y ↔ n ≤ m := by rw [hx, hy]; exact nI_leI hn hm
def f_clr (I : Nat → Nat → Int32) (t : Nat) : Nat → Nat → Int32 := am_uA (am_uA (am_uA I t (upd (upd (upd (upd (I t) 0 0) 1 0) 2 365) 3 12)) (t + 8) (upd (I (t + 8)) 0 0)) (t + 16) (upd (I (t + 16)) 2 0)
theorem dX9_clear_0 : decode cX9_clear 0 = .ok (.aload_n 0, 1) := by decide +kernel
theorem dX9_clear_1 : decode cX9_clear 1 = .ok (.iconst 0, 1) := by decide +kernel
theorem dX9_clear_2 : decode cX9_clear 2 = .ok (.putfield 47, 3) := by decide +kernel
theorem dX9_clear_5 : decode cX9_clear 5 = .ok (.aload_n 0, 1) := by decide +kernel
theorem dX9_clear_6 : decode cX9_clear 6 = .ok (.iconst 0, 1) := by decide +kernel
theorem dX9_clear_7 : decode cX9_clear 7 = .ok (.putfield 51, 3) := by decide +kernel
theorem dX9_clear_10 : decode cX9_clear 10 = .ok (.aload_n 0, 1) := by decide +kernel
theorem dX9_clear_11 : decode cX9_clear 11 = .ok (.sipush 365, 3) := by decide +kernel
theorem dX9_clear_14 : decode cX9_clear 14 = .ok (.putfield 54, 3) := by decide +kernel
theorem dX9_clear_17 : decode cX9_clear 17 = .ok (.aload_n 0, 1) := by decide +kernel
theorem dX9_clear_18 : decode cX9_clear 18 = .ok (.bipush 12, 2) := by decide +kernel
theorem dX9_clear_20 : decode cX9_clear 20 = .ok (.putfield 57, 3) := by decide +kernel
theorem dX9_clear_23 : decode cX9_clear 23 = .ok (.aload_n 0, 1) := by decide +kernel
theorem dX9_clear_24 : decode cX9_clear 24 = .ok (.getfield 36, 3) := by decide +kernel
theorem dX9_clear_27 : decode cX9_clear 27 = .ok (.iconst 0, 1) := by decide +kernel
theorem dX9_clear_28 : decode cX9_clear 28 = .ok (.putfield 60, 3) := by decide +kernel
theorem dX9_clear_31 : decode cX9_clear 31 = .ok (.aload_n 0, 1) := by decide +kernel
theorem dX9_clear_32 : decode cX9_clear 32 = .ok (.getfield 43, 3) := by decide +kernel
theorem dX9_clear_35 : decode cX9_clear 35 = .ok (.iconst 0, 1) := by decide +kernel
theorem dX9_clear_36 : decode cX9_clear 36 = .ok (.putfield 63, 3) := by decide +kernel
theorem dX9_clear_39 : decode cX9_clear 39 = .ok (.return_, 1) := by decide +kernel
set_option maxRecDepth 100000 in
set_option maxHeartbeats 4000000 in
theorem k_X9_clear {G : am_G} (hK : k_OK G) {d : Nat} (hd : 0 ≤ d) {sh : List (Nat ⊕ (Nat × Nat))} {I : Nat → Nat → Int32} {R : Nat → Nat → Option Nat} {L : Nat → Nat → Int64} {g : Nat} {t : Nat} (ht : k_Town sh R t) : AM G mX9_clear d [.ref t] (sh, I, R, L, g) (fun v w => v = none ∧ w = (sh, f_clr I t, R, L, g)) (fun _ _ => False) := by
  have hG := hK.1
  refine AM.of (n := 0) (by decide +kernel) (Nat.le_of_ble_eq_true rfl) ?_
  show AW G mX9_clear d (fun v w => v = none ∧ w = (sh, f_clr I t, R, L, g)) (fun _ _ => False) 0 [some (.ref t)] [] (sh, I, R, L, g) 0 0
  refine AW.aload_n dX9_clear_0 rfl ?_
  refine AW.iconst 0 dX9_clear_1 (by decide) ?_
  refine AW.putI (fX9_47 hG) rfl (vp_nar_int _) rfl (ht.1 0 _ rfl) dX9_clear_2 ?_
  refine AW.namI (fun I2 eI2 => ?_)
  refine AW.aload_n dX9_clear_5 rfl ?_
  refine AW.iconst 0 dX9_clear_6 (by decide) ?_
  refine AW.putI (fX9_51 hG) rfl (vp_nar_int _) rfl (ht.1 0 _ rfl) dX9_clear_7 ?_
  refine AW.namI (fun I7 eI7 => ?_)
  refine AW.aload_n dX9_clear_10 rfl ?_
  refine AW.sipush 365 dX9_clear_11 (by decide) ?_
  refine AW.putI (fX9_54 hG) rfl (vp_nar_int _) rfl (ht.1 0 _ rfl) dX9_clear_14 ?_
  refine AW.namI (fun I14 eI14 => ?_)
  refine AW.aload_n dX9_clear_17 rfl ?_
  refine AW.bipush 12 dX9_clear_18 (by decide) ?_
  refine AW.putI (fX9_57 hG) rfl (vp_nar_int _) rfl (ht.1 0 _ rfl) dX9_clear_20 ?_
  refine AW.namI (fun I20 eI20 => ?_)
  refine AW.aload_n dX9_clear_23 rfl ?_
  refine AW.getR (c' := (t + 8)) (fX9_36 hG).r rfl (ht.1 0 _ rfl) (ht.2 (0, 11, 8) (by decide)) dX9_clear_24 ?_
  refine AW.iconst 0 dX9_clear_27 (by decide) ?_
  refine AW.putI (fX9_60 hG) rfl (vp_nar_int _) rfl (ht.1 8 _ rfl) dX9_clear_28 ?_
  refine AW.namI (fun I28 eI28 => ?_)
  refine AW.aload_n dX9_clear_31 rfl ?_
  refine AW.getR (c' := (t + 16)) (fX9_43 hG).r rfl (ht.1 0 _ rfl) (ht.2 (0, 12, 16) (by decide)) dX9_clear_32 ?_
  refine AW.iconst 0 dX9_clear_35 (by decide) ?_
  refine AW.putI (fX9_63 hG) rfl (vp_nar_int _) rfl (ht.1 16 _ rfl) dX9_clear_36 ?_
  refine AW.namI (fun I36 eI36 => ?_)
  exact AW.vret dX9_clear_39 rfl (by decide) (by decide) (⟨rfl, by subst eI36; subst eI28; subst eI20; subst eI14; subst eI7; subst eI2; simp (disch := omega) only [am_up_uA, am_uA_s, am_uA_o, am_uA_uA, cl0, cl6, cl8, cl64, cl40, cl3, cl4, cl39, cl1]; rfl⟩)
theorem dX9_addMet_0 : decode cX9_addMet 0 = .ok (.aload_n 0, 1) := by decide +kernel
theorem dX9_addMet_1 : decode cX9_addMet 1 = .ok (.getfield 51, 3) := by decide +kernel
theorem dX9_addMet_4 : decode cX9_addMet 4 = .ok (.bipush 16, 2) := by decide +kernel
theorem dX9_addMet_6 : decode cX9_addMet 6 = .ok (.if_icmp .ge 43, 3) := by decide +kernel
theorem dX9_addMet_9 : decode cX9_addMet 9 = .ok (.aload_n 0, 1) := by decide +kernel
theorem dX9_addMet_10 : decode cX9_addMet 10 = .ok (.getfield 24, 3) := by decide +kernel
theorem dX9_addMet_13 : decode cX9_addMet 13 = .ok (.aload_n 0, 1) := by decide +kernel
theorem dX9_addMet_14 : decode cX9_addMet 14 = .ok (.getfield 51, 3) := by decide +kernel
theorem dX9_addMet_17 : decode cX9_addMet 17 = .ok (.iload_n 1, 1) := by decide +kernel
theorem dX9_addMet_18 : decode cX9_addMet 18 = .ok (.iastore, 1) := by decide +kernel
theorem dX9_addMet_19 : decode cX9_addMet 19 = .ok (.aload_n 0, 1) := by decide +kernel
theorem dX9_addMet_20 : decode cX9_addMet 20 = .ok (.getfield 27, 3) := by decide +kernel
theorem dX9_addMet_23 : decode cX9_addMet 23 = .ok (.aload_n 0, 1) := by decide +kernel
theorem dX9_addMet_24 : decode cX9_addMet 24 = .ok (.getfield 51, 3) := by decide +kernel
theorem dX9_addMet_27 : decode cX9_addMet 27 = .ok (.iload_n 2, 1) := by decide +kernel
theorem dX9_addMet_28 : decode cX9_addMet 28 = .ok (.iastore, 1) := by decide +kernel
theorem dX9_addMet_29 : decode cX9_addMet 29 = .ok (.aload_n 0, 1) := by decide +kernel
theorem dX9_addMet_30 : decode cX9_addMet 30 = .ok (.getfield 30, 3) := by decide +kernel
theorem dX9_addMet_33 : decode cX9_addMet 33 = .ok (.aload_n 0, 1) := by decide +kernel
theorem dX9_addMet_34 : decode cX9_addMet 34 = .ok (.getfield 51, 3) := by decide +kernel
theorem dX9_addMet_37 : decode cX9_addMet 37 = .ok (.iload_n 3, 1) := by decide +kernel
theorem dX9_addMet_38 : decode cX9_addMet 38 = .ok (.iastore, 1) := by decide +kernel
theorem dX9_addMet_39 : decode cX9_addMet 39 = .ok (.aload_n 0, 1) := by decide +kernel
theorem dX9_addMet_40 : decode cX9_addMet 40 = .ok (.dup, 1) := by decide +kernel
theorem dX9_addMet_41 : decode cX9_addMet 41 = .ok (.getfield 51, 3) := by decide +kernel
theorem dX9_addMet_44 : decode cX9_addMet 44 = .ok (.iconst 1, 1) := by decide +kernel
theorem dX9_addMet_45 : decode cX9_addMet 45 = .ok (.iadd, 1) := by decide +kernel
theorem dX9_addMet_46 : decode cX9_addMet 46 = .ok (.putfield 51, 3) := by decide +kernel
theorem dX9_addMet_49 : decode cX9_addMet 49 = .ok (.return_, 1) := by decide +kernel
set_option maxRecDepth 100000 in
set_option maxHeartbeats 4000000 in
theorem k_X9_addMet {G : am_G} (hK : k_OK G) {d : Nat} (hd : 0 ≤ d) {sh : List (Nat ⊕ (Nat × Nat))} {I : Nat → Nat → Int32} {R : Nat → Nat → Option Nat} {L : Nat → Nat → Int64} {g : Nat} {t m : Nat} (ht : k_Town sh R t) (hm : I t 1 = nI m) (hm16 : m < 16) (a o d9 : Int32) : AM G mX9_addMet d [.ref t, .int a, .int o, .int d9] (sh, I, R, L, g) (fun v w => v = none ∧ w = (sh, am_uA (am_uA (am_uA (am_uA I (t + 5) (upd (I (t + 5)) m a)) (t + 6) (upd (I (t + 6)) m o)) (t + 7) (upd (I (t + 7)) m d9)) t (upd (I t) 1 (I t 1 + 1)), R, L, g)) (fun _ _ => False) := by
  have hG := hK.1
  have hcm := k_lit hm (by omega)
  have hbm : vp_in (I t 1) 16 := by rw [hm]; exact vp_in_nI hm16 (by decide)
  refine AM.of (n := 0) (by decide +kernel) (Nat.le_of_ble_eq_true rfl) ?_
  show AW G mX9_addMet d (fun v w => v = none ∧ w = (sh, am_uA (am_uA (am_uA (am_uA I (t + 5) (upd (I (t + 5)) m a)) (t + 6) (upd (I (t + 6)) m o)) (t + 7) (upd (I (t + 7)) m d9)) t (upd (I t) 1 (I t 1 + 1)), R, L, g)) (fun _ _ => False) 0 [some (.ref t), some (.int a), some (.int o), some (.int d9)] [] (sh, I, R, L, g) 0 0
  refine AW.aload_n dX9_addMet_0 rfl ?_
  refine AW.getI (fX9_51 hG).r rfl (ht.1 0 _ rfl) dX9_addMet_1 ?_
  refine AW.bipush 16 dX9_addMet_4 (by decide) ?_
  refine AW.icmp_ge 49 dX9_addMet_6 (by decide) (fun h6 => ?_) (fun h6 => ?_)
  · exact absurd ((nI_lel rfl hm (n := 16) (by decide) (by omega)).mp h6) (by omega)
  · refine AW.aload_n dX9_addMet_9 rfl ?_
    refine AW.getR (c' := (t + 5)) (fX9_24 hG).r rfl (ht.1 0 _ rfl) (ht.2 (0, 8, 5) (by decide)) dX9_addMet_10 ?_
    refine AW.aload_n dX9_addMet_13 rfl ?_
    refine AW.getI (fX9_51 hG).r rfl (ht.1 0 _ rfl) dX9_addMet_14 ?_
    refine AW.iload_n dX9_addMet_17 rfl ?_
    refine AW.iast (ht.1 5 _ rfl) (by first | assumption | exact vp_in_nI (by omega) (by decide)) dX9_addMet_18 ?_
    refine AW.namI (fun I18 eI18 => ?_)
    refine AW.aload_n dX9_addMet_19 rfl ?_
    refine AW.getR (c' := (t + 6)) (fX9_27 hG).r rfl (ht.1 0 _ rfl) (ht.2 (0, 9, 6) (by decide)) dX9_addMet_20 ?_
    refine AW.aload_n dX9_addMet_23 rfl ?_
    refine AW.getI (fX9_51 hG).r rfl (ht.1 0 _ rfl) dX9_addMet_24 ?_
    refine AW.iload_n dX9_addMet_27 rfl ?_
    refine AW.iast (ht.1 6 _ rfl) (by rw [eI18, am_up_o _ _ _ _ (by omega)]; exact hbm) dX9_addMet_28 ?_
    refine AW.namI (fun I28 eI28 => ?_)
    refine AW.aload_n dX9_addMet_29 rfl ?_
    refine AW.getR (c' := (t + 7)) (fX9_30 hG).r rfl (ht.1 0 _ rfl) (ht.2 (0, 10, 7) (by decide)) dX9_addMet_30 ?_
    refine AW.aload_n dX9_addMet_33 rfl ?_
    refine AW.getI (fX9_51 hG).r rfl (ht.1 0 _ rfl) dX9_addMet_34 ?_
    refine AW.iload_n dX9_addMet_37 rfl ?_
    refine AW.iast (ht.1 7 _ rfl) (by rw [eI28, am_up_o _ _ _ _ (by omega), eI18, am_up_o _ _ _ _ (by omega)]; exact hbm) dX9_addMet_38 ?_
    refine AW.namI (fun I38 eI38 => ?_)
    refine AW.aload_n dX9_addMet_39 rfl ?_
    refine AW.dup dX9_addMet_40 rfl ?_
    refine AW.getI (fX9_51 hG).r rfl (ht.1 0 _ rfl) dX9_addMet_41 ?_
    refine AW.iconst 1 dX9_addMet_44 (by decide) ?_
    refine AW.iadd dX9_addMet_45 ?_
    refine AW.putI (fX9_51 hG) rfl (vp_nar_int _) rfl (ht.1 0 _ rfl) dX9_addMet_46 ?_
    refine AW.namI (fun I46 eI46 => ?_)
    exact AW.vret dX9_addMet_49 rfl (by decide) (by decide) (⟨rfl, by subst eI46; subst eI38; subst eI28; subst eI18; simp (disch := omega) only [am_up_uA, am_uA_s, am_uA_o, am_uA_uA, cl0, cl6, cl8, cl64, cl40, cl3, cl4, cl39, cl1]; rw [hcm]⟩)
theorem dX3_eater_0 : decode cX3_eater 0 = .ok (.aload_n 0, 1) := by decide +kernel
theorem dX3_eater_1 : decode cX3_eater 1 = .ok (.getfield 30, 3) := by decide +kernel
theorem dX3_eater_4 : decode cX3_eater 4 = .ok (.iload_n 1, 1) := by decide +kernel
theorem dX3_eater_5 : decode cX3_eater 5 = .ok (.bipush 6, 2) := by decide +kernel
theorem dX3_eater_7 : decode cX3_eater 7 = .ok (.imul, 1) := by decide +kernel
theorem dX3_eater_8 : decode cX3_eater 8 = .ok (.iload_n 2, 1) := by decide +kernel
theorem dX3_eater_9 : decode cX3_eater 9 = .ok (.iadd, 1) := by decide +kernel
theorem dX3_eater_10 : decode cX3_eater 10 = .ok (.iaload, 1) := by decide +kernel
theorem dX3_eater_11 : decode cX3_eater 11 = .ok (.ireturn, 1) := by decide +kernel
set_option maxRecDepth 100000 in
set_option maxHeartbeats 4000000 in
theorem k_X3_eater {G : am_G} (hK : k_OK G) {d : Nat} (hd : 0 ≤ d) {sh : List (Nat ⊕ (Nat × Nat))} {I : Nat → Nat → Int32} {R : Nat → Nat → Option Nat} {L : Nat → Nat → Int64} {g : Nat} {l : Nat} (hl : k_Loaves sh R l) (x y : Int32) (hix : vp_in (x * 6 + y) 36) : AM G mX3_eater d [.ref l, .int x, .int y] (sh, I, R, L, g) (fun v w => v = some (.int (I (l + 7) (x * 6 + y).toNatClampNeg)) ∧ w = (sh, I, R, L, g)) (fun _ _ => False) := by
  have hG := hK.1
  refine AM.of (n := 0) (by decide +kernel) (Nat.le_of_ble_eq_true rfl) ?_
  show AW G mX3_eater d (fun v w => v = some (.int (I (l + 7) (x * 6 + y).toNatClampNeg)) ∧ w = (sh, I, R, L, g)) (fun _ _ => False) 0 [some (.ref l), some (.int x), some (.int y)] [] (sh, I, R, L, g) 0 0
  refine AW.aload_n dX3_eater_0 rfl ?_
  refine AW.getR (c' := (l + 7)) (fX3_30 hG).r rfl (hl.1 0 _ rfl) (hl.2 (0, 7, 7) (by decide)) dX3_eater_1 ?_
  refine AW.iload_n dX3_eater_4 rfl ?_
  refine AW.bipush 6 dX3_eater_5 (by decide) ?_
  refine AW.imul dX3_eater_7 ?_
  refine AW.iload_n dX3_eater_8 rfl ?_
  refine AW.iadd dX3_eater_9 ?_
  refine AW.iald (hl.1 7 _ rfl) (by first | assumption | exact vp_in_nI (by omega) (by decide)) dX3_eater_10 ?_
  exact AW.iret dX3_eater_11 rfl (by decide) (by decide) (⟨rfl, rfl⟩)
def f_perf (I : Nat → Nat → Int32) (t n b : Nat) (kd fi se : Int32) : Nat → Nat → Int32 :=
  if kd = 0 then am_uA I (b + 2) (upd (I (b + 2)) se.toNatClampNeg fi)
  else if kd = 1 then am_uA (am_uA I (b + 1) (f_ga (I (t + 4)) (f_wt (I (t + 4)) (((1 : Int32) <<< (fi &&& 31)) ||| ((1 : Int32) <<< (se &&& 31))) n) (I b 0) n (I (b + 1)) n)) (b + 3) (upd (I (b + 3)) se.toNatClampNeg (I (b + 3) se.toNatClampNeg + 1))
  else if kd = 2 then am_uA I (b + 1) (f_ga (I (t + 4)) (f_wt (I (t + 4)) fi n) (I b 0) n (I (b + 1)) n)
  else am_uA I b (f_pass (I b) fi)
theorem f_perf_o (I : Nat → Nat → Int32) (t n b : Nat) (kd fi se : Int32) {a : Nat} (h : a < b ∨ b + 4 ≤ a) : f_perf I t n b kd fi se a = I a := by
  unfold f_perf
  split
  · rw [am_uA_o _ _ _ (by omega)]
  · split
    · rw [am_uA_o _ _ _ (by omega), am_uA_o _ _ _ (by omega)]
    · split
      · rw [am_uA_o _ _ _ (by omega)]
      · rw [am_uA_o _ _ _ (by omega)]
theorem dX8_perform_0 : decode cX8_perform 0 = .ok (.aload_n 0, 1) := by decide +kernel
theorem dX8_perform_1 : decode cX8_perform 1 = .ok (.getfield 25, 3) := by decide +kernel
theorem dX8_perform_4 : decode cX8_perform 4 = .ok (.iload_n 3, 1) := by decide +kernel
theorem dX8_perform_5 : decode cX8_perform 5 = .ok (.iaload, 1) := by decide +kernel
theorem dX8_perform_6 : decode cX8_perform 6 = .ok (.istore 4, 2) := by decide +kernel
theorem dX8_perform_8 : decode cX8_perform 8 = .ok (.aload_n 0, 1) := by decide +kernel
theorem dX8_perform_9 : decode cX8_perform 9 = .ok (.getfield 28, 3) := by decide +kernel
theorem dX8_perform_12 : decode cX8_perform 12 = .ok (.iload_n 3, 1) := by decide +kernel
theorem dX8_perform_13 : decode cX8_perform 13 = .ok (.iaload, 1) := by decide +kernel
theorem dX8_perform_14 : decode cX8_perform 14 = .ok (.istore 5, 2) := by decide +kernel
theorem dX8_perform_16 : decode cX8_perform 16 = .ok (.aload_n 0, 1) := by decide +kernel
theorem dX8_perform_17 : decode cX8_perform 17 = .ok (.getfield 21, 3) := by decide +kernel
theorem dX8_perform_20 : decode cX8_perform 20 = .ok (.iload_n 3, 1) := by decide +kernel
theorem dX8_perform_21 : decode cX8_perform 21 = .ok (.iaload, 1) := by decide +kernel
theorem dX8_perform_22 : decode cX8_perform 22 = .ok (.tableswitch 84 0 2 #[26, 38, 70], 26) := by decide +kernel
theorem dX8_perform_48 : decode cX8_perform 48 = .ok (.aload_n 2, 1) := by decide +kernel
theorem dX8_perform_49 : decode cX8_perform 49 = .ok (.getfield 56, 3) := by decide +kernel
theorem dX8_perform_52 : decode cX8_perform 52 = .ok (.iload 5, 2) := by decide +kernel
theorem dX8_perform_54 : decode cX8_perform 54 = .ok (.iload 4, 2) := by decide +kernel
theorem dX8_perform_56 : decode cX8_perform 56 = .ok (.iastore, 1) := by decide +kernel
theorem dX8_perform_57 : decode cX8_perform 57 = .ok (.goto 55, 3) := by decide +kernel
theorem dX8_perform_60 : decode cX8_perform 60 = .ok (.aload_n 2, 1) := by decide +kernel
theorem dX8_perform_61 : decode cX8_perform 61 = .ok (.aload_n 1, 1) := by decide +kernel
theorem dX8_perform_62 : decode cX8_perform 62 = .ok (.iconst 1, 1) := by decide +kernel
theorem dX8_perform_63 : decode cX8_perform 63 = .ok (.iload 4, 2) := by decide +kernel
theorem dX8_perform_65 : decode cX8_perform 65 = .ok (.ishl, 1) := by decide +kernel
theorem dX8_perform_66 : decode cX8_perform 66 = .ok (.iconst 1, 1) := by decide +kernel
theorem dX8_perform_67 : decode cX8_perform 67 = .ok (.iload 5, 2) := by decide +kernel
theorem dX8_perform_69 : decode cX8_perform 69 = .ok (.ishl, 1) := by decide +kernel
theorem dX8_perform_70 : decode cX8_perform 70 = .ok (.ior, 1) := by decide +kernel
theorem dX8_perform_71 : decode cX8_perform 71 = .ok (.aload_n 2, 1) := by decide +kernel
theorem dX8_perform_72 : decode cX8_perform 72 = .ok (.getfield 59, 3) := by decide +kernel
theorem dX8_perform_75 : decode cX8_perform 75 = .ok (.invokevirtual 62, 3) := by decide +kernel
theorem dX8_perform_78 : decode cX8_perform 78 = .ok (.aload_n 2, 1) := by decide +kernel
theorem dX8_perform_79 : decode cX8_perform 79 = .ok (.getfield 66, 3) := by decide +kernel
theorem dX8_perform_82 : decode cX8_perform 82 = .ok (.iload 5, 2) := by decide +kernel
theorem dX8_perform_84 : decode cX8_perform 84 = .ok (.dup2, 1) := by decide +kernel
theorem dX8_perform_85 : decode cX8_perform 85 = .ok (.iaload, 1) := by decide +kernel
theorem dX8_perform_86 : decode cX8_perform 86 = .ok (.iconst 1, 1) := by decide +kernel
theorem dX8_perform_87 : decode cX8_perform 87 = .ok (.iadd, 1) := by decide +kernel
theorem dX8_perform_88 : decode cX8_perform 88 = .ok (.iastore, 1) := by decide +kernel
theorem dX8_perform_89 : decode cX8_perform 89 = .ok (.goto 23, 3) := by decide +kernel
theorem dX8_perform_92 : decode cX8_perform 92 = .ok (.aload_n 2, 1) := by decide +kernel
theorem dX8_perform_93 : decode cX8_perform 93 = .ok (.aload_n 1, 1) := by decide +kernel
theorem dX8_perform_94 : decode cX8_perform 94 = .ok (.iload 4, 2) := by decide +kernel
theorem dX8_perform_96 : decode cX8_perform 96 = .ok (.aload_n 2, 1) := by decide +kernel
theorem dX8_perform_97 : decode cX8_perform 97 = .ok (.getfield 59, 3) := by decide +kernel
theorem dX8_perform_100 : decode cX8_perform 100 = .ok (.invokevirtual 62, 3) := by decide +kernel
theorem dX8_perform_103 : decode cX8_perform 103 = .ok (.goto 9, 3) := by decide +kernel
theorem dX8_perform_106 : decode cX8_perform 106 = .ok (.aload_n 2, 1) := by decide +kernel
theorem dX8_perform_107 : decode cX8_perform 107 = .ok (.iload 4, 2) := by decide +kernel
theorem dX8_perform_109 : decode cX8_perform 109 = .ok (.invokevirtual 69, 3) := by decide +kernel
theorem dX8_perform_112 : decode cX8_perform 112 = .ok (.return_, 1) := by decide +kernel
set_option maxRecDepth 100000 in
set_option maxHeartbeats 4000000 in
theorem k_X8_perform {G : am_G} (hK : k_OK G) {d : Nat} (hd : 3 ≤ d) {sh : List (Nat ⊕ (Nat × Nat))} {I : Nat → Nat → Int32} {R : Nat → Nat → Option Nat} {L : Nat → Nat → Int64} {g : Nat} {s9 t b n : Nat} (hs : k_Story sh R s9) (ht : k_Town sh R t) (hb : k_Days sh R b) (hbt : b + 4 ≤ t ∨ t + 19 ≤ b) (hn : I t 0 = nI n) (hn8 : n ≤ 8) (x : Int32) (j : Nat) (hx : x = nI j) (hj : j < 40) (h0 : I (s9 + 9) j = 0 → vp_in (I (s9 + 11) j) 6) (h1 : I (s9 + 9) j = 1 → vp_in (I (s9 + 11) j) 8) : AM G mX8_perform d [.ref s9, .ref t, .ref b, .int x] (sh, I, R, L, g) (fun v w => v = none ∧ w = (sh, f_perf I t n b (I (s9 + 9) j) (I (s9 + 10) j) (I (s9 + 11) j), R, L, g)) (fun _ _ => False) := by
  have hG := hK.1
  have hcj : x.toNatClampNeg = j := k_lit hx (by omega)
  have hbj : vp_in x 40 := by rw [hx]; exact vp_in_nI hj (by decide)
  refine AM.of (n := 2) (by decide +kernel) (Nat.le_of_ble_eq_true rfl) ?_
  show AW G mX8_perform d (fun v w => v = none ∧ w = (sh, f_perf I t n b (I (s9 + 9) j) (I (s9 + 10) j) (I (s9 + 11) j), R, L, g)) (fun _ _ => False) 0 [some (.ref s9), some (.ref t), some (.ref b), some (.int x), none, none] [] (sh, I, R, L, g) 0 0
  refine AW.aload_n dX8_perform_0 rfl ?_
  refine AW.getR (c' := (s9 + 10)) (fX8_25 hG).r rfl (hs.1 0 _ rfl) (hs.2 (0, 3, 10) (by decide)) dX8_perform_1 ?_
  refine AW.iload_n dX8_perform_4 rfl ?_
  refine AW.iald (hs.1 10 _ rfl) (by first | assumption | exact vp_in_nI (by omega) (by decide)) dX8_perform_5 ?_
  refine AW.nam (fun x6 ex6 => ?_)
  refine AW.is [some (.ref s9), some (.ref t), some (.ref b), some (.int x), some (.int x6), none] dX8_perform_6 (by decide) rfl rfl ?_
  refine AW.aload_n dX8_perform_8 rfl ?_
  refine AW.getR (c' := (s9 + 11)) (fX8_28 hG).r rfl (hs.1 0 _ rfl) (hs.2 (0, 4, 11) (by decide)) dX8_perform_9 ?_
  refine AW.iload_n dX8_perform_12 rfl ?_
  refine AW.iald (hs.1 11 _ rfl) (by first | assumption | exact vp_in_nI (by omega) (by decide)) dX8_perform_13 ?_
  refine AW.nam (fun x14 ex14 => ?_)
  refine AW.is [some (.ref s9), some (.ref t), some (.ref b), some (.int x), some (.int x6), some (.int x14)] dX8_perform_14 (by decide) rfl rfl ?_
  refine AW.aload_n dX8_perform_16 rfl ?_
  refine AW.getR (c' := (s9 + 9)) (fX8_21 hG).r rfl (hs.1 0 _ rfl) (hs.2 (0, 2, 9) (by decide)) dX8_perform_17 ?_
  refine AW.iload_n dX8_perform_20 rfl ?_
  refine AW.iald (hs.1 9 _ rfl) (by first | assumption | exact vp_in_nI (by omega) (by decide)) dX8_perform_21 ?_
  refine AW.nam (fun x22 ex22 => ?_)
  by_cases hs22_0 : x22 = 0
  · subst hs22_0
    refine AW.tabIn 48 dX8_perform_22 (by decide) (by decide) rfl (by decide) ?_
    rw [hcj] at ex22 ex6 ex14
    have hb14 : vp_in x14 6 := by rw [ex14]; exact h0 ex22.symm
    refine AW.aload_n dX8_perform_48 rfl ?_
    refine AW.getR (c' := (b + 2)) (fX8_56 hG) rfl (hb.1 0 _ rfl) (hb.2 (0, 3, 2) (by decide)) dX8_perform_49 ?_
    refine AW.iload dX8_perform_52 rfl ?_
    refine AW.iload dX8_perform_54 rfl ?_
    refine AW.iast (hb.1 2 _ rfl) (by first | assumption | exact vp_in_nI (by omega) (by decide)) dX8_perform_56 ?_
    refine AW.namI (fun I56 eI56 => ?_)
    refine AW.goto 112 dX8_perform_57 (by decide) ?_
    exact AW.vret dX8_perform_112 rfl (by decide) (by decide) (⟨rfl, by rw [f_perf, if_pos ex22.symm, eI56, ex14, ex6]; rfl⟩)
  by_cases hs22_1 : x22 = 1
  · subst hs22_1
    refine AW.tabIn 60 dX8_perform_22 (by decide) (by decide) rfl (by decide) ?_
    rw [hcj] at ex22 ex6 ex14
    have hb14 : vp_in x14 8 := by rw [ex14]; exact h1 ex22.symm
    refine AW.aload_n dX8_perform_60 rfl ?_
    refine AW.aload_n dX8_perform_61 rfl ?_
    refine AW.iconst 1 dX8_perform_62 (by decide) ?_
    refine AW.iload dX8_perform_63 rfl ?_
    refine AW.ishl dX8_perform_65 ?_
    refine AW.iconst 1 dX8_perform_66 (by decide) ?_
    refine AW.iload dX8_perform_67 rfl ?_
    refine AW.ishl dX8_perform_69 ?_
    refine AW.ior dX8_perform_70 ?_
    refine AW.aload_n dX8_perform_71 rfl ?_
    refine AW.getI (fX8_59 hG).r rfl (hb.1 0 _ rfl) dX8_perform_72 ?_
    refine AW.callV (b := b) (As := [.ref t, .int ((1 <<< (x6 &&& 31)) ||| (1 <<< (x14 &&& 31))), .int (I b 0)]) hG.2.2 (vX8_62 hG) (hb.1 0 _ rfl) (k_X2_gather hK (d := 2) (Nat.le_refl _) hb ht (by omega) (by assumption) (by assumption) ((1 <<< (x6 &&& 31)) ||| (1 <<< (x14 &&& 31))) (I b 0)) (by omega) dX8_perform_75 rfl rfl (Nat.le_of_ble_eq_true rfl) (fun v w9 hq9 h09 => by obtain ⟨rfl, rfl⟩ := hq9; exact ⟨h09, rfl⟩) (by decide) (by decide) (fun _ _ hx => hx) (fun v75 w75 hq75 => ?_)
    obtain ⟨rfl, rfl⟩ := hq75
    refine AW.namI (fun I75 eI75 => ?_)
    show AW G mX8_perform d (fun v w => v = none ∧ w = (sh, f_perf I t n b (I (s9 + 9) j) (I (s9 + 10) j) (I (s9 + 11) j), R, L, g)) (fun _ _ => False) 78 [some (.ref s9), some (.ref t), some (.ref b), some (.int x), some (.int x6), some (.int x14)] [] (sh, I75, R, L, g) 0 0
    refine AW.aload_n dX8_perform_78 rfl ?_
    refine AW.getR (c' := (b + 3)) (fX8_66 hG) rfl (hb.1 0 _ rfl) (hb.2 (0, 4, 3) (by decide)) dX8_perform_79 ?_
    refine AW.iload dX8_perform_82 rfl ?_
    refine AW.dup2 dX8_perform_84 rfl rfl ?_
    refine AW.iald (hb.1 3 _ rfl) (by first | assumption | exact vp_in_nI (by omega) (by decide)) dX8_perform_85 ?_
    refine AW.iconst 1 dX8_perform_86 (by decide) ?_
    refine AW.iadd dX8_perform_87 ?_
    refine AW.iast (hb.1 3 _ rfl) (by first | assumption | exact vp_in_nI (by omega) (by decide)) dX8_perform_88 ?_
    refine AW.namI (fun I88 eI88 => ?_)
    refine AW.goto 112 dX8_perform_89 (by decide) ?_
    exact AW.vret dX8_perform_112 rfl (by decide) (by decide) (⟨rfl, by rw [f_perf, if_neg (by rw [← ex22]; decide), if_pos ex22.symm, eI88, eI75, ex14, ex6]; simp (disch := omega) only [am_up_uA, am_uA_s, am_uA_o, am_uA_uA, cl0, cl6, cl8, cl64, cl40, cl3, cl4, cl39, cl1]⟩)
  by_cases hs22_2 : x22 = 2
  · subst hs22_2
    refine AW.tabIn 92 dX8_perform_22 (by decide) (by decide) rfl (by decide) ?_
    rw [hcj] at ex22 ex6 ex14
    refine AW.aload_n dX8_perform_92 rfl ?_
    refine AW.aload_n dX8_perform_93 rfl ?_
    refine AW.iload dX8_perform_94 rfl ?_
    refine AW.aload_n dX8_perform_96 rfl ?_
    refine AW.getI (fX8_59 hG).r rfl (hb.1 0 _ rfl) dX8_perform_97 ?_
    refine AW.callV (b := b) (As := [.ref t, .int x6, .int (I b 0)]) hG.2.2 (vX8_62 hG) (hb.1 0 _ rfl) (k_X2_gather hK (d := 2) (Nat.le_refl _) hb ht (by omega) (by assumption) (by assumption) x6 (I b 0)) (by omega) dX8_perform_100 rfl rfl (Nat.le_of_ble_eq_true rfl) (fun v w9 hq9 h09 => by obtain ⟨rfl, rfl⟩ := hq9; exact ⟨h09, rfl⟩) (by decide) (by decide) (fun _ _ hx => hx) (fun v100 w100 hq100 => ?_)
    obtain ⟨rfl, rfl⟩ := hq100
    refine AW.namI (fun I100 eI100 => ?_)
    show AW G mX8_perform d (fun v w => v = none ∧ w = (sh, f_perf I t n b (I (s9 + 9) j) (I (s9 + 10) j) (I (s9 + 11) j), R, L, g)) (fun _ _ => False) 103 [some (.ref s9), some (.ref t), some (.ref b), some (.int x), some (.int x6), some (.int x14)] [] (sh, I100, R, L, g) 0 0
    refine AW.goto 112 dX8_perform_103 (by decide) ?_
    exact AW.vret dX8_perform_112 rfl (by decide) (by decide) (⟨rfl, by rw [f_perf, if_neg (by rw [← ex22]; decide), if_neg (by rw [← ex22]; decide), if_pos ex22.symm, eI100, ex6]⟩)
  have ht22 : x22.toInt < 0 ∨ 2 < x22.toInt := by
    have h90 : ¬ x22.toInt = 0 := fun h => hs22_0 (Int32.toInt_inj.mp (h.trans (by decide)))
    have h91 : ¬ x22.toInt = 1 := fun h => hs22_1 (Int32.toInt_inj.mp (h.trans (by decide)))
    have h92 : ¬ x22.toInt = 2 := fun h => hs22_2 (Int32.toInt_inj.mp (h.trans (by decide)))
    omega
  refine AW.tabOut 106 dX8_perform_22 ht22 (by decide) ?_
  rw [hcj] at ex22 ex6 ex14
  refine AW.aload_n dX8_perform_106 rfl ?_
  refine AW.iload dX8_perform_107 rfl ?_
  refine AW.callV (b := b) (As := [.int x6]) hG.2.2 (vX8_69 hG) (hb.1 0 _ rfl) (k_X2_pass hK (d := 1) (Nat.le_refl _) hb x6) (by omega) dX8_perform_109 rfl rfl (Nat.le_of_ble_eq_true rfl) (fun v w9 hq9 h09 => by obtain ⟨rfl, rfl⟩ := hq9; exact ⟨h09, rfl⟩) (by decide) (by decide) (fun _ _ hx => hx) (fun v109 w109 hq109 => ?_)
  obtain ⟨rfl, rfl⟩ := hq109
  refine AW.namI (fun I109 eI109 => ?_)
  show AW G mX8_perform d (fun v w => v = none ∧ w = (sh, f_perf I t n b (I (s9 + 9) j) (I (s9 + 10) j) (I (s9 + 11) j), R, L, g)) (fun _ _ => False) 112 [some (.ref s9), some (.ref t), some (.ref b), some (.int x), some (.int x6), some (.int x14)] [] (sh, I109, R, L, g) 0 0
  exact AW.vret dX8_perform_112 rfl (by decide) (by decide) (⟨rfl, by rw [f_perf, if_neg (by rw [← ex22]; exact hs22_0), if_neg (by rw [← ex22]; exact hs22_1), if_neg (by rw [← ex22]; exact hs22_2), eI109, ex6]⟩)
def f_aok (I : Nat → Nat → Int32) (s9 k : Nat) : Prop := ∀ j, j < k → (I (s9 + 9) j = 0 → vp_in (I (s9 + 11) j) 6) ∧ (I (s9 + 9) j = 1 → vp_in (I (s9 + 11) j) 8)
def f_drop (I : Nat → Nat → Int32) (t n s9 : Nat) : Nat → Nat → Int32 := am_uA (am_uA (am_uA (am_uA (f_perf I t n (s9 + 1) (I (s9 + 9) 0) (I (s9 + 10) 0) (I (s9 + 11) 0)) (s9 + 9) (va_cpy (I (s9 + 9)) (I (s9 + 9)) 1 0 39)) (s9 + 10) (va_cpy (I (s9 + 10)) (I (s9 + 10)) 1 0 39)) (s9 + 11) (va_cpy (I (s9 + 11)) (I (s9 + 11)) 1 0 39)) s9 (upd (I s9) 5 39)
def f_act (I : Nat → Nat → Int32) (t n s9 k : Nat) (kd fi se : Int32) : Nat → Nat → Int32 := am_uA (f_perf (am_uA (am_uA (am_uA I (s9 + 9) (upd (I (s9 + 9)) k kd)) (s9 + 10) (upd (I (s9 + 10)) k fi)) (s9 + 11) (upd (I (s9 + 11)) k se)) t n (s9 + 5) kd fi se) s9 (upd (I s9) 5 (nI (k + 1)))
theorem f_drop_o (I : Nat → Nat → Int32) (t n s9 : Nat) {a : Nat} (h : a < s9 ∨ s9 + 12 ≤ a) : f_drop I t n s9 a = I a := by
  unfold f_drop
  rw [am_uA_o _ _ _ (by omega), am_uA_o _ _ _ (by omega), am_uA_o _ _ _ (by omega), am_uA_o _ _ _ (by omega), f_perf_o _ _ _ _ _ _ _ (by omega)]
theorem f_drop_s (I : Nat → Nat → Int32) (t n s9 : Nat) : f_drop I t n s9 s9 = upd (I s9) 5 39 := by unfold f_drop; rw [am_uA_s]
theorem dX8_dropOldest_0 : decode cX8_dropOldest 0 = .ok (.aload_n 0, 1) := by decide +kernel
theorem dX8_dropOldest_1 : decode cX8_dropOldest 1 = .ok (.aload_n 1, 1) := by decide +kernel
theorem dX8_dropOldest_2 : decode cX8_dropOldest 2 = .ok (.aload_n 0, 1) := by decide +kernel
theorem dX8_dropOldest_3 : decode cX8_dropOldest 3 = .ok (.getfield 12, 3) := by decide +kernel
theorem dX8_dropOldest_6 : decode cX8_dropOldest 6 = .ok (.iconst 0, 1) := by decide +kernel
theorem dX8_dropOldest_7 : decode cX8_dropOldest 7 = .ok (.invokevirtual 52, 3) := by decide +kernel
theorem dX8_dropOldest_10 : decode cX8_dropOldest 10 = .ok (.aload_n 0, 1) := by decide +kernel
theorem dX8_dropOldest_11 : decode cX8_dropOldest 11 = .ok (.getfield 21, 3) := by decide +kernel
theorem dX8_dropOldest_14 : decode cX8_dropOldest 14 = .ok (.iconst 1, 1) := by decide +kernel
theorem dX8_dropOldest_15 : decode cX8_dropOldest 15 = .ok (.aload_n 0, 1) := by decide +kernel
theorem dX8_dropOldest_16 : decode cX8_dropOldest 16 = .ok (.getfield 21, 3) := by decide +kernel
theorem dX8_dropOldest_19 : decode cX8_dropOldest 19 = .ok (.iconst 0, 1) := by decide +kernel
theorem dX8_dropOldest_20 : decode cX8_dropOldest 20 = .ok (.bipush 39, 2) := by decide +kernel
theorem dX8_dropOldest_22 : decode cX8_dropOldest 22 = .ok (.invokestatic 43, 3) := by decide +kernel
theorem dX8_dropOldest_25 : decode cX8_dropOldest 25 = .ok (.aload_n 0, 1) := by decide +kernel
theorem dX8_dropOldest_26 : decode cX8_dropOldest 26 = .ok (.getfield 25, 3) := by decide +kernel
theorem dX8_dropOldest_29 : decode cX8_dropOldest 29 = .ok (.iconst 1, 1) := by decide +kernel
theorem dX8_dropOldest_30 : decode cX8_dropOldest 30 = .ok (.aload_n 0, 1) := by decide +kernel
theorem dX8_dropOldest_31 : decode cX8_dropOldest 31 = .ok (.getfield 25, 3) := by decide +kernel
theorem dX8_dropOldest_34 : decode cX8_dropOldest 34 = .ok (.iconst 0, 1) := by decide +kernel
theorem dX8_dropOldest_35 : decode cX8_dropOldest 35 = .ok (.bipush 39, 2) := by decide +kernel
theorem dX8_dropOldest_37 : decode cX8_dropOldest 37 = .ok (.invokestatic 43, 3) := by decide +kernel
theorem dX8_dropOldest_40 : decode cX8_dropOldest 40 = .ok (.aload_n 0, 1) := by decide +kernel
theorem dX8_dropOldest_41 : decode cX8_dropOldest 41 = .ok (.getfield 28, 3) := by decide +kernel
theorem dX8_dropOldest_44 : decode cX8_dropOldest 44 = .ok (.iconst 1, 1) := by decide +kernel
theorem dX8_dropOldest_45 : decode cX8_dropOldest 45 = .ok (.aload_n 0, 1) := by decide +kernel
theorem dX8_dropOldest_46 : decode cX8_dropOldest 46 = .ok (.getfield 28, 3) := by decide +kernel
theorem dX8_dropOldest_49 : decode cX8_dropOldest 49 = .ok (.iconst 0, 1) := by decide +kernel
theorem dX8_dropOldest_50 : decode cX8_dropOldest 50 = .ok (.bipush 39, 2) := by decide +kernel
theorem dX8_dropOldest_52 : decode cX8_dropOldest 52 = .ok (.invokestatic 43, 3) := by decide +kernel
theorem dX8_dropOldest_55 : decode cX8_dropOldest 55 = .ok (.aload_n 0, 1) := by decide +kernel
theorem dX8_dropOldest_56 : decode cX8_dropOldest 56 = .ok (.bipush 39, 2) := by decide +kernel
theorem dX8_dropOldest_58 : decode cX8_dropOldest 58 = .ok (.putfield 39, 3) := by decide +kernel
theorem dX8_dropOldest_61 : decode cX8_dropOldest 61 = .ok (.return_, 1) := by decide +kernel
set_option maxRecDepth 100000 in
set_option maxHeartbeats 4000000 in
theorem k_X8_dropOldest {G : am_G} (hK : k_OK G) {d : Nat} (hd : 4 ≤ d) {sh : List (Nat ⊕ (Nat × Nat))} {I : Nat → Nat → Int32} {R : Nat → Nat → Option Nat} {L : Nat → Nat → Int64} {g : Nat} {s9 t n : Nat} (hs : k_Story sh R s9) (ht : k_Town sh R t) (hst : s9 + 12 ≤ t ∨ t + 19 ≤ s9) (hn : I t 0 = nI n) (hn8 : n ≤ 8) (hok : f_aok I s9 1) : AM G mX8_dropOldest d [.ref s9, .ref t] (sh, I, R, L, g) (fun v w => v = none ∧ w = (sh, f_drop I t n s9, R, L, g)) (fun _ _ => False) := by
  have hG := hK.1
  refine AM.of (n := 0) (by decide +kernel) (Nat.le_of_ble_eq_true rfl) ?_
  show AW G mX8_dropOldest d (fun v w => v = none ∧ w = (sh, f_drop I t n s9, R, L, g)) (fun _ _ => False) 0 [some (.ref s9), some (.ref t)] [] (sh, I, R, L, g) 0 0
  refine AW.aload_n dX8_dropOldest_0 rfl ?_
  refine AW.aload_n dX8_dropOldest_1 rfl ?_
  refine AW.aload_n dX8_dropOldest_2 rfl ?_
  refine AW.getR (c' := (s9 + 1)) (fX8_12 hG).r rfl (hs.1 0 _ rfl) (hs.2 (0, 0, 1) (by decide)) dX8_dropOldest_3 ?_
  refine AW.iconst 0 dX8_dropOldest_6 (by decide) ?_
  refine AW.callV (b := s9) (As := [.ref t, .ref (s9 + 1), .int 0]) hG.2.2 (vX8_52 hG) (hs.1 0 _ rfl) (k_X8_perform hK (d := 3) (Nat.le_refl _) hs ht (k_sub_Story_1 hs) (by omega) (by assumption) (by assumption) 0 0 nI_0.symm (by decide) (hok 0 (by decide)).1 (hok 0 (by decide)).2) (by omega) dX8_dropOldest_7 rfl rfl (Nat.le_of_ble_eq_true rfl) (fun v w9 hq9 h09 => by obtain ⟨rfl, rfl⟩ := hq9; exact ⟨h09, rfl⟩) (by decide) (by decide) (fun _ _ hx => hx) (fun v7 w7 hq7 => ?_)
  obtain ⟨rfl, rfl⟩ := hq7
  refine AW.namI (fun I7 eI7 => ?_)
  show AW G mX8_dropOldest d (fun v w => v = none ∧ w = (sh, f_drop I t n s9, R, L, g)) (fun _ _ => False) 10 [some (.ref s9), some (.ref t)] [] (sh, I7, R, L, g) 0 0
  refine AW.aload_n dX8_dropOldest_10 rfl ?_
  refine AW.getR (c' := (s9 + 9)) (fX8_21 hG).r rfl (hs.1 0 _ rfl) (hs.2 (0, 2, 9) (by decide)) dX8_dropOldest_11 ?_
  refine AW.iconst 1 dX8_dropOldest_14 (by decide) ?_
  refine AW.aload_n dX8_dropOldest_15 rfl ?_
  refine AW.getR (c' := (s9 + 9)) (fX8_21 hG).r rfl (hs.1 0 _ rfl) (hs.2 (0, 2, 9) (by decide)) dX8_dropOldest_16 ?_
  refine AW.iconst 0 dX8_dropOldest_19 (by decide) ?_
  refine AW.bipush 39 dX8_dropOldest_20 (by decide) ?_
  refine AW.copy (k_c hG 678 (by decide +kernel) (by decide +kernel)) (k_copy hG) dX8_dropOldest_22 (by omega) (Nat.le_of_ble_eq_true rfl) (hs.1 9 _ rfl) (hs.1 9 _ rfl) (by decide) (by decide) (by decide) (by decide) (by decide) ?_
  refine AW.namI (fun I22 eI22 => ?_)
  refine AW.aload_n dX8_dropOldest_25 rfl ?_
  refine AW.getR (c' := (s9 + 10)) (fX8_25 hG).r rfl (hs.1 0 _ rfl) (hs.2 (0, 3, 10) (by decide)) dX8_dropOldest_26 ?_
  refine AW.iconst 1 dX8_dropOldest_29 (by decide) ?_
  refine AW.aload_n dX8_dropOldest_30 rfl ?_
  refine AW.getR (c' := (s9 + 10)) (fX8_25 hG).r rfl (hs.1 0 _ rfl) (hs.2 (0, 3, 10) (by decide)) dX8_dropOldest_31 ?_
  refine AW.iconst 0 dX8_dropOldest_34 (by decide) ?_
  refine AW.bipush 39 dX8_dropOldest_35 (by decide) ?_
  refine AW.copy (k_c hG 678 (by decide +kernel) (by decide +kernel)) (k_copy hG) dX8_dropOldest_37 (by omega) (Nat.le_of_ble_eq_true rfl) (hs.1 10 _ rfl) (hs.1 10 _ rfl) (by decide) (by decide) (by decide) (by decide) (by decide) ?_
  refine AW.namI (fun I37 eI37 => ?_)
  refine AW.aload_n dX8_dropOldest_40 rfl ?_
  refine AW.getR (c' := (s9 + 11)) (fX8_28 hG).r rfl (hs.1 0 _ rfl) (hs.2 (0, 4, 11) (by decide)) dX8_dropOldest_41 ?_
  refine AW.iconst 1 dX8_dropOldest_44 (by decide) ?_
  refine AW.aload_n dX8_dropOldest_45 rfl ?_
  refine AW.getR (c' := (s9 + 11)) (fX8_28 hG).r rfl (hs.1 0 _ rfl) (hs.2 (0, 4, 11) (by decide)) dX8_dropOldest_46 ?_
  refine AW.iconst 0 dX8_dropOldest_49 (by decide) ?_
  refine AW.bipush 39 dX8_dropOldest_50 (by decide) ?_
  refine AW.copy (k_c hG 678 (by decide +kernel) (by decide +kernel)) (k_copy hG) dX8_dropOldest_52 (by omega) (Nat.le_of_ble_eq_true rfl) (hs.1 11 _ rfl) (hs.1 11 _ rfl) (by decide) (by decide) (by decide) (by decide) (by decide) ?_
  refine AW.namI (fun I52 eI52 => ?_)
  refine AW.aload_n dX8_dropOldest_55 rfl ?_
  refine AW.bipush 39 dX8_dropOldest_56 (by decide) ?_
  refine AW.putI (fX8_39 hG) rfl (vp_nar_int _) rfl (hs.1 0 _ rfl) dX8_dropOldest_58 ?_
  refine AW.namI (fun I58 eI58 => ?_)
  exact AW.vret dX8_dropOldest_61 rfl (by decide) (by decide) (⟨rfl, by subst eI58; subst eI52; subst eI37; subst eI22; subst eI7; simp (disch := omega) only [f_perf_o, am_up_uA, am_uA_s, am_uA_o, am_uA_uA, cl0, cl1, cl39]; rfl⟩)
theorem dX8_act_0 : decode cX8_act 0 = .ok (.aload_n 0, 1) := by decide +kernel
theorem dX8_act_1 : decode cX8_act 1 = .ok (.getfield 39, 3) := by decide +kernel
theorem dX8_act_4 : decode cX8_act 4 = .ok (.bipush 40, 2) := by decide +kernel
theorem dX8_act_6 : decode cX8_act 6 = .ok (.if_icmp .lt 8, 3) := by decide +kernel
theorem dX8_act_9 : decode cX8_act 9 = .ok (.aload_n 0, 1) := by decide +kernel
theorem dX8_act_10 : decode cX8_act 10 = .ok (.aload_n 1, 1) := by decide +kernel
theorem dX8_act_11 : decode cX8_act 11 = .ok (.invokevirtual 49, 3) := by decide +kernel
theorem dX8_act_14 : decode cX8_act 14 = .ok (.aload_n 0, 1) := by decide +kernel
theorem dX8_act_15 : decode cX8_act 15 = .ok (.getfield 21, 3) := by decide +kernel
theorem dX8_act_18 : decode cX8_act 18 = .ok (.aload_n 0, 1) := by decide +kernel
theorem dX8_act_19 : decode cX8_act 19 = .ok (.getfield 39, 3) := by decide +kernel
theorem dX8_act_22 : decode cX8_act 22 = .ok (.iload_n 2, 1) := by decide +kernel
theorem dX8_act_23 : decode cX8_act 23 = .ok (.iastore, 1) := by decide +kernel
theorem dX8_act_24 : decode cX8_act 24 = .ok (.aload_n 0, 1) := by decide +kernel
theorem dX8_act_25 : decode cX8_act 25 = .ok (.getfield 25, 3) := by decide +kernel
theorem dX8_act_28 : decode cX8_act 28 = .ok (.aload_n 0, 1) := by decide +kernel
theorem dX8_act_29 : decode cX8_act 29 = .ok (.getfield 39, 3) := by decide +kernel
theorem dX8_act_32 : decode cX8_act 32 = .ok (.iload_n 3, 1) := by decide +kernel
theorem dX8_act_33 : decode cX8_act 33 = .ok (.iastore, 1) := by decide +kernel
theorem dX8_act_34 : decode cX8_act 34 = .ok (.aload_n 0, 1) := by decide +kernel
theorem dX8_act_35 : decode cX8_act 35 = .ok (.getfield 28, 3) := by decide +kernel
theorem dX8_act_38 : decode cX8_act 38 = .ok (.aload_n 0, 1) := by decide +kernel
theorem dX8_act_39 : decode cX8_act 39 = .ok (.getfield 39, 3) := by decide +kernel
theorem dX8_act_42 : decode cX8_act 42 = .ok (.iload 4, 2) := by decide +kernel
theorem dX8_act_44 : decode cX8_act 44 = .ok (.iastore, 1) := by decide +kernel
theorem dX8_act_45 : decode cX8_act 45 = .ok (.aload_n 0, 1) := by decide +kernel
theorem dX8_act_46 : decode cX8_act 46 = .ok (.aload_n 1, 1) := by decide +kernel
theorem dX8_act_47 : decode cX8_act 47 = .ok (.aload_n 0, 1) := by decide +kernel
theorem dX8_act_48 : decode cX8_act 48 = .ok (.getfield 18, 3) := by decide +kernel
theorem dX8_act_51 : decode cX8_act 51 = .ok (.aload_n 0, 1) := by decide +kernel
theorem dX8_act_52 : decode cX8_act 52 = .ok (.getfield 39, 3) := by decide +kernel
theorem dX8_act_55 : decode cX8_act 55 = .ok (.invokevirtual 52, 3) := by decide +kernel
theorem dX8_act_58 : decode cX8_act 58 = .ok (.aload_n 0, 1) := by decide +kernel
theorem dX8_act_59 : decode cX8_act 59 = .ok (.dup, 1) := by decide +kernel
theorem dX8_act_60 : decode cX8_act 60 = .ok (.getfield 39, 3) := by decide +kernel
theorem dX8_act_63 : decode cX8_act 63 = .ok (.iconst 1, 1) := by decide +kernel
theorem dX8_act_64 : decode cX8_act 64 = .ok (.iadd, 1) := by decide +kernel
theorem dX8_act_65 : decode cX8_act 65 = .ok (.putfield 39, 3) := by decide +kernel
theorem dX8_act_68 : decode cX8_act 68 = .ok (.return_, 1) := by decide +kernel
set_option maxRecDepth 100000 in
set_option maxHeartbeats 4000000 in
theorem k_X8_act {G : am_G} (hK : k_OK G) {d : Nat} (hd : 5 ≤ d) {sh : List (Nat ⊕ (Nat × Nat))} {I : Nat → Nat → Int32} {R : Nat → Nat → Option Nat} {L : Nat → Nat → Int64} {g : Nat} {s9 t n : Nat} (hs : k_Story sh R s9) (ht : k_Town sh R t) (hst : s9 + 12 ≤ t ∨ t + 19 ≤ s9) (hn : I t 0 = nI n) (hn8 : n ≤ 8) (k : Nat) (hk : I s9 5 = nI k) (hk40 : k ≤ 40) (hok : f_aok I s9 k) (kd fi se : Int32) (h0 : kd = 0 → vp_in se 6) (h1 : kd = 1 → vp_in se 8) : AM G mX8_act d [.ref s9, .ref t, .int kd, .int fi, .int se] (sh, I, R, L, g) (fun v w => v = none ∧ w = (sh, (if k = 40 then f_act (f_drop I t n s9) t n s9 39 kd fi se else f_act I t n s9 k kd fi se), R, L, g)) (fun _ _ => False) := by
  have hG := hK.1
  refine AM.of (n := 0) (by decide +kernel) (Nat.le_of_ble_eq_true rfl) ?_
  show AW G mX8_act d (fun v w => v = none ∧ w = (sh, (if k = 40 then f_act (f_drop I t n s9) t n s9 39 kd fi se else f_act I t n s9 k kd fi se), R, L, g)) (fun _ _ => False) 0 [some (.ref s9), some (.ref t), some (.int kd), some (.int fi), some (.int se)] [] (sh, I, R, L, g) 0 0
  have J14 : ∀ (J : Nat → Nat → Int32) (q : Nat), (q < 40 ∧ J s9 5 = nI q ∧ J t 0 = nI n ∧ (if k = 40 then f_act (f_drop I t n s9) t n s9 39 kd fi se else f_act I t n s9 k kd fi se) = f_act J t n s9 q kd fi se) → AW G mX8_act d (fun v w => v = none ∧ w = (sh, (if k = 40 then f_act (f_drop I t n s9) t n s9 39 kd fi se else f_act I t n s9 k kd fi se), R, L, g)) (fun _ _ => False) 14 [some (.ref s9), some (.ref t), some (.int kd), some (.int fi), some (.int se)] [] (sh, J, R, L, g) 0 0 := by
    intro J q hj
    obtain ⟨hq, hJk, hJn, hJe⟩ := hj
    have hcq := k_lit hJk (by omega)
    have hbq : vp_in (J s9 5) 40 := by rw [hJk]; exact vp_in_nI hq (by decide)
    refine AW.aload_n dX8_act_14 rfl ?_
    refine AW.getR (c' := (s9 + 9)) (fX8_21 hG).r rfl (hs.1 0 _ rfl) (hs.2 (0, 2, 9) (by decide)) dX8_act_15 ?_
    refine AW.aload_n dX8_act_18 rfl ?_
    refine AW.getI (fX8_39 hG).r rfl (hs.1 0 _ rfl) dX8_act_19 ?_
    refine AW.iload_n dX8_act_22 rfl ?_
    refine AW.iast (hs.1 9 _ rfl) (by first | assumption | exact vp_in_nI (by omega) (by decide)) dX8_act_23 ?_
    refine AW.namI (fun I23 eI23 => ?_)
    refine AW.aload_n dX8_act_24 rfl ?_
    refine AW.getR (c' := (s9 + 10)) (fX8_25 hG).r rfl (hs.1 0 _ rfl) (hs.2 (0, 3, 10) (by decide)) dX8_act_25 ?_
    refine AW.aload_n dX8_act_28 rfl ?_
    refine AW.getI (fX8_39 hG).r rfl (hs.1 0 _ rfl) dX8_act_29 ?_
    refine AW.iload_n dX8_act_32 rfl ?_
    refine AW.iast (hs.1 10 _ rfl) (by rw [eI23, am_up_o _ _ _ _ (by omega)]; exact hbq) dX8_act_33 ?_
    refine AW.namI (fun I33 eI33 => ?_)
    refine AW.aload_n dX8_act_34 rfl ?_
    refine AW.getR (c' := (s9 + 11)) (fX8_28 hG).r rfl (hs.1 0 _ rfl) (hs.2 (0, 4, 11) (by decide)) dX8_act_35 ?_
    refine AW.aload_n dX8_act_38 rfl ?_
    refine AW.getI (fX8_39 hG).r rfl (hs.1 0 _ rfl) dX8_act_39 ?_
    refine AW.iload dX8_act_42 rfl ?_
    refine AW.iast (hs.1 11 _ rfl) (by rw [eI33, am_up_o _ _ _ _ (by omega), eI23, am_up_o _ _ _ _ (by omega)]; exact hbq) dX8_act_44 ?_
    refine AW.namI (fun I44 eI44 => ?_)
    have e9 : I44 s9 = J s9 := by rw [eI44, am_up_o _ _ _ _ (by omega), eI33, am_up_o _ _ _ _ (by omega), eI23, am_up_o _ _ _ _ (by omega)]
    have hk44 : I44 s9 5 = nI q := by rw [e9]; exact hJk
    have hn44 : I44 t 0 = nI n := by rw [eI44, am_up_o _ _ _ _ (by omega), eI33, am_up_o _ _ _ _ (by omega), eI23, am_up_o _ _ _ _ (by omega)]; exact hJn
    have e44 : I44 = am_uA (am_uA (am_uA J (s9 + 9) (upd (J (s9 + 9)) q kd)) (s9 + 10) (upd (J (s9 + 10)) q fi)) (s9 + 11) (upd (J (s9 + 11)) q se) := by
      rw [eI44, eI33, eI23]
      simp (disch := omega) only [am_up_uA, am_uA_s, am_uA_o, am_uA_uA, hcq]
    have e1 : I44 (s9 + 9) q = kd := by rw [e44, am_uA_o _ _ _ (by omega), am_uA_o _ _ _ (by omega), am_uA_s]; exact pk_us
    have e2 : I44 (s9 + 10) q = fi := by rw [e44, am_uA_o _ _ _ (by omega), am_uA_s]; exact pk_us
    have e3 : I44 (s9 + 11) q = se := by rw [e44, am_uA_s]; exact pk_us
    refine AW.aload_n dX8_act_45 rfl ?_
    refine AW.aload_n dX8_act_46 rfl ?_
    refine AW.aload_n dX8_act_47 rfl ?_
    refine AW.getR (c' := (s9 + 5)) (fX8_18 hG).r rfl (hs.1 0 _ rfl) (hs.2 (0, 1, 5) (by decide)) dX8_act_48 ?_
    refine AW.aload_n dX8_act_51 rfl ?_
    refine AW.getI (fX8_39 hG).r rfl (hs.1 0 _ rfl) dX8_act_52 ?_
    refine AW.callV (b := s9) (As := [.ref t, .ref (s9 + 5), .int (I44 s9 5)]) hG.2.2 (vX8_52 hG) (hs.1 0 _ rfl) (k_X8_perform hK (d := 3) (Nat.le_refl _) hs ht (k_sub_Story_5 hs) (by omega) (by assumption) (by assumption) (I44 s9 5) q hk44 hq (by rw [e1, e3]; exact h0) (by rw [e1, e3]; exact h1)) (by omega) dX8_act_55 rfl rfl (Nat.le_of_ble_eq_true rfl) (fun v w9 hq9 h09 => by obtain ⟨rfl, rfl⟩ := hq9; exact ⟨h09, rfl⟩) (by decide) (by decide) (fun _ _ hx => hx) (fun v55 w55 hq55 => ?_)
    obtain ⟨rfl, rfl⟩ := hq55
    refine AW.namI (fun I55 eI55 => ?_)
    show AW G mX8_act d (fun v w => v = none ∧ w = (sh, (if k = 40 then f_act (f_drop I t n s9) t n s9 39 kd fi se else f_act I t n s9 k kd fi se), R, L, g)) (fun _ _ => False) 58 [some (.ref s9), some (.ref t), some (.int kd), some (.int fi), some (.int se)] [] (sh, I55, R, L, g) 0 0
    refine AW.aload_n dX8_act_58 rfl ?_
    refine AW.dup dX8_act_59 rfl ?_
    refine AW.getI (fX8_39 hG).r rfl (hs.1 0 _ rfl) dX8_act_60 ?_
    refine AW.iconst 1 dX8_act_63 (by decide) ?_
    refine AW.iadd dX8_act_64 ?_
    refine AW.putI (fX8_39 hG) rfl (vp_nar_int _) rfl (hs.1 0 _ rfl) dX8_act_65 ?_
    refine AW.namI (fun I65 eI65 => ?_)
    exact AW.vret dX8_act_68 rfl (by decide) (by decide) (⟨rfl, by rw [hJe, eI65, am_up_uA, eI55, e1, e2, e3, f_perf_o _ _ _ _ _ _ _ (by omega), e9, hJk, e44]; show (sh, am_uA _ s9 (upd (J s9) 5 (nI q + 1)), R, L, g) = _; rw [nI_1]; rfl⟩)
  refine AW.aload_n dX8_act_0 rfl ?_
  refine AW.getI (fX8_39 hG).r rfl (hs.1 0 _ rfl) dX8_act_1 ?_
  refine AW.bipush 40 dX8_act_4 (by decide) ?_
  refine AW.icmp_lt 14 dX8_act_6 (by decide) (fun h6 => ?_) (fun h6 => ?_)
  · exact J14 _ k ⟨by have := (nI_ltl hk rfl (by omega) (by decide) (m := 40)).mp h6; omega, hk, hn, if_neg (by have := (nI_ltl hk rfl (by omega) (by decide) (m := 40)).mp h6; omega)⟩
  · have hk9 : k = 40 := by
      rcases Nat.lt_or_ge k 40 with h | h
      · exact absurd ((nI_ltl hk rfl (by omega) (by decide) (m := 40)).mpr h) h6
      · omega
    have hok1 : f_aok I s9 1 := fun j hj => hok j (by omega)
    refine AW.aload_n dX8_act_9 rfl ?_
    refine AW.aload_n dX8_act_10 rfl ?_
    refine AW.callV (b := s9) (As := [.ref t]) hG.2.2 (vX8_49 hG) (hs.1 0 _ rfl) (k_X8_dropOldest hK (d := 4) (Nat.le_refl _) hs ht (by omega) (by assumption) (by assumption) (by assumption)) (by omega) dX8_act_11 rfl rfl (Nat.le_of_ble_eq_true rfl) (fun v w9 hq9 h09 => by obtain ⟨rfl, rfl⟩ := hq9; exact ⟨h09, rfl⟩) (by decide) (by decide) (fun _ _ hx => hx) (fun v11 w11 hq11 => ?_)
    obtain ⟨rfl, rfl⟩ := hq11
    refine AW.namI (fun I11 eI11 => ?_)
    show AW G mX8_act d (fun v w => v = none ∧ w = (sh, (if k = 40 then f_act (f_drop I t n s9) t n s9 39 kd fi se else f_act I t n s9 k kd fi se), R, L, g)) (fun _ _ => False) 14 [some (.ref s9), some (.ref t), some (.int kd), some (.int fi), some (.int se)] [] (sh, I11, R, L, g) 0 0
    exact J14 _ 39 ⟨by decide, by rw [eI11, f_drop_s]; rfl, by rw [eI11, f_drop_o _ _ _ _ (by omega)]; exact hn, by rw [eI11, if_pos hk9]⟩
/-- the acts ahead of k lived through again, on the Days at s9 + 5 -/
def f_rep (I : Nat → Nat → Int32) (t n s9 : Nat) (kd fi se : Nat → Int32) (k : Nat) : Nat → Nat → Int32 := lfold (fun j J => f_perf J t n (s9 + 5) (kd j) (fi j) (se j)) I k
theorem f_rep_o (I : Nat → Nat → Int32) (t n s9 : Nat) (kd fi se : Nat → Int32) (k : Nat) {a : Nat} (h : a < s9 + 5 ∨ s9 + 9 ≤ a) : f_rep I t n s9 kd fi se k a = I a := by
  induction k with
  | zero => rfl
  | succ k ih => exact (f_perf_o _ _ _ _ _ _ _ (by omega)).trans ih
theorem f_dcp_o (I : Nat → Nat → Int32) (b o : Nat) {a : Nat} (h : a < b ∨ b + 4 ≤ a) : f_dcp I b o a = I a := by
  unfold f_dcp
  rw [am_uA_o _ _ _ (by omega), am_uA_o _ _ _ (by omega), am_uA_o _ _ _ (by omega), am_uA_o _ _ _ (by omega)]
def f_tb (I : Nat → Nat → Int32) (t n s9 k : Nat) : Nat → Nat → Int32 := f_rep (f_dcp (am_uA I s9 (upd (I s9) 5 (nI k))) (s9 + 5) (s9 + 1)) t n s9 (I (s9 + 9)) (I (s9 + 10)) (I (s9 + 11)) k
theorem dX8_takeBack_0 : decode cX8_takeBack 0 = .ok (.aload_n 0, 1) := by decide +kernel
theorem dX8_takeBack_1 : decode cX8_takeBack 1 = .ok (.getfield 39, 3) := by decide +kernel
theorem dX8_takeBack_4 : decode cX8_takeBack 4 = .ok (.ifCond .ne 5, 3) := by decide +kernel
theorem dX8_takeBack_7 : decode cX8_takeBack 7 = .ok (.iconst (-1), 1) := by decide +kernel
theorem dX8_takeBack_8 : decode cX8_takeBack 8 = .ok (.ireturn, 1) := by decide +kernel
theorem dX8_takeBack_9 : decode cX8_takeBack 9 = .ok (.aload_n 0, 1) := by decide +kernel
theorem dX8_takeBack_10 : decode cX8_takeBack 10 = .ok (.dup, 1) := by decide +kernel
theorem dX8_takeBack_11 : decode cX8_takeBack 11 = .ok (.getfield 39, 3) := by decide +kernel
theorem dX8_takeBack_14 : decode cX8_takeBack 14 = .ok (.iconst 1, 1) := by decide +kernel
theorem dX8_takeBack_15 : decode cX8_takeBack 15 = .ok (.isub, 1) := by decide +kernel
theorem dX8_takeBack_16 : decode cX8_takeBack 16 = .ok (.putfield 39, 3) := by decide +kernel
theorem dX8_takeBack_19 : decode cX8_takeBack 19 = .ok (.aload_n 0, 1) := by decide +kernel
theorem dX8_takeBack_20 : decode cX8_takeBack 20 = .ok (.getfield 18, 3) := by decide +kernel
theorem dX8_takeBack_23 : decode cX8_takeBack 23 = .ok (.aload_n 0, 1) := by decide +kernel
theorem dX8_takeBack_24 : decode cX8_takeBack 24 = .ok (.getfield 12, 3) := by decide +kernel
theorem dX8_takeBack_27 : decode cX8_takeBack 27 = .ok (.invokevirtual 35, 3) := by decide +kernel
theorem dX8_takeBack_30 : decode cX8_takeBack 30 = .ok (.iconst 0, 1) := by decide +kernel
theorem dX8_takeBack_31 : decode cX8_takeBack 31 = .ok (.istore_n 2, 1) := by decide +kernel
theorem dX8_takeBack_32 : decode cX8_takeBack 32 = .ok (.iload_n 2, 1) := by decide +kernel
theorem dX8_takeBack_33 : decode cX8_takeBack 33 = .ok (.aload_n 0, 1) := by decide +kernel
theorem dX8_takeBack_34 : decode cX8_takeBack 34 = .ok (.getfield 39, 3) := by decide +kernel
theorem dX8_takeBack_37 : decode cX8_takeBack 37 = .ok (.if_icmp .ge 19, 3) := by decide +kernel
theorem dX8_takeBack_40 : decode cX8_takeBack 40 = .ok (.aload_n 0, 1) := by decide +kernel
theorem dX8_takeBack_41 : decode cX8_takeBack 41 = .ok (.aload_n 1, 1) := by decide +kernel
theorem dX8_takeBack_42 : decode cX8_takeBack 42 = .ok (.aload_n 0, 1) := by decide +kernel
theorem dX8_takeBack_43 : decode cX8_takeBack 43 = .ok (.getfield 18, 3) := by decide +kernel
theorem dX8_takeBack_46 : decode cX8_takeBack 46 = .ok (.iload_n 2, 1) := by decide +kernel
theorem dX8_takeBack_47 : decode cX8_takeBack 47 = .ok (.invokevirtual 52, 3) := by decide +kernel
theorem dX8_takeBack_50 : decode cX8_takeBack 50 = .ok (.iinc 2 1, 3) := by decide +kernel
theorem dX8_takeBack_53 : decode cX8_takeBack 53 = .ok (.goto (-21), 3) := by decide +kernel
theorem dX8_takeBack_56 : decode cX8_takeBack 56 = .ok (.aload_n 0, 1) := by decide +kernel
theorem dX8_takeBack_57 : decode cX8_takeBack 57 = .ok (.getfield 39, 3) := by decide +kernel
theorem dX8_takeBack_60 : decode cX8_takeBack 60 = .ok (.ireturn, 1) := by decide +kernel
set_option maxRecDepth 100000 in
set_option maxHeartbeats 4000000 in
theorem k_X8_takeBack {G : am_G} (hK : k_OK G) {d : Nat} (hd : 4 ≤ d) {sh : List (Nat ⊕ (Nat × Nat))} {I : Nat → Nat → Int32} {R : Nat → Nat → Option Nat} {L : Nat → Nat → Int64} {g : Nat} {s9 t n : Nat} (hs : k_Story sh R s9) (ht : k_Town sh R t) (hst : s9 + 12 ≤ t ∨ t + 19 ≤ s9) (hn : I t 0 = nI n) (hn8 : n ≤ 8) (k : Nat) (hk : I s9 5 = nI k) (hk40 : k ≤ 40) (hok : f_aok I s9 k) : AM G mX8_takeBack d [.ref s9, .ref t] (sh, I, R, L, g) (fun v w => v = some (.int (if k = 0 then -1 else nI (k - 1))) ∧ w = (sh, if k = 0 then I else f_tb I t n s9 (k - 1), R, L, g)) (fun _ _ => False) := by
  have hG := hK.1
  refine AM.of (n := 1) (by decide +kernel) (Nat.le_of_ble_eq_true rfl) ?_
  show AW G mX8_takeBack d (fun v w => v = some (.int (if k = 0 then -1 else nI (k - 1))) ∧ w = (sh, if k = 0 then I else f_tb I t n s9 (k - 1), R, L, g)) (fun _ _ => False) 0 [some (.ref s9), some (.ref t), none] [] (sh, I, R, L, g) 0 0
  refine AW.aload_n dX8_takeBack_0 rfl ?_
  refine AW.getI (fX8_39 hG).r rfl (hs.1 0 _ rfl) dX8_takeBack_1 ?_
  refine AW.if_ne 9 dX8_takeBack_4 (by decide) (fun h4 => ?_) (fun h4 => ?_)
  · have hk0 : 0 < k := by
      rcases Nat.eq_zero_or_pos k with h | h
      · exact absurd (by rw [hk, h]; rfl) h4
      · exact h
    have hm : I s9 5 - 1 = nI (k - 1) := by rw [hk, show k = k - 1 + 1 by omega]; exact nI_pred _
    refine AW.aload_n dX8_takeBack_9 rfl ?_
    refine AW.dup dX8_takeBack_10 rfl ?_
    refine AW.getI (fX8_39 hG).r rfl (hs.1 0 _ rfl) dX8_takeBack_11 ?_
    refine AW.iconst 1 dX8_takeBack_14 (by decide) ?_
    refine AW.isub dX8_takeBack_15 ?_
    refine AW.putI (fX8_39 hG) rfl (vp_nar_int _) rfl (hs.1 0 _ rfl) dX8_takeBack_16 ?_
    refine AW.namI (fun I16 eI16 => ?_)
    have e16 : I16 = am_uA I s9 (upd (I s9) 5 (nI (k - 1))) := by rw [eI16, am_up_uA, hm]
    refine AW.aload_n dX8_takeBack_19 rfl ?_
    refine AW.getR (c' := (s9 + 5)) (fX8_18 hG).r rfl (hs.1 0 _ rfl) (hs.2 (0, 1, 5) (by decide)) dX8_takeBack_20 ?_
    refine AW.aload_n dX8_takeBack_23 rfl ?_
    refine AW.getR (c' := (s9 + 1)) (fX8_12 hG).r rfl (hs.1 0 _ rfl) (hs.2 (0, 0, 1) (by decide)) dX8_takeBack_24 ?_
    refine AW.callV (b := (s9 + 5)) (As := [.ref (s9 + 1)]) hG.2.2 (vX8_35 hG) (hs.1 5 _ rfl) (k_X2_copyFrom hK (d := 2) (Nat.le_refl _) (k_sub_Story_5 hs) (k_sub_Story_1 hs) (by omega)) (by omega) dX8_takeBack_27 rfl rfl (Nat.le_of_ble_eq_true rfl) (fun v w9 hq9 h09 => by obtain ⟨rfl, rfl⟩ := hq9; exact ⟨h09, rfl⟩) (by decide) (by decide) (fun _ _ hx => hx) (fun v27 w27 hq27 => ?_)
    obtain ⟨rfl, rfl⟩ := hq27
    refine AW.namI (fun I27 eI27 => ?_)
    rw [e16] at eI27
    show AW G mX8_takeBack d (fun v w => v = some (.int (if k = 0 then -1 else nI (k - 1))) ∧ w = (sh, if k = 0 then I else f_tb I t n s9 (k - 1), R, L, g)) (fun _ _ => False) 30 [some (.ref s9), some (.ref t), none] [] (sh, I27, R, L, g) 0 0
    refine AW.iconst 0 dX8_takeBack_30 (by decide) ?_
    refine AW.is_n [some (.ref s9), some (.ref t), some (.int 0)] dX8_takeBack_31 (by decide) rfl rfl ?_
    have L32 : ∀ k32, k32 ≤ (k - 1) → ∀ (x : Int32) (J : Nat → Nat → Int32), (x = nI k32 ∧ J = f_rep I27 t n s9 (I (s9 + 9)) (I (s9 + 10)) (I (s9 + 11)) k32) → AW G mX8_takeBack d (fun v w => v = some (.int (if k = 0 then -1 else nI (k - 1))) ∧ w = (sh, if k = 0 then I else f_tb I t n s9 (k - 1), R, L, g)) (fun _ _ => False) 32 [some (.ref s9), some (.ref t), some (.int x)] [] (sh, J, R, L, g) 0 0 := by
      refine am_rec ((k - 1)) (fun k32 hk32 ih32 => ?_)
      intro x J hi32
      obtain ⟨hx, hJ⟩ := hi32
      have hJo : ∀ a, (a < s9 + 5 ∨ s9 + 9 ≤ a) → a ≠ s9 → J a = I a := fun a h1 h2 => by rw [hJ, f_rep_o _ _ _ _ _ _ _ _ h1, eI27, f_dcp_o _ _ _ (by omega), am_uA_o _ _ _ h2]
      have hJs : J s9 = upd (I s9) 5 (nI (k - 1)) := by rw [hJ, f_rep_o _ _ _ _ _ _ _ _ (by omega), eI27, f_dcp_o _ _ _ (by omega), am_uA_s]
      have hJk : J s9 5 = nI (k - 1) := by rw [hJs]; exact pk_us
      have hJn : J t 0 = nI n := by rw [hJo t (by omega) (by omega)]; exact hn
      have q9 := hJo (s9 + 9) (by omega) (by omega)
      have q10 := hJo (s9 + 10) (by omega) (by omega)
      have q11 := hJo (s9 + 11) (by omega) (by omega)
      refine AW.iload_n dX8_takeBack_32 rfl ?_
      refine AW.aload_n dX8_takeBack_33 rfl ?_
      refine AW.getI (fX8_39 hG).r rfl (hs.1 0 _ rfl) dX8_takeBack_34 ?_
      refine AW.icmp_ge 56 dX8_takeBack_37 (by decide) (fun h37 => ?_) (fun h37 => ?_)
      · have hke := k_ge h37 hx hJk hk32 (by omega)
        subst hke
        refine AW.aload_n dX8_takeBack_56 rfl ?_
        refine AW.getI (fX8_39 hG).r rfl (hs.1 0 _ rfl) dX8_takeBack_57 ?_
        exact AW.iret dX8_takeBack_60 rfl (by decide) (by decide) (⟨by rw [if_neg (by omega), hJk], by rw [if_neg (by omega), hJ, eI27]; rfl⟩)
      · have hlt := k_lt h37 hx hJk hk32 (by omega)
        have hbx : vp_in x 40 := by rw [hx]; exact vp_in_nI (by omega) (by decide)
        have hcx : x.toNatClampNeg = k32 := by rw [hx]; exact nI_clamp (by omega)
        refine AW.aload_n dX8_takeBack_40 rfl ?_
        refine AW.aload_n dX8_takeBack_41 rfl ?_
        refine AW.aload_n dX8_takeBack_42 rfl ?_
        refine AW.getR (c' := (s9 + 5)) (fX8_18 hG).r rfl (hs.1 0 _ rfl) (hs.2 (0, 1, 5) (by decide)) dX8_takeBack_43 ?_
        refine AW.iload_n dX8_takeBack_46 rfl ?_
        refine AW.callV (b := s9) (As := [.ref t, .ref (s9 + 5), .int x]) hG.2.2 (vX8_52 hG) (hs.1 0 _ rfl) (k_X8_perform hK (d := 3) (Nat.le_refl _) hs ht (k_sub_Story_5 hs) (by omega) (by assumption) (by assumption) x k32 hx (by omega) (by rw [q9, q11]; exact (hok k32 (by omega)).1) (by rw [q9, q11]; exact (hok k32 (by omega)).2)) (by omega) dX8_takeBack_47 rfl rfl (Nat.le_of_ble_eq_true rfl) (fun v w9 hq9 h09 => by obtain ⟨rfl, rfl⟩ := hq9; exact ⟨h09, rfl⟩) (by decide) (by decide) (fun _ _ hx => hx) (fun v47 w47 hq47 => ?_)
        obtain ⟨rfl, rfl⟩ := hq47
        refine AW.namI (fun I47 eI47 => ?_)
        show AW G mX8_takeBack d (fun v w => v = some (.int (if k = 0 then -1 else nI (k - 1))) ∧ w = (sh, if k = 0 then I else f_tb I t n s9 (k - 1), R, L, g)) (fun _ _ => False) 50 [some (.ref s9), some (.ref t), some (.int x)] [] (sh, I47, R, L, g) 0 0
        refine AW.inc (fun x50 => [some (.ref s9), some (.ref t), some (.int x50)]) dX8_takeBack_50 rfl (by decide) rfl (fun _ => rfl) (fun x50 ex50 => ?_)
        refine AW.goto 32 dX8_takeBack_53 (by decide) ?_
        exact ih32 (k32 + 1) (by omega) (by omega) _ _ (⟨k_inc (by assumption) hx, by rw [eI47, q9, q10, q11, hJ]; rfl⟩)
    exact L32 0 (by omega) _ _ (⟨nI_0.symm, rfl⟩)
  · have hk0 : k = 0 := by
      rcases Nat.eq_zero_or_pos k with h | h
      · exact h
      · exact absurd (h4) (by rw [hk]; exact nI_ne0 h (by omega))
    refine AW.iconst (-1) dX8_takeBack_7 (by decide) ?_
    exact AW.iret dX8_takeBack_8 rfl (by decide) (by decide) (⟨by rw [if_pos hk0], by rw [if_pos hk0]⟩)
theorem am_uA_c (I : Nat → Nat → Int32) (c c' : Nat) (f h : Nat → Int32) (hc : c ≠ c') : am_uA (am_uA I c f) c' h = am_uA (am_uA I c' h) c f := by
  funext a
  unfold am_uA
  by_cases e : a = c
  · by_cases e' : a = c'
    · exact absurd (e.symm.trans e') hc
    · rw [if_neg e', if_pos e, if_pos e]
  · by_cases e' : a = c'
    · rw [if_pos e', if_neg e, if_pos e']
    · rw [if_neg e', if_neg e, if_neg e, if_neg e']
def f_bm (tw mo mt md : Nat → Int32) (n : Nat) (M0 : Nat → Int32) (m : Nat) : Nat → Int32 := lfold (fun i M => f_ga tw (f_wt tw (((1 : Int32) <<< (mo i &&& 31)) ||| ((1 : Int32) <<< (mt i &&& 31))) n) (-(md i)) n M n) M0 m
def f_beg (I : Nat → Nat → Int32) (b t n m : Nat) : Nat → Nat → Int32 := am_uA (am_uA (am_uA (am_uA I b (upd (upd (I b) 0 0) 1 0)) (b + 2) (f_fill (I (b + 2)) (-1) 6)) (b + 3) (f_fill (I (b + 3)) 0 8)) (b + 1) (f_bm (I (t + 4)) (I (t + 5)) (I (t + 6)) (I (t + 7)) n (f_fill (I (b + 1)) (-1000000) 64) m)
theorem f_beg_o (I : Nat → Nat → Int32) (b t n m : Nat) {a : Nat} (h : a < b ∨ b + 4 ≤ a) : f_beg I b t n m a = I a := by
  unfold f_beg
  rw [am_uA_o _ _ _ (by omega), am_uA_o _ _ _ (by omega), am_uA_o _ _ _ (by omega), am_uA_o _ _ _ (by omega)]
theorem dX2_begin_0 : decode cX2_begin 0 = .ok (.aload_n 0, 1) := by decide +kernel
theorem dX2_begin_1 : decode cX2_begin 1 = .ok (.iconst 0, 1) := by decide +kernel
theorem dX2_begin_2 : decode cX2_begin 2 = .ok (.putfield 21, 3) := by decide +kernel
theorem dX2_begin_5 : decode cX2_begin 5 = .ok (.aload_n 0, 1) := by decide +kernel
theorem dX2_begin_6 : decode cX2_begin 6 = .ok (.iconst 0, 1) := by decide +kernel
theorem dX2_begin_7 : decode cX2_begin 7 = .ok (.putfield 25, 3) := by decide +kernel
theorem dX2_begin_10 : decode cX2_begin 10 = .ok (.aload_n 0, 1) := by decide +kernel
theorem dX2_begin_11 : decode cX2_begin 11 = .ok (.getfield 9, 3) := by decide +kernel
theorem dX2_begin_14 : decode cX2_begin 14 = .ok (.ldc 28, 2) := by decide +kernel
theorem dX2_begin_16 : decode cX2_begin 16 = .ok (.invokestatic 29, 3) := by decide +kernel
theorem dX2_begin_19 : decode cX2_begin 19 = .ok (.aload_n 0, 1) := by decide +kernel
theorem dX2_begin_20 : decode cX2_begin 20 = .ok (.getfield 15, 3) := by decide +kernel
theorem dX2_begin_23 : decode cX2_begin 23 = .ok (.iconst (-1), 1) := by decide +kernel
theorem dX2_begin_24 : decode cX2_begin 24 = .ok (.invokestatic 29, 3) := by decide +kernel
theorem dX2_begin_27 : decode cX2_begin 27 = .ok (.aload_n 0, 1) := by decide +kernel
theorem dX2_begin_28 : decode cX2_begin 28 = .ok (.getfield 18, 3) := by decide +kernel
theorem dX2_begin_31 : decode cX2_begin 31 = .ok (.iconst 0, 1) := by decide +kernel
theorem dX2_begin_32 : decode cX2_begin 32 = .ok (.invokestatic 29, 3) := by decide +kernel
theorem dX2_begin_35 : decode cX2_begin 35 = .ok (.iconst 0, 1) := by decide +kernel
theorem dX2_begin_36 : decode cX2_begin 36 = .ok (.istore_n 2, 1) := by decide +kernel
theorem dX2_begin_37 : decode cX2_begin 37 = .ok (.iload_n 2, 1) := by decide +kernel
theorem dX2_begin_38 : decode cX2_begin 38 = .ok (.aload_n 1, 1) := by decide +kernel
theorem dX2_begin_39 : decode cX2_begin 39 = .ok (.getfield 35, 3) := by decide +kernel
theorem dX2_begin_42 : decode cX2_begin 42 = .ok (.if_icmp .ge 38, 3) := by decide +kernel
theorem dX2_begin_45 : decode cX2_begin 45 = .ok (.aload_n 0, 1) := by decide +kernel
theorem dX2_begin_46 : decode cX2_begin 46 = .ok (.aload_n 1, 1) := by decide +kernel
theorem dX2_begin_47 : decode cX2_begin 47 = .ok (.iconst 1, 1) := by decide +kernel
theorem dX2_begin_48 : decode cX2_begin 48 = .ok (.aload_n 1, 1) := by decide +kernel
theorem dX2_begin_49 : decode cX2_begin 49 = .ok (.getfield 40, 3) := by decide +kernel
theorem dX2_begin_52 : decode cX2_begin 52 = .ok (.iload_n 2, 1) := by decide +kernel
theorem dX2_begin_53 : decode cX2_begin 53 = .ok (.iaload, 1) := by decide +kernel
theorem dX2_begin_54 : decode cX2_begin 54 = .ok (.ishl, 1) := by decide +kernel
theorem dX2_begin_55 : decode cX2_begin 55 = .ok (.iconst 1, 1) := by decide +kernel
theorem dX2_begin_56 : decode cX2_begin 56 = .ok (.aload_n 1, 1) := by decide +kernel
theorem dX2_begin_57 : decode cX2_begin 57 = .ok (.getfield 43, 3) := by decide +kernel
theorem dX2_begin_60 : decode cX2_begin 60 = .ok (.iload_n 2, 1) := by decide +kernel
theorem dX2_begin_61 : decode cX2_begin 61 = .ok (.iaload, 1) := by decide +kernel
theorem dX2_begin_62 : decode cX2_begin 62 = .ok (.ishl, 1) := by decide +kernel
theorem dX2_begin_63 : decode cX2_begin 63 = .ok (.ior, 1) := by decide +kernel
theorem dX2_begin_64 : decode cX2_begin 64 = .ok (.aload_n 1, 1) := by decide +kernel
theorem dX2_begin_65 : decode cX2_begin 65 = .ok (.getfield 46, 3) := by decide +kernel
theorem dX2_begin_68 : decode cX2_begin 68 = .ok (.iload_n 2, 1) := by decide +kernel
theorem dX2_begin_69 : decode cX2_begin 69 = .ok (.iaload, 1) := by decide +kernel
theorem dX2_begin_70 : decode cX2_begin 70 = .ok (.ineg, 1) := by decide +kernel
theorem dX2_begin_71 : decode cX2_begin 71 = .ok (.invokevirtual 49, 3) := by decide +kernel
theorem dX2_begin_74 : decode cX2_begin 74 = .ok (.iinc 2 1, 3) := by decide +kernel
theorem dX2_begin_77 : decode cX2_begin 77 = .ok (.goto (-40), 3) := by decide +kernel
theorem dX2_begin_80 : decode cX2_begin 80 = .ok (.return_, 1) := by decide +kernel
set_option maxRecDepth 100000 in
set_option maxHeartbeats 4000000 in
theorem k_X2_begin {G : am_G} (hK : k_OK G) {d : Nat} (hd : 3 ≤ d) {sh : List (Nat ⊕ (Nat × Nat))} {I : Nat → Nat → Int32} {R : Nat → Nat → Option Nat} {L : Nat → Nat → Int64} {g : Nat} {b t n m : Nat} (hb : k_Days sh R b) (ht : k_Town sh R t) (hbt : b + 4 ≤ t ∨ t + 19 ≤ b) (hn : I t 0 = nI n) (hn8 : n ≤ 8) (hm : I t 1 = nI m) (hm16 : m ≤ 16) : AM G mX2_begin d [.ref b, .ref t] (sh, I, R, L, g) (fun v w => v = none ∧ w = (sh, f_beg I b t n m, R, L, g)) (fun _ _ => False) := by
  have hG := hK.1
  refine AM.of (n := 1) (by decide +kernel) (Nat.le_of_ble_eq_true rfl) ?_
  show AW G mX2_begin d (fun v w => v = none ∧ w = (sh, f_beg I b t n m, R, L, g)) (fun _ _ => False) 0 [some (.ref b), some (.ref t), none] [] (sh, I, R, L, g) 0 0
  refine AW.aload_n dX2_begin_0 rfl ?_
  refine AW.iconst 0 dX2_begin_1 (by decide) ?_
  refine AW.putI (fX2_21 hG) rfl (vp_nar_int _) rfl (hb.1 0 _ rfl) dX2_begin_2 ?_
  refine AW.namI (fun I2 eI2 => ?_)
  refine AW.aload_n dX2_begin_5 rfl ?_
  refine AW.iconst 0 dX2_begin_6 (by decide) ?_
  refine AW.putI (fX2_25 hG) rfl (vp_nar_int _) rfl (hb.1 0 _ rfl) dX2_begin_7 ?_
  refine AW.namI (fun I7 eI7 => ?_)
  refine AW.aload_n dX2_begin_10 rfl ?_
  refine AW.getR (c' := (b + 1)) (fX2_9 hG).r rfl (hb.1 0 _ rfl) (hb.2 (0, 2, 1) (by decide)) dX2_begin_11 ?_
  refine AW.ldc (-1000000) dX2_begin_14 (k_c hG 553 (by decide +kernel) (by decide +kernel)) ?_
  refine AW.callS (As := [.ref (b + 1), .int (-1000000)]) hG.2.2 (vX2_29 hG) (k_fill hK (d := 0) (Nat.le_refl _) (hb.1 1 _ rfl) (by decide) (-1000000)) (by omega) dX2_begin_16 rfl rfl (Nat.le_of_ble_eq_true rfl) (fun v w9 hq9 h09 => by obtain ⟨rfl, rfl⟩ := hq9; exact ⟨h09, rfl⟩) (by decide) (by decide) (fun _ _ hx => hx) (fun v16 w16 hq16 => ?_)
  obtain ⟨rfl, rfl⟩ := hq16
  refine AW.namI (fun I16 eI16 => ?_)
  show AW G mX2_begin d (fun v w => v = none ∧ w = (sh, f_beg I b t n m, R, L, g)) (fun _ _ => False) 19 [some (.ref b), some (.ref t), none] [] (sh, I16, R, L, g) 0 0
  refine AW.aload_n dX2_begin_19 rfl ?_
  refine AW.getR (c' := (b + 2)) (fX2_15 hG).r rfl (hb.1 0 _ rfl) (hb.2 (0, 3, 2) (by decide)) dX2_begin_20 ?_
  refine AW.iconst (-1) dX2_begin_23 (by decide) ?_
  refine AW.callS (As := [.ref (b + 2), .int (-1)]) hG.2.2 (vX2_29 hG) (k_fill hK (d := 0) (Nat.le_refl _) (hb.1 2 _ rfl) (by decide) (-1)) (by omega) dX2_begin_24 rfl rfl (Nat.le_of_ble_eq_true rfl) (fun v w9 hq9 h09 => by obtain ⟨rfl, rfl⟩ := hq9; exact ⟨h09, rfl⟩) (by decide) (by decide) (fun _ _ hx => hx) (fun v24 w24 hq24 => ?_)
  obtain ⟨rfl, rfl⟩ := hq24
  refine AW.namI (fun I24 eI24 => ?_)
  show AW G mX2_begin d (fun v w => v = none ∧ w = (sh, f_beg I b t n m, R, L, g)) (fun _ _ => False) 27 [some (.ref b), some (.ref t), none] [] (sh, I24, R, L, g) 0 0
  refine AW.aload_n dX2_begin_27 rfl ?_
  refine AW.getR (c' := (b + 3)) (fX2_18 hG).r rfl (hb.1 0 _ rfl) (hb.2 (0, 4, 3) (by decide)) dX2_begin_28 ?_
  refine AW.iconst 0 dX2_begin_31 (by decide) ?_
  refine AW.callS (As := [.ref (b + 3), .int 0]) hG.2.2 (vX2_29 hG) (k_fill hK (d := 0) (Nat.le_refl _) (hb.1 3 _ rfl) (by decide) 0) (by omega) dX2_begin_32 rfl rfl (Nat.le_of_ble_eq_true rfl) (fun v w9 hq9 h09 => by obtain ⟨rfl, rfl⟩ := hq9; exact ⟨h09, rfl⟩) (by decide) (by decide) (fun _ _ hx => hx) (fun v32 w32 hq32 => ?_)
  obtain ⟨rfl, rfl⟩ := hq32
  refine AW.namI (fun I32 eI32 => ?_)
  show AW G mX2_begin d (fun v w => v = none ∧ w = (sh, f_beg I b t n m, R, L, g)) (fun _ _ => False) 35 [some (.ref b), some (.ref t), none] [] (sh, I32, R, L, g) 0 0
  refine AW.iconst 0 dX2_begin_35 (by decide) ?_
  refine AW.is_n [some (.ref b), some (.ref t), some (.int 0)] dX2_begin_36 (by decide) rfl rfl ?_
  have L37 : ∀ k37, k37 ≤ m → ∀ (x : Int32) (J : Nat → Nat → Int32), (x = nI k37 ∧ J = f_beg I b t n k37) → AW G mX2_begin d (fun v w => v = none ∧ w = (sh, f_beg I b t n m, R, L, g)) (fun _ _ => False) 37 [some (.ref b), some (.ref t), some (.int x)] [] (sh, J, R, L, g) 0 0 := by
    refine am_rec m (fun k37 hk37 ih37 => ?_)
    intro x J hi37
    obtain ⟨hx, hJ⟩ := hi37
    have hJo : ∀ a, (a < b ∨ b + 4 ≤ a) → J a = I a := fun a h => by rw [hJ]; exact f_beg_o _ _ _ _ _ h
    have hJn : J t 0 = nI n := by rw [hJo t (by omega)]; exact hn
    have hJm : J t 1 = nI m := by rw [hJo t (by omega)]; exact hm
    have q4 := hJo (t + 4) (by omega)
    have q5 := hJo (t + 5) (by omega)
    have q6 := hJo (t + 6) (by omega)
    have q7 := hJo (t + 7) (by omega)
    refine AW.iload_n dX2_begin_37 rfl ?_
    refine AW.aload_n dX2_begin_38 rfl ?_
    refine AW.getI (fX2_35 hG).r rfl (ht.1 0 _ rfl) dX2_begin_39 ?_
    refine AW.icmp_ge 80 dX2_begin_42 (by decide) (fun h42 => ?_) (fun h42 => ?_)
    · have hke := k_ge h42 hx hJm hk37 (by omega)
      subst hke
      exact AW.vret dX2_begin_80 rfl (by decide) (by decide) (⟨rfl, by rw [hJ]⟩)
    · have hlt := k_lt h42 hx hJm hk37 (by omega)
      have hbx : vp_in x 16 := by rw [hx]; exact vp_in_nI (by omega) (by decide)
      have hcx : x.toNatClampNeg = k37 := by rw [hx]; exact nI_clamp (by omega)
      refine AW.aload_n dX2_begin_45 rfl ?_
      refine AW.aload_n dX2_begin_46 rfl ?_
      refine AW.iconst 1 dX2_begin_47 (by decide) ?_
      refine AW.aload_n dX2_begin_48 rfl ?_
      refine AW.getR (c' := (t + 5)) (fX2_40 hG) rfl (ht.1 0 _ rfl) (ht.2 (0, 8, 5) (by decide)) dX2_begin_49 ?_
      refine AW.iload_n dX2_begin_52 rfl ?_
      refine AW.iald (ht.1 5 _ rfl) (by first | assumption | exact vp_in_nI (by omega) (by decide)) dX2_begin_53 ?_
      refine AW.ishl dX2_begin_54 ?_
      refine AW.iconst 1 dX2_begin_55 (by decide) ?_
      refine AW.aload_n dX2_begin_56 rfl ?_
      refine AW.getR (c' := (t + 6)) (fX2_43 hG) rfl (ht.1 0 _ rfl) (ht.2 (0, 9, 6) (by decide)) dX2_begin_57 ?_
      refine AW.iload_n dX2_begin_60 rfl ?_
      refine AW.iald (ht.1 6 _ rfl) (by first | assumption | exact vp_in_nI (by omega) (by decide)) dX2_begin_61 ?_
      refine AW.ishl dX2_begin_62 ?_
      refine AW.ior dX2_begin_63 ?_
      refine AW.aload_n dX2_begin_64 rfl ?_
      refine AW.getR (c' := (t + 7)) (fX2_46 hG) rfl (ht.1 0 _ rfl) (ht.2 (0, 10, 7) (by decide)) dX2_begin_65 ?_
      refine AW.iload_n dX2_begin_68 rfl ?_
      refine AW.iald (ht.1 7 _ rfl) (by first | assumption | exact vp_in_nI (by omega) (by decide)) dX2_begin_69 ?_
      refine AW.ineg dX2_begin_70 ?_
      refine AW.callV (b := b) (As := [.ref t, .int ((1 <<< ((J (t + 5) x.toNatClampNeg) &&& 31)) ||| (1 <<< ((J (t + 6) x.toNatClampNeg) &&& 31))), .int (-(J (t + 7) x.toNatClampNeg))]) hG.2.2 (vX2_49 hG) (hb.1 0 _ rfl) (k_X2_gather hK (d := 2) (Nat.le_refl _) hb ht (by omega) (by assumption) (by assumption) ((1 <<< ((J (t + 5) x.toNatClampNeg) &&& 31)) ||| (1 <<< ((J (t + 6) x.toNatClampNeg) &&& 31))) (-(J (t + 7) x.toNatClampNeg))) (by omega) dX2_begin_71 rfl rfl (Nat.le_of_ble_eq_true rfl) (fun v w9 hq9 h09 => by obtain ⟨rfl, rfl⟩ := hq9; exact ⟨h09, rfl⟩) (by decide) (by decide) (fun _ _ hx => hx) (fun v71 w71 hq71 => ?_)
      obtain ⟨rfl, rfl⟩ := hq71
      refine AW.namI (fun I71 eI71 => ?_)
      show AW G mX2_begin d (fun v w => v = none ∧ w = (sh, f_beg I b t n m, R, L, g)) (fun _ _ => False) 74 [some (.ref b), some (.ref t), some (.int x)] [] (sh, I71, R, L, g) 0 0
      refine AW.inc (fun x74 => [some (.ref b), some (.ref t), some (.int x74)]) dX2_begin_74 rfl (by decide) rfl (fun _ => rfl) (fun x74 ex74 => ?_)
      refine AW.goto 37 dX2_begin_77 (by decide) ?_
      exact ih37 (k37 + 1) (by omega) (by omega) _ _ (⟨k_inc (by assumption) hx, by rw [eI71, hcx, q4, q5, q6, q7, hJ]; simp only [f_beg, am_uA_s, am_uA_uA]; rfl⟩)
  exact L37 0 (by omega) _ _ (⟨nI_0.symm, by rw [eI32, eI24, eI16, eI7, eI2]; simp (disch := omega) only [am_up_uA, am_uA_s, am_uA_o, am_uA_uA]; rw [am_uA_c _ (b + 1) (b + 2) _ _ (by omega), am_uA_c _ (b + 1) (b + 3) _ _ (by omega)]; rfl⟩)
def f_sbeg (I : Nat → Nat → Int32) (s9 t n m : Nat) : Nat → Nat → Int32 := am_uA (f_dcp (f_beg I (s9 + 1) t n m) (s9 + 5) (s9 + 1)) s9 (upd (I s9) 5 0)
def f_scp (I : Nat → Nat → Int32) (s9 o : Nat) : Nat → Nat → Int32 := am_uA (am_uA (am_uA (am_uA (f_dcp (f_dcp I (s9 + 1) (o + 1)) (s9 + 5) (o + 5)) (s9 + 9) (f_cp 40 (I (o + 9)) (I (s9 + 9)))) (s9 + 10) (f_cp 40 (I (o + 10)) (I (s9 + 10)))) (s9 + 11) (f_cp 40 (I (o + 11)) (I (s9 + 11)))) s9 (upd (I s9) 5 (I o 5))
theorem f_sbeg_o (I : Nat → Nat → Int32) (s9 t n m : Nat) {a : Nat} (h : a < s9 ∨ s9 + 12 ≤ a) : f_sbeg I s9 t n m a = I a := by
  unfold f_sbeg
  rw [am_uA_o _ _ _ (by omega), f_dcp_o _ _ _ (by omega), f_beg_o _ _ _ _ _ (by omega)]
theorem f_scp_o (I : Nat → Nat → Int32) (s9 o : Nat) {a : Nat} (h : a < s9 ∨ s9 + 12 ≤ a) : f_scp I s9 o a = I a := by
  unfold f_scp
  rw [am_uA_o _ _ _ (by omega), am_uA_o _ _ _ (by omega), am_uA_o _ _ _ (by omega), am_uA_o _ _ _ (by omega), f_dcp_o _ _ _ (by omega), f_dcp_o _ _ _ (by omega)]
theorem dX8_begin_0 : decode cX8_begin 0 = .ok (.aload_n 0, 1) := by decide +kernel
theorem dX8_begin_1 : decode cX8_begin 1 = .ok (.getfield 12, 3) := by decide +kernel
theorem dX8_begin_4 : decode cX8_begin 4 = .ok (.aload_n 1, 1) := by decide +kernel
theorem dX8_begin_5 : decode cX8_begin 5 = .ok (.invokevirtual 31, 3) := by decide +kernel
theorem dX8_begin_8 : decode cX8_begin 8 = .ok (.aload_n 0, 1) := by decide +kernel
theorem dX8_begin_9 : decode cX8_begin 9 = .ok (.getfield 18, 3) := by decide +kernel
theorem dX8_begin_12 : decode cX8_begin 12 = .ok (.aload_n 0, 1) := by decide +kernel
theorem dX8_begin_13 : decode cX8_begin 13 = .ok (.getfield 12, 3) := by decide +kernel
theorem dX8_begin_16 : decode cX8_begin 16 = .ok (.invokevirtual 35, 3) := by decide +kernel
theorem dX8_begin_19 : decode cX8_begin 19 = .ok (.aload_n 0, 1) := by decide +kernel
theorem dX8_begin_20 : decode cX8_begin 20 = .ok (.iconst 0, 1) := by decide +kernel
theorem dX8_begin_21 : decode cX8_begin 21 = .ok (.putfield 39, 3) := by decide +kernel
theorem dX8_begin_24 : decode cX8_begin 24 = .ok (.return_, 1) := by decide +kernel
set_option maxRecDepth 100000 in
set_option maxHeartbeats 4000000 in
theorem k_X8_begin {G : am_G} (hK : k_OK G) {d : Nat} (hd : 4 ≤ d) {sh : List (Nat ⊕ (Nat × Nat))} {I : Nat → Nat → Int32} {R : Nat → Nat → Option Nat} {L : Nat → Nat → Int64} {g : Nat} {s9 t n : Nat} (hs : k_Story sh R s9) (ht : k_Town sh R t) (hst : s9 + 12 ≤ t ∨ t + 19 ≤ s9) (hn : I t 0 = nI n) (hn8 : n ≤ 8) {m : Nat} (hm : I t 1 = nI m) (hm16 : m ≤ 16) : AM G mX8_begin d [.ref s9, .ref t] (sh, I, R, L, g) (fun v w => v = none ∧ w = (sh, f_sbeg I s9 t n m, R, L, g)) (fun _ _ => False) := by
  have hG := hK.1
  refine AM.of (n := 0) (by decide +kernel) (Nat.le_of_ble_eq_true rfl) ?_
  show AW G mX8_begin d (fun v w => v = none ∧ w = (sh, f_sbeg I s9 t n m, R, L, g)) (fun _ _ => False) 0 [some (.ref s9), some (.ref t)] [] (sh, I, R, L, g) 0 0
  refine AW.aload_n dX8_begin_0 rfl ?_
  refine AW.getR (c' := (s9 + 1)) (fX8_12 hG).r rfl (hs.1 0 _ rfl) (hs.2 (0, 0, 1) (by decide)) dX8_begin_1 ?_
  refine AW.aload_n dX8_begin_4 rfl ?_
  refine AW.callV (b := (s9 + 1)) (As := [.ref t]) hG.2.2 (vX8_31 hG) (hs.1 1 _ rfl) (k_X2_begin hK (d := 3) (Nat.le_refl _) (k_sub_Story_1 hs) ht (by omega) (by assumption) (by assumption) (by assumption) (by assumption)) (by omega) dX8_begin_5 rfl rfl (Nat.le_of_ble_eq_true rfl) (fun v w9 hq9 h09 => by obtain ⟨rfl, rfl⟩ := hq9; exact ⟨h09, rfl⟩) (by decide) (by decide) (fun _ _ hx => hx) (fun v5 w5 hq5 => ?_)
  obtain ⟨rfl, rfl⟩ := hq5
  refine AW.namI (fun I5 eI5 => ?_)
  show AW G mX8_begin d (fun v w => v = none ∧ w = (sh, f_sbeg I s9 t n m, R, L, g)) (fun _ _ => False) 8 [some (.ref s9), some (.ref t)] [] (sh, I5, R, L, g) 0 0
  refine AW.aload_n dX8_begin_8 rfl ?_
  refine AW.getR (c' := (s9 + 5)) (fX8_18 hG).r rfl (hs.1 0 _ rfl) (hs.2 (0, 1, 5) (by decide)) dX8_begin_9 ?_
  refine AW.aload_n dX8_begin_12 rfl ?_
  refine AW.getR (c' := (s9 + 1)) (fX8_12 hG).r rfl (hs.1 0 _ rfl) (hs.2 (0, 0, 1) (by decide)) dX8_begin_13 ?_
  refine AW.callV (b := (s9 + 5)) (As := [.ref (s9 + 1)]) hG.2.2 (vX8_35 hG) (hs.1 5 _ rfl) (k_X2_copyFrom hK (d := 2) (Nat.le_refl _) (k_sub_Story_5 hs) (k_sub_Story_1 hs) (by omega)) (by omega) dX8_begin_16 rfl rfl (Nat.le_of_ble_eq_true rfl) (fun v w9 hq9 h09 => by obtain ⟨rfl, rfl⟩ := hq9; exact ⟨h09, rfl⟩) (by decide) (by decide) (fun _ _ hx => hx) (fun v16 w16 hq16 => ?_)
  obtain ⟨rfl, rfl⟩ := hq16
  refine AW.namI (fun I16 eI16 => ?_)
  show AW G mX8_begin d (fun v w => v = none ∧ w = (sh, f_sbeg I s9 t n m, R, L, g)) (fun _ _ => False) 19 [some (.ref s9), some (.ref t)] [] (sh, I16, R, L, g) 0 0
  refine AW.aload_n dX8_begin_19 rfl ?_
  refine AW.iconst 0 dX8_begin_20 (by decide) ?_
  refine AW.putI (fX8_39 hG) rfl (vp_nar_int _) rfl (hs.1 0 _ rfl) dX8_begin_21 ?_
  refine AW.namI (fun I21 eI21 => ?_)
  exact AW.vret dX8_begin_24 rfl (by decide) (by decide) (⟨rfl, by rw [eI21, eI16, eI5, am_up_uA, f_dcp_o _ _ _ (by omega), f_beg_o _ _ _ _ _ (by omega)]; rfl⟩)
theorem dX8_copyFrom_0 : decode cX8_copyFrom 0 = .ok (.aload_n 0, 1) := by decide +kernel
theorem dX8_copyFrom_1 : decode cX8_copyFrom 1 = .ok (.getfield 12, 3) := by decide +kernel
theorem dX8_copyFrom_4 : decode cX8_copyFrom 4 = .ok (.aload_n 1, 1) := by decide +kernel
theorem dX8_copyFrom_5 : decode cX8_copyFrom 5 = .ok (.getfield 12, 3) := by decide +kernel
theorem dX8_copyFrom_8 : decode cX8_copyFrom 8 = .ok (.invokevirtual 35, 3) := by decide +kernel
theorem dX8_copyFrom_11 : decode cX8_copyFrom 11 = .ok (.aload_n 0, 1) := by decide +kernel
theorem dX8_copyFrom_12 : decode cX8_copyFrom 12 = .ok (.getfield 18, 3) := by decide +kernel
theorem dX8_copyFrom_15 : decode cX8_copyFrom 15 = .ok (.aload_n 1, 1) := by decide +kernel
theorem dX8_copyFrom_16 : decode cX8_copyFrom 16 = .ok (.getfield 18, 3) := by decide +kernel
theorem dX8_copyFrom_19 : decode cX8_copyFrom 19 = .ok (.invokevirtual 35, 3) := by decide +kernel
theorem dX8_copyFrom_22 : decode cX8_copyFrom 22 = .ok (.aload_n 1, 1) := by decide +kernel
theorem dX8_copyFrom_23 : decode cX8_copyFrom 23 = .ok (.getfield 21, 3) := by decide +kernel
theorem dX8_copyFrom_26 : decode cX8_copyFrom 26 = .ok (.iconst 0, 1) := by decide +kernel
theorem dX8_copyFrom_27 : decode cX8_copyFrom 27 = .ok (.aload_n 0, 1) := by decide +kernel
theorem dX8_copyFrom_28 : decode cX8_copyFrom 28 = .ok (.getfield 21, 3) := by decide +kernel
theorem dX8_copyFrom_31 : decode cX8_copyFrom 31 = .ok (.iconst 0, 1) := by decide +kernel
theorem dX8_copyFrom_32 : decode cX8_copyFrom 32 = .ok (.bipush 40, 2) := by decide +kernel
theorem dX8_copyFrom_34 : decode cX8_copyFrom 34 = .ok (.invokestatic 43, 3) := by decide +kernel
theorem dX8_copyFrom_37 : decode cX8_copyFrom 37 = .ok (.aload_n 1, 1) := by decide +kernel
theorem dX8_copyFrom_38 : decode cX8_copyFrom 38 = .ok (.getfield 25, 3) := by decide +kernel
theorem dX8_copyFrom_41 : decode cX8_copyFrom 41 = .ok (.iconst 0, 1) := by decide +kernel
theorem dX8_copyFrom_42 : decode cX8_copyFrom 42 = .ok (.aload_n 0, 1) := by decide +kernel
theorem dX8_copyFrom_43 : decode cX8_copyFrom 43 = .ok (.getfield 25, 3) := by decide +kernel
theorem dX8_copyFrom_46 : decode cX8_copyFrom 46 = .ok (.iconst 0, 1) := by decide +kernel
theorem dX8_copyFrom_47 : decode cX8_copyFrom 47 = .ok (.bipush 40, 2) := by decide +kernel
theorem dX8_copyFrom_49 : decode cX8_copyFrom 49 = .ok (.invokestatic 43, 3) := by decide +kernel
theorem dX8_copyFrom_52 : decode cX8_copyFrom 52 = .ok (.aload_n 1, 1) := by decide +kernel
theorem dX8_copyFrom_53 : decode cX8_copyFrom 53 = .ok (.getfield 28, 3) := by decide +kernel
theorem dX8_copyFrom_56 : decode cX8_copyFrom 56 = .ok (.iconst 0, 1) := by decide +kernel
theorem dX8_copyFrom_57 : decode cX8_copyFrom 57 = .ok (.aload_n 0, 1) := by decide +kernel
theorem dX8_copyFrom_58 : decode cX8_copyFrom 58 = .ok (.getfield 28, 3) := by decide +kernel
theorem dX8_copyFrom_61 : decode cX8_copyFrom 61 = .ok (.iconst 0, 1) := by decide +kernel
theorem dX8_copyFrom_62 : decode cX8_copyFrom 62 = .ok (.bipush 40, 2) := by decide +kernel
theorem dX8_copyFrom_64 : decode cX8_copyFrom 64 = .ok (.invokestatic 43, 3) := by decide +kernel
theorem dX8_copyFrom_67 : decode cX8_copyFrom 67 = .ok (.aload_n 0, 1) := by decide +kernel
theorem dX8_copyFrom_68 : decode cX8_copyFrom 68 = .ok (.aload_n 1, 1) := by decide +kernel
theorem dX8_copyFrom_69 : decode cX8_copyFrom 69 = .ok (.getfield 39, 3) := by decide +kernel
theorem dX8_copyFrom_72 : decode cX8_copyFrom 72 = .ok (.putfield 39, 3) := by decide +kernel
theorem dX8_copyFrom_75 : decode cX8_copyFrom 75 = .ok (.return_, 1) := by decide +kernel
set_option maxRecDepth 100000 in
set_option maxHeartbeats 4000000 in
theorem k_X8_copyFrom {G : am_G} (hK : k_OK G) {d : Nat} (hd : 3 ≤ d) {sh : List (Nat ⊕ (Nat × Nat))} {I : Nat → Nat → Int32} {R : Nat → Nat → Option Nat} {L : Nat → Nat → Int64} {g : Nat} {s9 o : Nat} (hs : k_Story sh R s9) (ho : k_Story sh R o) (hso : s9 + 12 ≤ o ∨ o + 12 ≤ s9) : AM G mX8_copyFrom d [.ref s9, .ref o] (sh, I, R, L, g) (fun v w => v = none ∧ w = (sh, f_scp I s9 o, R, L, g)) (fun _ _ => False) := by
  have hG := hK.1
  refine AM.of (n := 0) (by decide +kernel) (Nat.le_of_ble_eq_true rfl) ?_
  show AW G mX8_copyFrom d (fun v w => v = none ∧ w = (sh, f_scp I s9 o, R, L, g)) (fun _ _ => False) 0 [some (.ref s9), some (.ref o)] [] (sh, I, R, L, g) 0 0
  refine AW.aload_n dX8_copyFrom_0 rfl ?_
  refine AW.getR (c' := (s9 + 1)) (fX8_12 hG).r rfl (hs.1 0 _ rfl) (hs.2 (0, 0, 1) (by decide)) dX8_copyFrom_1 ?_
  refine AW.aload_n dX8_copyFrom_4 rfl ?_
  refine AW.getR (c' := (o + 1)) (fX8_12 hG).r rfl (ho.1 0 _ rfl) (ho.2 (0, 0, 1) (by decide)) dX8_copyFrom_5 ?_
  refine AW.callV (b := (s9 + 1)) (As := [.ref (o + 1)]) hG.2.2 (vX8_35 hG) (hs.1 1 _ rfl) (k_X2_copyFrom hK (d := 2) (Nat.le_refl _) (k_sub_Story_1 hs) (k_sub_Story_1 ho) (by omega)) (by omega) dX8_copyFrom_8 rfl rfl (Nat.le_of_ble_eq_true rfl) (fun v w9 hq9 h09 => by obtain ⟨rfl, rfl⟩ := hq9; exact ⟨h09, rfl⟩) (by decide) (by decide) (fun _ _ hx => hx) (fun v8 w8 hq8 => ?_)
  obtain ⟨rfl, rfl⟩ := hq8
  refine AW.namI (fun I8 eI8 => ?_)
  show AW G mX8_copyFrom d (fun v w => v = none ∧ w = (sh, f_scp I s9 o, R, L, g)) (fun _ _ => False) 11 [some (.ref s9), some (.ref o)] [] (sh, I8, R, L, g) 0 0
  refine AW.aload_n dX8_copyFrom_11 rfl ?_
  refine AW.getR (c' := (s9 + 5)) (fX8_18 hG).r rfl (hs.1 0 _ rfl) (hs.2 (0, 1, 5) (by decide)) dX8_copyFrom_12 ?_
  refine AW.aload_n dX8_copyFrom_15 rfl ?_
  refine AW.getR (c' := (o + 5)) (fX8_18 hG).r rfl (ho.1 0 _ rfl) (ho.2 (0, 1, 5) (by decide)) dX8_copyFrom_16 ?_
  refine AW.callV (b := (s9 + 5)) (As := [.ref (o + 5)]) hG.2.2 (vX8_35 hG) (hs.1 5 _ rfl) (k_X2_copyFrom hK (d := 2) (Nat.le_refl _) (k_sub_Story_5 hs) (k_sub_Story_5 ho) (by omega)) (by omega) dX8_copyFrom_19 rfl rfl (Nat.le_of_ble_eq_true rfl) (fun v w9 hq9 h09 => by obtain ⟨rfl, rfl⟩ := hq9; exact ⟨h09, rfl⟩) (by decide) (by decide) (fun _ _ hx => hx) (fun v19 w19 hq19 => ?_)
  obtain ⟨rfl, rfl⟩ := hq19
  refine AW.namI (fun I19 eI19 => ?_)
  show AW G mX8_copyFrom d (fun v w => v = none ∧ w = (sh, f_scp I s9 o, R, L, g)) (fun _ _ => False) 22 [some (.ref s9), some (.ref o)] [] (sh, I19, R, L, g) 0 0
  refine AW.aload_n dX8_copyFrom_22 rfl ?_
  refine AW.getR (c' := (o + 9)) (fX8_21 hG).r rfl (ho.1 0 _ rfl) (ho.2 (0, 2, 9) (by decide)) dX8_copyFrom_23 ?_
  refine AW.iconst 0 dX8_copyFrom_26 (by decide) ?_
  refine AW.aload_n dX8_copyFrom_27 rfl ?_
  refine AW.getR (c' := (s9 + 9)) (fX8_21 hG).r rfl (hs.1 0 _ rfl) (hs.2 (0, 2, 9) (by decide)) dX8_copyFrom_28 ?_
  refine AW.iconst 0 dX8_copyFrom_31 (by decide) ?_
  refine AW.bipush 40 dX8_copyFrom_32 (by decide) ?_
  refine AW.copy (k_c hG 678 (by decide +kernel) (by decide +kernel)) (k_copy hG) dX8_copyFrom_34 (by omega) (Nat.le_of_ble_eq_true rfl) (ho.1 9 _ rfl) (hs.1 9 _ rfl) (by decide) (by decide) (by decide) (by decide) (by decide) ?_
  refine AW.namI (fun I34 eI34 => ?_)
  refine AW.aload_n dX8_copyFrom_37 rfl ?_
  refine AW.getR (c' := (o + 10)) (fX8_25 hG).r rfl (ho.1 0 _ rfl) (ho.2 (0, 3, 10) (by decide)) dX8_copyFrom_38 ?_
  refine AW.iconst 0 dX8_copyFrom_41 (by decide) ?_
  refine AW.aload_n dX8_copyFrom_42 rfl ?_
  refine AW.getR (c' := (s9 + 10)) (fX8_25 hG).r rfl (hs.1 0 _ rfl) (hs.2 (0, 3, 10) (by decide)) dX8_copyFrom_43 ?_
  refine AW.iconst 0 dX8_copyFrom_46 (by decide) ?_
  refine AW.bipush 40 dX8_copyFrom_47 (by decide) ?_
  refine AW.copy (k_c hG 678 (by decide +kernel) (by decide +kernel)) (k_copy hG) dX8_copyFrom_49 (by omega) (Nat.le_of_ble_eq_true rfl) (ho.1 10 _ rfl) (hs.1 10 _ rfl) (by decide) (by decide) (by decide) (by decide) (by decide) ?_
  refine AW.namI (fun I49 eI49 => ?_)
  refine AW.aload_n dX8_copyFrom_52 rfl ?_
  refine AW.getR (c' := (o + 11)) (fX8_28 hG).r rfl (ho.1 0 _ rfl) (ho.2 (0, 4, 11) (by decide)) dX8_copyFrom_53 ?_
  refine AW.iconst 0 dX8_copyFrom_56 (by decide) ?_
  refine AW.aload_n dX8_copyFrom_57 rfl ?_
  refine AW.getR (c' := (s9 + 11)) (fX8_28 hG).r rfl (hs.1 0 _ rfl) (hs.2 (0, 4, 11) (by decide)) dX8_copyFrom_58 ?_
  refine AW.iconst 0 dX8_copyFrom_61 (by decide) ?_
  refine AW.bipush 40 dX8_copyFrom_62 (by decide) ?_
  refine AW.copy (k_c hG 678 (by decide +kernel) (by decide +kernel)) (k_copy hG) dX8_copyFrom_64 (by omega) (Nat.le_of_ble_eq_true rfl) (ho.1 11 _ rfl) (hs.1 11 _ rfl) (by decide) (by decide) (by decide) (by decide) (by decide) ?_
  refine AW.namI (fun I64 eI64 => ?_)
  refine AW.aload_n dX8_copyFrom_67 rfl ?_
  refine AW.aload_n dX8_copyFrom_68 rfl ?_
  refine AW.getI (fX8_39 hG).r rfl (ho.1 0 _ rfl) dX8_copyFrom_69 ?_
  refine AW.putI (fX8_39 hG) rfl (vp_nar_int _) rfl (hs.1 0 _ rfl) dX8_copyFrom_72 ?_
  refine AW.namI (fun I72 eI72 => ?_)
  exact AW.vret dX8_copyFrom_75 rfl (by decide) (by decide) (⟨rfl, by rw [eI72, eI64, eI49, eI34, eI19, eI8]; simp (disch := omega) only [am_up_uA, am_uA_s, am_uA_o, am_uA_uA, f_dcp_o, cl0, cl40]; rfl⟩)
theorem dX4_clearClues_0 : decode cX4_clearClues 0 = .ok (.aload_n 0, 1) := by decide +kernel
theorem dX4_clearClues_1 : decode cX4_clearClues 1 = .ok (.iconst 0, 1) := by decide +kernel
theorem dX4_clearClues_2 : decode cX4_clearClues 2 = .ok (.putfield 44, 3) := by decide +kernel
theorem dX4_clearClues_5 : decode cX4_clearClues 5 = .ok (.aload_n 0, 1) := by decide +kernel
theorem dX4_clearClues_6 : decode cX4_clearClues 6 = .ok (.iconst 0, 1) := by decide +kernel
theorem dX4_clearClues_7 : decode cX4_clearClues 7 = .ok (.putfield 48, 3) := by decide +kernel
theorem dX4_clearClues_10 : decode cX4_clearClues 10 = .ok (.return_, 1) := by decide +kernel
set_option maxRecDepth 100000 in
set_option maxHeartbeats 4000000 in
theorem k_X4_clearClues {G : am_G} (hK : k_OK G) {d : Nat} (hd : 0 ≤ d) {sh : List (Nat ⊕ (Nat × Nat))} {I : Nat → Nat → Int32} {R : Nat → Nat → Option Nat} {L : Nat → Nat → Int64} {g : Nat} {q : Nat} (hq : k_Memory sh R q) : AM G mX4_clearClues d [.ref q] (sh, I, R, L, g) (fun v w => v = none ∧ w = (sh, am_uA I q (upd (upd (I q) 2 0) 6 0), R, L, g)) (fun _ _ => False) := by
  have hG := hK.1
  refine AM.of (n := 0) (by decide +kernel) (Nat.le_of_ble_eq_true rfl) ?_
  show AW G mX4_clearClues d (fun v w => v = none ∧ w = (sh, am_uA I q (upd (upd (I q) 2 0) 6 0), R, L, g)) (fun _ _ => False) 0 [some (.ref q)] [] (sh, I, R, L, g) 0 0
  refine AW.aload_n dX4_clearClues_0 rfl ?_
  refine AW.iconst 0 dX4_clearClues_1 (by decide) ?_
  refine AW.putI (fX4_44 hG) rfl (vp_nar_int _) rfl (hq.1 0 _ rfl) dX4_clearClues_2 ?_
  refine AW.namI (fun I2 eI2 => ?_)
  refine AW.aload_n dX4_clearClues_5 rfl ?_
  refine AW.iconst 0 dX4_clearClues_6 (by decide) ?_
  refine AW.putI (fX4_48 hG) rfl (vp_nar_int _) rfl (hq.1 0 _ rfl) dX4_clearClues_7 ?_
  refine AW.namI (fun I7 eI7 => ?_)
  exact AW.vret dX4_clearClues_10 rfl (by decide) (by decide) (⟨rfl, by rw [eI7, eI2]; simp (disch := omega) only [am_up_uA, am_uA_s, am_uA_o, am_uA_uA]⟩)
theorem dX4_begin_0 : decode cX4_begin 0 = .ok (.aload_n 0, 1) := by decide +kernel
theorem dX4_begin_1 : decode cX4_begin 1 = .ok (.getfield 12, 3) := by decide +kernel
theorem dX4_begin_4 : decode cX4_begin 4 = .ok (.aload_n 1, 1) := by decide +kernel
theorem dX4_begin_5 : decode cX4_begin 5 = .ok (.invokevirtual 37, 3) := by decide +kernel
theorem dX4_begin_8 : decode cX4_begin 8 = .ok (.aload_n 0, 1) := by decide +kernel
theorem dX4_begin_9 : decode cX4_begin 9 = .ok (.invokevirtual 41, 3) := by decide +kernel
theorem dX4_begin_12 : decode cX4_begin 12 = .ok (.return_, 1) := by decide +kernel
set_option maxRecDepth 100000 in
set_option maxHeartbeats 4000000 in
theorem k_X4_begin {G : am_G} (hK : k_OK G) {d : Nat} (hd : 5 ≤ d) {sh : List (Nat ⊕ (Nat × Nat))} {I : Nat → Nat → Int32} {R : Nat → Nat → Option Nat} {L : Nat → Nat → Int64} {g : Nat} {q t n : Nat} (hq : k_Memory sh R q) (ht : k_Town sh R t) (hqt : q + 19 ≤ t ∨ t + 19 ≤ q) (hn : I t 0 = nI n) (hn8 : n ≤ 8) {m : Nat} (hm : I t 1 = nI m) (hm16 : m ≤ 16) : AM G mX4_begin d [.ref q, .ref t] (sh, I, R, L, g) (fun v w => v = none ∧ w = (sh, am_uA (f_sbeg I (q + 1) t n m) q (upd (upd (I q) 2 0) 6 0), R, L, g)) (fun _ _ => False) := by
  have hG := hK.1
  refine AM.of (n := 0) (by decide +kernel) (Nat.le_of_ble_eq_true rfl) ?_
  show AW G mX4_begin d (fun v w => v = none ∧ w = (sh, am_uA (f_sbeg I (q + 1) t n m) q (upd (upd (I q) 2 0) 6 0), R, L, g)) (fun _ _ => False) 0 [some (.ref q), some (.ref t)] [] (sh, I, R, L, g) 0 0
  refine AW.aload_n dX4_begin_0 rfl ?_
  refine AW.getR (c' := (q + 1)) (fX4_12 hG).r rfl (hq.1 0 _ rfl) (hq.2 (0, 0, 1) (by decide)) dX4_begin_1 ?_
  refine AW.aload_n dX4_begin_4 rfl ?_
  refine AW.callV (b := (q + 1)) (As := [.ref t]) hG.2.2 (vX4_37 hG) (hq.1 1 _ rfl) (k_X8_begin hK (d := 4) (Nat.le_refl _) (k_sub_Memory_1 hq) ht (by omega) (by assumption) (by assumption) (by assumption) (by assumption)) (by omega) dX4_begin_5 rfl rfl (Nat.le_of_ble_eq_true rfl) (fun v w9 hq9 h09 => by obtain ⟨rfl, rfl⟩ := hq9; exact ⟨h09, rfl⟩) (by decide) (by decide) (fun _ _ hx => hx) (fun v5 w5 hq5 => ?_)
  obtain ⟨rfl, rfl⟩ := hq5
  refine AW.namI (fun I5 eI5 => ?_)
  show AW G mX4_begin d (fun v w => v = none ∧ w = (sh, am_uA (f_sbeg I (q + 1) t n m) q (upd (upd (I q) 2 0) 6 0), R, L, g)) (fun _ _ => False) 8 [some (.ref q), some (.ref t)] [] (sh, I5, R, L, g) 0 0
  refine AW.aload_n dX4_begin_8 rfl ?_
  refine AW.callV (b := q) (As := []) hG.2.2 (vX4_41 hG) (hq.1 0 _ rfl) (k_X4_clearClues hK (d := 0) (Nat.le_refl _) hq) (by omega) dX4_begin_9 rfl rfl (Nat.le_of_ble_eq_true rfl) (fun v w9 hq9 h09 => by obtain ⟨rfl, rfl⟩ := hq9; exact ⟨h09, rfl⟩) (by decide) (by decide) (fun _ _ hx => hx) (fun v9 w9 hq9 => ?_)
  obtain ⟨rfl, rfl⟩ := hq9
  refine AW.namI (fun I9 eI9 => ?_)
  show AW G mX4_begin d (fun v w => v = none ∧ w = (sh, am_uA (f_sbeg I (q + 1) t n m) q (upd (upd (I q) 2 0) 6 0), R, L, g)) (fun _ _ => False) 12 [some (.ref q), some (.ref t)] [] (sh, I9, R, L, g) 0 0
  exact AW.vret dX4_begin_12 rfl (by decide) (by decide) (⟨rfl, by rw [eI9, eI5, f_sbeg_o _ _ _ _ _ (by omega)]⟩)
def f_mcp (I : Nat → Nat → Int32) (q o : Nat) : Nat → Nat → Int32 := am_uA (am_uA (am_uA (am_uA (am_uA (am_uA (am_uA (f_scp I (q + 1) (o + 1)) (q + 13) (f_cp 3 (I (o + 13)) (I (q + 13)))) (q + 14) (f_cp 6 (I (o + 14)) (I (q + 14)))) (q + 15) (f_cp 6 (I (o + 15)) (I (q + 15)))) (q + 16) (f_cp 6 (I (o + 16)) (I (q + 16)))) q (upd (upd (I q) 2 (I o 2)) 6 (I o 6))) (q + 17) (f_cp 4 (I (o + 17)) (I (q + 17)))) (q + 18) (f_cp 4 (I (o + 18)) (I (q + 18)))
theorem dX4_copyFrom_0 : decode cX4_copyFrom 0 = .ok (.aload_n 0, 1) := by decide +kernel
theorem dX4_copyFrom_1 : decode cX4_copyFrom 1 = .ok (.getfield 12, 3) := by decide +kernel
theorem dX4_copyFrom_4 : decode cX4_copyFrom 4 = .ok (.aload_n 1, 1) := by decide +kernel
theorem dX4_copyFrom_5 : decode cX4_copyFrom 5 = .ok (.getfield 12, 3) := by decide +kernel
theorem dX4_copyFrom_8 : decode cX4_copyFrom 8 = .ok (.invokevirtual 51, 3) := by decide +kernel
theorem dX4_copyFrom_11 : decode cX4_copyFrom 11 = .ok (.aload_n 1, 1) := by decide +kernel
theorem dX4_copyFrom_12 : decode cX4_copyFrom 12 = .ok (.getfield 18, 3) := by decide +kernel
theorem dX4_copyFrom_15 : decode cX4_copyFrom 15 = .ok (.iconst 0, 1) := by decide +kernel
theorem dX4_copyFrom_16 : decode cX4_copyFrom 16 = .ok (.aload_n 0, 1) := by decide +kernel
theorem dX4_copyFrom_17 : decode cX4_copyFrom 17 = .ok (.getfield 18, 3) := by decide +kernel
theorem dX4_copyFrom_20 : decode cX4_copyFrom 20 = .ok (.iconst 0, 1) := by decide +kernel
theorem dX4_copyFrom_21 : decode cX4_copyFrom 21 = .ok (.aload_n 0, 1) := by decide +kernel
theorem dX4_copyFrom_22 : decode cX4_copyFrom 22 = .ok (.getfield 18, 3) := by decide +kernel
theorem dX4_copyFrom_25 : decode cX4_copyFrom 25 = .ok (.arraylength, 1) := by decide +kernel
theorem dX4_copyFrom_26 : decode cX4_copyFrom 26 = .ok (.invokestatic 55, 3) := by decide +kernel
theorem dX4_copyFrom_29 : decode cX4_copyFrom 29 = .ok (.aload_n 0, 1) := by decide +kernel
theorem dX4_copyFrom_30 : decode cX4_copyFrom 30 = .ok (.aload_n 1, 1) := by decide +kernel
theorem dX4_copyFrom_31 : decode cX4_copyFrom 31 = .ok (.getfield 44, 3) := by decide +kernel
theorem dX4_copyFrom_34 : decode cX4_copyFrom 34 = .ok (.putfield 44, 3) := by decide +kernel
theorem dX4_copyFrom_37 : decode cX4_copyFrom 37 = .ok (.aload_n 1, 1) := by decide +kernel
theorem dX4_copyFrom_38 : decode cX4_copyFrom 38 = .ok (.getfield 22, 3) := by decide +kernel
theorem dX4_copyFrom_41 : decode cX4_copyFrom 41 = .ok (.iconst 0, 1) := by decide +kernel
theorem dX4_copyFrom_42 : decode cX4_copyFrom 42 = .ok (.aload_n 0, 1) := by decide +kernel
theorem dX4_copyFrom_43 : decode cX4_copyFrom 43 = .ok (.getfield 22, 3) := by decide +kernel
theorem dX4_copyFrom_46 : decode cX4_copyFrom 46 = .ok (.iconst 0, 1) := by decide +kernel
theorem dX4_copyFrom_47 : decode cX4_copyFrom 47 = .ok (.bipush 6, 2) := by decide +kernel
theorem dX4_copyFrom_49 : decode cX4_copyFrom 49 = .ok (.invokestatic 55, 3) := by decide +kernel
theorem dX4_copyFrom_52 : decode cX4_copyFrom 52 = .ok (.aload_n 1, 1) := by decide +kernel
theorem dX4_copyFrom_53 : decode cX4_copyFrom 53 = .ok (.getfield 25, 3) := by decide +kernel
theorem dX4_copyFrom_56 : decode cX4_copyFrom 56 = .ok (.iconst 0, 1) := by decide +kernel
theorem dX4_copyFrom_57 : decode cX4_copyFrom 57 = .ok (.aload_n 0, 1) := by decide +kernel
theorem dX4_copyFrom_58 : decode cX4_copyFrom 58 = .ok (.getfield 25, 3) := by decide +kernel
theorem dX4_copyFrom_61 : decode cX4_copyFrom 61 = .ok (.iconst 0, 1) := by decide +kernel
theorem dX4_copyFrom_62 : decode cX4_copyFrom 62 = .ok (.bipush 6, 2) := by decide +kernel
theorem dX4_copyFrom_64 : decode cX4_copyFrom 64 = .ok (.invokestatic 55, 3) := by decide +kernel
theorem dX4_copyFrom_67 : decode cX4_copyFrom 67 = .ok (.aload_n 1, 1) := by decide +kernel
theorem dX4_copyFrom_68 : decode cX4_copyFrom 68 = .ok (.getfield 28, 3) := by decide +kernel
theorem dX4_copyFrom_71 : decode cX4_copyFrom 71 = .ok (.iconst 0, 1) := by decide +kernel
theorem dX4_copyFrom_72 : decode cX4_copyFrom 72 = .ok (.aload_n 0, 1) := by decide +kernel
theorem dX4_copyFrom_73 : decode cX4_copyFrom 73 = .ok (.getfield 28, 3) := by decide +kernel
theorem dX4_copyFrom_76 : decode cX4_copyFrom 76 = .ok (.iconst 0, 1) := by decide +kernel
theorem dX4_copyFrom_77 : decode cX4_copyFrom 77 = .ok (.bipush 6, 2) := by decide +kernel
theorem dX4_copyFrom_79 : decode cX4_copyFrom 79 = .ok (.invokestatic 55, 3) := by decide +kernel
theorem dX4_copyFrom_82 : decode cX4_copyFrom 82 = .ok (.aload_n 0, 1) := by decide +kernel
theorem dX4_copyFrom_83 : decode cX4_copyFrom 83 = .ok (.aload_n 1, 1) := by decide +kernel
theorem dX4_copyFrom_84 : decode cX4_copyFrom 84 = .ok (.getfield 48, 3) := by decide +kernel
theorem dX4_copyFrom_87 : decode cX4_copyFrom 87 = .ok (.putfield 48, 3) := by decide +kernel
theorem dX4_copyFrom_90 : decode cX4_copyFrom 90 = .ok (.aload_n 1, 1) := by decide +kernel
theorem dX4_copyFrom_91 : decode cX4_copyFrom 91 = .ok (.getfield 31, 3) := by decide +kernel
theorem dX4_copyFrom_94 : decode cX4_copyFrom 94 = .ok (.iconst 0, 1) := by decide +kernel
theorem dX4_copyFrom_95 : decode cX4_copyFrom 95 = .ok (.aload_n 0, 1) := by decide +kernel
theorem dX4_copyFrom_96 : decode cX4_copyFrom 96 = .ok (.getfield 31, 3) := by decide +kernel
theorem dX4_copyFrom_99 : decode cX4_copyFrom 99 = .ok (.iconst 0, 1) := by decide +kernel
theorem dX4_copyFrom_100 : decode cX4_copyFrom 100 = .ok (.iconst 4, 1) := by decide +kernel
theorem dX4_copyFrom_101 : decode cX4_copyFrom 101 = .ok (.invokestatic 55, 3) := by decide +kernel
theorem dX4_copyFrom_104 : decode cX4_copyFrom 104 = .ok (.aload_n 1, 1) := by decide +kernel
theorem dX4_copyFrom_105 : decode cX4_copyFrom 105 = .ok (.getfield 34, 3) := by decide +kernel
theorem dX4_copyFrom_108 : decode cX4_copyFrom 108 = .ok (.iconst 0, 1) := by decide +kernel
theorem dX4_copyFrom_109 : decode cX4_copyFrom 109 = .ok (.aload_n 0, 1) := by decide +kernel
theorem dX4_copyFrom_110 : decode cX4_copyFrom 110 = .ok (.getfield 34, 3) := by decide +kernel
theorem dX4_copyFrom_113 : decode cX4_copyFrom 113 = .ok (.iconst 0, 1) := by decide +kernel
theorem dX4_copyFrom_114 : decode cX4_copyFrom 114 = .ok (.iconst 4, 1) := by decide +kernel
theorem dX4_copyFrom_115 : decode cX4_copyFrom 115 = .ok (.invokestatic 55, 3) := by decide +kernel
theorem dX4_copyFrom_118 : decode cX4_copyFrom 118 = .ok (.return_, 1) := by decide +kernel
set_option maxRecDepth 100000 in
set_option maxHeartbeats 4000000 in
theorem k_X4_copyFrom {G : am_G} (hK : k_OK G) {d : Nat} (hd : 4 ≤ d) {sh : List (Nat ⊕ (Nat × Nat))} {I : Nat → Nat → Int32} {R : Nat → Nat → Option Nat} {L : Nat → Nat → Int64} {g : Nat} {q o : Nat} (hq : k_Memory sh R q) (ho : k_Memory sh R o) (hqo : q + 19 ≤ o ∨ o + 19 ≤ q) : AM G mX4_copyFrom d [.ref q, .ref o] (sh, I, R, L, g) (fun v w => v = none ∧ w = (sh, f_mcp I q o, R, L, g)) (fun _ _ => False) := by
  have hG := hK.1
  refine AM.of (n := 0) (by decide +kernel) (Nat.le_of_ble_eq_true rfl) ?_
  show AW G mX4_copyFrom d (fun v w => v = none ∧ w = (sh, f_mcp I q o, R, L, g)) (fun _ _ => False) 0 [some (.ref q), some (.ref o)] [] (sh, I, R, L, g) 0 0
  refine AW.aload_n dX4_copyFrom_0 rfl ?_
  refine AW.getR (c' := (q + 1)) (fX4_12 hG).r rfl (hq.1 0 _ rfl) (hq.2 (0, 0, 1) (by decide)) dX4_copyFrom_1 ?_
  refine AW.aload_n dX4_copyFrom_4 rfl ?_
  refine AW.getR (c' := (o + 1)) (fX4_12 hG).r rfl (ho.1 0 _ rfl) (ho.2 (0, 0, 1) (by decide)) dX4_copyFrom_5 ?_
  refine AW.callV (b := (q + 1)) (As := [.ref (o + 1)]) hG.2.2 (vX4_51 hG) (hq.1 1 _ rfl) (k_X8_copyFrom hK (d := 3) (Nat.le_refl _) (k_sub_Memory_1 hq) (k_sub_Memory_1 ho) (by omega)) (by omega) dX4_copyFrom_8 rfl rfl (Nat.le_of_ble_eq_true rfl) (fun v w9 hq9 h09 => by obtain ⟨rfl, rfl⟩ := hq9; exact ⟨h09, rfl⟩) (by decide) (by decide) (fun _ _ hx => hx) (fun v8 w8 hq8 => ?_)
  obtain ⟨rfl, rfl⟩ := hq8
  refine AW.namI (fun I8 eI8 => ?_)
  show AW G mX4_copyFrom d (fun v w => v = none ∧ w = (sh, f_mcp I q o, R, L, g)) (fun _ _ => False) 11 [some (.ref q), some (.ref o)] [] (sh, I8, R, L, g) 0 0
  refine AW.aload_n dX4_copyFrom_11 rfl ?_
  refine AW.getR (c' := (o + 13)) (fX4_18 hG).r rfl (ho.1 0 _ rfl) (ho.2 (0, 1, 13) (by decide)) dX4_copyFrom_12 ?_
  refine AW.iconst 0 dX4_copyFrom_15 (by decide) ?_
  refine AW.aload_n dX4_copyFrom_16 rfl ?_
  refine AW.getR (c' := (q + 13)) (fX4_18 hG).r rfl (hq.1 0 _ rfl) (hq.2 (0, 1, 13) (by decide)) dX4_copyFrom_17 ?_
  refine AW.iconst 0 dX4_copyFrom_20 (by decide) ?_
  refine AW.aload_n dX4_copyFrom_21 rfl ?_
  refine AW.getR (c' := (q + 13)) (fX4_18 hG).r rfl (hq.1 0 _ rfl) (hq.2 (0, 1, 13) (by decide)) dX4_copyFrom_22 ?_
  refine AW.alen (v := 3) (hq.1 13 _ rfl) (by decide) (by decide) dX4_copyFrom_25 ?_
  refine AW.copy (k_c hG 704 (by decide +kernel) (by decide +kernel)) (k_copy hG) dX4_copyFrom_26 (by omega) (Nat.le_of_ble_eq_true rfl) (ho.1 13 _ rfl) (hq.1 13 _ rfl) (by decide) (by decide) (by decide) (by decide) (by decide) ?_
  refine AW.namI (fun I26 eI26 => ?_)
  refine AW.aload_n dX4_copyFrom_29 rfl ?_
  refine AW.aload_n dX4_copyFrom_30 rfl ?_
  refine AW.getI (fX4_44 hG).r rfl (ho.1 0 _ rfl) dX4_copyFrom_31 ?_
  refine AW.putI (fX4_44 hG) rfl (vp_nar_int _) rfl (hq.1 0 _ rfl) dX4_copyFrom_34 ?_
  refine AW.namI (fun I34 eI34 => ?_)
  refine AW.aload_n dX4_copyFrom_37 rfl ?_
  refine AW.getR (c' := (o + 14)) (fX4_22 hG).r rfl (ho.1 0 _ rfl) (ho.2 (0, 3, 14) (by decide)) dX4_copyFrom_38 ?_
  refine AW.iconst 0 dX4_copyFrom_41 (by decide) ?_
  refine AW.aload_n dX4_copyFrom_42 rfl ?_
  refine AW.getR (c' := (q + 14)) (fX4_22 hG).r rfl (hq.1 0 _ rfl) (hq.2 (0, 3, 14) (by decide)) dX4_copyFrom_43 ?_
  refine AW.iconst 0 dX4_copyFrom_46 (by decide) ?_
  refine AW.bipush 6 dX4_copyFrom_47 (by decide) ?_
  refine AW.copy (k_c hG 704 (by decide +kernel) (by decide +kernel)) (k_copy hG) dX4_copyFrom_49 (by omega) (Nat.le_of_ble_eq_true rfl) (ho.1 14 _ rfl) (hq.1 14 _ rfl) (by decide) (by decide) (by decide) (by decide) (by decide) ?_
  refine AW.namI (fun I49 eI49 => ?_)
  refine AW.aload_n dX4_copyFrom_52 rfl ?_
  refine AW.getR (c' := (o + 15)) (fX4_25 hG).r rfl (ho.1 0 _ rfl) (ho.2 (0, 4, 15) (by decide)) dX4_copyFrom_53 ?_
  refine AW.iconst 0 dX4_copyFrom_56 (by decide) ?_
  refine AW.aload_n dX4_copyFrom_57 rfl ?_
  refine AW.getR (c' := (q + 15)) (fX4_25 hG).r rfl (hq.1 0 _ rfl) (hq.2 (0, 4, 15) (by decide)) dX4_copyFrom_58 ?_
  refine AW.iconst 0 dX4_copyFrom_61 (by decide) ?_
  refine AW.bipush 6 dX4_copyFrom_62 (by decide) ?_
  refine AW.copy (k_c hG 704 (by decide +kernel) (by decide +kernel)) (k_copy hG) dX4_copyFrom_64 (by omega) (Nat.le_of_ble_eq_true rfl) (ho.1 15 _ rfl) (hq.1 15 _ rfl) (by decide) (by decide) (by decide) (by decide) (by decide) ?_
  refine AW.namI (fun I64 eI64 => ?_)
  refine AW.aload_n dX4_copyFrom_67 rfl ?_
  refine AW.getR (c' := (o + 16)) (fX4_28 hG).r rfl (ho.1 0 _ rfl) (ho.2 (0, 5, 16) (by decide)) dX4_copyFrom_68 ?_
  refine AW.iconst 0 dX4_copyFrom_71 (by decide) ?_
  refine AW.aload_n dX4_copyFrom_72 rfl ?_
  refine AW.getR (c' := (q + 16)) (fX4_28 hG).r rfl (hq.1 0 _ rfl) (hq.2 (0, 5, 16) (by decide)) dX4_copyFrom_73 ?_
  refine AW.iconst 0 dX4_copyFrom_76 (by decide) ?_
  refine AW.bipush 6 dX4_copyFrom_77 (by decide) ?_
  refine AW.copy (k_c hG 704 (by decide +kernel) (by decide +kernel)) (k_copy hG) dX4_copyFrom_79 (by omega) (Nat.le_of_ble_eq_true rfl) (ho.1 16 _ rfl) (hq.1 16 _ rfl) (by decide) (by decide) (by decide) (by decide) (by decide) ?_
  refine AW.namI (fun I79 eI79 => ?_)
  refine AW.aload_n dX4_copyFrom_82 rfl ?_
  refine AW.aload_n dX4_copyFrom_83 rfl ?_
  refine AW.getI (fX4_48 hG).r rfl (ho.1 0 _ rfl) dX4_copyFrom_84 ?_
  refine AW.putI (fX4_48 hG) rfl (vp_nar_int _) rfl (hq.1 0 _ rfl) dX4_copyFrom_87 ?_
  refine AW.namI (fun I87 eI87 => ?_)
  refine AW.aload_n dX4_copyFrom_90 rfl ?_
  refine AW.getR (c' := (o + 17)) (fX4_31 hG).r rfl (ho.1 0 _ rfl) (ho.2 (0, 7, 17) (by decide)) dX4_copyFrom_91 ?_
  refine AW.iconst 0 dX4_copyFrom_94 (by decide) ?_
  refine AW.aload_n dX4_copyFrom_95 rfl ?_
  refine AW.getR (c' := (q + 17)) (fX4_31 hG).r rfl (hq.1 0 _ rfl) (hq.2 (0, 7, 17) (by decide)) dX4_copyFrom_96 ?_
  refine AW.iconst 0 dX4_copyFrom_99 (by decide) ?_
  refine AW.iconst 4 dX4_copyFrom_100 (by decide) ?_
  refine AW.copy (k_c hG 704 (by decide +kernel) (by decide +kernel)) (k_copy hG) dX4_copyFrom_101 (by omega) (Nat.le_of_ble_eq_true rfl) (ho.1 17 _ rfl) (hq.1 17 _ rfl) (by decide) (by decide) (by decide) (by decide) (by decide) ?_
  refine AW.namI (fun I101 eI101 => ?_)
  refine AW.aload_n dX4_copyFrom_104 rfl ?_
  refine AW.getR (c' := (o + 18)) (fX4_34 hG).r rfl (ho.1 0 _ rfl) (ho.2 (0, 8, 18) (by decide)) dX4_copyFrom_105 ?_
  refine AW.iconst 0 dX4_copyFrom_108 (by decide) ?_
  refine AW.aload_n dX4_copyFrom_109 rfl ?_
  refine AW.getR (c' := (q + 18)) (fX4_34 hG).r rfl (hq.1 0 _ rfl) (hq.2 (0, 8, 18) (by decide)) dX4_copyFrom_110 ?_
  refine AW.iconst 0 dX4_copyFrom_113 (by decide) ?_
  refine AW.iconst 4 dX4_copyFrom_114 (by decide) ?_
  refine AW.copy (k_c hG 704 (by decide +kernel) (by decide +kernel)) (k_copy hG) dX4_copyFrom_115 (by omega) (Nat.le_of_ble_eq_true rfl) (ho.1 18 _ rfl) (hq.1 18 _ rfl) (by decide) (by decide) (by decide) (by decide) (by decide) ?_
  refine AW.namI (fun I115 eI115 => ?_)
  exact AW.vret dX4_copyFrom_118 rfl (by decide) (by decide) (⟨rfl, by rw [eI115, eI101, eI87, eI79, eI64, eI49, eI34, eI26, eI8]; simp (disch := omega) only [am_up_uA, am_uA_s, am_uA_o, am_uA_uA, f_scp_o, cl0, cl3, cl4, cl6]; rw [am_uA_c _ q (q + 14) _ _ (by omega), am_uA_c _ q (q + 15) _ _ (by omega), am_uA_c _ q (q + 16) _ _ (by omega), am_uA_uA]; rfl⟩)
