/-! TOWN AND LOAVES, WRITTEN; STORY; MEMORY -/
theorem k_lit {x : Int32} {n : Nat} (hx : x = nI n) (hn : n < 2 ^ 31) : x.toNatClampNeg = n := by rw [hx]; exact nI_clamp hn
theorem nI_ltl {n m : Nat} {x y : Int32} (hx : x = nI n) (hy : y = nI m) (hn : n < 2 ^ 31) (hm : m < 2 ^ 31) : x < y ↔ n < m := by rw [hx, hy]; exact nI_ltI hn hm
theorem nI_lel {n m : Nat} {x y : Int32} (hx : x = nI n) (hy : y = nI m) (hn : n < 2 ^ 31) (hm : m < 2 ^ 31) : x ≤ y ↔ n ≤ m := by rw [hx, hy]; exact nI_leI hn hm
def f_clr (I : Nat → Nat → Int32) (t : Nat) : Nat → Nat → Int32 := am_uA (am_uA (am_uA I t (upd (upd (upd (upd (I t) 0 0) 1 0) 2 365) 3 12)) (t + 8) (upd (I (t + 8)) 0 0)) (t + 16) (upd (I (t + 16)) 2 0)
theorem dX9_clear_0 : decode cX9_clear 0 = .ok (.aload_n 0, 1) := by decide +kernel
theorem dX9_clear_1 : decode cX9_clear 1 = .ok (.iconst 0, 1) := by decide +kernel
theorem dX9_clear_2 : decode cX9_clear 2 = .ok (.putfield 47, 3) := by decide +kernel
theorem dX9_clear_5 : decode cX9_clear 5 = .ok (.aload_n 0, 1) := by decide +kernel
theorem dX9_clear_6 : decode cX9_clear 6 = .ok (.iconst 0, 1) := by decide +kernel
theorem dX9_clear_7 : decode cX9_clear 7 = .ok (.putfield 51, 3) := by decide +kernel
theorem dX9_clear_10 : decode cX9_clear 10 = .ok (.aload_n 0, 1) := by decide +kernel
theorem dX9_clear_11 : decode cX9_clear 11 = .ok (.sipush 365, 3) := by decide +kernel
theorem dX9_clear_14 : decode cX9_clear 14 = .ok (.putfield 54, 3) := by decide +kernel
theorem dX9_clear_17 : decode cX9_clear 17 = .ok (.aload_n 0, 1) := by decide +kernel
theorem dX9_clear_18 : decode cX9_clear 18 = .ok (.bipush 12, 2) := by decide +kernel
theorem dX9_clear_20 : decode cX9_clear 20 = .ok (.putfield 57, 3) := by decide +kernel
theorem dX9_clear_23 : decode cX9_clear 23 = .ok (.aload_n 0, 1) := by decide +kernel
theorem dX9_clear_24 : decode cX9_clear 24 = .ok (.getfield 36, 3) := by decide +kernel
theorem dX9_clear_27 : decode cX9_clear 27 = .ok (.iconst 0, 1) := by decide +kernel
theorem dX9_clear_28 : decode cX9_clear 28 = .ok (.putfield 60, 3) := by decide +kernel
theorem dX9_clear_31 : decode cX9_clear 31 = .ok (.aload_n 0, 1) := by decide +kernel
theorem dX9_clear_32 : decode cX9_clear 32 = .ok (.getfield 43, 3) := by decide +kernel
theorem dX9_clear_35 : decode cX9_clear 35 = .ok (.iconst 0, 1) := by decide +kernel
theorem dX9_clear_36 : decode cX9_clear 36 = .ok (.putfield 63, 3) := by decide +kernel
theorem dX9_clear_39 : decode cX9_clear 39 = .ok (.return_, 1) := by decide +kernel
set_option maxRecDepth 100000 in
set_option maxHeartbeats 4000000 in
theorem k_X9_clear {G : am_G} (hK : k_OK G) {d : Nat} (hd : 0 ≤ d) {sh : List (Nat ⊕ (Nat × Nat))} {I : Nat → Nat → Int32} {R : Nat → Nat → Option Nat} {L : Nat → Nat → Int64} {g : Nat} {t : Nat} (ht : k_Town sh R t) : AM G mX9_clear d [.ref t] (sh, I, R, L, g) (fun v w => v = none ∧ w = (sh, f_clr I t, R, L, g)) (fun _ _ => False) := by
  have hG := hK.1
  refine AM.of (n := 0) (by decide +kernel) (Nat.le_of_ble_eq_true rfl) ?_
  show AW G mX9_clear d (fun v w => v = none ∧ w = (sh, f_clr I t, R, L, g)) (fun _ _ => False) 0 [some (.ref t)] [] (sh, I, R, L, g) 0 0
  refine AW.aload_n dX9_clear_0 rfl ?_
  refine AW.iconst 0 dX9_clear_1 (by decide) ?_
  refine AW.putI (fX9_47 hG) rfl (vp_nar_int _) rfl (ht.1 0 _ rfl) dX9_clear_2 ?_
  refine AW.namI (fun I2 eI2 => ?_)
  refine AW.aload_n dX9_clear_5 rfl ?_
  refine AW.iconst 0 dX9_clear_6 (by decide) ?_
  refine AW.putI (fX9_51 hG) rfl (vp_nar_int _) rfl (ht.1 0 _ rfl) dX9_clear_7 ?_
  refine AW.namI (fun I7 eI7 => ?_)
  refine AW.aload_n dX9_clear_10 rfl ?_
  refine AW.sipush 365 dX9_clear_11 (by decide) ?_
  refine AW.putI (fX9_54 hG) rfl (vp_nar_int _) rfl (ht.1 0 _ rfl) dX9_clear_14 ?_
  refine AW.namI (fun I14 eI14 => ?_)
  refine AW.aload_n dX9_clear_17 rfl ?_
  refine AW.bipush 12 dX9_clear_18 (by decide) ?_
  refine AW.putI (fX9_57 hG) rfl (vp_nar_int _) rfl (ht.1 0 _ rfl) dX9_clear_20 ?_
  refine AW.namI (fun I20 eI20 => ?_)
  refine AW.aload_n dX9_clear_23 rfl ?_
  refine AW.getR (c' := (t + 8)) (fX9_36 hG).r rfl (ht.1 0 _ rfl) (ht.2 (0, 11, 8) (by decide)) dX9_clear_24 ?_
  refine AW.iconst 0 dX9_clear_27 (by decide) ?_
  refine AW.putI (fX9_60 hG) rfl (vp_nar_int _) rfl (ht.1 8 _ rfl) dX9_clear_28 ?_
  refine AW.namI (fun I28 eI28 => ?_)
  refine AW.aload_n dX9_clear_31 rfl ?_
  refine AW.getR (c' := (t + 16)) (fX9_43 hG).r rfl (ht.1 0 _ rfl) (ht.2 (0, 12, 16) (by decide)) dX9_clear_32 ?_
  refine AW.iconst 0 dX9_clear_35 (by decide) ?_
  refine AW.putI (fX9_63 hG) rfl (vp_nar_int _) rfl (ht.1 16 _ rfl) dX9_clear_36 ?_
  refine AW.namI (fun I36 eI36 => ?_)
  exact AW.vret dX9_clear_39 rfl (by decide) (by decide) (⟨rfl, by subst eI36; subst eI28; subst eI20; subst eI14; subst eI7; subst eI2; simp (disch := omega) only [am_up_uA, am_uA_s, am_uA_o, am_uA_uA, cl0, cl6, cl8, cl64, cl40, cl3, cl4, cl39, cl1]; rfl⟩)
theorem dX9_addMet_0 : decode cX9_addMet 0 = .ok (.aload_n 0, 1) := by decide +kernel
theorem dX9_addMet_1 : decode cX9_addMet 1 = .ok (.getfield 51, 3) := by decide +kernel
theorem dX9_addMet_4 : decode cX9_addMet 4 = .ok (.bipush 16, 2) := by decide +kernel
theorem dX9_addMet_6 : decode cX9_addMet 6 = .ok (.if_icmp .ge 43, 3) := by decide +kernel
theorem dX9_addMet_9 : decode cX9_addMet 9 = .ok (.aload_n 0, 1) := by decide +kernel
theorem dX9_addMet_10 : decode cX9_addMet 10 = .ok (.getfield 24, 3) := by decide +kernel
theorem dX9_addMet_13 : decode cX9_addMet 13 = .ok (.aload_n 0, 1) := by decide +kernel
theorem dX9_addMet_14 : decode cX9_addMet 14 = .ok (.getfield 51, 3) := by decide +kernel
theorem dX9_addMet_17 : decode cX9_addMet 17 = .ok (.iload_n 1, 1) := by decide +kernel
theorem dX9_addMet_18 : decode cX9_addMet 18 = .ok (.iastore, 1) := by decide +kernel
theorem dX9_addMet_19 : decode cX9_addMet 19 = .ok (.aload_n 0, 1) := by decide +kernel
theorem dX9_addMet_20 : decode cX9_addMet 20 = .ok (.getfield 27, 3) := by decide +kernel
theorem dX9_addMet_23 : decode cX9_addMet 23 = .ok (.aload_n 0, 1) := by decide +kernel
theorem dX9_addMet_24 : decode cX9_addMet 24 = .ok (.getfield 51, 3) := by decide +kernel
theorem dX9_addMet_27 : decode cX9_addMet 27 = .ok (.iload_n 2, 1) := by decide +kernel
theorem dX9_addMet_28 : decode cX9_addMet 28 = .ok (.iastore, 1) := by decide +kernel
theorem dX9_addMet_29 : decode cX9_addMet 29 = .ok (.aload_n 0, 1) := by decide +kernel
theorem dX9_addMet_30 : decode cX9_addMet 30 = .ok (.getfield 30, 3) := by decide +kernel
theorem dX9_addMet_33 : decode cX9_addMet 33 = .ok (.aload_n 0, 1) := by decide +kernel
theorem dX9_addMet_34 : decode cX9_addMet 34 = .ok (.getfield 51, 3) := by decide +kernel
theorem dX9_addMet_37 : decode cX9_addMet 37 = .ok (.iload_n 3, 1) := by decide +kernel
theorem dX9_addMet_38 : decode cX9_addMet 38 = .ok (.iastore, 1) := by decide +kernel
theorem dX9_addMet_39 : decode cX9_addMet 39 = .ok (.aload_n 0, 1) := by decide +kernel
theorem dX9_addMet_40 : decode cX9_addMet 40 = .ok (.dup, 1) := by decide +kernel
theorem dX9_addMet_41 : decode cX9_addMet 41 = .ok (.getfield 51, 3) := by decide +kernel
theorem dX9_addMet_44 : decode cX9_addMet 44 = .ok (.iconst 1, 1) := by decide +kernel
theorem dX9_addMet_45 : decode cX9_addMet 45 = .ok (.iadd, 1) := by decide +kernel
theorem dX9_addMet_46 : decode cX9_addMet 46 = .ok (.putfield 51, 3) := by decide +kernel
theorem dX9_addMet_49 : decode cX9_addMet 49 = .ok (.return_, 1) := by decide +kernel
set_option maxRecDepth 100000 in
set_option maxHeartbeats 4000000 in
theorem k_X9_addMet {G : am_G} (hK : k_OK G) {d : Nat} (hd : 0 ≤ d) {sh : List (Nat ⊕ (Nat × Nat))} {I : Nat → Nat → Int32} {R : Nat → Nat → Option Nat} {L : Nat → Nat → Int64} {g : Nat} {t m : Nat} (ht : k_Town sh R t) (hm : I t 1 = nI m) (hm16 : m < 16) (a o d9 : Int32) : AM G mX9_addMet d [.ref t, .int a, .int o, .int d9] (sh, I, R, L, g) (fun v w => v = none ∧ w = (sh, am_uA (am_uA (am_uA (am_uA I (t + 5) (upd (I (t + 5)) m a)) (t + 6) (upd (I (t + 6)) m o)) (t + 7) (upd (I (t + 7)) m d9)) t (upd (I t) 1 (I t 1 + 1)), R, L, g)) (fun _ _ => False) := by
  have hG := hK.1
  have hcm := k_lit hm (by omega)
  have hbm : vp_in (I t 1) 16 := by rw [hm]; exact vp_in_nI hm16 (by decide)
  refine AM.of (n := 0) (by decide +kernel) (Nat.le_of_ble_eq_true rfl) ?_
  show AW G mX9_addMet d (fun v w => v = none ∧ w = (sh, am_uA (am_uA (am_uA (am_uA I (t + 5) (upd (I (t + 5)) m a)) (t + 6) (upd (I (t + 6)) m o)) (t + 7) (upd (I (t + 7)) m d9)) t (upd (I t) 1 (I t 1 + 1)), R, L, g)) (fun _ _ => False) 0 [some (.ref t), some (.int a), some (.int o), some (.int d9)] [] (sh, I, R, L, g) 0 0
  refine AW.aload_n dX9_addMet_0 rfl ?_
  refine AW.getI (fX9_51 hG).r rfl (ht.1 0 _ rfl) dX9_addMet_1 ?_
  refine AW.bipush 16 dX9_addMet_4 (by decide) ?_
  refine AW.icmp_ge 49 dX9_addMet_6 (by decide) (fun h6 => ?_) (fun h6 => ?_)
  · exact absurd ((nI_lel rfl hm (n := 16) (by decide) (by omega)).mp h6) (by omega)
  · refine AW.aload_n dX9_addMet_9 rfl ?_
    refine AW.getR (c' := (t + 5)) (fX9_24 hG).r rfl (ht.1 0 _ rfl) (ht.2 (0, 8, 5) (by decide)) dX9_addMet_10 ?_
    refine AW.aload_n dX9_addMet_13 rfl ?_
    refine AW.getI (fX9_51 hG).r rfl (ht.1 0 _ rfl) dX9_addMet_14 ?_
    refine AW.iload_n dX9_addMet_17 rfl ?_
    refine AW.iast (ht.1 5 _ rfl) (by first | assumption | exact vp_in_nI (by omega) (by decide)) dX9_addMet_18 ?_
    refine AW.namI (fun I18 eI18 => ?_)
    refine AW.aload_n dX9_addMet_19 rfl ?_
    refine AW.getR (c' := (t + 6)) (fX9_27 hG).r rfl (ht.1 0 _ rfl) (ht.2 (0, 9, 6) (by decide)) dX9_addMet_20 ?_
    refine AW.aload_n dX9_addMet_23 rfl ?_
    refine AW.getI (fX9_51 hG).r rfl (ht.1 0 _ rfl) dX9_addMet_24 ?_
    refine AW.iload_n dX9_addMet_27 rfl ?_
    refine AW.iast (ht.1 6 _ rfl) (by rw [eI18, am_up_o _ _ _ _ (by omega)]; exact hbm) dX9_addMet_28 ?_
    refine AW.namI (fun I28 eI28 => ?_)
    refine AW.aload_n dX9_addMet_29 rfl ?_
    refine AW.getR (c' := (t + 7)) (fX9_30 hG).r rfl (ht.1 0 _ rfl) (ht.2 (0, 10, 7) (by decide)) dX9_addMet_30 ?_
    refine AW.aload_n dX9_addMet_33 rfl ?_
    refine AW.getI (fX9_51 hG).r rfl (ht.1 0 _ rfl) dX9_addMet_34 ?_
    refine AW.iload_n dX9_addMet_37 rfl ?_
    refine AW.iast (ht.1 7 _ rfl) (by rw [eI28, am_up_o _ _ _ _ (by omega), eI18, am_up_o _ _ _ _ (by omega)]; exact hbm) dX9_addMet_38 ?_
    refine AW.namI (fun I38 eI38 => ?_)
    refine AW.aload_n dX9_addMet_39 rfl ?_
    refine AW.dup dX9_addMet_40 rfl ?_
    refine AW.getI (fX9_51 hG).r rfl (ht.1 0 _ rfl) dX9_addMet_41 ?_
    refine AW.iconst 1 dX9_addMet_44 (by decide) ?_
    refine AW.iadd dX9_addMet_45 ?_
    refine AW.putI (fX9_51 hG) rfl (vp_nar_int _) rfl (ht.1 0 _ rfl) dX9_addMet_46 ?_
    refine AW.namI (fun I46 eI46 => ?_)
    exact AW.vret dX9_addMet_49 rfl (by decide) (by decide) (⟨rfl, by subst eI46; subst eI38; subst eI28; subst eI18; simp (disch := omega) only [am_up_uA, am_uA_s, am_uA_o, am_uA_uA, cl0, cl6, cl8, cl64, cl40, cl3, cl4, cl39, cl1]; rw [hcm]⟩)
theorem dX3_eater_0 : decode cX3_eater 0 = .ok (.aload_n 0, 1) := by decide +kernel
theorem dX3_eater_1 : decode cX3_eater 1 = .ok (.getfield 30, 3) := by decide +kernel
theorem dX3_eater_4 : decode cX3_eater 4 = .ok (.iload_n 1, 1) := by decide +kernel
theorem dX3_eater_5 : decode cX3_eater 5 = .ok (.bipush 6, 2) := by decide +kernel
theorem dX3_eater_7 : decode cX3_eater 7 = .ok (.imul, 1) := by decide +kernel
theorem dX3_eater_8 : decode cX3_eater 8 = .ok (.iload_n 2, 1) := by decide +kernel
theorem dX3_eater_9 : decode cX3_eater 9 = .ok (.iadd, 1) := by decide +kernel
theorem dX3_eater_10 : decode cX3_eater 10 = .ok (.iaload, 1) := by decide +kernel
theorem dX3_eater_11 : decode cX3_eater 11 = .ok (.ireturn, 1) := by decide +kernel
set_option maxRecDepth 100000 in
set_option maxHeartbeats 4000000 in
theorem k_X3_eater {G : am_G} (hK : k_OK G) {d : Nat} (hd : 0 ≤ d) {sh : List (Nat ⊕ (Nat × Nat))} {I : Nat → Nat → Int32} {R : Nat → Nat → Option Nat} {L : Nat → Nat → Int64} {g : Nat} {l : Nat} (hl : k_Loaves sh R l) (x y : Int32) (hix : vp_in (x * 6 + y) 36) : AM G mX3_eater d [.ref l, .int x, .int y] (sh, I, R, L, g) (fun v w => v = some (.int (I (l + 7) (x * 6 + y).toNatClampNeg)) ∧ w = (sh, I, R, L, g)) (fun _ _ => False) := by
  have hG := hK.1
  refine AM.of (n := 0) (by decide +kernel) (Nat.le_of_ble_eq_true rfl) ?_
  show AW G mX3_eater d (fun v w => v = some (.int (I (l + 7) (x * 6 + y).toNatClampNeg)) ∧ w = (sh, I, R, L, g)) (fun _ _ => False) 0 [some (.ref l), some (.int x), some (.int y)] [] (sh, I, R, L, g) 0 0
  refine AW.aload_n dX3_eater_0 rfl ?_
  refine AW.getR (c' := (l + 7)) (fX3_30 hG).r rfl (hl.1 0 _ rfl) (hl.2 (0, 7, 7) (by decide)) dX3_eater_1 ?_
  refine AW.iload_n dX3_eater_4 rfl ?_
  refine AW.bipush 6 dX3_eater_5 (by decide) ?_
  refine AW.imul dX3_eater_7 ?_
  refine AW.iload_n dX3_eater_8 rfl ?_
  refine AW.iadd dX3_eater_9 ?_
  refine AW.iald (hl.1 7 _ rfl) (by first | assumption | exact vp_in_nI (by omega) (by decide)) dX3_eater_10 ?_
  exact AW.iret dX3_eater_11 rfl (by decide) (by decide) (⟨rfl, rfl⟩)
def f_perf (I : Nat → Nat → Int32) (t n b : Nat) (kd fi se : Int32) : Nat → Nat → Int32 :=
  if kd = 0 then am_uA I (b + 2) (upd (I (b + 2)) se.toNatClampNeg fi)
  else if kd = 1 then am_uA (am_uA I (b + 1) (f_ga (I (t + 4)) (f_wt (I (t + 4)) (((1 : Int32) <<< (fi &&& 31)) ||| ((1 : Int32) <<< (se &&& 31))) n) (I b 0) n (I (b + 1)) n)) (b + 3) (upd (I (b + 3)) se.toNatClampNeg (I (b + 3) se.toNatClampNeg + 1))
  else if kd = 2 then am_uA I (b + 1) (f_ga (I (t + 4)) (f_wt (I (t + 4)) fi n) (I b 0) n (I (b + 1)) n)
  else am_uA I b (f_pass (I b) fi)
theorem f_perf_o (I : Nat → Nat → Int32) (t n b : Nat) (kd fi se : Int32) {a : Nat} (h : a < b ∨ b + 4 ≤ a) : f_perf I t n b kd fi se a = I a := by
  unfold f_perf
  split
  · rw [am_uA_o _ _ _ (by omega)]
  · split
    · rw [am_uA_o _ _ _ (by omega), am_uA_o _ _ _ (by omega)]
    · split
      · rw [am_uA_o _ _ _ (by omega)]
      · rw [am_uA_o _ _ _ (by omega)]
theorem dX8_perform_0 : decode cX8_perform 0 = .ok (.aload_n 0, 1) := by decide +kernel
theorem dX8_perform_1 : decode cX8_perform 1 = .ok (.getfield 25, 3) := by decide +kernel
theorem dX8_perform_4 : decode cX8_perform 4 = .ok (.iload_n 3, 1) := by decide +kernel
theorem dX8_perform_5 : decode cX8_perform 5 = .ok (.iaload, 1) := by decide +kernel
theorem dX8_perform_6 : decode cX8_perform 6 = .ok (.istore 4, 2) := by decide +kernel
theorem dX8_perform_8 : decode cX8_perform 8 = .ok (.aload_n 0, 1) := by decide +kernel
theorem dX8_perform_9 : decode cX8_perform 9 = .ok (.getfield 28, 3) := by decide +kernel
theorem dX8_perform_12 : decode cX8_perform 12 = .ok (.iload_n 3, 1) := by decide +kernel
theorem dX8_perform_13 : decode cX8_perform 13 = .ok (.iaload, 1) := by decide +kernel
theorem dX8_perform_14 : decode cX8_perform 14 = .ok (.istore 5, 2) := by decide +kernel
theorem dX8_perform_16 : decode cX8_perform 16 = .ok (.aload_n 0, 1) := by decide +kernel
theorem dX8_perform_17 : decode cX8_perform 17 = .ok (.getfield 21, 3) := by decide +kernel
theorem dX8_perform_20 : decode cX8_perform 20 = .ok (.iload_n 3, 1) := by decide +kernel
theorem dX8_perform_21 : decode cX8_perform 21 = .ok (.iaload, 1) := by decide +kernel
theorem dX8_perform_22 : decode cX8_perform 22 = .ok (.tableswitch 84 0 2 #[26, 38, 70], 26) := by decide +kernel
theorem dX8_perform_48 : decode cX8_perform 48 = .ok (.aload_n 2, 1) := by decide +kernel
theorem dX8_perform_49 : decode cX8_perform 49 = .ok (.getfield 56, 3) := by decide +kernel
theorem dX8_perform_52 : decode cX8_perform 52 = .ok (.iload 5, 2) := by decide +kernel
theorem dX8_perform_54 : decode cX8_perform 54 = .ok (.iload 4, 2) := by decide +kernel
theorem dX8_perform_56 : decode cX8_perform 56 = .ok (.iastore, 1) := by decide +kernel
theorem dX8_perform_57 : decode cX8_perform 57 = .ok (.goto 55, 3) := by decide +kernel
theorem dX8_perform_60 : decode cX8_perform 60 = .ok (.aload_n 2, 1) := by decide +kernel
theorem dX8_perform_61 : decode cX8_perform 61 = .ok (.aload_n 1, 1) := by decide +kernel
theorem dX8_perform_62 : decode cX8_perform 62 = .ok (.iconst 1, 1) := by decide +kernel
theorem dX8_perform_63 : decode cX8_perform 63 = .ok (.iload 4, 2) := by decide +kernel
theorem dX8_perform_65 : decode cX8_perform 65 = .ok (.ishl, 1) := by decide +kernel
theorem dX8_perform_66 : decode cX8_perform 66 = .ok (.iconst 1, 1) := by decide +kernel
theorem dX8_perform_67 : decode cX8_perform 67 = .ok (.iload 5, 2) := by decide +kernel
theorem dX8_perform_69 : decode cX8_perform 69 = .ok (.ishl, 1) := by decide +kernel
theorem dX8_perform_70 : decode cX8_perform 70 = .ok (.ior, 1) := by decide +kernel
theorem dX8_perform_71 : decode cX8_perform 71 = .ok (.aload_n 2, 1) := by decide +kernel
theorem dX8_perform_72 : decode cX8_perform 72 = .ok (.getfield 59, 3) := by decide +kernel
theorem dX8_perform_75 : decode cX8_perform 75 = .ok (.invokevirtual 62, 3) := by decide +kernel
theorem dX8_perform_78 : decode cX8_perform 78 = .ok (.aload_n 2, 1) := by decide +kernel
theorem dX8_perform_79 : decode cX8_perform 79 = .ok (.getfield 66, 3) := by decide +kernel
theorem dX8_perform_82 : decode cX8_perform 82 = .ok (.iload 5, 2) := by decide +kernel
theorem dX8_perform_84 : decode cX8_perform 84 = .ok (.dup2, 1) := by decide +kernel
theorem dX8_perform_85 : decode cX8_perform 85 = .ok (.iaload, 1) := by decide +kernel
theorem dX8_perform_86 : decode cX8_perform 86 = .ok (.iconst 1, 1) := by decide +kernel
theorem dX8_perform_87 : decode cX8_perform 87 = .ok (.iadd, 1) := by decide +kernel
theorem dX8_perform_88 : decode cX8_perform 88 = .ok (.iastore, 1) := by decide +kernel
theorem dX8_perform_89 : decode cX8_perform 89 = .ok (.goto 23, 3) := by decide +kernel
theorem dX8_perform_92 : decode cX8_perform 92 = .ok (.aload_n 2, 1) := by decide +kernel
theorem dX8_perform_93 : decode cX8_perform 93 = .ok (.aload_n 1, 1) := by decide +kernel
theorem dX8_perform_94 : decode cX8_perform 94 = .ok (.iload 4, 2) := by decide +kernel
theorem dX8_perform_96 : decode cX8_perform 96 = .ok (.aload_n 2, 1) := by decide +kernel
theorem dX8_perform_97 : decode cX8_perform 97 = .ok (.getfield 59, 3) := by decide +kernel
theorem dX8_perform_100 : decode cX8_perform 100 = .ok (.invokevirtual 62, 3) := by decide +kernel
theorem dX8_perform_103 : decode cX8_perform 103 = .ok (.goto 9, 3) := by decide +kernel
theorem dX8_perform_106 : decode cX8_perform 106 = .ok (.aload_n 2, 1) := by decide +kernel
theorem dX8_perform_107 : decode cX8_perform 107 = .ok (.iload 4, 2) := by decide +kernel
theorem dX8_perform_109 : decode cX8_perform 109 = .ok (.invokevirtual 69, 3) := by decide +kernel
theorem dX8_perform_112 : decode cX8_perform 112 = .ok (.return_, 1) := by decide +kernel
set_option maxRecDepth 100000 in
set_option maxHeartbeats 4000000 in
theorem k_X8_perform {G : am_G} (hK : k_OK G) {d : Nat} (hd : 3 ≤ d) {sh : List (Nat ⊕ (Nat × Nat))} {I : Nat → Nat → Int32} {R : Nat → Nat → Option Nat} {L : Nat → Nat → Int64} {g : Nat} {s9 t b n : Nat} (hs : k_Story sh R s9) (ht : k_Town sh R t) (hb : k_Days sh R b) (hbt : b + 4 ≤ t ∨ t + 19 ≤ b) (hn : I t 0 = nI n) (hn8 : n ≤ 8) (j : Nat) (hj : j < 40) (h0 : I (s9 + 9) j = 0 → vp_in (I (s9 + 11) j) 6) (h1 : I (s9 + 9) j = 1 → vp_in (I (s9 + 11) j) 8) : AM G mX8_perform d [.ref s9, .ref t, .ref b, .int (nI j)] (sh, I, R, L, g) (fun v w => v = none ∧ w = (sh, f_perf I t n b (I (s9 + 9) j) (I (s9 + 10) j) (I (s9 + 11) j), R, L, g)) (fun _ _ => False) := by
  have hG := hK.1
  have hcj : (nI j).toNatClampNeg = j := nI_clamp (by omega)
  have hbj : vp_in (nI j) 40 := vp_in_nI hj (by decide)
  refine AM.of (n := 2) (by decide +kernel) (Nat.le_of_ble_eq_true rfl) ?_
  show AW G mX8_perform d (fun v w => v = none ∧ w = (sh, f_perf I t n b (I (s9 + 9) j) (I (s9 + 10) j) (I (s9 + 11) j), R, L, g)) (fun _ _ => False) 0 [some (.ref s9), some (.ref t), some (.ref b), some (.int (nI j)), none, none] [] (sh, I, R, L, g) 0 0
  refine AW.aload_n dX8_perform_0 rfl ?_
  refine AW.getR (c' := (s9 + 10)) (fX8_25 hG).r rfl (hs.1 0 _ rfl) (hs.2 (0, 3, 10) (by decide)) dX8_perform_1 ?_
  refine AW.iload_n dX8_perform_4 rfl ?_
  refine AW.iald (hs.1 10 _ rfl) (by first | assumption | exact vp_in_nI (by omega) (by decide)) dX8_perform_5 ?_
  refine AW.nam (fun x6 ex6 => ?_)
  refine AW.is [some (.ref s9), some (.ref t), some (.ref b), some (.int (nI j)), some (.int x6), none] dX8_perform_6 (by decide) rfl rfl ?_
  refine AW.aload_n dX8_perform_8 rfl ?_
  refine AW.getR (c' := (s9 + 11)) (fX8_28 hG).r rfl (hs.1 0 _ rfl) (hs.2 (0, 4, 11) (by decide)) dX8_perform_9 ?_
  refine AW.iload_n dX8_perform_12 rfl ?_
  refine AW.iald (hs.1 11 _ rfl) (by first | assumption | exact vp_in_nI (by omega) (by decide)) dX8_perform_13 ?_
  refine AW.nam (fun x14 ex14 => ?_)
  refine AW.is [some (.ref s9), some (.ref t), some (.ref b), some (.int (nI j)), some (.int x6), some (.int x14)] dX8_perform_14 (by decide) rfl rfl ?_
  refine AW.aload_n dX8_perform_16 rfl ?_
  refine AW.getR (c' := (s9 + 9)) (fX8_21 hG).r rfl (hs.1 0 _ rfl) (hs.2 (0, 2, 9) (by decide)) dX8_perform_17 ?_
  refine AW.iload_n dX8_perform_20 rfl ?_
  refine AW.iald (hs.1 9 _ rfl) (by first | assumption | exact vp_in_nI (by omega) (by decide)) dX8_perform_21 ?_
  refine AW.nam (fun x22 ex22 => ?_)
  by_cases hs22_0 : x22 = 0
  · subst hs22_0
    refine AW.tabIn 48 dX8_perform_22 (by decide) (by decide) rfl (by decide) ?_
    rw [hcj] at ex22 ex6 ex14
    have hb14 : vp_in x14 6 := by rw [ex14]; exact h0 ex22.symm
    refine AW.aload_n dX8_perform_48 rfl ?_
    refine AW.getR (c' := (b + 2)) (fX8_56 hG) rfl (hb.1 0 _ rfl) (hb.2 (0, 3, 2) (by decide)) dX8_perform_49 ?_
    refine AW.iload dX8_perform_52 rfl ?_
    refine AW.iload dX8_perform_54 rfl ?_
    refine AW.iast (hb.1 2 _ rfl) (by first | assumption | exact vp_in_nI (by omega) (by decide)) dX8_perform_56 ?_
    refine AW.namI (fun I56 eI56 => ?_)
    refine AW.goto 112 dX8_perform_57 (by decide) ?_
    exact AW.vret dX8_perform_112 rfl (by decide) (by decide) (⟨rfl, by rw [f_perf, if_pos ex22.symm, eI56, ex14, ex6]; rfl⟩)
  by_cases hs22_1 : x22 = 1
  · subst hs22_1
    refine AW.tabIn 60 dX8_perform_22 (by decide) (by decide) rfl (by decide) ?_
    rw [hcj] at ex22 ex6 ex14
    have hb14 : vp_in x14 8 := by rw [ex14]; exact h1 ex22.symm
    refine AW.aload_n dX8_perform_60 rfl ?_
    refine AW.aload_n dX8_perform_61 rfl ?_
    refine AW.iconst 1 dX8_perform_62 (by decide) ?_
    refine AW.iload dX8_perform_63 rfl ?_
    refine AW.ishl dX8_perform_65 ?_
    refine AW.iconst 1 dX8_perform_66 (by decide) ?_
    refine AW.iload dX8_perform_67 rfl ?_
    refine AW.ishl dX8_perform_69 ?_
    refine AW.ior dX8_perform_70 ?_
    refine AW.aload_n dX8_perform_71 rfl ?_
    refine AW.getI (fX8_59 hG).r rfl (hb.1 0 _ rfl) dX8_perform_72 ?_
    refine AW.callV (b := b) (As := [.ref t, .int ((1 <<< (x6 &&& 31)) ||| (1 <<< (x14 &&& 31))), .int (I b 0)]) hG.2.2 (vX8_62 hG) (hb.1 0 _ rfl) (k_X2_gather hK (d := 2) (Nat.le_refl _) hb ht (by omega) (by assumption) (by assumption) ((1 <<< (x6 &&& 31)) ||| (1 <<< (x14 &&& 31))) (I b 0)) (by omega) dX8_perform_75 rfl rfl (Nat.le_of_ble_eq_true rfl) (fun v w9 hq9 h09 => by obtain ⟨rfl, rfl⟩ := hq9; exact ⟨h09, rfl⟩) (by decide) (by decide) (fun _ _ hx => hx) (fun v75 w75 hq75 => ?_)
    obtain ⟨rfl, rfl⟩ := hq75
    refine AW.namI (fun I75 eI75 => ?_)
    show AW G mX8_perform d (fun v w => v = none ∧ w = (sh, f_perf I t n b (I (s9 + 9) j) (I (s9 + 10) j) (I (s9 + 11) j), R, L, g)) (fun _ _ => False) 78 [some (.ref s9), some (.ref t), some (.ref b), some (.int (nI j)), some (.int x6), some (.int x14)] [] (sh, I75, R, L, g) 0 0
    refine AW.aload_n dX8_perform_78 rfl ?_
    refine AW.getR (c' := (b + 3)) (fX8_66 hG) rfl (hb.1 0 _ rfl) (hb.2 (0, 4, 3) (by decide)) dX8_perform_79 ?_
    refine AW.iload dX8_perform_82 rfl ?_
    refine AW.dup2 dX8_perform_84 rfl rfl ?_
    refine AW.iald (hb.1 3 _ rfl) (by first | assumption | exact vp_in_nI (by omega) (by decide)) dX8_perform_85 ?_
    refine AW.iconst 1 dX8_perform_86 (by decide) ?_
    refine AW.iadd dX8_perform_87 ?_
    refine AW.iast (hb.1 3 _ rfl) (by first | assumption | exact vp_in_nI (by omega) (by decide)) dX8_perform_88 ?_
    refine AW.namI (fun I88 eI88 => ?_)
    refine AW.goto 112 dX8_perform_89 (by decide) ?_
    exact AW.vret dX8_perform_112 rfl (by decide) (by decide) (⟨rfl, by rw [f_perf, if_neg (by rw [← ex22]; decide), if_pos ex22.symm, eI88, eI75, ex14, ex6]; simp (disch := omega) only [am_up_uA, am_uA_s, am_uA_o, am_uA_uA, cl0, cl6, cl8, cl64, cl40, cl3, cl4, cl39, cl1]⟩)
  by_cases hs22_2 : x22 = 2
  · subst hs22_2
    refine AW.tabIn 92 dX8_perform_22 (by decide) (by decide) rfl (by decide) ?_
    rw [hcj] at ex22 ex6 ex14
    refine AW.aload_n dX8_perform_92 rfl ?_
    refine AW.aload_n dX8_perform_93 rfl ?_
    refine AW.iload dX8_perform_94 rfl ?_
    refine AW.aload_n dX8_perform_96 rfl ?_
    refine AW.getI (fX8_59 hG).r rfl (hb.1 0 _ rfl) dX8_perform_97 ?_
    refine AW.callV (b := b) (As := [.ref t, .int x6, .int (I b 0)]) hG.2.2 (vX8_62 hG) (hb.1 0 _ rfl) (k_X2_gather hK (d := 2) (Nat.le_refl _) hb ht (by omega) (by assumption) (by assumption) x6 (I b 0)) (by omega) dX8_perform_100 rfl rfl (Nat.le_of_ble_eq_true rfl) (fun v w9 hq9 h09 => by obtain ⟨rfl, rfl⟩ := hq9; exact ⟨h09, rfl⟩) (by decide) (by decide) (fun _ _ hx => hx) (fun v100 w100 hq100 => ?_)
    obtain ⟨rfl, rfl⟩ := hq100
    refine AW.namI (fun I100 eI100 => ?_)
    show AW G mX8_perform d (fun v w => v = none ∧ w = (sh, f_perf I t n b (I (s9 + 9) j) (I (s9 + 10) j) (I (s9 + 11) j), R, L, g)) (fun _ _ => False) 103 [some (.ref s9), some (.ref t), some (.ref b), some (.int (nI j)), some (.int x6), some (.int x14)] [] (sh, I100, R, L, g) 0 0
    refine AW.goto 112 dX8_perform_103 (by decide) ?_
    exact AW.vret dX8_perform_112 rfl (by decide) (by decide) (⟨rfl, by rw [f_perf, if_neg (by rw [← ex22]; decide), if_neg (by rw [← ex22]; decide), if_pos ex22.symm, eI100, ex6]⟩)
  have ht22 : x22.toInt < 0 ∨ 2 < x22.toInt := by
    have h90 : ¬ x22.toInt = 0 := fun h => hs22_0 (Int32.toInt_inj.mp (h.trans (by decide)))
    have h91 : ¬ x22.toInt = 1 := fun h => hs22_1 (Int32.toInt_inj.mp (h.trans (by decide)))
    have h92 : ¬ x22.toInt = 2 := fun h => hs22_2 (Int32.toInt_inj.mp (h.trans (by decide)))
    omega
  refine AW.tabOut 106 dX8_perform_22 ht22 (by decide) ?_
  rw [hcj] at ex22 ex6 ex14
  refine AW.aload_n dX8_perform_106 rfl ?_
  refine AW.iload dX8_perform_107 rfl ?_
  refine AW.callV (b := b) (As := [.int x6]) hG.2.2 (vX8_69 hG) (hb.1 0 _ rfl) (k_X2_pass hK (d := 1) (Nat.le_refl _) hb x6) (by omega) dX8_perform_109 rfl rfl (Nat.le_of_ble_eq_true rfl) (fun v w9 hq9 h09 => by obtain ⟨rfl, rfl⟩ := hq9; exact ⟨h09, rfl⟩) (by decide) (by decide) (fun _ _ hx => hx) (fun v109 w109 hq109 => ?_)
  obtain ⟨rfl, rfl⟩ := hq109
  refine AW.namI (fun I109 eI109 => ?_)
  show AW G mX8_perform d (fun v w => v = none ∧ w = (sh, f_perf I t n b (I (s9 + 9) j) (I (s9 + 10) j) (I (s9 + 11) j), R, L, g)) (fun _ _ => False) 112 [some (.ref s9), some (.ref t), some (.ref b), some (.int (nI j)), some (.int x6), some (.int x14)] [] (sh, I109, R, L, g) 0 0
  exact AW.vret dX8_perform_112 rfl (by decide) (by decide) (⟨rfl, by rw [f_perf, if_neg (by rw [← ex22]; exact hs22_0), if_neg (by rw [← ex22]; exact hs22_1), if_neg (by rw [← ex22]; exact hs22_2), eI109, ex6]⟩)
