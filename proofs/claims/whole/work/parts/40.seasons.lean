/-! COUNTS, SEASONS, CLUES, SLICES -/
def f_nx (s : Int32) : Int32 := s * 1103515245 + 12345
def f_dn (s n : Int32) : Int32 := if 0 < n then (s >>> ((16 : Int32) &&& 31) &&& 32767) - (s >>> ((16 : Int32) &&& 31) &&& 32767) / n * n else 0
def f_lw (cu : Nat → Int32) (m : Nat) : Int32 := lfold (fun l a => if ¬ cu l = 0 then a + 1 else a) 0 m
theorem dX10_nextSeed_0 : decode cX10_nextSeed 0 = .ok (.iload_n 0, 1) := by decide +kernel
theorem dX10_nextSeed_1 : decode cX10_nextSeed 1 = .ok (.ldc_w 407, 3) := by decide +kernel
theorem dX10_nextSeed_4 : decode cX10_nextSeed 4 = .ok (.imul, 1) := by decide +kernel
theorem dX10_nextSeed_5 : decode cX10_nextSeed 5 = .ok (.sipush 12345, 3) := by decide +kernel
theorem dX10_nextSeed_8 : decode cX10_nextSeed 8 = .ok (.iadd, 1) := by decide +kernel
theorem dX10_nextSeed_9 : decode cX10_nextSeed 9 = .ok (.ireturn, 1) := by decide +kernel
set_option maxRecDepth 100000 in
set_option maxHeartbeats 4000000 in
theorem k_X10_nextSeed {G : am_G} (hK : k_OK G) {d : Nat} (hd : 0 ≤ d) {sh : List (Nat ⊕ (Nat × Nat))} {I : Nat → Nat → Int32} {R : Nat → Nat → Option Nat} {L : Nat → Nat → Int64} {g : Nat} (s : Int32) : AM G mX10_nextSeed d [.int s] (sh, I, R, L, g) (fun v w => v = some (.int (f_nx s)) ∧ w = (sh, I, R, L, g)) (fun _ _ => False) := by
  have hG := hK.1
  refine AM.of (n := 0) (by decide +kernel) (Nat.le_of_ble_eq_true rfl) ?_
  show AW G mX10_nextSeed d (fun v w => v = some (.int (f_nx s)) ∧ w = (sh, I, R, L, g)) (fun _ _ => False) 0 [some (.int s)] [] (sh, I, R, L, g) 0 0
  refine AW.iload_n dX10_nextSeed_0 rfl ?_
  refine AW.ldc_w 1103515245 dX10_nextSeed_1 (k_c hG 1448 (by decide +kernel) (by decide +kernel)) ?_
  refine AW.imul dX10_nextSeed_4 ?_
  refine AW.sipush 12345 dX10_nextSeed_5 (by decide) ?_
  refine AW.iadd dX10_nextSeed_8 ?_
  exact AW.iret dX10_nextSeed_9 rfl (by decide) (by decide) (⟨rfl, rfl⟩)
theorem dX10_drawn_0 : decode cX10_drawn 0 = .ok (.iload_n 1, 1) := by decide +kernel
theorem dX10_drawn_1 : decode cX10_drawn 1 = .ok (.ifCond .gt 7, 3) := by decide +kernel
theorem dX10_drawn_4 : decode cX10_drawn 4 = .ok (.iconst 0, 1) := by decide +kernel
theorem dX10_drawn_5 : decode cX10_drawn 5 = .ok (.goto 13, 3) := by decide +kernel
theorem dX10_drawn_8 : decode cX10_drawn 8 = .ok (.iload_n 0, 1) := by decide +kernel
theorem dX10_drawn_9 : decode cX10_drawn 9 = .ok (.bipush 16, 2) := by decide +kernel
theorem dX10_drawn_11 : decode cX10_drawn 11 = .ok (.ishr, 1) := by decide +kernel
theorem dX10_drawn_12 : decode cX10_drawn 12 = .ok (.sipush 32767, 3) := by decide +kernel
theorem dX10_drawn_15 : decode cX10_drawn 15 = .ok (.iand, 1) := by decide +kernel
theorem dX10_drawn_16 : decode cX10_drawn 16 = .ok (.iload_n 1, 1) := by decide +kernel
theorem dX10_drawn_17 : decode cX10_drawn 17 = .ok (.irem, 1) := by decide +kernel
theorem dX10_drawn_18 : decode cX10_drawn 18 = .ok (.ireturn, 1) := by decide +kernel
set_option maxRecDepth 100000 in
set_option maxHeartbeats 4000000 in
theorem k_X10_drawn {G : am_G} (hK : k_OK G) {d : Nat} (hd : 0 ≤ d) {sh : List (Nat ⊕ (Nat × Nat))} {I : Nat → Nat → Int32} {R : Nat → Nat → Option Nat} {L : Nat → Nat → Int64} {g : Nat} (s n : Int32) : AM G mX10_drawn d [.int s, .int n] (sh, I, R, L, g) (fun v w => v = some (.int (f_dn s n)) ∧ w = (sh, I, R, L, g)) (fun _ _ => False) := by
  have hG := hK.1
  refine AM.of (n := 0) (by decide +kernel) (Nat.le_of_ble_eq_true rfl) ?_
  show AW G mX10_drawn d (fun v w => v = some (.int (f_dn s n)) ∧ w = (sh, I, R, L, g)) (fun _ _ => False) 0 [some (.int s), some (.int n)] [] (sh, I, R, L, g) 0 0
  refine AW.iload_n dX10_drawn_0 rfl ?_
  refine AW.if_gt 8 dX10_drawn_1 (by decide) (fun h1 => ?_) (fun h1 => ?_)
  · refine AW.iload_n dX10_drawn_8 rfl ?_
    refine AW.bipush 16 dX10_drawn_9 (by decide) ?_
    refine AW.ishr dX10_drawn_11 ?_
    refine AW.sipush 32767 dX10_drawn_12 (by decide) ?_
    refine AW.iand dX10_drawn_15 ?_
    refine AW.iload_n dX10_drawn_16 rfl ?_
    refine AW.irem dX10_drawn_17 (fun h => by rw [h] at h1; exact absurd h1 (by decide)) ?_
    exact AW.iret dX10_drawn_18 rfl (by decide) (by decide) (⟨by rw [f_dn, if_pos h1], rfl⟩)
  · refine AW.iconst 0 dX10_drawn_4 (by decide) ?_
    refine AW.goto 18 dX10_drawn_5 (by decide) ?_
    exact AW.iret dX10_drawn_18 rfl (by decide) (by decide) (⟨by rw [f_dn, if_neg h1], rfl⟩)
def f_mc (I : Nat → Nat → Int32) (t n : Nat) (s : Int32) : Nat → Nat → Int32 := if I t 0 = 0 then I else if f_dn (f_nx s) (I t 0) = f_dn (f_nx (f_nx s)) (I t 0) then I else am_uA I 98 (f_ga (I (t + 4)) (f_wt (I (t + 4)) (((1 : Int32) <<< (f_dn (f_nx s) (I t 0) &&& 31)) ||| ((1 : Int32) <<< (f_dn (f_nx (f_nx s)) (I t 0) &&& 31))) n) (I 97 0) n (I 98) n)
def f_ms (I : Nat → Nat → Int32) (t : Nat) (s : Int32) : Int32 := if I t 0 = 0 then s else f_nx (f_nx s)
theorem dX10_meetByChance_0 : decode cX10_meetByChance 0 = .ok (.aload_n 0, 1) := by decide +kernel
theorem dX10_meetByChance_1 : decode cX10_meetByChance 1 = .ok (.getfield 19, 3) := by decide +kernel
theorem dX10_meetByChance_4 : decode cX10_meetByChance 4 = .ok (.getfield 119, 3) := by decide +kernel
theorem dX10_meetByChance_7 : decode cX10_meetByChance 7 = .ok (.ifCond .ne 5, 3) := by decide +kernel
theorem dX10_meetByChance_10 : decode cX10_meetByChance 10 = .ok (.iload_n 1, 1) := by decide +kernel
theorem dX10_meetByChance_11 : decode cX10_meetByChance 11 = .ok (.ireturn, 1) := by decide +kernel
theorem dX10_meetByChance_12 : decode cX10_meetByChance 12 = .ok (.iload_n 1, 1) := by decide +kernel
theorem dX10_meetByChance_13 : decode cX10_meetByChance 13 = .ok (.invokestatic 397, 3) := by decide +kernel
theorem dX10_meetByChance_16 : decode cX10_meetByChance 16 = .ok (.istore_n 2, 1) := by decide +kernel
theorem dX10_meetByChance_17 : decode cX10_meetByChance 17 = .ok (.iload_n 2, 1) := by decide +kernel
theorem dX10_meetByChance_18 : decode cX10_meetByChance 18 = .ok (.invokestatic 397, 3) := by decide +kernel
theorem dX10_meetByChance_21 : decode cX10_meetByChance 21 = .ok (.istore_n 3, 1) := by decide +kernel
theorem dX10_meetByChance_22 : decode cX10_meetByChance 22 = .ok (.iload_n 2, 1) := by decide +kernel
theorem dX10_meetByChance_23 : decode cX10_meetByChance 23 = .ok (.aload_n 0, 1) := by decide +kernel
theorem dX10_meetByChance_24 : decode cX10_meetByChance 24 = .ok (.getfield 19, 3) := by decide +kernel
theorem dX10_meetByChance_27 : decode cX10_meetByChance 27 = .ok (.getfield 119, 3) := by decide +kernel
theorem dX10_meetByChance_30 : decode cX10_meetByChance 30 = .ok (.invokestatic 400, 3) := by decide +kernel
theorem dX10_meetByChance_33 : decode cX10_meetByChance 33 = .ok (.istore 4, 2) := by decide +kernel
theorem dX10_meetByChance_35 : decode cX10_meetByChance 35 = .ok (.iload_n 3, 1) := by decide +kernel
theorem dX10_meetByChance_36 : decode cX10_meetByChance 36 = .ok (.aload_n 0, 1) := by decide +kernel
theorem dX10_meetByChance_37 : decode cX10_meetByChance 37 = .ok (.getfield 19, 3) := by decide +kernel
theorem dX10_meetByChance_40 : decode cX10_meetByChance 40 = .ok (.getfield 119, 3) := by decide +kernel
theorem dX10_meetByChance_43 : decode cX10_meetByChance 43 = .ok (.invokestatic 400, 3) := by decide +kernel
theorem dX10_meetByChance_46 : decode cX10_meetByChance 46 = .ok (.istore 5, 2) := by decide +kernel
theorem dX10_meetByChance_48 : decode cX10_meetByChance 48 = .ok (.iload 4, 2) := by decide +kernel
theorem dX10_meetByChance_50 : decode cX10_meetByChance 50 = .ok (.iload 5, 2) := by decide +kernel
theorem dX10_meetByChance_52 : decode cX10_meetByChance 52 = .ok (.if_icmp .eq 30, 3) := by decide +kernel
theorem dX10_meetByChance_55 : decode cX10_meetByChance 55 = .ok (.aload_n 0, 1) := by decide +kernel
theorem dX10_meetByChance_56 : decode cX10_meetByChance 56 = .ok (.getfield 68, 3) := by decide +kernel
theorem dX10_meetByChance_59 : decode cX10_meetByChance 59 = .ok (.aload_n 0, 1) := by decide +kernel
theorem dX10_meetByChance_60 : decode cX10_meetByChance 60 = .ok (.getfield 19, 3) := by decide +kernel
theorem dX10_meetByChance_63 : decode cX10_meetByChance 63 = .ok (.iconst 1, 1) := by decide +kernel
theorem dX10_meetByChance_64 : decode cX10_meetByChance 64 = .ok (.iload 4, 2) := by decide +kernel
theorem dX10_meetByChance_66 : decode cX10_meetByChance 66 = .ok (.ishl, 1) := by decide +kernel
theorem dX10_meetByChance_67 : decode cX10_meetByChance 67 = .ok (.iconst 1, 1) := by decide +kernel
theorem dX10_meetByChance_68 : decode cX10_meetByChance 68 = .ok (.iload 5, 2) := by decide +kernel
theorem dX10_meetByChance_70 : decode cX10_meetByChance 70 = .ok (.ishl, 1) := by decide +kernel
theorem dX10_meetByChance_71 : decode cX10_meetByChance 71 = .ok (.ior, 1) := by decide +kernel
theorem dX10_meetByChance_72 : decode cX10_meetByChance 72 = .ok (.aload_n 0, 1) := by decide +kernel
theorem dX10_meetByChance_73 : decode cX10_meetByChance 73 = .ok (.getfield 68, 3) := by decide +kernel
theorem dX10_meetByChance_76 : decode cX10_meetByChance 76 = .ok (.getfield 137, 3) := by decide +kernel
theorem dX10_meetByChance_79 : decode cX10_meetByChance 79 = .ok (.invokevirtual 403, 3) := by decide +kernel
theorem dX10_meetByChance_82 : decode cX10_meetByChance 82 = .ok (.iload_n 3, 1) := by decide +kernel
theorem dX10_meetByChance_83 : decode cX10_meetByChance 83 = .ok (.ireturn, 1) := by decide +kernel
set_option maxRecDepth 100000 in
set_option maxHeartbeats 4000000 in
theorem k_X10_meetByChance {G : am_G} (hK : k_OK G) {d : Nat} (hd : 4 ≤ d) {sh : List (Nat ⊕ (Nat × Nat))} {I : Nat → Nat → Int32} {R : Nat → Nat → Option Nat} {L : Nat → Nat → Int64} {g : Nat} (hXS : k_XS G) {t : Nat} (hM : k_Main sh R) (hRt : R 0 1 = some t) (ht3 : t = 3 ∨ t = 22) {n : Nat} (hn : I t 0 = nI n) (hn8 : n ≤ 8) (s : Int32) : AM G mX10_meetByChance d [.ref 0, .int s] (sh, I, R, L, g) (fun v w => v = some (.int (f_ms I t s)) ∧ w = (sh, f_mc I t n s, R, L, g)) (fun _ _ => False) := by
  have hG := hK.1
  have ht : k_Town sh R t := by rcases ht3 with rfl | rfl; exact kM_3 hM; exact kM_22 hM
  have o41 := kM_41 hM
  have o42 := kM_42 hM
  have o43 := kM_43 hM
  have o47 := kM_47 hM
  have o60 := kM_60 hM
  have o90 := kM_90 hM
  have o93 := kM_93 hM
  have o97 := kM_97 hM
  have o79 := kM_79 hM
  have o1 := kM_1 hM
  refine AM.of (n := 4) (by decide +kernel) (Nat.le_of_ble_eq_true rfl) ?_
  show AW G mX10_meetByChance d (fun v w => v = some (.int (f_ms I t s)) ∧ w = (sh, f_mc I t n s, R, L, g)) (fun _ _ => False) 0 [some (.ref 0), some (.int s), none, none, none, none] [] (sh, I, R, L, g) 0 0
  refine AW.aload_n dX10_meetByChance_0 rfl ?_
  refine AW.getR (fX10_19 hG).r rfl (hM.1 0 _ rfl) hRt dX10_meetByChance_1 ?_
  refine AW.getI (fX10_119 hG).r rfl (ht.1 0 _ rfl) dX10_meetByChance_4 ?_
  refine AW.if_ne 12 dX10_meetByChance_7 (by decide) (fun h7 => ?_) (fun h7 => ?_)
  · refine AW.iload_n dX10_meetByChance_12 rfl ?_
    refine AW.callS (As := [.int s]) hG.2.2 (vX10_397 hG) (k_X10_nextSeed hK (d := 0) (Nat.le_refl _) s) (by omega) dX10_meetByChance_13 rfl rfl (Nat.le_of_ble_eq_true rfl) (fun v w9 hq9 h09 => by obtain ⟨rfl, rfl⟩ := hq9; exact ⟨h09, rfl⟩) (by decide) (by decide) (fun _ _ hx => hx) (fun v13 w13 hq13 => ?_)
    obtain ⟨rfl, rfl⟩ := hq13
    refine AW.nam (fun x13 ex13 => ?_)
    refine AW.is_n [some (.ref 0), some (.int s), some (.int x13), none, none, none] dX10_meetByChance_16 (by decide) rfl rfl ?_
    refine AW.iload_n dX10_meetByChance_17 rfl ?_
    refine AW.callS (As := [.int x13]) hG.2.2 (vX10_397 hG) (k_X10_nextSeed hK (d := 0) (Nat.le_refl _) x13) (by omega) dX10_meetByChance_18 rfl rfl (Nat.le_of_ble_eq_true rfl) (fun v w9 hq9 h09 => by obtain ⟨rfl, rfl⟩ := hq9; exact ⟨h09, rfl⟩) (by decide) (by decide) (fun _ _ hx => hx) (fun v18 w18 hq18 => ?_)
    obtain ⟨rfl, rfl⟩ := hq18
    refine AW.nam (fun x18 ex18 => ?_)
    refine AW.is_n [some (.ref 0), some (.int s), some (.int x13), some (.int x18), none, none] dX10_meetByChance_21 (by decide) rfl rfl ?_
    refine AW.iload_n dX10_meetByChance_22 rfl ?_
    refine AW.aload_n dX10_meetByChance_23 rfl ?_
    refine AW.getR (fX10_19 hG).r rfl (hM.1 0 _ rfl) hRt dX10_meetByChance_24 ?_
    refine AW.getI (fX10_119 hG).r rfl (ht.1 0 _ rfl) dX10_meetByChance_27 ?_
    refine AW.callS (As := [.int x13, .int (I t 0)]) hG.2.2 (vX10_400 hG) (k_X10_drawn hK (d := 0) (Nat.le_refl _) x13 (I t 0)) (by omega) dX10_meetByChance_30 rfl rfl (Nat.le_of_ble_eq_true rfl) (fun v w9 hq9 h09 => by obtain ⟨rfl, rfl⟩ := hq9; exact ⟨h09, rfl⟩) (by decide) (by decide) (fun _ _ hx => hx) (fun v30 w30 hq30 => ?_)
    obtain ⟨rfl, rfl⟩ := hq30
    refine AW.nam (fun x30 ex30 => ?_)
    refine AW.is [some (.ref 0), some (.int s), some (.int x13), some (.int x18), some (.int x30), none] dX10_meetByChance_33 (by decide) rfl rfl ?_
    refine AW.iload_n dX10_meetByChance_35 rfl ?_
    refine AW.aload_n dX10_meetByChance_36 rfl ?_
    refine AW.getR (fX10_19 hG).r rfl (hM.1 0 _ rfl) hRt dX10_meetByChance_37 ?_
    refine AW.getI (fX10_119 hG).r rfl (ht.1 0 _ rfl) dX10_meetByChance_40 ?_
    refine AW.callS (As := [.int x18, .int (I t 0)]) hG.2.2 (vX10_400 hG) (k_X10_drawn hK (d := 0) (Nat.le_refl _) x18 (I t 0)) (by omega) dX10_meetByChance_43 rfl rfl (Nat.le_of_ble_eq_true rfl) (fun v w9 hq9 h09 => by obtain ⟨rfl, rfl⟩ := hq9; exact ⟨h09, rfl⟩) (by decide) (by decide) (fun _ _ hx => hx) (fun v43 w43 hq43 => ?_)
    obtain ⟨rfl, rfl⟩ := hq43
    refine AW.nam (fun x43 ex43 => ?_)
    refine AW.is [some (.ref 0), some (.int s), some (.int x13), some (.int x18), some (.int x30), some (.int x43)] dX10_meetByChance_46 (by decide) rfl rfl ?_
    refine AW.iload dX10_meetByChance_48 rfl ?_
    refine AW.iload dX10_meetByChance_50 rfl ?_
    refine AW.icmp_eq 82 dX10_meetByChance_52 (by decide) (fun h52 => ?_) (fun h52 => ?_)
    · rw [ex30, ex43, ex18, ex13] at h52
      refine AW.iload_n dX10_meetByChance_82 rfl ?_
      exact AW.iret dX10_meetByChance_83 rfl (by decide) (by decide) (⟨by rw [f_ms, if_neg h7, ex18, ex13], by rw [f_mc, if_neg h7, if_pos h52]⟩)
    · rw [ex30, ex43, ex18, ex13] at h52
      refine AW.aload_n dX10_meetByChance_55 rfl ?_
      refine AW.getR (c' := 97) (fX10_68 hG).r rfl (hM.1 0 _ rfl) (hM.2 (0, 12, 97) (by decide)) dX10_meetByChance_56 ?_
      refine AW.aload_n dX10_meetByChance_59 rfl ?_
      refine AW.getR (fX10_19 hG).r rfl (hM.1 0 _ rfl) hRt dX10_meetByChance_60 ?_
      refine AW.iconst 1 dX10_meetByChance_63 (by decide) ?_
      refine AW.iload dX10_meetByChance_64 rfl ?_
      refine AW.ishl dX10_meetByChance_66 ?_
      refine AW.iconst 1 dX10_meetByChance_67 (by decide) ?_
      refine AW.iload dX10_meetByChance_68 rfl ?_
      refine AW.ishl dX10_meetByChance_70 ?_
      refine AW.ior dX10_meetByChance_71 ?_
      refine AW.aload_n dX10_meetByChance_72 rfl ?_
      refine AW.getR (c' := 97) (fX10_68 hG).r rfl (hM.1 0 _ rfl) (hM.2 (0, 12, 97) (by decide)) dX10_meetByChance_73 ?_
      refine AW.getI (fX10_137 hG).r rfl (o97.1 0 _ rfl) dX10_meetByChance_76 ?_
      refine AW.callV (b := 97) (As := [.ref t, .int ((1 <<< (x30 &&& 31)) ||| (1 <<< (x43 &&& 31))), .int (I 97 0)]) hG.2.2 (vX10_403 hG) (o97.1 0 _ rfl) (k_X2_gather hK (d := 2) (Nat.le_refl _) o97 ht (by omega) (by assumption) (by assumption) ((1 <<< (x30 &&& 31)) ||| (1 <<< (x43 &&& 31))) (I 97 0)) (by omega) dX10_meetByChance_79 rfl rfl (Nat.le_of_ble_eq_true rfl) (fun v w9 hq9 h09 => by obtain ⟨rfl, rfl⟩ := hq9; exact ⟨h09, rfl⟩) (by decide) (by decide) (fun _ _ hx => hx) (fun v79 w79 hq79 => ?_)
      obtain ⟨rfl, rfl⟩ := hq79
      refine AW.namI (fun I79 eI79 => ?_)
      show AW G mX10_meetByChance d (fun v w => v = some (.int (f_ms I t s)) ∧ w = (sh, f_mc I t n s, R, L, g)) (fun _ _ => False) 82 [some (.ref 0), some (.int s), some (.int x13), some (.int x18), some (.int x30), some (.int x43)] [] (sh, I79, R, L, g) 0 0
      refine AW.iload_n dX10_meetByChance_82 rfl ?_
      exact AW.iret dX10_meetByChance_83 rfl (by decide) (by decide) (⟨by rw [f_ms, if_neg h7, ex18, ex13], by rw [f_mc, if_neg h7, if_neg h52, eI79, ex30, ex43, ex18, ex13]⟩)
  · refine AW.iload_n dX10_meetByChance_10 rfl ?_
    exact AW.iret dX10_meetByChance_11 rfl (by decide) (by decide) (⟨by rw [f_ms, if_pos h7], by rw [f_mc, if_pos h7]⟩)
theorem dX10_loavesWithCutters_0 : decode cX10_loavesWithCutters 0 = .ok (.aload_n 0, 1) := by decide +kernel
theorem dX10_loavesWithCutters_1 : decode cX10_loavesWithCutters 1 = .ok (.getfield 54, 3) := by decide +kernel
theorem dX10_loavesWithCutters_4 : decode cX10_loavesWithCutters 4 = .ok (.aload_n 0, 1) := by decide +kernel
theorem dX10_loavesWithCutters_5 : decode cX10_loavesWithCutters 5 = .ok (.getfield 19, 3) := by decide +kernel
theorem dX10_loavesWithCutters_8 : decode cX10_loavesWithCutters 8 = .ok (.aload_n 0, 1) := by decide +kernel
theorem dX10_loavesWithCutters_9 : decode cX10_loavesWithCutters 9 = .ok (.getfield 68, 3) := by decide +kernel
theorem dX10_loavesWithCutters_12 : decode cX10_loavesWithCutters 12 = .ok (.invokevirtual 393, 3) := by decide +kernel
theorem dX10_loavesWithCutters_15 : decode cX10_loavesWithCutters 15 = .ok (.iconst 0, 1) := by decide +kernel
theorem dX10_loavesWithCutters_16 : decode cX10_loavesWithCutters 16 = .ok (.istore_n 1, 1) := by decide +kernel
theorem dX10_loavesWithCutters_17 : decode cX10_loavesWithCutters 17 = .ok (.iconst 0, 1) := by decide +kernel
theorem dX10_loavesWithCutters_18 : decode cX10_loavesWithCutters 18 = .ok (.istore_n 2, 1) := by decide +kernel
theorem dX10_loavesWithCutters_19 : decode cX10_loavesWithCutters 19 = .ok (.iload_n 2, 1) := by decide +kernel
theorem dX10_loavesWithCutters_20 : decode cX10_loavesWithCutters 20 = .ok (.aload_n 0, 1) := by decide +kernel
theorem dX10_loavesWithCutters_21 : decode cX10_loavesWithCutters 21 = .ok (.getfield 19, 3) := by decide +kernel
theorem dX10_loavesWithCutters_24 : decode cX10_loavesWithCutters 24 = .ok (.getfield 122, 3) := by decide +kernel
theorem dX10_loavesWithCutters_27 : decode cX10_loavesWithCutters 27 = .ok (.getfield 126, 3) := by decide +kernel
theorem dX10_loavesWithCutters_30 : decode cX10_loavesWithCutters 30 = .ok (.if_icmp .ge 24, 3) := by decide +kernel
theorem dX10_loavesWithCutters_33 : decode cX10_loavesWithCutters 33 = .ok (.aload_n 0, 1) := by decide +kernel
theorem dX10_loavesWithCutters_34 : decode cX10_loavesWithCutters 34 = .ok (.getfield 54, 3) := by decide +kernel
theorem dX10_loavesWithCutters_37 : decode cX10_loavesWithCutters 37 = .ok (.getfield 307, 3) := by decide +kernel
theorem dX10_loavesWithCutters_40 : decode cX10_loavesWithCutters 40 = .ok (.iload_n 2, 1) := by decide +kernel
theorem dX10_loavesWithCutters_41 : decode cX10_loavesWithCutters 41 = .ok (.iaload, 1) := by decide +kernel
theorem dX10_loavesWithCutters_42 : decode cX10_loavesWithCutters 42 = .ok (.ifCond .eq 6, 3) := by decide +kernel
theorem dX10_loavesWithCutters_45 : decode cX10_loavesWithCutters 45 = .ok (.iinc 1 1, 3) := by decide +kernel
theorem dX10_loavesWithCutters_48 : decode cX10_loavesWithCutters 48 = .ok (.iinc 2 1, 3) := by decide +kernel
theorem dX10_loavesWithCutters_51 : decode cX10_loavesWithCutters 51 = .ok (.goto (-32), 3) := by decide +kernel
theorem dX10_loavesWithCutters_54 : decode cX10_loavesWithCutters 54 = .ok (.iload_n 1, 1) := by decide +kernel
theorem dX10_loavesWithCutters_55 : decode cX10_loavesWithCutters 55 = .ok (.ireturn, 1) := by decide +kernel
set_option maxRecDepth 100000 in
set_option maxHeartbeats 4000000 in
theorem k_X10_loavesWithCutters {G : am_G} (hK : k_OK G) {d : Nat} (hd : 4 ≤ d) {sh : List (Nat ⊕ (Nat × Nat))} {I : Nat → Nat → Int32} {R : Nat → Nat → Option Nat} {L : Nat → Nat → Int64} {g : Nat} (hXS : k_XS G) {t : Nat} (hM : k_Main sh R) (hRt : R 0 1 = some t) (ht3 : t = 3 ∨ t = 22) {n m : Nat} (hn : I t 0 = nI n) (hn8 : n ≤ 8) (hm : I (t + 8) 0 = nI m) (hm6 : m ≤ 6) : AM G mX10_loavesWithCutters d [.ref 0] (sh, I, R, L, g) (fun v w => v = some (.int (f_lw ((f_look I 90 t 97 n m) 92) m)) ∧ w = (sh, f_look I 90 t 97 n m, R, L, g)) (fun _ _ => False) := by
  have hG := hK.1
  have ht : k_Town sh R t := by rcases ht3 with rfl | rfl; exact kM_3 hM; exact kM_22 hM
  have o41 := kM_41 hM
  have o42 := kM_42 hM
  have o43 := kM_43 hM
  have o47 := kM_47 hM
  have o60 := kM_60 hM
  have o90 := kM_90 hM
  have o93 := kM_93 hM
  have o97 := kM_97 hM
  have o79 := kM_79 hM
  have o1 := kM_1 hM
  refine AM.of (n := 2) (by decide +kernel) (Nat.le_of_ble_eq_true rfl) ?_
  show AW G mX10_loavesWithCutters d (fun v w => v = some (.int (f_lw ((f_look I 90 t 97 n m) 92) m)) ∧ w = (sh, f_look I 90 t 97 n m, R, L, g)) (fun _ _ => False) 0 [some (.ref 0), none, none] [] (sh, I, R, L, g) 0 0
  refine AW.aload_n dX10_loavesWithCutters_0 rfl ?_
  refine AW.getR (c' := 90) (fX10_54 hG).r rfl (hM.1 0 _ rfl) (hM.2 (0, 10, 90) (by decide)) dX10_loavesWithCutters_1 ?_
  refine AW.aload_n dX10_loavesWithCutters_4 rfl ?_
  refine AW.getR (fX10_19 hG).r rfl (hM.1 0 _ rfl) hRt dX10_loavesWithCutters_5 ?_
  refine AW.aload_n dX10_loavesWithCutters_8 rfl ?_
  refine AW.getR (c' := 97) (fX10_68 hG).r rfl (hM.1 0 _ rfl) (hM.2 (0, 12, 97) (by decide)) dX10_loavesWithCutters_9 ?_
  refine AW.callV (b := 90) (As := [.ref t, .ref 97]) hG.2.2 (vX10_393 hG) (o90.1 0 _ rfl) (k_X1_look hK (d := 2) (Nat.le_refl _) o90 ht o97 (by omega) (by omega) (by assumption) (by assumption) (by assumption) (by assumption)) (by omega) dX10_loavesWithCutters_12 rfl rfl (Nat.le_of_ble_eq_true rfl) (fun v w9 hq9 h09 => by obtain ⟨rfl, rfl⟩ := hq9; exact ⟨h09, rfl⟩) (by decide) (by decide) (fun _ _ hx => hx) (fun v12 w12 hq12 => ?_)
  obtain ⟨rfl, rfl⟩ := hq12
  refine AW.namI (fun I12 eI12 => ?_)
  show AW G mX10_loavesWithCutters d (fun v w => v = some (.int (f_lw ((f_look I 90 t 97 n m) 92) m)) ∧ w = (sh, f_look I 90 t 97 n m, R, L, g)) (fun _ _ => False) 15 [some (.ref 0), none, none] [] (sh, I12, R, L, g) 0 0
  have hJm : I12 (t + 8) 0 = nI m := by rw [eI12, f_look_o _ _ _ _ _ _ (by omega)]; exact hm
  refine AW.iconst 0 dX10_loavesWithCutters_15 (by decide) ?_
  refine AW.is_n [some (.ref 0), some (.int 0), none] dX10_loavesWithCutters_16 (by decide) rfl rfl ?_
  refine AW.iconst 0 dX10_loavesWithCutters_17 (by decide) ?_
  refine AW.is_n [some (.ref 0), some (.int 0), some (.int 0)] dX10_loavesWithCutters_18 (by decide) rfl rfl ?_
  have L19 : ∀ k19, k19 ≤ m → ∀ (a x : Int32), (x = nI k19 ∧ a = f_lw (I12 92) k19) → AW G mX10_loavesWithCutters d (fun v w => v = some (.int (f_lw ((f_look I 90 t 97 n m) 92) m)) ∧ w = (sh, f_look I 90 t 97 n m, R, L, g)) (fun _ _ => False) 19 [some (.ref 0), some (.int a), some (.int x)] [] (sh, I12, R, L, g) 0 0 := by
    refine am_rec m (fun k19 hk19 ih19 => ?_)
    intro a x hi19
    obtain ⟨hx, ha⟩ := hi19
    refine AW.iload_n dX10_loavesWithCutters_19 rfl ?_
    refine AW.aload_n dX10_loavesWithCutters_20 rfl ?_
    refine AW.getR (fX10_19 hG).r rfl (hM.1 0 _ rfl) hRt dX10_loavesWithCutters_21 ?_
    refine AW.getR (c' := (t + 8)) (fX10_122 hG) rfl (ht.1 0 _ rfl) (ht.2 (0, 11, 8) (by decide)) dX10_loavesWithCutters_24 ?_
    refine AW.getI (fX10_126 hG).r rfl (ht.1 8 _ rfl) dX10_loavesWithCutters_27 ?_
    refine AW.icmp_ge 54 dX10_loavesWithCutters_30 (by decide) (fun h30 => ?_) (fun h30 => ?_)
    · have hke := k_ge h30 hx hJm hk19 (by omega)
      rw [hke] at ha
      refine AW.iload_n dX10_loavesWithCutters_54 rfl ?_
      exact AW.iret dX10_loavesWithCutters_55 rfl (by decide) (by decide) (⟨by rw [ha, eI12], by rw [eI12]⟩)
    · have hlt := k_lt h30 hx hJm hk19 (by omega)
      have hbx : vp_in x 6 := by rw [hx]; exact vp_in_nI (by omega) (by decide)
      have hcx : x.toNatClampNeg = k19 := by rw [hx]; exact nI_clamp (by omega)
      refine AW.aload_n dX10_loavesWithCutters_33 rfl ?_
      refine AW.getR (c' := 90) (fX10_54 hG).r rfl (hM.1 0 _ rfl) (hM.2 (0, 10, 90) (by decide)) dX10_loavesWithCutters_34 ?_
      refine AW.getR (c' := 92) (fX10_307 hG) rfl (o90.1 0 _ rfl) (o90.2 (0, 1, 2) (by decide)) dX10_loavesWithCutters_37 ?_
      refine AW.iload_n dX10_loavesWithCutters_40 rfl ?_
      refine AW.iald (o90.1 2 _ rfl) (by first | assumption | (unfold vp_in; decide) | exact vp_in_nI (by omega) (by decide)) dX10_loavesWithCutters_41 ?_
      refine AW.if_eq 48 dX10_loavesWithCutters_42 (by decide) (fun h42 => ?_) (fun h42 => ?_)
      · rw [hcx] at h42
        refine AW.inc (fun x48 => [some (.ref 0), some (.int a), some (.int x48)]) dX10_loavesWithCutters_48 rfl (by decide) rfl (fun _ => rfl) (fun x48 ex48 => ?_)
        refine AW.goto 19 dX10_loavesWithCutters_51 (by decide) ?_
        exact ih19 (k19 + 1) (by omega) (by omega) _ _ (⟨k_inc (by assumption) hx, (show _ = (if _ then _ else _) by rw [if_neg (fun h => h h42)]; exact ha)⟩)
      · rw [hcx] at h42
        refine AW.inc (fun x45 => [some (.ref 0), some (.int x45), some (.int x)]) dX10_loavesWithCutters_45 rfl (by decide) rfl (fun _ => rfl) (fun x45 ex45 => ?_)
        refine AW.inc (fun x48 => [some (.ref 0), some (.int x45), some (.int x48)]) dX10_loavesWithCutters_48 rfl (by decide) rfl (fun _ => rfl) (fun x48 ex48 => ?_)
        refine AW.goto 19 dX10_loavesWithCutters_51 (by decide) ?_
        exact ih19 (k19 + 1) (by omega) (by omega) _ _ (⟨k_inc (by assumption) hx, (show _ = (if _ then _ else _) by rw [if_pos h42, ex45, ha]; rfl)⟩)
  exact L19 0 (by omega) _ _ (⟨nI_0.symm, rfl⟩)
/-- a season: the world, the seed, all together, the fewest -/
def f_sn1 (t n m : Nat) (q : (Nat → Nat → Int32) × Int32 × Int32 × Int32) : (Nat → Nat → Int32) × Int32 × Int32 × Int32 :=
  let J := am_uA q.1 97 (upd (q.1 97) 0 (q.1 97 0 + 1))
  let J2 := f_look (f_mc J t n q.2.1) 90 t 97 n m
  (J2, f_ms J t q.2.1, q.2.2.1 + f_lw (J2 92) m, if f_lw (J2 92) m < q.2.2.2 then f_lw (J2 92) m else q.2.2.2)
def f_sn (t n m : Nat) (q0 : (Nat → Nat → Int32) × Int32 × Int32 × Int32) (k : Nat) : (Nat → Nat → Int32) × Int32 × Int32 × Int32 := lfold (fun _ q => f_sn1 t n m q) q0 k
theorem f_mc_o (I : Nat → Nat → Int32) (t n : Nat) (s : Int32) {a : Nat} (h : a ≠ 98) : f_mc I t n s a = I a := by
  unfold f_mc
  split
  · rfl
  · split
    · rfl
    · rw [am_uA_o _ _ _ h]
theorem f_sn_o (t n m : Nat) (q0 : (Nat → Nat → Int32) × Int32 × Int32 × Int32) (k : Nat) {a : Nat} (h1 : a ≠ 97) (h2 : a ≠ 98) (h3 : a ≠ 91) (h4 : a ≠ 92) : (f_sn t n m q0 k).1 a = q0.1 a := by
  induction k with
  | zero => rfl
  | succ k ih =>
    show f_look (f_mc (am_uA (f_sn t n m q0 k).1 97 _) t n _) 90 t 97 n m a = _
    rw [f_look_o _ _ _ _ _ _ (by omega), f_mc_o _ _ _ _ h2, am_uA_o _ _ _ h1]
    exact ih
abbrev pX10_season : am_M := (yX10_season, cX10_season, 9, (some .int), 2, 12)
theorem dX10_season_0 : decode cX10_season 0 = .ok (.iload_n 3, 1) := by decide +kernel
theorem dX10_season_1 : decode cX10_season 1 = .ok (.ifCond .lt 8, 3) := by decide +kernel
theorem dX10_season_4 : decode cX10_season 4 = .ok (.iload_n 3, 1) := by decide +kernel
theorem dX10_season_5 : decode cX10_season 5 = .ok (.iconst 2, 1) := by decide +kernel
theorem dX10_season_6 : decode cX10_season 6 = .ok (.if_icmp .le 14, 3) := by decide +kernel
theorem dX10_season_9 : decode cX10_season 9 = .ok (.new 163, 3) := by decide +kernel
theorem dX10_season_12 : decode cX10_season 12 = .ok (.dup, 1) := by decide +kernel
theorem dX10_season_13 : decode cX10_season 13 = .ok (.ldc_w 377, 3) := by decide +kernel
theorem dX10_season_16 : decode cX10_season 16 = .ok (.invokespecial 167, 3) := by decide +kernel
theorem dX10_season_19 : decode cX10_season 19 = .ok (.athrow, 1) := by decide +kernel
theorem dX10_season_20 : decode cX10_season 20 = .ok (.iload_n 2, 1) := by decide +kernel
theorem dX10_season_21 : decode cX10_season 21 = .ok (.ifCond .lt 9, 3) := by decide +kernel
theorem dX10_season_24 : decode cX10_season 24 = .ok (.iload_n 2, 1) := by decide +kernel
theorem dX10_season_25 : decode cX10_season 25 = .ok (.bipush 60, 2) := by decide +kernel
theorem dX10_season_27 : decode cX10_season 27 = .ok (.if_icmp .le 14, 3) := by decide +kernel
theorem dX10_season_30 : decode cX10_season 30 = .ok (.new 86, 3) := by decide +kernel
theorem dX10_season_33 : decode cX10_season 33 = .ok (.dup, 1) := by decide +kernel
theorem dX10_season_34 : decode cX10_season 34 = .ok (.ldc_w 379, 3) := by decide +kernel
theorem dX10_season_37 : decode cX10_season 37 = .ok (.invokespecial 90, 3) := by decide +kernel
theorem dX10_season_40 : decode cX10_season 40 = .ok (.athrow, 1) := by decide +kernel
theorem dX10_season_41 : decode cX10_season 41 = .ok (.aload_n 0, 1) := by decide +kernel
theorem dX10_season_42 : decode cX10_season 42 = .ok (.getfield 68, 3) := by decide +kernel
theorem dX10_season_45 : decode cX10_season 45 = .ok (.aload_n 0, 1) := by decide +kernel
theorem dX10_season_46 : decode cX10_season 46 = .ok (.getfield 33, 3) := by decide +kernel
theorem dX10_season_49 : decode cX10_season 49 = .ok (.getfield 110, 3) := by decide +kernel
theorem dX10_season_52 : decode cX10_season 52 = .ok (.getfield 114, 3) := by decide +kernel
theorem dX10_season_55 : decode cX10_season 55 = .ok (.invokevirtual 381, 3) := by decide +kernel
theorem dX10_season_58 : decode cX10_season 58 = .ok (.iconst 0, 1) := by decide +kernel
theorem dX10_season_59 : decode cX10_season 59 = .ok (.istore 4, 2) := by decide +kernel
theorem dX10_season_61 : decode cX10_season 61 = .ok (.iload_n 2, 1) := by decide +kernel
theorem dX10_season_62 : decode cX10_season 62 = .ok (.ifCond .ne 7, 3) := by decide +kernel
theorem dX10_season_65 : decode cX10_season 65 = .ok (.iconst 0, 1) := by decide +kernel
theorem dX10_season_66 : decode cX10_season 66 = .ok (.goto 5, 3) := by decide +kernel
theorem dX10_season_69 : decode cX10_season 69 = .ok (.bipush 6, 2) := by decide +kernel
theorem dX10_season_71 : decode cX10_season 71 = .ok (.istore 5, 2) := by decide +kernel
theorem dX10_season_73 : decode cX10_season 73 = .ok (.iload_n 1, 1) := by decide +kernel
theorem dX10_season_74 : decode cX10_season 74 = .ok (.istore 6, 2) := by decide +kernel
theorem dX10_season_76 : decode cX10_season 76 = .ok (.iconst 0, 1) := by decide +kernel
theorem dX10_season_77 : decode cX10_season 77 = .ok (.istore 7, 2) := by decide +kernel
theorem dX10_season_79 : decode cX10_season 79 = .ok (.iload 7, 2) := by decide +kernel
theorem dX10_season_81 : decode cX10_season 81 = .ok (.iload_n 2, 1) := by decide +kernel
theorem dX10_season_82 : decode cX10_season 82 = .ok (.if_icmp .ge 52, 3) := by decide +kernel
theorem dX10_season_85 : decode cX10_season 85 = .ok (.aload_n 0, 1) := by decide +kernel
theorem dX10_season_86 : decode cX10_season 86 = .ok (.getfield 68, 3) := by decide +kernel
theorem dX10_season_89 : decode cX10_season 89 = .ok (.dup, 1) := by decide +kernel
theorem dX10_season_90 : decode cX10_season 90 = .ok (.getfield 137, 3) := by decide +kernel
theorem dX10_season_93 : decode cX10_season 93 = .ok (.iconst 1, 1) := by decide +kernel
theorem dX10_season_94 : decode cX10_season 94 = .ok (.iadd, 1) := by decide +kernel
theorem dX10_season_95 : decode cX10_season 95 = .ok (.putfield 137, 3) := by decide +kernel
theorem dX10_season_98 : decode cX10_season 98 = .ok (.aload_n 0, 1) := by decide +kernel
theorem dX10_season_99 : decode cX10_season 99 = .ok (.iload 6, 2) := by decide +kernel
theorem dX10_season_101 : decode cX10_season 101 = .ok (.invokevirtual 384, 3) := by decide +kernel
theorem dX10_season_104 : decode cX10_season 104 = .ok (.istore 6, 2) := by decide +kernel
theorem dX10_season_106 : decode cX10_season 106 = .ok (.aload_n 0, 1) := by decide +kernel
theorem dX10_season_107 : decode cX10_season 107 = .ok (.invokevirtual 387, 3) := by decide +kernel
theorem dX10_season_110 : decode cX10_season 110 = .ok (.istore 8, 2) := by decide +kernel
theorem dX10_season_112 : decode cX10_season 112 = .ok (.iload 4, 2) := by decide +kernel
theorem dX10_season_114 : decode cX10_season 114 = .ok (.iload 8, 2) := by decide +kernel
theorem dX10_season_116 : decode cX10_season 116 = .ok (.iadd, 1) := by decide +kernel
theorem dX10_season_117 : decode cX10_season 117 = .ok (.istore 4, 2) := by decide +kernel
theorem dX10_season_119 : decode cX10_season 119 = .ok (.iload 5, 2) := by decide +kernel
theorem dX10_season_121 : decode cX10_season 121 = .ok (.iload 8, 2) := by decide +kernel
theorem dX10_season_123 : decode cX10_season 123 = .ok (.invokestatic 390, 3) := by decide +kernel
theorem dX10_season_126 : decode cX10_season 126 = .ok (.istore 5, 2) := by decide +kernel
theorem dX10_season_128 : decode cX10_season 128 = .ok (.iinc 7 1, 3) := by decide +kernel
theorem dX10_season_131 : decode cX10_season 131 = .ok (.goto (-52), 3) := by decide +kernel
theorem dX10_season_134 : decode cX10_season 134 = .ok (.aload_n 0, 1) := by decide +kernel
theorem dX10_season_135 : decode cX10_season 135 = .ok (.getfield 54, 3) := by decide +kernel
theorem dX10_season_138 : decode cX10_season 138 = .ok (.aload_n 0, 1) := by decide +kernel
theorem dX10_season_139 : decode cX10_season 139 = .ok (.getfield 19, 3) := by decide +kernel
theorem dX10_season_142 : decode cX10_season 142 = .ok (.aload_n 0, 1) := by decide +kernel
theorem dX10_season_143 : decode cX10_season 143 = .ok (.getfield 68, 3) := by decide +kernel
theorem dX10_season_146 : decode cX10_season 146 = .ok (.invokevirtual 393, 3) := by decide +kernel
theorem dX10_season_149 : decode cX10_season 149 = .ok (.iload_n 3, 1) := by decide +kernel
theorem dX10_season_150 : decode cX10_season 150 = .ok (.ifCond .ne 8, 3) := by decide +kernel
theorem dX10_season_153 : decode cX10_season 153 = .ok (.iload 4, 2) := by decide +kernel
theorem dX10_season_155 : decode cX10_season 155 = .ok (.goto 24, 3) := by decide +kernel
theorem dX10_season_158 : decode cX10_season 158 = .ok (.iload_n 3, 1) := by decide +kernel
theorem dX10_season_159 : decode cX10_season 159 = .ok (.iconst 1, 1) := by decide +kernel
theorem dX10_season_160 : decode cX10_season 160 = .ok (.if_icmp .ne 8, 3) := by decide +kernel
theorem dX10_season_163 : decode cX10_season 163 = .ok (.iload 5, 2) := by decide +kernel
theorem dX10_season_165 : decode cX10_season 165 = .ok (.goto 14, 3) := by decide +kernel
theorem dX10_season_168 : decode cX10_season 168 = .ok (.aload_n 0, 1) := by decide +kernel
theorem dX10_season_169 : decode cX10_season 169 = .ok (.getfield 54, 3) := by decide +kernel
theorem dX10_season_172 : decode cX10_season 172 = .ok (.aload_n 0, 1) := by decide +kernel
theorem dX10_season_173 : decode cX10_season 173 = .ok (.getfield 19, 3) := by decide +kernel
theorem dX10_season_176 : decode cX10_season 176 = .ok (.invokevirtual 150, 3) := by decide +kernel
theorem dX10_season_179 : decode cX10_season 179 = .ok (.ireturn, 1) := by decide +kernel
set_option maxRecDepth 100000 in
set_option maxHeartbeats 4000000 in
theorem k_X10_season {G : am_G} (hK : k_OK G) {d : Nat} (hd : 8 ≤ d) {sh : List (Nat ⊕ (Nat × Nat))} {I : Nat → Nat → Int32} {R : Nat → Nat → Option Nat} {L : Nat → Nat → Int64} {g : Nat} (hXS : k_XS G) {t : Nat} (hM : k_Main sh R) (hRt : R 0 1 = some t) (ht3 : t = 3 ∨ t = 22) (hg : g ≠ 0) {n m : Nat} (hn : I t 0 = nI n) (hn8 : n ≤ 8) (hm : I (t + 8) 0 = nI m) (hm6 : m ≤ 6) (s x wh : Int32) : AM G pX10_season d [.ref 0, .int s, .int x, .int wh] (sh, I, R, L, g) (fun v w => ∃ j, j ≤ 60 ∧ x = nI j ∧ ¬ wh < 0 ∧ wh ≤ 2 ∧ v = some (.int (if wh = 0 then (f_sn t n m (f_dcp I 97 47, s, 0, if x = 0 then 0 else 6) j).2.2.1 else if wh = 1 then (f_sn t n m (f_dcp I 97 47, s, 0, if x = 0 then 0 else 6) j).2.2.2 else f_cu ((f_look (f_sn t n m (f_dcp I 97 47, s, 0, if x = 0 then 0 else 6) j).1 90 t 97 n m) 91) n n)) ∧ w = (sh, f_look (f_sn t n m (f_dcp I 97 47, s, 0, if x = 0 then 0 else 6) j).1 90 t 97 n m, R, L, g)) (fun E w => w = (sh, I, R, L, g) ∧ ((E = "java/util/NoSuchElementException" ∧ ¬ (¬ wh < 0 ∧ wh ≤ 2)) ∨ (E = "java/lang/IllegalArgumentException" ∧ (¬ wh < 0 ∧ wh ≤ 2) ∧ ¬ (¬ x < 0 ∧ x ≤ 60)))) := by
  have hG := hK.1
  have ht : k_Town sh R t := by rcases ht3 with rfl | rfl; exact kM_3 hM; exact kM_22 hM
  have o41 := kM_41 hM
  have o42 := kM_42 hM
  have o43 := kM_43 hM
  have o47 := kM_47 hM
  have o60 := kM_60 hM
  have o90 := kM_90 hM
  have o93 := kM_93 hM
  have o97 := kM_97 hM
  have o79 := kM_79 hM
  have o1 := kM_1 hM
  refine AM.of (n := 5) (by decide +kernel) (Nat.le_of_ble_eq_true rfl) ?_
  show AW G pX10_season d (fun v w => ∃ j, j ≤ 60 ∧ x = nI j ∧ ¬ wh < 0 ∧ wh ≤ 2 ∧ v = some (.int (if wh = 0 then (f_sn t n m (f_dcp I 97 47, s, 0, if x = 0 then 0 else 6) j).2.2.1 else if wh = 1 then (f_sn t n m (f_dcp I 97 47, s, 0, if x = 0 then 0 else 6) j).2.2.2 else f_cu ((f_look (f_sn t n m (f_dcp I 97 47, s, 0, if x = 0 then 0 else 6) j).1 90 t 97 n m) 91) n n)) ∧ w = (sh, f_look (f_sn t n m (f_dcp I 97 47, s, 0, if x = 0 then 0 else 6) j).1 90 t 97 n m, R, L, g)) (fun E w => w = (sh, I, R, L, g) ∧ ((E = "java/util/NoSuchElementException" ∧ ¬ (¬ wh < 0 ∧ wh ≤ 2)) ∨ (E = "java/lang/IllegalArgumentException" ∧ (¬ wh < 0 ∧ wh ≤ 2) ∧ ¬ (¬ x < 0 ∧ x ≤ 60)))) 0 [some (.ref 0), some (.int s), some (.int x), some (.int wh), none, none, none, none, none] [] (sh, I, R, L, g) 0 0
  refine AW.iload_n dX10_season_0 rfl ?_
  refine AW.if_lt 9 dX10_season_1 (by decide) (fun h1 => ?_) (fun h1 => ?_)
  · exact AW.throwNW (hXS.1 377 (by decide)) dX10_season_9 dX10_season_12 dX10_season_13 dX10_season_16 dX10_season_19 (by omega) (Nat.le_of_ble_eq_true rfl) (by decide) (by decide) hg (⟨rfl, Or.inl ⟨rfl, fun h => h.1 h1⟩⟩)
  · refine AW.iload_n dX10_season_4 rfl ?_
    refine AW.iconst 2 dX10_season_5 (by decide) ?_
    refine AW.icmp_le 20 dX10_season_6 (by decide) (fun h6 => ?_) (fun h6 => ?_)
    · refine AW.iload_n dX10_season_20 rfl ?_
      refine AW.if_lt 30 dX10_season_21 (by decide) (fun h21 => ?_) (fun h21 => ?_)
      · exact AW.throwSW (hXS.2 379 (by decide)) dX10_season_30 dX10_season_33 dX10_season_34 dX10_season_37 dX10_season_40 (by omega) (Nat.le_of_ble_eq_true rfl) (by decide) (by decide) hg (⟨rfl, Or.inr ⟨rfl, ⟨h1, h6⟩, fun h => h.1 h21⟩⟩)
      · refine AW.iload_n dX10_season_24 rfl ?_
        refine AW.bipush 60 dX10_season_25 (by decide) ?_
        refine AW.icmp_le 41 dX10_season_27 (by decide) (fun h27 => ?_) (fun h27 => ?_)
        · obtain ⟨j, hj, hxj⟩ := nI_of2 (n := 60) (by decide) h21 h27
          refine AW.aload_n dX10_season_41 rfl ?_
          refine AW.getR (c' := 97) (fX10_68 hG).r rfl (hM.1 0 _ rfl) (hM.2 (0, 12, 97) (by decide)) dX10_season_42 ?_
          refine AW.aload_n dX10_season_45 rfl ?_
          refine AW.getR (c' := 41) (fX10_33 hG).r rfl (hM.1 0 _ rfl) (hM.2 (0, 4, 41) (by decide)) dX10_season_46 ?_
          refine AW.getR (c' := 42) (fX10_110 hG) rfl (o41.1 0 _ rfl) (o41.2 (0, 0, 1) (by decide)) dX10_season_49 ?_
          refine AW.getR (c' := 47) (fX10_114 hG) rfl (o42.1 0 _ rfl) (o42.2 (0, 1, 5) (by decide)) dX10_season_52 ?_
          refine AW.callV (b := 97) (As := [.ref 47]) hG.2.2 (vX10_381 hG) (o97.1 0 _ rfl) (k_X2_copyFrom hK (d := 2) (Nat.le_refl _) o97 o47 (by omega)) (by omega) dX10_season_55 rfl rfl (Nat.le_of_ble_eq_true rfl) (fun v w9 hq9 h09 => by obtain ⟨rfl, rfl⟩ := hq9; exact ⟨h09, rfl⟩) (by decide) (by decide) (fun _ _ hx => absurd hx id) (fun v55 w55 hq55 => ?_)
          obtain ⟨rfl, rfl⟩ := hq55
          refine AW.namI (fun I55 eI55 => ?_)
          show AW G pX10_season d (fun v w => ∃ j, j ≤ 60 ∧ x = nI j ∧ ¬ wh < 0 ∧ wh ≤ 2 ∧ v = some (.int (if wh = 0 then (f_sn t n m (f_dcp I 97 47, s, 0, if x = 0 then 0 else 6) j).2.2.1 else if wh = 1 then (f_sn t n m (f_dcp I 97 47, s, 0, if x = 0 then 0 else 6) j).2.2.2 else f_cu ((f_look (f_sn t n m (f_dcp I 97 47, s, 0, if x = 0 then 0 else 6) j).1 90 t 97 n m) 91) n n)) ∧ w = (sh, f_look (f_sn t n m (f_dcp I 97 47, s, 0, if x = 0 then 0 else 6) j).1 90 t 97 n m, R, L, g)) (fun E w => w = (sh, I, R, L, g) ∧ ((E = "java/util/NoSuchElementException" ∧ ¬ (¬ wh < 0 ∧ wh ≤ 2)) ∨ (E = "java/lang/IllegalArgumentException" ∧ (¬ wh < 0 ∧ wh ≤ 2) ∧ ¬ (¬ x < 0 ∧ x ≤ 60)))) 58 [some (.ref 0), some (.int s), some (.int x), some (.int wh), none, none, none, none, none] [] (sh, I55, R, L, g) 0 0
          refine AW.iconst 0 dX10_season_58 (by decide) ?_
          refine AW.is [some (.ref 0), some (.int s), some (.int x), some (.int wh), some (.int 0), none, none, none, none] dX10_season_59 (by decide) rfl rfl ?_
          refine AW.iload_n dX10_season_61 rfl ?_
          refine AW.if_ne 69 dX10_season_62 (by decide) (fun h62 => ?_) (fun h62 => ?_)
          · refine AW.bipush 6 dX10_season_69 (by decide) ?_
            refine AW.is [some (.ref 0), some (.int s), some (.int x), some (.int wh), some (.int 0), some (.int 6), none, none, none] dX10_season_71 (by decide) rfl rfl ?_
            refine AW.iload_n dX10_season_73 rfl ?_
            refine AW.is [some (.ref 0), some (.int s), some (.int x), some (.int wh), some (.int 0), some (.int 6), some (.int s), none, none] dX10_season_74 (by decide) rfl rfl ?_
            refine AW.iconst 0 dX10_season_76 (by decide) ?_
            refine AW.is [some (.ref 0), some (.int s), some (.int x), some (.int wh), some (.int 0), some (.int 6), some (.int s), some (.int 0), none] dX10_season_77 (by decide) rfl rfl ?_
            have L79 : ∀ k79, k79 ≤ j → ∀ (a f s2 y : Int32) (J : Nat → Nat → Int32), (y = nI k79 ∧ J = (f_sn t n m (f_dcp I 97 47, s, 0, if x = 0 then 0 else 6) k79).1 ∧ s2 = (f_sn t n m (f_dcp I 97 47, s, 0, if x = 0 then 0 else 6) k79).2.1 ∧ a = (f_sn t n m (f_dcp I 97 47, s, 0, if x = 0 then 0 else 6) k79).2.2.1 ∧ f = (f_sn t n m (f_dcp I 97 47, s, 0, if x = 0 then 0 else 6) k79).2.2.2) → AW G pX10_season d (fun v w => ∃ j, j ≤ 60 ∧ x = nI j ∧ ¬ wh < 0 ∧ wh ≤ 2 ∧ v = some (.int (if wh = 0 then (f_sn t n m (f_dcp I 97 47, s, 0, if x = 0 then 0 else 6) j).2.2.1 else if wh = 1 then (f_sn t n m (f_dcp I 97 47, s, 0, if x = 0 then 0 else 6) j).2.2.2 else f_cu ((f_look (f_sn t n m (f_dcp I 97 47, s, 0, if x = 0 then 0 else 6) j).1 90 t 97 n m) 91) n n)) ∧ w = (sh, f_look (f_sn t n m (f_dcp I 97 47, s, 0, if x = 0 then 0 else 6) j).1 90 t 97 n m, R, L, g)) (fun E w => w = (sh, I, R, L, g) ∧ ((E = "java/util/NoSuchElementException" ∧ ¬ (¬ wh < 0 ∧ wh ≤ 2)) ∨ (E = "java/lang/IllegalArgumentException" ∧ (¬ wh < 0 ∧ wh ≤ 2) ∧ ¬ (¬ x < 0 ∧ x ≤ 60)))) 79 [some (.ref 0), some (.int s), some (.int x), some (.int wh), some (.int a), some (.int f), some (.int s2), some (.int y), none] [] (sh, J, R, L, g) 0 0 := by
              refine am_rec j (fun k79 hk79 ih79 => ?_)
              intro a f s2 y J hi79
              obtain ⟨hy, hJ, hS2, hA, hB⟩ := hi79
              have hJo : ∀ a, a ≠ 97 → a ≠ 98 → a ≠ 99 → a ≠ 100 → a ≠ 91 → a ≠ 92 → J a = I a := fun a a1 a2 a5 a6 a3 a4 => by rw [hJ, f_sn_o _ _ _ _ _ a1 a2 a3 a4]; exact f_dcp_o _ _ _ (by omega)
              have hJn : J t 0 = nI n := by rw [hJo t (by omega) (by omega) (by omega) (by omega) (by omega) (by omega)]; exact hn
              have hJm : J (t + 8) 0 = nI m := by rw [hJo (t + 8) (by omega) (by omega) (by omega) (by omega) (by omega) (by omega)]; exact hm
              refine AW.iload dX10_season_79 rfl ?_
              refine AW.iload_n dX10_season_81 rfl ?_
              refine AW.icmp_ge 134 dX10_season_82 (by decide) (fun h82 => ?_) (fun h82 => ?_)
              · have hke := k_ge h82 hy hxj hk79 (by omega)
                rw [hke] at hJ hA hB
                refine AW.aload_n dX10_season_134 rfl ?_
                refine AW.getR (c' := 90) (fX10_54 hG).r rfl (hM.1 0 _ rfl) (hM.2 (0, 10, 90) (by decide)) dX10_season_135 ?_
                refine AW.aload_n dX10_season_138 rfl ?_
                refine AW.getR (fX10_19 hG).r rfl (hM.1 0 _ rfl) hRt dX10_season_139 ?_
                refine AW.aload_n dX10_season_142 rfl ?_
                refine AW.getR (c' := 97) (fX10_68 hG).r rfl (hM.1 0 _ rfl) (hM.2 (0, 12, 97) (by decide)) dX10_season_143 ?_
                refine AW.callV (b := 90) (As := [.ref t, .ref 97]) hG.2.2 (vX10_393 hG) (o90.1 0 _ rfl) (k_X1_look hK (d := 2) (Nat.le_refl _) o90 ht o97 (by omega) (by omega) (by assumption) (by assumption) (by assumption) (by assumption)) (by omega) dX10_season_146 rfl rfl (Nat.le_of_ble_eq_true rfl) (fun v w9 hq9 h09 => by obtain ⟨rfl, rfl⟩ := hq9; exact ⟨h09, rfl⟩) (by decide) (by decide) (fun _ _ hx => absurd hx id) (fun v146 w146 hq146 => ?_)
                obtain ⟨rfl, rfl⟩ := hq146
                refine AW.namI (fun I146 eI146 => ?_)
                show AW G pX10_season d (fun v w => ∃ j, j ≤ 60 ∧ x = nI j ∧ ¬ wh < 0 ∧ wh ≤ 2 ∧ v = some (.int (if wh = 0 then (f_sn t n m (f_dcp I 97 47, s, 0, if x = 0 then 0 else 6) j).2.2.1 else if wh = 1 then (f_sn t n m (f_dcp I 97 47, s, 0, if x = 0 then 0 else 6) j).2.2.2 else f_cu ((f_look (f_sn t n m (f_dcp I 97 47, s, 0, if x = 0 then 0 else 6) j).1 90 t 97 n m) 91) n n)) ∧ w = (sh, f_look (f_sn t n m (f_dcp I 97 47, s, 0, if x = 0 then 0 else 6) j).1 90 t 97 n m, R, L, g)) (fun E w => w = (sh, I, R, L, g) ∧ ((E = "java/util/NoSuchElementException" ∧ ¬ (¬ wh < 0 ∧ wh ≤ 2)) ∨ (E = "java/lang/IllegalArgumentException" ∧ (¬ wh < 0 ∧ wh ≤ 2) ∧ ¬ (¬ x < 0 ∧ x ≤ 60)))) 149 [some (.ref 0), some (.int s), some (.int x), some (.int wh), some (.int a), some (.int f), some (.int s2), some (.int y), none] [] (sh, I146, R, L, g) 0 0
                have hn146 : I146 t 0 = nI n := by rw [eI146, f_look_o _ _ _ _ _ _ (by omega)]; exact hJn
                refine AW.iload_n dX10_season_149 rfl ?_
                refine AW.if_ne 158 dX10_season_150 (by decide) (fun h150 => ?_) (fun h150 => ?_)
                · refine AW.iload_n dX10_season_158 rfl ?_
                  refine AW.iconst 1 dX10_season_159 (by decide) ?_
                  refine AW.icmp_ne 168 dX10_season_160 (by decide) (fun h160 => ?_) (fun h160 => ?_)
                  · refine AW.aload_n dX10_season_168 rfl ?_
                    refine AW.getR (c' := 90) (fX10_54 hG).r rfl (hM.1 0 _ rfl) (hM.2 (0, 10, 90) (by decide)) dX10_season_169 ?_
                    refine AW.aload_n dX10_season_172 rfl ?_
                    refine AW.getR (fX10_19 hG).r rfl (hM.1 0 _ rfl) hRt dX10_season_173 ?_
                    refine AW.callV (b := 90) (As := [.ref t]) hG.2.2 (vX10_150 hG) (o90.1 0 _ rfl) (k_X1_couples hK (d := 2) (Nat.le_refl _) o90 ht (by assumption) (by assumption)) (by omega) dX10_season_176 rfl rfl (Nat.le_of_ble_eq_true rfl) (fun v w9 hq9 h09 => by obtain ⟨rfl, rfl⟩ := hq9; exact ⟨h09, rfl⟩) (by decide) (by decide) (fun _ _ hx => absurd hx id) (fun v176 w176 hq176 => ?_)
                    obtain ⟨rfl, rfl⟩ := hq176
                    refine AW.nam (fun x176 ex176 => ?_)
                    exact AW.iret dX10_season_179 rfl (by decide) (by decide) (⟨j, hj, hxj, h1, h6, by rw [if_neg h150, if_neg h160, ex176, eI146, hJ], by rw [eI146, hJ]⟩)
                  · refine AW.iload dX10_season_163 rfl ?_
                    refine AW.goto 179 dX10_season_165 (by decide) ?_
                    exact AW.iret dX10_season_179 rfl (by decide) (by decide) (⟨j, hj, hxj, h1, h6, by rw [if_neg h150, if_pos h160, hB], by rw [eI146, hJ]⟩)
                · refine AW.iload dX10_season_153 rfl ?_
                  refine AW.goto 179 dX10_season_155 (by decide) ?_
                  exact AW.iret dX10_season_179 rfl (by decide) (by decide) (⟨j, hj, hxj, h1, h6, by rw [if_pos h150, hA], by rw [eI146, hJ]⟩)
              · have hlt := k_lt h82 hy hxj hk79 (by omega)
                refine AW.aload_n dX10_season_85 rfl ?_
                refine AW.getR (c' := 97) (fX10_68 hG).r rfl (hM.1 0 _ rfl) (hM.2 (0, 12, 97) (by decide)) dX10_season_86 ?_
                refine AW.dup dX10_season_89 rfl ?_
                refine AW.getI (fX10_137 hG).r rfl (o97.1 0 _ rfl) dX10_season_90 ?_
                refine AW.iconst 1 dX10_season_93 (by decide) ?_
                refine AW.iadd dX10_season_94 ?_
                refine AW.putI (fX10_137 hG) rfl (vp_nar_int _) rfl (o97.1 0 _ rfl) dX10_season_95 ?_
                refine AW.namI (fun I95 eI95 => ?_)
                have hn95 : I95 t 0 = nI n := by rw [eI95, am_up_o _ _ _ _ (by omega)]; exact hJn
                refine AW.aload_n dX10_season_98 rfl ?_
                refine AW.iload dX10_season_99 rfl ?_
                refine AW.callV (b := 0) (As := [.int s2]) hG.2.2 (vX10_384 hG) (hM.1 0 _ rfl) (k_X10_meetByChance hK (d := 4) (Nat.le_refl _) hXS hM hRt ht3 (by assumption) (by assumption) s2) (by omega) dX10_season_101 rfl rfl (Nat.le_of_ble_eq_true rfl) (fun v w9 hq9 h09 => by obtain ⟨rfl, rfl⟩ := hq9; exact ⟨h09, rfl⟩) (by decide) (by decide) (fun _ _ hx => absurd hx id) (fun v101 w101 hq101 => ?_)
                obtain ⟨rfl, rfl⟩ := hq101
                refine AW.namI (fun I101 eI101 => ?_)
                refine AW.nam (fun x101 ex101 => ?_)
                have hn101 : I101 t 0 = nI n := by rw [eI101, f_mc_o _ _ _ _ (by omega), eI95, am_up_o _ _ _ _ (by omega)]; exact hJn
                have hm101 : I101 (t + 8) 0 = nI m := by rw [eI101, f_mc_o _ _ _ _ (by omega), eI95, am_up_o _ _ _ _ (by omega)]; exact hJm
                refine AW.is [some (.ref 0), some (.int s), some (.int x), some (.int wh), some (.int a), some (.int f), some (.int x101), some (.int y), none] dX10_season_104 (by decide) rfl rfl ?_
                refine AW.aload_n dX10_season_106 rfl ?_
                refine AW.callV (b := 0) (As := []) hG.2.2 (vX10_387 hG) (hM.1 0 _ rfl) (k_X10_loavesWithCutters hK (d := 4) (Nat.le_refl _) hXS hM hRt ht3 (by assumption) (by assumption) (by assumption) (by assumption)) (by omega) dX10_season_107 rfl rfl (Nat.le_of_ble_eq_true rfl) (fun v w9 hq9 h09 => by obtain ⟨rfl, rfl⟩ := hq9; exact ⟨h09, rfl⟩) (by decide) (by decide) (fun _ _ hx => absurd hx id) (fun v107 w107 hq107 => ?_)
                obtain ⟨rfl, rfl⟩ := hq107
                refine AW.namI (fun I107 eI107 => ?_)
                refine AW.nam (fun x107 ex107 => ?_)
                refine AW.is [some (.ref 0), some (.int s), some (.int x), some (.int wh), some (.int a), some (.int f), some (.int x101), some (.int y), some (.int x107)] dX10_season_110 (by decide) rfl rfl ?_
                refine AW.iload dX10_season_112 rfl ?_
                refine AW.iload dX10_season_114 rfl ?_
                refine AW.iadd dX10_season_116 ?_
                refine AW.nam (fun x117 ex117 => ?_)
                refine AW.is [some (.ref 0), some (.int s), some (.int x), some (.int wh), some (.int x117), some (.int f), some (.int x101), some (.int y), some (.int x107)] dX10_season_117 (by decide) rfl rfl ?_
                refine AW.iload dX10_season_119 rfl ?_
                refine AW.iload dX10_season_121 rfl ?_
                refine AW.mmin (k_c hG 1457 (by decide +kernel) (by decide +kernel)) (k_mmin hG) dX10_season_123 (by omega) (Nat.le_of_ble_eq_true rfl) (by decide) (by decide) ?_
                refine AW.nam (fun x126 ex126 => ?_)
                refine AW.is [some (.ref 0), some (.int s), some (.int x), some (.int wh), some (.int x117), some (.int x126), some (.int x101), some (.int y), some (.int x107)] dX10_season_126 (by decide) rfl rfl ?_
                refine AW.inc (fun x128 => [some (.ref 0), some (.int s), some (.int x), some (.int wh), some (.int x117), some (.int x126), some (.int x101), some (.int x128), some (.int x107)]) dX10_season_128 rfl (by decide) rfl (fun _ => rfl) (fun x128 ex128 => ?_)
                refine AW.goto 79 dX10_season_131 (by decide) ?_
                refine AW.mask [8] [some (.ref 0), some (.int s), some (.int x), some (.int wh), some (.int x117), some (.int x126), some (.int x101), some (.int x128), none] rfl ?_
                exact ih79 (k79 + 1) (by omega) (by omega) _ _ _ _ _ (by
                  have e95 : I95 = am_uA (f_sn t n m (f_dcp I 97 47, s, 0, if x = 0 then 0 else 6) k79).1 97 (upd ((f_sn t n m (f_dcp I 97 47, s, 0, if x = 0 then 0 else 6) k79).1 97) 0 ((f_sn t n m (f_dcp I 97 47, s, 0, if x = 0 then 0 else 6) k79).1 97 0 + 1)) := by rw [eI95, am_up_uA, hJ]
                  have e107 : I107 = (f_sn t n m (f_dcp I 97 47, s, 0, if x = 0 then 0 else 6) (k79 + 1)).1 := by rw [eI107, eI101, e95, hS2]; rfl
                  exact ⟨k_inc (by assumption) hy, e107, by rw [ex101, e95, hS2]; rfl, by rw [ex117, ex107, hA, eI101, e95, hS2]; rfl, by rw [ex126, ex107, hB, eI101, e95, hS2]; rfl⟩)
            exact L79 0 (by omega) _ _ _ _ _ (⟨nI_0.symm, eI55, rfl, rfl, (if_neg h62).symm⟩)
          · refine AW.iconst 0 dX10_season_65 (by decide) ?_
            refine AW.goto 71 dX10_season_66 (by decide) ?_
            refine AW.is [some (.ref 0), some (.int s), some (.int x), some (.int wh), some (.int 0), some (.int 0), none, none, none] dX10_season_71 (by decide) rfl rfl ?_
            refine AW.iload_n dX10_season_73 rfl ?_
            refine AW.is [some (.ref 0), some (.int s), some (.int x), some (.int wh), some (.int 0), some (.int 0), some (.int s), none, none] dX10_season_74 (by decide) rfl rfl ?_
            refine AW.iconst 0 dX10_season_76 (by decide) ?_
            refine AW.is [some (.ref 0), some (.int s), some (.int x), some (.int wh), some (.int 0), some (.int 0), some (.int s), some (.int 0), none] dX10_season_77 (by decide) rfl rfl ?_
            have L79 : ∀ k79, k79 ≤ j → ∀ (a f s2 y : Int32) (J : Nat → Nat → Int32), (y = nI k79 ∧ J = (f_sn t n m (f_dcp I 97 47, s, 0, if x = 0 then 0 else 6) k79).1 ∧ s2 = (f_sn t n m (f_dcp I 97 47, s, 0, if x = 0 then 0 else 6) k79).2.1 ∧ a = (f_sn t n m (f_dcp I 97 47, s, 0, if x = 0 then 0 else 6) k79).2.2.1 ∧ f = (f_sn t n m (f_dcp I 97 47, s, 0, if x = 0 then 0 else 6) k79).2.2.2) → AW G pX10_season d (fun v w => ∃ j, j ≤ 60 ∧ x = nI j ∧ ¬ wh < 0 ∧ wh ≤ 2 ∧ v = some (.int (if wh = 0 then (f_sn t n m (f_dcp I 97 47, s, 0, if x = 0 then 0 else 6) j).2.2.1 else if wh = 1 then (f_sn t n m (f_dcp I 97 47, s, 0, if x = 0 then 0 else 6) j).2.2.2 else f_cu ((f_look (f_sn t n m (f_dcp I 97 47, s, 0, if x = 0 then 0 else 6) j).1 90 t 97 n m) 91) n n)) ∧ w = (sh, f_look (f_sn t n m (f_dcp I 97 47, s, 0, if x = 0 then 0 else 6) j).1 90 t 97 n m, R, L, g)) (fun E w => w = (sh, I, R, L, g) ∧ ((E = "java/util/NoSuchElementException" ∧ ¬ (¬ wh < 0 ∧ wh ≤ 2)) ∨ (E = "java/lang/IllegalArgumentException" ∧ (¬ wh < 0 ∧ wh ≤ 2) ∧ ¬ (¬ x < 0 ∧ x ≤ 60)))) 79 [some (.ref 0), some (.int s), some (.int x), some (.int wh), some (.int a), some (.int f), some (.int s2), some (.int y), none] [] (sh, J, R, L, g) 0 0 := by
              refine am_rec j (fun k79 hk79 ih79 => ?_)
              intro a f s2 y J hi79
              obtain ⟨hy, hJ, hS2, hA, hB⟩ := hi79
              have hJo : ∀ a, a ≠ 97 → a ≠ 98 → a ≠ 99 → a ≠ 100 → a ≠ 91 → a ≠ 92 → J a = I a := fun a a1 a2 a5 a6 a3 a4 => by rw [hJ, f_sn_o _ _ _ _ _ a1 a2 a3 a4]; exact f_dcp_o _ _ _ (by omega)
              have hJn : J t 0 = nI n := by rw [hJo t (by omega) (by omega) (by omega) (by omega) (by omega) (by omega)]; exact hn
              have hJm : J (t + 8) 0 = nI m := by rw [hJo (t + 8) (by omega) (by omega) (by omega) (by omega) (by omega) (by omega)]; exact hm
              refine AW.iload dX10_season_79 rfl ?_
              refine AW.iload_n dX10_season_81 rfl ?_
              refine AW.icmp_ge 134 dX10_season_82 (by decide) (fun h82 => ?_) (fun h82 => ?_)
              · have hke := k_ge h82 hy hxj hk79 (by omega)
                rw [hke] at hJ hA hB
                refine AW.aload_n dX10_season_134 rfl ?_
                refine AW.getR (c' := 90) (fX10_54 hG).r rfl (hM.1 0 _ rfl) (hM.2 (0, 10, 90) (by decide)) dX10_season_135 ?_
                refine AW.aload_n dX10_season_138 rfl ?_
                refine AW.getR (fX10_19 hG).r rfl (hM.1 0 _ rfl) hRt dX10_season_139 ?_
                refine AW.aload_n dX10_season_142 rfl ?_
                refine AW.getR (c' := 97) (fX10_68 hG).r rfl (hM.1 0 _ rfl) (hM.2 (0, 12, 97) (by decide)) dX10_season_143 ?_
                refine AW.callV (b := 90) (As := [.ref t, .ref 97]) hG.2.2 (vX10_393 hG) (o90.1 0 _ rfl) (k_X1_look hK (d := 2) (Nat.le_refl _) o90 ht o97 (by omega) (by omega) (by assumption) (by assumption) (by assumption) (by assumption)) (by omega) dX10_season_146 rfl rfl (Nat.le_of_ble_eq_true rfl) (fun v w9 hq9 h09 => by obtain ⟨rfl, rfl⟩ := hq9; exact ⟨h09, rfl⟩) (by decide) (by decide) (fun _ _ hx => absurd hx id) (fun v146 w146 hq146 => ?_)
                obtain ⟨rfl, rfl⟩ := hq146
                refine AW.namI (fun I146 eI146 => ?_)
                show AW G pX10_season d (fun v w => ∃ j, j ≤ 60 ∧ x = nI j ∧ ¬ wh < 0 ∧ wh ≤ 2 ∧ v = some (.int (if wh = 0 then (f_sn t n m (f_dcp I 97 47, s, 0, if x = 0 then 0 else 6) j).2.2.1 else if wh = 1 then (f_sn t n m (f_dcp I 97 47, s, 0, if x = 0 then 0 else 6) j).2.2.2 else f_cu ((f_look (f_sn t n m (f_dcp I 97 47, s, 0, if x = 0 then 0 else 6) j).1 90 t 97 n m) 91) n n)) ∧ w = (sh, f_look (f_sn t n m (f_dcp I 97 47, s, 0, if x = 0 then 0 else 6) j).1 90 t 97 n m, R, L, g)) (fun E w => w = (sh, I, R, L, g) ∧ ((E = "java/util/NoSuchElementException" ∧ ¬ (¬ wh < 0 ∧ wh ≤ 2)) ∨ (E = "java/lang/IllegalArgumentException" ∧ (¬ wh < 0 ∧ wh ≤ 2) ∧ ¬ (¬ x < 0 ∧ x ≤ 60)))) 149 [some (.ref 0), some (.int s), some (.int x), some (.int wh), some (.int a), some (.int f), some (.int s2), some (.int y), none] [] (sh, I146, R, L, g) 0 0
                have hn146 : I146 t 0 = nI n := by rw [eI146, f_look_o _ _ _ _ _ _ (by omega)]; exact hJn
                refine AW.iload_n dX10_season_149 rfl ?_
                refine AW.if_ne 158 dX10_season_150 (by decide) (fun h150 => ?_) (fun h150 => ?_)
                · refine AW.iload_n dX10_season_158 rfl ?_
                  refine AW.iconst 1 dX10_season_159 (by decide) ?_
                  refine AW.icmp_ne 168 dX10_season_160 (by decide) (fun h160 => ?_) (fun h160 => ?_)
                  · refine AW.aload_n dX10_season_168 rfl ?_
                    refine AW.getR (c' := 90) (fX10_54 hG).r rfl (hM.1 0 _ rfl) (hM.2 (0, 10, 90) (by decide)) dX10_season_169 ?_
                    refine AW.aload_n dX10_season_172 rfl ?_
                    refine AW.getR (fX10_19 hG).r rfl (hM.1 0 _ rfl) hRt dX10_season_173 ?_
                    refine AW.callV (b := 90) (As := [.ref t]) hG.2.2 (vX10_150 hG) (o90.1 0 _ rfl) (k_X1_couples hK (d := 2) (Nat.le_refl _) o90 ht (by assumption) (by assumption)) (by omega) dX10_season_176 rfl rfl (Nat.le_of_ble_eq_true rfl) (fun v w9 hq9 h09 => by obtain ⟨rfl, rfl⟩ := hq9; exact ⟨h09, rfl⟩) (by decide) (by decide) (fun _ _ hx => absurd hx id) (fun v176 w176 hq176 => ?_)
                    obtain ⟨rfl, rfl⟩ := hq176
                    refine AW.nam (fun x176 ex176 => ?_)
                    exact AW.iret dX10_season_179 rfl (by decide) (by decide) (⟨j, hj, hxj, h1, h6, by rw [if_neg h150, if_neg h160, ex176, eI146, hJ], by rw [eI146, hJ]⟩)
                  · refine AW.iload dX10_season_163 rfl ?_
                    refine AW.goto 179 dX10_season_165 (by decide) ?_
                    exact AW.iret dX10_season_179 rfl (by decide) (by decide) (⟨j, hj, hxj, h1, h6, by rw [if_neg h150, if_pos h160, hB], by rw [eI146, hJ]⟩)
                · refine AW.iload dX10_season_153 rfl ?_
                  refine AW.goto 179 dX10_season_155 (by decide) ?_
                  exact AW.iret dX10_season_179 rfl (by decide) (by decide) (⟨j, hj, hxj, h1, h6, by rw [if_pos h150, hA], by rw [eI146, hJ]⟩)
              · have hlt := k_lt h82 hy hxj hk79 (by omega)
                refine AW.aload_n dX10_season_85 rfl ?_
                refine AW.getR (c' := 97) (fX10_68 hG).r rfl (hM.1 0 _ rfl) (hM.2 (0, 12, 97) (by decide)) dX10_season_86 ?_
                refine AW.dup dX10_season_89 rfl ?_
                refine AW.getI (fX10_137 hG).r rfl (o97.1 0 _ rfl) dX10_season_90 ?_
                refine AW.iconst 1 dX10_season_93 (by decide) ?_
                refine AW.iadd dX10_season_94 ?_
                refine AW.putI (fX10_137 hG) rfl (vp_nar_int _) rfl (o97.1 0 _ rfl) dX10_season_95 ?_
                refine AW.namI (fun I95 eI95 => ?_)
                have hn95 : I95 t 0 = nI n := by rw [eI95, am_up_o _ _ _ _ (by omega)]; exact hJn
                refine AW.aload_n dX10_season_98 rfl ?_
                refine AW.iload dX10_season_99 rfl ?_
                refine AW.callV (b := 0) (As := [.int s2]) hG.2.2 (vX10_384 hG) (hM.1 0 _ rfl) (k_X10_meetByChance hK (d := 4) (Nat.le_refl _) hXS hM hRt ht3 (by assumption) (by assumption) s2) (by omega) dX10_season_101 rfl rfl (Nat.le_of_ble_eq_true rfl) (fun v w9 hq9 h09 => by obtain ⟨rfl, rfl⟩ := hq9; exact ⟨h09, rfl⟩) (by decide) (by decide) (fun _ _ hx => absurd hx id) (fun v101 w101 hq101 => ?_)
                obtain ⟨rfl, rfl⟩ := hq101
                refine AW.namI (fun I101 eI101 => ?_)
                refine AW.nam (fun x101 ex101 => ?_)
                have hn101 : I101 t 0 = nI n := by rw [eI101, f_mc_o _ _ _ _ (by omega), eI95, am_up_o _ _ _ _ (by omega)]; exact hJn
                have hm101 : I101 (t + 8) 0 = nI m := by rw [eI101, f_mc_o _ _ _ _ (by omega), eI95, am_up_o _ _ _ _ (by omega)]; exact hJm
                refine AW.is [some (.ref 0), some (.int s), some (.int x), some (.int wh), some (.int a), some (.int f), some (.int x101), some (.int y), none] dX10_season_104 (by decide) rfl rfl ?_
                refine AW.aload_n dX10_season_106 rfl ?_
                refine AW.callV (b := 0) (As := []) hG.2.2 (vX10_387 hG) (hM.1 0 _ rfl) (k_X10_loavesWithCutters hK (d := 4) (Nat.le_refl _) hXS hM hRt ht3 (by assumption) (by assumption) (by assumption) (by assumption)) (by omega) dX10_season_107 rfl rfl (Nat.le_of_ble_eq_true rfl) (fun v w9 hq9 h09 => by obtain ⟨rfl, rfl⟩ := hq9; exact ⟨h09, rfl⟩) (by decide) (by decide) (fun _ _ hx => absurd hx id) (fun v107 w107 hq107 => ?_)
                obtain ⟨rfl, rfl⟩ := hq107
                refine AW.namI (fun I107 eI107 => ?_)
                refine AW.nam (fun x107 ex107 => ?_)
                refine AW.is [some (.ref 0), some (.int s), some (.int x), some (.int wh), some (.int a), some (.int f), some (.int x101), some (.int y), some (.int x107)] dX10_season_110 (by decide) rfl rfl ?_
                refine AW.iload dX10_season_112 rfl ?_
                refine AW.iload dX10_season_114 rfl ?_
                refine AW.iadd dX10_season_116 ?_
                refine AW.nam (fun x117 ex117 => ?_)
                refine AW.is [some (.ref 0), some (.int s), some (.int x), some (.int wh), some (.int x117), some (.int f), some (.int x101), some (.int y), some (.int x107)] dX10_season_117 (by decide) rfl rfl ?_
                refine AW.iload dX10_season_119 rfl ?_
                refine AW.iload dX10_season_121 rfl ?_
                refine AW.mmin (k_c hG 1457 (by decide +kernel) (by decide +kernel)) (k_mmin hG) dX10_season_123 (by omega) (Nat.le_of_ble_eq_true rfl) (by decide) (by decide) ?_
                refine AW.nam (fun x126 ex126 => ?_)
                refine AW.is [some (.ref 0), some (.int s), some (.int x), some (.int wh), some (.int x117), some (.int x126), some (.int x101), some (.int y), some (.int x107)] dX10_season_126 (by decide) rfl rfl ?_
                refine AW.inc (fun x128 => [some (.ref 0), some (.int s), some (.int x), some (.int wh), some (.int x117), some (.int x126), some (.int x101), some (.int x128), some (.int x107)]) dX10_season_128 rfl (by decide) rfl (fun _ => rfl) (fun x128 ex128 => ?_)
                refine AW.goto 79 dX10_season_131 (by decide) ?_
                refine AW.mask [8] [some (.ref 0), some (.int s), some (.int x), some (.int wh), some (.int x117), some (.int x126), some (.int x101), some (.int x128), none] rfl ?_
                exact ih79 (k79 + 1) (by omega) (by omega) _ _ _ _ _ (by
                  have e95 : I95 = am_uA (f_sn t n m (f_dcp I 97 47, s, 0, if x = 0 then 0 else 6) k79).1 97 (upd ((f_sn t n m (f_dcp I 97 47, s, 0, if x = 0 then 0 else 6) k79).1 97) 0 ((f_sn t n m (f_dcp I 97 47, s, 0, if x = 0 then 0 else 6) k79).1 97 0 + 1)) := by rw [eI95, am_up_uA, hJ]
                  have e107 : I107 = (f_sn t n m (f_dcp I 97 47, s, 0, if x = 0 then 0 else 6) (k79 + 1)).1 := by rw [eI107, eI101, e95, hS2]; rfl
                  exact ⟨k_inc (by assumption) hy, e107, by rw [ex101, e95, hS2]; rfl, by rw [ex117, ex107, hA, eI101, e95, hS2]; rfl, by rw [ex126, ex107, hB, eI101, e95, hS2]; rfl⟩)
            exact L79 0 (by omega) _ _ _ _ _ (⟨nI_0.symm, eI55, rfl, rfl, (if_pos h62).symm⟩)
        · exact AW.throwSW (hXS.2 379 (by decide)) dX10_season_30 dX10_season_33 dX10_season_34 dX10_season_37 dX10_season_40 (by omega) (Nat.le_of_ble_eq_true rfl) (by decide) (by decide) hg (⟨rfl, Or.inr ⟨rfl, ⟨h1, h6⟩, fun h => h27 h.2⟩⟩)
    · exact AW.throwNW (hXS.1 377 (by decide)) dX10_season_9 dX10_season_12 dX10_season_13 dX10_season_16 dX10_season_19 (by omega) (Nat.le_of_ble_eq_true rfl) (by decide) (by decide) hg (⟨rfl, Or.inl ⟨rfl, fun h => h6 h.2⟩⟩)
abbrev pX10_balk : am_M := (yX10_balk, cX10_balk, 3, (some .int), 2, 12)
theorem dX10_balk_0 : decode cX10_balk 0 = .ok (.aload_n 0, 1) := by decide +kernel
theorem dX10_balk_1 : decode cX10_balk 1 = .ok (.iload_n 1, 1) := by decide +kernel
theorem dX10_balk_2 : decode cX10_balk 2 = .ok (.invokevirtual 168, 3) := by decide +kernel
theorem dX10_balk_5 : decode cX10_balk 5 = .ok (.aload_n 0, 1) := by decide +kernel
theorem dX10_balk_6 : decode cX10_balk 6 = .ok (.iload_n 2, 1) := by decide +kernel
theorem dX10_balk_7 : decode cX10_balk 7 = .ok (.invokevirtual 191, 3) := by decide +kernel
theorem dX10_balk_10 : decode cX10_balk 10 = .ok (.aload_n 0, 1) := by decide +kernel
theorem dX10_balk_11 : decode cX10_balk 11 = .ok (.getfield 33, 3) := by decide +kernel
theorem dX10_balk_14 : decode cX10_balk 14 = .ok (.getfield 160, 3) := by decide +kernel
theorem dX10_balk_17 : decode cX10_balk 17 = .ok (.iconst 4, 1) := by decide +kernel
theorem dX10_balk_18 : decode cX10_balk 18 = .ok (.if_icmp .lt 18, 3) := by decide +kernel
theorem dX10_balk_21 : decode cX10_balk 21 = .ok (.aload_n 0, 1) := by decide +kernel
theorem dX10_balk_22 : decode cX10_balk 22 = .ok (.getfield 33, 3) := by decide +kernel
theorem dX10_balk_25 : decode cX10_balk 25 = .ok (.getfield 100, 3) := by decide +kernel
theorem dX10_balk_28 : decode cX10_balk 28 = .ok (.iconst 2, 1) := by decide +kernel
theorem dX10_balk_29 : decode cX10_balk 29 = .ok (.dup2, 1) := by decide +kernel
theorem dX10_balk_30 : decode cX10_balk 30 = .ok (.iaload, 1) := by decide +kernel
theorem dX10_balk_31 : decode cX10_balk 31 = .ok (.iconst 1, 1) := by decide +kernel
theorem dX10_balk_32 : decode cX10_balk 32 = .ok (.iadd, 1) := by decide +kernel
theorem dX10_balk_33 : decode cX10_balk 33 = .ok (.iastore, 1) := by decide +kernel
theorem dX10_balk_34 : decode cX10_balk 34 = .ok (.iconst (-1), 1) := by decide +kernel
theorem dX10_balk_35 : decode cX10_balk 35 = .ok (.ireturn, 1) := by decide +kernel
theorem dX10_balk_36 : decode cX10_balk 36 = .ok (.aload_n 0, 1) := by decide +kernel
theorem dX10_balk_37 : decode cX10_balk 37 = .ok (.getfield 33, 3) := by decide +kernel
theorem dX10_balk_40 : decode cX10_balk 40 = .ok (.iload_n 1, 1) := by decide +kernel
theorem dX10_balk_41 : decode cX10_balk 41 = .ok (.iload_n 2, 1) := by decide +kernel
theorem dX10_balk_42 : decode cX10_balk 42 = .ok (.invokevirtual 341, 3) := by decide +kernel
theorem dX10_balk_45 : decode cX10_balk 45 = .ok (.ireturn, 1) := by decide +kernel
set_option maxRecDepth 100000 in
set_option maxHeartbeats 4000000 in
theorem k_X10_balk {G : am_G} (hK : k_OK G) {d : Nat} (hd : 8 ≤ d) {sh : List (Nat ⊕ (Nat × Nat))} {I : Nat → Nat → Int32} {R : Nat → Nat → Option Nat} {L : Nat → Nat → Int64} {g : Nat} (hXS : k_XS G) {t : Nat} (hM : k_Main sh R) (hRt : R 0 1 = some t) (ht3 : t = 3 ∨ t = 22) (hg : g ≠ 0) {n m : Nat} (hn : I t 0 = nI n) (hn8 : n ≤ 8) (hm : I (t + 8) 0 = nI m) (hm6 : m ≤ 6) {k : Nat} (hk : I 41 6 = nI k) (hk4 : k ≤ 4) (p l : Int32) : AM G pX10_balk d [.ref 0, .int p, .int l] (sh, I, R, L, g) (fun v w => k_is p n ∧ k_is l m ∧ v = some (.int (if k < 4 then nI (k + 1) else -1)) ∧ w = (sh, if k < 4 then am_uA (am_uA (am_uA I 58 (upd (I 58) k p)) 59 (upd (I 59) k l)) 41 (upd (I 41) 6 (nI (k + 1))) else f_ref I 2, R, L, g)) (fun E w => w = (sh, I, R, L, g) ∧ E = "java/util/NoSuchElementException" ∧ ¬ (k_is p n ∧ k_is l m)) := by
  have hG := hK.1
  have ht : k_Town sh R t := by rcases ht3 with rfl | rfl; exact kM_3 hM; exact kM_22 hM
  have o41 := kM_41 hM
  have o42 := kM_42 hM
  have o43 := kM_43 hM
  have o47 := kM_47 hM
  have o60 := kM_60 hM
  have o90 := kM_90 hM
  have o93 := kM_93 hM
  have o97 := kM_97 hM
  have o79 := kM_79 hM
  have o1 := kM_1 hM
  refine AM.of (n := 0) (by decide +kernel) (Nat.le_of_ble_eq_true rfl) ?_
  show AW G pX10_balk d (fun v w => k_is p n ∧ k_is l m ∧ v = some (.int (if k < 4 then nI (k + 1) else -1)) ∧ w = (sh, if k < 4 then am_uA (am_uA (am_uA I 58 (upd (I 58) k p)) 59 (upd (I 59) k l)) 41 (upd (I 41) 6 (nI (k + 1))) else f_ref I 2, R, L, g)) (fun E w => w = (sh, I, R, L, g) ∧ E = "java/util/NoSuchElementException" ∧ ¬ (k_is p n ∧ k_is l m)) 0 [some (.ref 0), some (.int p), some (.int l)] [] (sh, I, R, L, g) 0 0
  refine AW.aload_n dX10_balk_0 rfl ?_
  refine AW.iload_n dX10_balk_1 rfl ?_
  refine AW.callV (b := 0) (As := [.int p]) hG.2.2 (vX10_168 hG) (hM.1 0 _ rfl) (k_X10_requirePerson hK (d := 7) (Nat.le_refl _) hXS hM hRt ht3 hg (by assumption) (by assumption) p) (by omega) dX10_balk_2 rfl rfl (Nat.le_of_ble_eq_true rfl) (fun v w9 hq9 h09 => absurd (by obtain ⟨-, e9, -⟩ := hq9; rw [e9] at h09; exact h09) hg) (by decide) (by decide) (fun E w9 h9 => ⟨h9.2.1, h9.1, fun h => h9.2.2 h.1⟩) (fun v2 w2 hq2 => ?_)
  obtain ⟨rfl, rfl, his2⟩ := hq2
  show AW G pX10_balk d (fun v w => k_is p n ∧ k_is l m ∧ v = some (.int (if k < 4 then nI (k + 1) else -1)) ∧ w = (sh, if k < 4 then am_uA (am_uA (am_uA I 58 (upd (I 58) k p)) 59 (upd (I 59) k l)) 41 (upd (I 41) 6 (nI (k + 1))) else f_ref I 2, R, L, g)) (fun E w => w = (sh, I, R, L, g) ∧ E = "java/util/NoSuchElementException" ∧ ¬ (k_is p n ∧ k_is l m)) 5 [some (.ref 0), some (.int p), some (.int l)] [] (sh, I, R, L, g) 1 6
  refine AW.aload_n dX10_balk_5 rfl ?_
  refine AW.iload_n dX10_balk_6 rfl ?_
  refine AW.callV (b := 0) (As := [.int l]) hG.2.2 (vX10_191 hG) (hM.1 0 _ rfl) (k_X10_requireLoaf hK (d := 7) (Nat.le_refl _) hXS hM hRt ht3 hg (by assumption) (by assumption) l) (by omega) dX10_balk_7 rfl rfl (Nat.le_of_ble_eq_true rfl) (fun v w9 hq9 h09 => absurd (by obtain ⟨-, e9, -⟩ := hq9; rw [e9] at h09; exact h09) hg) (by decide) (by decide) (fun E w9 h9 => ⟨h9.2.1, h9.1, fun h => h9.2.2 h.2⟩) (fun v7 w7 hq7 => ?_)
  obtain ⟨rfl, rfl, his7⟩ := hq7
  show AW G pX10_balk d (fun v w => k_is p n ∧ k_is l m ∧ v = some (.int (if k < 4 then nI (k + 1) else -1)) ∧ w = (sh, if k < 4 then am_uA (am_uA (am_uA I 58 (upd (I 58) k p)) 59 (upd (I 59) k l)) 41 (upd (I 41) 6 (nI (k + 1))) else f_ref I 2, R, L, g)) (fun E w => w = (sh, I, R, L, g) ∧ E = "java/util/NoSuchElementException" ∧ ¬ (k_is p n ∧ k_is l m)) 10 [some (.ref 0), some (.int p), some (.int l)] [] (sh, I, R, L, g) 2 12
  refine AW.aload_n dX10_balk_10 rfl ?_
  refine AW.getR (c' := 41) (fX10_33 hG).r rfl (hM.1 0 _ rfl) (hM.2 (0, 4, 41) (by decide)) dX10_balk_11 ?_
  refine AW.getI (fX10_160 hG).r rfl (o41.1 0 _ rfl) dX10_balk_14 ?_
  refine AW.iconst 4 dX10_balk_17 (by decide) ?_
  refine AW.icmp_lt 36 dX10_balk_18 (by decide) (fun h18 => ?_) (fun h18 => ?_)
  · have hk9 : k < 4 := (nI_ltl hk (m := 4) rfl (by omega) (by decide)).mp h18
    refine AW.aload_n dX10_balk_36 rfl ?_
    refine AW.getR (c' := 41) (fX10_33 hG).r rfl (hM.1 0 _ rfl) (hM.2 (0, 4, 41) (by decide)) dX10_balk_37 ?_
    refine AW.iload_n dX10_balk_40 rfl ?_
    refine AW.iload_n dX10_balk_41 rfl ?_
    refine AW.callV (b := 41) (As := [.int p, .int l]) hG.2.2 (vX10_341 hG) (o41.1 0 _ rfl) (k_X4_addBalked hK (d := 0) (Nat.le_refl _) o41 (by assumption) (by assumption) p l) (by omega) dX10_balk_42 rfl rfl (Nat.le_of_ble_eq_true rfl) (fun v w9 hq9 h09 => by obtain ⟨rfl, rfl⟩ := hq9; exact ⟨h09, rfl⟩) (by decide) (by decide) (fun _ _ hx => absurd hx id) (fun v42 w42 hq42 => ?_)
    obtain ⟨rfl, rfl⟩ := hq42
    refine AW.namI (fun I42 eI42 => ?_)
    refine AW.nam (fun x42 ex42 => ?_)
    exact AW.iret dX10_balk_45 rfl (by decide) (by decide) (⟨his2, his7, by rw [if_pos hk9, ex42], by rw [if_pos hk9, eI42]⟩)
  · have hk9 : ¬ k < 4 := fun h => h18 ((nI_ltl hk (m := 4) rfl (by omega) (by decide)).mpr h)
    refine AW.aload_n dX10_balk_21 rfl ?_
    refine AW.getR (c' := 41) (fX10_33 hG).r rfl (hM.1 0 _ rfl) (hM.2 (0, 4, 41) (by decide)) dX10_balk_22 ?_
    refine AW.getR (c' := 54) (fX10_100 hG) rfl (o41.1 0 _ rfl) (o41.2 (0, 1, 13) (by decide)) dX10_balk_25 ?_
    refine AW.iconst 2 dX10_balk_28 (by decide) ?_
    refine AW.dup2 dX10_balk_29 rfl rfl ?_
    refine AW.iald (o41.1 13 _ rfl) (by first | assumption | (unfold vp_in; decide) | exact vp_in_nI (by omega) (by decide)) dX10_balk_30 ?_
    refine AW.iconst 1 dX10_balk_31 (by decide) ?_
    refine AW.iadd dX10_balk_32 ?_
    refine AW.iast (o41.1 13 _ rfl) (by first | assumption | (unfold vp_in; decide) | exact vp_in_nI (by omega) (by decide)) dX10_balk_33 ?_
    refine AW.namI (fun I33 eI33 => ?_)
    refine AW.iconst (-1) dX10_balk_34 (by decide) ?_
    exact AW.iret dX10_balk_35 rfl (by decide) (by decide) (⟨his2, his7, by rw [if_neg hk9], by rw [if_neg hk9, eI33]; rfl⟩)
