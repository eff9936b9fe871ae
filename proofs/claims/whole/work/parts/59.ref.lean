/-! 59.ref (printed by s52.py) -/
theorem dX11_from_0 : decode cX11_from 0 = .ok (.aload_n 0, 1) := by decide +kernel
theorem dX11_from_1 : decode cX11_from 1 = .ok (.getfield 324, 3) := by decide +kernel
theorem dX11_from_4 : decode cX11_from 4 = .ok (.aload_n 0, 1) := by decide +kernel
theorem dX11_from_5 : decode cX11_from 5 = .ok (.getfield 55, 3) := by decide +kernel
theorem dX11_from_8 : decode cX11_from 8 = .ok (.iload_n 2, 1) := by decide +kernel
theorem dX11_from_9 : decode cX11_from 9 = .ok (.iaload, 1) := by decide +kernel
theorem dX11_from_10 : decode cX11_from 10 = .ok (.invokestatic 285, 3) := by decide +kernel
theorem dX11_from_13 : decode cX11_from 13 = .ok (.aload_n 0, 1) := by decide +kernel
theorem dX11_from_14 : decode cX11_from 14 = .ok (.getfield 44, 3) := by decide +kernel
theorem dX11_from_17 : decode cX11_from 17 = .ok (.iload_n 1, 1) := by decide +kernel
theorem dX11_from_18 : decode cX11_from 18 = .ok (.iaload, 1) := by decide +kernel
theorem dX11_from_19 : decode cX11_from 19 = .ok (.aload_n 0, 1) := by decide +kernel
theorem dX11_from_20 : decode cX11_from 20 = .ok (.getfield 49, 3) := by decide +kernel
theorem dX11_from_23 : decode cX11_from 23 = .ok (.iload_n 2, 1) := by decide +kernel
theorem dX11_from_24 : decode cX11_from 24 = .ok (.iaload, 1) := by decide +kernel
theorem dX11_from_25 : decode cX11_from 25 = .ok (.isub, 1) := by decide +kernel
theorem dX11_from_26 : decode cX11_from 26 = .ok (.invokestatic 432, 3) := by decide +kernel
theorem dX11_from_29 : decode cX11_from 29 = .ok (.iadd, 1) := by decide +kernel
theorem dX11_from_30 : decode cX11_from 30 = .ok (.ireturn, 1) := by decide +kernel
def b_X11_from (I : g_I) (x1 : Int32) (x2 : Int32) : Option (Int32) :=
  if g_in x2 12 = true then if g_in x1 16 = true then if g_in x2 12 = true then some ((g_max (I 101 31) (I 110 x2.toNatClampNeg)) + (g_abs ((I 106 x1.toNatClampNeg) - (I 108 x2.toNatClampNeg)))) else none else none else none
set_option maxRecDepth 100000 in
set_option maxHeartbeats 4000000 in
theorem g_X11_from {G : am_G} (hK : k_OK G) {d : Nat} (hd : 1 ≤ d) {sh : List (Nat ⊕ (Nat × Nat))} {I : g_I} {R : Nat → Nat → Option Nat} {L : Nat → Nat → Int64} {g : Nat} (hm : k_Mod sh R) {x1 : Int32} {x2 : Int32} {r : Int32} (h : b_X11_from I x1 x2 = some r) : AM G mX11_from d [.ref 101, .int x1, .int x2] (sh, I, R, L, g) (fun v w => v = some (.int r) ∧ w = (sh, I, R, L, g)) (fun _ _ => False) := by
  have hG := hK.1
  refine AM.of (n := 0) (by decide +kernel) (Nat.le_of_ble_eq_true rfl) ?_
  show AW G mX11_from d (fun v w => v = some (.int r) ∧ w = (sh, I, R, L, g)) (fun _ _ => False) 0 [some (.ref 101), some (.int x1), some (.int x2)] [] (sh, I, R, L, g) 0 0
  unfold b_X11_from at h
  refine AW.aload_n dX11_from_0 rfl ?_
  refine AW.getI (fX11_324 hG).r rfl (hm.1 0 _ rfl) dX11_from_1 ?_
  refine AW.aload_n dX11_from_4 rfl ?_
  refine AW.getR (c' := 110) (fX11_55 hG).r rfl (hm.1 0 _ rfl) (hm.2 (0, 9, 9) (by decide)) dX11_from_5 ?_
  refine AW.iload_n dX11_from_8 rfl ?_
  obtain ⟨hb, h⟩ := g_ifE h
  refine AW.iald (hm.1 9 _ rfl) (g_in_iff.mp hb) dX11_from_9 ?_
  refine AW.mmax (k_c hG 1812 (by decide +kernel) (by decide +kernel)) (k_mmax hG) dX11_from_10 (by omega) (Nat.le_of_ble_eq_true rfl) (by decide) (by decide) ?_
  show AW G _ d _ _ 13 [some (.ref 101), some (.int x1), some (.int x2)] [.int (g_max (I 101 31) (I 110 x2.toNatClampNeg))] (sh, I, R, L, g) 0 0
  refine AW.aload_n dX11_from_13 rfl ?_
  refine AW.getR (c' := 106) (fX11_44 hG).r rfl (hm.1 0 _ rfl) (hm.2 (0, 5, 5) (by decide)) dX11_from_14 ?_
  refine AW.iload_n dX11_from_17 rfl ?_
  obtain ⟨hb, h⟩ := g_ifE h
  refine AW.iald (hm.1 5 _ rfl) (g_in_iff.mp hb) dX11_from_18 ?_
  refine AW.aload_n dX11_from_19 rfl ?_
  refine AW.getR (c' := 108) (fX11_49 hG).r rfl (hm.1 0 _ rfl) (hm.2 (0, 7, 7) (by decide)) dX11_from_20 ?_
  refine AW.iload_n dX11_from_23 rfl ?_
  obtain ⟨hb, h⟩ := g_ifE h
  refine AW.iald (hm.1 7 _ rfl) (g_in_iff.mp hb) dX11_from_24 ?_
  refine AW.isub dX11_from_25 ?_
  refine AW.mabs (k_c hG 1995 (by decide +kernel) (by decide +kernel)) (k_mabs hG) dX11_from_26 (by omega) (Nat.le_of_ble_eq_true rfl) (by decide) (by decide) ?_
  show AW G _ d _ _ 29 [some (.ref 101), some (.int x1), some (.int x2)] [.int (g_abs ((I 106 x1.toNatClampNeg) - (I 108 x2.toNatClampNeg))), .int (g_max (I 101 31) (I 110 x2.toNatClampNeg))] (sh, I, R, L, g) 0 0
  refine AW.iadd dX11_from_29 ?_
  exact AW.iret dX11_from_30 rfl (by decide) (by decide) (by cases h; exact ⟨rfl, rfl⟩)
theorem dX11_until_0 : decode cX11_until 0 = .ok (.aload_n 0, 1) := by decide +kernel
theorem dX11_until_1 : decode cX11_until 1 = .ok (.getfield 38, 3) := by decide +kernel
theorem dX11_until_4 : decode cX11_until 4 = .ok (.iconst 4, 1) := by decide +kernel
theorem dX11_until_5 : decode cX11_until 5 = .ok (.iaload, 1) := by decide +kernel
theorem dX11_until_6 : decode cX11_until 6 = .ok (.aload_n 0, 1) := by decide +kernel
theorem dX11_until_7 : decode cX11_until 7 = .ok (.getfield 55, 3) := by decide +kernel
theorem dX11_until_10 : decode cX11_until 10 = .ok (.iload_n 1, 1) := by decide +kernel
theorem dX11_until_11 : decode cX11_until 11 = .ok (.iaload, 1) := by decide +kernel
theorem dX11_until_12 : decode cX11_until 12 = .ok (.aload_n 0, 1) := by decide +kernel
theorem dX11_until_13 : decode cX11_until 13 = .ok (.getfield 58, 3) := by decide +kernel
theorem dX11_until_16 : decode cX11_until 16 = .ok (.iload_n 1, 1) := by decide +kernel
theorem dX11_until_17 : decode cX11_until 17 = .ok (.iaload, 1) := by decide +kernel
theorem dX11_until_18 : decode cX11_until 18 = .ok (.iadd, 1) := by decide +kernel
theorem dX11_until_19 : decode cX11_until 19 = .ok (.invokestatic 195, 3) := by decide +kernel
theorem dX11_until_22 : decode cX11_until 22 = .ok (.ireturn, 1) := by decide +kernel
def b_X11_until (I : g_I) (x1 : Int32) : Option (Int32) :=
  if g_in x1 12 = true then if g_in x1 12 = true then some (g_min (I 104 4) ((I 110 x1.toNatClampNeg) + (I 111 x1.toNatClampNeg))) else none else none
set_option maxRecDepth 100000 in
set_option maxHeartbeats 4000000 in
theorem g_X11_until {G : am_G} (hK : k_OK G) {d : Nat} (hd : 1 ≤ d) {sh : List (Nat ⊕ (Nat × Nat))} {I : g_I} {R : Nat → Nat → Option Nat} {L : Nat → Nat → Int64} {g : Nat} (hm : k_Mod sh R) {x1 : Int32} {r : Int32} (h : b_X11_until I x1 = some r) : AM G mX11_until d [.ref 101, .int x1] (sh, I, R, L, g) (fun v w => v = some (.int r) ∧ w = (sh, I, R, L, g)) (fun _ _ => False) := by
  have hG := hK.1
  refine AM.of (n := 0) (by decide +kernel) (Nat.le_of_ble_eq_true rfl) ?_
  show AW G mX11_until d (fun v w => v = some (.int r) ∧ w = (sh, I, R, L, g)) (fun _ _ => False) 0 [some (.ref 101), some (.int x1)] [] (sh, I, R, L, g) 0 0
  unfold b_X11_until at h
  refine AW.aload_n dX11_until_0 rfl ?_
  refine AW.getR (c' := 104) (fX11_38 hG).r rfl (hm.1 0 _ rfl) (hm.2 (0, 3, 3) (by decide)) dX11_until_1 ?_
  refine AW.iconst 4 dX11_until_4 (by decide) ?_
  refine AW.iald (hm.1 3 _ rfl) (by unfold vp_in; decide) dX11_until_5 ?_
  show AW G _ d _ _ 6 [some (.ref 101), some (.int x1)] [.int (I 104 4)] (sh, I, R, L, g) 0 0
  refine AW.aload_n dX11_until_6 rfl ?_
  refine AW.getR (c' := 110) (fX11_55 hG).r rfl (hm.1 0 _ rfl) (hm.2 (0, 9, 9) (by decide)) dX11_until_7 ?_
  refine AW.iload_n dX11_until_10 rfl ?_
  obtain ⟨hb, h⟩ := g_ifE h
  refine AW.iald (hm.1 9 _ rfl) (g_in_iff.mp hb) dX11_until_11 ?_
  refine AW.aload_n dX11_until_12 rfl ?_
  refine AW.getR (c' := 111) (fX11_58 hG).r rfl (hm.1 0 _ rfl) (hm.2 (0, 10, 10) (by decide)) dX11_until_13 ?_
  refine AW.iload_n dX11_until_16 rfl ?_
  obtain ⟨hb, h⟩ := g_ifE h
  refine AW.iald (hm.1 10 _ rfl) (g_in_iff.mp hb) dX11_until_17 ?_
  refine AW.iadd dX11_until_18 ?_
  refine AW.mmin (k_c hG 1716 (by decide +kernel) (by decide +kernel)) (k_mmin hG) dX11_until_19 (by omega) (Nat.le_of_ble_eq_true rfl) (by decide) (by decide) ?_
  show AW G _ d _ _ 22 [some (.ref 101), some (.int x1)] [.int (g_min (I 104 4) ((I 110 x1.toNatClampNeg) + (I 111 x1.toNatClampNeg)))] (sh, I, R, L, g) 0 0
  exact AW.iret dX11_until_22 rfl (by decide) (by decide) (by cases h; exact ⟨rfl, rfl⟩)
theorem dX11_isInTime_0 : decode cX11_isInTime 0 = .ok (.iconst 0, 1) := by decide +kernel
theorem dX11_isInTime_1 : decode cX11_isInTime 1 = .ok (.istore_n 3, 1) := by decide +kernel
theorem dX11_isInTime_2 : decode cX11_isInTime 2 = .ok (.iconst 0, 1) := by decide +kernel
theorem dX11_isInTime_3 : decode cX11_isInTime 3 = .ok (.istore 4, 2) := by decide +kernel
theorem dX11_isInTime_5 : decode cX11_isInTime 5 = .ok (.iload 4, 2) := by decide +kernel
theorem dX11_isInTime_7 : decode cX11_isInTime 7 = .ok (.iload_n 2, 1) := by decide +kernel
theorem dX11_isInTime_8 : decode cX11_isInTime 8 = .ok (.if_icmp .ge 27, 3) := by decide +kernel
theorem dX11_isInTime_11 : decode cX11_isInTime 11 = .ok (.aload_n 0, 1) := by decide +kernel
theorem dX11_isInTime_12 : decode cX11_isInTime 12 = .ok (.getfield 105, 3) := by decide +kernel
theorem dX11_isInTime_15 : decode cX11_isInTime 15 = .ok (.iload 4, 2) := by decide +kernel
theorem dX11_isInTime_17 : decode cX11_isInTime 17 = .ok (.iaload, 1) := by decide +kernel
theorem dX11_isInTime_18 : decode cX11_isInTime 18 = .ok (.iload_n 1, 1) := by decide +kernel
theorem dX11_isInTime_19 : decode cX11_isInTime 19 = .ok (.if_icmp .ne 10, 3) := by decide +kernel
theorem dX11_isInTime_22 : decode cX11_isInTime 22 = .ok (.iload_n 3, 1) := by decide +kernel
theorem dX11_isInTime_23 : decode cX11_isInTime 23 = .ok (.iconst 1, 1) := by decide +kernel
theorem dX11_isInTime_24 : decode cX11_isInTime 24 = .ok (.iload 4, 2) := by decide +kernel
theorem dX11_isInTime_26 : decode cX11_isInTime 26 = .ok (.ishl, 1) := by decide +kernel
theorem dX11_isInTime_27 : decode cX11_isInTime 27 = .ok (.ior, 1) := by decide +kernel
theorem dX11_isInTime_28 : decode cX11_isInTime 28 = .ok (.istore_n 3, 1) := by decide +kernel
theorem dX11_isInTime_29 : decode cX11_isInTime 29 = .ok (.iinc 4 1, 3) := by decide +kernel
theorem dX11_isInTime_32 : decode cX11_isInTime 32 = .ok (.goto (-27), 3) := by decide +kernel
theorem dX11_isInTime_35 : decode cX11_isInTime 35 = .ok (.iconst 0, 1) := by decide +kernel
theorem dX11_isInTime_36 : decode cX11_isInTime 36 = .ok (.istore 4, 2) := by decide +kernel
theorem dX11_isInTime_38 : decode cX11_isInTime 38 = .ok (.iload 4, 2) := by decide +kernel
theorem dX11_isInTime_40 : decode cX11_isInTime 40 = .ok (.bipush 24, 2) := by decide +kernel
theorem dX11_isInTime_42 : decode cX11_isInTime 42 = .ok (.if_icmp .ge 108, 3) := by decide +kernel
theorem dX11_isInTime_45 : decode cX11_isInTime 45 = .ok (.iload_n 3, 1) := by decide +kernel
theorem dX11_isInTime_46 : decode cX11_isInTime 46 = .ok (.ifCond .eq 104, 3) := by decide +kernel
theorem dX11_isInTime_49 : decode cX11_isInTime 49 = .ok (.iconst (-1), 1) := by decide +kernel
theorem dX11_isInTime_50 : decode cX11_isInTime 50 = .ok (.istore 5, 2) := by decide +kernel
theorem dX11_isInTime_52 : decode cX11_isInTime 52 = .ok (.iconst 0, 1) := by decide +kernel
theorem dX11_isInTime_53 : decode cX11_isInTime 53 = .ok (.istore 6, 2) := by decide +kernel
theorem dX11_isInTime_55 : decode cX11_isInTime 55 = .ok (.iload 6, 2) := by decide +kernel
theorem dX11_isInTime_57 : decode cX11_isInTime 57 = .ok (.iload_n 2, 1) := by decide +kernel
theorem dX11_isInTime_58 : decode cX11_isInTime 58 = .ok (.if_icmp .ge 71, 3) := by decide +kernel
theorem dX11_isInTime_61 : decode cX11_isInTime 61 = .ok (.iload_n 3, 1) := by decide +kernel
theorem dX11_isInTime_62 : decode cX11_isInTime 62 = .ok (.iload 6, 2) := by decide +kernel
theorem dX11_isInTime_64 : decode cX11_isInTime 64 = .ok (.invokestatic 278, 3) := by decide +kernel
theorem dX11_isInTime_67 : decode cX11_isInTime 67 = .ok (.ifCond .ne 6, 3) := by decide +kernel
theorem dX11_isInTime_70 : decode cX11_isInTime 70 = .ok (.goto 53, 3) := by decide +kernel
theorem dX11_isInTime_73 : decode cX11_isInTime 73 = .ok (.aload_n 0, 1) := by decide +kernel
theorem dX11_isInTime_74 : decode cX11_isInTime 74 = .ok (.iload 6, 2) := by decide +kernel
theorem dX11_isInTime_76 : decode cX11_isInTime 76 = .ok (.invokevirtual 435, 3) := by decide +kernel
theorem dX11_isInTime_79 : decode cX11_isInTime 79 = .ok (.iload 4, 2) := by decide +kernel
theorem dX11_isInTime_81 : decode cX11_isInTime 81 = .ok (.if_icmp .ge 5, 3) := by decide +kernel
theorem dX11_isInTime_84 : decode cX11_isInTime 84 = .ok (.iconst 0, 1) := by decide +kernel
theorem dX11_isInTime_85 : decode cX11_isInTime 85 = .ok (.ireturn, 1) := by decide +kernel
theorem dX11_isInTime_86 : decode cX11_isInTime 86 = .ok (.aload_n 0, 1) := by decide +kernel
theorem dX11_isInTime_87 : decode cX11_isInTime 87 = .ok (.iload_n 1, 1) := by decide +kernel
theorem dX11_isInTime_88 : decode cX11_isInTime 88 = .ok (.iload 6, 2) := by decide +kernel
theorem dX11_isInTime_90 : decode cX11_isInTime 90 = .ok (.invokevirtual 438, 3) := by decide +kernel
theorem dX11_isInTime_93 : decode cX11_isInTime 93 = .ok (.iload 4, 2) := by decide +kernel
theorem dX11_isInTime_95 : decode cX11_isInTime 95 = .ok (.if_icmp .gt 28, 3) := by decide +kernel
theorem dX11_isInTime_98 : decode cX11_isInTime 98 = .ok (.iload 5, 2) := by decide +kernel
theorem dX11_isInTime_100 : decode cX11_isInTime 100 = .ok (.iconst (-1), 1) := by decide +kernel
theorem dX11_isInTime_101 : decode cX11_isInTime 101 = .ok (.if_icmp .eq 18, 3) := by decide +kernel
theorem dX11_isInTime_104 : decode cX11_isInTime 104 = .ok (.aload_n 0, 1) := by decide +kernel
theorem dX11_isInTime_105 : decode cX11_isInTime 105 = .ok (.iload 6, 2) := by decide +kernel
theorem dX11_isInTime_107 : decode cX11_isInTime 107 = .ok (.invokevirtual 435, 3) := by decide +kernel
theorem dX11_isInTime_110 : decode cX11_isInTime 110 = .ok (.aload_n 0, 1) := by decide +kernel
theorem dX11_isInTime_111 : decode cX11_isInTime 111 = .ok (.iload 5, 2) := by decide +kernel
theorem dX11_isInTime_113 : decode cX11_isInTime 113 = .ok (.invokevirtual 435, 3) := by decide +kernel
theorem dX11_isInTime_116 : decode cX11_isInTime 116 = .ok (.if_icmp .ge 7, 3) := by decide +kernel
theorem dX11_isInTime_119 : decode cX11_isInTime 119 = .ok (.iload 6, 2) := by decide +kernel
theorem dX11_isInTime_121 : decode cX11_isInTime 121 = .ok (.istore 5, 2) := by decide +kernel
theorem dX11_isInTime_123 : decode cX11_isInTime 123 = .ok (.iinc 6 1, 3) := by decide +kernel
theorem dX11_isInTime_126 : decode cX11_isInTime 126 = .ok (.goto (-71), 3) := by decide +kernel
theorem dX11_isInTime_129 : decode cX11_isInTime 129 = .ok (.iload 5, 2) := by decide +kernel
theorem dX11_isInTime_131 : decode cX11_isInTime 131 = .ok (.iconst (-1), 1) := by decide +kernel
theorem dX11_isInTime_132 : decode cX11_isInTime 132 = .ok (.if_icmp .eq 12, 3) := by decide +kernel
theorem dX11_isInTime_135 : decode cX11_isInTime 135 = .ok (.iload_n 3, 1) := by decide +kernel
theorem dX11_isInTime_136 : decode cX11_isInTime 136 = .ok (.iconst 1, 1) := by decide +kernel
theorem dX11_isInTime_137 : decode cX11_isInTime 137 = .ok (.iload 5, 2) := by decide +kernel
theorem dX11_isInTime_139 : decode cX11_isInTime 139 = .ok (.ishl, 1) := by decide +kernel
theorem dX11_isInTime_140 : decode cX11_isInTime 140 = .ok (.iconst (-1), 1) := by decide +kernel
theorem dX11_isInTime_141 : decode cX11_isInTime 141 = .ok (.ixor, 1) := by decide +kernel
theorem dX11_isInTime_142 : decode cX11_isInTime 142 = .ok (.iand, 1) := by decide +kernel
theorem dX11_isInTime_143 : decode cX11_isInTime 143 = .ok (.istore_n 3, 1) := by decide +kernel
theorem dX11_isInTime_144 : decode cX11_isInTime 144 = .ok (.iinc 4 1, 3) := by decide +kernel
theorem dX11_isInTime_147 : decode cX11_isInTime 147 = .ok (.goto (-109), 3) := by decide +kernel
theorem dX11_isInTime_150 : decode cX11_isInTime 150 = .ok (.iload_n 3, 1) := by decide +kernel
theorem dX11_isInTime_151 : decode cX11_isInTime 151 = .ok (.ifCond .ne 7, 3) := by decide +kernel
theorem dX11_isInTime_154 : decode cX11_isInTime 154 = .ok (.iconst 1, 1) := by decide +kernel
theorem dX11_isInTime_155 : decode cX11_isInTime 155 = .ok (.goto 4, 3) := by decide +kernel
theorem dX11_isInTime_158 : decode cX11_isInTime 158 = .ok (.iconst 0, 1) := by decide +kernel
theorem dX11_isInTime_159 : decode cX11_isInTime 159 = .ok (.ireturn, 1) := by decide +kernel
def b_X11_isInTime_L5 (I : g_I) (y1 : Int32) (y2 : Int32) (K : Int32 → Option (Bool)) : Nat → Int32 → Int32 → Option (Bool)
  | 0, _, _ => none
  | f + 1, x3, x4 => if y2 ≤ x4 then K x3 else if g_in x4 6 = true then if (I 126 x4.toNatClampNeg) = y1 then g_let (x3 ||| ((1 : Int32) <<< (x4 &&& 31))) fun a1 => b_X11_isInTime_L5 I y1 y2 K f a1 (x4 + 1) else b_X11_isInTime_L5 I y1 y2 K f x3 (x4 + 1) else none
def b_X11_isInTime_L55 (I : g_I) (y1 : Int32) (y2 : Int32) (y3 : Int32) (y4 : Int32) (K : Int32 → Option (Bool)) : Nat → Int32 → Int32 → Option (Bool)
  | 0, _, _ => none
  | f + 1, x5, x6 => if y2 ≤ x6 then K x5 else if b_X11_isOf y3 x6 = true then g_bind (b_X11_until I x6) fun a3 => if y4 ≤ a3 then g_bind (b_X11_from I y1 x6) fun a6 => if y4 < a6 then b_X11_isInTime_L55 I y1 y2 y3 y4 K f x5 (x6 + 1) else if x5 = (-1) then b_X11_isInTime_L55 I y1 y2 y3 y4 K f x6 (x6 + 1) else g_bind (b_X11_until I x6) fun a9 => g_bind (b_X11_until I x5) fun a12 => if a12 ≤ a9 then b_X11_isInTime_L55 I y1 y2 y3 y4 K f x5 (x6 + 1) else b_X11_isInTime_L55 I y1 y2 y3 y4 K f x6 (x6 + 1) else some false else b_X11_isInTime_L55 I y1 y2 y3 y4 K f x5 (x6 + 1)
def b_X11_isInTime_L38 (I : g_I) (y1 : Int32) (y2 : Int32) (K : Int32 → Option (Bool)) : Nat → Int32 → Int32 → Option (Bool)
  | 0, _, _ => none
  | f + 1, x3, x4 => if 24 ≤ x4 then K x3 else if x3 = 0 then K x3 else b_X11_isInTime_L55 I y1 y2 x3 x4 (fun (a15 : Int32) => if a15 = (-1) then b_X11_isInTime_L38 I y1 y2 K f x3 (x4 + 1) else g_let (x3 &&& (((1 : Int32) <<< (a15 &&& 31)) ^^^ (-1))) fun a16 => b_X11_isInTime_L38 I y1 y2 K f a16 (x4 + 1)) fu (-1) 0
def b_X11_isInTime (I : g_I) (x1 : Int32) (x2 : Int32) : Option (Bool) :=
  b_X11_isInTime_L5 I x1 x2 (fun (a2 : Int32) => b_X11_isInTime_L38 I x1 x2 (fun (a17 : Int32) => if a17 = 0 then some true else some false) fu a2 0) fu 0 0
set_option maxRecDepth 100000 in
set_option maxHeartbeats 4000000 in
theorem gL_X11_isInTime_5 {G : am_G} (hK : k_OK G) {d : Nat} (hd : 2 ≤ d) {sh : List (Nat ⊕ (Nat × Nat))} {I : g_I} {R : Nat → Nat → Option Nat} {L : Nat → Nat → Int64} {g : Nat} (hm : k_Mod sh R) {y1 : Int32} {y2 : Int32} {K : Int32 → Option (Bool)} {x3 : Int32} {x4 : Int32} {f : Nat} {r : Bool} (h : b_X11_isInTime_L5 I y1 y2 K f x3 x4 = some r) (hk : ∀ (u3 : Int32), K u3 = some r → AW G mX11_isInTime d (fun v w => v = some (.int (kb r)) ∧ w = (sh, I, R, L, g)) (fun _ _ => False) 35 [some (.ref 101), some (.int y1), some (.int y2), some (.int u3), none, none, none] [] (sh, I, R, L, g) 0 0) : AW G mX11_isInTime d (fun v w => v = some (.int (kb r)) ∧ w = (sh, I, R, L, g)) (fun _ _ => False) 5 [some (.ref 101), some (.int y1), some (.int y2), some (.int x3), some (.int x4), none, none] [] (sh, I, R, L, g) 0 0 := by
  have hG := hK.1
  induction f generalizing x3 x4 with
  | zero => rw [b_X11_isInTime_L5] at h; cases h
  | succ f ih =>
    rw [b_X11_isInTime_L5] at h
    refine AW.iload dX11_isInTime_5 rfl ?_
    refine AW.iload_n dX11_isInTime_7 rfl ?_
    refine AW.icmp_ge 35 dX11_isInTime_8 (by decide) (fun hc8 => ?_) (fun hc8 => ?_)
    · replace h := g_pos hc8 h
      refine AW.mask [4] [some (.ref 101), some (.int y1), some (.int y2), some (.int x3), none, none, none] rfl ?_
      exact hk _ h
    · replace h := g_neg hc8 h
      refine AW.aload_n dX11_isInTime_11 rfl ?_
      refine AW.getR (c' := 126) (fX11_105 hG).r rfl (hm.1 0 _ rfl) (hm.2 (0, 42, 25) (by decide)) dX11_isInTime_12 ?_
      refine AW.iload dX11_isInTime_15 rfl ?_
      obtain ⟨hb, h⟩ := g_ifE h
      refine AW.iald (hm.1 25 _ rfl) (g_in_iff.mp hb) dX11_isInTime_17 ?_
      refine AW.iload_n dX11_isInTime_18 rfl ?_
      refine AW.icmp_ne 29 dX11_isInTime_19 (by decide) (fun hc19 => ?_) (fun hc19 => ?_)
      · replace h := g_neg hc19 h
        refine AW.incE 1 (by decide) [some (.ref 101), some (.int y1), some (.int y2), some (.int x3), some (.int (x4 + 1)), none, none] dX11_isInTime_29 rfl (by decide) rfl rfl ?_
        refine AW.goto 5 dX11_isInTime_32 (by decide) ?_
        exact ih h
      · replace h := g_pos hc19 h
        refine AW.iload_n dX11_isInTime_22 rfl ?_
        refine AW.iconst 1 dX11_isInTime_23 (by decide) ?_
        refine AW.iload dX11_isInTime_24 rfl ?_
        refine AW.ishl dX11_isInTime_26 ?_
        refine AW.ior dX11_isInTime_27 ?_
        obtain ⟨a1, ea1, h⟩ := g_letE h
        refine AW.namE ea1 ?_
        refine AW.is_n [some (.ref 101), some (.int y1), some (.int y2), some (.int a1), some (.int x4), none, none] dX11_isInTime_28 (by decide) rfl rfl ?_
        refine AW.incE 1 (by decide) [some (.ref 101), some (.int y1), some (.int y2), some (.int a1), some (.int (x4 + 1)), none, none] dX11_isInTime_29 rfl (by decide) rfl rfl ?_
        refine AW.goto 5 dX11_isInTime_32 (by decide) ?_
        exact ih h
set_option maxRecDepth 100000 in
set_option maxHeartbeats 4000000 in
theorem gL_X11_isInTime_55 {G : am_G} (hK : k_OK G) {d : Nat} (hd : 2 ≤ d) {sh : List (Nat ⊕ (Nat × Nat))} {I : g_I} {R : Nat → Nat → Option Nat} {L : Nat → Nat → Int64} {g : Nat} (hm : k_Mod sh R) {y1 : Int32} {y2 : Int32} {y3 : Int32} {y4 : Int32} {K : Int32 → Option (Bool)} {x5 : Int32} {x6 : Int32} {f : Nat} {r : Bool} (h : b_X11_isInTime_L55 I y1 y2 y3 y4 K f x5 x6 = some r) (hk : ∀ (u5 : Int32), K u5 = some r → AW G mX11_isInTime d (fun v w => v = some (.int (kb r)) ∧ w = (sh, I, R, L, g)) (fun _ _ => False) 129 [some (.ref 101), some (.int y1), some (.int y2), some (.int y3), some (.int y4), some (.int u5), none] [] (sh, I, R, L, g) 0 0) : AW G mX11_isInTime d (fun v w => v = some (.int (kb r)) ∧ w = (sh, I, R, L, g)) (fun _ _ => False) 55 [some (.ref 101), some (.int y1), some (.int y2), some (.int y3), some (.int y4), some (.int x5), some (.int x6)] [] (sh, I, R, L, g) 0 0 := by
  have hG := hK.1
  induction f generalizing x5 x6 with
  | zero => rw [b_X11_isInTime_L55] at h; cases h
  | succ f ih =>
    rw [b_X11_isInTime_L55] at h
    refine AW.iload dX11_isInTime_55 rfl ?_
    refine AW.iload_n dX11_isInTime_57 rfl ?_
    refine AW.icmp_ge 129 dX11_isInTime_58 (by decide) (fun hc58 => ?_) (fun hc58 => ?_)
    · replace h := g_pos hc58 h
      refine AW.mask [6] [some (.ref 101), some (.int y1), some (.int y2), some (.int y3), some (.int y4), some (.int x5), none] rfl ?_
      exact hk _ h
    · replace h := g_neg hc58 h
      refine AW.iload_n dX11_isInTime_61 rfl ?_
      refine AW.iload dX11_isInTime_62 rfl ?_
      refine AW.callS (As := [.int y3, .int x6]) hG.2.2 (vX11_278 hG) (g_X11_isOf hK (d := 0) (Nat.le_refl _)) (by omega) dX11_isInTime_64 rfl rfl (Nat.le_of_ble_eq_true rfl) (fun v w9 hq9 h09 => by obtain ⟨rfl, rfl⟩ := hq9; exact ⟨h09, rfl⟩) (by decide) (by decide) (fun _ _ hx => hx) (fun v9 w9 hq9 => ?_)
      obtain ⟨rfl, rfl⟩ := hq9
      show AW G _ d _ _ 67 [some (.ref 101), some (.int y1), some (.int y2), some (.int y3), some (.int y4), some (.int x5), some (.int x6)] [.int (kb (b_X11_isOf y3 x6))] (sh, I, R, L, g) 0 0
      refine AW.if_ne 73 dX11_isInTime_67 (by decide) (fun hc67 => ?_) (fun hc67 => ?_)
      · replace h := g_pos (kb_1.mp hc67) h
        refine AW.aload_n dX11_isInTime_73 rfl ?_
        refine AW.iload dX11_isInTime_74 rfl ?_
        obtain ⟨a3, hx5, h⟩ := g_bindE h
        refine AW.callV (b := 101) (As := [.int x6]) hG.2.2 (vX11_435 hG) (hm.1 0 _ rfl) (g_X11_until hK (d := 1) (Nat.le_refl _) hm hx5) (by omega) dX11_isInTime_76 rfl rfl (Nat.le_of_ble_eq_true rfl) (fun v w9 hq9 h09 => by obtain ⟨rfl, rfl⟩ := hq9; exact ⟨h09, rfl⟩) (by decide) (by decide) (fun _ _ hx => hx) (fun v9 w9 hq9 => ?_)
        obtain ⟨rfl, rfl⟩ := hq9
        show AW G _ d _ _ 79 [some (.ref 101), some (.int y1), some (.int y2), some (.int y3), some (.int y4), some (.int x5), some (.int x6)] [.int a3] (sh, I, R, L, g) 0 0
        refine AW.iload dX11_isInTime_79 rfl ?_
        refine AW.icmp_ge 86 dX11_isInTime_81 (by decide) (fun hc81 => ?_) (fun hc81 => ?_)
        · replace h := g_pos hc81 h
          refine AW.aload_n dX11_isInTime_86 rfl ?_
          refine AW.iload_n dX11_isInTime_87 rfl ?_
          refine AW.iload dX11_isInTime_88 rfl ?_
          obtain ⟨a6, hx8, h⟩ := g_bindE h
          refine AW.callV (b := 101) (As := [.int y1, .int x6]) hG.2.2 (vX11_438 hG) (hm.1 0 _ rfl) (g_X11_from hK (d := 1) (Nat.le_refl _) hm hx8) (by omega) dX11_isInTime_90 rfl rfl (Nat.le_of_ble_eq_true rfl) (fun v w9 hq9 h09 => by obtain ⟨rfl, rfl⟩ := hq9; exact ⟨h09, rfl⟩) (by decide) (by decide) (fun _ _ hx => hx) (fun v9 w9 hq9 => ?_)
          obtain ⟨rfl, rfl⟩ := hq9
          show AW G _ d _ _ 93 [some (.ref 101), some (.int y1), some (.int y2), some (.int y3), some (.int y4), some (.int x5), some (.int x6)] [.int a6] (sh, I, R, L, g) 0 0
          refine AW.iload dX11_isInTime_93 rfl ?_
          refine AW.icmp_gt 123 dX11_isInTime_95 (by decide) (fun hc95 => ?_) (fun hc95 => ?_)
          · replace h := g_pos hc95 h
            refine AW.incE 1 (by decide) [some (.ref 101), some (.int y1), some (.int y2), some (.int y3), some (.int y4), some (.int x5), some (.int (x6 + 1))] dX11_isInTime_123 rfl (by decide) rfl rfl ?_
            refine AW.goto 55 dX11_isInTime_126 (by decide) ?_
            exact ih h
          · replace h := g_neg hc95 h
            refine AW.iload dX11_isInTime_98 rfl ?_
            refine AW.iconst (-1) dX11_isInTime_100 (by decide) ?_
            refine AW.icmp_eq 119 dX11_isInTime_101 (by decide) (fun hc101 => ?_) (fun hc101 => ?_)
            · replace h := g_pos hc101 h
              refine AW.iload dX11_isInTime_119 rfl ?_
              refine AW.is [some (.ref 101), some (.int y1), some (.int y2), some (.int y3), some (.int y4), some (.int x6), some (.int x6)] dX11_isInTime_121 (by decide) rfl rfl ?_
              refine AW.incE 1 (by decide) [some (.ref 101), some (.int y1), some (.int y2), some (.int y3), some (.int y4), some (.int x6), some (.int (x6 + 1))] dX11_isInTime_123 rfl (by decide) rfl rfl ?_
              refine AW.goto 55 dX11_isInTime_126 (by decide) ?_
              exact ih h
            · replace h := g_neg hc101 h
              refine AW.aload_n dX11_isInTime_104 rfl ?_
              refine AW.iload dX11_isInTime_105 rfl ?_
              obtain ⟨a9, hx11, h⟩ := g_bindE h
              refine AW.callV (b := 101) (As := [.int x6]) hG.2.2 (vX11_435 hG) (hm.1 0 _ rfl) (g_X11_until hK (d := 1) (Nat.le_refl _) hm hx11) (by omega) dX11_isInTime_107 rfl rfl (Nat.le_of_ble_eq_true rfl) (fun v w9 hq9 h09 => by obtain ⟨rfl, rfl⟩ := hq9; exact ⟨h09, rfl⟩) (by decide) (by decide) (fun _ _ hx => hx) (fun v9 w9 hq9 => ?_)
              obtain ⟨rfl, rfl⟩ := hq9
              show AW G _ d _ _ 110 [some (.ref 101), some (.int y1), some (.int y2), some (.int y3), some (.int y4), some (.int x5), some (.int x6)] [.int a9] (sh, I, R, L, g) 0 0
              refine AW.aload_n dX11_isInTime_110 rfl ?_
              refine AW.iload dX11_isInTime_111 rfl ?_
              obtain ⟨a12, hx14, h⟩ := g_bindE h
              refine AW.callV (b := 101) (As := [.int x5]) hG.2.2 (vX11_435 hG) (hm.1 0 _ rfl) (g_X11_until hK (d := 1) (Nat.le_refl _) hm hx14) (by omega) dX11_isInTime_113 rfl rfl (Nat.le_of_ble_eq_true rfl) (fun v w9 hq9 h09 => by obtain ⟨rfl, rfl⟩ := hq9; exact ⟨h09, rfl⟩) (by decide) (by decide) (fun _ _ hx => hx) (fun v9 w9 hq9 => ?_)
              obtain ⟨rfl, rfl⟩ := hq9
              show AW G _ d _ _ 116 [some (.ref 101), some (.int y1), some (.int y2), some (.int y3), some (.int y4), some (.int x5), some (.int x6)] [.int a12, .int a9] (sh, I, R, L, g) 0 0
              refine AW.icmp_ge 123 dX11_isInTime_116 (by decide) (fun hc116 => ?_) (fun hc116 => ?_)
              · replace h := g_pos hc116 h
                refine AW.incE 1 (by decide) [some (.ref 101), some (.int y1), some (.int y2), some (.int y3), some (.int y4), some (.int x5), some (.int (x6 + 1))] dX11_isInTime_123 rfl (by decide) rfl rfl ?_
                refine AW.goto 55 dX11_isInTime_126 (by decide) ?_
                exact ih h
              · replace h := g_neg hc116 h
                refine AW.iload dX11_isInTime_119 rfl ?_
                refine AW.is [some (.ref 101), some (.int y1), some (.int y2), some (.int y3), some (.int y4), some (.int x6), some (.int x6)] dX11_isInTime_121 (by decide) rfl rfl ?_
                refine AW.incE 1 (by decide) [some (.ref 101), some (.int y1), some (.int y2), some (.int y3), some (.int y4), some (.int x6), some (.int (x6 + 1))] dX11_isInTime_123 rfl (by decide) rfl rfl ?_
                refine AW.goto 55 dX11_isInTime_126 (by decide) ?_
                exact ih h
        · replace h := g_neg hc81 h
          refine AW.iconst 0 dX11_isInTime_84 (by decide) ?_
          exact AW.zret dX11_isInTime_85 rfl (by decide) (by decide) (by decide) (by cases h; exact ⟨rfl, rfl⟩)
      · replace h := g_neg (g_kb0 hc67) h
        refine AW.goto 123 dX11_isInTime_70 (by decide) ?_
        refine AW.incE 1 (by decide) [some (.ref 101), some (.int y1), some (.int y2), some (.int y3), some (.int y4), some (.int x5), some (.int (x6 + 1))] dX11_isInTime_123 rfl (by decide) rfl rfl ?_
        refine AW.goto 55 dX11_isInTime_126 (by decide) ?_
        exact ih h
set_option maxRecDepth 100000 in
set_option maxHeartbeats 4000000 in
theorem gL_X11_isInTime_38 {G : am_G} (hK : k_OK G) {d : Nat} (hd : 2 ≤ d) {sh : List (Nat ⊕ (Nat × Nat))} {I : g_I} {R : Nat → Nat → Option Nat} {L : Nat → Nat → Int64} {g : Nat} (hm : k_Mod sh R) {y1 : Int32} {y2 : Int32} {K : Int32 → Option (Bool)} {x3 : Int32} {x4 : Int32} {f : Nat} {r : Bool} (h : b_X11_isInTime_L38 I y1 y2 K f x3 x4 = some r) (hk : ∀ (u3 : Int32), K u3 = some r → AW G mX11_isInTime d (fun v w => v = some (.int (kb r)) ∧ w = (sh, I, R, L, g)) (fun _ _ => False) 150 [none, none, none, some (.int u3), none, none, none] [] (sh, I, R, L, g) 0 0) : AW G mX11_isInTime d (fun v w => v = some (.int (kb r)) ∧ w = (sh, I, R, L, g)) (fun _ _ => False) 38 [some (.ref 101), some (.int y1), some (.int y2), some (.int x3), some (.int x4), none, none] [] (sh, I, R, L, g) 0 0 := by
  have hG := hK.1
  induction f generalizing x3 x4 with
  | zero => rw [b_X11_isInTime_L38] at h; cases h
  | succ f ih =>
    rw [b_X11_isInTime_L38] at h
    refine AW.iload dX11_isInTime_38 rfl ?_
    refine AW.bipush 24 dX11_isInTime_40 (by decide) ?_
    refine AW.icmp_ge 150 dX11_isInTime_42 (by decide) (fun hc42 => ?_) (fun hc42 => ?_)
    · replace h := g_pos hc42 h
      refine AW.mask [0, 1, 2, 4] [none, none, none, some (.int x3), none, none, none] rfl ?_
      exact hk _ h
    · replace h := g_neg hc42 h
      refine AW.iload_n dX11_isInTime_45 rfl ?_
      refine AW.if_eq 150 dX11_isInTime_46 (by decide) (fun hc46 => ?_) (fun hc46 => ?_)
      · replace h := g_pos hc46 h
        refine AW.mask [0, 1, 2, 4] [none, none, none, some (.int x3), none, none, none] rfl ?_
        exact hk _ h
      · replace h := g_neg hc46 h
        refine AW.iconst (-1) dX11_isInTime_49 (by decide) ?_
        refine AW.is [some (.ref 101), some (.int y1), some (.int y2), some (.int x3), some (.int x4), some (.int (-1)), none] dX11_isInTime_50 (by decide) rfl rfl ?_
        refine AW.iconst 0 dX11_isInTime_52 (by decide) ?_
        refine AW.is [some (.ref 101), some (.int y1), some (.int y2), some (.int x3), some (.int x4), some (.int (-1)), some (.int 0)] dX11_isInTime_53 (by decide) rfl rfl ?_
        refine gL_X11_isInTime_55 hK hd hm h (fun a15 h => ?_)
        refine AW.iload dX11_isInTime_129 rfl ?_
        refine AW.iconst (-1) dX11_isInTime_131 (by decide) ?_
        refine AW.icmp_eq 144 dX11_isInTime_132 (by decide) (fun hc132 => ?_) (fun hc132 => ?_)
        · replace h := g_pos hc132 h
          refine AW.incE 1 (by decide) [some (.ref 101), some (.int y1), some (.int y2), some (.int x3), some (.int (x4 + 1)), some (.int a15), none] dX11_isInTime_144 rfl (by decide) rfl rfl ?_
          refine AW.goto 38 dX11_isInTime_147 (by decide) ?_
          refine AW.mask [5] [some (.ref 101), some (.int y1), some (.int y2), some (.int x3), some (.int (x4 + 1)), none, none] rfl ?_
          exact ih h
        · replace h := g_neg hc132 h
          refine AW.iload_n dX11_isInTime_135 rfl ?_
          refine AW.iconst 1 dX11_isInTime_136 (by decide) ?_
          refine AW.iload dX11_isInTime_137 rfl ?_
          refine AW.ishl dX11_isInTime_139 ?_
          refine AW.iconst (-1) dX11_isInTime_140 (by decide) ?_
          refine AW.ixor dX11_isInTime_141 ?_
          refine AW.iand dX11_isInTime_142 ?_
          obtain ⟨a16, ea16, h⟩ := g_letE h
          refine AW.namE ea16 ?_
          refine AW.is_n [some (.ref 101), some (.int y1), some (.int y2), some (.int a16), some (.int x4), some (.int a15), none] dX11_isInTime_143 (by decide) rfl rfl ?_
          refine AW.incE 1 (by decide) [some (.ref 101), some (.int y1), some (.int y2), some (.int a16), some (.int (x4 + 1)), some (.int a15), none] dX11_isInTime_144 rfl (by decide) rfl rfl ?_
          refine AW.goto 38 dX11_isInTime_147 (by decide) ?_
          refine AW.mask [5] [some (.ref 101), some (.int y1), some (.int y2), some (.int a16), some (.int (x4 + 1)), none, none] rfl ?_
          exact ih h
set_option maxRecDepth 100000 in
set_option maxHeartbeats 4000000 in
theorem g_X11_isInTime {G : am_G} (hK : k_OK G) {d : Nat} (hd : 2 ≤ d) {sh : List (Nat ⊕ (Nat × Nat))} {I : g_I} {R : Nat → Nat → Option Nat} {L : Nat → Nat → Int64} {g : Nat} (hm : k_Mod sh R) {x1 : Int32} {x2 : Int32} {r : Bool} (h : b_X11_isInTime I x1 x2 = some r) : AM G mX11_isInTime d [.ref 101, .int x1, .int x2] (sh, I, R, L, g) (fun v w => v = some (.int (kb r)) ∧ w = (sh, I, R, L, g)) (fun _ _ => False) := by
  have hG := hK.1
  refine AM.of (n := 4) (by decide +kernel) (Nat.le_of_ble_eq_true rfl) ?_
  show AW G mX11_isInTime d (fun v w => v = some (.int (kb r)) ∧ w = (sh, I, R, L, g)) (fun _ _ => False) 0 [some (.ref 101), some (.int x1), some (.int x2), none, none, none, none] [] (sh, I, R, L, g) 0 0
  unfold b_X11_isInTime at h
  refine AW.iconst 0 dX11_isInTime_0 (by decide) ?_
  refine AW.is_n [some (.ref 101), some (.int x1), some (.int x2), some (.int 0), none, none, none] dX11_isInTime_1 (by decide) rfl rfl ?_
  refine AW.iconst 0 dX11_isInTime_2 (by decide) ?_
  refine AW.is [some (.ref 101), some (.int x1), some (.int x2), some (.int 0), some (.int 0), none, none] dX11_isInTime_3 (by decide) rfl rfl ?_
  refine gL_X11_isInTime_5 hK hd hm h (fun a2 h => ?_)
  refine AW.iconst 0 dX11_isInTime_35 (by decide) ?_
  refine AW.is [some (.ref 101), some (.int x1), some (.int x2), some (.int a2), some (.int 0), none, none] dX11_isInTime_36 (by decide) rfl rfl ?_
  refine gL_X11_isInTime_38 hK hd hm h (fun a17 h => ?_)
  refine AW.iload_n dX11_isInTime_150 rfl ?_
  refine AW.if_ne 158 dX11_isInTime_151 (by decide) (fun hc151 => ?_) (fun hc151 => ?_)
  · replace h := g_neg hc151 h
    refine AW.iconst 0 dX11_isInTime_158 (by decide) ?_
    exact AW.zret dX11_isInTime_159 rfl (by decide) (by decide) (by decide) (by cases h; exact ⟨rfl, rfl⟩)
  · replace h := g_pos hc151 h
    refine AW.iconst 1 dX11_isInTime_154 (by decide) ?_
    refine AW.goto 159 dX11_isInTime_155 (by decide) ?_
    exact AW.zret dX11_isInTime_159 rfl (by decide) (by decide) (by decide) (by cases h; exact ⟨rfl, rfl⟩)
theorem dX11_rowOn_0 : decode cX11_rowOn 0 = .ok (.aload_n 0, 1) := by decide +kernel
theorem dX11_rowOn_1 : decode cX11_rowOn 1 = .ok (.getfield 441, 3) := by decide +kernel
theorem dX11_rowOn_4 : decode cX11_rowOn 4 = .ok (.ifCond .eq 12, 3) := by decide +kernel
theorem dX11_rowOn_7 : decode cX11_rowOn 7 = .ok (.iload_n 2, 1) := by decide +kernel
theorem dX11_rowOn_8 : decode cX11_rowOn 8 = .ok (.aload_n 0, 1) := by decide +kernel
theorem dX11_rowOn_9 : decode cX11_rowOn 9 = .ok (.getfield 444, 3) := by decide +kernel
theorem dX11_rowOn_12 : decode cX11_rowOn 12 = .ok (.if_icmp .lt 4, 3) := by decide +kernel
theorem dX11_rowOn_15 : decode cX11_rowOn 15 = .ok (.return_, 1) := by decide +kernel
theorem dX11_rowOn_16 : decode cX11_rowOn 16 = .ok (.iload_n 1, 1) := by decide +kernel
theorem dX11_rowOn_17 : decode cX11_rowOn 17 = .ok (.aload_n 0, 1) := by decide +kernel
theorem dX11_rowOn_18 : decode cX11_rowOn 18 = .ok (.getfield 38, 3) := by decide +kernel
theorem dX11_rowOn_21 : decode cX11_rowOn 21 = .ok (.iconst 1, 1) := by decide +kernel
theorem dX11_rowOn_22 : decode cX11_rowOn 22 = .ok (.iaload, 1) := by decide +kernel
theorem dX11_rowOn_23 : decode cX11_rowOn 23 = .ok (.if_icmp .ne 40, 3) := by decide +kernel
theorem dX11_rowOn_26 : decode cX11_rowOn 26 = .ok (.aload_n 0, 1) := by decide +kernel
theorem dX11_rowOn_27 : decode cX11_rowOn 27 = .ok (.iconst 1, 1) := by decide +kernel
theorem dX11_rowOn_28 : decode cX11_rowOn 28 = .ok (.putfield 441, 3) := by decide +kernel
theorem dX11_rowOn_31 : decode cX11_rowOn 31 = .ok (.aload_n 0, 1) := by decide +kernel
theorem dX11_rowOn_32 : decode cX11_rowOn 32 = .ok (.iload_n 2, 1) := by decide +kernel
theorem dX11_rowOn_33 : decode cX11_rowOn 33 = .ok (.putfield 444, 3) := by decide +kernel
theorem dX11_rowOn_36 : decode cX11_rowOn 36 = .ok (.iconst 0, 1) := by decide +kernel
theorem dX11_rowOn_37 : decode cX11_rowOn 37 = .ok (.istore_n 3, 1) := by decide +kernel
theorem dX11_rowOn_38 : decode cX11_rowOn 38 = .ok (.iload_n 3, 1) := by decide +kernel
theorem dX11_rowOn_39 : decode cX11_rowOn 39 = .ok (.bipush 6, 2) := by decide +kernel
theorem dX11_rowOn_41 : decode cX11_rowOn 41 = .ok (.if_icmp .ge 21, 3) := by decide +kernel
theorem dX11_rowOn_44 : decode cX11_rowOn 44 = .ok (.aload_n 0, 1) := by decide +kernel
theorem dX11_rowOn_45 : decode cX11_rowOn 45 = .ok (.getfield 108, 3) := by decide +kernel
theorem dX11_rowOn_48 : decode cX11_rowOn 48 = .ok (.iload_n 3, 1) := by decide +kernel
theorem dX11_rowOn_49 : decode cX11_rowOn 49 = .ok (.aload_n 0, 1) := by decide +kernel
theorem dX11_rowOn_50 : decode cX11_rowOn 50 = .ok (.getfield 105, 3) := by decide +kernel
theorem dX11_rowOn_53 : decode cX11_rowOn 53 = .ok (.iload_n 3, 1) := by decide +kernel
theorem dX11_rowOn_54 : decode cX11_rowOn 54 = .ok (.iaload, 1) := by decide +kernel
theorem dX11_rowOn_55 : decode cX11_rowOn 55 = .ok (.iastore, 1) := by decide +kernel
theorem dX11_rowOn_56 : decode cX11_rowOn 56 = .ok (.iinc 3 1, 3) := by decide +kernel
theorem dX11_rowOn_59 : decode cX11_rowOn 59 = .ok (.goto (-21), 3) := by decide +kernel
theorem dX11_rowOn_62 : decode cX11_rowOn 62 = .ok (.return_, 1) := by decide +kernel
theorem dX11_rowOn_63 : decode cX11_rowOn 63 = .ok (.aload_n 0, 1) := by decide +kernel
theorem dX11_rowOn_64 : decode cX11_rowOn 64 = .ok (.getfield 105, 3) := by decide +kernel
theorem dX11_rowOn_67 : decode cX11_rowOn 67 = .ok (.iload_n 1, 1) := by decide +kernel
theorem dX11_rowOn_68 : decode cX11_rowOn 68 = .ok (.iconst (-1), 1) := by decide +kernel
theorem dX11_rowOn_69 : decode cX11_rowOn 69 = .ok (.iastore, 1) := by decide +kernel
theorem dX11_rowOn_70 : decode cX11_rowOn 70 = .ok (.aload_n 0, 1) := by decide +kernel
theorem dX11_rowOn_71 : decode cX11_rowOn 71 = .ok (.getfield 83, 3) := by decide +kernel
theorem dX11_rowOn_74 : decode cX11_rowOn 74 = .ok (.iload_n 1, 1) := by decide +kernel
theorem dX11_rowOn_75 : decode cX11_rowOn 75 = .ok (.iaload, 1) := by decide +kernel
theorem dX11_rowOn_76 : decode cX11_rowOn 76 = .ok (.iconst (-1), 1) := by decide +kernel
theorem dX11_rowOn_77 : decode cX11_rowOn 77 = .ok (.if_icmp .eq 12, 3) := by decide +kernel
theorem dX11_rowOn_80 : decode cX11_rowOn 80 = .ok (.aload_n 0, 1) := by decide +kernel
theorem dX11_rowOn_81 : decode cX11_rowOn 81 = .ok (.iload_n 1, 1) := by decide +kernel
theorem dX11_rowOn_82 : decode cX11_rowOn 82 = .ok (.iconst 1, 1) := by decide +kernel
theorem dX11_rowOn_83 : decode cX11_rowOn 83 = .ok (.iadd, 1) := by decide +kernel
theorem dX11_rowOn_84 : decode cX11_rowOn 84 = .ok (.iload_n 2, 1) := by decide +kernel
theorem dX11_rowOn_85 : decode cX11_rowOn 85 = .ok (.invokevirtual 447, 3) := by decide +kernel
theorem dX11_rowOn_88 : decode cX11_rowOn 88 = .ok (.return_, 1) := by decide +kernel
theorem dX11_rowOn_89 : decode cX11_rowOn 89 = .ok (.iconst 0, 1) := by decide +kernel
theorem dX11_rowOn_90 : decode cX11_rowOn 90 = .ok (.istore_n 3, 1) := by decide +kernel
theorem dX11_rowOn_91 : decode cX11_rowOn 91 = .ok (.iload_n 3, 1) := by decide +kernel
theorem dX11_rowOn_92 : decode cX11_rowOn 92 = .ok (.aload_n 0, 1) := by decide +kernel
theorem dX11_rowOn_93 : decode cX11_rowOn 93 = .ok (.getfield 38, 3) := by decide +kernel
theorem dX11_rowOn_96 : decode cX11_rowOn 96 = .ok (.iconst 0, 1) := by decide +kernel
theorem dX11_rowOn_97 : decode cX11_rowOn 97 = .ok (.iaload, 1) := by decide +kernel
theorem dX11_rowOn_98 : decode cX11_rowOn 98 = .ok (.if_icmp .ge 71, 3) := by decide +kernel
theorem dX11_rowOn_101 : decode cX11_rowOn 101 = .ok (.aload_n 0, 1) := by decide +kernel
theorem dX11_rowOn_102 : decode cX11_rowOn 102 = .ok (.getfield 321, 3) := by decide +kernel
theorem dX11_rowOn_105 : decode cX11_rowOn 105 = .ok (.ifCond .ne 64, 3) := by decide +kernel
theorem dX11_rowOn_108 : decode cX11_rowOn 108 = .ok (.aload_n 0, 1) := by decide +kernel
theorem dX11_rowOn_109 : decode cX11_rowOn 109 = .ok (.iload_n 3, 1) := by decide +kernel
theorem dX11_rowOn_110 : decode cX11_rowOn 110 = .ok (.iload_n 1, 1) := by decide +kernel
theorem dX11_rowOn_111 : decode cX11_rowOn 111 = .ok (.invokevirtual 364, 3) := by decide +kernel
theorem dX11_rowOn_114 : decode cX11_rowOn 114 = .ok (.ifCond .ne 6, 3) := by decide +kernel
theorem dX11_rowOn_117 : decode cX11_rowOn 117 = .ok (.goto 46, 3) := by decide +kernel
theorem dX11_rowOn_120 : decode cX11_rowOn 120 = .ok (.aload_n 0, 1) := by decide +kernel
theorem dX11_rowOn_121 : decode cX11_rowOn 121 = .ok (.getfield 105, 3) := by decide +kernel
theorem dX11_rowOn_124 : decode cX11_rowOn 124 = .ok (.iload_n 1, 1) := by decide +kernel
theorem dX11_rowOn_125 : decode cX11_rowOn 125 = .ok (.iload_n 3, 1) := by decide +kernel
theorem dX11_rowOn_126 : decode cX11_rowOn 126 = .ok (.iastore, 1) := by decide +kernel
theorem dX11_rowOn_127 : decode cX11_rowOn 127 = .ok (.aload_n 0, 1) := by decide +kernel
theorem dX11_rowOn_128 : decode cX11_rowOn 128 = .ok (.iload_n 3, 1) := by decide +kernel
theorem dX11_rowOn_129 : decode cX11_rowOn 129 = .ok (.iload_n 1, 1) := by decide +kernel
theorem dX11_rowOn_130 : decode cX11_rowOn 130 = .ok (.iconst 1, 1) := by decide +kernel
theorem dX11_rowOn_131 : decode cX11_rowOn 131 = .ok (.iadd, 1) := by decide +kernel
theorem dX11_rowOn_132 : decode cX11_rowOn 132 = .ok (.invokevirtual 450, 3) := by decide +kernel
theorem dX11_rowOn_135 : decode cX11_rowOn 135 = .ok (.ifCond .eq 28, 3) := by decide +kernel
theorem dX11_rowOn_138 : decode cX11_rowOn 138 = .ok (.aload_n 0, 1) := by decide +kernel
theorem dX11_rowOn_139 : decode cX11_rowOn 139 = .ok (.iload_n 1, 1) := by decide +kernel
theorem dX11_rowOn_140 : decode cX11_rowOn 140 = .ok (.iconst 1, 1) := by decide +kernel
theorem dX11_rowOn_141 : decode cX11_rowOn 141 = .ok (.iadd, 1) := by decide +kernel
theorem dX11_rowOn_142 : decode cX11_rowOn 142 = .ok (.iload_n 2, 1) := by decide +kernel
theorem dX11_rowOn_143 : decode cX11_rowOn 143 = .ok (.aload_n 0, 1) := by decide +kernel
theorem dX11_rowOn_144 : decode cX11_rowOn 144 = .ok (.getfield 44, 3) := by decide +kernel
theorem dX11_rowOn_147 : decode cX11_rowOn 147 = .ok (.iload_n 3, 1) := by decide +kernel
theorem dX11_rowOn_148 : decode cX11_rowOn 148 = .ok (.iaload, 1) := by decide +kernel
theorem dX11_rowOn_149 : decode cX11_rowOn 149 = .ok (.aload_n 0, 1) := by decide +kernel
theorem dX11_rowOn_150 : decode cX11_rowOn 150 = .ok (.getfield 49, 3) := by decide +kernel
theorem dX11_rowOn_153 : decode cX11_rowOn 153 = .ok (.iload_n 1, 1) := by decide +kernel
theorem dX11_rowOn_154 : decode cX11_rowOn 154 = .ok (.iaload, 1) := by decide +kernel
theorem dX11_rowOn_155 : decode cX11_rowOn 155 = .ok (.isub, 1) := by decide +kernel
theorem dX11_rowOn_156 : decode cX11_rowOn 156 = .ok (.invokestatic 432, 3) := by decide +kernel
theorem dX11_rowOn_159 : decode cX11_rowOn 159 = .ok (.iadd, 1) := by decide +kernel
theorem dX11_rowOn_160 : decode cX11_rowOn 160 = .ok (.invokevirtual 447, 3) := by decide +kernel
theorem dX11_rowOn_163 : decode cX11_rowOn 163 = .ok (.iinc 3 1, 3) := by decide +kernel
theorem dX11_rowOn_166 : decode cX11_rowOn 166 = .ok (.goto (-75), 3) := by decide +kernel
theorem dX11_rowOn_169 : decode cX11_rowOn 169 = .ok (.return_, 1) := by decide +kernel
def b_X11_rowOn_L91 (rec : g_I → Int32 → Int32 → Option (g_I)) (y1 : Int32) (y2 : Int32) (K : g_I → Option (g_I)) : Nat → Int32 → g_I → Option (g_I)
  | 0, _, _ => none
  | f + 1, x3, I => if (I 104 0) ≤ x3 then K I else if (I 101 30) = 0 then g_bind (b_X11_canCut I x3 y1) fun t2 => if t2 = true then if g_in y1 6 = true then g_let (am_up I 126 y1.toNatClampNeg x3) fun I5 => g_bind (b_X11_isInTime I5 x3 (y1 + 1)) fun t6 => if t6 = true then if g_in x3 16 = true then if g_in y1 12 = true then g_bind (rec I5 (y1 + 1) (y2 + (g_abs ((I5 106 x3.toNatClampNeg) - (I5 108 y1.toNatClampNeg))))) fun I10 => b_X11_rowOn_L91 rec y1 y2 K f (x3 + 1) I10 else none else none else b_X11_rowOn_L91 rec y1 y2 K f (x3 + 1) I5 else none else b_X11_rowOn_L91 rec y1 y2 K f (x3 + 1) I else K I
def b_X11_rowOn_L38 (rec : g_I → Int32 → Int32 → Option (g_I)) (K : g_I → Option (g_I)) : Nat → Int32 → g_I → Option (g_I)
  | 0, _, _ => none
  | f + 1, x3, I => if 6 ≤ x3 then K I else if g_in x3 6 = true then if g_in x3 6 = true then g_let (am_up I 127 x3.toNatClampNeg (I 126 x3.toNatClampNeg)) fun I18 => b_X11_rowOn_L38 rec K f (x3 + 1) I18 else none else none
def b_X11_rowOn (rec : g_I → Int32 → Int32 → Option (g_I)) (I : g_I) (x1 : Int32) (x2 : Int32) : Option (g_I) :=
  g_let (fun (I16j : g_I) => if x1 = (I16j 104 1) then g_let (am_up I16j 101 46 1) fun I16 => g_let (am_up I16 101 44 x2) fun I17 => b_X11_rowOn_L38 rec (fun (I19 : g_I) => some I19) fu 0 I17 else if g_in x1 6 = true then g_let (am_up I16j 126 x1.toNatClampNeg (-1)) fun I1 => if g_in x1 6 = true then if (I1 118 x1.toNatClampNeg) = (-1) then b_X11_rowOn_L91 rec x1 x2 (fun (I12 : g_I) => some I12) fu 0 I1 else g_bind (rec I1 (x1 + 1) x2) fun I14 => some I14 else none else none) fun J16 => if (I 101 46) = 0 then J16 I else if x2 < (I 101 44) then J16 I else some I
set_option maxRecDepth 100000 in
set_option maxHeartbeats 4000000 in
theorem gL_X11_rowOn_91 {G : am_G} (hK : k_OK G) {rec : g_I → Int32 → Int32 → Option (g_I)} {dr : Nat} {d : Nat} (hd : dr + 6 ≤ d) {sh : List (Nat ⊕ (Nat × Nat))} {I : g_I} {R : Nat → Nat → Option Nat} {L : Nat → Nat → Int64} {g : Nat} (hm : k_Mod sh R) (ih9 : ∀ {I : g_I} {x1 : Int32} {x2 : Int32} {r : g_I}, rec I x1 x2 = some r → AM G mX11_rowOn dr [.ref 101, .int x1, .int x2] (sh, I, R, L, g) (fun v w => v = none ∧ w = (sh, r, R, L, g)) (fun _ _ => False)) {y1 : Int32} {y2 : Int32} {K : g_I → Option (g_I)} {x3 : Int32} {f : Nat} {r : g_I} (h : b_X11_rowOn_L91 rec y1 y2 K f x3 I = some r) (hk : ∀ (J : g_I), K J = some r → AW G mX11_rowOn d (fun v w => v = none ∧ w = (sh, r, R, L, g)) (fun _ _ => False) 169 [none, none, none, none] [] (sh, J, R, L, g) 0 0) : AW G mX11_rowOn d (fun v w => v = none ∧ w = (sh, r, R, L, g)) (fun _ _ => False) 91 [some (.ref 101), some (.int y1), some (.int y2), some (.int x3)] [] (sh, I, R, L, g) 0 0 := by
  have hG := hK.1
  induction f generalizing x3 I with
  | zero => rw [b_X11_rowOn_L91] at h; cases h
  | succ f ih =>
    rw [b_X11_rowOn_L91] at h
    refine AW.iload_n dX11_rowOn_91 rfl ?_
    refine AW.aload_n dX11_rowOn_92 rfl ?_
    refine AW.getR (c' := 104) (fX11_38 hG).r rfl (hm.1 0 _ rfl) (hm.2 (0, 3, 3) (by decide)) dX11_rowOn_93 ?_
    refine AW.iconst 0 dX11_rowOn_96 (by decide) ?_
    refine AW.iald (hm.1 3 _ rfl) (by unfold vp_in; decide) dX11_rowOn_97 ?_
    show AW G _ d _ _ 98 [some (.ref 101), some (.int y1), some (.int y2), some (.int x3)] [.int (I 104 0), .int x3] (sh, I, R, L, g) 0 0
    refine AW.icmp_ge 169 dX11_rowOn_98 (by decide) (fun hc98 => ?_) (fun hc98 => ?_)
    · replace h := g_pos hc98 h
      refine AW.mask [0, 1, 2, 3] [none, none, none, none] rfl ?_
      exact hk _ h
    · replace h := g_neg hc98 h
      refine AW.aload_n dX11_rowOn_101 rfl ?_
      refine AW.getI (fX11_321 hG).r rfl (hm.1 0 _ rfl) dX11_rowOn_102 ?_
      refine AW.if_ne 169 dX11_rowOn_105 (by decide) (fun hc105 => ?_) (fun hc105 => ?_)
      · replace h := g_neg hc105 h
        refine AW.mask [0, 1, 2, 3] [none, none, none, none] rfl ?_
        exact hk _ h
      · replace h := g_pos hc105 h
        refine AW.aload_n dX11_rowOn_108 rfl ?_
        refine AW.iload_n dX11_rowOn_109 rfl ?_
        refine AW.iload_n dX11_rowOn_110 rfl ?_
        obtain ⟨t2, hx4, h⟩ := g_bindE h
        refine AW.callV (b := 101) (As := [.int x3, .int y1]) hG.2.2 (vX11_364 hG) (hm.1 0 _ rfl) (g_X11_canCut hK (d := 5) (Nat.le_refl _) hm hx4) (by omega) dX11_rowOn_111 rfl rfl (Nat.le_of_ble_eq_true rfl) (fun v w9 hq9 h09 => by obtain ⟨rfl, rfl⟩ := hq9; exact ⟨h09, rfl⟩) (by decide) (by decide) (fun _ _ hx => hx) (fun v9 w9 hq9 => ?_)
        obtain ⟨rfl, rfl⟩ := hq9
        show AW G _ d _ _ 114 [some (.ref 101), some (.int y1), some (.int y2), some (.int x3)] [.int (kb t2)] (sh, I, R, L, g) 0 0
        refine AW.if_ne 120 dX11_rowOn_114 (by decide) (fun hc114 => ?_) (fun hc114 => ?_)
        · replace h := g_pos (kb_1.mp hc114) h
          refine AW.aload_n dX11_rowOn_120 rfl ?_
          refine AW.getR (c' := 126) (fX11_105 hG).r rfl (hm.1 0 _ rfl) (hm.2 (0, 42, 25) (by decide)) dX11_rowOn_121 ?_
          refine AW.iload_n dX11_rowOn_124 rfl ?_
          refine AW.iload_n dX11_rowOn_125 rfl ?_
          obtain ⟨hb, h⟩ := g_ifE h
          refine AW.iast (hm.1 25 _ rfl) (g_in_iff.mp hb) dX11_rowOn_126 ?_
          obtain ⟨I5, eI5, h⟩ := g_letE h
          refine AW.namIE eI5 ?_
          refine AW.aload_n dX11_rowOn_127 rfl ?_
          refine AW.iload_n dX11_rowOn_128 rfl ?_
          refine AW.iload_n dX11_rowOn_129 rfl ?_
          refine AW.iconst 1 dX11_rowOn_130 (by decide) ?_
          refine AW.iadd dX11_rowOn_131 ?_
          obtain ⟨t6, hx8, h⟩ := g_bindE h
          refine AW.callV (b := 101) (As := [.int x3, .int (y1 + 1)]) hG.2.2 (vX11_450 hG) (hm.1 0 _ rfl) (g_X11_isInTime hK (d := 2) (Nat.le_refl _) hm hx8) (by omega) dX11_rowOn_132 rfl rfl (Nat.le_of_ble_eq_true rfl) (fun v w9 hq9 h09 => by obtain ⟨rfl, rfl⟩ := hq9; exact ⟨h09, rfl⟩) (by decide) (by decide) (fun _ _ hx => hx) (fun v9 w9 hq9 => ?_)
          obtain ⟨rfl, rfl⟩ := hq9
          show AW G _ d _ _ 135 [some (.ref 101), some (.int y1), some (.int y2), some (.int x3)] [.int (kb t6)] (sh, I5, R, L, g) 0 0
          refine AW.if_eq 163 dX11_rowOn_135 (by decide) (fun hc135 => ?_) (fun hc135 => ?_)
          · replace h := g_neg (g_kb0 hc135) h
            refine AW.incE 1 (by decide) [some (.ref 101), some (.int y1), some (.int y2), some (.int (x3 + 1))] dX11_rowOn_163 rfl (by decide) rfl rfl ?_
            refine AW.goto 91 dX11_rowOn_166 (by decide) ?_
            exact ih h
          · replace h := g_pos (kb_1.mp hc135) h
            refine AW.aload_n dX11_rowOn_138 rfl ?_
            refine AW.iload_n dX11_rowOn_139 rfl ?_
            refine AW.iconst 1 dX11_rowOn_140 (by decide) ?_
            refine AW.iadd dX11_rowOn_141 ?_
            refine AW.iload_n dX11_rowOn_142 rfl ?_
            refine AW.aload_n dX11_rowOn_143 rfl ?_
            refine AW.getR (c' := 106) (fX11_44 hG).r rfl (hm.1 0 _ rfl) (hm.2 (0, 5, 5) (by decide)) dX11_rowOn_144 ?_
            refine AW.iload_n dX11_rowOn_147 rfl ?_
            obtain ⟨hb, h⟩ := g_ifE h
            refine AW.iald (hm.1 5 _ rfl) (g_in_iff.mp hb) dX11_rowOn_148 ?_
            refine AW.aload_n dX11_rowOn_149 rfl ?_
            refine AW.getR (c' := 108) (fX11_49 hG).r rfl (hm.1 0 _ rfl) (hm.2 (0, 7, 7) (by decide)) dX11_rowOn_150 ?_
            refine AW.iload_n dX11_rowOn_153 rfl ?_
            obtain ⟨hb, h⟩ := g_ifE h
            refine AW.iald (hm.1 7 _ rfl) (g_in_iff.mp hb) dX11_rowOn_154 ?_
            refine AW.isub dX11_rowOn_155 ?_
            refine AW.mabs (k_c hG 1995 (by decide +kernel) (by decide +kernel)) (k_mabs hG) dX11_rowOn_156 (by omega) (Nat.le_of_ble_eq_true rfl) (by decide) (by decide) ?_
            show AW G _ d _ _ 159 [some (.ref 101), some (.int y1), some (.int y2), some (.int x3)] [.int (g_abs ((I5 106 x3.toNatClampNeg) - (I5 108 y1.toNatClampNeg))), .int y2, .int (y1 + 1), .ref 101] (sh, I5, R, L, g) 0 0
            refine AW.iadd dX11_rowOn_159 ?_
            obtain ⟨I10, hx11, h⟩ := g_bindE h
            refine AW.callV (b := 101) (As := [.int (y1 + 1), .int (y2 + (g_abs ((I5 106 x3.toNatClampNeg) - (I5 108 y1.toNatClampNeg))))]) hG.2.2 (vX11_447 hG) (hm.1 0 _ rfl) (ih9 hx11) (by omega) dX11_rowOn_160 rfl rfl (Nat.le_of_ble_eq_true rfl) (fun v w9 hq9 h09 => by obtain ⟨rfl, rfl⟩ := hq9; exact ⟨h09, rfl⟩) (by decide) (by decide) (fun _ _ hx => hx) (fun v9 w9 hq9 => ?_)
            obtain ⟨rfl, rfl⟩ := hq9
            show AW G _ d _ _ 163 [some (.ref 101), some (.int y1), some (.int y2), some (.int x3)] [] (sh, I10, R, L, g) 0 0
            refine AW.incE 1 (by decide) [some (.ref 101), some (.int y1), some (.int y2), some (.int (x3 + 1))] dX11_rowOn_163 rfl (by decide) rfl rfl ?_
            refine AW.goto 91 dX11_rowOn_166 (by decide) ?_
            exact ih h
        · replace h := g_neg (g_kb0 hc114) h
          refine AW.goto 163 dX11_rowOn_117 (by decide) ?_
          refine AW.incE 1 (by decide) [some (.ref 101), some (.int y1), some (.int y2), some (.int (x3 + 1))] dX11_rowOn_163 rfl (by decide) rfl rfl ?_
          refine AW.goto 91 dX11_rowOn_166 (by decide) ?_
          exact ih h
set_option maxRecDepth 100000 in
set_option maxHeartbeats 4000000 in
theorem gL_X11_rowOn_38 {G : am_G} (hK : k_OK G) {rec : g_I → Int32 → Int32 → Option (g_I)} {dr : Nat} {d : Nat} (hd : dr + 6 ≤ d) {sh : List (Nat ⊕ (Nat × Nat))} {I : g_I} {R : Nat → Nat → Option Nat} {L : Nat → Nat → Int64} {g : Nat} (hm : k_Mod sh R) (ih9 : ∀ {I : g_I} {x1 : Int32} {x2 : Int32} {r : g_I}, rec I x1 x2 = some r → AM G mX11_rowOn dr [.ref 101, .int x1, .int x2] (sh, I, R, L, g) (fun v w => v = none ∧ w = (sh, r, R, L, g)) (fun _ _ => False)) {K : g_I → Option (g_I)} {x3 : Int32} {f : Nat} {r : g_I} (h : b_X11_rowOn_L38 rec K f x3 I = some r) (hk : ∀ (J : g_I), K J = some r → AW G mX11_rowOn d (fun v w => v = none ∧ w = (sh, r, R, L, g)) (fun _ _ => False) 62 [none, none, none, none] [] (sh, J, R, L, g) 0 0) : AW G mX11_rowOn d (fun v w => v = none ∧ w = (sh, r, R, L, g)) (fun _ _ => False) 38 [some (.ref 101), none, none, some (.int x3)] [] (sh, I, R, L, g) 0 0 := by
  have hG := hK.1
  induction f generalizing x3 I with
  | zero => rw [b_X11_rowOn_L38] at h; cases h
  | succ f ih =>
    rw [b_X11_rowOn_L38] at h
    refine AW.iload_n dX11_rowOn_38 rfl ?_
    refine AW.bipush 6 dX11_rowOn_39 (by decide) ?_
    refine AW.icmp_ge 62 dX11_rowOn_41 (by decide) (fun hc41 => ?_) (fun hc41 => ?_)
    · replace h := g_pos hc41 h
      refine AW.mask [0, 3] [none, none, none, none] rfl ?_
      exact hk _ h
    · replace h := g_neg hc41 h
      refine AW.aload_n dX11_rowOn_44 rfl ?_
      refine AW.getR (c' := 127) (fX11_108 hG).r rfl (hm.1 0 _ rfl) (hm.2 (0, 43, 26) (by decide)) dX11_rowOn_45 ?_
      refine AW.iload_n dX11_rowOn_48 rfl ?_
      refine AW.aload_n dX11_rowOn_49 rfl ?_
      refine AW.getR (c' := 126) (fX11_105 hG).r rfl (hm.1 0 _ rfl) (hm.2 (0, 42, 25) (by decide)) dX11_rowOn_50 ?_
      refine AW.iload_n dX11_rowOn_53 rfl ?_
      obtain ⟨hb, h⟩ := g_ifE h
      refine AW.iald (hm.1 25 _ rfl) (g_in_iff.mp hb) dX11_rowOn_54 ?_
      obtain ⟨hb, h⟩ := g_ifE h
      refine AW.iast (hm.1 26 _ rfl) (g_in_iff.mp hb) dX11_rowOn_55 ?_
      obtain ⟨I18, eI18, h⟩ := g_letE h
      refine AW.namIE eI18 ?_
      refine AW.incE 1 (by decide) [some (.ref 101), none, none, some (.int (x3 + 1))] dX11_rowOn_56 rfl (by decide) rfl rfl ?_
      refine AW.goto 38 dX11_rowOn_59 (by decide) ?_
      exact ih h
set_option maxRecDepth 100000 in
set_option maxHeartbeats 4000000 in
theorem g_X11_rowOn {G : am_G} (hK : k_OK G) {rec : g_I → Int32 → Int32 → Option (g_I)} {dr : Nat} {d : Nat} (hd : dr + 6 ≤ d) {sh : List (Nat ⊕ (Nat × Nat))} {I : g_I} {R : Nat → Nat → Option Nat} {L : Nat → Nat → Int64} {g : Nat} (hm : k_Mod sh R) {x1 : Int32} {x2 : Int32} (ih9 : ∀ {I : g_I} {x1 : Int32} {x2 : Int32} {r : g_I}, rec I x1 x2 = some r → AM G mX11_rowOn dr [.ref 101, .int x1, .int x2] (sh, I, R, L, g) (fun v w => v = none ∧ w = (sh, r, R, L, g)) (fun _ _ => False)) {r : g_I} (h : b_X11_rowOn rec I x1 x2 = some r) : AM G mX11_rowOn d [.ref 101, .int x1, .int x2] (sh, I, R, L, g) (fun v w => v = none ∧ w = (sh, r, R, L, g)) (fun _ _ => False) := by
  have hG := hK.1
  refine AM.of (n := 1) (by decide +kernel) (Nat.le_of_ble_eq_true rfl) ?_
  show AW G mX11_rowOn d (fun v w => v = none ∧ w = (sh, r, R, L, g)) (fun _ _ => False) 0 [some (.ref 101), some (.int x1), some (.int x2), none] [] (sh, I, R, L, g) 0 0
  unfold b_X11_rowOn at h
  obtain ⟨J16, eJ16, h⟩ := g_letE h
  have H16 : ∀ (I16j : g_I), J16 I16j = some r → AW G mX11_rowOn d (fun v w => v = none ∧ w = (sh, r, R, L, g)) (fun _ _ => False) 16 [some (.ref 101), some (.int x1), some (.int x2), none] [] (sh, I16j, R, L, g) 0 0 := by
    intro I16j h
    rw [eJ16] at h
    refine AW.iload_n dX11_rowOn_16 rfl ?_
    refine AW.aload_n dX11_rowOn_17 rfl ?_
    refine AW.getR (c' := 104) (fX11_38 hG).r rfl (hm.1 0 _ rfl) (hm.2 (0, 3, 3) (by decide)) dX11_rowOn_18 ?_
    refine AW.iconst 1 dX11_rowOn_21 (by decide) ?_
    refine AW.iald (hm.1 3 _ rfl) (by unfold vp_in; decide) dX11_rowOn_22 ?_
    show AW G _ d _ _ 23 [some (.ref 101), some (.int x1), some (.int x2), none] [.int (I16j 104 1), .int x1] (sh, I16j, R, L, g) 0 0
    refine AW.icmp_ne 63 dX11_rowOn_23 (by decide) (fun hc23 => ?_) (fun hc23 => ?_)
    · replace h := g_neg hc23 h
      refine AW.aload_n dX11_rowOn_63 rfl ?_
      refine AW.getR (c' := 126) (fX11_105 hG).r rfl (hm.1 0 _ rfl) (hm.2 (0, 42, 25) (by decide)) dX11_rowOn_64 ?_
      refine AW.iload_n dX11_rowOn_67 rfl ?_
      refine AW.iconst (-1) dX11_rowOn_68 (by decide) ?_
      obtain ⟨hb, h⟩ := g_ifE h
      refine AW.iast (hm.1 25 _ rfl) (g_in_iff.mp hb) dX11_rowOn_69 ?_
      obtain ⟨I1, eI1, h⟩ := g_letE h
      refine AW.namIE eI1 ?_
      refine AW.aload_n dX11_rowOn_70 rfl ?_
      refine AW.getR (c' := 118) (fX11_83 hG).r rfl (hm.1 0 _ rfl) (hm.2 (0, 27, 17) (by decide)) dX11_rowOn_71 ?_
      refine AW.iload_n dX11_rowOn_74 rfl ?_
      obtain ⟨hb, h⟩ := g_ifE h
      refine AW.iald (hm.1 17 _ rfl) (g_in_iff.mp hb) dX11_rowOn_75 ?_
      refine AW.iconst (-1) dX11_rowOn_76 (by decide) ?_
      refine AW.icmp_eq 89 dX11_rowOn_77 (by decide) (fun hc77 => ?_) (fun hc77 => ?_)
      · replace h := g_pos hc77 h
        refine AW.iconst 0 dX11_rowOn_89 (by decide) ?_
        refine AW.is_n [some (.ref 101), some (.int x1), some (.int x2), some (.int 0)] dX11_rowOn_90 (by decide) rfl rfl ?_
        refine gL_X11_rowOn_91 hK hd hm ih9 h (fun I12 h => ?_)
        exact AW.vret dX11_rowOn_169 rfl (by decide) (by decide) (by cases h; exact ⟨rfl, rfl⟩)
      · replace h := g_neg hc77 h
        refine AW.aload_n dX11_rowOn_80 rfl ?_
        refine AW.iload_n dX11_rowOn_81 rfl ?_
        refine AW.iconst 1 dX11_rowOn_82 (by decide) ?_
        refine AW.iadd dX11_rowOn_83 ?_
        refine AW.iload_n dX11_rowOn_84 rfl ?_
        obtain ⟨I14, hx15, h⟩ := g_bindE h
        refine AW.callV (b := 101) (As := [.int (x1 + 1), .int x2]) hG.2.2 (vX11_447 hG) (hm.1 0 _ rfl) (ih9 hx15) (by omega) dX11_rowOn_85 rfl rfl (Nat.le_of_ble_eq_true rfl) (fun v w9 hq9 h09 => by obtain ⟨rfl, rfl⟩ := hq9; exact ⟨h09, rfl⟩) (by decide) (by decide) (fun _ _ hx => hx) (fun v9 w9 hq9 => ?_)
        obtain ⟨rfl, rfl⟩ := hq9
        show AW G _ d _ _ 88 [some (.ref 101), some (.int x1), some (.int x2), none] [] (sh, I14, R, L, g) 0 0
        exact AW.vret dX11_rowOn_88 rfl (by decide) (by decide) (by cases h; exact ⟨rfl, rfl⟩)
    · replace h := g_pos hc23 h
      refine AW.aload_n dX11_rowOn_26 rfl ?_
      refine AW.iconst 1 dX11_rowOn_27 (by decide) ?_
      refine AW.putI (fX11_441 hG) rfl (by decide) (by decide) (hm.1 0 _ rfl) dX11_rowOn_28 ?_
      obtain ⟨I16, eI16, h⟩ := g_letE h
      refine AW.namIE eI16 ?_
      refine AW.aload_n dX11_rowOn_31 rfl ?_
      refine AW.iload_n dX11_rowOn_32 rfl ?_
      refine AW.putI (fX11_444 hG) rfl (vp_nar_int _) rfl (hm.1 0 _ rfl) dX11_rowOn_33 ?_
      obtain ⟨I17, eI17, h⟩ := g_letE h
      refine AW.namIE eI17 ?_
      refine AW.iconst 0 dX11_rowOn_36 (by decide) ?_
      refine AW.is_n [some (.ref 101), some (.int x1), some (.int x2), some (.int 0)] dX11_rowOn_37 (by decide) rfl rfl ?_
      refine AW.mask [1, 2] [some (.ref 101), none, none, some (.int 0)] rfl ?_
      refine gL_X11_rowOn_38 hK hd hm ih9 h (fun I19 h => ?_)
      exact AW.vret dX11_rowOn_62 rfl (by decide) (by decide) (by cases h; exact ⟨rfl, rfl⟩)
  refine AW.aload_n dX11_rowOn_0 rfl ?_
  refine AW.getI (fX11_441 hG).r rfl (hm.1 0 _ rfl) dX11_rowOn_1 ?_
  refine AW.if_eq 16 dX11_rowOn_4 (by decide) (fun hc4 => ?_) (fun hc4 => ?_)
  · replace h := g_pos hc4 h
    exact H16 _ h
  · replace h := g_neg hc4 h
    refine AW.iload_n dX11_rowOn_7 rfl ?_
    refine AW.aload_n dX11_rowOn_8 rfl ?_
    refine AW.getI (fX11_444 hG).r rfl (hm.1 0 _ rfl) dX11_rowOn_9 ?_
    refine AW.icmp_lt 16 dX11_rowOn_12 (by decide) (fun hc12 => ?_) (fun hc12 => ?_)
    · replace h := g_pos hc12 h
      exact H16 _ h
    · replace h := g_neg hc12 h
      exact AW.vret dX11_rowOn_15 rfl (by decide) (by decide) (by cases h; exact ⟨rfl, rfl⟩)
def c_X11_rowOn : Nat → g_I → Int32 → Int32 → Option (g_I)
  | 0, _, _, _ => none
  | f + 1, I, x1, x2 => b_X11_rowOn (c_X11_rowOn f) I x1 x2
theorem gc_X11_rowOn {G : am_G} (hK : k_OK G) {sh : List (Nat ⊕ (Nat × Nat))} {R : Nat → Nat → Option Nat} {L : Nat → Nat → Int64} {g : Nat} (hm : k_Mod sh R) : ∀ (f : Nat) {d : Nat} (_ : 6 * f ≤ d) {I : g_I} {x1 : Int32} {x2 : Int32} {r : g_I}, c_X11_rowOn f I x1 x2 = some r → AM G mX11_rowOn d [.ref 101, .int x1, .int x2] (sh, I, R, L, g) (fun v w => v = none ∧ w = (sh, r, R, L, g)) (fun _ _ => False) := by
  intro f
  induction f with
  | zero => intro d hd I x1 x2 r h; rw [c_X11_rowOn] at h; cases h
  | succ f ih => intro d hd I x1 x2 r h; rw [c_X11_rowOn] at h; exact g_X11_rowOn hK (dr := 6 * f) (by rw [Nat.mul_succ] at hd; omega) hm (fun h9 => ih (Nat.le_refl _) h9) h
theorem g2_X11_rowOn {G : am_G} (hK : k_OK G) {d : Nat} (hd : 48 ≤ d) {sh : List (Nat ⊕ (Nat × Nat))} {I : g_I} {R : Nat → Nat → Option Nat} {L : Nat → Nat → Int64} {g : Nat} (hm : k_Mod sh R) {x1 : Int32} {x2 : Int32} {r : g_I} (h : c_X11_rowOn 8 I x1 x2 = some r) : AM G mX11_rowOn d [.ref 101, .int x1, .int x2] (sh, I, R, L, g) (fun v w => v = none ∧ w = (sh, r, R, L, g)) (fun _ _ => False) := gc_X11_rowOn hK hm 8 hd h
theorem dX11_noon_0 : decode cX11_noon 0 = .ok (.aload_n 0, 1) := by decide +kernel
theorem dX11_noon_1 : decode cX11_noon 1 = .ok (.iconst 0, 1) := by decide +kernel
theorem dX11_noon_2 : decode cX11_noon 2 = .ok (.putfield 159, 3) := by decide +kernel
theorem dX11_noon_5 : decode cX11_noon 5 = .ok (.iconst 0, 1) := by decide +kernel
theorem dX11_noon_6 : decode cX11_noon 6 = .ok (.istore_n 1, 1) := by decide +kernel
theorem dX11_noon_7 : decode cX11_noon 7 = .ok (.iconst 0, 1) := by decide +kernel
theorem dX11_noon_8 : decode cX11_noon 8 = .ok (.istore_n 2, 1) := by decide +kernel
theorem dX11_noon_9 : decode cX11_noon 9 = .ok (.iload_n 2, 1) := by decide +kernel
theorem dX11_noon_10 : decode cX11_noon 10 = .ok (.aload_n 0, 1) := by decide +kernel
theorem dX11_noon_11 : decode cX11_noon 11 = .ok (.getfield 38, 3) := by decide +kernel
theorem dX11_noon_14 : decode cX11_noon 14 = .ok (.iconst 1, 1) := by decide +kernel
theorem dX11_noon_15 : decode cX11_noon 15 = .ok (.iaload, 1) := by decide +kernel
theorem dX11_noon_16 : decode cX11_noon 16 = .ok (.if_icmp .ge 27, 3) := by decide +kernel
theorem dX11_noon_19 : decode cX11_noon 19 = .ok (.iload_n 1, 1) := by decide +kernel
theorem dX11_noon_20 : decode cX11_noon 20 = .ok (.aload_n 0, 1) := by decide +kernel
theorem dX11_noon_21 : decode cX11_noon 21 = .ok (.getfield 83, 3) := by decide +kernel
theorem dX11_noon_24 : decode cX11_noon 24 = .ok (.iload_n 2, 1) := by decide +kernel
theorem dX11_noon_25 : decode cX11_noon 25 = .ok (.iaload, 1) := by decide +kernel
theorem dX11_noon_26 : decode cX11_noon 26 = .ok (.iconst (-1), 1) := by decide +kernel
theorem dX11_noon_27 : decode cX11_noon 27 = .ok (.if_icmp .ne 7, 3) := by decide +kernel
theorem dX11_noon_30 : decode cX11_noon 30 = .ok (.iconst 1, 1) := by decide +kernel
theorem dX11_noon_31 : decode cX11_noon 31 = .ok (.goto 4, 3) := by decide +kernel
theorem dX11_noon_34 : decode cX11_noon 34 = .ok (.iconst 0, 1) := by decide +kernel
theorem dX11_noon_35 : decode cX11_noon 35 = .ok (.iadd, 1) := by decide +kernel
theorem dX11_noon_36 : decode cX11_noon 36 = .ok (.istore_n 1, 1) := by decide +kernel
theorem dX11_noon_37 : decode cX11_noon 37 = .ok (.iinc 2 1, 3) := by decide +kernel
theorem dX11_noon_40 : decode cX11_noon 40 = .ok (.goto (-31), 3) := by decide +kernel
theorem dX11_noon_43 : decode cX11_noon 43 = .ok (.iload_n 1, 1) := by decide +kernel
theorem dX11_noon_44 : decode cX11_noon 44 = .ok (.iconst 5, 1) := by decide +kernel
theorem dX11_noon_45 : decode cX11_noon 45 = .ok (.if_icmp .le 6, 3) := by decide +kernel
theorem dX11_noon_48 : decode cX11_noon 48 = .ok (.bipush (-2), 2) := by decide +kernel
theorem dX11_noon_50 : decode cX11_noon 50 = .ok (.ireturn, 1) := by decide +kernel
theorem dX11_noon_51 : decode cX11_noon 51 = .ok (.iconst 0, 1) := by decide +kernel
theorem dX11_noon_52 : decode cX11_noon 52 = .ok (.istore_n 2, 1) := by decide +kernel
theorem dX11_noon_53 : decode cX11_noon 53 = .ok (.iload_n 2, 1) := by decide +kernel
theorem dX11_noon_54 : decode cX11_noon 54 = .ok (.bipush 6, 2) := by decide +kernel
theorem dX11_noon_56 : decode cX11_noon 56 = .ok (.if_icmp .ge 21, 3) := by decide +kernel
theorem dX11_noon_59 : decode cX11_noon 59 = .ok (.aload_n 0, 1) := by decide +kernel
theorem dX11_noon_60 : decode cX11_noon 60 = .ok (.getfield 111, 3) := by decide +kernel
theorem dX11_noon_63 : decode cX11_noon 63 = .ok (.iload_n 2, 1) := by decide +kernel
theorem dX11_noon_64 : decode cX11_noon 64 = .ok (.aload_n 0, 1) := by decide +kernel
theorem dX11_noon_65 : decode cX11_noon 65 = .ok (.getfield 108, 3) := by decide +kernel
theorem dX11_noon_68 : decode cX11_noon 68 = .ok (.iload_n 2, 1) := by decide +kernel
theorem dX11_noon_69 : decode cX11_noon 69 = .ok (.iaload, 1) := by decide +kernel
theorem dX11_noon_70 : decode cX11_noon 70 = .ok (.iastore, 1) := by decide +kernel
theorem dX11_noon_71 : decode cX11_noon 71 = .ok (.iinc 2 1, 3) := by decide +kernel
theorem dX11_noon_74 : decode cX11_noon 74 = .ok (.goto (-21), 3) := by decide +kernel
theorem dX11_noon_77 : decode cX11_noon 77 = .ok (.aload_n 0, 1) := by decide +kernel
theorem dX11_noon_78 : decode cX11_noon 78 = .ok (.iconst 0, 1) := by decide +kernel
theorem dX11_noon_79 : decode cX11_noon 79 = .ok (.putfield 441, 3) := by decide +kernel
theorem dX11_noon_82 : decode cX11_noon 82 = .ok (.aload_n 0, 1) := by decide +kernel
theorem dX11_noon_83 : decode cX11_noon 83 = .ok (.iconst 0, 1) := by decide +kernel
theorem dX11_noon_84 : decode cX11_noon 84 = .ok (.iconst 0, 1) := by decide +kernel
theorem dX11_noon_85 : decode cX11_noon 85 = .ok (.invokevirtual 447, 3) := by decide +kernel
theorem dX11_noon_88 : decode cX11_noon 88 = .ok (.aload_n 0, 1) := by decide +kernel
theorem dX11_noon_89 : decode cX11_noon 89 = .ok (.getfield 441, 3) := by decide +kernel
theorem dX11_noon_92 : decode cX11_noon 92 = .ok (.ifCond .ne 31, 3) := by decide +kernel
theorem dX11_noon_95 : decode cX11_noon 95 = .ok (.iconst 0, 1) := by decide +kernel
theorem dX11_noon_96 : decode cX11_noon 96 = .ok (.istore_n 2, 1) := by decide +kernel
theorem dX11_noon_97 : decode cX11_noon 97 = .ok (.iload_n 2, 1) := by decide +kernel
theorem dX11_noon_98 : decode cX11_noon 98 = .ok (.bipush 6, 2) := by decide +kernel
theorem dX11_noon_100 : decode cX11_noon 100 = .ok (.if_icmp .ge 21, 3) := by decide +kernel
theorem dX11_noon_103 : decode cX11_noon 103 = .ok (.aload_n 0, 1) := by decide +kernel
theorem dX11_noon_104 : decode cX11_noon 104 = .ok (.getfield 108, 3) := by decide +kernel
theorem dX11_noon_107 : decode cX11_noon 107 = .ok (.iload_n 2, 1) := by decide +kernel
theorem dX11_noon_108 : decode cX11_noon 108 = .ok (.aload_n 0, 1) := by decide +kernel
theorem dX11_noon_109 : decode cX11_noon 109 = .ok (.getfield 111, 3) := by decide +kernel
theorem dX11_noon_112 : decode cX11_noon 112 = .ok (.iload_n 2, 1) := by decide +kernel
theorem dX11_noon_113 : decode cX11_noon 113 = .ok (.iaload, 1) := by decide +kernel
theorem dX11_noon_114 : decode cX11_noon 114 = .ok (.iastore, 1) := by decide +kernel
theorem dX11_noon_115 : decode cX11_noon 115 = .ok (.iinc 2 1, 3) := by decide +kernel
theorem dX11_noon_118 : decode cX11_noon 118 = .ok (.goto (-21), 3) := by decide +kernel
theorem dX11_noon_121 : decode cX11_noon 121 = .ok (.iconst (-1), 1) := by decide +kernel
theorem dX11_noon_122 : decode cX11_noon 122 = .ok (.ireturn, 1) := by decide +kernel
theorem dX11_noon_123 : decode cX11_noon 123 = .ok (.aload_n 0, 1) := by decide +kernel
theorem dX11_noon_124 : decode cX11_noon 124 = .ok (.iconst 1, 1) := by decide +kernel
theorem dX11_noon_125 : decode cX11_noon 125 = .ok (.putfield 336, 3) := by decide +kernel
theorem dX11_noon_128 : decode cX11_noon 128 = .ok (.aload_n 0, 1) := by decide +kernel
theorem dX11_noon_129 : decode cX11_noon 129 = .ok (.getfield 444, 3) := by decide +kernel
theorem dX11_noon_132 : decode cX11_noon 132 = .ok (.ireturn, 1) := by decide +kernel
def b_X11_noon_L9 (I : g_I) (K : Int32 → Option (Int32 × g_I)) : Nat → Int32 → Int32 → Option (Int32 × g_I)
  | 0, _, _ => none
  | f + 1, x1, x2 => if (I 104 1) ≤ x2 then K x1 else if g_in x2 6 = true then if (I 118 x2.toNatClampNeg) = (-1) then g_let (x1 + 1) fun a3 => b_X11_noon_L9 I K f a3 (x2 + 1) else g_let (x1 + 0) fun a2 => b_X11_noon_L9 I K f a2 (x2 + 1) else none
def b_X11_noon_L53 (K : g_I → Option (Int32 × g_I)) : Nat → Int32 → g_I → Option (Int32 × g_I)
  | 0, _, _ => none
  | f + 1, x2, I => if 6 ≤ x2 then K I else if g_in x2 6 = true then if g_in x2 6 = true then g_let (am_up I 128 x2.toNatClampNeg (I 127 x2.toNatClampNeg)) fun I5 => b_X11_noon_L53 K f (x2 + 1) I5 else none else none
def b_X11_noon_L97 (K : g_I → Option (Int32 × g_I)) : Nat → Int32 → g_I → Option (Int32 × g_I)
  | 0, _, _ => none
  | f + 1, x2, I => if 6 ≤ x2 then K I else if g_in x2 6 = true then if g_in x2 6 = true then g_let (am_up I 127 x2.toNatClampNeg (I 128 x2.toNatClampNeg)) fun I12 => b_X11_noon_L97 K f (x2 + 1) I12 else none else none
def b_X11_noon (I : g_I) : Option (Int32 × g_I) :=
  g_let (am_up I 101 2 0) fun I1 => b_X11_noon_L9 I1 (fun (a4 : Int32) => if a4 ≤ 5 then b_X11_noon_L53 (fun (I6 : g_I) => g_let (am_up I6 101 46 0) fun I7 => g_bind (c_X11_rowOn 8 I7 0 0) fun I9 => if (I9 101 46) = 0 then b_X11_noon_L97 (fun (I13 : g_I) => some ((-1), I13)) fu 0 I9 else g_let (am_up I9 101 45 1) fun I11 => some (I11 101 44, I11)) fu 0 I1 else some ((-2), I1)) fu 0 0
set_option maxRecDepth 100000 in
set_option maxHeartbeats 4000000 in
theorem gL_X11_noon_9 {G : am_G} (hK : k_OK G) {d : Nat} (hd : 49 ≤ d) {sh : List (Nat ⊕ (Nat × Nat))} {I : g_I} {R : Nat → Nat → Option Nat} {L : Nat → Nat → Int64} {g : Nat} (hm : k_Mod sh R) {K : Int32 → Option (Int32 × g_I)} {x1 : Int32} {x2 : Int32} {f : Nat} {r : Int32 × g_I} (h : b_X11_noon_L9 I K f x1 x2 = some r) (hk : ∀ (u1 : Int32), K u1 = some r → AW G mX11_noon d (fun v w => v = some (.int r.1) ∧ w = (sh, r.2, R, L, g)) (fun _ _ => False) 43 [some (.ref 101), some (.int u1), none] [] (sh, I, R, L, g) 0 0) : AW G mX11_noon d (fun v w => v = some (.int r.1) ∧ w = (sh, r.2, R, L, g)) (fun _ _ => False) 9 [some (.ref 101), some (.int x1), some (.int x2)] [] (sh, I, R, L, g) 0 0 := by
  have hG := hK.1
  induction f generalizing x1 x2 with
  | zero => rw [b_X11_noon_L9] at h; cases h
  | succ f ih =>
    rw [b_X11_noon_L9] at h
    refine AW.iload_n dX11_noon_9 rfl ?_
    refine AW.aload_n dX11_noon_10 rfl ?_
    refine AW.getR (c' := 104) (fX11_38 hG).r rfl (hm.1 0 _ rfl) (hm.2 (0, 3, 3) (by decide)) dX11_noon_11 ?_
    refine AW.iconst 1 dX11_noon_14 (by decide) ?_
    refine AW.iald (hm.1 3 _ rfl) (by unfold vp_in; decide) dX11_noon_15 ?_
    show AW G _ d _ _ 16 [some (.ref 101), some (.int x1), some (.int x2)] [.int (I 104 1), .int x2] (sh, I, R, L, g) 0 0
    refine AW.icmp_ge 43 dX11_noon_16 (by decide) (fun hc16 => ?_) (fun hc16 => ?_)
    · replace h := g_pos hc16 h
      refine AW.mask [2] [some (.ref 101), some (.int x1), none] rfl ?_
      exact hk _ h
    · replace h := g_neg hc16 h
      refine AW.iload_n dX11_noon_19 rfl ?_
      refine AW.aload_n dX11_noon_20 rfl ?_
      refine AW.getR (c' := 118) (fX11_83 hG).r rfl (hm.1 0 _ rfl) (hm.2 (0, 27, 17) (by decide)) dX11_noon_21 ?_
      refine AW.iload_n dX11_noon_24 rfl ?_
      obtain ⟨hb, h⟩ := g_ifE h
      refine AW.iald (hm.1 17 _ rfl) (g_in_iff.mp hb) dX11_noon_25 ?_
      refine AW.iconst (-1) dX11_noon_26 (by decide) ?_
      refine AW.icmp_ne 34 dX11_noon_27 (by decide) (fun hc27 => ?_) (fun hc27 => ?_)
      · replace h := g_neg hc27 h
        refine AW.iconst 0 dX11_noon_34 (by decide) ?_
        refine AW.iadd dX11_noon_35 ?_
        obtain ⟨a2, ea2, h⟩ := g_letE h
        refine AW.namE ea2 ?_
        refine AW.is_n [some (.ref 101), some (.int a2), some (.int x2)] dX11_noon_36 (by decide) rfl rfl ?_
        refine AW.incE 1 (by decide) [some (.ref 101), some (.int a2), some (.int (x2 + 1))] dX11_noon_37 rfl (by decide) rfl rfl ?_
        refine AW.goto 9 dX11_noon_40 (by decide) ?_
        exact ih h
      · replace h := g_pos hc27 h
        refine AW.iconst 1 dX11_noon_30 (by decide) ?_
        refine AW.goto 35 dX11_noon_31 (by decide) ?_
        refine AW.iadd dX11_noon_35 ?_
        obtain ⟨a3, ea3, h⟩ := g_letE h
        refine AW.namE ea3 ?_
        refine AW.is_n [some (.ref 101), some (.int a3), some (.int x2)] dX11_noon_36 (by decide) rfl rfl ?_
        refine AW.incE 1 (by decide) [some (.ref 101), some (.int a3), some (.int (x2 + 1))] dX11_noon_37 rfl (by decide) rfl rfl ?_
        refine AW.goto 9 dX11_noon_40 (by decide) ?_
        exact ih h
set_option maxRecDepth 100000 in
set_option maxHeartbeats 4000000 in
theorem gL_X11_noon_53 {G : am_G} (hK : k_OK G) {d : Nat} (hd : 49 ≤ d) {sh : List (Nat ⊕ (Nat × Nat))} {I : g_I} {R : Nat → Nat → Option Nat} {L : Nat → Nat → Int64} {g : Nat} (hm : k_Mod sh R) {K : g_I → Option (Int32 × g_I)} {x2 : Int32} {f : Nat} {r : Int32 × g_I} (h : b_X11_noon_L53 K f x2 I = some r) (hk : ∀ (J : g_I), K J = some r → AW G mX11_noon d (fun v w => v = some (.int r.1) ∧ w = (sh, r.2, R, L, g)) (fun _ _ => False) 77 [some (.ref 101), none, none] [] (sh, J, R, L, g) 0 0) : AW G mX11_noon d (fun v w => v = some (.int r.1) ∧ w = (sh, r.2, R, L, g)) (fun _ _ => False) 53 [some (.ref 101), none, some (.int x2)] [] (sh, I, R, L, g) 0 0 := by
  have hG := hK.1
  induction f generalizing x2 I with
  | zero => rw [b_X11_noon_L53] at h; cases h
  | succ f ih =>
    rw [b_X11_noon_L53] at h
    refine AW.iload_n dX11_noon_53 rfl ?_
    refine AW.bipush 6 dX11_noon_54 (by decide) ?_
    refine AW.icmp_ge 77 dX11_noon_56 (by decide) (fun hc56 => ?_) (fun hc56 => ?_)
    · replace h := g_pos hc56 h
      refine AW.mask [2] [some (.ref 101), none, none] rfl ?_
      exact hk _ h
    · replace h := g_neg hc56 h
      refine AW.aload_n dX11_noon_59 rfl ?_
      refine AW.getR (c' := 128) (fX11_111 hG).r rfl (hm.1 0 _ rfl) (hm.2 (0, 47, 27) (by decide)) dX11_noon_60 ?_
      refine AW.iload_n dX11_noon_63 rfl ?_
      refine AW.aload_n dX11_noon_64 rfl ?_
      refine AW.getR (c' := 127) (fX11_108 hG).r rfl (hm.1 0 _ rfl) (hm.2 (0, 43, 26) (by decide)) dX11_noon_65 ?_
      refine AW.iload_n dX11_noon_68 rfl ?_
      obtain ⟨hb, h⟩ := g_ifE h
      refine AW.iald (hm.1 26 _ rfl) (g_in_iff.mp hb) dX11_noon_69 ?_
      obtain ⟨hb, h⟩ := g_ifE h
      refine AW.iast (hm.1 27 _ rfl) (g_in_iff.mp hb) dX11_noon_70 ?_
      obtain ⟨I5, eI5, h⟩ := g_letE h
      refine AW.namIE eI5 ?_
      refine AW.incE 1 (by decide) [some (.ref 101), none, some (.int (x2 + 1))] dX11_noon_71 rfl (by decide) rfl rfl ?_
      refine AW.goto 53 dX11_noon_74 (by decide) ?_
      exact ih h
set_option maxRecDepth 100000 in
set_option maxHeartbeats 4000000 in
theorem gL_X11_noon_97 {G : am_G} (hK : k_OK G) {d : Nat} (hd : 49 ≤ d) {sh : List (Nat ⊕ (Nat × Nat))} {I : g_I} {R : Nat → Nat → Option Nat} {L : Nat → Nat → Int64} {g : Nat} (hm : k_Mod sh R) {K : g_I → Option (Int32 × g_I)} {x2 : Int32} {f : Nat} {r : Int32 × g_I} (h : b_X11_noon_L97 K f x2 I = some r) (hk : ∀ (J : g_I), K J = some r → AW G mX11_noon d (fun v w => v = some (.int r.1) ∧ w = (sh, r.2, R, L, g)) (fun _ _ => False) 121 [none, none, none] [] (sh, J, R, L, g) 0 0) : AW G mX11_noon d (fun v w => v = some (.int r.1) ∧ w = (sh, r.2, R, L, g)) (fun _ _ => False) 97 [some (.ref 101), none, some (.int x2)] [] (sh, I, R, L, g) 0 0 := by
  have hG := hK.1
  induction f generalizing x2 I with
  | zero => rw [b_X11_noon_L97] at h; cases h
  | succ f ih =>
    rw [b_X11_noon_L97] at h
    refine AW.iload_n dX11_noon_97 rfl ?_
    refine AW.bipush 6 dX11_noon_98 (by decide) ?_
    refine AW.icmp_ge 121 dX11_noon_100 (by decide) (fun hc100 => ?_) (fun hc100 => ?_)
    · replace h := g_pos hc100 h
      refine AW.mask [0, 2] [none, none, none] rfl ?_
      exact hk _ h
    · replace h := g_neg hc100 h
      refine AW.aload_n dX11_noon_103 rfl ?_
      refine AW.getR (c' := 127) (fX11_108 hG).r rfl (hm.1 0 _ rfl) (hm.2 (0, 43, 26) (by decide)) dX11_noon_104 ?_
      refine AW.iload_n dX11_noon_107 rfl ?_
      refine AW.aload_n dX11_noon_108 rfl ?_
      refine AW.getR (c' := 128) (fX11_111 hG).r rfl (hm.1 0 _ rfl) (hm.2 (0, 47, 27) (by decide)) dX11_noon_109 ?_
      refine AW.iload_n dX11_noon_112 rfl ?_
      obtain ⟨hb, h⟩ := g_ifE h
      refine AW.iald (hm.1 27 _ rfl) (g_in_iff.mp hb) dX11_noon_113 ?_
      obtain ⟨hb, h⟩ := g_ifE h
      refine AW.iast (hm.1 26 _ rfl) (g_in_iff.mp hb) dX11_noon_114 ?_
      obtain ⟨I12, eI12, h⟩ := g_letE h
      refine AW.namIE eI12 ?_
      refine AW.incE 1 (by decide) [some (.ref 101), none, some (.int (x2 + 1))] dX11_noon_115 rfl (by decide) rfl rfl ?_
      refine AW.goto 97 dX11_noon_118 (by decide) ?_
      exact ih h
set_option maxRecDepth 100000 in
set_option maxHeartbeats 4000000 in
theorem g_X11_noon {G : am_G} (hK : k_OK G) {d : Nat} (hd : 49 ≤ d) {sh : List (Nat ⊕ (Nat × Nat))} {I : g_I} {R : Nat → Nat → Option Nat} {L : Nat → Nat → Int64} {g : Nat} (hm : k_Mod sh R) {r : Int32 × g_I} (h : b_X11_noon I = some r) : AM G mX11_noon d [.ref 101] (sh, I, R, L, g) (fun v w => v = some (.int r.1) ∧ w = (sh, r.2, R, L, g)) (fun _ _ => False) := by
  have hG := hK.1
  refine AM.of (n := 2) (by decide +kernel) (Nat.le_of_ble_eq_true rfl) ?_
  show AW G mX11_noon d (fun v w => v = some (.int r.1) ∧ w = (sh, r.2, R, L, g)) (fun _ _ => False) 0 [some (.ref 101), none, none] [] (sh, I, R, L, g) 0 0
  unfold b_X11_noon at h
  refine AW.aload_n dX11_noon_0 rfl ?_
  refine AW.iconst 0 dX11_noon_1 (by decide) ?_
  refine AW.putI (fX11_159 hG) rfl (vp_nar_int _) rfl (hm.1 0 _ rfl) dX11_noon_2 ?_
  obtain ⟨I1, eI1, h⟩ := g_letE h
  refine AW.namIE eI1 ?_
  refine AW.iconst 0 dX11_noon_5 (by decide) ?_
  refine AW.is_n [some (.ref 101), some (.int 0), none] dX11_noon_6 (by decide) rfl rfl ?_
  refine AW.iconst 0 dX11_noon_7 (by decide) ?_
  refine AW.is_n [some (.ref 101), some (.int 0), some (.int 0)] dX11_noon_8 (by decide) rfl rfl ?_
  refine gL_X11_noon_9 hK hd hm h (fun a4 h => ?_)
  refine AW.iload_n dX11_noon_43 rfl ?_
  refine AW.iconst 5 dX11_noon_44 (by decide) ?_
  refine AW.icmp_le 51 dX11_noon_45 (by decide) (fun hc45 => ?_) (fun hc45 => ?_)
  · replace h := g_pos hc45 h
    refine AW.iconst 0 dX11_noon_51 (by decide) ?_
    refine AW.is_n [some (.ref 101), some (.int a4), some (.int 0)] dX11_noon_52 (by decide) rfl rfl ?_
    refine AW.mask [1] [some (.ref 101), none, some (.int 0)] rfl ?_
    refine gL_X11_noon_53 hK hd hm h (fun I6 h => ?_)
    refine AW.aload_n dX11_noon_77 rfl ?_
    refine AW.iconst 0 dX11_noon_78 (by decide) ?_
    refine AW.putI (fX11_441 hG) rfl (by decide) (by decide) (hm.1 0 _ rfl) dX11_noon_79 ?_
    obtain ⟨I7, eI7, h⟩ := g_letE h
    refine AW.namIE eI7 ?_
    refine AW.aload_n dX11_noon_82 rfl ?_
    refine AW.iconst 0 dX11_noon_83 (by decide) ?_
    refine AW.iconst 0 dX11_noon_84 (by decide) ?_
    obtain ⟨I9, hx10, h⟩ := g_bindE h
    refine AW.callV (b := 101) (As := [.int 0, .int 0]) hG.2.2 (vX11_447 hG) (hm.1 0 _ rfl) (g2_X11_rowOn hK (d := 48) (Nat.le_refl _) hm hx10) (by omega) dX11_noon_85 rfl rfl (Nat.le_of_ble_eq_true rfl) (fun v w9 hq9 h09 => by obtain ⟨rfl, rfl⟩ := hq9; exact ⟨h09, rfl⟩) (by decide) (by decide) (fun _ _ hx => hx) (fun v9 w9 hq9 => ?_)
    obtain ⟨rfl, rfl⟩ := hq9
    show AW G _ d _ _ 88 [some (.ref 101), none, none] [] (sh, I9, R, L, g) 0 0
    refine AW.aload_n dX11_noon_88 rfl ?_
    refine AW.getI (fX11_441 hG).r rfl (hm.1 0 _ rfl) dX11_noon_89 ?_
    refine AW.if_ne 123 dX11_noon_92 (by decide) (fun hc92 => ?_) (fun hc92 => ?_)
    · replace h := g_neg hc92 h
      refine AW.aload_n dX11_noon_123 rfl ?_
      refine AW.iconst 1 dX11_noon_124 (by decide) ?_
      refine AW.putI (fX11_336 hG) rfl (by decide) (by decide) (hm.1 0 _ rfl) dX11_noon_125 ?_
      obtain ⟨I11, eI11, h⟩ := g_letE h
      refine AW.namIE eI11 ?_
      refine AW.aload_n dX11_noon_128 rfl ?_
      refine AW.getI (fX11_444 hG).r rfl (hm.1 0 _ rfl) dX11_noon_129 ?_
      exact AW.iret dX11_noon_132 rfl (by decide) (by decide) (by cases h; exact ⟨rfl, rfl⟩)
    · replace h := g_pos hc92 h
      refine AW.iconst 0 dX11_noon_95 (by decide) ?_
      refine AW.is_n [some (.ref 101), none, some (.int 0)] dX11_noon_96 (by decide) rfl rfl ?_
      refine gL_X11_noon_97 hK hd hm h (fun I13 h => ?_)
      refine AW.iconst (-1) dX11_noon_121 (by decide) ?_
      exact AW.iret dX11_noon_122 rfl (by decide) (by decide) (by cases h; exact ⟨rfl, rfl⟩)
  · replace h := g_neg hc45 h
    refine AW.bipush (-2) dX11_noon_48 (by decide) ?_
    exact AW.iret dX11_noon_50 rfl (by decide) (by decide) (by cases h; exact ⟨rfl, rfl⟩)
theorem dX11_carried_0 : decode cX11_carried 0 = .ok (.aload_n 0, 1) := by decide +kernel
theorem dX11_carried_1 : decode cX11_carried 1 = .ok (.iconst 0, 1) := by decide +kernel
theorem dX11_carried_2 : decode cX11_carried 2 = .ok (.putfield 159, 3) := by decide +kernel
theorem dX11_carried_5 : decode cX11_carried 5 = .ok (.aload_n 0, 1) := by decide +kernel
theorem dX11_carried_6 : decode cX11_carried 6 = .ok (.iload_n 1, 1) := by decide +kernel
theorem dX11_carried_7 : decode cX11_carried 7 = .ok (.invokevirtual 392, 3) := by decide +kernel
theorem dX11_carried_10 : decode cX11_carried 10 = .ok (.ifCond .eq 19, 3) := by decide +kernel
theorem dX11_carried_13 : decode cX11_carried 13 = .ok (.aload_n 0, 1) := by decide +kernel
theorem dX11_carried_14 : decode cX11_carried 14 = .ok (.getfield 336, 3) := by decide +kernel
theorem dX11_carried_17 : decode cX11_carried 17 = .ok (.ifCond .eq 12, 3) := by decide +kernel
theorem dX11_carried_20 : decode cX11_carried 20 = .ok (.aload_n 0, 1) := by decide +kernel
theorem dX11_carried_21 : decode cX11_carried 21 = .ok (.getfield 108, 3) := by decide +kernel
theorem dX11_carried_24 : decode cX11_carried 24 = .ok (.iload_n 1, 1) := by decide +kernel
theorem dX11_carried_25 : decode cX11_carried 25 = .ok (.iaload, 1) := by decide +kernel
theorem dX11_carried_26 : decode cX11_carried 26 = .ok (.goto 8, 3) := by decide +kernel
theorem dX11_carried_29 : decode cX11_carried 29 = .ok (.aload_n 0, 1) := by decide +kernel
theorem dX11_carried_30 : decode cX11_carried 30 = .ok (.iconst 1, 1) := by decide +kernel
theorem dX11_carried_31 : decode cX11_carried 31 = .ok (.invokevirtual 307, 3) := by decide +kernel
theorem dX11_carried_34 : decode cX11_carried 34 = .ok (.ireturn, 1) := by decide +kernel
def b_X11_carried (I : g_I) (x1 : Int32) : Option (Int32 × g_I) :=
  g_let (am_up I 101 2 0) fun I1 => if b_X11_isLoaf I1 x1 = true then if (I1 101 45) = 0 then g_bind2 (b_X11_fail I1 1) fun a5 I6 => some (a5, I6) else if g_in x1 6 = true then some (I1 127 x1.toNatClampNeg, I1) else none else g_bind2 (b_X11_fail I1 1) fun a2 I3 => some (a2, I3)
set_option maxRecDepth 100000 in
set_option maxHeartbeats 4000000 in
theorem g_X11_carried {G : am_G} (hK : k_OK G) {d : Nat} (hd : 2 ≤ d) {sh : List (Nat ⊕ (Nat × Nat))} {I : g_I} {R : Nat → Nat → Option Nat} {L : Nat → Nat → Int64} {g : Nat} (hm : k_Mod sh R) {x1 : Int32} {r : Int32 × g_I} (h : b_X11_carried I x1 = some r) : AM G mX11_carried d [.ref 101, .int x1] (sh, I, R, L, g) (fun v w => v = some (.int r.1) ∧ w = (sh, r.2, R, L, g)) (fun _ _ => False) := by
  have hG := hK.1
  refine AM.of (n := 0) (by decide +kernel) (Nat.le_of_ble_eq_true rfl) ?_
  show AW G mX11_carried d (fun v w => v = some (.int r.1) ∧ w = (sh, r.2, R, L, g)) (fun _ _ => False) 0 [some (.ref 101), some (.int x1)] [] (sh, I, R, L, g) 0 0
  unfold b_X11_carried at h
  refine AW.aload_n dX11_carried_0 rfl ?_
  refine AW.iconst 0 dX11_carried_1 (by decide) ?_
  refine AW.putI (fX11_159 hG) rfl (vp_nar_int _) rfl (hm.1 0 _ rfl) dX11_carried_2 ?_
  obtain ⟨I1, eI1, h⟩ := g_letE h
  refine AW.namIE eI1 ?_
  refine AW.aload_n dX11_carried_5 rfl ?_
  refine AW.iload_n dX11_carried_6 rfl ?_
  refine AW.callV (b := 101) (As := [.int x1]) hG.2.2 (vX11_392 hG) (hm.1 0 _ rfl) (g_X11_isLoaf hK (d := 1) (Nat.le_refl _) hm) (by omega) dX11_carried_7 rfl rfl (Nat.le_of_ble_eq_true rfl) (fun v w9 hq9 h09 => by obtain ⟨rfl, rfl⟩ := hq9; exact ⟨h09, rfl⟩) (by decide) (by decide) (fun _ _ hx => hx) (fun v9 w9 hq9 => ?_)
  obtain ⟨rfl, rfl⟩ := hq9
  show AW G _ d _ _ 10 [some (.ref 101), some (.int x1)] [.int (kb (b_X11_isLoaf I1 x1))] (sh, I1, R, L, g) 0 0
  refine AW.if_eq 29 dX11_carried_10 (by decide) (fun hc10 => ?_) (fun hc10 => ?_)
  · replace h := g_neg (g_kb0 hc10) h
    refine AW.aload_n dX11_carried_29 rfl ?_
    refine AW.iconst 1 dX11_carried_30 (by decide) ?_
    obtain ⟨a2, I3, hx4, h⟩ := g_bind2E h
    refine AW.callV (b := 101) (As := [.int 1]) hG.2.2 (vX11_307 hG) (hm.1 0 _ rfl) (g_X11_fail hK (d := 0) (Nat.le_refl _) hm hx4) (by omega) dX11_carried_31 rfl rfl (Nat.le_of_ble_eq_true rfl) (fun v w9 hq9 h09 => by obtain ⟨rfl, rfl⟩ := hq9; exact ⟨h09, rfl⟩) (by decide) (by decide) (fun _ _ hx => hx) (fun v9 w9 hq9 => ?_)
    obtain ⟨rfl, rfl⟩ := hq9
    show AW G _ d _ _ 34 [some (.ref 101), some (.int x1)] [.int a2] (sh, I3, R, L, g) 0 0
    exact AW.iret dX11_carried_34 rfl (by decide) (by decide) (by cases h; exact ⟨rfl, rfl⟩)
  · replace h := g_pos (kb_1.mp hc10) h
    refine AW.aload_n dX11_carried_13 rfl ?_
    refine AW.getI (fX11_336 hG).r rfl (hm.1 0 _ rfl) dX11_carried_14 ?_
    refine AW.if_eq 29 dX11_carried_17 (by decide) (fun hc17 => ?_) (fun hc17 => ?_)
    · replace h := g_pos hc17 h
      refine AW.aload_n dX11_carried_29 rfl ?_
      refine AW.iconst 1 dX11_carried_30 (by decide) ?_
      obtain ⟨a5, I6, hx7, h⟩ := g_bind2E h
      refine AW.callV (b := 101) (As := [.int 1]) hG.2.2 (vX11_307 hG) (hm.1 0 _ rfl) (g_X11_fail hK (d := 0) (Nat.le_refl _) hm hx7) (by omega) dX11_carried_31 rfl rfl (Nat.le_of_ble_eq_true rfl) (fun v w9 hq9 h09 => by obtain ⟨rfl, rfl⟩ := hq9; exact ⟨h09, rfl⟩) (by decide) (by decide) (fun _ _ hx => hx) (fun v9 w9 hq9 => ?_)
      obtain ⟨rfl, rfl⟩ := hq9
      show AW G _ d _ _ 34 [some (.ref 101), some (.int x1)] [.int a5] (sh, I6, R, L, g) 0 0
      exact AW.iret dX11_carried_34 rfl (by decide) (by decide) (by cases h; exact ⟨rfl, rfl⟩)
    · replace h := g_neg hc17 h
      refine AW.aload_n dX11_carried_20 rfl ?_
      refine AW.getR (c' := 127) (fX11_108 hG).r rfl (hm.1 0 _ rfl) (hm.2 (0, 43, 26) (by decide)) dX11_carried_21 ?_
      refine AW.iload_n dX11_carried_24 rfl ?_
      obtain ⟨hb, h⟩ := g_ifE h
      refine AW.iald (hm.1 26 _ rfl) (g_in_iff.mp hb) dX11_carried_25 ?_
      refine AW.goto 34 dX11_carried_26 (by decide) ?_
      exact AW.iret dX11_carried_34 rfl (by decide) (by decide) (by cases h; exact ⟨rfl, rfl⟩)
theorem dX11_familiar_0 : decode cX11_familiar 0 = .ok (.aload_n 0, 1) := by decide +kernel
theorem dX11_familiar_1 : decode cX11_familiar 1 = .ok (.iconst 0, 1) := by decide +kernel
theorem dX11_familiar_2 : decode cX11_familiar 2 = .ok (.putfield 159, 3) := by decide +kernel
theorem dX11_familiar_5 : decode cX11_familiar 5 = .ok (.iconst 0, 1) := by decide +kernel
theorem dX11_familiar_6 : decode cX11_familiar 6 = .ok (.istore_n 1, 1) := by decide +kernel
theorem dX11_familiar_7 : decode cX11_familiar 7 = .ok (.iconst 0, 1) := by decide +kernel
theorem dX11_familiar_8 : decode cX11_familiar 8 = .ok (.istore_n 2, 1) := by decide +kernel
theorem dX11_familiar_9 : decode cX11_familiar 9 = .ok (.iload_n 2, 1) := by decide +kernel
theorem dX11_familiar_10 : decode cX11_familiar 10 = .ok (.aload_n 0, 1) := by decide +kernel
theorem dX11_familiar_11 : decode cX11_familiar 11 = .ok (.getfield 38, 3) := by decide +kernel
theorem dX11_familiar_14 : decode cX11_familiar 14 = .ok (.iconst 0, 1) := by decide +kernel
theorem dX11_familiar_15 : decode cX11_familiar 15 = .ok (.iaload, 1) := by decide +kernel
theorem dX11_familiar_16 : decode cX11_familiar 16 = .ok (.if_icmp .ge 65, 3) := by decide +kernel
theorem dX11_familiar_19 : decode cX11_familiar 19 = .ok (.iconst 1, 1) := by decide +kernel
theorem dX11_familiar_20 : decode cX11_familiar 20 = .ok (.istore_n 3, 1) := by decide +kernel
theorem dX11_familiar_21 : decode cX11_familiar 21 = .ok (.iconst 0, 1) := by decide +kernel
theorem dX11_familiar_22 : decode cX11_familiar 22 = .ok (.istore 4, 2) := by decide +kernel
theorem dX11_familiar_24 : decode cX11_familiar 24 = .ok (.iload 4, 2) := by decide +kernel
theorem dX11_familiar_26 : decode cX11_familiar 26 = .ok (.aload_n 0, 1) := by decide +kernel
theorem dX11_familiar_27 : decode cX11_familiar 27 = .ok (.getfield 38, 3) := by decide +kernel
theorem dX11_familiar_30 : decode cX11_familiar 30 = .ok (.iconst 0, 1) := by decide +kernel
theorem dX11_familiar_31 : decode cX11_familiar 31 = .ok (.iaload, 1) := by decide +kernel
theorem dX11_familiar_32 : decode cX11_familiar 32 = .ok (.if_icmp .ge 29, 3) := by decide +kernel
theorem dX11_familiar_35 : decode cX11_familiar 35 = .ok (.iload_n 3, 1) := by decide +kernel
theorem dX11_familiar_36 : decode cX11_familiar 36 = .ok (.ifCond .eq 17, 3) := by decide +kernel
theorem dX11_familiar_39 : decode cX11_familiar 39 = .ok (.aload_n 0, 1) := by decide +kernel
theorem dX11_familiar_40 : decode cX11_familiar 40 = .ok (.iload_n 2, 1) := by decide +kernel
theorem dX11_familiar_41 : decode cX11_familiar 41 = .ok (.iload 4, 2) := by decide +kernel
theorem dX11_familiar_43 : decode cX11_familiar 43 = .ok (.invokevirtual 349, 3) := by decide +kernel
theorem dX11_familiar_46 : decode cX11_familiar 46 = .ok (.ifCond .eq 7, 3) := by decide +kernel
theorem dX11_familiar_49 : decode cX11_familiar 49 = .ok (.iconst 1, 1) := by decide +kernel
theorem dX11_familiar_50 : decode cX11_familiar 50 = .ok (.goto 4, 3) := by decide +kernel
theorem dX11_familiar_53 : decode cX11_familiar 53 = .ok (.iconst 0, 1) := by decide +kernel
theorem dX11_familiar_54 : decode cX11_familiar 54 = .ok (.istore_n 3, 1) := by decide +kernel
theorem dX11_familiar_55 : decode cX11_familiar 55 = .ok (.iinc 4 1, 3) := by decide +kernel
theorem dX11_familiar_58 : decode cX11_familiar 58 = .ok (.goto (-34), 3) := by decide +kernel
theorem dX11_familiar_61 : decode cX11_familiar 61 = .ok (.iload_n 1, 1) := by decide +kernel
theorem dX11_familiar_62 : decode cX11_familiar 62 = .ok (.iload_n 3, 1) := by decide +kernel
theorem dX11_familiar_63 : decode cX11_familiar 63 = .ok (.ifCond .eq 9, 3) := by decide +kernel
theorem dX11_familiar_66 : decode cX11_familiar 66 = .ok (.iconst 1, 1) := by decide +kernel
theorem dX11_familiar_67 : decode cX11_familiar 67 = .ok (.iload_n 2, 1) := by decide +kernel
theorem dX11_familiar_68 : decode cX11_familiar 68 = .ok (.ishl, 1) := by decide +kernel
theorem dX11_familiar_69 : decode cX11_familiar 69 = .ok (.goto 4, 3) := by decide +kernel
theorem dX11_familiar_72 : decode cX11_familiar 72 = .ok (.iconst 0, 1) := by decide +kernel
theorem dX11_familiar_73 : decode cX11_familiar 73 = .ok (.ior, 1) := by decide +kernel
theorem dX11_familiar_74 : decode cX11_familiar 74 = .ok (.istore_n 1, 1) := by decide +kernel
theorem dX11_familiar_75 : decode cX11_familiar 75 = .ok (.iinc 2 1, 3) := by decide +kernel
theorem dX11_familiar_78 : decode cX11_familiar 78 = .ok (.goto (-69), 3) := by decide +kernel
theorem dX11_familiar_81 : decode cX11_familiar 81 = .ok (.iload_n 1, 1) := by decide +kernel
theorem dX11_familiar_82 : decode cX11_familiar 82 = .ok (.ireturn, 1) := by decide +kernel
def b_X11_familiar_L24 (I : g_I) (y1 : Int32) (y2 : Int32) (K : Int32 → Option (Int32 × g_I)) : Nat → Int32 → Int32 → Option (Int32 × g_I)
  | 0, _, _ => none
  | f + 1, x3, x4 => if (I 104 0) ≤ x4 then K x3 else if x3 = 0 then b_X11_familiar_L24 I y1 y2 K f 0 (x4 + 1) else g_bind (b_X11_isKnown I y2 x4) fun t2 => if t2 = true then b_X11_familiar_L24 I y1 y2 K f 1 (x4 + 1) else b_X11_familiar_L24 I y1 y2 K f 0 (x4 + 1)
def b_X11_familiar_L9 (I : g_I) (K : Int32 → Option (Int32 × g_I)) : Nat → Int32 → Int32 → Option (Int32 × g_I)
  | 0, _, _ => none
  | f + 1, x1, x2 => if (I 104 0) ≤ x2 then K x1 else b_X11_familiar_L24 I x1 x2 (fun (a5 : Int32) => if a5 = 0 then g_let (x1 ||| 0) fun a6 => b_X11_familiar_L9 I K f a6 (x2 + 1) else g_let (x1 ||| ((1 : Int32) <<< (x2 &&& 31))) fun a7 => b_X11_familiar_L9 I K f a7 (x2 + 1)) fu 1 0
def b_X11_familiar (I : g_I) : Option (Int32 × g_I) :=
  g_let (am_up I 101 2 0) fun I1 => b_X11_familiar_L9 I1 (fun (a8 : Int32) => some (a8, I1)) fu 0 0
set_option maxRecDepth 100000 in
set_option maxHeartbeats 4000000 in
theorem gL_X11_familiar_24 {G : am_G} (hK : k_OK G) {d : Nat} (hd : 3 ≤ d) {sh : List (Nat ⊕ (Nat × Nat))} {I : g_I} {R : Nat → Nat → Option Nat} {L : Nat → Nat → Int64} {g : Nat} (hm : k_Mod sh R) {y1 : Int32} {y2 : Int32} {K : Int32 → Option (Int32 × g_I)} {x3 : Int32} {x4 : Int32} {f : Nat} {r : Int32 × g_I} (h : b_X11_familiar_L24 I y1 y2 K f x3 x4 = some r) (hk : ∀ (u3 : Int32), K u3 = some r → AW G mX11_familiar d (fun v w => v = some (.int r.1) ∧ w = (sh, r.2, R, L, g)) (fun _ _ => False) 61 [some (.ref 101), some (.int y1), some (.int y2), some (.int u3), none] [] (sh, I, R, L, g) 0 0) : AW G mX11_familiar d (fun v w => v = some (.int r.1) ∧ w = (sh, r.2, R, L, g)) (fun _ _ => False) 24 [some (.ref 101), some (.int y1), some (.int y2), some (.int x3), some (.int x4)] [] (sh, I, R, L, g) 0 0 := by
  have hG := hK.1
  induction f generalizing x3 x4 with
  | zero => rw [b_X11_familiar_L24] at h; cases h
  | succ f ih =>
    rw [b_X11_familiar_L24] at h
    refine AW.iload dX11_familiar_24 rfl ?_
    refine AW.aload_n dX11_familiar_26 rfl ?_
    refine AW.getR (c' := 104) (fX11_38 hG).r rfl (hm.1 0 _ rfl) (hm.2 (0, 3, 3) (by decide)) dX11_familiar_27 ?_
    refine AW.iconst 0 dX11_familiar_30 (by decide) ?_
    refine AW.iald (hm.1 3 _ rfl) (by unfold vp_in; decide) dX11_familiar_31 ?_
    show AW G _ d _ _ 32 [some (.ref 101), some (.int y1), some (.int y2), some (.int x3), some (.int x4)] [.int (I 104 0), .int x4] (sh, I, R, L, g) 0 0
    refine AW.icmp_ge 61 dX11_familiar_32 (by decide) (fun hc32 => ?_) (fun hc32 => ?_)
    · replace h := g_pos hc32 h
      refine AW.mask [4] [some (.ref 101), some (.int y1), some (.int y2), some (.int x3), none] rfl ?_
      exact hk _ h
    · replace h := g_neg hc32 h
      refine AW.iload_n dX11_familiar_35 rfl ?_
      refine AW.if_eq 53 dX11_familiar_36 (by decide) (fun hc36 => ?_) (fun hc36 => ?_)
      · replace h := g_pos hc36 h
        refine AW.iconst 0 dX11_familiar_53 (by decide) ?_
        refine AW.is_n [some (.ref 101), some (.int y1), some (.int y2), some (.int 0), some (.int x4)] dX11_familiar_54 (by decide) rfl rfl ?_
        refine AW.incE 1 (by decide) [some (.ref 101), some (.int y1), some (.int y2), some (.int 0), some (.int (x4 + 1))] dX11_familiar_55 rfl (by decide) rfl rfl ?_
        refine AW.goto 24 dX11_familiar_58 (by decide) ?_
        exact ih h
      · replace h := g_neg hc36 h
        refine AW.aload_n dX11_familiar_39 rfl ?_
        refine AW.iload_n dX11_familiar_40 rfl ?_
        refine AW.iload dX11_familiar_41 rfl ?_
        obtain ⟨t2, hx4, h⟩ := g_bindE h
        refine AW.callV (b := 101) (As := [.int y2, .int x4]) hG.2.2 (vX11_349 hG) (hm.1 0 _ rfl) (g_X11_isKnown hK (d := 2) (Nat.le_refl _) hm hx4) (by omega) dX11_familiar_43 rfl rfl (Nat.le_of_ble_eq_true rfl) (fun v w9 hq9 h09 => by obtain ⟨rfl, rfl⟩ := hq9; exact ⟨h09, rfl⟩) (by decide) (by decide) (fun _ _ hx => hx) (fun v9 w9 hq9 => ?_)
        obtain ⟨rfl, rfl⟩ := hq9
        show AW G _ d _ _ 46 [some (.ref 101), some (.int y1), some (.int y2), some (.int x3), some (.int x4)] [.int (kb t2)] (sh, I, R, L, g) 0 0
        refine AW.if_eq 53 dX11_familiar_46 (by decide) (fun hc46 => ?_) (fun hc46 => ?_)
        · replace h := g_neg (g_kb0 hc46) h
          refine AW.iconst 0 dX11_familiar_53 (by decide) ?_
          refine AW.is_n [some (.ref 101), some (.int y1), some (.int y2), some (.int 0), some (.int x4)] dX11_familiar_54 (by decide) rfl rfl ?_
          refine AW.incE 1 (by decide) [some (.ref 101), some (.int y1), some (.int y2), some (.int 0), some (.int (x4 + 1))] dX11_familiar_55 rfl (by decide) rfl rfl ?_
          refine AW.goto 24 dX11_familiar_58 (by decide) ?_
          exact ih h
        · replace h := g_pos (kb_1.mp hc46) h
          refine AW.iconst 1 dX11_familiar_49 (by decide) ?_
          refine AW.goto 54 dX11_familiar_50 (by decide) ?_
          refine AW.is_n [some (.ref 101), some (.int y1), some (.int y2), some (.int 1), some (.int x4)] dX11_familiar_54 (by decide) rfl rfl ?_
          refine AW.incE 1 (by decide) [some (.ref 101), some (.int y1), some (.int y2), some (.int 1), some (.int (x4 + 1))] dX11_familiar_55 rfl (by decide) rfl rfl ?_
          refine AW.goto 24 dX11_familiar_58 (by decide) ?_
          exact ih h
set_option maxRecDepth 100000 in
set_option maxHeartbeats 4000000 in
theorem gL_X11_familiar_9 {G : am_G} (hK : k_OK G) {d : Nat} (hd : 3 ≤ d) {sh : List (Nat ⊕ (Nat × Nat))} {I : g_I} {R : Nat → Nat → Option Nat} {L : Nat → Nat → Int64} {g : Nat} (hm : k_Mod sh R) {K : Int32 → Option (Int32 × g_I)} {x1 : Int32} {x2 : Int32} {f : Nat} {r : Int32 × g_I} (h : b_X11_familiar_L9 I K f x1 x2 = some r) (hk : ∀ (u1 : Int32), K u1 = some r → AW G mX11_familiar d (fun v w => v = some (.int r.1) ∧ w = (sh, r.2, R, L, g)) (fun _ _ => False) 81 [none, some (.int u1), none, none, none] [] (sh, I, R, L, g) 0 0) : AW G mX11_familiar d (fun v w => v = some (.int r.1) ∧ w = (sh, r.2, R, L, g)) (fun _ _ => False) 9 [some (.ref 101), some (.int x1), some (.int x2), none, none] [] (sh, I, R, L, g) 0 0 := by
  have hG := hK.1
  induction f generalizing x1 x2 with
  | zero => rw [b_X11_familiar_L9] at h; cases h
  | succ f ih =>
    rw [b_X11_familiar_L9] at h
    refine AW.iload_n dX11_familiar_9 rfl ?_
    refine AW.aload_n dX11_familiar_10 rfl ?_
    refine AW.getR (c' := 104) (fX11_38 hG).r rfl (hm.1 0 _ rfl) (hm.2 (0, 3, 3) (by decide)) dX11_familiar_11 ?_
    refine AW.iconst 0 dX11_familiar_14 (by decide) ?_
    refine AW.iald (hm.1 3 _ rfl) (by unfold vp_in; decide) dX11_familiar_15 ?_
    show AW G _ d _ _ 16 [some (.ref 101), some (.int x1), some (.int x2), none, none] [.int (I 104 0), .int x2] (sh, I, R, L, g) 0 0
    refine AW.icmp_ge 81 dX11_familiar_16 (by decide) (fun hc16 => ?_) (fun hc16 => ?_)
    · replace h := g_pos hc16 h
      refine AW.mask [0, 2] [none, some (.int x1), none, none, none] rfl ?_
      exact hk _ h
    · replace h := g_neg hc16 h
      refine AW.iconst 1 dX11_familiar_19 (by decide) ?_
      refine AW.is_n [some (.ref 101), some (.int x1), some (.int x2), some (.int 1), none] dX11_familiar_20 (by decide) rfl rfl ?_
      refine AW.iconst 0 dX11_familiar_21 (by decide) ?_
      refine AW.is [some (.ref 101), some (.int x1), some (.int x2), some (.int 1), some (.int 0)] dX11_familiar_22 (by decide) rfl rfl ?_
      refine gL_X11_familiar_24 hK hd hm h (fun a5 h => ?_)
      refine AW.iload_n dX11_familiar_61 rfl ?_
      refine AW.iload_n dX11_familiar_62 rfl ?_
      refine AW.if_eq 72 dX11_familiar_63 (by decide) (fun hc63 => ?_) (fun hc63 => ?_)
      · replace h := g_pos hc63 h
        refine AW.iconst 0 dX11_familiar_72 (by decide) ?_
        refine AW.ior dX11_familiar_73 ?_
        obtain ⟨a6, ea6, h⟩ := g_letE h
        refine AW.namE ea6 ?_
        refine AW.is_n [some (.ref 101), some (.int a6), some (.int x2), some (.int a5), none] dX11_familiar_74 (by decide) rfl rfl ?_
        refine AW.incE 1 (by decide) [some (.ref 101), some (.int a6), some (.int (x2 + 1)), some (.int a5), none] dX11_familiar_75 rfl (by decide) rfl rfl ?_
        refine AW.goto 9 dX11_familiar_78 (by decide) ?_
        refine AW.mask [3] [some (.ref 101), some (.int a6), some (.int (x2 + 1)), none, none] rfl ?_
        exact ih h
      · replace h := g_neg hc63 h
        refine AW.iconst 1 dX11_familiar_66 (by decide) ?_
        refine AW.iload_n dX11_familiar_67 rfl ?_
        refine AW.ishl dX11_familiar_68 ?_
        refine AW.goto 73 dX11_familiar_69 (by decide) ?_
        refine AW.ior dX11_familiar_73 ?_
        obtain ⟨a7, ea7, h⟩ := g_letE h
        refine AW.namE ea7 ?_
        refine AW.is_n [some (.ref 101), some (.int a7), some (.int x2), some (.int a5), none] dX11_familiar_74 (by decide) rfl rfl ?_
        refine AW.incE 1 (by decide) [some (.ref 101), some (.int a7), some (.int (x2 + 1)), some (.int a5), none] dX11_familiar_75 rfl (by decide) rfl rfl ?_
        refine AW.goto 9 dX11_familiar_78 (by decide) ?_
        refine AW.mask [3] [some (.ref 101), some (.int a7), some (.int (x2 + 1)), none, none] rfl ?_
        exact ih h
set_option maxRecDepth 100000 in
set_option maxHeartbeats 4000000 in
theorem g_X11_familiar {G : am_G} (hK : k_OK G) {d : Nat} (hd : 3 ≤ d) {sh : List (Nat ⊕ (Nat × Nat))} {I : g_I} {R : Nat → Nat → Option Nat} {L : Nat → Nat → Int64} {g : Nat} (hm : k_Mod sh R) {r : Int32 × g_I} (h : b_X11_familiar I = some r) : AM G mX11_familiar d [.ref 101] (sh, I, R, L, g) (fun v w => v = some (.int r.1) ∧ w = (sh, r.2, R, L, g)) (fun _ _ => False) := by
  have hG := hK.1
  refine AM.of (n := 4) (by decide +kernel) (Nat.le_of_ble_eq_true rfl) ?_
  show AW G mX11_familiar d (fun v w => v = some (.int r.1) ∧ w = (sh, r.2, R, L, g)) (fun _ _ => False) 0 [some (.ref 101), none, none, none, none] [] (sh, I, R, L, g) 0 0
  unfold b_X11_familiar at h
  refine AW.aload_n dX11_familiar_0 rfl ?_
  refine AW.iconst 0 dX11_familiar_1 (by decide) ?_
  refine AW.putI (fX11_159 hG) rfl (vp_nar_int _) rfl (hm.1 0 _ rfl) dX11_familiar_2 ?_
  obtain ⟨I1, eI1, h⟩ := g_letE h
  refine AW.namIE eI1 ?_
  refine AW.iconst 0 dX11_familiar_5 (by decide) ?_
  refine AW.is_n [some (.ref 101), some (.int 0), none, none, none] dX11_familiar_6 (by decide) rfl rfl ?_
  refine AW.iconst 0 dX11_familiar_7 (by decide) ?_
  refine AW.is_n [some (.ref 101), some (.int 0), some (.int 0), none, none] dX11_familiar_8 (by decide) rfl rfl ?_
  refine gL_X11_familiar_9 hK hd hm h (fun a8 h => ?_)
  refine AW.iload_n dX11_familiar_81 rfl ?_
  exact AW.iret dX11_familiar_82 rfl (by decide) (by decide) (by cases h; exact ⟨rfl, rfl⟩)
theorem dX11_areStrangers_0 : decode cX11_areStrangers 0 = .ok (.iconst 0, 1) := by decide +kernel
theorem dX11_areStrangers_1 : decode cX11_areStrangers 1 = .ok (.istore_n 2, 1) := by decide +kernel
theorem dX11_areStrangers_2 : decode cX11_areStrangers 2 = .ok (.iload_n 2, 1) := by decide +kernel
theorem dX11_areStrangers_3 : decode cX11_areStrangers 3 = .ok (.aload_n 0, 1) := by decide +kernel
theorem dX11_areStrangers_4 : decode cX11_areStrangers 4 = .ok (.getfield 38, 3) := by decide +kernel
theorem dX11_areStrangers_7 : decode cX11_areStrangers 7 = .ok (.iconst 0, 1) := by decide +kernel
theorem dX11_areStrangers_8 : decode cX11_areStrangers 8 = .ok (.iaload, 1) := by decide +kernel
theorem dX11_areStrangers_9 : decode cX11_areStrangers 9 = .ok (.if_icmp .ge 59, 3) := by decide +kernel
theorem dX11_areStrangers_12 : decode cX11_areStrangers 12 = .ok (.iconst 0, 1) := by decide +kernel
theorem dX11_areStrangers_13 : decode cX11_areStrangers 13 = .ok (.istore_n 3, 1) := by decide +kernel
theorem dX11_areStrangers_14 : decode cX11_areStrangers 14 = .ok (.iload_n 3, 1) := by decide +kernel
theorem dX11_areStrangers_15 : decode cX11_areStrangers 15 = .ok (.aload_n 0, 1) := by decide +kernel
theorem dX11_areStrangers_16 : decode cX11_areStrangers 16 = .ok (.getfield 38, 3) := by decide +kernel
theorem dX11_areStrangers_19 : decode cX11_areStrangers 19 = .ok (.iconst 0, 1) := by decide +kernel
theorem dX11_areStrangers_20 : decode cX11_areStrangers 20 = .ok (.iaload, 1) := by decide +kernel
theorem dX11_areStrangers_21 : decode cX11_areStrangers 21 = .ok (.if_icmp .ge 41, 3) := by decide +kernel
theorem dX11_areStrangers_24 : decode cX11_areStrangers 24 = .ok (.iload_n 2, 1) := by decide +kernel
theorem dX11_areStrangers_25 : decode cX11_areStrangers 25 = .ok (.iload_n 3, 1) := by decide +kernel
theorem dX11_areStrangers_26 : decode cX11_areStrangers 26 = .ok (.if_icmp .eq 30, 3) := by decide +kernel
theorem dX11_areStrangers_29 : decode cX11_areStrangers 29 = .ok (.iload_n 1, 1) := by decide +kernel
theorem dX11_areStrangers_30 : decode cX11_areStrangers 30 = .ok (.iload_n 2, 1) := by decide +kernel
theorem dX11_areStrangers_31 : decode cX11_areStrangers 31 = .ok (.invokestatic 278, 3) := by decide +kernel
theorem dX11_areStrangers_34 : decode cX11_areStrangers 34 = .ok (.ifCond .eq 22, 3) := by decide +kernel
theorem dX11_areStrangers_37 : decode cX11_areStrangers 37 = .ok (.iload_n 1, 1) := by decide +kernel
theorem dX11_areStrangers_38 : decode cX11_areStrangers 38 = .ok (.iload_n 3, 1) := by decide +kernel
theorem dX11_areStrangers_39 : decode cX11_areStrangers 39 = .ok (.invokestatic 278, 3) := by decide +kernel
theorem dX11_areStrangers_42 : decode cX11_areStrangers 42 = .ok (.ifCond .eq 14, 3) := by decide +kernel
theorem dX11_areStrangers_45 : decode cX11_areStrangers 45 = .ok (.aload_n 0, 1) := by decide +kernel
theorem dX11_areStrangers_46 : decode cX11_areStrangers 46 = .ok (.iload_n 2, 1) := by decide +kernel
theorem dX11_areStrangers_47 : decode cX11_areStrangers 47 = .ok (.iload_n 3, 1) := by decide +kernel
theorem dX11_areStrangers_48 : decode cX11_areStrangers 48 = .ok (.invokevirtual 349, 3) := by decide +kernel
theorem dX11_areStrangers_51 : decode cX11_areStrangers 51 = .ok (.ifCond .eq 5, 3) := by decide +kernel
theorem dX11_areStrangers_54 : decode cX11_areStrangers 54 = .ok (.iconst 0, 1) := by decide +kernel
theorem dX11_areStrangers_55 : decode cX11_areStrangers 55 = .ok (.ireturn, 1) := by decide +kernel
theorem dX11_areStrangers_56 : decode cX11_areStrangers 56 = .ok (.iinc 3 1, 3) := by decide +kernel
theorem dX11_areStrangers_59 : decode cX11_areStrangers 59 = .ok (.goto (-45), 3) := by decide +kernel
theorem dX11_areStrangers_62 : decode cX11_areStrangers 62 = .ok (.iinc 2 1, 3) := by decide +kernel
theorem dX11_areStrangers_65 : decode cX11_areStrangers 65 = .ok (.goto (-63), 3) := by decide +kernel
theorem dX11_areStrangers_68 : decode cX11_areStrangers 68 = .ok (.iconst 1, 1) := by decide +kernel
theorem dX11_areStrangers_69 : decode cX11_areStrangers 69 = .ok (.ireturn, 1) := by decide +kernel
def b_X11_areStrangers_L14 (I : g_I) (y1 : Int32) (y2 : Int32) (K : Unit → Option (Bool)) : Nat → Int32 → Option (Bool)
  | 0, _ => none
  | f + 1, x3 => if (I 104 0) ≤ x3 then K () else if y2 = x3 then b_X11_areStrangers_L14 I y1 y2 K f (x3 + 1) else if b_X11_isOf y1 y2 = true then if b_X11_isOf y1 x3 = true then g_bind (b_X11_isKnown I y2 x3) fun t1 => if t1 = true then some false else b_X11_areStrangers_L14 I y1 y2 K f (x3 + 1) else b_X11_areStrangers_L14 I y1 y2 K f (x3 + 1) else b_X11_areStrangers_L14 I y1 y2 K f (x3 + 1)
def b_X11_areStrangers_L2 (I : g_I) (y1 : Int32) (K : Unit → Option (Bool)) : Nat → Int32 → Option (Bool)
  | 0, _ => none
  | f + 1, x2 => if (I 104 0) ≤ x2 then K () else b_X11_areStrangers_L14 I y1 x2 (fun (_ : Unit) => b_X11_areStrangers_L2 I y1 K f (x2 + 1)) fu 0
def b_X11_areStrangers (I : g_I) (x1 : Int32) : Option (Bool) :=
  b_X11_areStrangers_L2 I x1 (fun (_ : Unit) => some true) fu 0
set_option maxRecDepth 100000 in
set_option maxHeartbeats 4000000 in
theorem gL_X11_areStrangers_14 {G : am_G} (hK : k_OK G) {d : Nat} (hd : 3 ≤ d) {sh : List (Nat ⊕ (Nat × Nat))} {I : g_I} {R : Nat → Nat → Option Nat} {L : Nat → Nat → Int64} {g : Nat} (hm : k_Mod sh R) {y1 : Int32} {y2 : Int32} {K : Unit → Option (Bool)} {x3 : Int32} {f : Nat} {r : Bool} (h : b_X11_areStrangers_L14 I y1 y2 K f x3 = some r) (hk : ∀ (_ : Unit), K () = some r → AW G mX11_areStrangers d (fun v w => v = some (.int (kb r)) ∧ w = (sh, I, R, L, g)) (fun _ _ => False) 62 [some (.ref 101), some (.int y1), some (.int y2), none] [] (sh, I, R, L, g) 0 0) : AW G mX11_areStrangers d (fun v w => v = some (.int (kb r)) ∧ w = (sh, I, R, L, g)) (fun _ _ => False) 14 [some (.ref 101), some (.int y1), some (.int y2), some (.int x3)] [] (sh, I, R, L, g) 0 0 := by
  have hG := hK.1
  induction f generalizing x3 with
  | zero => rw [b_X11_areStrangers_L14] at h; cases h
  | succ f ih =>
    rw [b_X11_areStrangers_L14] at h
    refine AW.iload_n dX11_areStrangers_14 rfl ?_
    refine AW.aload_n dX11_areStrangers_15 rfl ?_
    refine AW.getR (c' := 104) (fX11_38 hG).r rfl (hm.1 0 _ rfl) (hm.2 (0, 3, 3) (by decide)) dX11_areStrangers_16 ?_
    refine AW.iconst 0 dX11_areStrangers_19 (by decide) ?_
    refine AW.iald (hm.1 3 _ rfl) (by unfold vp_in; decide) dX11_areStrangers_20 ?_
    show AW G _ d _ _ 21 [some (.ref 101), some (.int y1), some (.int y2), some (.int x3)] [.int (I 104 0), .int x3] (sh, I, R, L, g) 0 0
    refine AW.icmp_ge 62 dX11_areStrangers_21 (by decide) (fun hc21 => ?_) (fun hc21 => ?_)
    · replace h := g_pos hc21 h
      refine AW.mask [3] [some (.ref 101), some (.int y1), some (.int y2), none] rfl ?_
      exact hk () h
    · replace h := g_neg hc21 h
      refine AW.iload_n dX11_areStrangers_24 rfl ?_
      refine AW.iload_n dX11_areStrangers_25 rfl ?_
      refine AW.icmp_eq 56 dX11_areStrangers_26 (by decide) (fun hc26 => ?_) (fun hc26 => ?_)
      · replace h := g_pos hc26 h
        refine AW.incE 1 (by decide) [some (.ref 101), some (.int y1), some (.int y2), some (.int (x3 + 1))] dX11_areStrangers_56 rfl (by decide) rfl rfl ?_
        refine AW.goto 14 dX11_areStrangers_59 (by decide) ?_
        exact ih h
      · replace h := g_neg hc26 h
        refine AW.iload_n dX11_areStrangers_29 rfl ?_
        refine AW.iload_n dX11_areStrangers_30 rfl ?_
        refine AW.callS (As := [.int y1, .int y2]) hG.2.2 (vX11_278 hG) (g_X11_isOf hK (d := 0) (Nat.le_refl _)) (by omega) dX11_areStrangers_31 rfl rfl (Nat.le_of_ble_eq_true rfl) (fun v w9 hq9 h09 => by obtain ⟨rfl, rfl⟩ := hq9; exact ⟨h09, rfl⟩) (by decide) (by decide) (fun _ _ hx => hx) (fun v9 w9 hq9 => ?_)
        obtain ⟨rfl, rfl⟩ := hq9
        show AW G _ d _ _ 34 [some (.ref 101), some (.int y1), some (.int y2), some (.int x3)] [.int (kb (b_X11_isOf y1 y2))] (sh, I, R, L, g) 0 0
        refine AW.if_eq 56 dX11_areStrangers_34 (by decide) (fun hc34 => ?_) (fun hc34 => ?_)
        · replace h := g_neg (g_kb0 hc34) h
          refine AW.incE 1 (by decide) [some (.ref 101), some (.int y1), some (.int y2), some (.int (x3 + 1))] dX11_areStrangers_56 rfl (by decide) rfl rfl ?_
          refine AW.goto 14 dX11_areStrangers_59 (by decide) ?_
          exact ih h
        · replace h := g_pos (kb_1.mp hc34) h
          refine AW.iload_n dX11_areStrangers_37 rfl ?_
          refine AW.iload_n dX11_areStrangers_38 rfl ?_
          refine AW.callS (As := [.int y1, .int x3]) hG.2.2 (vX11_278 hG) (g_X11_isOf hK (d := 0) (Nat.le_refl _)) (by omega) dX11_areStrangers_39 rfl rfl (Nat.le_of_ble_eq_true rfl) (fun v w9 hq9 h09 => by obtain ⟨rfl, rfl⟩ := hq9; exact ⟨h09, rfl⟩) (by decide) (by decide) (fun _ _ hx => hx) (fun v9 w9 hq9 => ?_)
          obtain ⟨rfl, rfl⟩ := hq9
          show AW G _ d _ _ 42 [some (.ref 101), some (.int y1), some (.int y2), some (.int x3)] [.int (kb (b_X11_isOf y1 x3))] (sh, I, R, L, g) 0 0
          refine AW.if_eq 56 dX11_areStrangers_42 (by decide) (fun hc42 => ?_) (fun hc42 => ?_)
          · replace h := g_neg (g_kb0 hc42) h
            refine AW.incE 1 (by decide) [some (.ref 101), some (.int y1), some (.int y2), some (.int (x3 + 1))] dX11_areStrangers_56 rfl (by decide) rfl rfl ?_
            refine AW.goto 14 dX11_areStrangers_59 (by decide) ?_
            exact ih h
          · replace h := g_pos (kb_1.mp hc42) h
            refine AW.aload_n dX11_areStrangers_45 rfl ?_
            refine AW.iload_n dX11_areStrangers_46 rfl ?_
            refine AW.iload_n dX11_areStrangers_47 rfl ?_
            obtain ⟨t1, hx3, h⟩ := g_bindE h
            refine AW.callV (b := 101) (As := [.int y2, .int x3]) hG.2.2 (vX11_349 hG) (hm.1 0 _ rfl) (g_X11_isKnown hK (d := 2) (Nat.le_refl _) hm hx3) (by omega) dX11_areStrangers_48 rfl rfl (Nat.le_of_ble_eq_true rfl) (fun v w9 hq9 h09 => by obtain ⟨rfl, rfl⟩ := hq9; exact ⟨h09, rfl⟩) (by decide) (by decide) (fun _ _ hx => hx) (fun v9 w9 hq9 => ?_)
            obtain ⟨rfl, rfl⟩ := hq9
            show AW G _ d _ _ 51 [some (.ref 101), some (.int y1), some (.int y2), some (.int x3)] [.int (kb t1)] (sh, I, R, L, g) 0 0
            refine AW.if_eq 56 dX11_areStrangers_51 (by decide) (fun hc51 => ?_) (fun hc51 => ?_)
            · replace h := g_neg (g_kb0 hc51) h
              refine AW.incE 1 (by decide) [some (.ref 101), some (.int y1), some (.int y2), some (.int (x3 + 1))] dX11_areStrangers_56 rfl (by decide) rfl rfl ?_
              refine AW.goto 14 dX11_areStrangers_59 (by decide) ?_
              exact ih h
            · replace h := g_pos (kb_1.mp hc51) h
              refine AW.iconst 0 dX11_areStrangers_54 (by decide) ?_
              exact AW.zret dX11_areStrangers_55 rfl (by decide) (by decide) (by decide) (by cases h; exact ⟨rfl, rfl⟩)
set_option maxRecDepth 100000 in
set_option maxHeartbeats 4000000 in
theorem gL_X11_areStrangers_2 {G : am_G} (hK : k_OK G) {d : Nat} (hd : 3 ≤ d) {sh : List (Nat ⊕ (Nat × Nat))} {I : g_I} {R : Nat → Nat → Option Nat} {L : Nat → Nat → Int64} {g : Nat} (hm : k_Mod sh R) {y1 : Int32} {K : Unit → Option (Bool)} {x2 : Int32} {f : Nat} {r : Bool} (h : b_X11_areStrangers_L2 I y1 K f x2 = some r) (hk : ∀ (_ : Unit), K () = some r → AW G mX11_areStrangers d (fun v w => v = some (.int (kb r)) ∧ w = (sh, I, R, L, g)) (fun _ _ => False) 68 [none, none, none, none] [] (sh, I, R, L, g) 0 0) : AW G mX11_areStrangers d (fun v w => v = some (.int (kb r)) ∧ w = (sh, I, R, L, g)) (fun _ _ => False) 2 [some (.ref 101), some (.int y1), some (.int x2), none] [] (sh, I, R, L, g) 0 0 := by
  have hG := hK.1
  induction f generalizing x2 with
  | zero => rw [b_X11_areStrangers_L2] at h; cases h
  | succ f ih =>
    rw [b_X11_areStrangers_L2] at h
    refine AW.iload_n dX11_areStrangers_2 rfl ?_
    refine AW.aload_n dX11_areStrangers_3 rfl ?_
    refine AW.getR (c' := 104) (fX11_38 hG).r rfl (hm.1 0 _ rfl) (hm.2 (0, 3, 3) (by decide)) dX11_areStrangers_4 ?_
    refine AW.iconst 0 dX11_areStrangers_7 (by decide) ?_
    refine AW.iald (hm.1 3 _ rfl) (by unfold vp_in; decide) dX11_areStrangers_8 ?_
    show AW G _ d _ _ 9 [some (.ref 101), some (.int y1), some (.int x2), none] [.int (I 104 0), .int x2] (sh, I, R, L, g) 0 0
    refine AW.icmp_ge 68 dX11_areStrangers_9 (by decide) (fun hc9 => ?_) (fun hc9 => ?_)
    · replace h := g_pos hc9 h
      refine AW.mask [0, 1, 2] [none, none, none, none] rfl ?_
      exact hk () h
    · replace h := g_neg hc9 h
      refine AW.iconst 0 dX11_areStrangers_12 (by decide) ?_
      refine AW.is_n [some (.ref 101), some (.int y1), some (.int x2), some (.int 0)] dX11_areStrangers_13 (by decide) rfl rfl ?_
      refine gL_X11_areStrangers_14 hK hd hm h (fun _ h => ?_)
      refine AW.incE 1 (by decide) [some (.ref 101), some (.int y1), some (.int (x2 + 1)), none] dX11_areStrangers_62 rfl (by decide) rfl rfl ?_
      refine AW.goto 2 dX11_areStrangers_65 (by decide) ?_
      exact ih h
set_option maxRecDepth 100000 in
set_option maxHeartbeats 4000000 in
theorem g_X11_areStrangers {G : am_G} (hK : k_OK G) {d : Nat} (hd : 3 ≤ d) {sh : List (Nat ⊕ (Nat × Nat))} {I : g_I} {R : Nat → Nat → Option Nat} {L : Nat → Nat → Int64} {g : Nat} (hm : k_Mod sh R) {x1 : Int32} {r : Bool} (h : b_X11_areStrangers I x1 = some r) : AM G mX11_areStrangers d [.ref 101, .int x1] (sh, I, R, L, g) (fun v w => v = some (.int (kb r)) ∧ w = (sh, I, R, L, g)) (fun _ _ => False) := by
  have hG := hK.1
  refine AM.of (n := 2) (by decide +kernel) (Nat.le_of_ble_eq_true rfl) ?_
  show AW G mX11_areStrangers d (fun v w => v = some (.int (kb r)) ∧ w = (sh, I, R, L, g)) (fun _ _ => False) 0 [some (.ref 101), some (.int x1), none, none] [] (sh, I, R, L, g) 0 0
  unfold b_X11_areStrangers at h
  refine AW.iconst 0 dX11_areStrangers_0 (by decide) ?_
  refine AW.is_n [some (.ref 101), some (.int x1), some (.int 0), none] dX11_areStrangers_1 (by decide) rfl rfl ?_
  refine gL_X11_areStrangers_2 hK hd hm h (fun _ h => ?_)
  refine AW.iconst 1 dX11_areStrangers_68 (by decide) ?_
  exact AW.zret dX11_areStrangers_69 rfl (by decide) (by decide) (by decide) (by cases h; exact ⟨rfl, rfl⟩)
theorem dX11_ring_0 : decode cX11_ring 0 = .ok (.aload_n 0, 1) := by decide +kernel
theorem dX11_ring_1 : decode cX11_ring 1 = .ok (.iconst 0, 1) := by decide +kernel
theorem dX11_ring_2 : decode cX11_ring 2 = .ok (.putfield 159, 3) := by decide +kernel
theorem dX11_ring_5 : decode cX11_ring 5 = .ok (.iconst 0, 1) := by decide +kernel
theorem dX11_ring_6 : decode cX11_ring 6 = .ok (.istore_n 1, 1) := by decide +kernel
theorem dX11_ring_7 : decode cX11_ring 7 = .ok (.iconst 0, 1) := by decide +kernel
theorem dX11_ring_8 : decode cX11_ring 8 = .ok (.istore_n 2, 1) := by decide +kernel
theorem dX11_ring_9 : decode cX11_ring 9 = .ok (.iload_n 2, 1) := by decide +kernel
theorem dX11_ring_10 : decode cX11_ring 10 = .ok (.iconst 1, 1) := by decide +kernel
theorem dX11_ring_11 : decode cX11_ring 11 = .ok (.aload_n 0, 1) := by decide +kernel
theorem dX11_ring_12 : decode cX11_ring 12 = .ok (.getfield 38, 3) := by decide +kernel
theorem dX11_ring_15 : decode cX11_ring 15 = .ok (.iconst 0, 1) := by decide +kernel
theorem dX11_ring_16 : decode cX11_ring 16 = .ok (.iaload, 1) := by decide +kernel
theorem dX11_ring_17 : decode cX11_ring 17 = .ok (.ishl, 1) := by decide +kernel
theorem dX11_ring_18 : decode cX11_ring 18 = .ok (.if_icmp .ge 30, 3) := by decide +kernel
theorem dX11_ring_21 : decode cX11_ring 21 = .ok (.iload_n 2, 1) := by decide +kernel
theorem dX11_ring_22 : decode cX11_ring 22 = .ok (.invokestatic 421, 3) := by decide +kernel
theorem dX11_ring_25 : decode cX11_ring 25 = .ok (.iload_n 1, 1) := by decide +kernel
theorem dX11_ring_26 : decode cX11_ring 26 = .ok (.invokestatic 421, 3) := by decide +kernel
theorem dX11_ring_29 : decode cX11_ring 29 = .ok (.if_icmp .le 13, 3) := by decide +kernel
theorem dX11_ring_32 : decode cX11_ring 32 = .ok (.aload_n 0, 1) := by decide +kernel
theorem dX11_ring_33 : decode cX11_ring 33 = .ok (.iload_n 2, 1) := by decide +kernel
theorem dX11_ring_34 : decode cX11_ring 34 = .ok (.invokevirtual 453, 3) := by decide +kernel
theorem dX11_ring_37 : decode cX11_ring 37 = .ok (.ifCond .eq 5, 3) := by decide +kernel
theorem dX11_ring_40 : decode cX11_ring 40 = .ok (.iload_n 2, 1) := by decide +kernel
theorem dX11_ring_41 : decode cX11_ring 41 = .ok (.istore_n 1, 1) := by decide +kernel
theorem dX11_ring_42 : decode cX11_ring 42 = .ok (.iinc 2 1, 3) := by decide +kernel
theorem dX11_ring_45 : decode cX11_ring 45 = .ok (.goto (-36), 3) := by decide +kernel
theorem dX11_ring_48 : decode cX11_ring 48 = .ok (.iload_n 1, 1) := by decide +kernel
theorem dX11_ring_49 : decode cX11_ring 49 = .ok (.ireturn, 1) := by decide +kernel
def b_X11_ring_L9 (I : g_I) (K : Int32 → Option (Int32 × g_I)) : Nat → Int32 → Int32 → Option (Int32 × g_I)
  | 0, _, _ => none
  | f + 1, x1, x2 => if ((1 : Int32) <<< ((I 104 0) &&& 31)) ≤ x2 then K x1 else g_bind (b_X11_bitsOf x2) fun a2 => g_bind (b_X11_bitsOf x1) fun a5 => if a2 ≤ a5 then b_X11_ring_L9 I K f x1 (x2 + 1) else g_bind (b_X11_areStrangers I x2) fun t8 => if t8 = true then b_X11_ring_L9 I K f x2 (x2 + 1) else b_X11_ring_L9 I K f x1 (x2 + 1)
def b_X11_ring (I : g_I) : Option (Int32 × g_I) :=
  g_let (am_up I 101 2 0) fun I1 => b_X11_ring_L9 I1 (fun (a11 : Int32) => some (a11, I1)) fu 0 0
set_option maxRecDepth 100000 in
set_option maxHeartbeats 4000000 in
theorem gL_X11_ring_9 {G : am_G} (hK : k_OK G) {d : Nat} (hd : 4 ≤ d) {sh : List (Nat ⊕ (Nat × Nat))} {I : g_I} {R : Nat → Nat → Option Nat} {L : Nat → Nat → Int64} {g : Nat} (hm : k_Mod sh R) {K : Int32 → Option (Int32 × g_I)} {x1 : Int32} {x2 : Int32} {f : Nat} {r : Int32 × g_I} (h : b_X11_ring_L9 I K f x1 x2 = some r) (hk : ∀ (u1 : Int32), K u1 = some r → AW G mX11_ring d (fun v w => v = some (.int r.1) ∧ w = (sh, r.2, R, L, g)) (fun _ _ => False) 48 [none, some (.int u1), none] [] (sh, I, R, L, g) 0 0) : AW G mX11_ring d (fun v w => v = some (.int r.1) ∧ w = (sh, r.2, R, L, g)) (fun _ _ => False) 9 [some (.ref 101), some (.int x1), some (.int x2)] [] (sh, I, R, L, g) 0 0 := by
  have hG := hK.1
  induction f generalizing x1 x2 with
  | zero => rw [b_X11_ring_L9] at h; cases h
  | succ f ih =>
    rw [b_X11_ring_L9] at h
    refine AW.iload_n dX11_ring_9 rfl ?_
    refine AW.iconst 1 dX11_ring_10 (by decide) ?_
    refine AW.aload_n dX11_ring_11 rfl ?_
    refine AW.getR (c' := 104) (fX11_38 hG).r rfl (hm.1 0 _ rfl) (hm.2 (0, 3, 3) (by decide)) dX11_ring_12 ?_
    refine AW.iconst 0 dX11_ring_15 (by decide) ?_
    refine AW.iald (hm.1 3 _ rfl) (by unfold vp_in; decide) dX11_ring_16 ?_
    show AW G _ d _ _ 17 [some (.ref 101), some (.int x1), some (.int x2)] [.int (I 104 0), .int 1, .int x2] (sh, I, R, L, g) 0 0
    refine AW.ishl dX11_ring_17 ?_
    refine AW.icmp_ge 48 dX11_ring_18 (by decide) (fun hc18 => ?_) (fun hc18 => ?_)
    · replace h := g_pos hc18 h
      refine AW.mask [0, 2] [none, some (.int x1), none] rfl ?_
      exact hk _ h
    · replace h := g_neg hc18 h
      refine AW.iload_n dX11_ring_21 rfl ?_
      obtain ⟨a2, hx4, h⟩ := g_bindE h
      refine AW.callS (As := [.int x2]) hG.2.2 (vX11_421 hG) (g_X11_bitsOf hK (d := 0) (Nat.le_refl _) hx4) (by omega) dX11_ring_22 rfl rfl (Nat.le_of_ble_eq_true rfl) (fun v w9 hq9 h09 => by obtain ⟨rfl, rfl⟩ := hq9; exact ⟨h09, rfl⟩) (by decide) (by decide) (fun _ _ hx => hx) (fun v9 w9 hq9 => ?_)
      obtain ⟨rfl, rfl⟩ := hq9
      show AW G _ d _ _ 25 [some (.ref 101), some (.int x1), some (.int x2)] [.int a2] (sh, I, R, L, g) 0 0
      refine AW.iload_n dX11_ring_25 rfl ?_
      obtain ⟨a5, hx7, h⟩ := g_bindE h
      refine AW.callS (As := [.int x1]) hG.2.2 (vX11_421 hG) (g_X11_bitsOf hK (d := 0) (Nat.le_refl _) hx7) (by omega) dX11_ring_26 rfl rfl (Nat.le_of_ble_eq_true rfl) (fun v w9 hq9 h09 => by obtain ⟨rfl, rfl⟩ := hq9; exact ⟨h09, rfl⟩) (by decide) (by decide) (fun _ _ hx => hx) (fun v9 w9 hq9 => ?_)
      obtain ⟨rfl, rfl⟩ := hq9
      show AW G _ d _ _ 29 [some (.ref 101), some (.int x1), some (.int x2)] [.int a5, .int a2] (sh, I, R, L, g) 0 0
      refine AW.icmp_le 42 dX11_ring_29 (by decide) (fun hc29 => ?_) (fun hc29 => ?_)
      · replace h := g_pos hc29 h
        refine AW.incE 1 (by decide) [some (.ref 101), some (.int x1), some (.int (x2 + 1))] dX11_ring_42 rfl (by decide) rfl rfl ?_
        refine AW.goto 9 dX11_ring_45 (by decide) ?_
        exact ih h
      · replace h := g_neg hc29 h
        refine AW.aload_n dX11_ring_32 rfl ?_
        refine AW.iload_n dX11_ring_33 rfl ?_
        obtain ⟨t8, hx10, h⟩ := g_bindE h
        refine AW.callV (b := 101) (As := [.int x2]) hG.2.2 (vX11_453 hG) (hm.1 0 _ rfl) (g_X11_areStrangers hK (d := 3) (Nat.le_refl _) hm hx10) (by omega) dX11_ring_34 rfl rfl (Nat.le_of_ble_eq_true rfl) (fun v w9 hq9 h09 => by obtain ⟨rfl, rfl⟩ := hq9; exact ⟨h09, rfl⟩) (by decide) (by decide) (fun _ _ hx => hx) (fun v9 w9 hq9 => ?_)
        obtain ⟨rfl, rfl⟩ := hq9
        show AW G _ d _ _ 37 [some (.ref 101), some (.int x1), some (.int x2)] [.int (kb t8)] (sh, I, R, L, g) 0 0
        refine AW.if_eq 42 dX11_ring_37 (by decide) (fun hc37 => ?_) (fun hc37 => ?_)
        · replace h := g_neg (g_kb0 hc37) h
          refine AW.incE 1 (by decide) [some (.ref 101), some (.int x1), some (.int (x2 + 1))] dX11_ring_42 rfl (by decide) rfl rfl ?_
          refine AW.goto 9 dX11_ring_45 (by decide) ?_
          exact ih h
        · replace h := g_pos (kb_1.mp hc37) h
          refine AW.iload_n dX11_ring_40 rfl ?_
          refine AW.is_n [some (.ref 101), some (.int x2), some (.int x2)] dX11_ring_41 (by decide) rfl rfl ?_
          refine AW.incE 1 (by decide) [some (.ref 101), some (.int x2), some (.int (x2 + 1))] dX11_ring_42 rfl (by decide) rfl rfl ?_
          refine AW.goto 9 dX11_ring_45 (by decide) ?_
          exact ih h
set_option maxRecDepth 100000 in
set_option maxHeartbeats 4000000 in
theorem g_X11_ring {G : am_G} (hK : k_OK G) {d : Nat} (hd : 4 ≤ d) {sh : List (Nat ⊕ (Nat × Nat))} {I : g_I} {R : Nat → Nat → Option Nat} {L : Nat → Nat → Int64} {g : Nat} (hm : k_Mod sh R) {r : Int32 × g_I} (h : b_X11_ring I = some r) : AM G mX11_ring d [.ref 101] (sh, I, R, L, g) (fun v w => v = some (.int r.1) ∧ w = (sh, r.2, R, L, g)) (fun _ _ => False) := by
  have hG := hK.1
  refine AM.of (n := 2) (by decide +kernel) (Nat.le_of_ble_eq_true rfl) ?_
  show AW G mX11_ring d (fun v w => v = some (.int r.1) ∧ w = (sh, r.2, R, L, g)) (fun _ _ => False) 0 [some (.ref 101), none, none] [] (sh, I, R, L, g) 0 0
  unfold b_X11_ring at h
  refine AW.aload_n dX11_ring_0 rfl ?_
  refine AW.iconst 0 dX11_ring_1 (by decide) ?_
  refine AW.putI (fX11_159 hG) rfl (vp_nar_int _) rfl (hm.1 0 _ rfl) dX11_ring_2 ?_
  obtain ⟨I1, eI1, h⟩ := g_letE h
  refine AW.namIE eI1 ?_
  refine AW.iconst 0 dX11_ring_5 (by decide) ?_
  refine AW.is_n [some (.ref 101), some (.int 0), none] dX11_ring_6 (by decide) rfl rfl ?_
  refine AW.iconst 0 dX11_ring_7 (by decide) ?_
  refine AW.is_n [some (.ref 101), some (.int 0), some (.int 0)] dX11_ring_8 (by decide) rfl rfl ?_
  refine gL_X11_ring_9 hK hd hm h (fun a11 h => ?_)
  refine AW.iload_n dX11_ring_48 rfl ?_
  exact AW.iret dX11_ring_49 rfl (by decide) (by decide) (by cases h; exact ⟨rfl, rfl⟩)
theorem dX11_cuttable_0 : decode cX11_cuttable 0 = .ok (.iconst 0, 1) := by decide +kernel
theorem dX11_cuttable_1 : decode cX11_cuttable 1 = .ok (.istore_n 2, 1) := by decide +kernel
theorem dX11_cuttable_2 : decode cX11_cuttable 2 = .ok (.iconst 0, 1) := by decide +kernel
theorem dX11_cuttable_3 : decode cX11_cuttable 3 = .ok (.istore_n 3, 1) := by decide +kernel
theorem dX11_cuttable_4 : decode cX11_cuttable 4 = .ok (.iload_n 3, 1) := by decide +kernel
theorem dX11_cuttable_5 : decode cX11_cuttable 5 = .ok (.aload_n 0, 1) := by decide +kernel
theorem dX11_cuttable_6 : decode cX11_cuttable 6 = .ok (.getfield 38, 3) := by decide +kernel
theorem dX11_cuttable_9 : decode cX11_cuttable 9 = .ok (.iconst 1, 1) := by decide +kernel
theorem dX11_cuttable_10 : decode cX11_cuttable 10 = .ok (.iaload, 1) := by decide +kernel
theorem dX11_cuttable_11 : decode cX11_cuttable 11 = .ok (.if_icmp .ge 37, 3) := by decide +kernel
theorem dX11_cuttable_14 : decode cX11_cuttable 14 = .ok (.iload_n 1, 1) := by decide +kernel
theorem dX11_cuttable_15 : decode cX11_cuttable 15 = .ok (.ifCond .ne 13, 3) := by decide +kernel
theorem dX11_cuttable_18 : decode cX11_cuttable 18 = .ok (.aload_n 0, 1) := by decide +kernel
theorem dX11_cuttable_19 : decode cX11_cuttable 19 = .ok (.getfield 83, 3) := by decide +kernel
theorem dX11_cuttable_22 : decode cX11_cuttable 22 = .ok (.iload_n 3, 1) := by decide +kernel
theorem dX11_cuttable_23 : decode cX11_cuttable 23 = .ok (.iaload, 1) := by decide +kernel
theorem dX11_cuttable_24 : decode cX11_cuttable 24 = .ok (.iconst (-1), 1) := by decide +kernel
theorem dX11_cuttable_25 : decode cX11_cuttable 25 = .ok (.if_icmp .ne 17, 3) := by decide +kernel
theorem dX11_cuttable_28 : decode cX11_cuttable 28 = .ok (.aload_n 0, 1) := by decide +kernel
theorem dX11_cuttable_29 : decode cX11_cuttable 29 = .ok (.iload_n 3, 1) := by decide +kernel
theorem dX11_cuttable_30 : decode cX11_cuttable 30 = .ok (.invokevirtual 456, 3) := by decide +kernel
theorem dX11_cuttable_33 : decode cX11_cuttable 33 = .ok (.ifCond .eq 9, 3) := by decide +kernel
theorem dX11_cuttable_36 : decode cX11_cuttable 36 = .ok (.iload_n 2, 1) := by decide +kernel
theorem dX11_cuttable_37 : decode cX11_cuttable 37 = .ok (.iconst 1, 1) := by decide +kernel
theorem dX11_cuttable_38 : decode cX11_cuttable 38 = .ok (.iload_n 3, 1) := by decide +kernel
theorem dX11_cuttable_39 : decode cX11_cuttable 39 = .ok (.ishl, 1) := by decide +kernel
theorem dX11_cuttable_40 : decode cX11_cuttable 40 = .ok (.ior, 1) := by decide +kernel
theorem dX11_cuttable_41 : decode cX11_cuttable 41 = .ok (.istore_n 2, 1) := by decide +kernel
theorem dX11_cuttable_42 : decode cX11_cuttable 42 = .ok (.iinc 3 1, 3) := by decide +kernel
theorem dX11_cuttable_45 : decode cX11_cuttable 45 = .ok (.goto (-41), 3) := by decide +kernel
theorem dX11_cuttable_48 : decode cX11_cuttable 48 = .ok (.iload_n 2, 1) := by decide +kernel
theorem dX11_cuttable_49 : decode cX11_cuttable 49 = .ok (.ireturn, 1) := by decide +kernel
def b_X11_cuttable_L4 (I : g_I) (y1 : Int32) (K : Int32 → Option (Int32)) : Nat → Int32 → Int32 → Option (Int32)
  | 0, _, _ => none
  | f + 1, x2, x3 => g_let (fun (z2 : Int32) (z3 : Int32) => g_bind (b_X11_cutters I z3) fun a1 => if a1 = 0 then b_X11_cuttable_L4 I y1 K f z2 (z3 + 1) else g_let (z2 ||| ((1 : Int32) <<< (z3 &&& 31))) fun a4 => b_X11_cuttable_L4 I y1 K f a4 (z3 + 1)) fun J28 => if (I 104 1) ≤ x3 then K x2 else if y1 = 0 then if g_in x3 6 = true then if (I 118 x3.toNatClampNeg) = (-1) then J28 x2 x3 else b_X11_cuttable_L4 I y1 K f x2 (x3 + 1) else none else J28 x2 x3
def b_X11_cuttable (I : g_I) (x1 : Int32) : Option (Int32) :=
  b_X11_cuttable_L4 I x1 (fun (a5 : Int32) => some a5) fu 0 0
set_option maxRecDepth 100000 in
set_option maxHeartbeats 4000000 in
theorem gL_X11_cuttable_4 {G : am_G} (hK : k_OK G) {d : Nat} (hd : 7 ≤ d) {sh : List (Nat ⊕ (Nat × Nat))} {I : g_I} {R : Nat → Nat → Option Nat} {L : Nat → Nat → Int64} {g : Nat} (hm : k_Mod sh R) {y1 : Int32} {K : Int32 → Option (Int32)} {x2 : Int32} {x3 : Int32} {f : Nat} {r : Int32} (h : b_X11_cuttable_L4 I y1 K f x2 x3 = some r) (hk : ∀ (u2 : Int32), K u2 = some r → AW G mX11_cuttable d (fun v w => v = some (.int r) ∧ w = (sh, I, R, L, g)) (fun _ _ => False) 48 [none, none, some (.int u2), none] [] (sh, I, R, L, g) 0 0) : AW G mX11_cuttable d (fun v w => v = some (.int r) ∧ w = (sh, I, R, L, g)) (fun _ _ => False) 4 [some (.ref 101), some (.int y1), some (.int x2), some (.int x3)] [] (sh, I, R, L, g) 0 0 := by
  have hG := hK.1
  induction f generalizing x2 x3 with
  | zero => rw [b_X11_cuttable_L4] at h; cases h
  | succ f ih =>
    rw [b_X11_cuttable_L4] at h
    obtain ⟨J28, eJ28, h⟩ := g_letE h
    have H28 : ∀ (z2 : Int32) (z3 : Int32), J28 z2 z3 = some r → AW G mX11_cuttable d (fun v w => v = some (.int r) ∧ w = (sh, I, R, L, g)) (fun _ _ => False) 28 [some (.ref 101), some (.int y1), some (.int z2), some (.int z3)] [] (sh, I, R, L, g) 0 0 := by
      intro z2 z3 h
      rw [eJ28] at h
      refine AW.aload_n dX11_cuttable_28 rfl ?_
      refine AW.iload_n dX11_cuttable_29 rfl ?_
      obtain ⟨a1, hx3, h⟩ := g_bindE h
      refine AW.callV (b := 101) (As := [.int z3]) hG.2.2 (vX11_456 hG) (hm.1 0 _ rfl) (g_X11_cutters hK (d := 6) (Nat.le_refl _) hm hx3) (by omega) dX11_cuttable_30 rfl rfl (Nat.le_of_ble_eq_true rfl) (fun v w9 hq9 h09 => by obtain ⟨rfl, rfl⟩ := hq9; exact ⟨h09, rfl⟩) (by decide) (by decide) (fun _ _ hx => hx) (fun v9 w9 hq9 => ?_)
      obtain ⟨rfl, rfl⟩ := hq9
      show AW G _ d _ _ 33 [some (.ref 101), some (.int y1), some (.int z2), some (.int z3)] [.int a1] (sh, I, R, L, g) 0 0
      refine AW.if_eq 42 dX11_cuttable_33 (by decide) (fun hc33 => ?_) (fun hc33 => ?_)
      · replace h := g_pos hc33 h
        refine AW.incE 1 (by decide) [some (.ref 101), some (.int y1), some (.int z2), some (.int (z3 + 1))] dX11_cuttable_42 rfl (by decide) rfl rfl ?_
        refine AW.goto 4 dX11_cuttable_45 (by decide) ?_
        exact ih h
      · replace h := g_neg hc33 h
        refine AW.iload_n dX11_cuttable_36 rfl ?_
        refine AW.iconst 1 dX11_cuttable_37 (by decide) ?_
        refine AW.iload_n dX11_cuttable_38 rfl ?_
        refine AW.ishl dX11_cuttable_39 ?_
        refine AW.ior dX11_cuttable_40 ?_
        obtain ⟨a4, ea4, h⟩ := g_letE h
        refine AW.namE ea4 ?_
        refine AW.is_n [some (.ref 101), some (.int y1), some (.int a4), some (.int z3)] dX11_cuttable_41 (by decide) rfl rfl ?_
        refine AW.incE 1 (by decide) [some (.ref 101), some (.int y1), some (.int a4), some (.int (z3 + 1))] dX11_cuttable_42 rfl (by decide) rfl rfl ?_
        refine AW.goto 4 dX11_cuttable_45 (by decide) ?_
        exact ih h
    refine AW.iload_n dX11_cuttable_4 rfl ?_
    refine AW.aload_n dX11_cuttable_5 rfl ?_
    refine AW.getR (c' := 104) (fX11_38 hG).r rfl (hm.1 0 _ rfl) (hm.2 (0, 3, 3) (by decide)) dX11_cuttable_6 ?_
    refine AW.iconst 1 dX11_cuttable_9 (by decide) ?_
    refine AW.iald (hm.1 3 _ rfl) (by unfold vp_in; decide) dX11_cuttable_10 ?_
    show AW G _ d _ _ 11 [some (.ref 101), some (.int y1), some (.int x2), some (.int x3)] [.int (I 104 1), .int x3] (sh, I, R, L, g) 0 0
    refine AW.icmp_ge 48 dX11_cuttable_11 (by decide) (fun hc11 => ?_) (fun hc11 => ?_)
    · replace h := g_pos hc11 h
      refine AW.mask [0, 1, 3] [none, none, some (.int x2), none] rfl ?_
      exact hk _ h
    · replace h := g_neg hc11 h
      refine AW.iload_n dX11_cuttable_14 rfl ?_
      refine AW.if_ne 28 dX11_cuttable_15 (by decide) (fun hc15 => ?_) (fun hc15 => ?_)
      · replace h := g_neg hc15 h
        exact H28 _ _ h
      · replace h := g_pos hc15 h
        refine AW.aload_n dX11_cuttable_18 rfl ?_
        refine AW.getR (c' := 118) (fX11_83 hG).r rfl (hm.1 0 _ rfl) (hm.2 (0, 27, 17) (by decide)) dX11_cuttable_19 ?_
        refine AW.iload_n dX11_cuttable_22 rfl ?_
        obtain ⟨hb, h⟩ := g_ifE h
        refine AW.iald (hm.1 17 _ rfl) (g_in_iff.mp hb) dX11_cuttable_23 ?_
        refine AW.iconst (-1) dX11_cuttable_24 (by decide) ?_
        refine AW.icmp_ne 42 dX11_cuttable_25 (by decide) (fun hc25 => ?_) (fun hc25 => ?_)
        · replace h := g_neg hc25 h
          refine AW.incE 1 (by decide) [some (.ref 101), some (.int y1), some (.int x2), some (.int (x3 + 1))] dX11_cuttable_42 rfl (by decide) rfl rfl ?_
          refine AW.goto 4 dX11_cuttable_45 (by decide) ?_
          exact ih h
        · replace h := g_pos hc25 h
          exact H28 _ _ h
set_option maxRecDepth 100000 in
set_option maxHeartbeats 4000000 in
theorem g_X11_cuttable {G : am_G} (hK : k_OK G) {d : Nat} (hd : 7 ≤ d) {sh : List (Nat ⊕ (Nat × Nat))} {I : g_I} {R : Nat → Nat → Option Nat} {L : Nat → Nat → Int64} {g : Nat} (hm : k_Mod sh R) {x1 : Int32} {r : Int32} (h : b_X11_cuttable I x1 = some r) : AM G mX11_cuttable d [.ref 101, .int x1] (sh, I, R, L, g) (fun v w => v = some (.int r) ∧ w = (sh, I, R, L, g)) (fun _ _ => False) := by
  have hG := hK.1
  refine AM.of (n := 2) (by decide +kernel) (Nat.le_of_ble_eq_true rfl) ?_
  show AW G mX11_cuttable d (fun v w => v = some (.int r) ∧ w = (sh, I, R, L, g)) (fun _ _ => False) 0 [some (.ref 101), some (.int x1), none, none] [] (sh, I, R, L, g) 0 0
  unfold b_X11_cuttable at h
  refine AW.iconst 0 dX11_cuttable_0 (by decide) ?_
  refine AW.is_n [some (.ref 101), some (.int x1), some (.int 0), none] dX11_cuttable_1 (by decide) rfl rfl ?_
  refine AW.iconst 0 dX11_cuttable_2 (by decide) ?_
  refine AW.is_n [some (.ref 101), some (.int x1), some (.int 0), some (.int 0)] dX11_cuttable_3 (by decide) rfl rfl ?_
  refine gL_X11_cuttable_4 hK hd hm h (fun a5 h => ?_)
  refine AW.iload_n dX11_cuttable_48 rfl ?_
  exact AW.iret dX11_cuttable_49 rfl (by decide) (by decide) (by cases h; exact ⟨rfl, rfl⟩)
