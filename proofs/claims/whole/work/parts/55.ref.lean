/-! 55.ref (printed by s52.py) -/
theorem dX11_readMet_0 : decode cX11_readMet 0 = .ok (.aload_n 0, 1) := by decide +kernel
theorem dX11_readMet_1 : decode cX11_readMet 1 = .ok (.getfield 38, 3) := by decide +kernel
theorem dX11_readMet_4 : decode cX11_readMet 4 = .ok (.bipush 8, 2) := by decide +kernel
theorem dX11_readMet_6 : decode cX11_readMet 6 = .ok (.iaload, 1) := by decide +kernel
theorem dX11_readMet_7 : decode cX11_readMet 7 = .ok (.bipush 16, 2) := by decide +kernel
theorem dX11_readMet_9 : decode cX11_readMet 9 = .ok (.if_icmp .ne 8, 3) := by decide +kernel
theorem dX11_readMet_12 : decode cX11_readMet 12 = .ok (.aload_n 0, 1) := by decide +kernel
theorem dX11_readMet_13 : decode cX11_readMet 13 = .ok (.iconst 2, 1) := by decide +kernel
theorem dX11_readMet_14 : decode cX11_readMet 14 = .ok (.invokevirtual 228, 3) := by decide +kernel
theorem dX11_readMet_17 : decode cX11_readMet 17 = .ok (.aload_n 0, 1) := by decide +kernel
theorem dX11_readMet_18 : decode cX11_readMet 18 = .ok (.getfield 207, 3) := by decide +kernel
theorem dX11_readMet_21 : decode cX11_readMet 21 = .ok (.ifCond .eq 4, 3) := by decide +kernel
theorem dX11_readMet_24 : decode cX11_readMet 24 = .ok (.return_, 1) := by decide +kernel
theorem dX11_readMet_25 : decode cX11_readMet 25 = .ok (.aload_n 0, 1) := by decide +kernel
theorem dX11_readMet_26 : decode cX11_readMet 26 = .ok (.invokevirtual 232, 3) := by decide +kernel
theorem dX11_readMet_29 : decode cX11_readMet 29 = .ok (.aload_n 0, 1) := by decide +kernel
theorem dX11_readMet_30 : decode cX11_readMet 30 = .ok (.invokevirtual 275, 3) := by decide +kernel
theorem dX11_readMet_33 : decode cX11_readMet 33 = .ok (.istore_n 1, 1) := by decide +kernel
theorem dX11_readMet_34 : decode cX11_readMet 34 = .ok (.aload_n 0, 1) := by decide +kernel
theorem dX11_readMet_35 : decode cX11_readMet 35 = .ok (.getfield 207, 3) := by decide +kernel
theorem dX11_readMet_38 : decode cX11_readMet 38 = .ok (.ifCond .ne 7, 3) := by decide +kernel
theorem dX11_readMet_41 : decode cX11_readMet 41 = .ok (.aload_n 0, 1) := by decide +kernel
theorem dX11_readMet_42 : decode cX11_readMet 42 = .ok (.invokevirtual 232, 3) := by decide +kernel
theorem dX11_readMet_45 : decode cX11_readMet 45 = .ok (.aload_n 0, 1) := by decide +kernel
theorem dX11_readMet_46 : decode cX11_readMet 46 = .ok (.invokevirtual 275, 3) := by decide +kernel
theorem dX11_readMet_49 : decode cX11_readMet 49 = .ok (.istore_n 2, 1) := by decide +kernel
theorem dX11_readMet_50 : decode cX11_readMet 50 = .ok (.aload_n 0, 1) := by decide +kernel
theorem dX11_readMet_51 : decode cX11_readMet 51 = .ok (.getfield 207, 3) := by decide +kernel
theorem dX11_readMet_54 : decode cX11_readMet 54 = .ok (.ifCond .ne 13, 3) := by decide +kernel
theorem dX11_readMet_57 : decode cX11_readMet 57 = .ok (.iload_n 1, 1) := by decide +kernel
theorem dX11_readMet_58 : decode cX11_readMet 58 = .ok (.iload_n 2, 1) := by decide +kernel
theorem dX11_readMet_59 : decode cX11_readMet 59 = .ok (.if_icmp .ne 8, 3) := by decide +kernel
theorem dX11_readMet_62 : decode cX11_readMet 62 = .ok (.aload_n 0, 1) := by decide +kernel
theorem dX11_readMet_63 : decode cX11_readMet 63 = .ok (.iconst 4, 1) := by decide +kernel
theorem dX11_readMet_64 : decode cX11_readMet 64 = .ok (.invokevirtual 228, 3) := by decide +kernel
theorem dX11_readMet_67 : decode cX11_readMet 67 = .ok (.aload_n 0, 1) := by decide +kernel
theorem dX11_readMet_68 : decode cX11_readMet 68 = .ok (.getfield 207, 3) := by decide +kernel
theorem dX11_readMet_71 : decode cX11_readMet 71 = .ok (.ifCond .ne 7, 3) := by decide +kernel
theorem dX11_readMet_74 : decode cX11_readMet 74 = .ok (.aload_n 0, 1) := by decide +kernel
theorem dX11_readMet_75 : decode cX11_readMet 75 = .ok (.invokevirtual 232, 3) := by decide +kernel
theorem dX11_readMet_78 : decode cX11_readMet 78 = .ok (.aload_n 0, 1) := by decide +kernel
theorem dX11_readMet_79 : decode cX11_readMet 79 = .ok (.iconst 0, 1) := by decide +kernel
theorem dX11_readMet_80 : decode cX11_readMet 80 = .ok (.sipush 999, 3) := by decide +kernel
theorem dX11_readMet_83 : decode cX11_readMet 83 = .ok (.invokevirtual 238, 3) := by decide +kernel
theorem dX11_readMet_86 : decode cX11_readMet 86 = .ok (.istore_n 3, 1) := by decide +kernel
theorem dX11_readMet_87 : decode cX11_readMet 87 = .ok (.aload_n 0, 1) := by decide +kernel
theorem dX11_readMet_88 : decode cX11_readMet 88 = .ok (.getfield 207, 3) := by decide +kernel
theorem dX11_readMet_91 : decode cX11_readMet 91 = .ok (.ifCond .eq 4, 3) := by decide +kernel
theorem dX11_readMet_94 : decode cX11_readMet 94 = .ok (.return_, 1) := by decide +kernel
theorem dX11_readMet_95 : decode cX11_readMet 95 = .ok (.bipush 64, 2) := by decide +kernel
theorem dX11_readMet_97 : decode cX11_readMet 97 = .ok (.istore 4, 2) := by decide +kernel
theorem dX11_readMet_99 : decode cX11_readMet 99 = .ok (.aload_n 0, 1) := by decide +kernel
theorem dX11_readMet_100 : decode cX11_readMet 100 = .ok (.getfield 67, 3) := by decide +kernel
theorem dX11_readMet_103 : decode cX11_readMet 103 = .ok (.iload 4, 2) := by decide +kernel
theorem dX11_readMet_105 : decode cX11_readMet 105 = .ok (.iload_n 1, 1) := by decide +kernel
theorem dX11_readMet_106 : decode cX11_readMet 106 = .ok (.iload_n 2, 1) := by decide +kernel
theorem dX11_readMet_107 : decode cX11_readMet 107 = .ok (.invokestatic 282, 3) := by decide +kernel
theorem dX11_readMet_110 : decode cX11_readMet 110 = .ok (.iadd, 1) := by decide +kernel
theorem dX11_readMet_111 : decode cX11_readMet 111 = .ok (.aload_n 0, 1) := by decide +kernel
theorem dX11_readMet_112 : decode cX11_readMet 112 = .ok (.getfield 67, 3) := by decide +kernel
theorem dX11_readMet_115 : decode cX11_readMet 115 = .ok (.iload 4, 2) := by decide +kernel
theorem dX11_readMet_117 : decode cX11_readMet 117 = .ok (.iload_n 1, 1) := by decide +kernel
theorem dX11_readMet_118 : decode cX11_readMet 118 = .ok (.iload_n 2, 1) := by decide +kernel
theorem dX11_readMet_119 : decode cX11_readMet 119 = .ok (.invokestatic 282, 3) := by decide +kernel
theorem dX11_readMet_122 : decode cX11_readMet 122 = .ok (.iadd, 1) := by decide +kernel
theorem dX11_readMet_123 : decode cX11_readMet 123 = .ok (.iaload, 1) := by decide +kernel
theorem dX11_readMet_124 : decode cX11_readMet 124 = .ok (.iload_n 3, 1) := by decide +kernel
theorem dX11_readMet_125 : decode cX11_readMet 125 = .ok (.ineg, 1) := by decide +kernel
theorem dX11_readMet_126 : decode cX11_readMet 126 = .ok (.invokestatic 285, 3) := by decide +kernel
theorem dX11_readMet_129 : decode cX11_readMet 129 = .ok (.iastore, 1) := by decide +kernel
theorem dX11_readMet_130 : decode cX11_readMet 130 = .ok (.aload_n 0, 1) := by decide +kernel
theorem dX11_readMet_131 : decode cX11_readMet 131 = .ok (.getfield 67, 3) := by decide +kernel
theorem dX11_readMet_134 : decode cX11_readMet 134 = .ok (.iload 4, 2) := by decide +kernel
theorem dX11_readMet_136 : decode cX11_readMet 136 = .ok (.iload_n 2, 1) := by decide +kernel
theorem dX11_readMet_137 : decode cX11_readMet 137 = .ok (.iload_n 1, 1) := by decide +kernel
theorem dX11_readMet_138 : decode cX11_readMet 138 = .ok (.invokestatic 282, 3) := by decide +kernel
theorem dX11_readMet_141 : decode cX11_readMet 141 = .ok (.iadd, 1) := by decide +kernel
theorem dX11_readMet_142 : decode cX11_readMet 142 = .ok (.aload_n 0, 1) := by decide +kernel
theorem dX11_readMet_143 : decode cX11_readMet 143 = .ok (.getfield 67, 3) := by decide +kernel
theorem dX11_readMet_146 : decode cX11_readMet 146 = .ok (.iload 4, 2) := by decide +kernel
theorem dX11_readMet_148 : decode cX11_readMet 148 = .ok (.iload_n 1, 1) := by decide +kernel
theorem dX11_readMet_149 : decode cX11_readMet 149 = .ok (.iload_n 2, 1) := by decide +kernel
theorem dX11_readMet_150 : decode cX11_readMet 150 = .ok (.invokestatic 282, 3) := by decide +kernel
theorem dX11_readMet_153 : decode cX11_readMet 153 = .ok (.iadd, 1) := by decide +kernel
theorem dX11_readMet_154 : decode cX11_readMet 154 = .ok (.iaload, 1) := by decide +kernel
theorem dX11_readMet_155 : decode cX11_readMet 155 = .ok (.iastore, 1) := by decide +kernel
theorem dX11_readMet_156 : decode cX11_readMet 156 = .ok (.aload_n 0, 1) := by decide +kernel
theorem dX11_readMet_157 : decode cX11_readMet 157 = .ok (.getfield 38, 3) := by decide +kernel
theorem dX11_readMet_160 : decode cX11_readMet 160 = .ok (.bipush 8, 2) := by decide +kernel
theorem dX11_readMet_162 : decode cX11_readMet 162 = .ok (.dup2, 1) := by decide +kernel
theorem dX11_readMet_163 : decode cX11_readMet 163 = .ok (.iaload, 1) := by decide +kernel
theorem dX11_readMet_164 : decode cX11_readMet 164 = .ok (.iconst 1, 1) := by decide +kernel
theorem dX11_readMet_165 : decode cX11_readMet 165 = .ok (.iadd, 1) := by decide +kernel
theorem dX11_readMet_166 : decode cX11_readMet 166 = .ok (.iastore, 1) := by decide +kernel
theorem dX11_readMet_167 : decode cX11_readMet 167 = .ok (.return_, 1) := by decide +kernel
def b_X11_readMet (I : g_I) : Option (g_I) :=
  g_let (fun (z1 : Int32) (z2 : Int32) (I78j : g_I) => g_bind2 (b_X11_readNumber I78j 0 999) fun a1 I2 => if (I2 101 24) = 0 then if g_in ((64 : Int32) + (b_X11_couple z1 z2)) 128 = true then if g_in ((64 : Int32) + (b_X11_couple z1 z2)) 128 = true then g_let (am_up I2 114 ((64 : Int32) + (b_X11_couple z1 z2)).toNatClampNeg (g_max (I2 114 ((64 : Int32) + (b_X11_couple z1 z2)).toNatClampNeg) (-a1))) fun I4 => if g_in ((64 : Int32) + (b_X11_couple z1 z2)) 128 = true then if g_in ((64 : Int32) + (b_X11_couple z2 z1)) 128 = true then g_let (am_up I4 114 ((64 : Int32) + (b_X11_couple z2 z1)).toNatClampNeg (I4 114 ((64 : Int32) + (b_X11_couple z1 z2)).toNatClampNeg)) fun I5 => g_let (am_up I5 104 8 ((I5 104 8) + 1)) fun I6 => some I6 else none else none else none else none else some I2) fun J78 => g_let (fun (z1 : Int32) (I45j : g_I) => g_bind2 (b_X11_personNow I45j) fun a7 I8 => if (I8 101 24) = 0 then if z1 = a7 then g_bind (b_X11_wrong I8 4) fun I17 => if (I17 101 24) = 0 then g_bind (b_X11_stepOn I17) fun I20 => J78 z1 a7 I20 else J78 z1 a7 I17 else if (I8 101 24) = 0 then g_bind (b_X11_stepOn I8) fun I14 => J78 z1 a7 I14 else J78 z1 a7 I8 else if (I8 101 24) = 0 then g_bind (b_X11_stepOn I8) fun I11 => J78 z1 a7 I11 else J78 z1 a7 I8) fun J45 => g_let (fun (I17j : g_I) => if (I17j 101 24) = 0 then g_bind (b_X11_stepOn I17j) fun I23 => g_bind2 (b_X11_personNow I23) fun a25 I26 => if (I26 101 24) = 0 then g_bind (b_X11_stepOn I26) fun I29 => J45 a25 I29 else J45 a25 I26 else some I17j) fun J17 => if (I 104 8) = 16 then g_bind (b_X11_wrong I 2) fun I32 => J17 I32 else J17 I
set_option maxRecDepth 100000 in
set_option maxHeartbeats 4000000 in
theorem g_X11_readMet {G : am_G} (hK : k_OK G) {d : Nat} (hd : 3 ≤ d) {sh : List (Nat ⊕ (Nat × Nat))} {I : g_I} {R : Nat → Nat → Option Nat} {L : Nat → Nat → Int64} {g : Nat} (hm : k_Mod sh R) {r : g_I} (h : b_X11_readMet I = some r) : AM G mX11_readMet d [.ref 101] (sh, I, R, L, g) (fun v w => v = none ∧ w = (sh, r, R, L, g)) (fun _ _ => False) := by
  have hG := hK.1
  refine AM.of (n := 4) (by decide +kernel) (Nat.le_of_ble_eq_true rfl) ?_
  show AW G mX11_readMet d (fun v w => v = none ∧ w = (sh, r, R, L, g)) (fun _ _ => False) 0 [some (.ref 101), none, none, none, none] [] (sh, I, R, L, g) 0 0
  unfold b_X11_readMet at h
  obtain ⟨J78, eJ78, h⟩ := g_letE h
  have H78 : ∀ (z1 : Int32) (z2 : Int32) (I78j : g_I), J78 z1 z2 I78j = some r → AW G mX11_readMet d (fun v w => v = none ∧ w = (sh, r, R, L, g)) (fun _ _ => False) 78 [some (.ref 101), some (.int z1), some (.int z2), none, none] [] (sh, I78j, R, L, g) 0 0 := by
    intro z1 z2 I78j h
    rw [eJ78] at h
    refine AW.aload_n dX11_readMet_78 rfl ?_
    refine AW.iconst 0 dX11_readMet_79 (by decide) ?_
    refine AW.sipush 999 dX11_readMet_80 (by decide) ?_
    obtain ⟨a1, I2, hx3, h⟩ := g_bind2E h
    refine AW.callV (b := 101) (As := [.int 0, .int 999]) hG.2.2 (vX11_238 hG) (hm.1 0 _ rfl) (g_X11_readNumber hK (d := 2) (Nat.le_refl _) hm hx3) (by omega) dX11_readMet_83 rfl rfl (Nat.le_of_ble_eq_true rfl) (fun v w9 hq9 h09 => by obtain ⟨rfl, rfl⟩ := hq9; exact ⟨h09, rfl⟩) (by decide) (by decide) (fun _ _ hx => hx) (fun v9 w9 hq9 => ?_)
    obtain ⟨rfl, rfl⟩ := hq9
    show AW G _ d _ _ 86 [some (.ref 101), some (.int z1), some (.int z2), none, none] [.int a1] (sh, I2, R, L, g) 0 0
    refine AW.is_n [some (.ref 101), some (.int z1), some (.int z2), some (.int a1), none] dX11_readMet_86 (by decide) rfl rfl ?_
    refine AW.aload_n dX11_readMet_87 rfl ?_
    refine AW.getI (fX11_207 hG).r rfl (hm.1 0 _ rfl) dX11_readMet_88 ?_
    refine AW.if_eq 95 dX11_readMet_91 (by decide) (fun hc91 => ?_) (fun hc91 => ?_)
    · replace h := g_pos hc91 h
      refine AW.bipush 64 dX11_readMet_95 (by decide) ?_
      refine AW.is [some (.ref 101), some (.int z1), some (.int z2), some (.int a1), some (.int 64)] dX11_readMet_97 (by decide) rfl rfl ?_
      refine AW.aload_n dX11_readMet_99 rfl ?_
      refine AW.getR (c' := 114) (fX11_67 hG).r rfl (hm.1 0 _ rfl) (hm.2 (0, 13, 13) (by decide)) dX11_readMet_100 ?_
      refine AW.iload dX11_readMet_103 rfl ?_
      refine AW.iload_n dX11_readMet_105 rfl ?_
      refine AW.iload_n dX11_readMet_106 rfl ?_
      refine AW.callS (As := [.int z1, .int z2]) hG.2.2 (vX11_282 hG) (g_X11_couple hK (d := 0) (Nat.le_refl _)) (by omega) dX11_readMet_107 rfl rfl (Nat.le_of_ble_eq_true rfl) (fun v w9 hq9 h09 => by obtain ⟨rfl, rfl⟩ := hq9; exact ⟨h09, rfl⟩) (by decide) (by decide) (fun _ _ hx => hx) (fun v9 w9 hq9 => ?_)
      obtain ⟨rfl, rfl⟩ := hq9
      show AW G _ d _ _ 110 [some (.ref 101), some (.int z1), some (.int z2), some (.int a1), some (.int 64)] [.int (b_X11_couple z1 z2), .int 64, .ref 114] (sh, I2, R, L, g) 0 0
      refine AW.iadd dX11_readMet_110 ?_
      refine AW.aload_n dX11_readMet_111 rfl ?_
      refine AW.getR (c' := 114) (fX11_67 hG).r rfl (hm.1 0 _ rfl) (hm.2 (0, 13, 13) (by decide)) dX11_readMet_112 ?_
      refine AW.iload dX11_readMet_115 rfl ?_
      refine AW.iload_n dX11_readMet_117 rfl ?_
      refine AW.iload_n dX11_readMet_118 rfl ?_
      refine AW.callS (As := [.int z1, .int z2]) hG.2.2 (vX11_282 hG) (g_X11_couple hK (d := 0) (Nat.le_refl _)) (by omega) dX11_readMet_119 rfl rfl (Nat.le_of_ble_eq_true rfl) (fun v w9 hq9 h09 => by obtain ⟨rfl, rfl⟩ := hq9; exact ⟨h09, rfl⟩) (by decide) (by decide) (fun _ _ hx => hx) (fun v9 w9 hq9 => ?_)
      obtain ⟨rfl, rfl⟩ := hq9
      show AW G _ d _ _ 122 [some (.ref 101), some (.int z1), some (.int z2), some (.int a1), some (.int 64)] [.int (b_X11_couple z1 z2), .int 64, .ref 114, .int ((64 : Int32) + (b_X11_couple z1 z2)), .ref 114] (sh, I2, R, L, g) 0 0
      refine AW.iadd dX11_readMet_122 ?_
      obtain ⟨hb, h⟩ := g_ifE h
      refine AW.iald (hm.1 13 _ rfl) (g_in_iff.mp hb) dX11_readMet_123 ?_
      refine AW.iload_n dX11_readMet_124 rfl ?_
      refine AW.ineg dX11_readMet_125 ?_
      refine AW.mmax (k_c hG 1812 (by decide +kernel) (by decide +kernel)) (k_mmax hG) dX11_readMet_126 (by omega) (Nat.le_of_ble_eq_true rfl) (by decide) (by decide) ?_
      show AW G _ d _ _ 129 [some (.ref 101), some (.int z1), some (.int z2), some (.int a1), some (.int 64)] [.int (g_max (I2 114 ((64 : Int32) + (b_X11_couple z1 z2)).toNatClampNeg) (-a1)), .int ((64 : Int32) + (b_X11_couple z1 z2)), .ref 114] (sh, I2, R, L, g) 0 0
      obtain ⟨hb, h⟩ := g_ifE h
      refine AW.iast (hm.1 13 _ rfl) (g_in_iff.mp hb) dX11_readMet_129 ?_
      obtain ⟨I4, eI4, h⟩ := g_letE h
      refine AW.namIE eI4 ?_
      refine AW.aload_n dX11_readMet_130 rfl ?_
      refine AW.getR (c' := 114) (fX11_67 hG).r rfl (hm.1 0 _ rfl) (hm.2 (0, 13, 13) (by decide)) dX11_readMet_131 ?_
      refine AW.iload dX11_readMet_134 rfl ?_
      refine AW.iload_n dX11_readMet_136 rfl ?_
      refine AW.iload_n dX11_readMet_137 rfl ?_
      refine AW.callS (As := [.int z2, .int z1]) hG.2.2 (vX11_282 hG) (g_X11_couple hK (d := 0) (Nat.le_refl _)) (by omega) dX11_readMet_138 rfl rfl (Nat.le_of_ble_eq_true rfl) (fun v w9 hq9 h09 => by obtain ⟨rfl, rfl⟩ := hq9; exact ⟨h09, rfl⟩) (by decide) (by decide) (fun _ _ hx => hx) (fun v9 w9 hq9 => ?_)
      obtain ⟨rfl, rfl⟩ := hq9
      show AW G _ d _ _ 141 [some (.ref 101), some (.int z1), some (.int z2), some (.int a1), some (.int 64)] [.int (b_X11_couple z2 z1), .int 64, .ref 114] (sh, I4, R, L, g) 0 0
      refine AW.iadd dX11_readMet_141 ?_
      refine AW.aload_n dX11_readMet_142 rfl ?_
      refine AW.getR (c' := 114) (fX11_67 hG).r rfl (hm.1 0 _ rfl) (hm.2 (0, 13, 13) (by decide)) dX11_readMet_143 ?_
      refine AW.iload dX11_readMet_146 rfl ?_
      refine AW.iload_n dX11_readMet_148 rfl ?_
      refine AW.iload_n dX11_readMet_149 rfl ?_
      refine AW.callS (As := [.int z1, .int z2]) hG.2.2 (vX11_282 hG) (g_X11_couple hK (d := 0) (Nat.le_refl _)) (by omega) dX11_readMet_150 rfl rfl (Nat.le_of_ble_eq_true rfl) (fun v w9 hq9 h09 => by obtain ⟨rfl, rfl⟩ := hq9; exact ⟨h09, rfl⟩) (by decide) (by decide) (fun _ _ hx => hx) (fun v9 w9 hq9 => ?_)
      obtain ⟨rfl, rfl⟩ := hq9
      show AW G _ d _ _ 153 [some (.ref 101), some (.int z1), some (.int z2), some (.int a1), some (.int 64)] [.int (b_X11_couple z1 z2), .int 64, .ref 114, .int ((64 : Int32) + (b_X11_couple z2 z1)), .ref 114] (sh, I4, R, L, g) 0 0
      refine AW.iadd dX11_readMet_153 ?_
      obtain ⟨hb, h⟩ := g_ifE h
      refine AW.iald (hm.1 13 _ rfl) (g_in_iff.mp hb) dX11_readMet_154 ?_
      obtain ⟨hb, h⟩ := g_ifE h
      refine AW.iast (hm.1 13 _ rfl) (g_in_iff.mp hb) dX11_readMet_155 ?_
      obtain ⟨I5, eI5, h⟩ := g_letE h
      refine AW.namIE eI5 ?_
      refine AW.aload_n dX11_readMet_156 rfl ?_
      refine AW.getR (c' := 104) (fX11_38 hG).r rfl (hm.1 0 _ rfl) (hm.2 (0, 3, 3) (by decide)) dX11_readMet_157 ?_
      refine AW.bipush 8 dX11_readMet_160 (by decide) ?_
      refine AW.dup2 dX11_readMet_162 rfl rfl ?_
      refine AW.iald (hm.1 3 _ rfl) (by unfold vp_in; decide) dX11_readMet_163 ?_
      show AW G _ d _ _ 164 [some (.ref 101), some (.int z1), some (.int z2), some (.int a1), some (.int 64)] [.int (I5 104 8), .int 8, .ref 104] (sh, I5, R, L, g) 0 0
      refine AW.iconst 1 dX11_readMet_164 (by decide) ?_
      refine AW.iadd dX11_readMet_165 ?_
      refine AW.iast (hm.1 3 _ rfl) (by unfold vp_in; decide) dX11_readMet_166 ?_
      show AW G _ d _ _ 167 [some (.ref 101), some (.int z1), some (.int z2), some (.int a1), some (.int 64)] [] (sh, am_up I5 104 8 ((I5 104 8) + 1), R, L, g) 0 0
      obtain ⟨I6, eI6, h⟩ := g_letE h
      refine AW.namIE eI6 ?_
      exact AW.vret dX11_readMet_167 rfl (by decide) (by decide) (by cases h; exact ⟨rfl, rfl⟩)
    · replace h := g_neg hc91 h
      exact AW.vret dX11_readMet_94 rfl (by decide) (by decide) (by cases h; exact ⟨rfl, rfl⟩)
  obtain ⟨J45, eJ45, h⟩ := g_letE h
  have H45 : ∀ (z1 : Int32) (I45j : g_I), J45 z1 I45j = some r → AW G mX11_readMet d (fun v w => v = none ∧ w = (sh, r, R, L, g)) (fun _ _ => False) 45 [some (.ref 101), some (.int z1), none, none, none] [] (sh, I45j, R, L, g) 0 0 := by
    intro z1 I45j h
    rw [eJ45] at h
    refine AW.aload_n dX11_readMet_45 rfl ?_
    obtain ⟨a7, I8, hx9, h⟩ := g_bind2E h
    refine AW.callV (b := 101) (As := []) hG.2.2 (vX11_275 hG) (hm.1 0 _ rfl) (g_X11_personNow hK (d := 2) (Nat.le_refl _) hm hx9) (by omega) dX11_readMet_46 rfl rfl (Nat.le_of_ble_eq_true rfl) (fun v w9 hq9 h09 => by obtain ⟨rfl, rfl⟩ := hq9; exact ⟨h09, rfl⟩) (by decide) (by decide) (fun _ _ hx => hx) (fun v9 w9 hq9 => ?_)
    obtain ⟨rfl, rfl⟩ := hq9
    show AW G _ d _ _ 49 [some (.ref 101), some (.int z1), none, none, none] [.int a7] (sh, I8, R, L, g) 0 0
    refine AW.is_n [some (.ref 101), some (.int z1), some (.int a7), none, none] dX11_readMet_49 (by decide) rfl rfl ?_
    refine AW.aload_n dX11_readMet_50 rfl ?_
    refine AW.getI (fX11_207 hG).r rfl (hm.1 0 _ rfl) dX11_readMet_51 ?_
    refine AW.if_ne 67 dX11_readMet_54 (by decide) (fun hc54 => ?_) (fun hc54 => ?_)
    · replace h := g_neg hc54 h
      refine AW.aload_n dX11_readMet_67 rfl ?_
      refine AW.getI (fX11_207 hG).r rfl (hm.1 0 _ rfl) dX11_readMet_68 ?_
      refine AW.if_ne 78 dX11_readMet_71 (by decide) (fun hc71 => ?_) (fun hc71 => ?_)
      · replace h := g_neg hc71 h
        exact H78 _ _ _ h
      · replace h := g_pos hc71 h
        refine AW.aload_n dX11_readMet_74 rfl ?_
        obtain ⟨I11, hx12, h⟩ := g_bindE h
        refine AW.callV (b := 101) (As := []) hG.2.2 (vX11_232 hG) (hm.1 0 _ rfl) (g_X11_stepOn hK (d := 1) (Nat.le_refl _) hm hx12) (by omega) dX11_readMet_75 rfl rfl (Nat.le_of_ble_eq_true rfl) (fun v w9 hq9 h09 => by obtain ⟨rfl, rfl⟩ := hq9; exact ⟨h09, rfl⟩) (by decide) (by decide) (fun _ _ hx => hx) (fun v9 w9 hq9 => ?_)
        obtain ⟨rfl, rfl⟩ := hq9
        show AW G _ d _ _ 78 [some (.ref 101), some (.int z1), some (.int a7), none, none] [] (sh, I11, R, L, g) 0 0
        exact H78 _ _ _ h
    · replace h := g_pos hc54 h
      refine AW.iload_n dX11_readMet_57 rfl ?_
      refine AW.iload_n dX11_readMet_58 rfl ?_
      refine AW.icmp_ne 67 dX11_readMet_59 (by decide) (fun hc59 => ?_) (fun hc59 => ?_)
      · replace h := g_neg hc59 h
        refine AW.aload_n dX11_readMet_67 rfl ?_
        refine AW.getI (fX11_207 hG).r rfl (hm.1 0 _ rfl) dX11_readMet_68 ?_
        refine AW.if_ne 78 dX11_readMet_71 (by decide) (fun hc71 => ?_) (fun hc71 => ?_)
        · replace h := g_neg hc71 h
          exact H78 _ _ _ h
        · replace h := g_pos hc71 h
          refine AW.aload_n dX11_readMet_74 rfl ?_
          obtain ⟨I14, hx15, h⟩ := g_bindE h
          refine AW.callV (b := 101) (As := []) hG.2.2 (vX11_232 hG) (hm.1 0 _ rfl) (g_X11_stepOn hK (d := 1) (Nat.le_refl _) hm hx15) (by omega) dX11_readMet_75 rfl rfl (Nat.le_of_ble_eq_true rfl) (fun v w9 hq9 h09 => by obtain ⟨rfl, rfl⟩ := hq9; exact ⟨h09, rfl⟩) (by decide) (by decide) (fun _ _ hx => hx) (fun v9 w9 hq9 => ?_)
          obtain ⟨rfl, rfl⟩ := hq9
          show AW G _ d _ _ 78 [some (.ref 101), some (.int z1), some (.int a7), none, none] [] (sh, I14, R, L, g) 0 0
          exact H78 _ _ _ h
      · replace h := g_pos hc59 h
        refine AW.aload_n dX11_readMet_62 rfl ?_
        refine AW.iconst 4 dX11_readMet_63 (by decide) ?_
        obtain ⟨I17, hx18, h⟩ := g_bindE h
        refine AW.callV (b := 101) (As := [.int 4]) hG.2.2 (vX11_228 hG) (hm.1 0 _ rfl) (g_X11_wrong hK (d := 0) (Nat.le_refl _) hm hx18) (by omega) dX11_readMet_64 rfl rfl (Nat.le_of_ble_eq_true rfl) (fun v w9 hq9 h09 => by obtain ⟨rfl, rfl⟩ := hq9; exact ⟨h09, rfl⟩) (by decide) (by decide) (fun _ _ hx => hx) (fun v9 w9 hq9 => ?_)
        obtain ⟨rfl, rfl⟩ := hq9
        show AW G _ d _ _ 67 [some (.ref 101), some (.int z1), some (.int a7), none, none] [] (sh, I17, R, L, g) 0 0
        refine AW.aload_n dX11_readMet_67 rfl ?_
        refine AW.getI (fX11_207 hG).r rfl (hm.1 0 _ rfl) dX11_readMet_68 ?_
        refine AW.if_ne 78 dX11_readMet_71 (by decide) (fun hc71 => ?_) (fun hc71 => ?_)
        · replace h := g_neg hc71 h
          exact H78 _ _ _ h
        · replace h := g_pos hc71 h
          refine AW.aload_n dX11_readMet_74 rfl ?_
          obtain ⟨I20, hx21, h⟩ := g_bindE h
          refine AW.callV (b := 101) (As := []) hG.2.2 (vX11_232 hG) (hm.1 0 _ rfl) (g_X11_stepOn hK (d := 1) (Nat.le_refl _) hm hx21) (by omega) dX11_readMet_75 rfl rfl (Nat.le_of_ble_eq_true rfl) (fun v w9 hq9 h09 => by obtain ⟨rfl, rfl⟩ := hq9; exact ⟨h09, rfl⟩) (by decide) (by decide) (fun _ _ hx => hx) (fun v9 w9 hq9 => ?_)
          obtain ⟨rfl, rfl⟩ := hq9
          show AW G _ d _ _ 78 [some (.ref 101), some (.int z1), some (.int a7), none, none] [] (sh, I20, R, L, g) 0 0
          exact H78 _ _ _ h
  obtain ⟨J17, eJ17, h⟩ := g_letE h
  have H17 : ∀ (I17j : g_I), J17 I17j = some r → AW G mX11_readMet d (fun v w => v = none ∧ w = (sh, r, R, L, g)) (fun _ _ => False) 17 [some (.ref 101), none, none, none, none] [] (sh, I17j, R, L, g) 0 0 := by
    intro I17j h
    rw [eJ17] at h
    refine AW.aload_n dX11_readMet_17 rfl ?_
    refine AW.getI (fX11_207 hG).r rfl (hm.1 0 _ rfl) dX11_readMet_18 ?_
    refine AW.if_eq 25 dX11_readMet_21 (by decide) (fun hc21 => ?_) (fun hc21 => ?_)
    · replace h := g_pos hc21 h
      refine AW.aload_n dX11_readMet_25 rfl ?_
      obtain ⟨I23, hx24, h⟩ := g_bindE h
      refine AW.callV (b := 101) (As := []) hG.2.2 (vX11_232 hG) (hm.1 0 _ rfl) (g_X11_stepOn hK (d := 1) (Nat.le_refl _) hm hx24) (by omega) dX11_readMet_26 rfl rfl (Nat.le_of_ble_eq_true rfl) (fun v w9 hq9 h09 => by obtain ⟨rfl, rfl⟩ := hq9; exact ⟨h09, rfl⟩) (by decide) (by decide) (fun _ _ hx => hx) (fun v9 w9 hq9 => ?_)
      obtain ⟨rfl, rfl⟩ := hq9
      show AW G _ d _ _ 29 [some (.ref 101), none, none, none, none] [] (sh, I23, R, L, g) 0 0
      refine AW.aload_n dX11_readMet_29 rfl ?_
      obtain ⟨a25, I26, hx27, h⟩ := g_bind2E h
      refine AW.callV (b := 101) (As := []) hG.2.2 (vX11_275 hG) (hm.1 0 _ rfl) (g_X11_personNow hK (d := 2) (Nat.le_refl _) hm hx27) (by omega) dX11_readMet_30 rfl rfl (Nat.le_of_ble_eq_true rfl) (fun v w9 hq9 h09 => by obtain ⟨rfl, rfl⟩ := hq9; exact ⟨h09, rfl⟩) (by decide) (by decide) (fun _ _ hx => hx) (fun v9 w9 hq9 => ?_)
      obtain ⟨rfl, rfl⟩ := hq9
      show AW G _ d _ _ 33 [some (.ref 101), none, none, none, none] [.int a25] (sh, I26, R, L, g) 0 0
      refine AW.is_n [some (.ref 101), some (.int a25), none, none, none] dX11_readMet_33 (by decide) rfl rfl ?_
      refine AW.aload_n dX11_readMet_34 rfl ?_
      refine AW.getI (fX11_207 hG).r rfl (hm.1 0 _ rfl) dX11_readMet_35 ?_
      refine AW.if_ne 45 dX11_readMet_38 (by decide) (fun hc38 => ?_) (fun hc38 => ?_)
      · replace h := g_neg hc38 h
        exact H45 _ _ h
      · replace h := g_pos hc38 h
        refine AW.aload_n dX11_readMet_41 rfl ?_
        obtain ⟨I29, hx30, h⟩ := g_bindE h
        refine AW.callV (b := 101) (As := []) hG.2.2 (vX11_232 hG) (hm.1 0 _ rfl) (g_X11_stepOn hK (d := 1) (Nat.le_refl _) hm hx30) (by omega) dX11_readMet_42 rfl rfl (Nat.le_of_ble_eq_true rfl) (fun v w9 hq9 h09 => by obtain ⟨rfl, rfl⟩ := hq9; exact ⟨h09, rfl⟩) (by decide) (by decide) (fun _ _ hx => hx) (fun v9 w9 hq9 => ?_)
        obtain ⟨rfl, rfl⟩ := hq9
        show AW G _ d _ _ 45 [some (.ref 101), some (.int a25), none, none, none] [] (sh, I29, R, L, g) 0 0
        exact H45 _ _ h
    · replace h := g_neg hc21 h
      exact AW.vret dX11_readMet_24 rfl (by decide) (by decide) (by cases h; exact ⟨rfl, rfl⟩)
  refine AW.aload_n dX11_readMet_0 rfl ?_
  refine AW.getR (c' := 104) (fX11_38 hG).r rfl (hm.1 0 _ rfl) (hm.2 (0, 3, 3) (by decide)) dX11_readMet_1 ?_
  refine AW.bipush 8 dX11_readMet_4 (by decide) ?_
  refine AW.iald (hm.1 3 _ rfl) (by unfold vp_in; decide) dX11_readMet_6 ?_
  show AW G _ d _ _ 7 [some (.ref 101), none, none, none, none] [.int (I 104 8)] (sh, I, R, L, g) 0 0
  refine AW.bipush 16 dX11_readMet_7 (by decide) ?_
  refine AW.icmp_ne 17 dX11_readMet_9 (by decide) (fun hc9 => ?_) (fun hc9 => ?_)
  · replace h := g_neg hc9 h
    exact H17 _ h
  · replace h := g_pos hc9 h
    refine AW.aload_n dX11_readMet_12 rfl ?_
    refine AW.iconst 2 dX11_readMet_13 (by decide) ?_
    obtain ⟨I32, hx33, h⟩ := g_bindE h
    refine AW.callV (b := 101) (As := [.int 2]) hG.2.2 (vX11_228 hG) (hm.1 0 _ rfl) (g_X11_wrong hK (d := 0) (Nat.le_refl _) hm hx33) (by omega) dX11_readMet_14 rfl rfl (Nat.le_of_ble_eq_true rfl) (fun v w9 hq9 h09 => by obtain ⟨rfl, rfl⟩ := hq9; exact ⟨h09, rfl⟩) (by decide) (by decide) (fun _ _ hx => hx) (fun v9 w9 hq9 => ?_)
    obtain ⟨rfl, rfl⟩ := hq9
    show AW G _ d _ _ 17 [some (.ref 101), none, none, none, none] [] (sh, I32, R, L, g) 0 0
    exact H17 _ h
theorem dX11_readLine_0 : decode cX11_readLine 0 = .ok (.aload_n 0, 1) := by decide +kernel
theorem dX11_readLine_1 : decode cX11_readLine 1 = .ok (.ldc_w 288, 3) := by decide +kernel
theorem dX11_readLine_4 : decode cX11_readLine 4 = .ok (.invokevirtual 221, 3) := by decide +kernel
theorem dX11_readLine_7 : decode cX11_readLine 7 = .ok (.ifCond .eq 7, 3) := by decide +kernel
theorem dX11_readLine_10 : decode cX11_readLine 10 = .ok (.iconst 1, 1) := by decide +kernel
theorem dX11_readLine_11 : decode cX11_readLine 11 = .ok (.goto 32, 3) := by decide +kernel
theorem dX11_readLine_14 : decode cX11_readLine 14 = .ok (.aload_n 0, 1) := by decide +kernel
theorem dX11_readLine_15 : decode cX11_readLine 15 = .ok (.ldc_w 290, 3) := by decide +kernel
theorem dX11_readLine_18 : decode cX11_readLine 18 = .ok (.invokevirtual 221, 3) := by decide +kernel
theorem dX11_readLine_21 : decode cX11_readLine 21 = .ok (.ifCond .eq 7, 3) := by decide +kernel
theorem dX11_readLine_24 : decode cX11_readLine 24 = .ok (.iconst 2, 1) := by decide +kernel
theorem dX11_readLine_25 : decode cX11_readLine 25 = .ok (.goto 18, 3) := by decide +kernel
theorem dX11_readLine_28 : decode cX11_readLine 28 = .ok (.aload_n 0, 1) := by decide +kernel
theorem dX11_readLine_29 : decode cX11_readLine 29 = .ok (.ldc_w 292, 3) := by decide +kernel
theorem dX11_readLine_32 : decode cX11_readLine 32 = .ok (.invokevirtual 221, 3) := by decide +kernel
theorem dX11_readLine_35 : decode cX11_readLine 35 = .ok (.ifCond .eq 7, 3) := by decide +kernel
theorem dX11_readLine_38 : decode cX11_readLine 38 = .ok (.iconst 4, 1) := by decide +kernel
theorem dX11_readLine_39 : decode cX11_readLine 39 = .ok (.goto 4, 3) := by decide +kernel
theorem dX11_readLine_42 : decode cX11_readLine 42 = .ok (.iconst 0, 1) := by decide +kernel
theorem dX11_readLine_43 : decode cX11_readLine 43 = .ok (.istore_n 2, 1) := by decide +kernel
theorem dX11_readLine_44 : decode cX11_readLine 44 = .ok (.aload_n 0, 1) := by decide +kernel
theorem dX11_readLine_45 : decode cX11_readLine 45 = .ok (.aload_n 0, 1) := by decide +kernel
theorem dX11_readLine_46 : decode cX11_readLine 46 = .ok (.getfield 19, 3) := by decide +kernel
theorem dX11_readLine_49 : decode cX11_readLine 49 = .ok (.invokevirtual 244, 3) := by decide +kernel
theorem dX11_readLine_52 : decode cX11_readLine 52 = .ok (.istore_n 3, 1) := by decide +kernel
theorem dX11_readLine_53 : decode cX11_readLine 53 = .ok (.iload_n 2, 1) := by decide +kernel
theorem dX11_readLine_54 : decode cX11_readLine 54 = .ok (.iload_n 1, 1) := by decide +kernel
theorem dX11_readLine_55 : decode cX11_readLine 55 = .ok (.iand, 1) := by decide +kernel
theorem dX11_readLine_56 : decode cX11_readLine 56 = .ok (.ifCond .eq 8, 3) := by decide +kernel
theorem dX11_readLine_59 : decode cX11_readLine 59 = .ok (.aload_n 0, 1) := by decide +kernel
theorem dX11_readLine_60 : decode cX11_readLine 60 = .ok (.iconst 5, 1) := by decide +kernel
theorem dX11_readLine_61 : decode cX11_readLine 61 = .ok (.invokevirtual 228, 3) := by decide +kernel
theorem dX11_readLine_64 : decode cX11_readLine 64 = .ok (.iload_n 2, 1) := by decide +kernel
theorem dX11_readLine_65 : decode cX11_readLine 65 = .ok (.ifCond .le 67, 3) := by decide +kernel
theorem dX11_readLine_68 : decode cX11_readLine 68 = .ok (.aload_n 0, 1) := by decide +kernel
theorem dX11_readLine_69 : decode cX11_readLine 69 = .ok (.getfield 207, 3) := by decide +kernel
theorem dX11_readLine_72 : decode cX11_readLine 72 = .ok (.ifCond .ne 7, 3) := by decide +kernel
theorem dX11_readLine_75 : decode cX11_readLine 75 = .ok (.aload_n 0, 1) := by decide +kernel
theorem dX11_readLine_76 : decode cX11_readLine 76 = .ok (.invokevirtual 232, 3) := by decide +kernel
theorem dX11_readLine_79 : decode cX11_readLine 79 = .ok (.iload_n 2, 1) := by decide +kernel
theorem dX11_readLine_80 : decode cX11_readLine 80 = .ok (.iconst 1, 1) := by decide +kernel
theorem dX11_readLine_81 : decode cX11_readLine 81 = .ok (.if_icmp .ne 21, 3) := by decide +kernel
theorem dX11_readLine_84 : decode cX11_readLine 84 = .ok (.aload_n 0, 1) := by decide +kernel
theorem dX11_readLine_85 : decode cX11_readLine 85 = .ok (.getfield 38, 3) := by decide +kernel
theorem dX11_readLine_88 : decode cX11_readLine 88 = .ok (.bipush 9, 2) := by decide +kernel
theorem dX11_readLine_90 : decode cX11_readLine 90 = .ok (.aload_n 0, 1) := by decide +kernel
theorem dX11_readLine_91 : decode cX11_readLine 91 = .ok (.iconst 1, 1) := by decide +kernel
theorem dX11_readLine_92 : decode cX11_readLine 92 = .ok (.sipush 999, 3) := by decide +kernel
theorem dX11_readLine_95 : decode cX11_readLine 95 = .ok (.invokevirtual 238, 3) := by decide +kernel
theorem dX11_readLine_98 : decode cX11_readLine 98 = .ok (.iastore, 1) := by decide +kernel
theorem dX11_readLine_99 : decode cX11_readLine 99 = .ok (.goto 85, 3) := by decide +kernel
theorem dX11_readLine_102 : decode cX11_readLine 102 = .ok (.iload_n 2, 1) := by decide +kernel
theorem dX11_readLine_103 : decode cX11_readLine 103 = .ok (.iconst 2, 1) := by decide +kernel
theorem dX11_readLine_104 : decode cX11_readLine 104 = .ok (.if_icmp .ne 20, 3) := by decide +kernel
theorem dX11_readLine_107 : decode cX11_readLine 107 = .ok (.aload_n 0, 1) := by decide +kernel
theorem dX11_readLine_108 : decode cX11_readLine 108 = .ok (.getfield 38, 3) := by decide +kernel
theorem dX11_readLine_111 : decode cX11_readLine 111 = .ok (.bipush 10, 2) := by decide +kernel
theorem dX11_readLine_113 : decode cX11_readLine 113 = .ok (.aload_n 0, 1) := by decide +kernel
theorem dX11_readLine_114 : decode cX11_readLine 114 = .ok (.iconst 1, 1) := by decide +kernel
theorem dX11_readLine_115 : decode cX11_readLine 115 = .ok (.bipush 23, 2) := by decide +kernel
theorem dX11_readLine_117 : decode cX11_readLine 117 = .ok (.invokevirtual 238, 3) := by decide +kernel
theorem dX11_readLine_120 : decode cX11_readLine 120 = .ok (.iastore, 1) := by decide +kernel
theorem dX11_readLine_121 : decode cX11_readLine 121 = .ok (.goto 63, 3) := by decide +kernel
theorem dX11_readLine_124 : decode cX11_readLine 124 = .ok (.aload_n 0, 1) := by decide +kernel
theorem dX11_readLine_125 : decode cX11_readLine 125 = .ok (.iconst 0, 1) := by decide +kernel
theorem dX11_readLine_126 : decode cX11_readLine 126 = .ok (.invokevirtual 251, 3) := by decide +kernel
theorem dX11_readLine_129 : decode cX11_readLine 129 = .ok (.goto 55, 3) := by decide +kernel
theorem dX11_readLine_132 : decode cX11_readLine 132 = .ok (.iload_n 3, 1) := by decide +kernel
theorem dX11_readLine_133 : decode cX11_readLine 133 = .ok (.iconst (-1), 1) := by decide +kernel
theorem dX11_readLine_134 : decode cX11_readLine 134 = .ok (.if_icmp .eq 11, 3) := by decide +kernel
theorem dX11_readLine_137 : decode cX11_readLine 137 = .ok (.aload_n 0, 1) := by decide +kernel
theorem dX11_readLine_138 : decode cX11_readLine 138 = .ok (.iload_n 3, 1) := by decide +kernel
theorem dX11_readLine_139 : decode cX11_readLine 139 = .ok (.invokevirtual 294, 3) := by decide +kernel
theorem dX11_readLine_142 : decode cX11_readLine 142 = .ok (.goto 42, 3) := by decide +kernel
theorem dX11_readLine_145 : decode cX11_readLine 145 = .ok (.aload_n 0, 1) := by decide +kernel
theorem dX11_readLine_146 : decode cX11_readLine 146 = .ok (.ldc_w 297, 3) := by decide +kernel
theorem dX11_readLine_149 : decode cX11_readLine 149 = .ok (.invokevirtual 221, 3) := by decide +kernel
theorem dX11_readLine_152 : decode cX11_readLine 152 = .ok (.ifCond .eq 10, 3) := by decide +kernel
theorem dX11_readLine_155 : decode cX11_readLine 155 = .ok (.aload_n 0, 1) := by decide +kernel
theorem dX11_readLine_156 : decode cX11_readLine 156 = .ok (.invokevirtual 299, 3) := by decide +kernel
theorem dX11_readLine_159 : decode cX11_readLine 159 = .ok (.goto 25, 3) := by decide +kernel
theorem dX11_readLine_162 : decode cX11_readLine 162 = .ok (.aload_n 0, 1) := by decide +kernel
theorem dX11_readLine_163 : decode cX11_readLine 163 = .ok (.ldc_w 302, 3) := by decide +kernel
theorem dX11_readLine_166 : decode cX11_readLine 166 = .ok (.invokevirtual 221, 3) := by decide +kernel
theorem dX11_readLine_169 : decode cX11_readLine 169 = .ok (.ifCond .eq 10, 3) := by decide +kernel
theorem dX11_readLine_172 : decode cX11_readLine 172 = .ok (.aload_n 0, 1) := by decide +kernel
theorem dX11_readLine_173 : decode cX11_readLine 173 = .ok (.invokevirtual 304, 3) := by decide +kernel
theorem dX11_readLine_176 : decode cX11_readLine 176 = .ok (.goto 8, 3) := by decide +kernel
theorem dX11_readLine_179 : decode cX11_readLine 179 = .ok (.aload_n 0, 1) := by decide +kernel
theorem dX11_readLine_180 : decode cX11_readLine 180 = .ok (.iconst 1, 1) := by decide +kernel
theorem dX11_readLine_181 : decode cX11_readLine 181 = .ok (.invokevirtual 228, 3) := by decide +kernel
theorem dX11_readLine_184 : decode cX11_readLine 184 = .ok (.aload_n 0, 1) := by decide +kernel
theorem dX11_readLine_185 : decode cX11_readLine 185 = .ok (.bipush 59, 2) := by decide +kernel
theorem dX11_readLine_187 : decode cX11_readLine 187 = .ok (.invokevirtual 248, 3) := by decide +kernel
theorem dX11_readLine_190 : decode cX11_readLine 190 = .ok (.iload_n 1, 1) := by decide +kernel
theorem dX11_readLine_191 : decode cX11_readLine 191 = .ok (.iload_n 2, 1) := by decide +kernel
theorem dX11_readLine_192 : decode cX11_readLine 192 = .ok (.ior, 1) := by decide +kernel
theorem dX11_readLine_193 : decode cX11_readLine 193 = .ok (.ireturn, 1) := by decide +kernel
def b_X11_readLine (I : g_I) (x1 : Int32) : Option (Int32 × g_I) :=
  g_let (fun (z2 : Int32) (I184j : g_I) => g_bind (b_X11_mark I184j 59) fun I2 => some (x1 ||| z2, I2)) fun J184 => g_let (fun (z2 : Int32) (I79j : g_I) => if z2 = 1 then g_bind2 (b_X11_readNumber I79j 1 999) fun a11 I12 => g_let (am_up I12 104 9 a11) fun I14 => J184 z2 I14 else if z2 = 2 then g_bind2 (b_X11_readNumber I79j 1 23) fun a7 I8 => g_let (am_up I8 104 10 a7) fun I10 => J184 z2 I10 else g_bind (c_X11_readExpression 8 I79j 0) fun I5 => J184 z2 I5) fun J79 => g_let (fun (z2 : Int32) (z3 : Int32) (I64j : g_I) => if z2 ≤ 0 then if z3 = (-1) then g_bind (b_X11_is I64j q_49.2.2.2.2) fun t15 => if t15 = true then g_bind (b_X11_readLoaf I64j) fun I28 => J184 z2 I28 else g_bind (b_X11_is I64j q_50.2.2.2.2) fun t18 => if t18 = true then g_bind (b_X11_readMet I64j) fun I25 => J184 z2 I25 else g_bind (b_X11_wrong I64j 1) fun I22 => J184 z2 I22 else g_bind (b_X11_readPerson I64j z3) fun I31 => J184 z2 I31 else if (I64j 101 24) = 0 then g_bind (b_X11_stepOn I64j) fun I34 => J79 z2 I34 else J79 z2 I64j) fun J64 => g_let (fun (w0 : Int32) (I43j : g_I) => g_bind (b_X11_which I43j g_kinds) fun a36 => if (w0 &&& x1) = 0 then J64 w0 a36 I43j else g_bind (b_X11_wrong I43j 5) fun I40 => J64 w0 a36 I40) fun J43 => g_bind (b_X11_is I q_43.2.2.2.2) fun t42 => if t42 = true then J43 1 I else g_bind (b_X11_is I q_44.2.2.2.2) fun t45 => if t45 = true then J43 2 I else g_bind (b_X11_is I q_45.2.2.2.2) fun t48 => if t48 = true then J43 4 I else J43 0 I
set_option maxRecDepth 100000 in
set_option maxHeartbeats 4000000 in
theorem g_X11_readLine {G : am_G} (hK : k_OK G) {d : Nat} (hd : 89 ≤ d) {sh : List (Nat ⊕ (Nat × Nat))} {I : g_I} {R : Nat → Nat → Option Nat} {L : Nat → Nat → Int64} {g : Nat} (hm : k_Mod sh R) {x1 : Int32} {r : Int32 × g_I} (h : b_X11_readLine I x1 = some r) : AM G mX11_readLine d [.ref 101, .int x1] (sh, I, R, L, g) (fun v w => v = some (.int r.1) ∧ w = (sh, r.2, R, L, g)) (fun _ _ => False) := by
  have hG := hK.1
  refine AM.of (n := 2) (by decide +kernel) (Nat.le_of_ble_eq_true rfl) ?_
  show AW G mX11_readLine d (fun v w => v = some (.int r.1) ∧ w = (sh, r.2, R, L, g)) (fun _ _ => False) 0 [some (.ref 101), some (.int x1), none, none] [] (sh, I, R, L, g) 0 0
  unfold b_X11_readLine at h
  obtain ⟨J184, eJ184, h⟩ := g_letE h
  have H184 : ∀ (z2 : Int32) (I184j : g_I), J184 z2 I184j = some r → AW G mX11_readLine d (fun v w => v = some (.int r.1) ∧ w = (sh, r.2, R, L, g)) (fun _ _ => False) 184 [some (.ref 101), some (.int x1), some (.int z2), none] [] (sh, I184j, R, L, g) 0 0 := by
    intro z2 I184j h
    rw [eJ184] at h
    refine AW.aload_n dX11_readLine_184 rfl ?_
    refine AW.bipush 59 dX11_readLine_185 (by decide) ?_
    obtain ⟨I2, hx3, h⟩ := g_bindE h
    refine AW.callV (b := 101) (As := [.int 59]) hG.2.2 (vX11_248 hG) (hm.1 0 _ rfl) (g_X11_mark hK (d := 2) (Nat.le_refl _) hm hx3) (by omega) dX11_readLine_187 rfl rfl (Nat.le_of_ble_eq_true rfl) (fun v w9 hq9 h09 => by obtain ⟨rfl, rfl⟩ := hq9; exact ⟨h09, rfl⟩) (by decide) (by decide) (fun _ _ hx => hx) (fun v9 w9 hq9 => ?_)
    obtain ⟨rfl, rfl⟩ := hq9
    show AW G _ d _ _ 190 [some (.ref 101), some (.int x1), some (.int z2), none] [] (sh, I2, R, L, g) 0 0
    refine AW.iload_n dX11_readLine_190 rfl ?_
    refine AW.iload_n dX11_readLine_191 rfl ?_
    refine AW.ior dX11_readLine_192 ?_
    exact AW.iret dX11_readLine_193 rfl (by decide) (by decide) (by cases h; exact ⟨rfl, rfl⟩)
  obtain ⟨J79, eJ79, h⟩ := g_letE h
  have H79 : ∀ (z2 : Int32) (I79j : g_I), J79 z2 I79j = some r → AW G mX11_readLine d (fun v w => v = some (.int r.1) ∧ w = (sh, r.2, R, L, g)) (fun _ _ => False) 79 [some (.ref 101), some (.int x1), some (.int z2), none] [] (sh, I79j, R, L, g) 0 0 := by
    intro z2 I79j h
    rw [eJ79] at h
    refine AW.iload_n dX11_readLine_79 rfl ?_
    refine AW.iconst 1 dX11_readLine_80 (by decide) ?_
    refine AW.icmp_ne 102 dX11_readLine_81 (by decide) (fun hc81 => ?_) (fun hc81 => ?_)
    · replace h := g_neg hc81 h
      refine AW.iload_n dX11_readLine_102 rfl ?_
      refine AW.iconst 2 dX11_readLine_103 (by decide) ?_
      refine AW.icmp_ne 124 dX11_readLine_104 (by decide) (fun hc104 => ?_) (fun hc104 => ?_)
      · replace h := g_neg hc104 h
        refine AW.aload_n dX11_readLine_124 rfl ?_
        refine AW.iconst 0 dX11_readLine_125 (by decide) ?_
        obtain ⟨I5, hx6, h⟩ := g_bindE h
        refine AW.callV (b := 101) (As := [.int 0]) hG.2.2 (vX11_251 hG) (hm.1 0 _ rfl) (g2_X11_readExpression hK (d := 88) (Nat.le_refl _) hm hx6) (by omega) dX11_readLine_126 rfl rfl (Nat.le_of_ble_eq_true rfl) (fun v w9 hq9 h09 => by obtain ⟨rfl, rfl⟩ := hq9; exact ⟨h09, rfl⟩) (by decide) (by decide) (fun _ _ hx => hx) (fun v9 w9 hq9 => ?_)
        obtain ⟨rfl, rfl⟩ := hq9
        show AW G _ d _ _ 129 [some (.ref 101), some (.int x1), some (.int z2), none] [] (sh, I5, R, L, g) 0 0
        refine AW.goto 184 dX11_readLine_129 (by decide) ?_
        exact H184 _ _ h
      · replace h := g_pos hc104 h
        refine AW.aload_n dX11_readLine_107 rfl ?_
        refine AW.getR (c' := 104) (fX11_38 hG).r rfl (hm.1 0 _ rfl) (hm.2 (0, 3, 3) (by decide)) dX11_readLine_108 ?_
        refine AW.bipush 10 dX11_readLine_111 (by decide) ?_
        refine AW.aload_n dX11_readLine_113 rfl ?_
        refine AW.iconst 1 dX11_readLine_114 (by decide) ?_
        refine AW.bipush 23 dX11_readLine_115 (by decide) ?_
        obtain ⟨a7, I8, hx9, h⟩ := g_bind2E h
        refine AW.callV (b := 101) (As := [.int 1, .int 23]) hG.2.2 (vX11_238 hG) (hm.1 0 _ rfl) (g_X11_readNumber hK (d := 2) (Nat.le_refl _) hm hx9) (by omega) dX11_readLine_117 rfl rfl (Nat.le_of_ble_eq_true rfl) (fun v w9 hq9 h09 => by obtain ⟨rfl, rfl⟩ := hq9; exact ⟨h09, rfl⟩) (by decide) (by decide) (fun _ _ hx => hx) (fun v9 w9 hq9 => ?_)
        obtain ⟨rfl, rfl⟩ := hq9
        show AW G _ d _ _ 120 [some (.ref 101), some (.int x1), some (.int z2), none] [.int a7, .int 10, .ref 104] (sh, I8, R, L, g) 0 0
        refine AW.iast (hm.1 3 _ rfl) (by unfold vp_in; decide) dX11_readLine_120 ?_
        show AW G _ d _ _ 121 [some (.ref 101), some (.int x1), some (.int z2), none] [] (sh, am_up I8 104 10 a7, R, L, g) 0 0
        obtain ⟨I10, eI10, h⟩ := g_letE h
        refine AW.namIE eI10 ?_
        refine AW.goto 184 dX11_readLine_121 (by decide) ?_
        exact H184 _ _ h
    · replace h := g_pos hc81 h
      refine AW.aload_n dX11_readLine_84 rfl ?_
      refine AW.getR (c' := 104) (fX11_38 hG).r rfl (hm.1 0 _ rfl) (hm.2 (0, 3, 3) (by decide)) dX11_readLine_85 ?_
      refine AW.bipush 9 dX11_readLine_88 (by decide) ?_
      refine AW.aload_n dX11_readLine_90 rfl ?_
      refine AW.iconst 1 dX11_readLine_91 (by decide) ?_
      refine AW.sipush 999 dX11_readLine_92 (by decide) ?_
      obtain ⟨a11, I12, hx13, h⟩ := g_bind2E h
      refine AW.callV (b := 101) (As := [.int 1, .int 999]) hG.2.2 (vX11_238 hG) (hm.1 0 _ rfl) (g_X11_readNumber hK (d := 2) (Nat.le_refl _) hm hx13) (by omega) dX11_readLine_95 rfl rfl (Nat.le_of_ble_eq_true rfl) (fun v w9 hq9 h09 => by obtain ⟨rfl, rfl⟩ := hq9; exact ⟨h09, rfl⟩) (by decide) (by decide) (fun _ _ hx => hx) (fun v9 w9 hq9 => ?_)
      obtain ⟨rfl, rfl⟩ := hq9
      show AW G _ d _ _ 98 [some (.ref 101), some (.int x1), some (.int z2), none] [.int a11, .int 9, .ref 104] (sh, I12, R, L, g) 0 0
      refine AW.iast (hm.1 3 _ rfl) (by unfold vp_in; decide) dX11_readLine_98 ?_
      show AW G _ d _ _ 99 [some (.ref 101), some (.int x1), some (.int z2), none] [] (sh, am_up I12 104 9 a11, R, L, g) 0 0
      obtain ⟨I14, eI14, h⟩ := g_letE h
      refine AW.namIE eI14 ?_
      refine AW.goto 184 dX11_readLine_99 (by decide) ?_
      exact H184 _ _ h
  obtain ⟨J64, eJ64, h⟩ := g_letE h
  have H64 : ∀ (z2 : Int32) (z3 : Int32) (I64j : g_I), J64 z2 z3 I64j = some r → AW G mX11_readLine d (fun v w => v = some (.int r.1) ∧ w = (sh, r.2, R, L, g)) (fun _ _ => False) 64 [some (.ref 101), some (.int x1), some (.int z2), some (.int z3)] [] (sh, I64j, R, L, g) 0 0 := by
    intro z2 z3 I64j h
    rw [eJ64] at h
    refine AW.iload_n dX11_readLine_64 rfl ?_
    refine AW.if_le 132 dX11_readLine_65 (by decide) (fun hc65 => ?_) (fun hc65 => ?_)
    · replace h := g_pos hc65 h
      refine AW.iload_n dX11_readLine_132 rfl ?_
      refine AW.iconst (-1) dX11_readLine_133 (by decide) ?_
      refine AW.icmp_eq 145 dX11_readLine_134 (by decide) (fun hc134 => ?_) (fun hc134 => ?_)
      · replace h := g_pos hc134 h
        refine AW.aload_n dX11_readLine_145 rfl ?_
        refine AW.ldcSW (j := 49) hK q_49 k_s_49 rfl rfl dX11_readLine_146 ?_
        obtain ⟨t15, hx17, h⟩ := g_bindE h
        refine AW.callV (b := 101) (As := [.ref (1000000 + 49)]) hG.2.2 (vX11_221 hG) (hm.1 0 _ rfl) (g_X11_is hK (d := 4) (Nat.le_refl _) hm (k_txi hK k_s_49) hx17) (by omega) dX11_readLine_149 rfl rfl (Nat.le_of_ble_eq_true rfl) (fun v w9 hq9 h09 => by obtain ⟨rfl, rfl⟩ := hq9; exact ⟨h09, rfl⟩) (by decide) (by decide) (fun _ _ hx => hx) (fun v9 w9 hq9 => ?_)
        obtain ⟨rfl, rfl⟩ := hq9
        show AW G _ d _ _ 152 [some (.ref 101), some (.int x1), some (.int z2), some (.int z3)] [.int (kb t15)] (sh, I64j, R, L, g) 0 0
        refine AW.if_eq 162 dX11_readLine_152 (by decide) (fun hc152 => ?_) (fun hc152 => ?_)
        · replace h := g_neg (g_kb0 hc152) h
          refine AW.aload_n dX11_readLine_162 rfl ?_
          refine AW.ldcSW (j := 50) hK q_50 k_s_50 rfl rfl dX11_readLine_163 ?_
          obtain ⟨t18, hx20, h⟩ := g_bindE h
          refine AW.callV (b := 101) (As := [.ref (1000000 + 50)]) hG.2.2 (vX11_221 hG) (hm.1 0 _ rfl) (g_X11_is hK (d := 4) (Nat.le_refl _) hm (k_txi hK k_s_50) hx20) (by omega) dX11_readLine_166 rfl rfl (Nat.le_of_ble_eq_true rfl) (fun v w9 hq9 h09 => by obtain ⟨rfl, rfl⟩ := hq9; exact ⟨h09, rfl⟩) (by decide) (by decide) (fun _ _ hx => hx) (fun v9 w9 hq9 => ?_)
          obtain ⟨rfl, rfl⟩ := hq9
          show AW G _ d _ _ 169 [some (.ref 101), some (.int x1), some (.int z2), some (.int z3)] [.int (kb t18)] (sh, I64j, R, L, g) 0 0
          refine AW.if_eq 179 dX11_readLine_169 (by decide) (fun hc169 => ?_) (fun hc169 => ?_)
          · replace h := g_neg (g_kb0 hc169) h
            refine AW.aload_n dX11_readLine_179 rfl ?_
            refine AW.iconst 1 dX11_readLine_180 (by decide) ?_
            obtain ⟨I22, hx23, h⟩ := g_bindE h
            refine AW.callV (b := 101) (As := [.int 1]) hG.2.2 (vX11_228 hG) (hm.1 0 _ rfl) (g_X11_wrong hK (d := 0) (Nat.le_refl _) hm hx23) (by omega) dX11_readLine_181 rfl rfl (Nat.le_of_ble_eq_true rfl) (fun v w9 hq9 h09 => by obtain ⟨rfl, rfl⟩ := hq9; exact ⟨h09, rfl⟩) (by decide) (by decide) (fun _ _ hx => hx) (fun v9 w9 hq9 => ?_)
            obtain ⟨rfl, rfl⟩ := hq9
            show AW G _ d _ _ 184 [some (.ref 101), some (.int x1), some (.int z2), some (.int z3)] [] (sh, I22, R, L, g) 0 0
            refine AW.mask [3] [some (.ref 101), some (.int x1), some (.int z2), none] rfl ?_
            exact H184 _ _ h
          · replace h := g_pos (kb_1.mp hc169) h
            refine AW.aload_n dX11_readLine_172 rfl ?_
            obtain ⟨I25, hx26, h⟩ := g_bindE h
            refine AW.callV (b := 101) (As := []) hG.2.2 (vX11_304 hG) (hm.1 0 _ rfl) (g_X11_readMet hK (d := 3) (Nat.le_refl _) hm hx26) (by omega) dX11_readLine_173 rfl rfl (Nat.le_of_ble_eq_true rfl) (fun v w9 hq9 h09 => by obtain ⟨rfl, rfl⟩ := hq9; exact ⟨h09, rfl⟩) (by decide) (by decide) (fun _ _ hx => hx) (fun v9 w9 hq9 => ?_)
            obtain ⟨rfl, rfl⟩ := hq9
            show AW G _ d _ _ 176 [some (.ref 101), some (.int x1), some (.int z2), some (.int z3)] [] (sh, I25, R, L, g) 0 0
            refine AW.goto 184 dX11_readLine_176 (by decide) ?_
            refine AW.mask [3] [some (.ref 101), some (.int x1), some (.int z2), none] rfl ?_
            exact H184 _ _ h
        · replace h := g_pos (kb_1.mp hc152) h
          refine AW.aload_n dX11_readLine_155 rfl ?_
          obtain ⟨I28, hx29, h⟩ := g_bindE h
          refine AW.callV (b := 101) (As := []) hG.2.2 (vX11_299 hG) (hm.1 0 _ rfl) (g_X11_readLoaf hK (d := 3) (Nat.le_refl _) hm hx29) (by omega) dX11_readLine_156 rfl rfl (Nat.le_of_ble_eq_true rfl) (fun v w9 hq9 h09 => by obtain ⟨rfl, rfl⟩ := hq9; exact ⟨h09, rfl⟩) (by decide) (by decide) (fun _ _ hx => hx) (fun v9 w9 hq9 => ?_)
          obtain ⟨rfl, rfl⟩ := hq9
          show AW G _ d _ _ 159 [some (.ref 101), some (.int x1), some (.int z2), some (.int z3)] [] (sh, I28, R, L, g) 0 0
          refine AW.goto 184 dX11_readLine_159 (by decide) ?_
          refine AW.mask [3] [some (.ref 101), some (.int x1), some (.int z2), none] rfl ?_
          exact H184 _ _ h
      · replace h := g_neg hc134 h
        refine AW.aload_n dX11_readLine_137 rfl ?_
        refine AW.iload_n dX11_readLine_138 rfl ?_
        obtain ⟨I31, hx32, h⟩ := g_bindE h
        refine AW.callV (b := 101) (As := [.int z3]) hG.2.2 (vX11_294 hG) (hm.1 0 _ rfl) (g_X11_readPerson hK (d := 3) (Nat.le_refl _) hm hx32) (by omega) dX11_readLine_139 rfl rfl (Nat.le_of_ble_eq_true rfl) (fun v w9 hq9 h09 => by obtain ⟨rfl, rfl⟩ := hq9; exact ⟨h09, rfl⟩) (by decide) (by decide) (fun _ _ hx => hx) (fun v9 w9 hq9 => ?_)
        obtain ⟨rfl, rfl⟩ := hq9
        show AW G _ d _ _ 142 [some (.ref 101), some (.int x1), some (.int z2), some (.int z3)] [] (sh, I31, R, L, g) 0 0
        refine AW.goto 184 dX11_readLine_142 (by decide) ?_
        refine AW.mask [3] [some (.ref 101), some (.int x1), some (.int z2), none] rfl ?_
        exact H184 _ _ h
    · replace h := g_neg hc65 h
      refine AW.aload_n dX11_readLine_68 rfl ?_
      refine AW.getI (fX11_207 hG).r rfl (hm.1 0 _ rfl) dX11_readLine_69 ?_
      refine AW.if_ne 79 dX11_readLine_72 (by decide) (fun hc72 => ?_) (fun hc72 => ?_)
      · replace h := g_neg hc72 h
        refine AW.mask [3] [some (.ref 101), some (.int x1), some (.int z2), none] rfl ?_
        exact H79 _ _ h
      · replace h := g_pos hc72 h
        refine AW.aload_n dX11_readLine_75 rfl ?_
        obtain ⟨I34, hx35, h⟩ := g_bindE h
        refine AW.callV (b := 101) (As := []) hG.2.2 (vX11_232 hG) (hm.1 0 _ rfl) (g_X11_stepOn hK (d := 1) (Nat.le_refl _) hm hx35) (by omega) dX11_readLine_76 rfl rfl (Nat.le_of_ble_eq_true rfl) (fun v w9 hq9 h09 => by obtain ⟨rfl, rfl⟩ := hq9; exact ⟨h09, rfl⟩) (by decide) (by decide) (fun _ _ hx => hx) (fun v9 w9 hq9 => ?_)
        obtain ⟨rfl, rfl⟩ := hq9
        show AW G _ d _ _ 79 [some (.ref 101), some (.int x1), some (.int z2), some (.int z3)] [] (sh, I34, R, L, g) 0 0
        refine AW.mask [3] [some (.ref 101), some (.int x1), some (.int z2), none] rfl ?_
        exact H79 _ _ h
  obtain ⟨J43, eJ43, h⟩ := g_letE h
  have H43 : ∀ (w0 : Int32) (I43j : g_I), J43 w0 I43j = some r → AW G mX11_readLine d (fun v w => v = some (.int r.1) ∧ w = (sh, r.2, R, L, g)) (fun _ _ => False) 43 [some (.ref 101), some (.int x1), none, none] [.int w0] (sh, I43j, R, L, g) 0 0 := by
    intro w0 I43j h
    rw [eJ43] at h
    refine AW.is_n [some (.ref 101), some (.int x1), some (.int w0), none] dX11_readLine_43 (by decide) rfl rfl ?_
    refine AW.aload_n dX11_readLine_44 rfl ?_
    refine AW.aload_n dX11_readLine_45 rfl ?_
    refine AW.getR (c' := 102) (fX11_19 hG).r rfl (hm.1 0 _ rfl) (hm.2 (0, 0, 1) (by decide)) dX11_readLine_46 ?_
    obtain ⟨a36, hx38, h⟩ := g_bindE h
    refine AW.callV (b := 101) (As := [.ref 102]) hG.2.2 (vX11_244 hG) (hm.1 0 _ rfl) (g_X11_which hK (d := 5) (Nat.le_refl _) hm (hm.1 1 _ rfl) (by decide) (g_kinds_ok hK hm) hx38) (by omega) dX11_readLine_49 rfl rfl (Nat.le_of_ble_eq_true rfl) (fun v w9 hq9 h09 => by obtain ⟨rfl, rfl⟩ := hq9; exact ⟨h09, rfl⟩) (by decide) (by decide) (fun _ _ hx => hx) (fun v9 w9 hq9 => ?_)
    obtain ⟨rfl, rfl⟩ := hq9
    show AW G _ d _ _ 52 [some (.ref 101), some (.int x1), some (.int w0), none] [.int a36] (sh, I43j, R, L, g) 0 0
    refine AW.is_n [some (.ref 101), some (.int x1), some (.int w0), some (.int a36)] dX11_readLine_52 (by decide) rfl rfl ?_
    refine AW.iload_n dX11_readLine_53 rfl ?_
    refine AW.iload_n dX11_readLine_54 rfl ?_
    refine AW.iand dX11_readLine_55 ?_
    refine AW.if_eq 64 dX11_readLine_56 (by decide) (fun hc56 => ?_) (fun hc56 => ?_)
    · replace h := g_pos hc56 h
      exact H64 _ _ _ h
    · replace h := g_neg hc56 h
      refine AW.aload_n dX11_readLine_59 rfl ?_
      refine AW.iconst 5 dX11_readLine_60 (by decide) ?_
      obtain ⟨I40, hx41, h⟩ := g_bindE h
      refine AW.callV (b := 101) (As := [.int 5]) hG.2.2 (vX11_228 hG) (hm.1 0 _ rfl) (g_X11_wrong hK (d := 0) (Nat.le_refl _) hm hx41) (by omega) dX11_readLine_61 rfl rfl (Nat.le_of_ble_eq_true rfl) (fun v w9 hq9 h09 => by obtain ⟨rfl, rfl⟩ := hq9; exact ⟨h09, rfl⟩) (by decide) (by decide) (fun _ _ hx => hx) (fun v9 w9 hq9 => ?_)
      obtain ⟨rfl, rfl⟩ := hq9
      show AW G _ d _ _ 64 [some (.ref 101), some (.int x1), some (.int w0), some (.int a36)] [] (sh, I40, R, L, g) 0 0
      exact H64 _ _ _ h
  refine AW.aload_n dX11_readLine_0 rfl ?_
  refine AW.ldcSW (j := 43) hK q_43 k_s_43 rfl rfl dX11_readLine_1 ?_
  obtain ⟨t42, hx44, h⟩ := g_bindE h
  refine AW.callV (b := 101) (As := [.ref (1000000 + 43)]) hG.2.2 (vX11_221 hG) (hm.1 0 _ rfl) (g_X11_is hK (d := 4) (Nat.le_refl _) hm (k_txi hK k_s_43) hx44) (by omega) dX11_readLine_4 rfl rfl (Nat.le_of_ble_eq_true rfl) (fun v w9 hq9 h09 => by obtain ⟨rfl, rfl⟩ := hq9; exact ⟨h09, rfl⟩) (by decide) (by decide) (fun _ _ hx => hx) (fun v9 w9 hq9 => ?_)
  obtain ⟨rfl, rfl⟩ := hq9
  show AW G _ d _ _ 7 [some (.ref 101), some (.int x1), none, none] [.int (kb t42)] (sh, I, R, L, g) 0 0
  refine AW.if_eq 14 dX11_readLine_7 (by decide) (fun hc7 => ?_) (fun hc7 => ?_)
  · replace h := g_neg (g_kb0 hc7) h
    refine AW.aload_n dX11_readLine_14 rfl ?_
    refine AW.ldcSW (j := 44) hK q_44 k_s_44 rfl rfl dX11_readLine_15 ?_
    obtain ⟨t45, hx47, h⟩ := g_bindE h
    refine AW.callV (b := 101) (As := [.ref (1000000 + 44)]) hG.2.2 (vX11_221 hG) (hm.1 0 _ rfl) (g_X11_is hK (d := 4) (Nat.le_refl _) hm (k_txi hK k_s_44) hx47) (by omega) dX11_readLine_18 rfl rfl (Nat.le_of_ble_eq_true rfl) (fun v w9 hq9 h09 => by obtain ⟨rfl, rfl⟩ := hq9; exact ⟨h09, rfl⟩) (by decide) (by decide) (fun _ _ hx => hx) (fun v9 w9 hq9 => ?_)
    obtain ⟨rfl, rfl⟩ := hq9
    show AW G _ d _ _ 21 [some (.ref 101), some (.int x1), none, none] [.int (kb t45)] (sh, I, R, L, g) 0 0
    refine AW.if_eq 28 dX11_readLine_21 (by decide) (fun hc21 => ?_) (fun hc21 => ?_)
    · replace h := g_neg (g_kb0 hc21) h
      refine AW.aload_n dX11_readLine_28 rfl ?_
      refine AW.ldcSW (j := 45) hK q_45 k_s_45 rfl rfl dX11_readLine_29 ?_
      obtain ⟨t48, hx50, h⟩ := g_bindE h
      refine AW.callV (b := 101) (As := [.ref (1000000 + 45)]) hG.2.2 (vX11_221 hG) (hm.1 0 _ rfl) (g_X11_is hK (d := 4) (Nat.le_refl _) hm (k_txi hK k_s_45) hx50) (by omega) dX11_readLine_32 rfl rfl (Nat.le_of_ble_eq_true rfl) (fun v w9 hq9 h09 => by obtain ⟨rfl, rfl⟩ := hq9; exact ⟨h09, rfl⟩) (by decide) (by decide) (fun _ _ hx => hx) (fun v9 w9 hq9 => ?_)
      obtain ⟨rfl, rfl⟩ := hq9
      show AW G _ d _ _ 35 [some (.ref 101), some (.int x1), none, none] [.int (kb t48)] (sh, I, R, L, g) 0 0
      refine AW.if_eq 42 dX11_readLine_35 (by decide) (fun hc35 => ?_) (fun hc35 => ?_)
      · replace h := g_neg (g_kb0 hc35) h
        refine AW.iconst 0 dX11_readLine_42 (by decide) ?_
        exact H43 _ _ h
      · replace h := g_pos (kb_1.mp hc35) h
        refine AW.iconst 4 dX11_readLine_38 (by decide) ?_
        refine AW.goto 43 dX11_readLine_39 (by decide) ?_
        exact H43 _ _ h
    · replace h := g_pos (kb_1.mp hc21) h
      refine AW.iconst 2 dX11_readLine_24 (by decide) ?_
      refine AW.goto 43 dX11_readLine_25 (by decide) ?_
      exact H43 _ _ h
  · replace h := g_pos (kb_1.mp hc7) h
    refine AW.iconst 1 dX11_readLine_10 (by decide) ?_
    refine AW.goto 43 dX11_readLine_11 (by decide) ?_
    exact H43 _ _ h
theorem dX11_takeHalf_0 : decode cX11_takeHalf 0 = .ok (.iconst 0, 1) := by decide +kernel
theorem dX11_takeHalf_1 : decode cX11_takeHalf 1 = .ok (.istore_n 1, 1) := by decide +kernel
theorem dX11_takeHalf_2 : decode cX11_takeHalf 2 = .ok (.iload_n 1, 1) := by decide +kernel
theorem dX11_takeHalf_3 : decode cX11_takeHalf 3 = .ok (.aload_n 0, 1) := by decide +kernel
theorem dX11_takeHalf_4 : decode cX11_takeHalf 4 = .ok (.arraylength, 1) := by decide +kernel
theorem dX11_takeHalf_5 : decode cX11_takeHalf 5 = .ok (.iconst 2, 1) := by decide +kernel
theorem dX11_takeHalf_6 : decode cX11_takeHalf 6 = .ok (.idiv, 1) := by decide +kernel
theorem dX11_takeHalf_7 : decode cX11_takeHalf 7 = .ok (.if_icmp .ge 20, 3) := by decide +kernel
theorem dX11_takeHalf_10 : decode cX11_takeHalf 10 = .ok (.aload_n 0, 1) := by decide +kernel
theorem dX11_takeHalf_11 : decode cX11_takeHalf 11 = .ok (.iload_n 1, 1) := by decide +kernel
theorem dX11_takeHalf_12 : decode cX11_takeHalf 12 = .ok (.aload_n 0, 1) := by decide +kernel
theorem dX11_takeHalf_13 : decode cX11_takeHalf 13 = .ok (.aload_n 0, 1) := by decide +kernel
theorem dX11_takeHalf_14 : decode cX11_takeHalf 14 = .ok (.arraylength, 1) := by decide +kernel
theorem dX11_takeHalf_15 : decode cX11_takeHalf 15 = .ok (.iconst 2, 1) := by decide +kernel
theorem dX11_takeHalf_16 : decode cX11_takeHalf 16 = .ok (.idiv, 1) := by decide +kernel
theorem dX11_takeHalf_17 : decode cX11_takeHalf 17 = .ok (.iload_n 1, 1) := by decide +kernel
theorem dX11_takeHalf_18 : decode cX11_takeHalf 18 = .ok (.iadd, 1) := by decide +kernel
theorem dX11_takeHalf_19 : decode cX11_takeHalf 19 = .ok (.iaload, 1) := by decide +kernel
theorem dX11_takeHalf_20 : decode cX11_takeHalf 20 = .ok (.iastore, 1) := by decide +kernel
theorem dX11_takeHalf_21 : decode cX11_takeHalf 21 = .ok (.iinc 1 1, 3) := by decide +kernel
theorem dX11_takeHalf_24 : decode cX11_takeHalf 24 = .ok (.goto (-22), 3) := by decide +kernel
theorem dX11_takeHalf_27 : decode cX11_takeHalf 27 = .ok (.return_, 1) := by decide +kernel
def b_X11_takeHalf_L2 (c0 n0 : Nat) (K : g_I → Option (g_I)) : Nat → Int32 → g_I → Option (g_I)
  | 0, _, _ => none
  | f + 1, x1, I => if ((nI n0) / 2) ≤ x1 then K I else if g_in (((nI n0) / 2) + x1) n0 = true then if g_in x1 n0 = true then g_let (am_up I c0 x1.toNatClampNeg (I c0 (((nI n0) / 2) + x1).toNatClampNeg)) fun I1 => b_X11_takeHalf_L2 c0 n0 K f (x1 + 1) I1 else none else none
def b_X11_takeHalf (I : g_I) (c0 : Nat) (n0 : Nat) : Option (g_I) :=
  b_X11_takeHalf_L2 c0 n0 (fun (I2 : g_I) => some I2) fu 0 I
set_option maxRecDepth 100000 in
set_option maxHeartbeats 4000000 in
theorem gL_X11_takeHalf_2 {G : am_G} (hK : k_OK G) {c0 n0 : Nat} {d : Nat} (hd : 0 ≤ d) {sh : List (Nat ⊕ (Nat × Nat))} {I : g_I} {R : Nat → Nat → Option Nat} {L : Nat → Nat → Int64} {g : Nat} (hc0 : sh[c0]? = some (.inr (0, n0))) {K : g_I → Option (g_I)} {x1 : Int32} {f : Nat} {r : g_I} (h : b_X11_takeHalf_L2 c0 n0 K f x1 I = some r) (hk : ∀ (J : g_I), K J = some r → AW G mX11_takeHalf d (fun v w => v = none ∧ w = (sh, r, R, L, g)) (fun _ _ => False) 27 [none, none] [] (sh, J, R, L, g) 0 0) : AW G mX11_takeHalf d (fun v w => v = none ∧ w = (sh, r, R, L, g)) (fun _ _ => False) 2 [some (.ref c0), some (.int x1)] [] (sh, I, R, L, g) 0 0 := by
  have hG := hK.1
  induction f generalizing x1 I with
  | zero => rw [b_X11_takeHalf_L2] at h; cases h
  | succ f ih =>
    rw [b_X11_takeHalf_L2] at h
    refine AW.iload_n dX11_takeHalf_2 rfl ?_
    refine AW.aload_n dX11_takeHalf_3 rfl ?_
    refine AW.alen (v := nI n0) hc0 (by decide) rfl dX11_takeHalf_4 ?_
    refine AW.iconst 2 dX11_takeHalf_5 (by decide) ?_
    refine AW.idiv dX11_takeHalf_6 (by decide) ?_
    refine AW.icmp_ge 27 dX11_takeHalf_7 (by decide) (fun hc7 => ?_) (fun hc7 => ?_)
    · replace h := g_pos hc7 h
      refine AW.mask [0, 1] [none, none] rfl ?_
      exact hk _ h
    · replace h := g_neg hc7 h
      refine AW.aload_n dX11_takeHalf_10 rfl ?_
      refine AW.iload_n dX11_takeHalf_11 rfl ?_
      refine AW.aload_n dX11_takeHalf_12 rfl ?_
      refine AW.aload_n dX11_takeHalf_13 rfl ?_
      refine AW.alen (v := nI n0) hc0 (by decide) rfl dX11_takeHalf_14 ?_
      refine AW.iconst 2 dX11_takeHalf_15 (by decide) ?_
      refine AW.idiv dX11_takeHalf_16 (by decide) ?_
      refine AW.iload_n dX11_takeHalf_17 rfl ?_
      refine AW.iadd dX11_takeHalf_18 ?_
      obtain ⟨hb, h⟩ := g_ifE h
      refine AW.iald hc0 (g_in_iff.mp hb) dX11_takeHalf_19 ?_
      obtain ⟨hb, h⟩ := g_ifE h
      refine AW.iast hc0 (g_in_iff.mp hb) dX11_takeHalf_20 ?_
      obtain ⟨I1, eI1, h⟩ := g_letE h
      refine AW.namIE eI1 ?_
      refine AW.incE 1 (by decide) [some (.ref c0), some (.int (x1 + 1))] dX11_takeHalf_21 rfl (by decide) rfl rfl ?_
      refine AW.goto 2 dX11_takeHalf_24 (by decide) ?_
      exact ih h
set_option maxRecDepth 100000 in
set_option maxHeartbeats 4000000 in
theorem g_X11_takeHalf {G : am_G} (hK : k_OK G) {d : Nat} (hd : 0 ≤ d) {sh : List (Nat ⊕ (Nat × Nat))} {I : g_I} {R : Nat → Nat → Option Nat} {L : Nat → Nat → Int64} {g : Nat} {c0 n0 : Nat} (hc0 : sh[c0]? = some (.inr (0, n0))) {r : g_I} (h : b_X11_takeHalf I c0 n0 = some r) : AM G mX11_takeHalf d [.ref c0] (sh, I, R, L, g) (fun v w => v = none ∧ w = (sh, r, R, L, g)) (fun _ _ => False) := by
  have hG := hK.1
  refine AM.of (n := 1) (by decide +kernel) (Nat.le_of_ble_eq_true rfl) ?_
  show AW G mX11_takeHalf d (fun v w => v = none ∧ w = (sh, r, R, L, g)) (fun _ _ => False) 0 [some (.ref c0), none] [] (sh, I, R, L, g) 0 0
  unfold b_X11_takeHalf at h
  refine AW.iconst 0 dX11_takeHalf_0 (by decide) ?_
  refine AW.is_n [some (.ref c0), some (.int 0)] dX11_takeHalf_1 (by decide) rfl rfl ?_
  refine gL_X11_takeHalf_2 hK hd hc0 h (fun I2 h => ?_)
  exact AW.vret dX11_takeHalf_27 rfl (by decide) (by decide) (by cases h; exact ⟨rfl, rfl⟩)
theorem dX11_takeOver_0 : decode cX11_takeOver 0 = .ok (.aload_n 0, 1) := by decide +kernel
theorem dX11_takeOver_1 : decode cX11_takeOver 1 = .ok (.getfield 38, 3) := by decide +kernel
theorem dX11_takeOver_4 : decode cX11_takeOver 4 = .ok (.invokestatic 317, 3) := by decide +kernel
theorem dX11_takeOver_7 : decode cX11_takeOver 7 = .ok (.aload_n 0, 1) := by decide +kernel
theorem dX11_takeOver_8 : decode cX11_takeOver 8 = .ok (.getfield 42, 3) := by decide +kernel
theorem dX11_takeOver_11 : decode cX11_takeOver 11 = .ok (.invokestatic 317, 3) := by decide +kernel
theorem dX11_takeOver_14 : decode cX11_takeOver 14 = .ok (.aload_n 0, 1) := by decide +kernel
theorem dX11_takeOver_15 : decode cX11_takeOver 15 = .ok (.getfield 44, 3) := by decide +kernel
theorem dX11_takeOver_18 : decode cX11_takeOver 18 = .ok (.invokestatic 317, 3) := by decide +kernel
theorem dX11_takeOver_21 : decode cX11_takeOver 21 = .ok (.aload_n 0, 1) := by decide +kernel
theorem dX11_takeOver_22 : decode cX11_takeOver 22 = .ok (.getfield 47, 3) := by decide +kernel
theorem dX11_takeOver_25 : decode cX11_takeOver 25 = .ok (.invokestatic 317, 3) := by decide +kernel
theorem dX11_takeOver_28 : decode cX11_takeOver 28 = .ok (.aload_n 0, 1) := by decide +kernel
theorem dX11_takeOver_29 : decode cX11_takeOver 29 = .ok (.getfield 49, 3) := by decide +kernel
theorem dX11_takeOver_32 : decode cX11_takeOver 32 = .ok (.invokestatic 317, 3) := by decide +kernel
theorem dX11_takeOver_35 : decode cX11_takeOver 35 = .ok (.aload_n 0, 1) := by decide +kernel
theorem dX11_takeOver_36 : decode cX11_takeOver 36 = .ok (.getfield 52, 3) := by decide +kernel
theorem dX11_takeOver_39 : decode cX11_takeOver 39 = .ok (.invokestatic 317, 3) := by decide +kernel
theorem dX11_takeOver_42 : decode cX11_takeOver 42 = .ok (.aload_n 0, 1) := by decide +kernel
theorem dX11_takeOver_43 : decode cX11_takeOver 43 = .ok (.getfield 55, 3) := by decide +kernel
theorem dX11_takeOver_46 : decode cX11_takeOver 46 = .ok (.invokestatic 317, 3) := by decide +kernel
theorem dX11_takeOver_49 : decode cX11_takeOver 49 = .ok (.aload_n 0, 1) := by decide +kernel
theorem dX11_takeOver_50 : decode cX11_takeOver 50 = .ok (.getfield 58, 3) := by decide +kernel
theorem dX11_takeOver_53 : decode cX11_takeOver 53 = .ok (.invokestatic 317, 3) := by decide +kernel
theorem dX11_takeOver_56 : decode cX11_takeOver 56 = .ok (.aload_n 0, 1) := by decide +kernel
theorem dX11_takeOver_57 : decode cX11_takeOver 57 = .ok (.getfield 61, 3) := by decide +kernel
theorem dX11_takeOver_60 : decode cX11_takeOver 60 = .ok (.invokestatic 317, 3) := by decide +kernel
theorem dX11_takeOver_63 : decode cX11_takeOver 63 = .ok (.aload_n 0, 1) := by decide +kernel
theorem dX11_takeOver_64 : decode cX11_takeOver 64 = .ok (.getfield 64, 3) := by decide +kernel
theorem dX11_takeOver_67 : decode cX11_takeOver 67 = .ok (.invokestatic 317, 3) := by decide +kernel
theorem dX11_takeOver_70 : decode cX11_takeOver 70 = .ok (.aload_n 0, 1) := by decide +kernel
theorem dX11_takeOver_71 : decode cX11_takeOver 71 = .ok (.getfield 67, 3) := by decide +kernel
theorem dX11_takeOver_74 : decode cX11_takeOver 74 = .ok (.invokestatic 317, 3) := by decide +kernel
theorem dX11_takeOver_77 : decode cX11_takeOver 77 = .ok (.aload_n 0, 1) := by decide +kernel
theorem dX11_takeOver_78 : decode cX11_takeOver 78 = .ok (.getfield 70, 3) := by decide +kernel
theorem dX11_takeOver_81 : decode cX11_takeOver 81 = .ok (.invokestatic 317, 3) := by decide +kernel
theorem dX11_takeOver_84 : decode cX11_takeOver 84 = .ok (.aload_n 0, 1) := by decide +kernel
theorem dX11_takeOver_85 : decode cX11_takeOver 85 = .ok (.iconst 0, 1) := by decide +kernel
theorem dX11_takeOver_86 : decode cX11_takeOver 86 = .ok (.putfield 321, 3) := by decide +kernel
theorem dX11_takeOver_89 : decode cX11_takeOver 89 = .ok (.aload_n 0, 1) := by decide +kernel
theorem dX11_takeOver_90 : decode cX11_takeOver 90 = .ok (.iconst 0, 1) := by decide +kernel
theorem dX11_takeOver_91 : decode cX11_takeOver 91 = .ok (.putfield 324, 3) := by decide +kernel
theorem dX11_takeOver_94 : decode cX11_takeOver 94 = .ok (.iconst 0, 1) := by decide +kernel
theorem dX11_takeOver_95 : decode cX11_takeOver 95 = .ok (.istore_n 1, 1) := by decide +kernel
theorem dX11_takeOver_96 : decode cX11_takeOver 96 = .ok (.iload_n 1, 1) := by decide +kernel
theorem dX11_takeOver_97 : decode cX11_takeOver 97 = .ok (.bipush 6, 2) := by decide +kernel
theorem dX11_takeOver_99 : decode cX11_takeOver 99 = .ok (.if_icmp .ge 16, 3) := by decide +kernel
theorem dX11_takeOver_102 : decode cX11_takeOver 102 = .ok (.aload_n 0, 1) := by decide +kernel
theorem dX11_takeOver_103 : decode cX11_takeOver 103 = .ok (.getfield 83, 3) := by decide +kernel
theorem dX11_takeOver_106 : decode cX11_takeOver 106 = .ok (.iload_n 1, 1) := by decide +kernel
theorem dX11_takeOver_107 : decode cX11_takeOver 107 = .ok (.iconst (-1), 1) := by decide +kernel
theorem dX11_takeOver_108 : decode cX11_takeOver 108 = .ok (.iastore, 1) := by decide +kernel
theorem dX11_takeOver_109 : decode cX11_takeOver 109 = .ok (.iinc 1 1, 3) := by decide +kernel
theorem dX11_takeOver_112 : decode cX11_takeOver 112 = .ok (.goto (-16), 3) := by decide +kernel
theorem dX11_takeOver_115 : decode cX11_takeOver 115 = .ok (.iconst 0, 1) := by decide +kernel
theorem dX11_takeOver_116 : decode cX11_takeOver 116 = .ok (.istore_n 1, 1) := by decide +kernel
theorem dX11_takeOver_117 : decode cX11_takeOver 117 = .ok (.iload_n 1, 1) := by decide +kernel
theorem dX11_takeOver_118 : decode cX11_takeOver 118 = .ok (.bipush 8, 2) := by decide +kernel
theorem dX11_takeOver_120 : decode cX11_takeOver 120 = .ok (.if_icmp .ge 16, 3) := by decide +kernel
theorem dX11_takeOver_123 : decode cX11_takeOver 123 = .ok (.aload_n 0, 1) := by decide +kernel
theorem dX11_takeOver_124 : decode cX11_takeOver 124 = .ok (.getfield 86, 3) := by decide +kernel
theorem dX11_takeOver_127 : decode cX11_takeOver 127 = .ok (.iload_n 1, 1) := by decide +kernel
theorem dX11_takeOver_128 : decode cX11_takeOver 128 = .ok (.iconst 0, 1) := by decide +kernel
theorem dX11_takeOver_129 : decode cX11_takeOver 129 = .ok (.iastore, 1) := by decide +kernel
theorem dX11_takeOver_130 : decode cX11_takeOver 130 = .ok (.iinc 1 1, 3) := by decide +kernel
theorem dX11_takeOver_133 : decode cX11_takeOver 133 = .ok (.goto (-16), 3) := by decide +kernel
theorem dX11_takeOver_136 : decode cX11_takeOver 136 = .ok (.aload_n 0, 1) := by decide +kernel
theorem dX11_takeOver_137 : decode cX11_takeOver 137 = .ok (.iconst 0, 1) := by decide +kernel
theorem dX11_takeOver_138 : decode cX11_takeOver 138 = .ok (.putfield 327, 3) := by decide +kernel
theorem dX11_takeOver_141 : decode cX11_takeOver 141 = .ok (.aload_n 0, 1) := by decide +kernel
theorem dX11_takeOver_142 : decode cX11_takeOver 142 = .ok (.iconst 0, 1) := by decide +kernel
theorem dX11_takeOver_143 : decode cX11_takeOver 143 = .ok (.putfield 330, 3) := by decide +kernel
theorem dX11_takeOver_146 : decode cX11_takeOver 146 = .ok (.aload_n 0, 1) := by decide +kernel
theorem dX11_takeOver_147 : decode cX11_takeOver 147 = .ok (.iconst 0, 1) := by decide +kernel
theorem dX11_takeOver_148 : decode cX11_takeOver 148 = .ok (.putfield 333, 3) := by decide +kernel
theorem dX11_takeOver_151 : decode cX11_takeOver 151 = .ok (.aload_n 0, 1) := by decide +kernel
theorem dX11_takeOver_152 : decode cX11_takeOver 152 = .ok (.iconst 0, 1) := by decide +kernel
theorem dX11_takeOver_153 : decode cX11_takeOver 153 = .ok (.putfield 336, 3) := by decide +kernel
theorem dX11_takeOver_156 : decode cX11_takeOver 156 = .ok (.aload_n 0, 1) := by decide +kernel
theorem dX11_takeOver_157 : decode cX11_takeOver 157 = .ok (.iconst 0, 1) := by decide +kernel
theorem dX11_takeOver_158 : decode cX11_takeOver 158 = .ok (.putfield 340, 3) := by decide +kernel
theorem dX11_takeOver_161 : decode cX11_takeOver 161 = .ok (.return_, 1) := by decide +kernel
def b_X11_takeOver_L96 (K : g_I → Option (g_I)) : Nat → Int32 → g_I → Option (g_I)
  | 0, _, _ => none
  | f + 1, x1, I => if 6 ≤ x1 then K I else if g_in x1 6 = true then g_let (am_up I 118 x1.toNatClampNeg (-1)) fun I39 => b_X11_takeOver_L96 K f (x1 + 1) I39 else none
def b_X11_takeOver_L117 (K : g_I → Option (g_I)) : Nat → Int32 → g_I → Option (g_I)
  | 0, _, _ => none
  | f + 1, x1, I => if 8 ≤ x1 then K I else if g_in x1 8 = true then g_let (am_up I 119 x1.toNatClampNeg 0) fun I41 => b_X11_takeOver_L117 K f (x1 + 1) I41 else none
def b_X11_takeOver (I : g_I) : Option (g_I) :=
  g_bind (b_X11_takeHalf I 104 12) fun I2 => g_bind (b_X11_takeHalf I2 105 16) fun I5 => g_bind (b_X11_takeHalf I5 106 16) fun I8 => g_bind (b_X11_takeHalf I8 107 16) fun I11 => g_bind (b_X11_takeHalf I11 108 12) fun I14 => g_bind (b_X11_takeHalf I14 109 12) fun I17 => g_bind (b_X11_takeHalf I17 110 12) fun I20 => g_bind (b_X11_takeHalf I20 111 12) fun I23 => g_bind (b_X11_takeHalf I23 112 12) fun I26 => g_bind (b_X11_takeHalf I26 113 72) fun I29 => g_bind (b_X11_takeHalf I29 114 128) fun I32 => g_bind (b_X11_takeHalf I32 115 1200) fun I35 => g_let (am_up I35 101 30 0) fun I37 => g_let (am_up I37 101 31 0) fun I38 => b_X11_takeOver_L96 (fun (I40 : g_I) => b_X11_takeOver_L117 (fun (I42 : g_I) => g_let (am_up I42 101 32 0) fun I43 => g_let (am_up I43 101 33 0) fun I44 => g_let (am_up I44 101 34 0) fun I45 => g_let (am_up I45 101 45 0) fun I46 => g_let (am_up I46 101 57 0) fun I47 => some I47) fu 0 I40) fu 0 I38
set_option maxRecDepth 100000 in
set_option maxHeartbeats 4000000 in
theorem gL_X11_takeOver_96 {G : am_G} (hK : k_OK G) {d : Nat} (hd : 1 ≤ d) {sh : List (Nat ⊕ (Nat × Nat))} {I : g_I} {R : Nat → Nat → Option Nat} {L : Nat → Nat → Int64} {g : Nat} (hm : k_Mod sh R) {K : g_I → Option (g_I)} {x1 : Int32} {f : Nat} {r : g_I} (h : b_X11_takeOver_L96 K f x1 I = some r) (hk : ∀ (J : g_I), K J = some r → AW G mX11_takeOver d (fun v w => v = none ∧ w = (sh, r, R, L, g)) (fun _ _ => False) 115 [some (.ref 101), none] [] (sh, J, R, L, g) 0 0) : AW G mX11_takeOver d (fun v w => v = none ∧ w = (sh, r, R, L, g)) (fun _ _ => False) 96 [some (.ref 101), some (.int x1)] [] (sh, I, R, L, g) 0 0 := by
  have hG := hK.1
  induction f generalizing x1 I with
  | zero => rw [b_X11_takeOver_L96] at h; cases h
  | succ f ih =>
    rw [b_X11_takeOver_L96] at h
    refine AW.iload_n dX11_takeOver_96 rfl ?_
    refine AW.bipush 6 dX11_takeOver_97 (by decide) ?_
    refine AW.icmp_ge 115 dX11_takeOver_99 (by decide) (fun hc99 => ?_) (fun hc99 => ?_)
    · replace h := g_pos hc99 h
      refine AW.mask [1] [some (.ref 101), none] rfl ?_
      exact hk _ h
    · replace h := g_neg hc99 h
      refine AW.aload_n dX11_takeOver_102 rfl ?_
      refine AW.getR (c' := 118) (fX11_83 hG).r rfl (hm.1 0 _ rfl) (hm.2 (0, 27, 17) (by decide)) dX11_takeOver_103 ?_
      refine AW.iload_n dX11_takeOver_106 rfl ?_
      refine AW.iconst (-1) dX11_takeOver_107 (by decide) ?_
      obtain ⟨hb, h⟩ := g_ifE h
      refine AW.iast (hm.1 17 _ rfl) (g_in_iff.mp hb) dX11_takeOver_108 ?_
      obtain ⟨I39, eI39, h⟩ := g_letE h
      refine AW.namIE eI39 ?_
      refine AW.incE 1 (by decide) [some (.ref 101), some (.int (x1 + 1))] dX11_takeOver_109 rfl (by decide) rfl rfl ?_
      refine AW.goto 96 dX11_takeOver_112 (by decide) ?_
      exact ih h
set_option maxRecDepth 100000 in
set_option maxHeartbeats 4000000 in
theorem gL_X11_takeOver_117 {G : am_G} (hK : k_OK G) {d : Nat} (hd : 1 ≤ d) {sh : List (Nat ⊕ (Nat × Nat))} {I : g_I} {R : Nat → Nat → Option Nat} {L : Nat → Nat → Int64} {g : Nat} (hm : k_Mod sh R) {K : g_I → Option (g_I)} {x1 : Int32} {f : Nat} {r : g_I} (h : b_X11_takeOver_L117 K f x1 I = some r) (hk : ∀ (J : g_I), K J = some r → AW G mX11_takeOver d (fun v w => v = none ∧ w = (sh, r, R, L, g)) (fun _ _ => False) 136 [some (.ref 101), none] [] (sh, J, R, L, g) 0 0) : AW G mX11_takeOver d (fun v w => v = none ∧ w = (sh, r, R, L, g)) (fun _ _ => False) 117 [some (.ref 101), some (.int x1)] [] (sh, I, R, L, g) 0 0 := by
  have hG := hK.1
  induction f generalizing x1 I with
  | zero => rw [b_X11_takeOver_L117] at h; cases h
  | succ f ih =>
    rw [b_X11_takeOver_L117] at h
    refine AW.iload_n dX11_takeOver_117 rfl ?_
    refine AW.bipush 8 dX11_takeOver_118 (by decide) ?_
    refine AW.icmp_ge 136 dX11_takeOver_120 (by decide) (fun hc120 => ?_) (fun hc120 => ?_)
    · replace h := g_pos hc120 h
      refine AW.mask [1] [some (.ref 101), none] rfl ?_
      exact hk _ h
    · replace h := g_neg hc120 h
      refine AW.aload_n dX11_takeOver_123 rfl ?_
      refine AW.getR (c' := 119) (fX11_86 hG).r rfl (hm.1 0 _ rfl) (hm.2 (0, 28, 18) (by decide)) dX11_takeOver_124 ?_
      refine AW.iload_n dX11_takeOver_127 rfl ?_
      refine AW.iconst 0 dX11_takeOver_128 (by decide) ?_
      obtain ⟨hb, h⟩ := g_ifE h
      refine AW.iast (hm.1 18 _ rfl) (g_in_iff.mp hb) dX11_takeOver_129 ?_
      obtain ⟨I41, eI41, h⟩ := g_letE h
      refine AW.namIE eI41 ?_
      refine AW.incE 1 (by decide) [some (.ref 101), some (.int (x1 + 1))] dX11_takeOver_130 rfl (by decide) rfl rfl ?_
      refine AW.goto 117 dX11_takeOver_133 (by decide) ?_
      exact ih h
set_option maxRecDepth 100000 in
set_option maxHeartbeats 4000000 in
theorem g_X11_takeOver {G : am_G} (hK : k_OK G) {d : Nat} (hd : 1 ≤ d) {sh : List (Nat ⊕ (Nat × Nat))} {I : g_I} {R : Nat → Nat → Option Nat} {L : Nat → Nat → Int64} {g : Nat} (hm : k_Mod sh R) {r : g_I} (h : b_X11_takeOver I = some r) : AM G mX11_takeOver d [.ref 101] (sh, I, R, L, g) (fun v w => v = none ∧ w = (sh, r, R, L, g)) (fun _ _ => False) := by
  have hG := hK.1
  refine AM.of (n := 1) (by decide +kernel) (Nat.le_of_ble_eq_true rfl) ?_
  show AW G mX11_takeOver d (fun v w => v = none ∧ w = (sh, r, R, L, g)) (fun _ _ => False) 0 [some (.ref 101), none] [] (sh, I, R, L, g) 0 0
  unfold b_X11_takeOver at h
  refine AW.aload_n dX11_takeOver_0 rfl ?_
  refine AW.getR (c' := 104) (fX11_38 hG).r rfl (hm.1 0 _ rfl) (hm.2 (0, 3, 3) (by decide)) dX11_takeOver_1 ?_
  obtain ⟨I2, hx3, h⟩ := g_bindE h
  refine AW.callS (As := [.ref 104]) hG.2.2 (vX11_317 hG) (g_X11_takeHalf hK (d := 0) (Nat.le_refl _) (hm.1 3 _ rfl) hx3) (by omega) dX11_takeOver_4 rfl rfl (Nat.le_of_ble_eq_true rfl) (fun v w9 hq9 h09 => by obtain ⟨rfl, rfl⟩ := hq9; exact ⟨h09, rfl⟩) (by decide) (by decide) (fun _ _ hx => hx) (fun v9 w9 hq9 => ?_)
  obtain ⟨rfl, rfl⟩ := hq9
  show AW G _ d _ _ 7 [some (.ref 101), none] [] (sh, I2, R, L, g) 0 0
  refine AW.aload_n dX11_takeOver_7 rfl ?_
  refine AW.getR (c' := 105) (fX11_42 hG).r rfl (hm.1 0 _ rfl) (hm.2 (0, 4, 4) (by decide)) dX11_takeOver_8 ?_
  obtain ⟨I5, hx6, h⟩ := g_bindE h
  refine AW.callS (As := [.ref 105]) hG.2.2 (vX11_317 hG) (g_X11_takeHalf hK (d := 0) (Nat.le_refl _) (hm.1 4 _ rfl) hx6) (by omega) dX11_takeOver_11 rfl rfl (Nat.le_of_ble_eq_true rfl) (fun v w9 hq9 h09 => by obtain ⟨rfl, rfl⟩ := hq9; exact ⟨h09, rfl⟩) (by decide) (by decide) (fun _ _ hx => hx) (fun v9 w9 hq9 => ?_)
  obtain ⟨rfl, rfl⟩ := hq9
  show AW G _ d _ _ 14 [some (.ref 101), none] [] (sh, I5, R, L, g) 0 0
  refine AW.aload_n dX11_takeOver_14 rfl ?_
  refine AW.getR (c' := 106) (fX11_44 hG).r rfl (hm.1 0 _ rfl) (hm.2 (0, 5, 5) (by decide)) dX11_takeOver_15 ?_
  obtain ⟨I8, hx9, h⟩ := g_bindE h
  refine AW.callS (As := [.ref 106]) hG.2.2 (vX11_317 hG) (g_X11_takeHalf hK (d := 0) (Nat.le_refl _) (hm.1 5 _ rfl) hx9) (by omega) dX11_takeOver_18 rfl rfl (Nat.le_of_ble_eq_true rfl) (fun v w9 hq9 h09 => by obtain ⟨rfl, rfl⟩ := hq9; exact ⟨h09, rfl⟩) (by decide) (by decide) (fun _ _ hx => hx) (fun v9 w9 hq9 => ?_)
  obtain ⟨rfl, rfl⟩ := hq9
  show AW G _ d _ _ 21 [some (.ref 101), none] [] (sh, I8, R, L, g) 0 0
  refine AW.aload_n dX11_takeOver_21 rfl ?_
  refine AW.getR (c' := 107) (fX11_47 hG).r rfl (hm.1 0 _ rfl) (hm.2 (0, 6, 6) (by decide)) dX11_takeOver_22 ?_
  obtain ⟨I11, hx12, h⟩ := g_bindE h
  refine AW.callS (As := [.ref 107]) hG.2.2 (vX11_317 hG) (g_X11_takeHalf hK (d := 0) (Nat.le_refl _) (hm.1 6 _ rfl) hx12) (by omega) dX11_takeOver_25 rfl rfl (Nat.le_of_ble_eq_true rfl) (fun v w9 hq9 h09 => by obtain ⟨rfl, rfl⟩ := hq9; exact ⟨h09, rfl⟩) (by decide) (by decide) (fun _ _ hx => hx) (fun v9 w9 hq9 => ?_)
  obtain ⟨rfl, rfl⟩ := hq9
  show AW G _ d _ _ 28 [some (.ref 101), none] [] (sh, I11, R, L, g) 0 0
  refine AW.aload_n dX11_takeOver_28 rfl ?_
  refine AW.getR (c' := 108) (fX11_49 hG).r rfl (hm.1 0 _ rfl) (hm.2 (0, 7, 7) (by decide)) dX11_takeOver_29 ?_
  obtain ⟨I14, hx15, h⟩ := g_bindE h
  refine AW.callS (As := [.ref 108]) hG.2.2 (vX11_317 hG) (g_X11_takeHalf hK (d := 0) (Nat.le_refl _) (hm.1 7 _ rfl) hx15) (by omega) dX11_takeOver_32 rfl rfl (Nat.le_of_ble_eq_true rfl) (fun v w9 hq9 h09 => by obtain ⟨rfl, rfl⟩ := hq9; exact ⟨h09, rfl⟩) (by decide) (by decide) (fun _ _ hx => hx) (fun v9 w9 hq9 => ?_)
  obtain ⟨rfl, rfl⟩ := hq9
  show AW G _ d _ _ 35 [some (.ref 101), none] [] (sh, I14, R, L, g) 0 0
  refine AW.aload_n dX11_takeOver_35 rfl ?_
  refine AW.getR (c' := 109) (fX11_52 hG).r rfl (hm.1 0 _ rfl) (hm.2 (0, 8, 8) (by decide)) dX11_takeOver_36 ?_
  obtain ⟨I17, hx18, h⟩ := g_bindE h
  refine AW.callS (As := [.ref 109]) hG.2.2 (vX11_317 hG) (g_X11_takeHalf hK (d := 0) (Nat.le_refl _) (hm.1 8 _ rfl) hx18) (by omega) dX11_takeOver_39 rfl rfl (Nat.le_of_ble_eq_true rfl) (fun v w9 hq9 h09 => by obtain ⟨rfl, rfl⟩ := hq9; exact ⟨h09, rfl⟩) (by decide) (by decide) (fun _ _ hx => hx) (fun v9 w9 hq9 => ?_)
  obtain ⟨rfl, rfl⟩ := hq9
  show AW G _ d _ _ 42 [some (.ref 101), none] [] (sh, I17, R, L, g) 0 0
  refine AW.aload_n dX11_takeOver_42 rfl ?_
  refine AW.getR (c' := 110) (fX11_55 hG).r rfl (hm.1 0 _ rfl) (hm.2 (0, 9, 9) (by decide)) dX11_takeOver_43 ?_
  obtain ⟨I20, hx21, h⟩ := g_bindE h
  refine AW.callS (As := [.ref 110]) hG.2.2 (vX11_317 hG) (g_X11_takeHalf hK (d := 0) (Nat.le_refl _) (hm.1 9 _ rfl) hx21) (by omega) dX11_takeOver_46 rfl rfl (Nat.le_of_ble_eq_true rfl) (fun v w9 hq9 h09 => by obtain ⟨rfl, rfl⟩ := hq9; exact ⟨h09, rfl⟩) (by decide) (by decide) (fun _ _ hx => hx) (fun v9 w9 hq9 => ?_)
  obtain ⟨rfl, rfl⟩ := hq9
  show AW G _ d _ _ 49 [some (.ref 101), none] [] (sh, I20, R, L, g) 0 0
  refine AW.aload_n dX11_takeOver_49 rfl ?_
  refine AW.getR (c' := 111) (fX11_58 hG).r rfl (hm.1 0 _ rfl) (hm.2 (0, 10, 10) (by decide)) dX11_takeOver_50 ?_
  obtain ⟨I23, hx24, h⟩ := g_bindE h
  refine AW.callS (As := [.ref 111]) hG.2.2 (vX11_317 hG) (g_X11_takeHalf hK (d := 0) (Nat.le_refl _) (hm.1 10 _ rfl) hx24) (by omega) dX11_takeOver_53 rfl rfl (Nat.le_of_ble_eq_true rfl) (fun v w9 hq9 h09 => by obtain ⟨rfl, rfl⟩ := hq9; exact ⟨h09, rfl⟩) (by decide) (by decide) (fun _ _ hx => hx) (fun v9 w9 hq9 => ?_)
  obtain ⟨rfl, rfl⟩ := hq9
  show AW G _ d _ _ 56 [some (.ref 101), none] [] (sh, I23, R, L, g) 0 0
  refine AW.aload_n dX11_takeOver_56 rfl ?_
  refine AW.getR (c' := 112) (fX11_61 hG).r rfl (hm.1 0 _ rfl) (hm.2 (0, 11, 11) (by decide)) dX11_takeOver_57 ?_
  obtain ⟨I26, hx27, h⟩ := g_bindE h
  refine AW.callS (As := [.ref 112]) hG.2.2 (vX11_317 hG) (g_X11_takeHalf hK (d := 0) (Nat.le_refl _) (hm.1 11 _ rfl) hx27) (by omega) dX11_takeOver_60 rfl rfl (Nat.le_of_ble_eq_true rfl) (fun v w9 hq9 h09 => by obtain ⟨rfl, rfl⟩ := hq9; exact ⟨h09, rfl⟩) (by decide) (by decide) (fun _ _ hx => hx) (fun v9 w9 hq9 => ?_)
  obtain ⟨rfl, rfl⟩ := hq9
  show AW G _ d _ _ 63 [some (.ref 101), none] [] (sh, I26, R, L, g) 0 0
  refine AW.aload_n dX11_takeOver_63 rfl ?_
  refine AW.getR (c' := 113) (fX11_64 hG).r rfl (hm.1 0 _ rfl) (hm.2 (0, 12, 12) (by decide)) dX11_takeOver_64 ?_
  obtain ⟨I29, hx30, h⟩ := g_bindE h
  refine AW.callS (As := [.ref 113]) hG.2.2 (vX11_317 hG) (g_X11_takeHalf hK (d := 0) (Nat.le_refl _) (hm.1 12 _ rfl) hx30) (by omega) dX11_takeOver_67 rfl rfl (Nat.le_of_ble_eq_true rfl) (fun v w9 hq9 h09 => by obtain ⟨rfl, rfl⟩ := hq9; exact ⟨h09, rfl⟩) (by decide) (by decide) (fun _ _ hx => hx) (fun v9 w9 hq9 => ?_)
  obtain ⟨rfl, rfl⟩ := hq9
  show AW G _ d _ _ 70 [some (.ref 101), none] [] (sh, I29, R, L, g) 0 0
  refine AW.aload_n dX11_takeOver_70 rfl ?_
  refine AW.getR (c' := 114) (fX11_67 hG).r rfl (hm.1 0 _ rfl) (hm.2 (0, 13, 13) (by decide)) dX11_takeOver_71 ?_
  obtain ⟨I32, hx33, h⟩ := g_bindE h
  refine AW.callS (As := [.ref 114]) hG.2.2 (vX11_317 hG) (g_X11_takeHalf hK (d := 0) (Nat.le_refl _) (hm.1 13 _ rfl) hx33) (by omega) dX11_takeOver_74 rfl rfl (Nat.le_of_ble_eq_true rfl) (fun v w9 hq9 h09 => by obtain ⟨rfl, rfl⟩ := hq9; exact ⟨h09, rfl⟩) (by decide) (by decide) (fun _ _ hx => hx) (fun v9 w9 hq9 => ?_)
  obtain ⟨rfl, rfl⟩ := hq9
  show AW G _ d _ _ 77 [some (.ref 101), none] [] (sh, I32, R, L, g) 0 0
  refine AW.aload_n dX11_takeOver_77 rfl ?_
  refine AW.getR (c' := 115) (fX11_70 hG).r rfl (hm.1 0 _ rfl) (hm.2 (0, 14, 14) (by decide)) dX11_takeOver_78 ?_
  obtain ⟨I35, hx36, h⟩ := g_bindE h
  refine AW.callS (As := [.ref 115]) hG.2.2 (vX11_317 hG) (g_X11_takeHalf hK (d := 0) (Nat.le_refl _) (hm.1 14 _ rfl) hx36) (by omega) dX11_takeOver_81 rfl rfl (Nat.le_of_ble_eq_true rfl) (fun v w9 hq9 h09 => by obtain ⟨rfl, rfl⟩ := hq9; exact ⟨h09, rfl⟩) (by decide) (by decide) (fun _ _ hx => hx) (fun v9 w9 hq9 => ?_)
  obtain ⟨rfl, rfl⟩ := hq9
  show AW G _ d _ _ 84 [some (.ref 101), none] [] (sh, I35, R, L, g) 0 0
  refine AW.aload_n dX11_takeOver_84 rfl ?_
  refine AW.iconst 0 dX11_takeOver_85 (by decide) ?_
  refine AW.putI (fX11_321 hG) rfl (vp_nar_int _) rfl (hm.1 0 _ rfl) dX11_takeOver_86 ?_
  obtain ⟨I37, eI37, h⟩ := g_letE h
  refine AW.namIE eI37 ?_
  refine AW.aload_n dX11_takeOver_89 rfl ?_
  refine AW.iconst 0 dX11_takeOver_90 (by decide) ?_
  refine AW.putI (fX11_324 hG) rfl (vp_nar_int _) rfl (hm.1 0 _ rfl) dX11_takeOver_91 ?_
  obtain ⟨I38, eI38, h⟩ := g_letE h
  refine AW.namIE eI38 ?_
  refine AW.iconst 0 dX11_takeOver_94 (by decide) ?_
  refine AW.is_n [some (.ref 101), some (.int 0)] dX11_takeOver_95 (by decide) rfl rfl ?_
  refine gL_X11_takeOver_96 hK hd hm h (fun I40 h => ?_)
  refine AW.iconst 0 dX11_takeOver_115 (by decide) ?_
  refine AW.is_n [some (.ref 101), some (.int 0)] dX11_takeOver_116 (by decide) rfl rfl ?_
  refine gL_X11_takeOver_117 hK hd hm h (fun I42 h => ?_)
  refine AW.aload_n dX11_takeOver_136 rfl ?_
  refine AW.iconst 0 dX11_takeOver_137 (by decide) ?_
  refine AW.putI (fX11_327 hG) rfl (vp_nar_int _) rfl (hm.1 0 _ rfl) dX11_takeOver_138 ?_
  obtain ⟨I43, eI43, h⟩ := g_letE h
  refine AW.namIE eI43 ?_
  refine AW.aload_n dX11_takeOver_141 rfl ?_
  refine AW.iconst 0 dX11_takeOver_142 (by decide) ?_
  refine AW.putI (fX11_330 hG) rfl (vp_nar_int _) rfl (hm.1 0 _ rfl) dX11_takeOver_143 ?_
  obtain ⟨I44, eI44, h⟩ := g_letE h
  refine AW.namIE eI44 ?_
  refine AW.aload_n dX11_takeOver_146 rfl ?_
  refine AW.iconst 0 dX11_takeOver_147 (by decide) ?_
  refine AW.putI (fX11_333 hG) rfl (vp_nar_int _) rfl (hm.1 0 _ rfl) dX11_takeOver_148 ?_
  obtain ⟨I45, eI45, h⟩ := g_letE h
  refine AW.namIE eI45 ?_
  refine AW.aload_n dX11_takeOver_151 rfl ?_
  refine AW.iconst 0 dX11_takeOver_152 (by decide) ?_
  refine AW.putI (fX11_336 hG) rfl (by decide) (by decide) (hm.1 0 _ rfl) dX11_takeOver_153 ?_
  obtain ⟨I46, eI46, h⟩ := g_letE h
  refine AW.namIE eI46 ?_
  refine AW.aload_n dX11_takeOver_156 rfl ?_
  refine AW.iconst 0 dX11_takeOver_157 (by decide) ?_
  refine AW.putI (fX11_340 hG) rfl (by decide) (by decide) (hm.1 0 _ rfl) dX11_takeOver_158 ?_
  obtain ⟨I47, eI47, h⟩ := g_letE h
  refine AW.namIE eI47 ?_
  exact AW.vret dX11_takeOver_161 rfl (by decide) (by decide) (by cases h; exact ⟨rfl, rfl⟩)
theorem dX11_town_0 : decode cX11_town 0 = .ok (.aload_n 0, 1) := by decide +kernel
theorem dX11_town_1 : decode cX11_town 1 = .ok (.iconst 0, 1) := by decide +kernel
theorem dX11_town_2 : decode cX11_town 2 = .ok (.putfield 159, 3) := by decide +kernel
theorem dX11_town_5 : decode cX11_town 5 = .ok (.iload_n 1, 1) := by decide +kernel
theorem dX11_town_6 : decode cX11_town 6 = .ok (.ifCond .lt 11, 3) := by decide +kernel
theorem dX11_town_9 : decode cX11_town 9 = .ok (.iload_n 1, 1) := by decide +kernel
theorem dX11_town_10 : decode cX11_town 10 = .ok (.aload_n 0, 1) := by decide +kernel
theorem dX11_town_11 : decode cX11_town 11 = .ok (.getfield 166, 3) := by decide +kernel
theorem dX11_town_14 : decode cX11_town 14 = .ok (.if_icmp .le 9, 3) := by decide +kernel
theorem dX11_town_17 : decode cX11_town 17 = .ok (.aload_n 0, 1) := by decide +kernel
theorem dX11_town_18 : decode cX11_town 18 = .ok (.iconst 1, 1) := by decide +kernel
theorem dX11_town_19 : decode cX11_town 19 = .ok (.invokevirtual 307, 3) := by decide +kernel
theorem dX11_town_22 : decode cX11_town 22 = .ok (.ireturn, 1) := by decide +kernel
theorem dX11_town_23 : decode cX11_town 23 = .ok (.aload_n 0, 1) := by decide +kernel
theorem dX11_town_24 : decode cX11_town 24 = .ok (.iconst 0, 1) := by decide +kernel
theorem dX11_town_25 : decode cX11_town 25 = .ok (.putfield 166, 3) := by decide +kernel
theorem dX11_town_28 : decode cX11_town 28 = .ok (.aload_n 0, 1) := by decide +kernel
theorem dX11_town_29 : decode cX11_town 29 = .ok (.iload_n 1, 1) := by decide +kernel
theorem dX11_town_30 : decode cX11_town 30 = .ok (.putfield 169, 3) := by decide +kernel
theorem dX11_town_33 : decode cX11_town 33 = .ok (.aload_n 0, 1) := by decide +kernel
theorem dX11_town_34 : decode cX11_town 34 = .ok (.iconst 0, 1) := by decide +kernel
theorem dX11_town_35 : decode cX11_town 35 = .ok (.putfield 171, 3) := by decide +kernel
theorem dX11_town_38 : decode cX11_town 38 = .ok (.aload_n 0, 1) := by decide +kernel
theorem dX11_town_39 : decode cX11_town 39 = .ok (.iconst 0, 1) := by decide +kernel
theorem dX11_town_40 : decode cX11_town 40 = .ok (.putfield 207, 3) := by decide +kernel
theorem dX11_town_43 : decode cX11_town 43 = .ok (.aload_n 0, 1) := by decide +kernel
theorem dX11_town_44 : decode cX11_town 44 = .ok (.iconst (-1), 1) := by decide +kernel
theorem dX11_town_45 : decode cX11_town 45 = .ok (.putfield 79, 3) := by decide +kernel
theorem dX11_town_48 : decode cX11_town 48 = .ok (.iconst 0, 1) := by decide +kernel
theorem dX11_town_49 : decode cX11_town 49 = .ok (.istore_n 2, 1) := by decide +kernel
theorem dX11_town_50 : decode cX11_town 50 = .ok (.iload_n 2, 1) := by decide +kernel
theorem dX11_town_51 : decode cX11_town 51 = .ok (.bipush 6, 2) := by decide +kernel
theorem dX11_town_53 : decode cX11_town 53 = .ok (.if_icmp .ge 40, 3) := by decide +kernel
theorem dX11_town_56 : decode cX11_town 56 = .ok (.aload_n 0, 1) := by decide +kernel
theorem dX11_town_57 : decode cX11_town 57 = .ok (.getfield 38, 3) := by decide +kernel
theorem dX11_town_60 : decode cX11_town 60 = .ok (.bipush 6, 2) := by decide +kernel
theorem dX11_town_62 : decode cX11_town 62 = .ok (.iload_n 2, 1) := by decide +kernel
theorem dX11_town_63 : decode cX11_town 63 = .ok (.iadd, 1) := by decide +kernel
theorem dX11_town_64 : decode cX11_town 64 = .ok (.iload_n 2, 1) := by decide +kernel
theorem dX11_town_65 : decode cX11_town 65 = .ok (.iconst 3, 1) := by decide +kernel
theorem dX11_town_66 : decode cX11_town 66 = .ok (.if_icmp .ne 9, 3) := by decide +kernel
theorem dX11_town_69 : decode cX11_town 69 = .ok (.sipush 365, 3) := by decide +kernel
theorem dX11_town_72 : decode cX11_town 72 = .ok (.goto 14, 3) := by decide +kernel
theorem dX11_town_75 : decode cX11_town 75 = .ok (.iload_n 2, 1) := by decide +kernel
theorem dX11_town_76 : decode cX11_town 76 = .ok (.iconst 4, 1) := by decide +kernel
theorem dX11_town_77 : decode cX11_town 77 = .ok (.if_icmp .ne 8, 3) := by decide +kernel
theorem dX11_town_80 : decode cX11_town 80 = .ok (.bipush 12, 2) := by decide +kernel
theorem dX11_town_82 : decode cX11_town 82 = .ok (.goto 4, 3) := by decide +kernel
theorem dX11_town_85 : decode cX11_town 85 = .ok (.iconst 0, 1) := by decide +kernel
theorem dX11_town_86 : decode cX11_town 86 = .ok (.iastore, 1) := by decide +kernel
theorem dX11_town_87 : decode cX11_town 87 = .ok (.iinc 2 1, 3) := by decide +kernel
theorem dX11_town_90 : decode cX11_town 90 = .ok (.goto (-40), 3) := by decide +kernel
theorem dX11_town_93 : decode cX11_town 93 = .ok (.iconst 0, 1) := by decide +kernel
theorem dX11_town_94 : decode cX11_town 94 = .ok (.istore_n 2, 1) := by decide +kernel
theorem dX11_town_95 : decode cX11_town 95 = .ok (.iload_n 2, 1) := by decide +kernel
theorem dX11_town_96 : decode cX11_town 96 = .ok (.bipush 64, 2) := by decide +kernel
theorem dX11_town_98 : decode cX11_town 98 = .ok (.if_icmp .ge 21, 3) := by decide +kernel
theorem dX11_town_101 : decode cX11_town 101 = .ok (.aload_n 0, 1) := by decide +kernel
theorem dX11_town_102 : decode cX11_town 102 = .ok (.getfield 67, 3) := by decide +kernel
theorem dX11_town_105 : decode cX11_town 105 = .ok (.bipush 64, 2) := by decide +kernel
theorem dX11_town_107 : decode cX11_town 107 = .ok (.iload_n 2, 1) := by decide +kernel
theorem dX11_town_108 : decode cX11_town 108 = .ok (.iadd, 1) := by decide +kernel
theorem dX11_town_109 : decode cX11_town 109 = .ok (.ldc_w 310, 3) := by decide +kernel
theorem dX11_town_112 : decode cX11_town 112 = .ok (.iastore, 1) := by decide +kernel
theorem dX11_town_113 : decode cX11_town 113 = .ok (.iinc 2 1, 3) := by decide +kernel
theorem dX11_town_116 : decode cX11_town 116 = .ok (.goto (-21), 3) := by decide +kernel
theorem dX11_town_119 : decode cX11_town 119 = .ok (.aload_n 0, 1) := by decide +kernel
theorem dX11_town_120 : decode cX11_town 120 = .ok (.invokevirtual 232, 3) := by decide +kernel
theorem dX11_town_123 : decode cX11_town 123 = .ok (.iconst 0, 1) := by decide +kernel
theorem dX11_town_124 : decode cX11_town 124 = .ok (.istore_n 2, 1) := by decide +kernel
theorem dX11_town_125 : decode cX11_town 125 = .ok (.aload_n 0, 1) := by decide +kernel
theorem dX11_town_126 : decode cX11_town 126 = .ok (.getfield 207, 3) := by decide +kernel
theorem dX11_town_129 : decode cX11_town 129 = .ok (.ifCond .ne 19, 3) := by decide +kernel
theorem dX11_town_132 : decode cX11_town 132 = .ok (.aload_n 0, 1) := by decide +kernel
theorem dX11_town_133 : decode cX11_town 133 = .ok (.getfield 181, 3) := by decide +kernel
theorem dX11_town_136 : decode cX11_town 136 = .ok (.ifCond .eq 12, 3) := by decide +kernel
theorem dX11_town_139 : decode cX11_town 139 = .ok (.aload_n 0, 1) := by decide +kernel
theorem dX11_town_140 : decode cX11_town 140 = .ok (.iload_n 2, 1) := by decide +kernel
theorem dX11_town_141 : decode cX11_town 141 = .ok (.invokevirtual 311, 3) := by decide +kernel
theorem dX11_town_144 : decode cX11_town 144 = .ok (.istore_n 2, 1) := by decide +kernel
theorem dX11_town_145 : decode cX11_town 145 = .ok (.goto (-20), 3) := by decide +kernel
theorem dX11_town_148 : decode cX11_town 148 = .ok (.aload_n 0, 1) := by decide +kernel
theorem dX11_town_149 : decode cX11_town 149 = .ok (.getfield 207, 3) := by decide +kernel
theorem dX11_town_152 : decode cX11_town 152 = .ok (.ifCond .eq 26, 3) := by decide +kernel
theorem dX11_town_155 : decode cX11_town 155 = .ok (.aload_n 0, 1) := by decide +kernel
theorem dX11_town_156 : decode cX11_town 156 = .ok (.aload_n 0, 1) := by decide +kernel
theorem dX11_town_157 : decode cX11_town 157 = .ok (.getfield 210, 3) := by decide +kernel
theorem dX11_town_160 : decode cX11_town 160 = .ok (.putfield 79, 3) := by decide +kernel
theorem dX11_town_163 : decode cX11_town 163 = .ok (.aload_n 0, 1) := by decide +kernel
theorem dX11_town_164 : decode cX11_town 164 = .ok (.getfield 73, 3) := by decide +kernel
theorem dX11_town_167 : decode cX11_town 167 = .ok (.iconst 0, 1) := by decide +kernel
theorem dX11_town_168 : decode cX11_town 168 = .ok (.dup2, 1) := by decide +kernel
theorem dX11_town_169 : decode cX11_town 169 = .ok (.iaload, 1) := by decide +kernel
theorem dX11_town_170 : decode cX11_town 170 = .ok (.iconst 1, 1) := by decide +kernel
theorem dX11_town_171 : decode cX11_town 171 = .ok (.iadd, 1) := by decide +kernel
theorem dX11_town_172 : decode cX11_town 172 = .ok (.iastore, 1) := by decide +kernel
theorem dX11_town_173 : decode cX11_town 173 = .ok (.aload_n 0, 1) := by decide +kernel
theorem dX11_town_174 : decode cX11_town 174 = .ok (.getfield 207, 3) := by decide +kernel
theorem dX11_town_177 : decode cX11_town 177 = .ok (.ireturn, 1) := by decide +kernel
theorem dX11_town_178 : decode cX11_town 178 = .ok (.aload_n 0, 1) := by decide +kernel
theorem dX11_town_179 : decode cX11_town 179 = .ok (.invokevirtual 314, 3) := by decide +kernel
theorem dX11_town_182 : decode cX11_town 182 = .ok (.iconst 0, 1) := by decide +kernel
theorem dX11_town_183 : decode cX11_town 183 = .ok (.ireturn, 1) := by decide +kernel
def b_X11_town_L50 (K : g_I → Option (Int32 × g_I)) : Nat → Int32 → g_I → Option (Int32 × g_I)
  | 0, _, _ => none
  | f + 1, x2, I => if 6 ≤ x2 then K I else if x2 = 3 then if g_in ((6 : Int32) + x2) 12 = true then g_let (am_up I 104 ((6 : Int32) + x2).toNatClampNeg 365) fun I12 => b_X11_town_L50 K f (x2 + 1) I12 else none else if x2 = 4 then if g_in ((6 : Int32) + x2) 12 = true then g_let (am_up I 104 ((6 : Int32) + x2).toNatClampNeg 12) fun I11 => b_X11_town_L50 K f (x2 + 1) I11 else none else if g_in ((6 : Int32) + x2) 12 = true then g_let (am_up I 104 ((6 : Int32) + x2).toNatClampNeg 0) fun I10 => b_X11_town_L50 K f (x2 + 1) I10 else none
def b_X11_town_L95 (K : g_I → Option (Int32 × g_I)) : Nat → Int32 → g_I → Option (Int32 × g_I)
  | 0, _, _ => none
  | f + 1, x2, I => if 64 ≤ x2 then K I else if g_in ((64 : Int32) + x2) 128 = true then g_let (am_up I 114 ((64 : Int32) + x2).toNatClampNeg (-100000)) fun I14 => b_X11_town_L95 K f (x2 + 1) I14 else none
def b_X11_town_L125 (K : g_I → Option (Int32 × g_I)) : Nat → Int32 → g_I → Option (Int32 × g_I)
  | 0, _, _ => none
  | f + 1, x2, I => if (I 101 24) = 0 then if (I 101 20) = 0 then K I else g_bind2 (b_X11_readLine I x2) fun a19 I20 => b_X11_town_L125 K f a19 I20 else K I
def b_X11_town (I : g_I) (x1 : Int32) : Option (Int32 × g_I) :=
  g_let (am_up I 101 2 0) fun I1 => if x1 < 0 then g_bind2 (b_X11_fail I1 1) fun a2 I3 => some (a2, I3) else if x1 ≤ (I1 101 17) then g_let (am_up I1 101 17 0) fun I5 => g_let (am_up I5 101 19 x1) fun I6 => g_let (am_up I6 101 18 0) fun I7 => g_let (am_up I7 101 24 0) fun I8 => g_let (am_up I8 101 26 (-1)) fun I9 => b_X11_town_L50 (fun (I13 : g_I) => b_X11_town_L95 (fun (I15 : g_I) => g_bind (b_X11_stepOn I15) fun I17 => b_X11_town_L125 (fun (I22 : g_I) => if (I22 101 24) = 0 then g_bind (b_X11_takeOver I22) fun I24 => some (0, I24) else g_let (am_up I22 101 26 (I22 101 25)) fun I26 => g_let (am_up I26 116 0 ((I26 116 0) + 1)) fun I27 => some (I27 101 24, I27)) fu 0 I17) fu 0 I13) fu 0 I9 else g_bind2 (b_X11_fail I1 1) fun a28 I29 => some (a28, I29)
set_option maxRecDepth 100000 in
set_option maxHeartbeats 4000000 in
theorem gL_X11_town_50 {G : am_G} (hK : k_OK G) {d : Nat} (hd : 90 ≤ d) {sh : List (Nat ⊕ (Nat × Nat))} {I : g_I} {R : Nat → Nat → Option Nat} {L : Nat → Nat → Int64} {g : Nat} (hm : k_Mod sh R) {K : g_I → Option (Int32 × g_I)} {x2 : Int32} {f : Nat} {r : Int32 × g_I} (h : b_X11_town_L50 K f x2 I = some r) (hk : ∀ (J : g_I), K J = some r → AW G mX11_town d (fun v w => v = some (.int r.1) ∧ w = (sh, r.2, R, L, g)) (fun _ _ => False) 93 [some (.ref 101), none, none] [] (sh, J, R, L, g) 0 0) : AW G mX11_town d (fun v w => v = some (.int r.1) ∧ w = (sh, r.2, R, L, g)) (fun _ _ => False) 50 [some (.ref 101), none, some (.int x2)] [] (sh, I, R, L, g) 0 0 := by
  have hG := hK.1
  induction f generalizing x2 I with
  | zero => rw [b_X11_town_L50] at h; cases h
  | succ f ih =>
    rw [b_X11_town_L50] at h
    refine AW.iload_n dX11_town_50 rfl ?_
    refine AW.bipush 6 dX11_town_51 (by decide) ?_
    refine AW.icmp_ge 93 dX11_town_53 (by decide) (fun hc53 => ?_) (fun hc53 => ?_)
    · replace h := g_pos hc53 h
      refine AW.mask [2] [some (.ref 101), none, none] rfl ?_
      exact hk _ h
    · replace h := g_neg hc53 h
      refine AW.aload_n dX11_town_56 rfl ?_
      refine AW.getR (c' := 104) (fX11_38 hG).r rfl (hm.1 0 _ rfl) (hm.2 (0, 3, 3) (by decide)) dX11_town_57 ?_
      refine AW.bipush 6 dX11_town_60 (by decide) ?_
      refine AW.iload_n dX11_town_62 rfl ?_
      refine AW.iadd dX11_town_63 ?_
      refine AW.iload_n dX11_town_64 rfl ?_
      refine AW.iconst 3 dX11_town_65 (by decide) ?_
      refine AW.icmp_ne 75 dX11_town_66 (by decide) (fun hc66 => ?_) (fun hc66 => ?_)
      · replace h := g_neg hc66 h
        refine AW.iload_n dX11_town_75 rfl ?_
        refine AW.iconst 4 dX11_town_76 (by decide) ?_
        refine AW.icmp_ne 85 dX11_town_77 (by decide) (fun hc77 => ?_) (fun hc77 => ?_)
        · replace h := g_neg hc77 h
          refine AW.iconst 0 dX11_town_85 (by decide) ?_
          obtain ⟨hb, h⟩ := g_ifE h
          refine AW.iast (hm.1 3 _ rfl) (g_in_iff.mp hb) dX11_town_86 ?_
          obtain ⟨I10, eI10, h⟩ := g_letE h
          refine AW.namIE eI10 ?_
          refine AW.incE 1 (by decide) [some (.ref 101), none, some (.int (x2 + 1))] dX11_town_87 rfl (by decide) rfl rfl ?_
          refine AW.goto 50 dX11_town_90 (by decide) ?_
          exact ih h
        · replace h := g_pos hc77 h
          refine AW.bipush 12 dX11_town_80 (by decide) ?_
          refine AW.goto 86 dX11_town_82 (by decide) ?_
          obtain ⟨hb, h⟩ := g_ifE h
          refine AW.iast (hm.1 3 _ rfl) (g_in_iff.mp hb) dX11_town_86 ?_
          obtain ⟨I11, eI11, h⟩ := g_letE h
          refine AW.namIE eI11 ?_
          refine AW.incE 1 (by decide) [some (.ref 101), none, some (.int (x2 + 1))] dX11_town_87 rfl (by decide) rfl rfl ?_
          refine AW.goto 50 dX11_town_90 (by decide) ?_
          exact ih h
      · replace h := g_pos hc66 h
        refine AW.sipush 365 dX11_town_69 (by decide) ?_
        refine AW.goto 86 dX11_town_72 (by decide) ?_
        obtain ⟨hb, h⟩ := g_ifE h
        refine AW.iast (hm.1 3 _ rfl) (g_in_iff.mp hb) dX11_town_86 ?_
        obtain ⟨I12, eI12, h⟩ := g_letE h
        refine AW.namIE eI12 ?_
        refine AW.incE 1 (by decide) [some (.ref 101), none, some (.int (x2 + 1))] dX11_town_87 rfl (by decide) rfl rfl ?_
        refine AW.goto 50 dX11_town_90 (by decide) ?_
        exact ih h
set_option maxRecDepth 100000 in
set_option maxHeartbeats 4000000 in
theorem gL_X11_town_95 {G : am_G} (hK : k_OK G) {d : Nat} (hd : 90 ≤ d) {sh : List (Nat ⊕ (Nat × Nat))} {I : g_I} {R : Nat → Nat → Option Nat} {L : Nat → Nat → Int64} {g : Nat} (hm : k_Mod sh R) {K : g_I → Option (Int32 × g_I)} {x2 : Int32} {f : Nat} {r : Int32 × g_I} (h : b_X11_town_L95 K f x2 I = some r) (hk : ∀ (J : g_I), K J = some r → AW G mX11_town d (fun v w => v = some (.int r.1) ∧ w = (sh, r.2, R, L, g)) (fun _ _ => False) 119 [some (.ref 101), none, none] [] (sh, J, R, L, g) 0 0) : AW G mX11_town d (fun v w => v = some (.int r.1) ∧ w = (sh, r.2, R, L, g)) (fun _ _ => False) 95 [some (.ref 101), none, some (.int x2)] [] (sh, I, R, L, g) 0 0 := by
  have hG := hK.1
  induction f generalizing x2 I with
  | zero => rw [b_X11_town_L95] at h; cases h
  | succ f ih =>
    rw [b_X11_town_L95] at h
    refine AW.iload_n dX11_town_95 rfl ?_
    refine AW.bipush 64 dX11_town_96 (by decide) ?_
    refine AW.icmp_ge 119 dX11_town_98 (by decide) (fun hc98 => ?_) (fun hc98 => ?_)
    · replace h := g_pos hc98 h
      refine AW.mask [2] [some (.ref 101), none, none] rfl ?_
      exact hk _ h
    · replace h := g_neg hc98 h
      refine AW.aload_n dX11_town_101 rfl ?_
      refine AW.getR (c' := 114) (fX11_67 hG).r rfl (hm.1 0 _ rfl) (hm.2 (0, 13, 13) (by decide)) dX11_town_102 ?_
      refine AW.bipush 64 dX11_town_105 (by decide) ?_
      refine AW.iload_n dX11_town_107 rfl ?_
      refine AW.iadd dX11_town_108 ?_
      refine AW.ldc_w (-100000) dX11_town_109 (k_c hG 1700 (by decide +kernel) (by decide +kernel)) ?_
      obtain ⟨hb, h⟩ := g_ifE h
      refine AW.iast (hm.1 13 _ rfl) (g_in_iff.mp hb) dX11_town_112 ?_
      obtain ⟨I14, eI14, h⟩ := g_letE h
      refine AW.namIE eI14 ?_
      refine AW.incE 1 (by decide) [some (.ref 101), none, some (.int (x2 + 1))] dX11_town_113 rfl (by decide) rfl rfl ?_
      refine AW.goto 95 dX11_town_116 (by decide) ?_
      exact ih h
set_option maxRecDepth 100000 in
set_option maxHeartbeats 4000000 in
theorem gL_X11_town_125 {G : am_G} (hK : k_OK G) {d : Nat} (hd : 90 ≤ d) {sh : List (Nat ⊕ (Nat × Nat))} {I : g_I} {R : Nat → Nat → Option Nat} {L : Nat → Nat → Int64} {g : Nat} (hm : k_Mod sh R) {K : g_I → Option (Int32 × g_I)} {x2 : Int32} {f : Nat} {r : Int32 × g_I} (h : b_X11_town_L125 K f x2 I = some r) (hk : ∀ (J : g_I), K J = some r → AW G mX11_town d (fun v w => v = some (.int r.1) ∧ w = (sh, r.2, R, L, g)) (fun _ _ => False) 148 [some (.ref 101), none, none] [] (sh, J, R, L, g) 0 0) : AW G mX11_town d (fun v w => v = some (.int r.1) ∧ w = (sh, r.2, R, L, g)) (fun _ _ => False) 125 [some (.ref 101), none, some (.int x2)] [] (sh, I, R, L, g) 0 0 := by
  have hG := hK.1
  induction f generalizing x2 I with
  | zero => rw [b_X11_town_L125] at h; cases h
  | succ f ih =>
    rw [b_X11_town_L125] at h
    refine AW.aload_n dX11_town_125 rfl ?_
    refine AW.getI (fX11_207 hG).r rfl (hm.1 0 _ rfl) dX11_town_126 ?_
    refine AW.if_ne 148 dX11_town_129 (by decide) (fun hc129 => ?_) (fun hc129 => ?_)
    · replace h := g_neg hc129 h
      refine AW.mask [2] [some (.ref 101), none, none] rfl ?_
      exact hk _ h
    · replace h := g_pos hc129 h
      refine AW.aload_n dX11_town_132 rfl ?_
      refine AW.getI (fX11_181 hG).r rfl (hm.1 0 _ rfl) dX11_town_133 ?_
      refine AW.if_eq 148 dX11_town_136 (by decide) (fun hc136 => ?_) (fun hc136 => ?_)
      · replace h := g_pos hc136 h
        refine AW.mask [2] [some (.ref 101), none, none] rfl ?_
        exact hk _ h
      · replace h := g_neg hc136 h
        refine AW.aload_n dX11_town_139 rfl ?_
        refine AW.iload_n dX11_town_140 rfl ?_
        obtain ⟨a19, I20, hx21, h⟩ := g_bind2E h
        refine AW.callV (b := 101) (As := [.int x2]) hG.2.2 (vX11_311 hG) (hm.1 0 _ rfl) (g_X11_readLine hK (d := 89) (Nat.le_refl _) hm hx21) (by omega) dX11_town_141 rfl rfl (Nat.le_of_ble_eq_true rfl) (fun v w9 hq9 h09 => by obtain ⟨rfl, rfl⟩ := hq9; exact ⟨h09, rfl⟩) (by decide) (by decide) (fun _ _ hx => hx) (fun v9 w9 hq9 => ?_)
        obtain ⟨rfl, rfl⟩ := hq9
        show AW G _ d _ _ 144 [some (.ref 101), none, some (.int x2)] [.int a19] (sh, I20, R, L, g) 0 0
        refine AW.is_n [some (.ref 101), none, some (.int a19)] dX11_town_144 (by decide) rfl rfl ?_
        refine AW.goto 125 dX11_town_145 (by decide) ?_
        exact ih h
set_option maxRecDepth 100000 in
set_option maxHeartbeats 4000000 in
theorem g_X11_town {G : am_G} (hK : k_OK G) {d : Nat} (hd : 90 ≤ d) {sh : List (Nat ⊕ (Nat × Nat))} {I : g_I} {R : Nat → Nat → Option Nat} {L : Nat → Nat → Int64} {g : Nat} (hm : k_Mod sh R) {x1 : Int32} {r : Int32 × g_I} (h : b_X11_town I x1 = some r) : AM G mX11_town d [.ref 101, .int x1] (sh, I, R, L, g) (fun v w => v = some (.int r.1) ∧ w = (sh, r.2, R, L, g)) (fun _ _ => False) := by
  have hG := hK.1
  refine AM.of (n := 1) (by decide +kernel) (Nat.le_of_ble_eq_true rfl) ?_
  show AW G mX11_town d (fun v w => v = some (.int r.1) ∧ w = (sh, r.2, R, L, g)) (fun _ _ => False) 0 [some (.ref 101), some (.int x1), none] [] (sh, I, R, L, g) 0 0
  unfold b_X11_town at h
  refine AW.aload_n dX11_town_0 rfl ?_
  refine AW.iconst 0 dX11_town_1 (by decide) ?_
  refine AW.putI (fX11_159 hG) rfl (vp_nar_int _) rfl (hm.1 0 _ rfl) dX11_town_2 ?_
  obtain ⟨I1, eI1, h⟩ := g_letE h
  refine AW.namIE eI1 ?_
  refine AW.iload_n dX11_town_5 rfl ?_
  refine AW.if_lt 17 dX11_town_6 (by decide) (fun hc6 => ?_) (fun hc6 => ?_)
  · replace h := g_pos hc6 h
    refine AW.aload_n dX11_town_17 rfl ?_
    refine AW.iconst 1 dX11_town_18 (by decide) ?_
    obtain ⟨a2, I3, hx4, h⟩ := g_bind2E h
    refine AW.callV (b := 101) (As := [.int 1]) hG.2.2 (vX11_307 hG) (hm.1 0 _ rfl) (g_X11_fail hK (d := 0) (Nat.le_refl _) hm hx4) (by omega) dX11_town_19 rfl rfl (Nat.le_of_ble_eq_true rfl) (fun v w9 hq9 h09 => by obtain ⟨rfl, rfl⟩ := hq9; exact ⟨h09, rfl⟩) (by decide) (by decide) (fun _ _ hx => hx) (fun v9 w9 hq9 => ?_)
    obtain ⟨rfl, rfl⟩ := hq9
    show AW G _ d _ _ 22 [some (.ref 101), some (.int x1), none] [.int a2] (sh, I3, R, L, g) 0 0
    exact AW.iret dX11_town_22 rfl (by decide) (by decide) (by cases h; exact ⟨rfl, rfl⟩)
  · replace h := g_neg hc6 h
    refine AW.iload_n dX11_town_9 rfl ?_
    refine AW.aload_n dX11_town_10 rfl ?_
    refine AW.getI (fX11_166 hG).r rfl (hm.1 0 _ rfl) dX11_town_11 ?_
    refine AW.icmp_le 23 dX11_town_14 (by decide) (fun hc14 => ?_) (fun hc14 => ?_)
    · replace h := g_pos hc14 h
      refine AW.aload_n dX11_town_23 rfl ?_
      refine AW.iconst 0 dX11_town_24 (by decide) ?_
      refine AW.putI (fX11_166 hG) rfl (vp_nar_int _) rfl (hm.1 0 _ rfl) dX11_town_25 ?_
      obtain ⟨I5, eI5, h⟩ := g_letE h
      refine AW.namIE eI5 ?_
      refine AW.aload_n dX11_town_28 rfl ?_
      refine AW.iload_n dX11_town_29 rfl ?_
      refine AW.putI (fX11_169 hG) rfl (vp_nar_int _) rfl (hm.1 0 _ rfl) dX11_town_30 ?_
      obtain ⟨I6, eI6, h⟩ := g_letE h
      refine AW.namIE eI6 ?_
      refine AW.aload_n dX11_town_33 rfl ?_
      refine AW.iconst 0 dX11_town_34 (by decide) ?_
      refine AW.putI (fX11_171 hG) rfl (vp_nar_int _) rfl (hm.1 0 _ rfl) dX11_town_35 ?_
      obtain ⟨I7, eI7, h⟩ := g_letE h
      refine AW.namIE eI7 ?_
      refine AW.aload_n dX11_town_38 rfl ?_
      refine AW.iconst 0 dX11_town_39 (by decide) ?_
      refine AW.putI (fX11_207 hG) rfl (vp_nar_int _) rfl (hm.1 0 _ rfl) dX11_town_40 ?_
      obtain ⟨I8, eI8, h⟩ := g_letE h
      refine AW.namIE eI8 ?_
      refine AW.aload_n dX11_town_43 rfl ?_
      refine AW.iconst (-1) dX11_town_44 (by decide) ?_
      refine AW.putI (fX11_79 hG) rfl (vp_nar_int _) rfl (hm.1 0 _ rfl) dX11_town_45 ?_
      obtain ⟨I9, eI9, h⟩ := g_letE h
      refine AW.namIE eI9 ?_
      refine AW.iconst 0 dX11_town_48 (by decide) ?_
      refine AW.is_n [some (.ref 101), some (.int x1), some (.int 0)] dX11_town_49 (by decide) rfl rfl ?_
      refine AW.mask [1] [some (.ref 101), none, some (.int 0)] rfl ?_
      refine gL_X11_town_50 hK hd hm h (fun I13 h => ?_)
      refine AW.iconst 0 dX11_town_93 (by decide) ?_
      refine AW.is_n [some (.ref 101), none, some (.int 0)] dX11_town_94 (by decide) rfl rfl ?_
      refine gL_X11_town_95 hK hd hm h (fun I15 h => ?_)
      refine AW.aload_n dX11_town_119 rfl ?_
      obtain ⟨I17, hx18, h⟩ := g_bindE h
      refine AW.callV (b := 101) (As := []) hG.2.2 (vX11_232 hG) (hm.1 0 _ rfl) (g_X11_stepOn hK (d := 1) (Nat.le_refl _) hm hx18) (by omega) dX11_town_120 rfl rfl (Nat.le_of_ble_eq_true rfl) (fun v w9 hq9 h09 => by obtain ⟨rfl, rfl⟩ := hq9; exact ⟨h09, rfl⟩) (by decide) (by decide) (fun _ _ hx => hx) (fun v9 w9 hq9 => ?_)
      obtain ⟨rfl, rfl⟩ := hq9
      show AW G _ d _ _ 123 [some (.ref 101), none, none] [] (sh, I17, R, L, g) 0 0
      refine AW.iconst 0 dX11_town_123 (by decide) ?_
      refine AW.is_n [some (.ref 101), none, some (.int 0)] dX11_town_124 (by decide) rfl rfl ?_
      refine gL_X11_town_125 hK hd hm h (fun I22 h => ?_)
      refine AW.aload_n dX11_town_148 rfl ?_
      refine AW.getI (fX11_207 hG).r rfl (hm.1 0 _ rfl) dX11_town_149 ?_
      refine AW.if_eq 178 dX11_town_152 (by decide) (fun hc152 => ?_) (fun hc152 => ?_)
      · replace h := g_pos hc152 h
        refine AW.aload_n dX11_town_178 rfl ?_
        obtain ⟨I24, hx25, h⟩ := g_bindE h
        refine AW.callV (b := 101) (As := []) hG.2.2 (vX11_314 hG) (hm.1 0 _ rfl) (g_X11_takeOver hK (d := 1) (Nat.le_refl _) hm hx25) (by omega) dX11_town_179 rfl rfl (Nat.le_of_ble_eq_true rfl) (fun v w9 hq9 h09 => by obtain ⟨rfl, rfl⟩ := hq9; exact ⟨h09, rfl⟩) (by decide) (by decide) (fun _ _ hx => hx) (fun v9 w9 hq9 => ?_)
        obtain ⟨rfl, rfl⟩ := hq9
        show AW G _ d _ _ 182 [some (.ref 101), none, none] [] (sh, I24, R, L, g) 0 0
        refine AW.iconst 0 dX11_town_182 (by decide) ?_
        exact AW.iret dX11_town_183 rfl (by decide) (by decide) (by cases h; exact ⟨rfl, rfl⟩)
      · replace h := g_neg hc152 h
        refine AW.aload_n dX11_town_155 rfl ?_
        refine AW.aload_n dX11_town_156 rfl ?_
        refine AW.getI (fX11_210 hG).r rfl (hm.1 0 _ rfl) dX11_town_157 ?_
        refine AW.putI (fX11_79 hG) rfl (vp_nar_int _) rfl (hm.1 0 _ rfl) dX11_town_160 ?_
        obtain ⟨I26, eI26, h⟩ := g_letE h
        refine AW.namIE eI26 ?_
        refine AW.aload_n dX11_town_163 rfl ?_
        refine AW.getR (c' := 116) (fX11_73 hG).r rfl (hm.1 0 _ rfl) (hm.2 (0, 15, 15) (by decide)) dX11_town_164 ?_
        refine AW.iconst 0 dX11_town_167 (by decide) ?_
        refine AW.dup2 dX11_town_168 rfl rfl ?_
        refine AW.iald (hm.1 15 _ rfl) (by unfold vp_in; decide) dX11_town_169 ?_
        show AW G _ d _ _ 170 [some (.ref 101), none, none] [.int (I26 116 0), .int 0, .ref 116] (sh, I26, R, L, g) 0 0
        refine AW.iconst 1 dX11_town_170 (by decide) ?_
        refine AW.iadd dX11_town_171 ?_
        refine AW.iast (hm.1 15 _ rfl) (by unfold vp_in; decide) dX11_town_172 ?_
        show AW G _ d _ _ 173 [some (.ref 101), none, none] [] (sh, am_up I26 116 0 ((I26 116 0) + 1), R, L, g) 0 0
        obtain ⟨I27, eI27, h⟩ := g_letE h
        refine AW.namIE eI27 ?_
        refine AW.aload_n dX11_town_173 rfl ?_
        refine AW.getI (fX11_207 hG).r rfl (hm.1 0 _ rfl) dX11_town_174 ?_
        exact AW.iret dX11_town_177 rfl (by decide) (by decide) (by cases h; exact ⟨rfl, rfl⟩)
    · replace h := g_neg hc14 h
      refine AW.aload_n dX11_town_17 rfl ?_
      refine AW.iconst 1 dX11_town_18 (by decide) ?_
      obtain ⟨a28, I29, hx30, h⟩ := g_bind2E h
      refine AW.callV (b := 101) (As := [.int 1]) hG.2.2 (vX11_307 hG) (hm.1 0 _ rfl) (g_X11_fail hK (d := 0) (Nat.le_refl _) hm hx30) (by omega) dX11_town_19 rfl rfl (Nat.le_of_ble_eq_true rfl) (fun v w9 hq9 h09 => by obtain ⟨rfl, rfl⟩ := hq9; exact ⟨h09, rfl⟩) (by decide) (by decide) (fun _ _ hx => hx) (fun v9 w9 hq9 => ?_)
      obtain ⟨rfl, rfl⟩ := hq9
      show AW G _ d _ _ 22 [some (.ref 101), some (.int x1), none] [.int a28] (sh, I29, R, L, g) 0 0
      exact AW.iret dX11_town_22 rfl (by decide) (by decide) (by cases h; exact ⟨rfl, rfl⟩)
theorem dX11_fault_0 : decode cX11_fault 0 = .ok (.aload_n 0, 1) := by decide +kernel
theorem dX11_fault_1 : decode cX11_fault 1 = .ok (.iconst 0, 1) := by decide +kernel
theorem dX11_fault_2 : decode cX11_fault 2 = .ok (.putfield 159, 3) := by decide +kernel
theorem dX11_fault_5 : decode cX11_fault 5 = .ok (.aload_n 0, 1) := by decide +kernel
theorem dX11_fault_6 : decode cX11_fault 6 = .ok (.getfield 79, 3) := by decide +kernel
theorem dX11_fault_9 : decode cX11_fault 9 = .ok (.ireturn, 1) := by decide +kernel
def b_X11_fault (I : g_I) : Option (Int32 × g_I) :=
  g_let (am_up I 101 2 0) fun I1 => some (I1 101 26, I1)
set_option maxRecDepth 100000 in
set_option maxHeartbeats 4000000 in
theorem g_X11_fault {G : am_G} (hK : k_OK G) {d : Nat} (hd : 0 ≤ d) {sh : List (Nat ⊕ (Nat × Nat))} {I : g_I} {R : Nat → Nat → Option Nat} {L : Nat → Nat → Int64} {g : Nat} (hm : k_Mod sh R) {r : Int32 × g_I} (h : b_X11_fault I = some r) : AM G mX11_fault d [.ref 101] (sh, I, R, L, g) (fun v w => v = some (.int r.1) ∧ w = (sh, r.2, R, L, g)) (fun _ _ => False) := by
  have hG := hK.1
  refine AM.of (n := 0) (by decide +kernel) (Nat.le_of_ble_eq_true rfl) ?_
  show AW G mX11_fault d (fun v w => v = some (.int r.1) ∧ w = (sh, r.2, R, L, g)) (fun _ _ => False) 0 [some (.ref 101)] [] (sh, I, R, L, g) 0 0
  unfold b_X11_fault at h
  refine AW.aload_n dX11_fault_0 rfl ?_
  refine AW.iconst 0 dX11_fault_1 (by decide) ?_
  refine AW.putI (fX11_159 hG) rfl (vp_nar_int _) rfl (hm.1 0 _ rfl) dX11_fault_2 ?_
  obtain ⟨I1, eI1, h⟩ := g_letE h
  refine AW.namIE eI1 ?_
  refine AW.aload_n dX11_fault_5 rfl ?_
  refine AW.getI (fX11_79 hG).r rfl (hm.1 0 _ rfl) dX11_fault_6 ?_
  exact AW.iret dX11_fault_9 rfl (by decide) (by decide) (by cases h; exact ⟨rfl, rfl⟩)
theorem dX11_pack_0 : decode cX11_pack 0 = .ok (.aload_n 1, 1) := by decide +kernel
theorem dX11_pack_1 : decode cX11_pack 1 = .ok (.iload_n 2, 1) := by decide +kernel
theorem dX11_pack_2 : decode cX11_pack 2 = .ok (.aload_n 0, 1) := by decide +kernel
theorem dX11_pack_3 : decode cX11_pack 3 = .ok (.getfield 321, 3) := by decide +kernel
theorem dX11_pack_6 : decode cX11_pack 6 = .ok (.iastore, 1) := by decide +kernel
theorem dX11_pack_7 : decode cX11_pack 7 = .ok (.aload_n 1, 1) := by decide +kernel
theorem dX11_pack_8 : decode cX11_pack 8 = .ok (.iload_n 2, 1) := by decide +kernel
theorem dX11_pack_9 : decode cX11_pack 9 = .ok (.iconst 1, 1) := by decide +kernel
theorem dX11_pack_10 : decode cX11_pack 10 = .ok (.iadd, 1) := by decide +kernel
theorem dX11_pack_11 : decode cX11_pack 11 = .ok (.aload_n 0, 1) := by decide +kernel
theorem dX11_pack_12 : decode cX11_pack 12 = .ok (.getfield 324, 3) := by decide +kernel
theorem dX11_pack_15 : decode cX11_pack 15 = .ok (.iastore, 1) := by decide +kernel
theorem dX11_pack_16 : decode cX11_pack 16 = .ok (.iload_n 2, 1) := by decide +kernel
theorem dX11_pack_17 : decode cX11_pack 17 = .ok (.iconst 2, 1) := by decide +kernel
theorem dX11_pack_18 : decode cX11_pack 18 = .ok (.iadd, 1) := by decide +kernel
theorem dX11_pack_19 : decode cX11_pack 19 = .ok (.istore_n 3, 1) := by decide +kernel
theorem dX11_pack_20 : decode cX11_pack 20 = .ok (.iconst 0, 1) := by decide +kernel
theorem dX11_pack_21 : decode cX11_pack 21 = .ok (.istore 4, 2) := by decide +kernel
theorem dX11_pack_23 : decode cX11_pack 23 = .ok (.iload 4, 2) := by decide +kernel
theorem dX11_pack_25 : decode cX11_pack 25 = .ok (.bipush 64, 2) := by decide +kernel
theorem dX11_pack_27 : decode cX11_pack 27 = .ok (.if_icmp .ge 22, 3) := by decide +kernel
theorem dX11_pack_30 : decode cX11_pack 30 = .ok (.aload_n 1, 1) := by decide +kernel
theorem dX11_pack_31 : decode cX11_pack 31 = .ok (.iload_n 3, 1) := by decide +kernel
theorem dX11_pack_32 : decode cX11_pack 32 = .ok (.iload 4, 2) := by decide +kernel
theorem dX11_pack_34 : decode cX11_pack 34 = .ok (.iadd, 1) := by decide +kernel
theorem dX11_pack_35 : decode cX11_pack 35 = .ok (.aload_n 0, 1) := by decide +kernel
theorem dX11_pack_36 : decode cX11_pack 36 = .ok (.getfield 67, 3) := by decide +kernel
theorem dX11_pack_39 : decode cX11_pack 39 = .ok (.iload 4, 2) := by decide +kernel
theorem dX11_pack_41 : decode cX11_pack 41 = .ok (.iaload, 1) := by decide +kernel
theorem dX11_pack_42 : decode cX11_pack 42 = .ok (.iastore, 1) := by decide +kernel
theorem dX11_pack_43 : decode cX11_pack 43 = .ok (.iinc 4 1, 3) := by decide +kernel
theorem dX11_pack_46 : decode cX11_pack 46 = .ok (.goto (-23), 3) := by decide +kernel
theorem dX11_pack_49 : decode cX11_pack 49 = .ok (.iinc 3 64, 3) := by decide +kernel
theorem dX11_pack_52 : decode cX11_pack 52 = .ok (.iconst 0, 1) := by decide +kernel
theorem dX11_pack_53 : decode cX11_pack 53 = .ok (.istore 4, 2) := by decide +kernel
theorem dX11_pack_55 : decode cX11_pack 55 = .ok (.iload 4, 2) := by decide +kernel
theorem dX11_pack_57 : decode cX11_pack 57 = .ok (.bipush 6, 2) := by decide +kernel
theorem dX11_pack_59 : decode cX11_pack 59 = .ok (.if_icmp .ge 22, 3) := by decide +kernel
theorem dX11_pack_62 : decode cX11_pack 62 = .ok (.aload_n 1, 1) := by decide +kernel
theorem dX11_pack_63 : decode cX11_pack 63 = .ok (.iload_n 3, 1) := by decide +kernel
theorem dX11_pack_64 : decode cX11_pack 64 = .ok (.iload 4, 2) := by decide +kernel
theorem dX11_pack_66 : decode cX11_pack 66 = .ok (.iadd, 1) := by decide +kernel
theorem dX11_pack_67 : decode cX11_pack 67 = .ok (.aload_n 0, 1) := by decide +kernel
theorem dX11_pack_68 : decode cX11_pack 68 = .ok (.getfield 83, 3) := by decide +kernel
theorem dX11_pack_71 : decode cX11_pack 71 = .ok (.iload 4, 2) := by decide +kernel
theorem dX11_pack_73 : decode cX11_pack 73 = .ok (.iaload, 1) := by decide +kernel
theorem dX11_pack_74 : decode cX11_pack 74 = .ok (.iastore, 1) := by decide +kernel
theorem dX11_pack_75 : decode cX11_pack 75 = .ok (.iinc 4 1, 3) := by decide +kernel
theorem dX11_pack_78 : decode cX11_pack 78 = .ok (.goto (-23), 3) := by decide +kernel
theorem dX11_pack_81 : decode cX11_pack 81 = .ok (.iconst 0, 1) := by decide +kernel
theorem dX11_pack_82 : decode cX11_pack 82 = .ok (.istore 4, 2) := by decide +kernel
theorem dX11_pack_84 : decode cX11_pack 84 = .ok (.iload 4, 2) := by decide +kernel
theorem dX11_pack_86 : decode cX11_pack 86 = .ok (.bipush 8, 2) := by decide +kernel
theorem dX11_pack_88 : decode cX11_pack 88 = .ok (.if_icmp .ge 25, 3) := by decide +kernel
theorem dX11_pack_91 : decode cX11_pack 91 = .ok (.aload_n 1, 1) := by decide +kernel
theorem dX11_pack_92 : decode cX11_pack 92 = .ok (.iload_n 3, 1) := by decide +kernel
theorem dX11_pack_93 : decode cX11_pack 93 = .ok (.bipush 6, 2) := by decide +kernel
theorem dX11_pack_95 : decode cX11_pack 95 = .ok (.iadd, 1) := by decide +kernel
theorem dX11_pack_96 : decode cX11_pack 96 = .ok (.iload 4, 2) := by decide +kernel
theorem dX11_pack_98 : decode cX11_pack 98 = .ok (.iadd, 1) := by decide +kernel
theorem dX11_pack_99 : decode cX11_pack 99 = .ok (.aload_n 0, 1) := by decide +kernel
theorem dX11_pack_100 : decode cX11_pack 100 = .ok (.getfield 86, 3) := by decide +kernel
theorem dX11_pack_103 : decode cX11_pack 103 = .ok (.iload 4, 2) := by decide +kernel
theorem dX11_pack_105 : decode cX11_pack 105 = .ok (.iaload, 1) := by decide +kernel
theorem dX11_pack_106 : decode cX11_pack 106 = .ok (.iastore, 1) := by decide +kernel
theorem dX11_pack_107 : decode cX11_pack 107 = .ok (.iinc 4 1, 3) := by decide +kernel
theorem dX11_pack_110 : decode cX11_pack 110 = .ok (.goto (-26), 3) := by decide +kernel
theorem dX11_pack_113 : decode cX11_pack 113 = .ok (.return_, 1) := by decide +kernel
def b_X11_pack_L23 (c1 n1 : Nat) (y3 : Int32) (K : g_I → Option (g_I)) : Nat → Int32 → g_I → Option (g_I)
  | 0, _, _ => none
  | f + 1, x4, I => if 64 ≤ x4 then K I else if g_in x4 128 = true then if g_in (y3 + x4) n1 = true then g_let (am_up I c1 (y3 + x4).toNatClampNeg (I 114 x4.toNatClampNeg)) fun I4 => b_X11_pack_L23 c1 n1 y3 K f (x4 + 1) I4 else none else none
def b_X11_pack_L55 (c1 n1 : Nat) (y3 : Int32) (K : g_I → Option (g_I)) : Nat → Int32 → g_I → Option (g_I)
  | 0, _, _ => none
  | f + 1, x4, I => if 6 ≤ x4 then K I else if g_in x4 6 = true then if g_in (y3 + x4) n1 = true then g_let (am_up I c1 (y3 + x4).toNatClampNeg (I 118 x4.toNatClampNeg)) fun I6 => b_X11_pack_L55 c1 n1 y3 K f (x4 + 1) I6 else none else none
def b_X11_pack_L84 (c1 n1 : Nat) (y3 : Int32) (K : g_I → Option (g_I)) : Nat → Int32 → g_I → Option (g_I)
  | 0, _, _ => none
  | f + 1, x4, I => if 8 ≤ x4 then K I else if g_in x4 8 = true then if g_in ((y3 + 6) + x4) n1 = true then g_let (am_up I c1 ((y3 + 6) + x4).toNatClampNeg (I 119 x4.toNatClampNeg)) fun I8 => b_X11_pack_L84 c1 n1 y3 K f (x4 + 1) I8 else none else none
def b_X11_pack (I : g_I) (c1 : Nat) (n1 : Nat) (x2 : Int32) : Option (g_I) :=
  if g_in x2 n1 = true then g_let (am_up I c1 x2.toNatClampNeg (I 101 30)) fun I1 => if g_in (x2 + 1) n1 = true then g_let (am_up I1 c1 (x2 + 1).toNatClampNeg (I1 101 31)) fun I2 => g_let (x2 + 2) fun a3 => b_X11_pack_L23 c1 n1 a3 (fun (I5 : g_I) => b_X11_pack_L55 c1 n1 (a3 + 64) (fun (I7 : g_I) => b_X11_pack_L84 c1 n1 (a3 + 64) (fun (I9 : g_I) => some I9) fu 0 I7) fu 0 I5) fu 0 I2 else none else none
set_option maxRecDepth 100000 in
set_option maxHeartbeats 4000000 in
theorem gL_X11_pack_23 {G : am_G} (hK : k_OK G) {c1 n1 : Nat} {d : Nat} (hd : 0 ≤ d) {sh : List (Nat ⊕ (Nat × Nat))} {I : g_I} {R : Nat → Nat → Option Nat} {L : Nat → Nat → Int64} {g : Nat} (hm : k_Mod sh R) (hc1 : sh[c1]? = some (.inr (0, n1))) {y3 : Int32} {K : g_I → Option (g_I)} {x4 : Int32} {f : Nat} {r : g_I} (h : b_X11_pack_L23 c1 n1 y3 K f x4 I = some r) (hk : ∀ (J : g_I), K J = some r → AW G mX11_pack d (fun v w => v = none ∧ w = (sh, r, R, L, g)) (fun _ _ => False) 49 [some (.ref 101), some (.ref c1), none, some (.int y3), none] [] (sh, J, R, L, g) 0 0) : AW G mX11_pack d (fun v w => v = none ∧ w = (sh, r, R, L, g)) (fun _ _ => False) 23 [some (.ref 101), some (.ref c1), none, some (.int y3), some (.int x4)] [] (sh, I, R, L, g) 0 0 := by
  have hG := hK.1
  induction f generalizing x4 I with
  | zero => rw [b_X11_pack_L23] at h; cases h
  | succ f ih =>
    rw [b_X11_pack_L23] at h
    refine AW.iload dX11_pack_23 rfl ?_
    refine AW.bipush 64 dX11_pack_25 (by decide) ?_
    refine AW.icmp_ge 49 dX11_pack_27 (by decide) (fun hc27 => ?_) (fun hc27 => ?_)
    · replace h := g_pos hc27 h
      refine AW.mask [4] [some (.ref 101), some (.ref c1), none, some (.int y3), none] rfl ?_
      exact hk _ h
    · replace h := g_neg hc27 h
      refine AW.aload_n dX11_pack_30 rfl ?_
      refine AW.iload_n dX11_pack_31 rfl ?_
      refine AW.iload dX11_pack_32 rfl ?_
      refine AW.iadd dX11_pack_34 ?_
      refine AW.aload_n dX11_pack_35 rfl ?_
      refine AW.getR (c' := 114) (fX11_67 hG).r rfl (hm.1 0 _ rfl) (hm.2 (0, 13, 13) (by decide)) dX11_pack_36 ?_
      refine AW.iload dX11_pack_39 rfl ?_
      obtain ⟨hb, h⟩ := g_ifE h
      refine AW.iald (hm.1 13 _ rfl) (g_in_iff.mp hb) dX11_pack_41 ?_
      obtain ⟨hb, h⟩ := g_ifE h
      refine AW.iast hc1 (g_in_iff.mp hb) dX11_pack_42 ?_
      obtain ⟨I4, eI4, h⟩ := g_letE h
      refine AW.namIE eI4 ?_
      refine AW.incE 1 (by decide) [some (.ref 101), some (.ref c1), none, some (.int y3), some (.int (x4 + 1))] dX11_pack_43 rfl (by decide) rfl rfl ?_
      refine AW.goto 23 dX11_pack_46 (by decide) ?_
      exact ih h
set_option maxRecDepth 100000 in
set_option maxHeartbeats 4000000 in
theorem gL_X11_pack_55 {G : am_G} (hK : k_OK G) {c1 n1 : Nat} {d : Nat} (hd : 0 ≤ d) {sh : List (Nat ⊕ (Nat × Nat))} {I : g_I} {R : Nat → Nat → Option Nat} {L : Nat → Nat → Int64} {g : Nat} (hm : k_Mod sh R) (hc1 : sh[c1]? = some (.inr (0, n1))) {y3 : Int32} {K : g_I → Option (g_I)} {x4 : Int32} {f : Nat} {r : g_I} (h : b_X11_pack_L55 c1 n1 y3 K f x4 I = some r) (hk : ∀ (J : g_I), K J = some r → AW G mX11_pack d (fun v w => v = none ∧ w = (sh, r, R, L, g)) (fun _ _ => False) 81 [some (.ref 101), some (.ref c1), none, some (.int y3), none] [] (sh, J, R, L, g) 0 0) : AW G mX11_pack d (fun v w => v = none ∧ w = (sh, r, R, L, g)) (fun _ _ => False) 55 [some (.ref 101), some (.ref c1), none, some (.int y3), some (.int x4)] [] (sh, I, R, L, g) 0 0 := by
  have hG := hK.1
  induction f generalizing x4 I with
  | zero => rw [b_X11_pack_L55] at h; cases h
  | succ f ih =>
    rw [b_X11_pack_L55] at h
    refine AW.iload dX11_pack_55 rfl ?_
    refine AW.bipush 6 dX11_pack_57 (by decide) ?_
    refine AW.icmp_ge 81 dX11_pack_59 (by decide) (fun hc59 => ?_) (fun hc59 => ?_)
    · replace h := g_pos hc59 h
      refine AW.mask [4] [some (.ref 101), some (.ref c1), none, some (.int y3), none] rfl ?_
      exact hk _ h
    · replace h := g_neg hc59 h
      refine AW.aload_n dX11_pack_62 rfl ?_
      refine AW.iload_n dX11_pack_63 rfl ?_
      refine AW.iload dX11_pack_64 rfl ?_
      refine AW.iadd dX11_pack_66 ?_
      refine AW.aload_n dX11_pack_67 rfl ?_
      refine AW.getR (c' := 118) (fX11_83 hG).r rfl (hm.1 0 _ rfl) (hm.2 (0, 27, 17) (by decide)) dX11_pack_68 ?_
      refine AW.iload dX11_pack_71 rfl ?_
      obtain ⟨hb, h⟩ := g_ifE h
      refine AW.iald (hm.1 17 _ rfl) (g_in_iff.mp hb) dX11_pack_73 ?_
      obtain ⟨hb, h⟩ := g_ifE h
      refine AW.iast hc1 (g_in_iff.mp hb) dX11_pack_74 ?_
      obtain ⟨I6, eI6, h⟩ := g_letE h
      refine AW.namIE eI6 ?_
      refine AW.incE 1 (by decide) [some (.ref 101), some (.ref c1), none, some (.int y3), some (.int (x4 + 1))] dX11_pack_75 rfl (by decide) rfl rfl ?_
      refine AW.goto 55 dX11_pack_78 (by decide) ?_
      exact ih h
set_option maxRecDepth 100000 in
set_option maxHeartbeats 4000000 in
theorem gL_X11_pack_84 {G : am_G} (hK : k_OK G) {c1 n1 : Nat} {d : Nat} (hd : 0 ≤ d) {sh : List (Nat ⊕ (Nat × Nat))} {I : g_I} {R : Nat → Nat → Option Nat} {L : Nat → Nat → Int64} {g : Nat} (hm : k_Mod sh R) (hc1 : sh[c1]? = some (.inr (0, n1))) {y3 : Int32} {K : g_I → Option (g_I)} {x4 : Int32} {f : Nat} {r : g_I} (h : b_X11_pack_L84 c1 n1 y3 K f x4 I = some r) (hk : ∀ (J : g_I), K J = some r → AW G mX11_pack d (fun v w => v = none ∧ w = (sh, r, R, L, g)) (fun _ _ => False) 113 [none, none, none, none, none] [] (sh, J, R, L, g) 0 0) : AW G mX11_pack d (fun v w => v = none ∧ w = (sh, r, R, L, g)) (fun _ _ => False) 84 [some (.ref 101), some (.ref c1), none, some (.int y3), some (.int x4)] [] (sh, I, R, L, g) 0 0 := by
  have hG := hK.1
  induction f generalizing x4 I with
  | zero => rw [b_X11_pack_L84] at h; cases h
  | succ f ih =>
    rw [b_X11_pack_L84] at h
    refine AW.iload dX11_pack_84 rfl ?_
    refine AW.bipush 8 dX11_pack_86 (by decide) ?_
    refine AW.icmp_ge 113 dX11_pack_88 (by decide) (fun hc88 => ?_) (fun hc88 => ?_)
    · replace h := g_pos hc88 h
      refine AW.mask [0, 1, 3, 4] [none, none, none, none, none] rfl ?_
      exact hk _ h
    · replace h := g_neg hc88 h
      refine AW.aload_n dX11_pack_91 rfl ?_
      refine AW.iload_n dX11_pack_92 rfl ?_
      refine AW.bipush 6 dX11_pack_93 (by decide) ?_
      refine AW.iadd dX11_pack_95 ?_
      refine AW.iload dX11_pack_96 rfl ?_
      refine AW.iadd dX11_pack_98 ?_
      refine AW.aload_n dX11_pack_99 rfl ?_
      refine AW.getR (c' := 119) (fX11_86 hG).r rfl (hm.1 0 _ rfl) (hm.2 (0, 28, 18) (by decide)) dX11_pack_100 ?_
      refine AW.iload dX11_pack_103 rfl ?_
      obtain ⟨hb, h⟩ := g_ifE h
      refine AW.iald (hm.1 18 _ rfl) (g_in_iff.mp hb) dX11_pack_105 ?_
      obtain ⟨hb, h⟩ := g_ifE h
      refine AW.iast hc1 (g_in_iff.mp hb) dX11_pack_106 ?_
      obtain ⟨I8, eI8, h⟩ := g_letE h
      refine AW.namIE eI8 ?_
      refine AW.incE 1 (by decide) [some (.ref 101), some (.ref c1), none, some (.int y3), some (.int (x4 + 1))] dX11_pack_107 rfl (by decide) rfl rfl ?_
      refine AW.goto 84 dX11_pack_110 (by decide) ?_
      exact ih h
set_option maxRecDepth 100000 in
set_option maxHeartbeats 4000000 in
theorem g_X11_pack {G : am_G} (hK : k_OK G) {d : Nat} (hd : 0 ≤ d) {sh : List (Nat ⊕ (Nat × Nat))} {I : g_I} {R : Nat → Nat → Option Nat} {L : Nat → Nat → Int64} {g : Nat} (hm : k_Mod sh R) {c1 n1 : Nat} {x2 : Int32} (hc1 : sh[c1]? = some (.inr (0, n1))) {r : g_I} (h : b_X11_pack I c1 n1 x2 = some r) : AM G mX11_pack d [.ref 101, .ref c1, .int x2] (sh, I, R, L, g) (fun v w => v = none ∧ w = (sh, r, R, L, g)) (fun _ _ => False) := by
  have hG := hK.1
  refine AM.of (n := 2) (by decide +kernel) (Nat.le_of_ble_eq_true rfl) ?_
  show AW G mX11_pack d (fun v w => v = none ∧ w = (sh, r, R, L, g)) (fun _ _ => False) 0 [some (.ref 101), some (.ref c1), some (.int x2), none, none] [] (sh, I, R, L, g) 0 0
  unfold b_X11_pack at h
  refine AW.aload_n dX11_pack_0 rfl ?_
  refine AW.iload_n dX11_pack_1 rfl ?_
  refine AW.aload_n dX11_pack_2 rfl ?_
  refine AW.getI (fX11_321 hG).r rfl (hm.1 0 _ rfl) dX11_pack_3 ?_
  obtain ⟨hb, h⟩ := g_ifE h
  refine AW.iast hc1 (g_in_iff.mp hb) dX11_pack_6 ?_
  obtain ⟨I1, eI1, h⟩ := g_letE h
  refine AW.namIE eI1 ?_
  refine AW.aload_n dX11_pack_7 rfl ?_
  refine AW.iload_n dX11_pack_8 rfl ?_
  refine AW.iconst 1 dX11_pack_9 (by decide) ?_
  refine AW.iadd dX11_pack_10 ?_
  refine AW.aload_n dX11_pack_11 rfl ?_
  refine AW.getI (fX11_324 hG).r rfl (hm.1 0 _ rfl) dX11_pack_12 ?_
  obtain ⟨hb, h⟩ := g_ifE h
  refine AW.iast hc1 (g_in_iff.mp hb) dX11_pack_15 ?_
  obtain ⟨I2, eI2, h⟩ := g_letE h
  refine AW.namIE eI2 ?_
  refine AW.iload_n dX11_pack_16 rfl ?_
  refine AW.iconst 2 dX11_pack_17 (by decide) ?_
  refine AW.iadd dX11_pack_18 ?_
  obtain ⟨a3, ea3, h⟩ := g_letE h
  refine AW.namE ea3 ?_
  refine AW.is_n [some (.ref 101), some (.ref c1), some (.int x2), some (.int a3), none] dX11_pack_19 (by decide) rfl rfl ?_
  refine AW.iconst 0 dX11_pack_20 (by decide) ?_
  refine AW.is [some (.ref 101), some (.ref c1), some (.int x2), some (.int a3), some (.int 0)] dX11_pack_21 (by decide) rfl rfl ?_
  refine AW.mask [2] [some (.ref 101), some (.ref c1), none, some (.int a3), some (.int 0)] rfl ?_
  refine gL_X11_pack_23 hK hd hm hc1 h (fun I5 h => ?_)
  refine AW.incE 64 (by decide) [some (.ref 101), some (.ref c1), none, some (.int (a3 + 64)), none] dX11_pack_49 rfl (by decide) rfl rfl ?_
  refine AW.iconst 0 dX11_pack_52 (by decide) ?_
  refine AW.is [some (.ref 101), some (.ref c1), none, some (.int (a3 + 64)), some (.int 0)] dX11_pack_53 (by decide) rfl rfl ?_
  refine gL_X11_pack_55 hK hd hm hc1 h (fun I7 h => ?_)
  refine AW.iconst 0 dX11_pack_81 (by decide) ?_
  refine AW.is [some (.ref 101), some (.ref c1), none, some (.int (a3 + 64)), some (.int 0)] dX11_pack_82 (by decide) rfl rfl ?_
  refine gL_X11_pack_84 hK hd hm hc1 h (fun I9 h => ?_)
  exact AW.vret dX11_pack_113 rfl (by decide) (by decide) (by cases h; exact ⟨rfl, rfl⟩)
