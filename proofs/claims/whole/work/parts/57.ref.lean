/-! 57.ref (printed by s52.py) -/
theorem dX11_valueNow_0 : decode cX11_valueNow 0 = .ok (.iconst 0, 1) := by decide +kernel
theorem dX11_valueNow_1 : decode cX11_valueNow 1 = .ok (.istore_n 1, 1) := by decide +kernel
theorem dX11_valueNow_2 : decode cX11_valueNow 2 = .ok (.iconst 0, 1) := by decide +kernel
theorem dX11_valueNow_3 : decode cX11_valueNow 3 = .ok (.istore_n 2, 1) := by decide +kernel
theorem dX11_valueNow_4 : decode cX11_valueNow 4 = .ok (.iload_n 2, 1) := by decide +kernel
theorem dX11_valueNow_5 : decode cX11_valueNow 5 = .ok (.aload_n 0, 1) := by decide +kernel
theorem dX11_valueNow_6 : decode cX11_valueNow 6 = .ok (.getfield 38, 3) := by decide +kernel
theorem dX11_valueNow_9 : decode cX11_valueNow 9 = .ok (.iconst 5, 1) := by decide +kernel
theorem dX11_valueNow_10 : decode cX11_valueNow 10 = .ok (.iaload, 1) := by decide +kernel
theorem dX11_valueNow_11 : decode cX11_valueNow 11 = .ok (.if_icmp .ge 112, 3) := by decide +kernel
theorem dX11_valueNow_14 : decode cX11_valueNow 14 = .ok (.aload_n 0, 1) := by decide +kernel
theorem dX11_valueNow_15 : decode cX11_valueNow 15 = .ok (.getfield 70, 3) := by decide +kernel
theorem dX11_valueNow_18 : decode cX11_valueNow 18 = .ok (.iload_n 2, 1) := by decide +kernel
theorem dX11_valueNow_19 : decode cX11_valueNow 19 = .ok (.iaload, 1) := by decide +kernel
theorem dX11_valueNow_20 : decode cX11_valueNow 20 = .ok (.istore_n 3, 1) := by decide +kernel
theorem dX11_valueNow_21 : decode cX11_valueNow 21 = .ok (.iload_n 3, 1) := by decide +kernel
theorem dX11_valueNow_22 : decode cX11_valueNow 22 = .ok (.bipush (-20), 2) := by decide +kernel
theorem dX11_valueNow_24 : decode cX11_valueNow 24 = .ok (.if_icmp .le 31, 3) := by decide +kernel
theorem dX11_valueNow_27 : decode cX11_valueNow 27 = .ok (.aload_n 0, 1) := by decide +kernel
theorem dX11_valueNow_28 : decode cX11_valueNow 28 = .ok (.getfield 94, 3) := by decide +kernel
theorem dX11_valueNow_31 : decode cX11_valueNow 31 = .ok (.iload_n 1, 1) := by decide +kernel
theorem dX11_valueNow_32 : decode cX11_valueNow 32 = .ok (.iload_n 3, 1) := by decide +kernel
theorem dX11_valueNow_33 : decode cX11_valueNow 33 = .ok (.ifCond .lt 7, 3) := by decide +kernel
theorem dX11_valueNow_36 : decode cX11_valueNow 36 = .ok (.iload_n 3, 1) := by decide +kernel
theorem dX11_valueNow_37 : decode cX11_valueNow 37 = .ok (.goto 11, 3) := by decide +kernel
theorem dX11_valueNow_40 : decode cX11_valueNow 40 = .ok (.aload_n 0, 1) := by decide +kernel
theorem dX11_valueNow_41 : decode cX11_valueNow 41 = .ok (.getfield 91, 3) := by decide +kernel
theorem dX11_valueNow_44 : decode cX11_valueNow 44 = .ok (.iconst (-1), 1) := by decide +kernel
theorem dX11_valueNow_45 : decode cX11_valueNow 45 = .ok (.iload_n 3, 1) := by decide +kernel
theorem dX11_valueNow_46 : decode cX11_valueNow 46 = .ok (.isub, 1) := by decide +kernel
theorem dX11_valueNow_47 : decode cX11_valueNow 47 = .ok (.iaload, 1) := by decide +kernel
theorem dX11_valueNow_48 : decode cX11_valueNow 48 = .ok (.iastore, 1) := by decide +kernel
theorem dX11_valueNow_49 : decode cX11_valueNow 49 = .ok (.iinc 1 1, 3) := by decide +kernel
theorem dX11_valueNow_52 : decode cX11_valueNow 52 = .ok (.goto 65, 3) := by decide +kernel
theorem dX11_valueNow_55 : decode cX11_valueNow 55 = .ok (.iload_n 3, 1) := by decide +kernel
theorem dX11_valueNow_56 : decode cX11_valueNow 56 = .ok (.bipush (-28), 2) := by decide +kernel
theorem dX11_valueNow_58 : decode cX11_valueNow 58 = .ok (.if_icmp .ne 30, 3) := by decide +kernel
theorem dX11_valueNow_61 : decode cX11_valueNow 61 = .ok (.aload_n 0, 1) := by decide +kernel
theorem dX11_valueNow_62 : decode cX11_valueNow 62 = .ok (.getfield 94, 3) := by decide +kernel
theorem dX11_valueNow_65 : decode cX11_valueNow 65 = .ok (.iload_n 1, 1) := by decide +kernel
theorem dX11_valueNow_66 : decode cX11_valueNow 66 = .ok (.iconst 1, 1) := by decide +kernel
theorem dX11_valueNow_67 : decode cX11_valueNow 67 = .ok (.isub, 1) := by decide +kernel
theorem dX11_valueNow_68 : decode cX11_valueNow 68 = .ok (.aload_n 0, 1) := by decide +kernel
theorem dX11_valueNow_69 : decode cX11_valueNow 69 = .ok (.getfield 94, 3) := by decide +kernel
theorem dX11_valueNow_72 : decode cX11_valueNow 72 = .ok (.iload_n 1, 1) := by decide +kernel
theorem dX11_valueNow_73 : decode cX11_valueNow 73 = .ok (.iconst 1, 1) := by decide +kernel
theorem dX11_valueNow_74 : decode cX11_valueNow 74 = .ok (.isub, 1) := by decide +kernel
theorem dX11_valueNow_75 : decode cX11_valueNow 75 = .ok (.iaload, 1) := by decide +kernel
theorem dX11_valueNow_76 : decode cX11_valueNow 76 = .ok (.ifCond .eq 7, 3) := by decide +kernel
theorem dX11_valueNow_79 : decode cX11_valueNow 79 = .ok (.iconst 0, 1) := by decide +kernel
theorem dX11_valueNow_80 : decode cX11_valueNow 80 = .ok (.goto 4, 3) := by decide +kernel
theorem dX11_valueNow_83 : decode cX11_valueNow 83 = .ok (.iconst 1, 1) := by decide +kernel
theorem dX11_valueNow_84 : decode cX11_valueNow 84 = .ok (.iastore, 1) := by decide +kernel
theorem dX11_valueNow_85 : decode cX11_valueNow 85 = .ok (.goto 32, 3) := by decide +kernel
theorem dX11_valueNow_88 : decode cX11_valueNow 88 = .ok (.iinc 1 (-1), 3) := by decide +kernel
theorem dX11_valueNow_91 : decode cX11_valueNow 91 = .ok (.aload_n 0, 1) := by decide +kernel
theorem dX11_valueNow_92 : decode cX11_valueNow 92 = .ok (.getfield 94, 3) := by decide +kernel
theorem dX11_valueNow_95 : decode cX11_valueNow 95 = .ok (.iload_n 1, 1) := by decide +kernel
theorem dX11_valueNow_96 : decode cX11_valueNow 96 = .ok (.iconst 1, 1) := by decide +kernel
theorem dX11_valueNow_97 : decode cX11_valueNow 97 = .ok (.isub, 1) := by decide +kernel
theorem dX11_valueNow_98 : decode cX11_valueNow 98 = .ok (.iload_n 3, 1) := by decide +kernel
theorem dX11_valueNow_99 : decode cX11_valueNow 99 = .ok (.aload_n 0, 1) := by decide +kernel
theorem dX11_valueNow_100 : decode cX11_valueNow 100 = .ok (.getfield 94, 3) := by decide +kernel
theorem dX11_valueNow_103 : decode cX11_valueNow 103 = .ok (.iload_n 1, 1) := by decide +kernel
theorem dX11_valueNow_104 : decode cX11_valueNow 104 = .ok (.iconst 1, 1) := by decide +kernel
theorem dX11_valueNow_105 : decode cX11_valueNow 105 = .ok (.isub, 1) := by decide +kernel
theorem dX11_valueNow_106 : decode cX11_valueNow 106 = .ok (.iaload, 1) := by decide +kernel
theorem dX11_valueNow_107 : decode cX11_valueNow 107 = .ok (.aload_n 0, 1) := by decide +kernel
theorem dX11_valueNow_108 : decode cX11_valueNow 108 = .ok (.getfield 94, 3) := by decide +kernel
theorem dX11_valueNow_111 : decode cX11_valueNow 111 = .ok (.iload_n 1, 1) := by decide +kernel
theorem dX11_valueNow_112 : decode cX11_valueNow 112 = .ok (.iaload, 1) := by decide +kernel
theorem dX11_valueNow_113 : decode cX11_valueNow 113 = .ok (.invokestatic 367, 3) := by decide +kernel
theorem dX11_valueNow_116 : decode cX11_valueNow 116 = .ok (.iastore, 1) := by decide +kernel
theorem dX11_valueNow_117 : decode cX11_valueNow 117 = .ok (.iinc 2 1, 3) := by decide +kernel
theorem dX11_valueNow_120 : decode cX11_valueNow 120 = .ok (.goto (-116), 3) := by decide +kernel
theorem dX11_valueNow_123 : decode cX11_valueNow 123 = .ok (.aload_n 0, 1) := by decide +kernel
theorem dX11_valueNow_124 : decode cX11_valueNow 124 = .ok (.getfield 94, 3) := by decide +kernel
theorem dX11_valueNow_127 : decode cX11_valueNow 127 = .ok (.iconst 0, 1) := by decide +kernel
theorem dX11_valueNow_128 : decode cX11_valueNow 128 = .ok (.iaload, 1) := by decide +kernel
theorem dX11_valueNow_129 : decode cX11_valueNow 129 = .ok (.ireturn, 1) := by decide +kernel
def b_X11_valueNow_L4 (K : g_I → Option (Int32 × g_I)) : Nat → Int32 → Int32 → g_I → Option (Int32 × g_I)
  | 0, _, _, _ => none
  | f + 1, x1, x2, I => if (I 104 5) ≤ x2 then K I else if g_in x2 1200 = true then g_let (I 115 x2.toNatClampNeg) fun a1 => if a1 ≤ (-20) then if a1 = (-28) then if g_in (x1 - 1) 64 = true then if (I 122 (x1 - 1).toNatClampNeg) = 0 then if g_in (x1 - 1) 64 = true then g_let (am_up I 122 (x1 - 1).toNatClampNeg 1) fun I3 => b_X11_valueNow_L4 K f x1 (x2 + 1) I3 else none else if g_in (x1 - 1) 64 = true then g_let (am_up I 122 (x1 - 1).toNatClampNeg 0) fun I4 => b_X11_valueNow_L4 K f x1 (x2 + 1) I4 else none else none else if g_in ((x1 + (-1)) - 1) 64 = true then if g_in (x1 + (-1)) 64 = true then if g_in ((x1 + (-1)) - 1) 64 = true then g_let (am_up I 122 ((x1 + (-1)) - 1).toNatClampNeg (b_X11_reckon a1 (I 122 ((x1 + (-1)) - 1).toNatClampNeg) (I 122 (x1 + (-1)).toNatClampNeg))) fun I2 => b_X11_valueNow_L4 K f (x1 + (-1)) (x2 + 1) I2 else none else none else none else if a1 < 0 then if g_in (((-1) : Int32) - a1) 6 = true then if g_in x1 64 = true then g_let (am_up I 122 x1.toNatClampNeg (I 121 (((-1) : Int32) - a1).toNatClampNeg)) fun I5 => b_X11_valueNow_L4 K f (x1 + 1) (x2 + 1) I5 else none else none else if g_in x1 64 = true then g_let (am_up I 122 x1.toNatClampNeg a1) fun I6 => b_X11_valueNow_L4 K f (x1 + 1) (x2 + 1) I6 else none else none
def b_X11_valueNow (I : g_I) : Option (Int32 × g_I) :=
  b_X11_valueNow_L4 (fun (I7 : g_I) => some (I7 122 0, I7)) fu 0 0 I
set_option maxRecDepth 100000 in
set_option maxHeartbeats 4000000 in
theorem gL_X11_valueNow_4 {G : am_G} (hK : k_OK G) {d : Nat} (hd : 1 ≤ d) {sh : List (Nat ⊕ (Nat × Nat))} {I : g_I} {R : Nat → Nat → Option Nat} {L : Nat → Nat → Int64} {g : Nat} (hm : k_Mod sh R) {K : g_I → Option (Int32 × g_I)} {x1 : Int32} {x2 : Int32} {f : Nat} {r : Int32 × g_I} (h : b_X11_valueNow_L4 K f x1 x2 I = some r) (hk : ∀ (J : g_I), K J = some r → AW G mX11_valueNow d (fun v w => v = some (.int r.1) ∧ w = (sh, r.2, R, L, g)) (fun _ _ => False) 123 [some (.ref 101), none, none, none] [] (sh, J, R, L, g) 0 0) : AW G mX11_valueNow d (fun v w => v = some (.int r.1) ∧ w = (sh, r.2, R, L, g)) (fun _ _ => False) 4 [some (.ref 101), some (.int x1), some (.int x2), none] [] (sh, I, R, L, g) 0 0 := by
  have hG := hK.1
  induction f generalizing x1 x2 I with
  | zero => rw [b_X11_valueNow_L4] at h; cases h
  | succ f ih =>
    rw [b_X11_valueNow_L4] at h
    refine AW.iload_n dX11_valueNow_4 rfl ?_
    refine AW.aload_n dX11_valueNow_5 rfl ?_
    refine AW.getR (c' := 104) (fX11_38 hG).r rfl (hm.1 0 _ rfl) (hm.2 (0, 3, 3) (by decide)) dX11_valueNow_6 ?_
    refine AW.iconst 5 dX11_valueNow_9 (by decide) ?_
    refine AW.iald (hm.1 3 _ rfl) (by unfold vp_in; decide) dX11_valueNow_10 ?_
    show AW G _ d _ _ 11 [some (.ref 101), some (.int x1), some (.int x2), none] [.int (I 104 5), .int x2] (sh, I, R, L, g) 0 0
    refine AW.icmp_ge 123 dX11_valueNow_11 (by decide) (fun hc11 => ?_) (fun hc11 => ?_)
    · replace h := g_pos hc11 h
      refine AW.mask [1, 2] [some (.ref 101), none, none, none] rfl ?_
      exact hk _ h
    · replace h := g_neg hc11 h
      refine AW.aload_n dX11_valueNow_14 rfl ?_
      refine AW.getR (c' := 115) (fX11_70 hG).r rfl (hm.1 0 _ rfl) (hm.2 (0, 14, 14) (by decide)) dX11_valueNow_15 ?_
      refine AW.iload_n dX11_valueNow_18 rfl ?_
      obtain ⟨hb, h⟩ := g_ifE h
      refine AW.iald (hm.1 14 _ rfl) (g_in_iff.mp hb) dX11_valueNow_19 ?_
      obtain ⟨a1, ea1, h⟩ := g_letE h
      refine AW.namE ea1 ?_
      refine AW.is_n [some (.ref 101), some (.int x1), some (.int x2), some (.int a1)] dX11_valueNow_20 (by decide) rfl rfl ?_
      refine AW.iload_n dX11_valueNow_21 rfl ?_
      refine AW.bipush (-20) dX11_valueNow_22 (by decide) ?_
      refine AW.icmp_le 55 dX11_valueNow_24 (by decide) (fun hc24 => ?_) (fun hc24 => ?_)
      · replace h := g_pos hc24 h
        refine AW.iload_n dX11_valueNow_55 rfl ?_
        refine AW.bipush (-28) dX11_valueNow_56 (by decide) ?_
        refine AW.icmp_ne 88 dX11_valueNow_58 (by decide) (fun hc58 => ?_) (fun hc58 => ?_)
        · replace h := g_neg hc58 h
          refine AW.incE (-1) (by decide) [some (.ref 101), some (.int (x1 + (-1))), some (.int x2), some (.int a1)] dX11_valueNow_88 rfl (by decide) rfl rfl ?_
          refine AW.aload_n dX11_valueNow_91 rfl ?_
          refine AW.getR (c' := 122) (fX11_94 hG).r rfl (hm.1 0 _ rfl) (hm.2 (0, 36, 21) (by decide)) dX11_valueNow_92 ?_
          refine AW.iload_n dX11_valueNow_95 rfl ?_
          refine AW.iconst 1 dX11_valueNow_96 (by decide) ?_
          refine AW.isub dX11_valueNow_97 ?_
          refine AW.iload_n dX11_valueNow_98 rfl ?_
          refine AW.aload_n dX11_valueNow_99 rfl ?_
          refine AW.getR (c' := 122) (fX11_94 hG).r rfl (hm.1 0 _ rfl) (hm.2 (0, 36, 21) (by decide)) dX11_valueNow_100 ?_
          refine AW.iload_n dX11_valueNow_103 rfl ?_
          refine AW.iconst 1 dX11_valueNow_104 (by decide) ?_
          refine AW.isub dX11_valueNow_105 ?_
          obtain ⟨hb, h⟩ := g_ifE h
          refine AW.iald (hm.1 21 _ rfl) (g_in_iff.mp hb) dX11_valueNow_106 ?_
          refine AW.aload_n dX11_valueNow_107 rfl ?_
          refine AW.getR (c' := 122) (fX11_94 hG).r rfl (hm.1 0 _ rfl) (hm.2 (0, 36, 21) (by decide)) dX11_valueNow_108 ?_
          refine AW.iload_n dX11_valueNow_111 rfl ?_
          obtain ⟨hb, h⟩ := g_ifE h
          refine AW.iald (hm.1 21 _ rfl) (g_in_iff.mp hb) dX11_valueNow_112 ?_
          refine AW.callS (As := [.int a1, .int (I 122 ((x1 + (-1)) - 1).toNatClampNeg), .int (I 122 (x1 + (-1)).toNatClampNeg)]) hG.2.2 (vX11_367 hG) (g_X11_reckon hK (d := 0) (Nat.le_refl _)) (by omega) dX11_valueNow_113 rfl rfl (Nat.le_of_ble_eq_true rfl) (fun v w9 hq9 h09 => by obtain ⟨rfl, rfl⟩ := hq9; exact ⟨h09, rfl⟩) (by decide) (by decide) (fun _ _ hx => hx) (fun v9 w9 hq9 => ?_)
          obtain ⟨rfl, rfl⟩ := hq9
          show AW G _ d _ _ 116 [some (.ref 101), some (.int (x1 + (-1))), some (.int x2), some (.int a1)] [.int (b_X11_reckon a1 (I 122 ((x1 + (-1)) - 1).toNatClampNeg) (I 122 (x1 + (-1)).toNatClampNeg)), .int ((x1 + (-1)) - 1), .ref 122] (sh, I, R, L, g) 0 0
          obtain ⟨hb, h⟩ := g_ifE h
          refine AW.iast (hm.1 21 _ rfl) (g_in_iff.mp hb) dX11_valueNow_116 ?_
          obtain ⟨I2, eI2, h⟩ := g_letE h
          refine AW.namIE eI2 ?_
          refine AW.incE 1 (by decide) [some (.ref 101), some (.int (x1 + (-1))), some (.int (x2 + 1)), some (.int a1)] dX11_valueNow_117 rfl (by decide) rfl rfl ?_
          refine AW.goto 4 dX11_valueNow_120 (by decide) ?_
          refine AW.mask [3] [some (.ref 101), some (.int (x1 + (-1))), some (.int (x2 + 1)), none] rfl ?_
          exact ih h
        · replace h := g_pos hc58 h
          refine AW.aload_n dX11_valueNow_61 rfl ?_
          refine AW.getR (c' := 122) (fX11_94 hG).r rfl (hm.1 0 _ rfl) (hm.2 (0, 36, 21) (by decide)) dX11_valueNow_62 ?_
          refine AW.iload_n dX11_valueNow_65 rfl ?_
          refine AW.iconst 1 dX11_valueNow_66 (by decide) ?_
          refine AW.isub dX11_valueNow_67 ?_
          refine AW.aload_n dX11_valueNow_68 rfl ?_
          refine AW.getR (c' := 122) (fX11_94 hG).r rfl (hm.1 0 _ rfl) (hm.2 (0, 36, 21) (by decide)) dX11_valueNow_69 ?_
          refine AW.iload_n dX11_valueNow_72 rfl ?_
          refine AW.iconst 1 dX11_valueNow_73 (by decide) ?_
          refine AW.isub dX11_valueNow_74 ?_
          obtain ⟨hb, h⟩ := g_ifE h
          refine AW.iald (hm.1 21 _ rfl) (g_in_iff.mp hb) dX11_valueNow_75 ?_
          refine AW.if_eq 83 dX11_valueNow_76 (by decide) (fun hc76 => ?_) (fun hc76 => ?_)
          · replace h := g_pos hc76 h
            refine AW.iconst 1 dX11_valueNow_83 (by decide) ?_
            obtain ⟨hb, h⟩ := g_ifE h
            refine AW.iast (hm.1 21 _ rfl) (g_in_iff.mp hb) dX11_valueNow_84 ?_
            obtain ⟨I3, eI3, h⟩ := g_letE h
            refine AW.namIE eI3 ?_
            refine AW.goto 117 dX11_valueNow_85 (by decide) ?_
            refine AW.incE 1 (by decide) [some (.ref 101), some (.int x1), some (.int (x2 + 1)), some (.int a1)] dX11_valueNow_117 rfl (by decide) rfl rfl ?_
            refine AW.goto 4 dX11_valueNow_120 (by decide) ?_
            refine AW.mask [3] [some (.ref 101), some (.int x1), some (.int (x2 + 1)), none] rfl ?_
            exact ih h
          · replace h := g_neg hc76 h
            refine AW.iconst 0 dX11_valueNow_79 (by decide) ?_
            refine AW.goto 84 dX11_valueNow_80 (by decide) ?_
            obtain ⟨hb, h⟩ := g_ifE h
            refine AW.iast (hm.1 21 _ rfl) (g_in_iff.mp hb) dX11_valueNow_84 ?_
            obtain ⟨I4, eI4, h⟩ := g_letE h
            refine AW.namIE eI4 ?_
            refine AW.goto 117 dX11_valueNow_85 (by decide) ?_
            refine AW.incE 1 (by decide) [some (.ref 101), some (.int x1), some (.int (x2 + 1)), some (.int a1)] dX11_valueNow_117 rfl (by decide) rfl rfl ?_
            refine AW.goto 4 dX11_valueNow_120 (by decide) ?_
            refine AW.mask [3] [some (.ref 101), some (.int x1), some (.int (x2 + 1)), none] rfl ?_
            exact ih h
      · replace h := g_neg hc24 h
        refine AW.aload_n dX11_valueNow_27 rfl ?_
        refine AW.getR (c' := 122) (fX11_94 hG).r rfl (hm.1 0 _ rfl) (hm.2 (0, 36, 21) (by decide)) dX11_valueNow_28 ?_
        refine AW.iload_n dX11_valueNow_31 rfl ?_
        refine AW.iload_n dX11_valueNow_32 rfl ?_
        refine AW.if_lt 40 dX11_valueNow_33 (by decide) (fun hc33 => ?_) (fun hc33 => ?_)
        · replace h := g_pos hc33 h
          refine AW.aload_n dX11_valueNow_40 rfl ?_
          refine AW.getR (c' := 121) (fX11_91 hG).r rfl (hm.1 0 _ rfl) (hm.2 (0, 35, 20) (by decide)) dX11_valueNow_41 ?_
          refine AW.iconst (-1) dX11_valueNow_44 (by decide) ?_
          refine AW.iload_n dX11_valueNow_45 rfl ?_
          refine AW.isub dX11_valueNow_46 ?_
          obtain ⟨hb, h⟩ := g_ifE h
          refine AW.iald (hm.1 20 _ rfl) (g_in_iff.mp hb) dX11_valueNow_47 ?_
          obtain ⟨hb, h⟩ := g_ifE h
          refine AW.iast (hm.1 21 _ rfl) (g_in_iff.mp hb) dX11_valueNow_48 ?_
          obtain ⟨I5, eI5, h⟩ := g_letE h
          refine AW.namIE eI5 ?_
          refine AW.incE 1 (by decide) [some (.ref 101), some (.int (x1 + 1)), some (.int x2), some (.int a1)] dX11_valueNow_49 rfl (by decide) rfl rfl ?_
          refine AW.goto 117 dX11_valueNow_52 (by decide) ?_
          refine AW.incE 1 (by decide) [some (.ref 101), some (.int (x1 + 1)), some (.int (x2 + 1)), some (.int a1)] dX11_valueNow_117 rfl (by decide) rfl rfl ?_
          refine AW.goto 4 dX11_valueNow_120 (by decide) ?_
          refine AW.mask [3] [some (.ref 101), some (.int (x1 + 1)), some (.int (x2 + 1)), none] rfl ?_
          exact ih h
        · replace h := g_neg hc33 h
          refine AW.iload_n dX11_valueNow_36 rfl ?_
          refine AW.goto 48 dX11_valueNow_37 (by decide) ?_
          obtain ⟨hb, h⟩ := g_ifE h
          refine AW.iast (hm.1 21 _ rfl) (g_in_iff.mp hb) dX11_valueNow_48 ?_
          obtain ⟨I6, eI6, h⟩ := g_letE h
          refine AW.namIE eI6 ?_
          refine AW.incE 1 (by decide) [some (.ref 101), some (.int (x1 + 1)), some (.int x2), some (.int a1)] dX11_valueNow_49 rfl (by decide) rfl rfl ?_
          refine AW.goto 117 dX11_valueNow_52 (by decide) ?_
          refine AW.incE 1 (by decide) [some (.ref 101), some (.int (x1 + 1)), some (.int (x2 + 1)), some (.int a1)] dX11_valueNow_117 rfl (by decide) rfl rfl ?_
          refine AW.goto 4 dX11_valueNow_120 (by decide) ?_
          refine AW.mask [3] [some (.ref 101), some (.int (x1 + 1)), some (.int (x2 + 1)), none] rfl ?_
          exact ih h
set_option maxRecDepth 100000 in
set_option maxHeartbeats 4000000 in
theorem g_X11_valueNow {G : am_G} (hK : k_OK G) {d : Nat} (hd : 1 ≤ d) {sh : List (Nat ⊕ (Nat × Nat))} {I : g_I} {R : Nat → Nat → Option Nat} {L : Nat → Nat → Int64} {g : Nat} (hm : k_Mod sh R) {r : Int32 × g_I} (h : b_X11_valueNow I = some r) : AM G mX11_valueNow d [.ref 101] (sh, I, R, L, g) (fun v w => v = some (.int r.1) ∧ w = (sh, r.2, R, L, g)) (fun _ _ => False) := by
  have hG := hK.1
  refine AM.of (n := 3) (by decide +kernel) (Nat.le_of_ble_eq_true rfl) ?_
  show AW G mX11_valueNow d (fun v w => v = some (.int r.1) ∧ w = (sh, r.2, R, L, g)) (fun _ _ => False) 0 [some (.ref 101), none, none, none] [] (sh, I, R, L, g) 0 0
  unfold b_X11_valueNow at h
  refine AW.iconst 0 dX11_valueNow_0 (by decide) ?_
  refine AW.is_n [some (.ref 101), some (.int 0), none, none] dX11_valueNow_1 (by decide) rfl rfl ?_
  refine AW.iconst 0 dX11_valueNow_2 (by decide) ?_
  refine AW.is_n [some (.ref 101), some (.int 0), some (.int 0), none] dX11_valueNow_3 (by decide) rfl rfl ?_
  refine gL_X11_valueNow_4 hK hd hm h (fun I7 h => ?_)
  refine AW.aload_n dX11_valueNow_123 rfl ?_
  refine AW.getR (c' := 122) (fX11_94 hG).r rfl (hm.1 0 _ rfl) (hm.2 (0, 36, 21) (by decide)) dX11_valueNow_124 ?_
  refine AW.iconst 0 dX11_valueNow_127 (by decide) ?_
  refine AW.iald (hm.1 21 _ rfl) (by unfold vp_in; decide) dX11_valueNow_128 ?_
  show AW G _ d _ _ 129 [some (.ref 101), none, none, none] [.int (I7 122 0)] (sh, I7, R, L, g) 0 0
  exact AW.iret dX11_valueNow_129 rfl (by decide) (by decide) (by cases h; exact ⟨rfl, rfl⟩)
theorem dX11_shareOf_0 : decode cX11_shareOf 0 = .ok (.aload_n 0, 1) := by decide +kernel
theorem dX11_shareOf_1 : decode cX11_shareOf 1 = .ok (.getfield 38, 3) := by decide +kernel
theorem dX11_shareOf_4 : decode cX11_shareOf 4 = .ok (.iconst 5, 1) := by decide +kernel
theorem dX11_shareOf_5 : decode cX11_shareOf 5 = .ok (.iaload, 1) := by decide +kernel
theorem dX11_shareOf_6 : decode cX11_shareOf 6 = .ok (.ifCond .eq 13, 3) := by decide +kernel
theorem dX11_shareOf_9 : decode cX11_shareOf 9 = .ok (.aload_n 0, 1) := by decide +kernel
theorem dX11_shareOf_10 : decode cX11_shareOf 10 = .ok (.getfield 42, 3) := by decide +kernel
theorem dX11_shareOf_13 : decode cX11_shareOf 13 = .ok (.iload_n 1, 1) := by decide +kernel
theorem dX11_shareOf_14 : decode cX11_shareOf 14 = .ok (.iaload, 1) := by decide +kernel
theorem dX11_shareOf_15 : decode cX11_shareOf 15 = .ok (.iconst 2, 1) := by decide +kernel
theorem dX11_shareOf_16 : decode cX11_shareOf 16 = .ok (.if_icmp .ne 5, 3) := by decide +kernel
theorem dX11_shareOf_19 : decode cX11_shareOf 19 = .ok (.iconst 1, 1) := by decide +kernel
theorem dX11_shareOf_20 : decode cX11_shareOf 20 = .ok (.ireturn, 1) := by decide +kernel
theorem dX11_shareOf_21 : decode cX11_shareOf 21 = .ok (.aload_n 0, 1) := by decide +kernel
theorem dX11_shareOf_22 : decode cX11_shareOf 22 = .ok (.getfield 91, 3) := by decide +kernel
theorem dX11_shareOf_25 : decode cX11_shareOf 25 = .ok (.iconst 0, 1) := by decide +kernel
theorem dX11_shareOf_26 : decode cX11_shareOf 26 = .ok (.aload_n 0, 1) := by decide +kernel
theorem dX11_shareOf_27 : decode cX11_shareOf 27 = .ok (.getfield 42, 3) := by decide +kernel
theorem dX11_shareOf_30 : decode cX11_shareOf 30 = .ok (.iload_n 1, 1) := by decide +kernel
theorem dX11_shareOf_31 : decode cX11_shareOf 31 = .ok (.iaload, 1) := by decide +kernel
theorem dX11_shareOf_32 : decode cX11_shareOf 32 = .ok (.iconst 1, 1) := by decide +kernel
theorem dX11_shareOf_33 : decode cX11_shareOf 33 = .ok (.if_icmp .ne 14, 3) := by decide +kernel
theorem dX11_shareOf_36 : decode cX11_shareOf 36 = .ok (.aload_n 0, 1) := by decide +kernel
theorem dX11_shareOf_37 : decode cX11_shareOf 37 = .ok (.getfield 371, 3) := by decide +kernel
theorem dX11_shareOf_40 : decode cX11_shareOf 40 = .ok (.iconst 1, 1) := by decide +kernel
theorem dX11_shareOf_41 : decode cX11_shareOf 41 = .ok (.isub, 1) := by decide +kernel
theorem dX11_shareOf_42 : decode cX11_shareOf 42 = .ok (.iload_n 3, 1) := by decide +kernel
theorem dX11_shareOf_43 : decode cX11_shareOf 43 = .ok (.isub, 1) := by decide +kernel
theorem dX11_shareOf_44 : decode cX11_shareOf 44 = .ok (.goto 4, 3) := by decide +kernel
theorem dX11_shareOf_47 : decode cX11_shareOf 47 = .ok (.iload_n 3, 1) := by decide +kernel
theorem dX11_shareOf_48 : decode cX11_shareOf 48 = .ok (.iastore, 1) := by decide +kernel
theorem dX11_shareOf_49 : decode cX11_shareOf 49 = .ok (.aload_n 0, 1) := by decide +kernel
theorem dX11_shareOf_50 : decode cX11_shareOf 50 = .ok (.getfield 91, 3) := by decide +kernel
theorem dX11_shareOf_53 : decode cX11_shareOf 53 = .ok (.iconst 1, 1) := by decide +kernel
theorem dX11_shareOf_54 : decode cX11_shareOf 54 = .ok (.aload_n 0, 1) := by decide +kernel
theorem dX11_shareOf_55 : decode cX11_shareOf 55 = .ok (.getfield 371, 3) := by decide +kernel
theorem dX11_shareOf_58 : decode cX11_shareOf 58 = .ok (.iastore, 1) := by decide +kernel
theorem dX11_shareOf_59 : decode cX11_shareOf 59 = .ok (.aload_n 0, 1) := by decide +kernel
theorem dX11_shareOf_60 : decode cX11_shareOf 60 = .ok (.getfield 91, 3) := by decide +kernel
theorem dX11_shareOf_63 : decode cX11_shareOf 63 = .ok (.iconst 2, 1) := by decide +kernel
theorem dX11_shareOf_64 : decode cX11_shareOf 64 = .ok (.aload_n 0, 1) := by decide +kernel
theorem dX11_shareOf_65 : decode cX11_shareOf 65 = .ok (.getfield 52, 3) := by decide +kernel
theorem dX11_shareOf_68 : decode cX11_shareOf 68 = .ok (.iload_n 2, 1) := by decide +kernel
theorem dX11_shareOf_69 : decode cX11_shareOf 69 = .ok (.iaload, 1) := by decide +kernel
theorem dX11_shareOf_70 : decode cX11_shareOf 70 = .ok (.iastore, 1) := by decide +kernel
theorem dX11_shareOf_71 : decode cX11_shareOf 71 = .ok (.aload_n 0, 1) := by decide +kernel
theorem dX11_shareOf_72 : decode cX11_shareOf 72 = .ok (.getfield 91, 3) := by decide +kernel
theorem dX11_shareOf_75 : decode cX11_shareOf 75 = .ok (.iconst 3, 1) := by decide +kernel
theorem dX11_shareOf_76 : decode cX11_shareOf 76 = .ok (.aload_n 0, 1) := by decide +kernel
theorem dX11_shareOf_77 : decode cX11_shareOf 77 = .ok (.getfield 42, 3) := by decide +kernel
theorem dX11_shareOf_80 : decode cX11_shareOf 80 = .ok (.iload_n 1, 1) := by decide +kernel
theorem dX11_shareOf_81 : decode cX11_shareOf 81 = .ok (.iaload, 1) := by decide +kernel
theorem dX11_shareOf_82 : decode cX11_shareOf 82 = .ok (.iastore, 1) := by decide +kernel
theorem dX11_shareOf_83 : decode cX11_shareOf 83 = .ok (.aload_n 0, 1) := by decide +kernel
theorem dX11_shareOf_84 : decode cX11_shareOf 84 = .ok (.getfield 91, 3) := by decide +kernel
theorem dX11_shareOf_87 : decode cX11_shareOf 87 = .ok (.iconst 4, 1) := by decide +kernel
theorem dX11_shareOf_88 : decode cX11_shareOf 88 = .ok (.aload_n 0, 1) := by decide +kernel
theorem dX11_shareOf_89 : decode cX11_shareOf 89 = .ok (.getfield 47, 3) := by decide +kernel
theorem dX11_shareOf_92 : decode cX11_shareOf 92 = .ok (.iload_n 1, 1) := by decide +kernel
theorem dX11_shareOf_93 : decode cX11_shareOf 93 = .ok (.iaload, 1) := by decide +kernel
theorem dX11_shareOf_94 : decode cX11_shareOf 94 = .ok (.iastore, 1) := by decide +kernel
theorem dX11_shareOf_95 : decode cX11_shareOf 95 = .ok (.aload_n 0, 1) := by decide +kernel
theorem dX11_shareOf_96 : decode cX11_shareOf 96 = .ok (.getfield 91, 3) := by decide +kernel
theorem dX11_shareOf_99 : decode cX11_shareOf 99 = .ok (.iconst 5, 1) := by decide +kernel
theorem dX11_shareOf_100 : decode cX11_shareOf 100 = .ok (.aload_n 0, 1) := by decide +kernel
theorem dX11_shareOf_101 : decode cX11_shareOf 101 = .ok (.getfield 86, 3) := by decide +kernel
theorem dX11_shareOf_104 : decode cX11_shareOf 104 = .ok (.iload_n 1, 1) := by decide +kernel
theorem dX11_shareOf_105 : decode cX11_shareOf 105 = .ok (.iaload, 1) := by decide +kernel
theorem dX11_shareOf_106 : decode cX11_shareOf 106 = .ok (.iastore, 1) := by decide +kernel
theorem dX11_shareOf_107 : decode cX11_shareOf 107 = .ok (.iconst 1, 1) := by decide +kernel
theorem dX11_shareOf_108 : decode cX11_shareOf 108 = .ok (.bipush 99, 2) := by decide +kernel
theorem dX11_shareOf_110 : decode cX11_shareOf 110 = .ok (.aload_n 0, 1) := by decide +kernel
theorem dX11_shareOf_111 : decode cX11_shareOf 111 = .ok (.invokevirtual 374, 3) := by decide +kernel
theorem dX11_shareOf_114 : decode cX11_shareOf 114 = .ok (.invokestatic 195, 3) := by decide +kernel
theorem dX11_shareOf_117 : decode cX11_shareOf 117 = .ok (.invokestatic 285, 3) := by decide +kernel
theorem dX11_shareOf_120 : decode cX11_shareOf 120 = .ok (.ireturn, 1) := by decide +kernel
def b_X11_shareOf (I : g_I) (x1 : Int32) (x2 : Int32) (x3 : Int32) : Option (Int32 × g_I) :=
  g_let (fun (w0 : Int32) (w1 : Int32) (I48j : g_I) => if g_in w1 6 = true then g_let (am_up I48j 121 w1.toNatClampNeg w0) fun I1 => g_let (am_up I1 121 1 (I1 101 40)) fun I2 => if g_in x2 12 = true then g_let (am_up I2 121 2 (I2 109 x2.toNatClampNeg)) fun I3 => if g_in x1 16 = true then g_let (am_up I3 121 3 (I3 105 x1.toNatClampNeg)) fun I4 => if g_in x1 16 = true then g_let (am_up I4 121 4 (I4 107 x1.toNatClampNeg)) fun I5 => if g_in x1 8 = true then g_let (am_up I5 121 5 (I5 119 x1.toNatClampNeg)) fun I6 => g_bind2 (b_X11_valueNow I6) fun a7 I8 => some (g_max 1 (g_min 99 a7), I8) else none else none else none else none else none) fun J48 => if (I 104 5) = 0 then some (1, I) else if g_in x1 16 = true then if (I 105 x1.toNatClampNeg) = 2 then some (1, I) else if g_in x1 16 = true then if (I 105 x1.toNatClampNeg) = 1 then J48 (((I 101 40) - 1) - x3) 0 I else J48 x3 0 I else none else none
set_option maxRecDepth 100000 in
set_option maxHeartbeats 4000000 in
theorem g_X11_shareOf {G : am_G} (hK : k_OK G) {d : Nat} (hd : 2 ≤ d) {sh : List (Nat ⊕ (Nat × Nat))} {I : g_I} {R : Nat → Nat → Option Nat} {L : Nat → Nat → Int64} {g : Nat} (hm : k_Mod sh R) {x1 : Int32} {x2 : Int32} {x3 : Int32} {r : Int32 × g_I} (h : b_X11_shareOf I x1 x2 x3 = some r) : AM G mX11_shareOf d [.ref 101, .int x1, .int x2, .int x3] (sh, I, R, L, g) (fun v w => v = some (.int r.1) ∧ w = (sh, r.2, R, L, g)) (fun _ _ => False) := by
  have hG := hK.1
  refine AM.of (n := 0) (by decide +kernel) (Nat.le_of_ble_eq_true rfl) ?_
  show AW G mX11_shareOf d (fun v w => v = some (.int r.1) ∧ w = (sh, r.2, R, L, g)) (fun _ _ => False) 0 [some (.ref 101), some (.int x1), some (.int x2), some (.int x3)] [] (sh, I, R, L, g) 0 0
  unfold b_X11_shareOf at h
  obtain ⟨J48, eJ48, h⟩ := g_letE h
  have H48 : ∀ (w0 : Int32) (w1 : Int32) (I48j : g_I), J48 w0 w1 I48j = some r → AW G mX11_shareOf d (fun v w => v = some (.int r.1) ∧ w = (sh, r.2, R, L, g)) (fun _ _ => False) 48 [some (.ref 101), some (.int x1), some (.int x2), none] [.int w0, .int w1, .ref 121] (sh, I48j, R, L, g) 0 0 := by
    intro w0 w1 I48j h
    rw [eJ48] at h
    obtain ⟨hb, h⟩ := g_ifE h
    refine AW.iast (hm.1 20 _ rfl) (g_in_iff.mp hb) dX11_shareOf_48 ?_
    obtain ⟨I1, eI1, h⟩ := g_letE h
    refine AW.namIE eI1 ?_
    refine AW.aload_n dX11_shareOf_49 rfl ?_
    refine AW.getR (c' := 121) (fX11_91 hG).r rfl (hm.1 0 _ rfl) (hm.2 (0, 35, 20) (by decide)) dX11_shareOf_50 ?_
    refine AW.iconst 1 dX11_shareOf_53 (by decide) ?_
    refine AW.aload_n dX11_shareOf_54 rfl ?_
    refine AW.getI (fX11_371 hG).r rfl (hm.1 0 _ rfl) dX11_shareOf_55 ?_
    refine AW.iast (hm.1 20 _ rfl) (by unfold vp_in; decide) dX11_shareOf_58 ?_
    show AW G _ d _ _ 59 [some (.ref 101), some (.int x1), some (.int x2), none] [] (sh, am_up I1 121 1 (I1 101 40), R, L, g) 0 0
    obtain ⟨I2, eI2, h⟩ := g_letE h
    refine AW.namIE eI2 ?_
    refine AW.aload_n dX11_shareOf_59 rfl ?_
    refine AW.getR (c' := 121) (fX11_91 hG).r rfl (hm.1 0 _ rfl) (hm.2 (0, 35, 20) (by decide)) dX11_shareOf_60 ?_
    refine AW.iconst 2 dX11_shareOf_63 (by decide) ?_
    refine AW.aload_n dX11_shareOf_64 rfl ?_
    refine AW.getR (c' := 109) (fX11_52 hG).r rfl (hm.1 0 _ rfl) (hm.2 (0, 8, 8) (by decide)) dX11_shareOf_65 ?_
    refine AW.iload_n dX11_shareOf_68 rfl ?_
    obtain ⟨hb, h⟩ := g_ifE h
    refine AW.iald (hm.1 8 _ rfl) (g_in_iff.mp hb) dX11_shareOf_69 ?_
    refine AW.iast (hm.1 20 _ rfl) (by unfold vp_in; decide) dX11_shareOf_70 ?_
    show AW G _ d _ _ 71 [some (.ref 101), some (.int x1), some (.int x2), none] [] (sh, am_up I2 121 2 (I2 109 x2.toNatClampNeg), R, L, g) 0 0
    obtain ⟨I3, eI3, h⟩ := g_letE h
    refine AW.namIE eI3 ?_
    refine AW.aload_n dX11_shareOf_71 rfl ?_
    refine AW.getR (c' := 121) (fX11_91 hG).r rfl (hm.1 0 _ rfl) (hm.2 (0, 35, 20) (by decide)) dX11_shareOf_72 ?_
    refine AW.iconst 3 dX11_shareOf_75 (by decide) ?_
    refine AW.aload_n dX11_shareOf_76 rfl ?_
    refine AW.getR (c' := 105) (fX11_42 hG).r rfl (hm.1 0 _ rfl) (hm.2 (0, 4, 4) (by decide)) dX11_shareOf_77 ?_
    refine AW.iload_n dX11_shareOf_80 rfl ?_
    obtain ⟨hb, h⟩ := g_ifE h
    refine AW.iald (hm.1 4 _ rfl) (g_in_iff.mp hb) dX11_shareOf_81 ?_
    refine AW.iast (hm.1 20 _ rfl) (by unfold vp_in; decide) dX11_shareOf_82 ?_
    show AW G _ d _ _ 83 [some (.ref 101), some (.int x1), some (.int x2), none] [] (sh, am_up I3 121 3 (I3 105 x1.toNatClampNeg), R, L, g) 0 0
    obtain ⟨I4, eI4, h⟩ := g_letE h
    refine AW.namIE eI4 ?_
    refine AW.aload_n dX11_shareOf_83 rfl ?_
    refine AW.getR (c' := 121) (fX11_91 hG).r rfl (hm.1 0 _ rfl) (hm.2 (0, 35, 20) (by decide)) dX11_shareOf_84 ?_
    refine AW.iconst 4 dX11_shareOf_87 (by decide) ?_
    refine AW.aload_n dX11_shareOf_88 rfl ?_
    refine AW.getR (c' := 107) (fX11_47 hG).r rfl (hm.1 0 _ rfl) (hm.2 (0, 6, 6) (by decide)) dX11_shareOf_89 ?_
    refine AW.iload_n dX11_shareOf_92 rfl ?_
    obtain ⟨hb, h⟩ := g_ifE h
    refine AW.iald (hm.1 6 _ rfl) (g_in_iff.mp hb) dX11_shareOf_93 ?_
    refine AW.iast (hm.1 20 _ rfl) (by unfold vp_in; decide) dX11_shareOf_94 ?_
    show AW G _ d _ _ 95 [some (.ref 101), some (.int x1), some (.int x2), none] [] (sh, am_up I4 121 4 (I4 107 x1.toNatClampNeg), R, L, g) 0 0
    obtain ⟨I5, eI5, h⟩ := g_letE h
    refine AW.namIE eI5 ?_
    refine AW.aload_n dX11_shareOf_95 rfl ?_
    refine AW.getR (c' := 121) (fX11_91 hG).r rfl (hm.1 0 _ rfl) (hm.2 (0, 35, 20) (by decide)) dX11_shareOf_96 ?_
    refine AW.iconst 5 dX11_shareOf_99 (by decide) ?_
    refine AW.aload_n dX11_shareOf_100 rfl ?_
    refine AW.getR (c' := 119) (fX11_86 hG).r rfl (hm.1 0 _ rfl) (hm.2 (0, 28, 18) (by decide)) dX11_shareOf_101 ?_
    refine AW.iload_n dX11_shareOf_104 rfl ?_
    obtain ⟨hb, h⟩ := g_ifE h
    refine AW.iald (hm.1 18 _ rfl) (g_in_iff.mp hb) dX11_shareOf_105 ?_
    refine AW.iast (hm.1 20 _ rfl) (by unfold vp_in; decide) dX11_shareOf_106 ?_
    show AW G _ d _ _ 107 [some (.ref 101), some (.int x1), some (.int x2), none] [] (sh, am_up I5 121 5 (I5 119 x1.toNatClampNeg), R, L, g) 0 0
    obtain ⟨I6, eI6, h⟩ := g_letE h
    refine AW.namIE eI6 ?_
    refine AW.iconst 1 dX11_shareOf_107 (by decide) ?_
    refine AW.bipush 99 dX11_shareOf_108 (by decide) ?_
    refine AW.aload_n dX11_shareOf_110 rfl ?_
    obtain ⟨a7, I8, hx9, h⟩ := g_bind2E h
    refine AW.callV (b := 101) (As := []) hG.2.2 (vX11_374 hG) (hm.1 0 _ rfl) (g_X11_valueNow hK (d := 1) (Nat.le_refl _) hm hx9) (by omega) dX11_shareOf_111 rfl rfl (Nat.le_of_ble_eq_true rfl) (fun v w9 hq9 h09 => by obtain ⟨rfl, rfl⟩ := hq9; exact ⟨h09, rfl⟩) (by decide) (by decide) (fun _ _ hx => hx) (fun v9 w9 hq9 => ?_)
    obtain ⟨rfl, rfl⟩ := hq9
    show AW G _ d _ _ 114 [some (.ref 101), some (.int x1), some (.int x2), none] [.int a7, .int 99, .int 1] (sh, I8, R, L, g) 0 0
    refine AW.mmin (k_c hG 1716 (by decide +kernel) (by decide +kernel)) (k_mmin hG) dX11_shareOf_114 (by omega) (Nat.le_of_ble_eq_true rfl) (by decide) (by decide) ?_
    show AW G _ d _ _ 117 [some (.ref 101), some (.int x1), some (.int x2), none] [.int (g_min 99 a7), .int 1] (sh, I8, R, L, g) 0 0
    refine AW.mmax (k_c hG 1812 (by decide +kernel) (by decide +kernel)) (k_mmax hG) dX11_shareOf_117 (by omega) (Nat.le_of_ble_eq_true rfl) (by decide) (by decide) ?_
    show AW G _ d _ _ 120 [some (.ref 101), some (.int x1), some (.int x2), none] [.int (g_max 1 (g_min 99 a7))] (sh, I8, R, L, g) 0 0
    exact AW.iret dX11_shareOf_120 rfl (by decide) (by decide) (by cases h; exact ⟨rfl, rfl⟩)
  refine AW.aload_n dX11_shareOf_0 rfl ?_
  refine AW.getR (c' := 104) (fX11_38 hG).r rfl (hm.1 0 _ rfl) (hm.2 (0, 3, 3) (by decide)) dX11_shareOf_1 ?_
  refine AW.iconst 5 dX11_shareOf_4 (by decide) ?_
  refine AW.iald (hm.1 3 _ rfl) (by unfold vp_in; decide) dX11_shareOf_5 ?_
  show AW G _ d _ _ 6 [some (.ref 101), some (.int x1), some (.int x2), some (.int x3)] [.int (I 104 5)] (sh, I, R, L, g) 0 0
  refine AW.if_eq 19 dX11_shareOf_6 (by decide) (fun hc6 => ?_) (fun hc6 => ?_)
  · replace h := g_pos hc6 h
    refine AW.iconst 1 dX11_shareOf_19 (by decide) ?_
    exact AW.iret dX11_shareOf_20 rfl (by decide) (by decide) (by cases h; exact ⟨rfl, rfl⟩)
  · replace h := g_neg hc6 h
    refine AW.aload_n dX11_shareOf_9 rfl ?_
    refine AW.getR (c' := 105) (fX11_42 hG).r rfl (hm.1 0 _ rfl) (hm.2 (0, 4, 4) (by decide)) dX11_shareOf_10 ?_
    refine AW.iload_n dX11_shareOf_13 rfl ?_
    obtain ⟨hb, h⟩ := g_ifE h
    refine AW.iald (hm.1 4 _ rfl) (g_in_iff.mp hb) dX11_shareOf_14 ?_
    refine AW.iconst 2 dX11_shareOf_15 (by decide) ?_
    refine AW.icmp_ne 21 dX11_shareOf_16 (by decide) (fun hc16 => ?_) (fun hc16 => ?_)
    · replace h := g_neg hc16 h
      refine AW.aload_n dX11_shareOf_21 rfl ?_
      refine AW.getR (c' := 121) (fX11_91 hG).r rfl (hm.1 0 _ rfl) (hm.2 (0, 35, 20) (by decide)) dX11_shareOf_22 ?_
      refine AW.iconst 0 dX11_shareOf_25 (by decide) ?_
      refine AW.aload_n dX11_shareOf_26 rfl ?_
      refine AW.getR (c' := 105) (fX11_42 hG).r rfl (hm.1 0 _ rfl) (hm.2 (0, 4, 4) (by decide)) dX11_shareOf_27 ?_
      refine AW.iload_n dX11_shareOf_30 rfl ?_
      obtain ⟨hb, h⟩ := g_ifE h
      refine AW.iald (hm.1 4 _ rfl) (g_in_iff.mp hb) dX11_shareOf_31 ?_
      refine AW.iconst 1 dX11_shareOf_32 (by decide) ?_
      refine AW.icmp_ne 47 dX11_shareOf_33 (by decide) (fun hc33 => ?_) (fun hc33 => ?_)
      · replace h := g_neg hc33 h
        refine AW.iload_n dX11_shareOf_47 rfl ?_
        refine AW.mask [3] [some (.ref 101), some (.int x1), some (.int x2), none] rfl ?_
        exact H48 _ _ _ h
      · replace h := g_pos hc33 h
        refine AW.aload_n dX11_shareOf_36 rfl ?_
        refine AW.getI (fX11_371 hG).r rfl (hm.1 0 _ rfl) dX11_shareOf_37 ?_
        refine AW.iconst 1 dX11_shareOf_40 (by decide) ?_
        refine AW.isub dX11_shareOf_41 ?_
        refine AW.iload_n dX11_shareOf_42 rfl ?_
        refine AW.isub dX11_shareOf_43 ?_
        refine AW.goto 48 dX11_shareOf_44 (by decide) ?_
        refine AW.mask [3] [some (.ref 101), some (.int x1), some (.int x2), none] rfl ?_
        exact H48 _ _ _ h
    · replace h := g_pos hc16 h
      refine AW.iconst 1 dX11_shareOf_19 (by decide) ?_
      exact AW.iret dX11_shareOf_20 rfl (by decide) (by decide) (by cases h; exact ⟨rfl, rfl⟩)
theorem dX11_tellUnits_0 : decode cX11_tellUnits 0 = .ok (.aload_n 0, 1) := by decide +kernel
theorem dX11_tellUnits_1 : decode cX11_tellUnits 1 = .ok (.iconst 0, 1) := by decide +kernel
theorem dX11_tellUnits_2 : decode cX11_tellUnits 2 = .ok (.putfield 371, 3) := by decide +kernel
theorem dX11_tellUnits_5 : decode cX11_tellUnits 5 = .ok (.iconst 0, 1) := by decide +kernel
theorem dX11_tellUnits_6 : decode cX11_tellUnits 6 = .ok (.istore_n 2, 1) := by decide +kernel
theorem dX11_tellUnits_7 : decode cX11_tellUnits 7 = .ok (.iload_n 2, 1) := by decide +kernel
theorem dX11_tellUnits_8 : decode cX11_tellUnits 8 = .ok (.aload_n 0, 1) := by decide +kernel
theorem dX11_tellUnits_9 : decode cX11_tellUnits 9 = .ok (.getfield 61, 3) := by decide +kernel
theorem dX11_tellUnits_12 : decode cX11_tellUnits 12 = .ok (.iload_n 1, 1) := by decide +kernel
theorem dX11_tellUnits_13 : decode cX11_tellUnits 13 = .ok (.iaload, 1) := by decide +kernel
theorem dX11_tellUnits_14 : decode cX11_tellUnits 14 = .ok (.if_icmp .ge 94, 3) := by decide +kernel
theorem dX11_tellUnits_17 : decode cX11_tellUnits 17 = .ok (.aload_n 0, 1) := by decide +kernel
theorem dX11_tellUnits_18 : decode cX11_tellUnits 18 = .ok (.getfield 99, 3) := by decide +kernel
theorem dX11_tellUnits_21 : decode cX11_tellUnits 21 = .ok (.iload_n 2, 1) := by decide +kernel
theorem dX11_tellUnits_22 : decode cX11_tellUnits 22 = .ok (.iload_n 2, 1) := by decide +kernel
theorem dX11_tellUnits_23 : decode cX11_tellUnits 23 = .ok (.iastore, 1) := by decide +kernel
theorem dX11_tellUnits_24 : decode cX11_tellUnits 24 = .ok (.iconst 0, 1) := by decide +kernel
theorem dX11_tellUnits_25 : decode cX11_tellUnits 25 = .ok (.istore_n 3, 1) := by decide +kernel
theorem dX11_tellUnits_26 : decode cX11_tellUnits 26 = .ok (.iload_n 3, 1) := by decide +kernel
theorem dX11_tellUnits_27 : decode cX11_tellUnits 27 = .ok (.aload_n 0, 1) := by decide +kernel
theorem dX11_tellUnits_28 : decode cX11_tellUnits 28 = .ok (.getfield 61, 3) := by decide +kernel
theorem dX11_tellUnits_31 : decode cX11_tellUnits 31 = .ok (.iload_n 1, 1) := by decide +kernel
theorem dX11_tellUnits_32 : decode cX11_tellUnits 32 = .ok (.iaload, 1) := by decide +kernel
theorem dX11_tellUnits_33 : decode cX11_tellUnits 33 = .ok (.if_icmp .ge 49, 3) := by decide +kernel
theorem dX11_tellUnits_36 : decode cX11_tellUnits 36 = .ok (.aload_n 0, 1) := by decide +kernel
theorem dX11_tellUnits_37 : decode cX11_tellUnits 37 = .ok (.aload_n 0, 1) := by decide +kernel
theorem dX11_tellUnits_38 : decode cX11_tellUnits 38 = .ok (.getfield 64, 3) := by decide +kernel
theorem dX11_tellUnits_41 : decode cX11_tellUnits 41 = .ok (.bipush 6, 2) := by decide +kernel
theorem dX11_tellUnits_43 : decode cX11_tellUnits 43 = .ok (.iload_n 1, 1) := by decide +kernel
theorem dX11_tellUnits_44 : decode cX11_tellUnits 44 = .ok (.imul, 1) := by decide +kernel
theorem dX11_tellUnits_45 : decode cX11_tellUnits 45 = .ok (.iload_n 2, 1) := by decide +kernel
theorem dX11_tellUnits_46 : decode cX11_tellUnits 46 = .ok (.iadd, 1) := by decide +kernel
theorem dX11_tellUnits_47 : decode cX11_tellUnits 47 = .ok (.iaload, 1) := by decide +kernel
theorem dX11_tellUnits_48 : decode cX11_tellUnits 48 = .ok (.invokevirtual 343, 3) := by decide +kernel
theorem dX11_tellUnits_51 : decode cX11_tellUnits 51 = .ok (.aload_n 0, 1) := by decide +kernel
theorem dX11_tellUnits_52 : decode cX11_tellUnits 52 = .ok (.getfield 64, 3) := by decide +kernel
theorem dX11_tellUnits_55 : decode cX11_tellUnits 55 = .ok (.bipush 6, 2) := by decide +kernel
theorem dX11_tellUnits_57 : decode cX11_tellUnits 57 = .ok (.iload_n 1, 1) := by decide +kernel
theorem dX11_tellUnits_58 : decode cX11_tellUnits 58 = .ok (.imul, 1) := by decide +kernel
theorem dX11_tellUnits_59 : decode cX11_tellUnits 59 = .ok (.iload_n 3, 1) := by decide +kernel
theorem dX11_tellUnits_60 : decode cX11_tellUnits 60 = .ok (.iadd, 1) := by decide +kernel
theorem dX11_tellUnits_61 : decode cX11_tellUnits 61 = .ok (.iaload, 1) := by decide +kernel
theorem dX11_tellUnits_62 : decode cX11_tellUnits 62 = .ok (.if_icmp .ne 14, 3) := by decide +kernel
theorem dX11_tellUnits_65 : decode cX11_tellUnits 65 = .ok (.aload_n 0, 1) := by decide +kernel
theorem dX11_tellUnits_66 : decode cX11_tellUnits 66 = .ok (.getfield 99, 3) := by decide +kernel
theorem dX11_tellUnits_69 : decode cX11_tellUnits 69 = .ok (.iload_n 2, 1) := by decide +kernel
theorem dX11_tellUnits_70 : decode cX11_tellUnits 70 = .ok (.iload_n 2, 1) := by decide +kernel
theorem dX11_tellUnits_71 : decode cX11_tellUnits 71 = .ok (.iload_n 3, 1) := by decide +kernel
theorem dX11_tellUnits_72 : decode cX11_tellUnits 72 = .ok (.invokestatic 285, 3) := by decide +kernel
theorem dX11_tellUnits_75 : decode cX11_tellUnits 75 = .ok (.iastore, 1) := by decide +kernel
theorem dX11_tellUnits_76 : decode cX11_tellUnits 76 = .ok (.iinc 3 1, 3) := by decide +kernel
theorem dX11_tellUnits_79 : decode cX11_tellUnits 79 = .ok (.goto (-53), 3) := by decide +kernel
theorem dX11_tellUnits_82 : decode cX11_tellUnits 82 = .ok (.aload_n 0, 1) := by decide +kernel
theorem dX11_tellUnits_83 : decode cX11_tellUnits 83 = .ok (.getfield 99, 3) := by decide +kernel
theorem dX11_tellUnits_86 : decode cX11_tellUnits 86 = .ok (.iload_n 2, 1) := by decide +kernel
theorem dX11_tellUnits_87 : decode cX11_tellUnits 87 = .ok (.iaload, 1) := by decide +kernel
theorem dX11_tellUnits_88 : decode cX11_tellUnits 88 = .ok (.iload_n 2, 1) := by decide +kernel
theorem dX11_tellUnits_89 : decode cX11_tellUnits 89 = .ok (.if_icmp .ne 13, 3) := by decide +kernel
theorem dX11_tellUnits_92 : decode cX11_tellUnits 92 = .ok (.aload_n 0, 1) := by decide +kernel
theorem dX11_tellUnits_93 : decode cX11_tellUnits 93 = .ok (.dup, 1) := by decide +kernel
theorem dX11_tellUnits_94 : decode cX11_tellUnits 94 = .ok (.getfield 371, 3) := by decide +kernel
theorem dX11_tellUnits_97 : decode cX11_tellUnits 97 = .ok (.iconst 1, 1) := by decide +kernel
theorem dX11_tellUnits_98 : decode cX11_tellUnits 98 = .ok (.iadd, 1) := by decide +kernel
theorem dX11_tellUnits_99 : decode cX11_tellUnits 99 = .ok (.putfield 371, 3) := by decide +kernel
theorem dX11_tellUnits_102 : decode cX11_tellUnits 102 = .ok (.iinc 2 1, 3) := by decide +kernel
theorem dX11_tellUnits_105 : decode cX11_tellUnits 105 = .ok (.goto (-98), 3) := by decide +kernel
theorem dX11_tellUnits_108 : decode cX11_tellUnits 108 = .ok (.return_, 1) := by decide +kernel
def b_X11_tellUnits_L26 (y1 : Int32) (y2 : Int32) (K : g_I → Option (g_I)) : Nat → Int32 → g_I → Option (g_I)
  | 0, _, _ => none
  | f + 1, x3, I => if g_in y1 12 = true then if (I 112 y1.toNatClampNeg) ≤ x3 then K I else if g_in (((6 : Int32) * y1) + y2) 72 = true then g_bind (b_X11_twinOf I (I 113 (((6 : Int32) * y1) + y2).toNatClampNeg)) fun a3 => if g_in (((6 : Int32) * y1) + x3) 72 = true then if a3 = (I 113 (((6 : Int32) * y1) + x3).toNatClampNeg) then if g_in y2 6 = true then g_let (am_up I 124 y2.toNatClampNeg (g_max y2 x3)) fun I6 => b_X11_tellUnits_L26 y1 y2 K f (x3 + 1) I6 else none else b_X11_tellUnits_L26 y1 y2 K f (x3 + 1) I else none else none else none
def b_X11_tellUnits_L7 (y1 : Int32) (K : g_I → Option (g_I)) : Nat → Int32 → g_I → Option (g_I)
  | 0, _, _ => none
  | f + 1, x2, I => if g_in y1 12 = true then if (I 112 y1.toNatClampNeg) ≤ x2 then K I else if g_in x2 6 = true then g_let (am_up I 124 x2.toNatClampNeg x2) fun I2 => b_X11_tellUnits_L26 y1 x2 (fun (I7 : g_I) => if g_in x2 6 = true then if (I7 124 x2.toNatClampNeg) = x2 then g_let (am_up I7 101 40 ((I7 101 40) + 1)) fun I8 => b_X11_tellUnits_L7 y1 K f (x2 + 1) I8 else b_X11_tellUnits_L7 y1 K f (x2 + 1) I7 else none) fu 0 I2 else none else none
def b_X11_tellUnits (I : g_I) (x1 : Int32) : Option (g_I) :=
  g_let (am_up I 101 40 0) fun I1 => b_X11_tellUnits_L7 x1 (fun (I9 : g_I) => some I9) fu 0 I1
set_option maxRecDepth 100000 in
set_option maxHeartbeats 4000000 in
theorem gL_X11_tellUnits_26 {G : am_G} (hK : k_OK G) {d : Nat} (hd : 1 ≤ d) {sh : List (Nat ⊕ (Nat × Nat))} {I : g_I} {R : Nat → Nat → Option Nat} {L : Nat → Nat → Int64} {g : Nat} (hm : k_Mod sh R) {y1 : Int32} {y2 : Int32} {K : g_I → Option (g_I)} {x3 : Int32} {f : Nat} {r : g_I} (h : b_X11_tellUnits_L26 y1 y2 K f x3 I = some r) (hk : ∀ (J : g_I), K J = some r → AW G mX11_tellUnits d (fun v w => v = none ∧ w = (sh, r, R, L, g)) (fun _ _ => False) 82 [some (.ref 101), some (.int y1), some (.int y2), none] [] (sh, J, R, L, g) 0 0) : AW G mX11_tellUnits d (fun v w => v = none ∧ w = (sh, r, R, L, g)) (fun _ _ => False) 26 [some (.ref 101), some (.int y1), some (.int y2), some (.int x3)] [] (sh, I, R, L, g) 0 0 := by
  have hG := hK.1
  induction f generalizing x3 I with
  | zero => rw [b_X11_tellUnits_L26] at h; cases h
  | succ f ih =>
    rw [b_X11_tellUnits_L26] at h
    refine AW.iload_n dX11_tellUnits_26 rfl ?_
    refine AW.aload_n dX11_tellUnits_27 rfl ?_
    refine AW.getR (c' := 112) (fX11_61 hG).r rfl (hm.1 0 _ rfl) (hm.2 (0, 11, 11) (by decide)) dX11_tellUnits_28 ?_
    refine AW.iload_n dX11_tellUnits_31 rfl ?_
    obtain ⟨hb, h⟩ := g_ifE h
    refine AW.iald (hm.1 11 _ rfl) (g_in_iff.mp hb) dX11_tellUnits_32 ?_
    refine AW.icmp_ge 82 dX11_tellUnits_33 (by decide) (fun hc33 => ?_) (fun hc33 => ?_)
    · replace h := g_pos hc33 h
      refine AW.mask [3] [some (.ref 101), some (.int y1), some (.int y2), none] rfl ?_
      exact hk _ h
    · replace h := g_neg hc33 h
      refine AW.aload_n dX11_tellUnits_36 rfl ?_
      refine AW.aload_n dX11_tellUnits_37 rfl ?_
      refine AW.getR (c' := 113) (fX11_64 hG).r rfl (hm.1 0 _ rfl) (hm.2 (0, 12, 12) (by decide)) dX11_tellUnits_38 ?_
      refine AW.bipush 6 dX11_tellUnits_41 (by decide) ?_
      refine AW.iload_n dX11_tellUnits_43 rfl ?_
      refine AW.imul dX11_tellUnits_44 ?_
      refine AW.iload_n dX11_tellUnits_45 rfl ?_
      refine AW.iadd dX11_tellUnits_46 ?_
      obtain ⟨hb, h⟩ := g_ifE h
      refine AW.iald (hm.1 12 _ rfl) (g_in_iff.mp hb) dX11_tellUnits_47 ?_
      obtain ⟨a3, hx5, h⟩ := g_bindE h
      refine AW.callV (b := 101) (As := [.int (I 113 (((6 : Int32) * y1) + y2).toNatClampNeg)]) hG.2.2 (vX11_343 hG) (hm.1 0 _ rfl) (g_X11_twinOf hK (d := 0) (Nat.le_refl _) hm hx5) (by omega) dX11_tellUnits_48 rfl rfl (Nat.le_of_ble_eq_true rfl) (fun v w9 hq9 h09 => by obtain ⟨rfl, rfl⟩ := hq9; exact ⟨h09, rfl⟩) (by decide) (by decide) (fun _ _ hx => hx) (fun v9 w9 hq9 => ?_)
      obtain ⟨rfl, rfl⟩ := hq9
      show AW G _ d _ _ 51 [some (.ref 101), some (.int y1), some (.int y2), some (.int x3)] [.int a3] (sh, I, R, L, g) 0 0
      refine AW.aload_n dX11_tellUnits_51 rfl ?_
      refine AW.getR (c' := 113) (fX11_64 hG).r rfl (hm.1 0 _ rfl) (hm.2 (0, 12, 12) (by decide)) dX11_tellUnits_52 ?_
      refine AW.bipush 6 dX11_tellUnits_55 (by decide) ?_
      refine AW.iload_n dX11_tellUnits_57 rfl ?_
      refine AW.imul dX11_tellUnits_58 ?_
      refine AW.iload_n dX11_tellUnits_59 rfl ?_
      refine AW.iadd dX11_tellUnits_60 ?_
      obtain ⟨hb, h⟩ := g_ifE h
      refine AW.iald (hm.1 12 _ rfl) (g_in_iff.mp hb) dX11_tellUnits_61 ?_
      refine AW.icmp_ne 76 dX11_tellUnits_62 (by decide) (fun hc62 => ?_) (fun hc62 => ?_)
      · replace h := g_neg hc62 h
        refine AW.incE 1 (by decide) [some (.ref 101), some (.int y1), some (.int y2), some (.int (x3 + 1))] dX11_tellUnits_76 rfl (by decide) rfl rfl ?_
        refine AW.goto 26 dX11_tellUnits_79 (by decide) ?_
        exact ih h
      · replace h := g_pos hc62 h
        refine AW.aload_n dX11_tellUnits_65 rfl ?_
        refine AW.getR (c' := 124) (fX11_99 hG).r rfl (hm.1 0 _ rfl) (hm.2 (0, 38, 23) (by decide)) dX11_tellUnits_66 ?_
        refine AW.iload_n dX11_tellUnits_69 rfl ?_
        refine AW.iload_n dX11_tellUnits_70 rfl ?_
        refine AW.iload_n dX11_tellUnits_71 rfl ?_
        refine AW.mmax (k_c hG 1812 (by decide +kernel) (by decide +kernel)) (k_mmax hG) dX11_tellUnits_72 (by omega) (Nat.le_of_ble_eq_true rfl) (by decide) (by decide) ?_
        show AW G _ d _ _ 75 [some (.ref 101), some (.int y1), some (.int y2), some (.int x3)] [.int (g_max y2 x3), .int y2, .ref 124] (sh, I, R, L, g) 0 0
        obtain ⟨hb, h⟩ := g_ifE h
        refine AW.iast (hm.1 23 _ rfl) (g_in_iff.mp hb) dX11_tellUnits_75 ?_
        obtain ⟨I6, eI6, h⟩ := g_letE h
        refine AW.namIE eI6 ?_
        refine AW.incE 1 (by decide) [some (.ref 101), some (.int y1), some (.int y2), some (.int (x3 + 1))] dX11_tellUnits_76 rfl (by decide) rfl rfl ?_
        refine AW.goto 26 dX11_tellUnits_79 (by decide) ?_
        exact ih h
set_option maxRecDepth 100000 in
set_option maxHeartbeats 4000000 in
theorem gL_X11_tellUnits_7 {G : am_G} (hK : k_OK G) {d : Nat} (hd : 1 ≤ d) {sh : List (Nat ⊕ (Nat × Nat))} {I : g_I} {R : Nat → Nat → Option Nat} {L : Nat → Nat → Int64} {g : Nat} (hm : k_Mod sh R) {y1 : Int32} {K : g_I → Option (g_I)} {x2 : Int32} {f : Nat} {r : g_I} (h : b_X11_tellUnits_L7 y1 K f x2 I = some r) (hk : ∀ (J : g_I), K J = some r → AW G mX11_tellUnits d (fun v w => v = none ∧ w = (sh, r, R, L, g)) (fun _ _ => False) 108 [none, none, none, none] [] (sh, J, R, L, g) 0 0) : AW G mX11_tellUnits d (fun v w => v = none ∧ w = (sh, r, R, L, g)) (fun _ _ => False) 7 [some (.ref 101), some (.int y1), some (.int x2), none] [] (sh, I, R, L, g) 0 0 := by
  have hG := hK.1
  induction f generalizing x2 I with
  | zero => rw [b_X11_tellUnits_L7] at h; cases h
  | succ f ih =>
    rw [b_X11_tellUnits_L7] at h
    refine AW.iload_n dX11_tellUnits_7 rfl ?_
    refine AW.aload_n dX11_tellUnits_8 rfl ?_
    refine AW.getR (c' := 112) (fX11_61 hG).r rfl (hm.1 0 _ rfl) (hm.2 (0, 11, 11) (by decide)) dX11_tellUnits_9 ?_
    refine AW.iload_n dX11_tellUnits_12 rfl ?_
    obtain ⟨hb, h⟩ := g_ifE h
    refine AW.iald (hm.1 11 _ rfl) (g_in_iff.mp hb) dX11_tellUnits_13 ?_
    refine AW.icmp_ge 108 dX11_tellUnits_14 (by decide) (fun hc14 => ?_) (fun hc14 => ?_)
    · replace h := g_pos hc14 h
      refine AW.mask [0, 1, 2] [none, none, none, none] rfl ?_
      exact hk _ h
    · replace h := g_neg hc14 h
      refine AW.aload_n dX11_tellUnits_17 rfl ?_
      refine AW.getR (c' := 124) (fX11_99 hG).r rfl (hm.1 0 _ rfl) (hm.2 (0, 38, 23) (by decide)) dX11_tellUnits_18 ?_
      refine AW.iload_n dX11_tellUnits_21 rfl ?_
      refine AW.iload_n dX11_tellUnits_22 rfl ?_
      obtain ⟨hb, h⟩ := g_ifE h
      refine AW.iast (hm.1 23 _ rfl) (g_in_iff.mp hb) dX11_tellUnits_23 ?_
      obtain ⟨I2, eI2, h⟩ := g_letE h
      refine AW.namIE eI2 ?_
      refine AW.iconst 0 dX11_tellUnits_24 (by decide) ?_
      refine AW.is_n [some (.ref 101), some (.int y1), some (.int x2), some (.int 0)] dX11_tellUnits_25 (by decide) rfl rfl ?_
      refine gL_X11_tellUnits_26 hK hd hm h (fun I7 h => ?_)
      refine AW.aload_n dX11_tellUnits_82 rfl ?_
      refine AW.getR (c' := 124) (fX11_99 hG).r rfl (hm.1 0 _ rfl) (hm.2 (0, 38, 23) (by decide)) dX11_tellUnits_83 ?_
      refine AW.iload_n dX11_tellUnits_86 rfl ?_
      obtain ⟨hb, h⟩ := g_ifE h
      refine AW.iald (hm.1 23 _ rfl) (g_in_iff.mp hb) dX11_tellUnits_87 ?_
      refine AW.iload_n dX11_tellUnits_88 rfl ?_
      refine AW.icmp_ne 102 dX11_tellUnits_89 (by decide) (fun hc89 => ?_) (fun hc89 => ?_)
      · replace h := g_neg hc89 h
        refine AW.incE 1 (by decide) [some (.ref 101), some (.int y1), some (.int (x2 + 1)), none] dX11_tellUnits_102 rfl (by decide) rfl rfl ?_
        refine AW.goto 7 dX11_tellUnits_105 (by decide) ?_
        exact ih h
      · replace h := g_pos hc89 h
        refine AW.aload_n dX11_tellUnits_92 rfl ?_
        refine AW.dup dX11_tellUnits_93 rfl ?_
        refine AW.getI (fX11_371 hG).r rfl (hm.1 0 _ rfl) dX11_tellUnits_94 ?_
        refine AW.iconst 1 dX11_tellUnits_97 (by decide) ?_
        refine AW.iadd dX11_tellUnits_98 ?_
        refine AW.putI (fX11_371 hG) rfl (vp_nar_int _) rfl (hm.1 0 _ rfl) dX11_tellUnits_99 ?_
        obtain ⟨I8, eI8, h⟩ := g_letE h
        refine AW.namIE eI8 ?_
        refine AW.incE 1 (by decide) [some (.ref 101), some (.int y1), some (.int (x2 + 1)), none] dX11_tellUnits_102 rfl (by decide) rfl rfl ?_
        refine AW.goto 7 dX11_tellUnits_105 (by decide) ?_
        exact ih h
set_option maxRecDepth 100000 in
set_option maxHeartbeats 4000000 in
theorem g_X11_tellUnits {G : am_G} (hK : k_OK G) {d : Nat} (hd : 1 ≤ d) {sh : List (Nat ⊕ (Nat × Nat))} {I : g_I} {R : Nat → Nat → Option Nat} {L : Nat → Nat → Int64} {g : Nat} (hm : k_Mod sh R) {x1 : Int32} {r : g_I} (h : b_X11_tellUnits I x1 = some r) : AM G mX11_tellUnits d [.ref 101, .int x1] (sh, I, R, L, g) (fun v w => v = none ∧ w = (sh, r, R, L, g)) (fun _ _ => False) := by
  have hG := hK.1
  refine AM.of (n := 2) (by decide +kernel) (Nat.le_of_ble_eq_true rfl) ?_
  show AW G mX11_tellUnits d (fun v w => v = none ∧ w = (sh, r, R, L, g)) (fun _ _ => False) 0 [some (.ref 101), some (.int x1), none, none] [] (sh, I, R, L, g) 0 0
  unfold b_X11_tellUnits at h
  refine AW.aload_n dX11_tellUnits_0 rfl ?_
  refine AW.iconst 0 dX11_tellUnits_1 (by decide) ?_
  refine AW.putI (fX11_371 hG) rfl (vp_nar_int _) rfl (hm.1 0 _ rfl) dX11_tellUnits_2 ?_
  obtain ⟨I1, eI1, h⟩ := g_letE h
  refine AW.namIE eI1 ?_
  refine AW.iconst 0 dX11_tellUnits_5 (by decide) ?_
  refine AW.is_n [some (.ref 101), some (.int x1), some (.int 0), none] dX11_tellUnits_6 (by decide) rfl rfl ?_
  refine gL_X11_tellUnits_7 hK hd hm h (fun I9 h => ?_)
  exact AW.vret dX11_tellUnits_108 rfl (by decide) (by decide) (by cases h; exact ⟨rfl, rfl⟩)
theorem dX11_tellSlices_0 : decode cX11_tellSlices 0 = .ok (.aload_n 0, 1) := by decide +kernel
theorem dX11_tellSlices_1 : decode cX11_tellSlices 1 = .ok (.iload_n 2, 1) := by decide +kernel
theorem dX11_tellSlices_2 : decode cX11_tellSlices 2 = .ok (.invokevirtual 377, 3) := by decide +kernel
theorem dX11_tellSlices_5 : decode cX11_tellSlices 5 = .ok (.iconst 0, 1) := by decide +kernel
theorem dX11_tellSlices_6 : decode cX11_tellSlices 6 = .ok (.istore_n 3, 1) := by decide +kernel
theorem dX11_tellSlices_7 : decode cX11_tellSlices 7 = .ok (.iconst 0, 1) := by decide +kernel
theorem dX11_tellSlices_8 : decode cX11_tellSlices 8 = .ok (.istore 4, 2) := by decide +kernel
theorem dX11_tellSlices_10 : decode cX11_tellSlices 10 = .ok (.iload 4, 2) := by decide +kernel
theorem dX11_tellSlices_12 : decode cX11_tellSlices 12 = .ok (.aload_n 0, 1) := by decide +kernel
theorem dX11_tellSlices_13 : decode cX11_tellSlices 13 = .ok (.getfield 371, 3) := by decide +kernel
theorem dX11_tellSlices_16 : decode cX11_tellSlices 16 = .ok (.if_icmp .ge 34, 3) := by decide +kernel
theorem dX11_tellSlices_19 : decode cX11_tellSlices 19 = .ok (.aload_n 0, 1) := by decide +kernel
theorem dX11_tellSlices_20 : decode cX11_tellSlices 20 = .ok (.getfield 97, 3) := by decide +kernel
theorem dX11_tellSlices_23 : decode cX11_tellSlices 23 = .ok (.iload 4, 2) := by decide +kernel
theorem dX11_tellSlices_25 : decode cX11_tellSlices 25 = .ok (.aload_n 0, 1) := by decide +kernel
theorem dX11_tellSlices_26 : decode cX11_tellSlices 26 = .ok (.iload_n 1, 1) := by decide +kernel
theorem dX11_tellSlices_27 : decode cX11_tellSlices 27 = .ok (.iload_n 2, 1) := by decide +kernel
theorem dX11_tellSlices_28 : decode cX11_tellSlices 28 = .ok (.iload 4, 2) := by decide +kernel
theorem dX11_tellSlices_30 : decode cX11_tellSlices 30 = .ok (.invokevirtual 380, 3) := by decide +kernel
theorem dX11_tellSlices_33 : decode cX11_tellSlices 33 = .ok (.iastore, 1) := by decide +kernel
theorem dX11_tellSlices_34 : decode cX11_tellSlices 34 = .ok (.iload_n 3, 1) := by decide +kernel
theorem dX11_tellSlices_35 : decode cX11_tellSlices 35 = .ok (.aload_n 0, 1) := by decide +kernel
theorem dX11_tellSlices_36 : decode cX11_tellSlices 36 = .ok (.getfield 97, 3) := by decide +kernel
theorem dX11_tellSlices_39 : decode cX11_tellSlices 39 = .ok (.iload 4, 2) := by decide +kernel
theorem dX11_tellSlices_41 : decode cX11_tellSlices 41 = .ok (.iaload, 1) := by decide +kernel
theorem dX11_tellSlices_42 : decode cX11_tellSlices 42 = .ok (.iadd, 1) := by decide +kernel
theorem dX11_tellSlices_43 : decode cX11_tellSlices 43 = .ok (.istore_n 3, 1) := by decide +kernel
theorem dX11_tellSlices_44 : decode cX11_tellSlices 44 = .ok (.iinc 4 1, 3) := by decide +kernel
theorem dX11_tellSlices_47 : decode cX11_tellSlices 47 = .ok (.goto (-37), 3) := by decide +kernel
theorem dX11_tellSlices_50 : decode cX11_tellSlices 50 = .ok (.aload_n 0, 1) := by decide +kernel
theorem dX11_tellSlices_51 : decode cX11_tellSlices 51 = .ok (.aload_n 0, 1) := by decide +kernel
theorem dX11_tellSlices_52 : decode cX11_tellSlices 52 = .ok (.getfield 52, 3) := by decide +kernel
theorem dX11_tellSlices_55 : decode cX11_tellSlices 55 = .ok (.iload_n 2, 1) := by decide +kernel
theorem dX11_tellSlices_56 : decode cX11_tellSlices 56 = .ok (.iaload, 1) := by decide +kernel
theorem dX11_tellSlices_57 : decode cX11_tellSlices 57 = .ok (.putfield 383, 3) := by decide +kernel
theorem dX11_tellSlices_60 : decode cX11_tellSlices 60 = .ok (.iconst 0, 1) := by decide +kernel
theorem dX11_tellSlices_61 : decode cX11_tellSlices 61 = .ok (.istore 4, 2) := by decide +kernel
theorem dX11_tellSlices_63 : decode cX11_tellSlices 63 = .ok (.iload 4, 2) := by decide +kernel
theorem dX11_tellSlices_65 : decode cX11_tellSlices 65 = .ok (.aload_n 0, 1) := by decide +kernel
theorem dX11_tellSlices_66 : decode cX11_tellSlices 66 = .ok (.getfield 371, 3) := by decide +kernel
theorem dX11_tellSlices_69 : decode cX11_tellSlices 69 = .ok (.if_icmp .ge 48, 3) := by decide +kernel
theorem dX11_tellSlices_72 : decode cX11_tellSlices 72 = .ok (.aload_n 0, 1) := by decide +kernel
theorem dX11_tellSlices_73 : decode cX11_tellSlices 73 = .ok (.getfield 97, 3) := by decide +kernel
theorem dX11_tellSlices_76 : decode cX11_tellSlices 76 = .ok (.iload 4, 2) := by decide +kernel
theorem dX11_tellSlices_78 : decode cX11_tellSlices 78 = .ok (.aload_n 0, 1) := by decide +kernel
theorem dX11_tellSlices_79 : decode cX11_tellSlices 79 = .ok (.getfield 52, 3) := by decide +kernel
theorem dX11_tellSlices_82 : decode cX11_tellSlices 82 = .ok (.iload_n 2, 1) := by decide +kernel
theorem dX11_tellSlices_83 : decode cX11_tellSlices 83 = .ok (.iaload, 1) := by decide +kernel
theorem dX11_tellSlices_84 : decode cX11_tellSlices 84 = .ok (.aload_n 0, 1) := by decide +kernel
theorem dX11_tellSlices_85 : decode cX11_tellSlices 85 = .ok (.getfield 97, 3) := by decide +kernel
theorem dX11_tellSlices_88 : decode cX11_tellSlices 88 = .ok (.iload 4, 2) := by decide +kernel
theorem dX11_tellSlices_90 : decode cX11_tellSlices 90 = .ok (.iaload, 1) := by decide +kernel
theorem dX11_tellSlices_91 : decode cX11_tellSlices 91 = .ok (.imul, 1) := by decide +kernel
theorem dX11_tellSlices_92 : decode cX11_tellSlices 92 = .ok (.iload_n 3, 1) := by decide +kernel
theorem dX11_tellSlices_93 : decode cX11_tellSlices 93 = .ok (.idiv, 1) := by decide +kernel
theorem dX11_tellSlices_94 : decode cX11_tellSlices 94 = .ok (.iastore, 1) := by decide +kernel
theorem dX11_tellSlices_95 : decode cX11_tellSlices 95 = .ok (.aload_n 0, 1) := by decide +kernel
theorem dX11_tellSlices_96 : decode cX11_tellSlices 96 = .ok (.dup, 1) := by decide +kernel
theorem dX11_tellSlices_97 : decode cX11_tellSlices 97 = .ok (.getfield 383, 3) := by decide +kernel
theorem dX11_tellSlices_100 : decode cX11_tellSlices 100 = .ok (.aload_n 0, 1) := by decide +kernel
theorem dX11_tellSlices_101 : decode cX11_tellSlices 101 = .ok (.getfield 97, 3) := by decide +kernel
theorem dX11_tellSlices_104 : decode cX11_tellSlices 104 = .ok (.iload 4, 2) := by decide +kernel
theorem dX11_tellSlices_106 : decode cX11_tellSlices 106 = .ok (.iaload, 1) := by decide +kernel
theorem dX11_tellSlices_107 : decode cX11_tellSlices 107 = .ok (.isub, 1) := by decide +kernel
theorem dX11_tellSlices_108 : decode cX11_tellSlices 108 = .ok (.putfield 383, 3) := by decide +kernel
theorem dX11_tellSlices_111 : decode cX11_tellSlices 111 = .ok (.iinc 4 1, 3) := by decide +kernel
theorem dX11_tellSlices_114 : decode cX11_tellSlices 114 = .ok (.goto (-51), 3) := by decide +kernel
theorem dX11_tellSlices_117 : decode cX11_tellSlices 117 = .ok (.iconst 0, 1) := by decide +kernel
theorem dX11_tellSlices_118 : decode cX11_tellSlices 118 = .ok (.istore 4, 2) := by decide +kernel
theorem dX11_tellSlices_120 : decode cX11_tellSlices 120 = .ok (.aload_n 0, 1) := by decide +kernel
theorem dX11_tellSlices_121 : decode cX11_tellSlices 121 = .ok (.getfield 61, 3) := by decide +kernel
theorem dX11_tellSlices_124 : decode cX11_tellSlices 124 = .ok (.iload_n 2, 1) := by decide +kernel
theorem dX11_tellSlices_125 : decode cX11_tellSlices 125 = .ok (.iaload, 1) := by decide +kernel
theorem dX11_tellSlices_126 : decode cX11_tellSlices 126 = .ok (.iconst 1, 1) := by decide +kernel
theorem dX11_tellSlices_127 : decode cX11_tellSlices 127 = .ok (.isub, 1) := by decide +kernel
theorem dX11_tellSlices_128 : decode cX11_tellSlices 128 = .ok (.istore 5, 2) := by decide +kernel
theorem dX11_tellSlices_130 : decode cX11_tellSlices 130 = .ok (.iload 5, 2) := by decide +kernel
theorem dX11_tellSlices_132 : decode cX11_tellSlices 132 = .ok (.ifCond .lt 124, 3) := by decide +kernel
theorem dX11_tellSlices_135 : decode cX11_tellSlices 135 = .ok (.aload_n 0, 1) := by decide +kernel
theorem dX11_tellSlices_136 : decode cX11_tellSlices 136 = .ok (.getfield 99, 3) := by decide +kernel
theorem dX11_tellSlices_139 : decode cX11_tellSlices 139 = .ok (.iload 5, 2) := by decide +kernel
theorem dX11_tellSlices_141 : decode cX11_tellSlices 141 = .ok (.iaload, 1) := by decide +kernel
theorem dX11_tellSlices_142 : decode cX11_tellSlices 142 = .ok (.iload 5, 2) := by decide +kernel
theorem dX11_tellSlices_144 : decode cX11_tellSlices 144 = .ok (.if_icmp .eq 25, 3) := by decide +kernel
theorem dX11_tellSlices_147 : decode cX11_tellSlices 147 = .ok (.aload_n 0, 1) := by decide +kernel
theorem dX11_tellSlices_148 : decode cX11_tellSlices 148 = .ok (.getfield 102, 3) := by decide +kernel
theorem dX11_tellSlices_151 : decode cX11_tellSlices 151 = .ok (.iload 5, 2) := by decide +kernel
theorem dX11_tellSlices_153 : decode cX11_tellSlices 153 = .ok (.aload_n 0, 1) := by decide +kernel
theorem dX11_tellSlices_154 : decode cX11_tellSlices 154 = .ok (.getfield 102, 3) := by decide +kernel
theorem dX11_tellSlices_157 : decode cX11_tellSlices 157 = .ok (.aload_n 0, 1) := by decide +kernel
theorem dX11_tellSlices_158 : decode cX11_tellSlices 158 = .ok (.getfield 99, 3) := by decide +kernel
theorem dX11_tellSlices_161 : decode cX11_tellSlices 161 = .ok (.iload 5, 2) := by decide +kernel
theorem dX11_tellSlices_163 : decode cX11_tellSlices 163 = .ok (.iaload, 1) := by decide +kernel
theorem dX11_tellSlices_164 : decode cX11_tellSlices 164 = .ok (.iaload, 1) := by decide +kernel
theorem dX11_tellSlices_165 : decode cX11_tellSlices 165 = .ok (.iastore, 1) := by decide +kernel
theorem dX11_tellSlices_166 : decode cX11_tellSlices 166 = .ok (.goto 84, 3) := by decide +kernel
theorem dX11_tellSlices_169 : decode cX11_tellSlices 169 = .ok (.iconst (-1), 1) := by decide +kernel
theorem dX11_tellSlices_170 : decode cX11_tellSlices 170 = .ok (.istore 6, 2) := by decide +kernel
theorem dX11_tellSlices_172 : decode cX11_tellSlices 172 = .ok (.iconst 0, 1) := by decide +kernel
theorem dX11_tellSlices_173 : decode cX11_tellSlices 173 = .ok (.istore 7, 2) := by decide +kernel
theorem dX11_tellSlices_175 : decode cX11_tellSlices 175 = .ok (.iload 7, 2) := by decide +kernel
theorem dX11_tellSlices_177 : decode cX11_tellSlices 177 = .ok (.aload_n 0, 1) := by decide +kernel
theorem dX11_tellSlices_178 : decode cX11_tellSlices 178 = .ok (.getfield 371, 3) := by decide +kernel
theorem dX11_tellSlices_181 : decode cX11_tellSlices 181 = .ok (.if_icmp .ge 46, 3) := by decide +kernel
theorem dX11_tellSlices_184 : decode cX11_tellSlices 184 = .ok (.iload 4, 2) := by decide +kernel
theorem dX11_tellSlices_186 : decode cX11_tellSlices 186 = .ok (.iload 7, 2) := by decide +kernel
theorem dX11_tellSlices_188 : decode cX11_tellSlices 188 = .ok (.invokestatic 278, 3) := by decide +kernel
theorem dX11_tellSlices_191 : decode cX11_tellSlices 191 = .ok (.ifCond .ne 30, 3) := by decide +kernel
theorem dX11_tellSlices_194 : decode cX11_tellSlices 194 = .ok (.iload 6, 2) := by decide +kernel
theorem dX11_tellSlices_196 : decode cX11_tellSlices 196 = .ok (.iconst (-1), 1) := by decide +kernel
theorem dX11_tellSlices_197 : decode cX11_tellSlices 197 = .ok (.if_icmp .eq 20, 3) := by decide +kernel
theorem dX11_tellSlices_200 : decode cX11_tellSlices 200 = .ok (.aload_n 0, 1) := by decide +kernel
theorem dX11_tellSlices_201 : decode cX11_tellSlices 201 = .ok (.getfield 97, 3) := by decide +kernel
theorem dX11_tellSlices_204 : decode cX11_tellSlices 204 = .ok (.iload 7, 2) := by decide +kernel
theorem dX11_tellSlices_206 : decode cX11_tellSlices 206 = .ok (.iaload, 1) := by decide +kernel
theorem dX11_tellSlices_207 : decode cX11_tellSlices 207 = .ok (.aload_n 0, 1) := by decide +kernel
theorem dX11_tellSlices_208 : decode cX11_tellSlices 208 = .ok (.getfield 97, 3) := by decide +kernel
theorem dX11_tellSlices_211 : decode cX11_tellSlices 211 = .ok (.iload 6, 2) := by decide +kernel
theorem dX11_tellSlices_213 : decode cX11_tellSlices 213 = .ok (.iaload, 1) := by decide +kernel
theorem dX11_tellSlices_214 : decode cX11_tellSlices 214 = .ok (.if_icmp .le 7, 3) := by decide +kernel
theorem dX11_tellSlices_217 : decode cX11_tellSlices 217 = .ok (.iload 7, 2) := by decide +kernel
theorem dX11_tellSlices_219 : decode cX11_tellSlices 219 = .ok (.istore 6, 2) := by decide +kernel
theorem dX11_tellSlices_221 : decode cX11_tellSlices 221 = .ok (.iinc 7 1, 3) := by decide +kernel
theorem dX11_tellSlices_224 : decode cX11_tellSlices 224 = .ok (.goto (-49), 3) := by decide +kernel
theorem dX11_tellSlices_227 : decode cX11_tellSlices 227 = .ok (.iload 4, 2) := by decide +kernel
theorem dX11_tellSlices_229 : decode cX11_tellSlices 229 = .ok (.iconst 1, 1) := by decide +kernel
theorem dX11_tellSlices_230 : decode cX11_tellSlices 230 = .ok (.iload 6, 2) := by decide +kernel
theorem dX11_tellSlices_232 : decode cX11_tellSlices 232 = .ok (.ishl, 1) := by decide +kernel
theorem dX11_tellSlices_233 : decode cX11_tellSlices 233 = .ok (.ior, 1) := by decide +kernel
theorem dX11_tellSlices_234 : decode cX11_tellSlices 234 = .ok (.istore 4, 2) := by decide +kernel
theorem dX11_tellSlices_236 : decode cX11_tellSlices 236 = .ok (.aload_n 0, 1) := by decide +kernel
theorem dX11_tellSlices_237 : decode cX11_tellSlices 237 = .ok (.getfield 102, 3) := by decide +kernel
theorem dX11_tellSlices_240 : decode cX11_tellSlices 240 = .ok (.iload 5, 2) := by decide +kernel
theorem dX11_tellSlices_242 : decode cX11_tellSlices 242 = .ok (.aload_n 0, 1) := by decide +kernel
theorem dX11_tellSlices_243 : decode cX11_tellSlices 243 = .ok (.getfield 97, 3) := by decide +kernel
theorem dX11_tellSlices_246 : decode cX11_tellSlices 246 = .ok (.iload 6, 2) := by decide +kernel
theorem dX11_tellSlices_248 : decode cX11_tellSlices 248 = .ok (.iaload, 1) := by decide +kernel
theorem dX11_tellSlices_249 : decode cX11_tellSlices 249 = .ok (.iastore, 1) := by decide +kernel
theorem dX11_tellSlices_250 : decode cX11_tellSlices 250 = .ok (.iinc 5 (-1), 3) := by decide +kernel
theorem dX11_tellSlices_253 : decode cX11_tellSlices 253 = .ok (.goto (-123), 3) := by decide +kernel
theorem dX11_tellSlices_256 : decode cX11_tellSlices 256 = .ok (.return_, 1) := by decide +kernel
def b_X11_tellSlices_L10 (y1 : Int32) (y2 : Int32) (K : Int32 → g_I → Option (g_I)) : Nat → Int32 → Int32 → g_I → Option (g_I)
  | 0, _, _, _ => none
  | f + 1, x3, x4, I => if (I 101 40) ≤ x4 then K x3 I else g_bind2 (b_X11_shareOf I y1 y2 x4) fun a4 I5 => if g_in x4 6 = true then g_let (am_up I5 123 x4.toNatClampNeg a4) fun I7 => if g_in x4 6 = true then g_let (x3 + (I7 123 x4.toNatClampNeg)) fun a8 => b_X11_tellSlices_L10 y1 y2 K f a8 (x4 + 1) I7 else none else none
def b_X11_tellSlices_L63 (y2 : Int32) (y3 : Int32) (K : g_I → Option (g_I)) : Nat → Int32 → g_I → Option (g_I)
  | 0, _, _ => none
  | f + 1, x4, I => if (I 101 40) ≤ x4 then K I else if g_in y2 12 = true then if g_in x4 6 = true then if ¬ y3 = 0 then if g_in x4 6 = true then g_let (am_up I 123 x4.toNatClampNeg (((I 109 y2.toNatClampNeg) * (I 123 x4.toNatClampNeg)) / y3)) fun I12 => if g_in x4 6 = true then g_let (am_up I12 101 41 ((I12 101 41) - (I12 123 x4.toNatClampNeg))) fun I13 => b_X11_tellSlices_L63 y2 y3 K f (x4 + 1) I13 else none else none else none else none else none
def b_X11_tellSlices_L175 (I : g_I) (y4 : Int32) (y5 : Int32) (K : Int32 → Option (g_I)) : Nat → Int32 → Int32 → Option (g_I)
  | 0, _, _ => none
  | f + 1, x6, x7 => if (I 101 40) ≤ x7 then K x6 else if b_X11_isOf y4 x7 = true then b_X11_tellSlices_L175 I y4 y5 K f x6 (x7 + 1) else if x6 = (-1) then b_X11_tellSlices_L175 I y4 y5 K f x7 (x7 + 1) else if g_in x7 6 = true then if g_in x6 6 = true then if (I 123 x7.toNatClampNeg) ≤ (I 123 x6.toNatClampNeg) then b_X11_tellSlices_L175 I y4 y5 K f x6 (x7 + 1) else b_X11_tellSlices_L175 I y4 y5 K f x7 (x7 + 1) else none else none
def b_X11_tellSlices_L130 (K : g_I → Option (g_I)) : Nat → Int32 → Int32 → g_I → Option (g_I)
  | 0, _, _, _ => none
  | f + 1, x4, x5, I => if x5 < 0 then K I else if g_in x5 6 = true then if (I 124 x5.toNatClampNeg) = x5 then b_X11_tellSlices_L175 I x4 x5 (fun (a16 : Int32) => g_let (x4 ||| ((1 : Int32) <<< (a16 &&& 31))) fun a17 => if g_in a16 6 = true then if g_in x5 6 = true then g_let (am_up I 125 x5.toNatClampNeg (I 123 a16.toNatClampNeg)) fun I18 => b_X11_tellSlices_L130 K f a17 (x5 + (-1)) I18 else none else none) fu (-1) 0 else if g_in x5 6 = true then if g_in (I 124 x5.toNatClampNeg) 6 = true then if g_in x5 6 = true then g_let (am_up I 125 x5.toNatClampNeg (I 125 (I 124 x5.toNatClampNeg).toNatClampNeg)) fun I19 => b_X11_tellSlices_L130 K f x4 (x5 + (-1)) I19 else none else none else none else none
def b_X11_tellSlices (I : g_I) (x1 : Int32) (x2 : Int32) : Option (g_I) :=
  g_bind (b_X11_tellUnits I x2) fun I2 => b_X11_tellSlices_L10 x1 x2 (fun (a9 : Int32) (I10 : g_I) => if g_in x2 12 = true then g_let (am_up I10 101 41 (I10 109 x2.toNatClampNeg)) fun I11 => b_X11_tellSlices_L63 x2 a9 (fun (I14 : g_I) => if g_in x2 12 = true then g_let ((I14 112 x2.toNatClampNeg) - 1) fun a15 => b_X11_tellSlices_L130 (fun (I20 : g_I) => some I20) fu 0 a15 I14 else none) fu 0 I11 else none) fu 0 0 I2
set_option maxRecDepth 100000 in
set_option maxHeartbeats 4000000 in
theorem gL_X11_tellSlices_10 {G : am_G} (hK : k_OK G) {d : Nat} (hd : 3 ≤ d) {sh : List (Nat ⊕ (Nat × Nat))} {I : g_I} {R : Nat → Nat → Option Nat} {L : Nat → Nat → Int64} {g : Nat} (hm : k_Mod sh R) {y1 : Int32} {y2 : Int32} {K : Int32 → g_I → Option (g_I)} {x3 : Int32} {x4 : Int32} {f : Nat} {r : g_I} (h : b_X11_tellSlices_L10 y1 y2 K f x3 x4 I = some r) (hk : ∀ (u3 : Int32) (J : g_I), K u3 J = some r → AW G mX11_tellSlices d (fun v w => v = none ∧ w = (sh, r, R, L, g)) (fun _ _ => False) 50 [some (.ref 101), none, some (.int y2), some (.int u3), none, none, none, none] [] (sh, J, R, L, g) 0 0) : AW G mX11_tellSlices d (fun v w => v = none ∧ w = (sh, r, R, L, g)) (fun _ _ => False) 10 [some (.ref 101), some (.int y1), some (.int y2), some (.int x3), some (.int x4), none, none, none] [] (sh, I, R, L, g) 0 0 := by
  have hG := hK.1
  induction f generalizing x3 x4 I with
  | zero => rw [b_X11_tellSlices_L10] at h; cases h
  | succ f ih =>
    rw [b_X11_tellSlices_L10] at h
    refine AW.iload dX11_tellSlices_10 rfl ?_
    refine AW.aload_n dX11_tellSlices_12 rfl ?_
    refine AW.getI (fX11_371 hG).r rfl (hm.1 0 _ rfl) dX11_tellSlices_13 ?_
    refine AW.icmp_ge 50 dX11_tellSlices_16 (by decide) (fun hc16 => ?_) (fun hc16 => ?_)
    · replace h := g_pos hc16 h
      refine AW.mask [1, 4] [some (.ref 101), none, some (.int y2), some (.int x3), none, none, none, none] rfl ?_
      exact hk _ _ h
    · replace h := g_neg hc16 h
      refine AW.aload_n dX11_tellSlices_19 rfl ?_
      refine AW.getR (c' := 123) (fX11_97 hG).r rfl (hm.1 0 _ rfl) (hm.2 (0, 37, 22) (by decide)) dX11_tellSlices_20 ?_
      refine AW.iload dX11_tellSlices_23 rfl ?_
      refine AW.aload_n dX11_tellSlices_25 rfl ?_
      refine AW.iload_n dX11_tellSlices_26 rfl ?_
      refine AW.iload_n dX11_tellSlices_27 rfl ?_
      refine AW.iload dX11_tellSlices_28 rfl ?_
      obtain ⟨a4, I5, hx6, h⟩ := g_bind2E h
      refine AW.callV (b := 101) (As := [.int y1, .int y2, .int x4]) hG.2.2 (vX11_380 hG) (hm.1 0 _ rfl) (g_X11_shareOf hK (d := 2) (Nat.le_refl _) hm hx6) (by omega) dX11_tellSlices_30 rfl rfl (Nat.le_of_ble_eq_true rfl) (fun v w9 hq9 h09 => by obtain ⟨rfl, rfl⟩ := hq9; exact ⟨h09, rfl⟩) (by decide) (by decide) (fun _ _ hx => hx) (fun v9 w9 hq9 => ?_)
      obtain ⟨rfl, rfl⟩ := hq9
      show AW G _ d _ _ 33 [some (.ref 101), some (.int y1), some (.int y2), some (.int x3), some (.int x4), none, none, none] [.int a4, .int x4, .ref 123] (sh, I5, R, L, g) 0 0
      obtain ⟨hb, h⟩ := g_ifE h
      refine AW.iast (hm.1 22 _ rfl) (g_in_iff.mp hb) dX11_tellSlices_33 ?_
      obtain ⟨I7, eI7, h⟩ := g_letE h
      refine AW.namIE eI7 ?_
      refine AW.iload_n dX11_tellSlices_34 rfl ?_
      refine AW.aload_n dX11_tellSlices_35 rfl ?_
      refine AW.getR (c' := 123) (fX11_97 hG).r rfl (hm.1 0 _ rfl) (hm.2 (0, 37, 22) (by decide)) dX11_tellSlices_36 ?_
      refine AW.iload dX11_tellSlices_39 rfl ?_
      obtain ⟨hb, h⟩ := g_ifE h
      refine AW.iald (hm.1 22 _ rfl) (g_in_iff.mp hb) dX11_tellSlices_41 ?_
      refine AW.iadd dX11_tellSlices_42 ?_
      obtain ⟨a8, ea8, h⟩ := g_letE h
      refine AW.namE ea8 ?_
      refine AW.is_n [some (.ref 101), some (.int y1), some (.int y2), some (.int a8), some (.int x4), none, none, none] dX11_tellSlices_43 (by decide) rfl rfl ?_
      refine AW.incE 1 (by decide) [some (.ref 101), some (.int y1), some (.int y2), some (.int a8), some (.int (x4 + 1)), none, none, none] dX11_tellSlices_44 rfl (by decide) rfl rfl ?_
      refine AW.goto 10 dX11_tellSlices_47 (by decide) ?_
      exact ih h
set_option maxRecDepth 100000 in
set_option maxHeartbeats 4000000 in
theorem gL_X11_tellSlices_63 {G : am_G} (hK : k_OK G) {d : Nat} (hd : 3 ≤ d) {sh : List (Nat ⊕ (Nat × Nat))} {I : g_I} {R : Nat → Nat → Option Nat} {L : Nat → Nat → Int64} {g : Nat} (hm : k_Mod sh R) {y2 : Int32} {y3 : Int32} {K : g_I → Option (g_I)} {x4 : Int32} {f : Nat} {r : g_I} (h : b_X11_tellSlices_L63 y2 y3 K f x4 I = some r) (hk : ∀ (J : g_I), K J = some r → AW G mX11_tellSlices d (fun v w => v = none ∧ w = (sh, r, R, L, g)) (fun _ _ => False) 117 [some (.ref 101), none, some (.int y2), none, none, none, none, none] [] (sh, J, R, L, g) 0 0) : AW G mX11_tellSlices d (fun v w => v = none ∧ w = (sh, r, R, L, g)) (fun _ _ => False) 63 [some (.ref 101), none, some (.int y2), some (.int y3), some (.int x4), none, none, none] [] (sh, I, R, L, g) 0 0 := by
  have hG := hK.1
  induction f generalizing x4 I with
  | zero => rw [b_X11_tellSlices_L63] at h; cases h
  | succ f ih =>
    rw [b_X11_tellSlices_L63] at h
    refine AW.iload dX11_tellSlices_63 rfl ?_
    refine AW.aload_n dX11_tellSlices_65 rfl ?_
    refine AW.getI (fX11_371 hG).r rfl (hm.1 0 _ rfl) dX11_tellSlices_66 ?_
    refine AW.icmp_ge 117 dX11_tellSlices_69 (by decide) (fun hc69 => ?_) (fun hc69 => ?_)
    · replace h := g_pos hc69 h
      refine AW.mask [3, 4] [some (.ref 101), none, some (.int y2), none, none, none, none, none] rfl ?_
      exact hk _ h
    · replace h := g_neg hc69 h
      refine AW.aload_n dX11_tellSlices_72 rfl ?_
      refine AW.getR (c' := 123) (fX11_97 hG).r rfl (hm.1 0 _ rfl) (hm.2 (0, 37, 22) (by decide)) dX11_tellSlices_73 ?_
      refine AW.iload dX11_tellSlices_76 rfl ?_
      refine AW.aload_n dX11_tellSlices_78 rfl ?_
      refine AW.getR (c' := 109) (fX11_52 hG).r rfl (hm.1 0 _ rfl) (hm.2 (0, 8, 8) (by decide)) dX11_tellSlices_79 ?_
      refine AW.iload_n dX11_tellSlices_82 rfl ?_
      obtain ⟨hb, h⟩ := g_ifE h
      refine AW.iald (hm.1 8 _ rfl) (g_in_iff.mp hb) dX11_tellSlices_83 ?_
      refine AW.aload_n dX11_tellSlices_84 rfl ?_
      refine AW.getR (c' := 123) (fX11_97 hG).r rfl (hm.1 0 _ rfl) (hm.2 (0, 37, 22) (by decide)) dX11_tellSlices_85 ?_
      refine AW.iload dX11_tellSlices_88 rfl ?_
      obtain ⟨hb, h⟩ := g_ifE h
      refine AW.iald (hm.1 22 _ rfl) (g_in_iff.mp hb) dX11_tellSlices_90 ?_
      refine AW.imul dX11_tellSlices_91 ?_
      refine AW.iload_n dX11_tellSlices_92 rfl ?_
      obtain ⟨hb, h⟩ := g_ifE h
      refine AW.idiv dX11_tellSlices_93 hb ?_
      obtain ⟨hb, h⟩ := g_ifE h
      refine AW.iast (hm.1 22 _ rfl) (g_in_iff.mp hb) dX11_tellSlices_94 ?_
      obtain ⟨I12, eI12, h⟩ := g_letE h
      refine AW.namIE eI12 ?_
      refine AW.aload_n dX11_tellSlices_95 rfl ?_
      refine AW.dup dX11_tellSlices_96 rfl ?_
      refine AW.getI (fX11_383 hG).r rfl (hm.1 0 _ rfl) dX11_tellSlices_97 ?_
      refine AW.aload_n dX11_tellSlices_100 rfl ?_
      refine AW.getR (c' := 123) (fX11_97 hG).r rfl (hm.1 0 _ rfl) (hm.2 (0, 37, 22) (by decide)) dX11_tellSlices_101 ?_
      refine AW.iload dX11_tellSlices_104 rfl ?_
      obtain ⟨hb, h⟩ := g_ifE h
      refine AW.iald (hm.1 22 _ rfl) (g_in_iff.mp hb) dX11_tellSlices_106 ?_
      refine AW.isub dX11_tellSlices_107 ?_
      refine AW.putI (fX11_383 hG) rfl (vp_nar_int _) rfl (hm.1 0 _ rfl) dX11_tellSlices_108 ?_
      obtain ⟨I13, eI13, h⟩ := g_letE h
      refine AW.namIE eI13 ?_
      refine AW.incE 1 (by decide) [some (.ref 101), none, some (.int y2), some (.int y3), some (.int (x4 + 1)), none, none, none] dX11_tellSlices_111 rfl (by decide) rfl rfl ?_
      refine AW.goto 63 dX11_tellSlices_114 (by decide) ?_
      exact ih h
set_option maxRecDepth 100000 in
set_option maxHeartbeats 4000000 in
theorem gL_X11_tellSlices_175 {G : am_G} (hK : k_OK G) {d : Nat} (hd : 3 ≤ d) {sh : List (Nat ⊕ (Nat × Nat))} {I : g_I} {R : Nat → Nat → Option Nat} {L : Nat → Nat → Int64} {g : Nat} (hm : k_Mod sh R) {y4 : Int32} {y5 : Int32} {K : Int32 → Option (g_I)} {x6 : Int32} {x7 : Int32} {f : Nat} {r : g_I} (h : b_X11_tellSlices_L175 I y4 y5 K f x6 x7 = some r) (hk : ∀ (u6 : Int32), K u6 = some r → AW G mX11_tellSlices d (fun v w => v = none ∧ w = (sh, r, R, L, g)) (fun _ _ => False) 227 [some (.ref 101), none, none, none, some (.int y4), some (.int y5), some (.int u6), none] [] (sh, I, R, L, g) 0 0) : AW G mX11_tellSlices d (fun v w => v = none ∧ w = (sh, r, R, L, g)) (fun _ _ => False) 175 [some (.ref 101), none, none, none, some (.int y4), some (.int y5), some (.int x6), some (.int x7)] [] (sh, I, R, L, g) 0 0 := by
  have hG := hK.1
  induction f generalizing x6 x7 with
  | zero => rw [b_X11_tellSlices_L175] at h; cases h
  | succ f ih =>
    rw [b_X11_tellSlices_L175] at h
    refine AW.iload dX11_tellSlices_175 rfl ?_
    refine AW.aload_n dX11_tellSlices_177 rfl ?_
    refine AW.getI (fX11_371 hG).r rfl (hm.1 0 _ rfl) dX11_tellSlices_178 ?_
    refine AW.icmp_ge 227 dX11_tellSlices_181 (by decide) (fun hc181 => ?_) (fun hc181 => ?_)
    · replace h := g_pos hc181 h
      refine AW.mask [7] [some (.ref 101), none, none, none, some (.int y4), some (.int y5), some (.int x6), none] rfl ?_
      exact hk _ h
    · replace h := g_neg hc181 h
      refine AW.iload dX11_tellSlices_184 rfl ?_
      refine AW.iload dX11_tellSlices_186 rfl ?_
      refine AW.callS (As := [.int y4, .int x7]) hG.2.2 (vX11_278 hG) (g_X11_isOf hK (d := 0) (Nat.le_refl _)) (by omega) dX11_tellSlices_188 rfl rfl (Nat.le_of_ble_eq_true rfl) (fun v w9 hq9 h09 => by obtain ⟨rfl, rfl⟩ := hq9; exact ⟨h09, rfl⟩) (by decide) (by decide) (fun _ _ hx => hx) (fun v9 w9 hq9 => ?_)
      obtain ⟨rfl, rfl⟩ := hq9
      show AW G _ d _ _ 191 [some (.ref 101), none, none, none, some (.int y4), some (.int y5), some (.int x6), some (.int x7)] [.int (kb (b_X11_isOf y4 x7))] (sh, I, R, L, g) 0 0
      refine AW.if_ne 221 dX11_tellSlices_191 (by decide) (fun hc191 => ?_) (fun hc191 => ?_)
      · replace h := g_pos (kb_1.mp hc191) h
        refine AW.incE 1 (by decide) [some (.ref 101), none, none, none, some (.int y4), some (.int y5), some (.int x6), some (.int (x7 + 1))] dX11_tellSlices_221 rfl (by decide) rfl rfl ?_
        refine AW.goto 175 dX11_tellSlices_224 (by decide) ?_
        exact ih h
      · replace h := g_neg (g_kb0 hc191) h
        refine AW.iload dX11_tellSlices_194 rfl ?_
        refine AW.iconst (-1) dX11_tellSlices_196 (by decide) ?_
        refine AW.icmp_eq 217 dX11_tellSlices_197 (by decide) (fun hc197 => ?_) (fun hc197 => ?_)
        · replace h := g_pos hc197 h
          refine AW.iload dX11_tellSlices_217 rfl ?_
          refine AW.is [some (.ref 101), none, none, none, some (.int y4), some (.int y5), some (.int x7), some (.int x7)] dX11_tellSlices_219 (by decide) rfl rfl ?_
          refine AW.incE 1 (by decide) [some (.ref 101), none, none, none, some (.int y4), some (.int y5), some (.int x7), some (.int (x7 + 1))] dX11_tellSlices_221 rfl (by decide) rfl rfl ?_
          refine AW.goto 175 dX11_tellSlices_224 (by decide) ?_
          exact ih h
        · replace h := g_neg hc197 h
          refine AW.aload_n dX11_tellSlices_200 rfl ?_
          refine AW.getR (c' := 123) (fX11_97 hG).r rfl (hm.1 0 _ rfl) (hm.2 (0, 37, 22) (by decide)) dX11_tellSlices_201 ?_
          refine AW.iload dX11_tellSlices_204 rfl ?_
          obtain ⟨hb, h⟩ := g_ifE h
          refine AW.iald (hm.1 22 _ rfl) (g_in_iff.mp hb) dX11_tellSlices_206 ?_
          refine AW.aload_n dX11_tellSlices_207 rfl ?_
          refine AW.getR (c' := 123) (fX11_97 hG).r rfl (hm.1 0 _ rfl) (hm.2 (0, 37, 22) (by decide)) dX11_tellSlices_208 ?_
          refine AW.iload dX11_tellSlices_211 rfl ?_
          obtain ⟨hb, h⟩ := g_ifE h
          refine AW.iald (hm.1 22 _ rfl) (g_in_iff.mp hb) dX11_tellSlices_213 ?_
          refine AW.icmp_le 221 dX11_tellSlices_214 (by decide) (fun hc214 => ?_) (fun hc214 => ?_)
          · replace h := g_pos hc214 h
            refine AW.incE 1 (by decide) [some (.ref 101), none, none, none, some (.int y4), some (.int y5), some (.int x6), some (.int (x7 + 1))] dX11_tellSlices_221 rfl (by decide) rfl rfl ?_
            refine AW.goto 175 dX11_tellSlices_224 (by decide) ?_
            exact ih h
          · replace h := g_neg hc214 h
            refine AW.iload dX11_tellSlices_217 rfl ?_
            refine AW.is [some (.ref 101), none, none, none, some (.int y4), some (.int y5), some (.int x7), some (.int x7)] dX11_tellSlices_219 (by decide) rfl rfl ?_
            refine AW.incE 1 (by decide) [some (.ref 101), none, none, none, some (.int y4), some (.int y5), some (.int x7), some (.int (x7 + 1))] dX11_tellSlices_221 rfl (by decide) rfl rfl ?_
            refine AW.goto 175 dX11_tellSlices_224 (by decide) ?_
            exact ih h
set_option maxRecDepth 100000 in
set_option maxHeartbeats 4000000 in
theorem gL_X11_tellSlices_130 {G : am_G} (hK : k_OK G) {d : Nat} (hd : 3 ≤ d) {sh : List (Nat ⊕ (Nat × Nat))} {I : g_I} {R : Nat → Nat → Option Nat} {L : Nat → Nat → Int64} {g : Nat} (hm : k_Mod sh R) {K : g_I → Option (g_I)} {x4 : Int32} {x5 : Int32} {f : Nat} {r : g_I} (h : b_X11_tellSlices_L130 K f x4 x5 I = some r) (hk : ∀ (J : g_I), K J = some r → AW G mX11_tellSlices d (fun v w => v = none ∧ w = (sh, r, R, L, g)) (fun _ _ => False) 256 [none, none, none, none, none, none, none, none] [] (sh, J, R, L, g) 0 0) : AW G mX11_tellSlices d (fun v w => v = none ∧ w = (sh, r, R, L, g)) (fun _ _ => False) 130 [some (.ref 101), none, none, none, some (.int x4), some (.int x5), none, none] [] (sh, I, R, L, g) 0 0 := by
  have hG := hK.1
  induction f generalizing x4 x5 I with
  | zero => rw [b_X11_tellSlices_L130] at h; cases h
  | succ f ih =>
    rw [b_X11_tellSlices_L130] at h
    refine AW.iload dX11_tellSlices_130 rfl ?_
    refine AW.if_lt 256 dX11_tellSlices_132 (by decide) (fun hc132 => ?_) (fun hc132 => ?_)
    · replace h := g_pos hc132 h
      refine AW.mask [0, 4, 5] [none, none, none, none, none, none, none, none] rfl ?_
      exact hk _ h
    · replace h := g_neg hc132 h
      refine AW.aload_n dX11_tellSlices_135 rfl ?_
      refine AW.getR (c' := 124) (fX11_99 hG).r rfl (hm.1 0 _ rfl) (hm.2 (0, 38, 23) (by decide)) dX11_tellSlices_136 ?_
      refine AW.iload dX11_tellSlices_139 rfl ?_
      obtain ⟨hb, h⟩ := g_ifE h
      refine AW.iald (hm.1 23 _ rfl) (g_in_iff.mp hb) dX11_tellSlices_141 ?_
      refine AW.iload dX11_tellSlices_142 rfl ?_
      refine AW.icmp_eq 169 dX11_tellSlices_144 (by decide) (fun hc144 => ?_) (fun hc144 => ?_)
      · replace h := g_pos hc144 h
        refine AW.iconst (-1) dX11_tellSlices_169 (by decide) ?_
        refine AW.is [some (.ref 101), none, none, none, some (.int x4), some (.int x5), some (.int (-1)), none] dX11_tellSlices_170 (by decide) rfl rfl ?_
        refine AW.iconst 0 dX11_tellSlices_172 (by decide) ?_
        refine AW.is [some (.ref 101), none, none, none, some (.int x4), some (.int x5), some (.int (-1)), some (.int 0)] dX11_tellSlices_173 (by decide) rfl rfl ?_
        refine gL_X11_tellSlices_175 hK hd hm h (fun a16 h => ?_)
        refine AW.iload dX11_tellSlices_227 rfl ?_
        refine AW.iconst 1 dX11_tellSlices_229 (by decide) ?_
        refine AW.iload dX11_tellSlices_230 rfl ?_
        refine AW.ishl dX11_tellSlices_232 ?_
        refine AW.ior dX11_tellSlices_233 ?_
        obtain ⟨a17, ea17, h⟩ := g_letE h
        refine AW.namE ea17 ?_
        refine AW.is [some (.ref 101), none, none, none, some (.int a17), some (.int x5), some (.int a16), none] dX11_tellSlices_234 (by decide) rfl rfl ?_
        refine AW.aload_n dX11_tellSlices_236 rfl ?_
        refine AW.getR (c' := 125) (fX11_102 hG).r rfl (hm.1 0 _ rfl) (hm.2 (0, 39, 24) (by decide)) dX11_tellSlices_237 ?_
        refine AW.iload dX11_tellSlices_240 rfl ?_
        refine AW.aload_n dX11_tellSlices_242 rfl ?_
        refine AW.getR (c' := 123) (fX11_97 hG).r rfl (hm.1 0 _ rfl) (hm.2 (0, 37, 22) (by decide)) dX11_tellSlices_243 ?_
        refine AW.iload dX11_tellSlices_246 rfl ?_
        obtain ⟨hb, h⟩ := g_ifE h
        refine AW.iald (hm.1 22 _ rfl) (g_in_iff.mp hb) dX11_tellSlices_248 ?_
        obtain ⟨hb, h⟩ := g_ifE h
        refine AW.iast (hm.1 24 _ rfl) (g_in_iff.mp hb) dX11_tellSlices_249 ?_
        obtain ⟨I18, eI18, h⟩ := g_letE h
        refine AW.namIE eI18 ?_
        refine AW.incE (-1) (by decide) [some (.ref 101), none, none, none, some (.int a17), some (.int (x5 + (-1))), some (.int a16), none] dX11_tellSlices_250 rfl (by decide) rfl rfl ?_
        refine AW.goto 130 dX11_tellSlices_253 (by decide) ?_
        refine AW.mask [6] [some (.ref 101), none, none, none, some (.int a17), some (.int (x5 + (-1))), none, none] rfl ?_
        exact ih h
      · replace h := g_neg hc144 h
        refine AW.aload_n dX11_tellSlices_147 rfl ?_
        refine AW.getR (c' := 125) (fX11_102 hG).r rfl (hm.1 0 _ rfl) (hm.2 (0, 39, 24) (by decide)) dX11_tellSlices_148 ?_
        refine AW.iload dX11_tellSlices_151 rfl ?_
        refine AW.aload_n dX11_tellSlices_153 rfl ?_
        refine AW.getR (c' := 125) (fX11_102 hG).r rfl (hm.1 0 _ rfl) (hm.2 (0, 39, 24) (by decide)) dX11_tellSlices_154 ?_
        refine AW.aload_n dX11_tellSlices_157 rfl ?_
        refine AW.getR (c' := 124) (fX11_99 hG).r rfl (hm.1 0 _ rfl) (hm.2 (0, 38, 23) (by decide)) dX11_tellSlices_158 ?_
        refine AW.iload dX11_tellSlices_161 rfl ?_
        obtain ⟨hb, h⟩ := g_ifE h
        refine AW.iald (hm.1 23 _ rfl) (g_in_iff.mp hb) dX11_tellSlices_163 ?_
        obtain ⟨hb, h⟩ := g_ifE h
        refine AW.iald (hm.1 24 _ rfl) (g_in_iff.mp hb) dX11_tellSlices_164 ?_
        obtain ⟨hb, h⟩ := g_ifE h
        refine AW.iast (hm.1 24 _ rfl) (g_in_iff.mp hb) dX11_tellSlices_165 ?_
        obtain ⟨I19, eI19, h⟩ := g_letE h
        refine AW.namIE eI19 ?_
        refine AW.goto 250 dX11_tellSlices_166 (by decide) ?_
        refine AW.incE (-1) (by decide) [some (.ref 101), none, none, none, some (.int x4), some (.int (x5 + (-1))), none, none] dX11_tellSlices_250 rfl (by decide) rfl rfl ?_
        refine AW.goto 130 dX11_tellSlices_253 (by decide) ?_
        exact ih h
set_option maxRecDepth 100000 in
set_option maxHeartbeats 4000000 in
theorem g_X11_tellSlices {G : am_G} (hK : k_OK G) {d : Nat} (hd : 3 ≤ d) {sh : List (Nat ⊕ (Nat × Nat))} {I : g_I} {R : Nat → Nat → Option Nat} {L : Nat → Nat → Int64} {g : Nat} (hm : k_Mod sh R) {x1 : Int32} {x2 : Int32} {r : g_I} (h : b_X11_tellSlices I x1 x2 = some r) : AM G mX11_tellSlices d [.ref 101, .int x1, .int x2] (sh, I, R, L, g) (fun v w => v = none ∧ w = (sh, r, R, L, g)) (fun _ _ => False) := by
  have hG := hK.1
  refine AM.of (n := 5) (by decide +kernel) (Nat.le_of_ble_eq_true rfl) ?_
  show AW G mX11_tellSlices d (fun v w => v = none ∧ w = (sh, r, R, L, g)) (fun _ _ => False) 0 [some (.ref 101), some (.int x1), some (.int x2), none, none, none, none, none] [] (sh, I, R, L, g) 0 0
  unfold b_X11_tellSlices at h
  refine AW.aload_n dX11_tellSlices_0 rfl ?_
  refine AW.iload_n dX11_tellSlices_1 rfl ?_
  obtain ⟨I2, hx3, h⟩ := g_bindE h
  refine AW.callV (b := 101) (As := [.int x2]) hG.2.2 (vX11_377 hG) (hm.1 0 _ rfl) (g_X11_tellUnits hK (d := 1) (Nat.le_refl _) hm hx3) (by omega) dX11_tellSlices_2 rfl rfl (Nat.le_of_ble_eq_true rfl) (fun v w9 hq9 h09 => by obtain ⟨rfl, rfl⟩ := hq9; exact ⟨h09, rfl⟩) (by decide) (by decide) (fun _ _ hx => hx) (fun v9 w9 hq9 => ?_)
  obtain ⟨rfl, rfl⟩ := hq9
  show AW G _ d _ _ 5 [some (.ref 101), some (.int x1), some (.int x2), none, none, none, none, none] [] (sh, I2, R, L, g) 0 0
  refine AW.iconst 0 dX11_tellSlices_5 (by decide) ?_
  refine AW.is_n [some (.ref 101), some (.int x1), some (.int x2), some (.int 0), none, none, none, none] dX11_tellSlices_6 (by decide) rfl rfl ?_
  refine AW.iconst 0 dX11_tellSlices_7 (by decide) ?_
  refine AW.is [some (.ref 101), some (.int x1), some (.int x2), some (.int 0), some (.int 0), none, none, none] dX11_tellSlices_8 (by decide) rfl rfl ?_
  refine gL_X11_tellSlices_10 hK hd hm h (fun a9 I10 h => ?_)
  refine AW.aload_n dX11_tellSlices_50 rfl ?_
  refine AW.aload_n dX11_tellSlices_51 rfl ?_
  refine AW.getR (c' := 109) (fX11_52 hG).r rfl (hm.1 0 _ rfl) (hm.2 (0, 8, 8) (by decide)) dX11_tellSlices_52 ?_
  refine AW.iload_n dX11_tellSlices_55 rfl ?_
  obtain ⟨hb, h⟩ := g_ifE h
  refine AW.iald (hm.1 8 _ rfl) (g_in_iff.mp hb) dX11_tellSlices_56 ?_
  refine AW.putI (fX11_383 hG) rfl (vp_nar_int _) rfl (hm.1 0 _ rfl) dX11_tellSlices_57 ?_
  obtain ⟨I11, eI11, h⟩ := g_letE h
  refine AW.namIE eI11 ?_
  refine AW.iconst 0 dX11_tellSlices_60 (by decide) ?_
  refine AW.is [some (.ref 101), none, some (.int x2), some (.int a9), some (.int 0), none, none, none] dX11_tellSlices_61 (by decide) rfl rfl ?_
  refine gL_X11_tellSlices_63 hK hd hm h (fun I14 h => ?_)
  refine AW.iconst 0 dX11_tellSlices_117 (by decide) ?_
  refine AW.is [some (.ref 101), none, some (.int x2), none, some (.int 0), none, none, none] dX11_tellSlices_118 (by decide) rfl rfl ?_
  refine AW.aload_n dX11_tellSlices_120 rfl ?_
  refine AW.getR (c' := 112) (fX11_61 hG).r rfl (hm.1 0 _ rfl) (hm.2 (0, 11, 11) (by decide)) dX11_tellSlices_121 ?_
  refine AW.iload_n dX11_tellSlices_124 rfl ?_
  obtain ⟨hb, h⟩ := g_ifE h
  refine AW.iald (hm.1 11 _ rfl) (g_in_iff.mp hb) dX11_tellSlices_125 ?_
  refine AW.iconst 1 dX11_tellSlices_126 (by decide) ?_
  refine AW.isub dX11_tellSlices_127 ?_
  obtain ⟨a15, ea15, h⟩ := g_letE h
  refine AW.namE ea15 ?_
  refine AW.is [some (.ref 101), none, some (.int x2), none, some (.int 0), some (.int a15), none, none] dX11_tellSlices_128 (by decide) rfl rfl ?_
  refine AW.mask [2] [some (.ref 101), none, none, none, some (.int 0), some (.int a15), none, none] rfl ?_
  refine gL_X11_tellSlices_130 hK hd hm h (fun I20 h => ?_)
  exact AW.vret dX11_tellSlices_256 rfl (by decide) (by decide) (by cases h; exact ⟨rfl, rfl⟩)
theorem dX11_bitsOf_0 : decode cX11_bitsOf 0 = .ok (.iconst 0, 1) := by decide +kernel
theorem dX11_bitsOf_1 : decode cX11_bitsOf 1 = .ok (.istore_n 1, 1) := by decide +kernel
theorem dX11_bitsOf_2 : decode cX11_bitsOf 2 = .ok (.iload_n 0, 1) := by decide +kernel
theorem dX11_bitsOf_3 : decode cX11_bitsOf 3 = .ok (.istore_n 2, 1) := by decide +kernel
theorem dX11_bitsOf_4 : decode cX11_bitsOf 4 = .ok (.iload_n 2, 1) := by decide +kernel
theorem dX11_bitsOf_5 : decode cX11_bitsOf 5 = .ok (.ifCond .eq 15, 3) := by decide +kernel
theorem dX11_bitsOf_8 : decode cX11_bitsOf 8 = .ok (.iinc 1 1, 3) := by decide +kernel
theorem dX11_bitsOf_11 : decode cX11_bitsOf 11 = .ok (.iload_n 2, 1) := by decide +kernel
theorem dX11_bitsOf_12 : decode cX11_bitsOf 12 = .ok (.iload_n 2, 1) := by decide +kernel
theorem dX11_bitsOf_13 : decode cX11_bitsOf 13 = .ok (.iconst 1, 1) := by decide +kernel
theorem dX11_bitsOf_14 : decode cX11_bitsOf 14 = .ok (.isub, 1) := by decide +kernel
theorem dX11_bitsOf_15 : decode cX11_bitsOf 15 = .ok (.iand, 1) := by decide +kernel
theorem dX11_bitsOf_16 : decode cX11_bitsOf 16 = .ok (.istore_n 2, 1) := by decide +kernel
theorem dX11_bitsOf_17 : decode cX11_bitsOf 17 = .ok (.goto (-13), 3) := by decide +kernel
theorem dX11_bitsOf_20 : decode cX11_bitsOf 20 = .ok (.iload_n 1, 1) := by decide +kernel
theorem dX11_bitsOf_21 : decode cX11_bitsOf 21 = .ok (.ireturn, 1) := by decide +kernel
def b_X11_bitsOf_L4 (K : Int32 → Option (Int32)) : Nat → Int32 → Int32 → Option (Int32)
  | 0, _, _ => none
  | f + 1, x1, x2 => if x2 = 0 then K x1 else g_let (x2 &&& (x2 - 1)) fun a1 => b_X11_bitsOf_L4 K f (x1 + 1) a1
def b_X11_bitsOf (x0 : Int32) : Option (Int32) :=
  b_X11_bitsOf_L4 (fun (a2 : Int32) => some a2) fu 0 x0
set_option maxRecDepth 100000 in
set_option maxHeartbeats 4000000 in
theorem gL_X11_bitsOf_4 {G : am_G} (hK : k_OK G) {d : Nat} (hd : 0 ≤ d) {sh : List (Nat ⊕ (Nat × Nat))} {I : g_I} {R : Nat → Nat → Option Nat} {L : Nat → Nat → Int64} {g : Nat} {K : Int32 → Option (Int32)} {x1 : Int32} {x2 : Int32} {f : Nat} {r : Int32} (h : b_X11_bitsOf_L4 K f x1 x2 = some r) (hk : ∀ (u1 : Int32), K u1 = some r → AW G mX11_bitsOf d (fun v w => v = some (.int r) ∧ w = (sh, I, R, L, g)) (fun _ _ => False) 20 [none, some (.int u1), none] [] (sh, I, R, L, g) 0 0) : AW G mX11_bitsOf d (fun v w => v = some (.int r) ∧ w = (sh, I, R, L, g)) (fun _ _ => False) 4 [none, some (.int x1), some (.int x2)] [] (sh, I, R, L, g) 0 0 := by
  have hG := hK.1
  induction f generalizing x1 x2 with
  | zero => rw [b_X11_bitsOf_L4] at h; cases h
  | succ f ih =>
    rw [b_X11_bitsOf_L4] at h
    refine AW.iload_n dX11_bitsOf_4 rfl ?_
    refine AW.if_eq 20 dX11_bitsOf_5 (by decide) (fun hc5 => ?_) (fun hc5 => ?_)
    · replace h := g_pos hc5 h
      refine AW.mask [2] [none, some (.int x1), none] rfl ?_
      exact hk _ h
    · replace h := g_neg hc5 h
      refine AW.incE 1 (by decide) [none, some (.int (x1 + 1)), some (.int x2)] dX11_bitsOf_8 rfl (by decide) rfl rfl ?_
      refine AW.iload_n dX11_bitsOf_11 rfl ?_
      refine AW.iload_n dX11_bitsOf_12 rfl ?_
      refine AW.iconst 1 dX11_bitsOf_13 (by decide) ?_
      refine AW.isub dX11_bitsOf_14 ?_
      refine AW.iand dX11_bitsOf_15 ?_
      obtain ⟨a1, ea1, h⟩ := g_letE h
      refine AW.namE ea1 ?_
      refine AW.is_n [none, some (.int (x1 + 1)), some (.int a1)] dX11_bitsOf_16 (by decide) rfl rfl ?_
      refine AW.goto 4 dX11_bitsOf_17 (by decide) ?_
      exact ih h
set_option maxRecDepth 100000 in
set_option maxHeartbeats 4000000 in
theorem g_X11_bitsOf {G : am_G} (hK : k_OK G) {d : Nat} (hd : 0 ≤ d) {sh : List (Nat ⊕ (Nat × Nat))} {I : g_I} {R : Nat → Nat → Option Nat} {L : Nat → Nat → Int64} {g : Nat} {x0 : Int32} {r : Int32} (h : b_X11_bitsOf x0 = some r) : AM G mX11_bitsOf d [.int x0] (sh, I, R, L, g) (fun v w => v = some (.int r) ∧ w = (sh, I, R, L, g)) (fun _ _ => False) := by
  have hG := hK.1
  refine AM.of (n := 2) (by decide +kernel) (Nat.le_of_ble_eq_true rfl) ?_
  show AW G mX11_bitsOf d (fun v w => v = some (.int r) ∧ w = (sh, I, R, L, g)) (fun _ _ => False) 0 [some (.int x0), none, none] [] (sh, I, R, L, g) 0 0
  unfold b_X11_bitsOf at h
  refine AW.iconst 0 dX11_bitsOf_0 (by decide) ?_
  refine AW.is_n [some (.int x0), some (.int 0), none] dX11_bitsOf_1 (by decide) rfl rfl ?_
  refine AW.iload_n dX11_bitsOf_2 rfl ?_
  refine AW.is_n [some (.int x0), some (.int 0), some (.int x0)] dX11_bitsOf_3 (by decide) rfl rfl ?_
  refine AW.mask [0] [none, some (.int 0), some (.int x0)] rfl ?_
  refine gL_X11_bitsOf_4 hK hd h (fun a2 h => ?_)
  refine AW.iload_n dX11_bitsOf_20 rfl ?_
  exact AW.iret dX11_bitsOf_21 rfl (by decide) (by decide) (by cases h; exact ⟨rfl, rfl⟩)
theorem dX11_count_0 : decode cX11_count 0 = .ok (.aload_n 0, 1) := by decide +kernel
theorem dX11_count_1 : decode cX11_count 1 = .ok (.iconst 0, 1) := by decide +kernel
theorem dX11_count_2 : decode cX11_count 2 = .ok (.putfield 159, 3) := by decide +kernel
theorem dX11_count_5 : decode cX11_count 5 = .ok (.iload_n 1, 1) := by decide +kernel
theorem dX11_count_6 : decode cX11_count 6 = .ok (.tableswitch 175 0 14 #[74, 74, 81, 81, 90, 95, 100, 140, 145, 150, 155, 160, 165, 165, 165], 74) := by decide +kernel
theorem dX11_count_80 : decode cX11_count 80 = .ok (.aload_n 0, 1) := by decide +kernel
theorem dX11_count_81 : decode cX11_count 81 = .ok (.getfield 38, 3) := by decide +kernel
theorem dX11_count_84 : decode cX11_count 84 = .ok (.iload_n 1, 1) := by decide +kernel
theorem dX11_count_85 : decode cX11_count 85 = .ok (.iaload, 1) := by decide +kernel
theorem dX11_count_86 : decode cX11_count 86 = .ok (.ireturn, 1) := by decide +kernel
theorem dX11_count_87 : decode cX11_count 87 = .ok (.aload_n 0, 1) := by decide +kernel
theorem dX11_count_88 : decode cX11_count 88 = .ok (.getfield 38, 3) := by decide +kernel
theorem dX11_count_91 : decode cX11_count 91 = .ok (.iload_n 1, 1) := by decide +kernel
theorem dX11_count_92 : decode cX11_count 92 = .ok (.iconst 1, 1) := by decide +kernel
theorem dX11_count_93 : decode cX11_count 93 = .ok (.iadd, 1) := by decide +kernel
theorem dX11_count_94 : decode cX11_count 94 = .ok (.iaload, 1) := by decide +kernel
theorem dX11_count_95 : decode cX11_count 95 = .ok (.ireturn, 1) := by decide +kernel
theorem dX11_count_96 : decode cX11_count 96 = .ok (.aload_n 0, 1) := by decide +kernel
theorem dX11_count_97 : decode cX11_count 97 = .ok (.getfield 321, 3) := by decide +kernel
theorem dX11_count_100 : decode cX11_count 100 = .ok (.ireturn, 1) := by decide +kernel
theorem dX11_count_101 : decode cX11_count 101 = .ok (.aload_n 0, 1) := by decide +kernel
theorem dX11_count_102 : decode cX11_count 102 = .ok (.getfield 324, 3) := by decide +kernel
theorem dX11_count_105 : decode cX11_count 105 = .ok (.ireturn, 1) := by decide +kernel
theorem dX11_count_106 : decode cX11_count 106 = .ok (.iconst 0, 1) := by decide +kernel
theorem dX11_count_107 : decode cX11_count 107 = .ok (.istore_n 2, 1) := by decide +kernel
theorem dX11_count_108 : decode cX11_count 108 = .ok (.iconst 0, 1) := by decide +kernel
theorem dX11_count_109 : decode cX11_count 109 = .ok (.istore_n 3, 1) := by decide +kernel
theorem dX11_count_110 : decode cX11_count 110 = .ok (.iload_n 3, 1) := by decide +kernel
theorem dX11_count_111 : decode cX11_count 111 = .ok (.aload_n 0, 1) := by decide +kernel
theorem dX11_count_112 : decode cX11_count 112 = .ok (.getfield 38, 3) := by decide +kernel
theorem dX11_count_115 : decode cX11_count 115 = .ok (.iconst 1, 1) := by decide +kernel
theorem dX11_count_116 : decode cX11_count 116 = .ok (.iaload, 1) := by decide +kernel
theorem dX11_count_117 : decode cX11_count 117 = .ok (.if_icmp .ge 27, 3) := by decide +kernel
theorem dX11_count_120 : decode cX11_count 120 = .ok (.iload_n 2, 1) := by decide +kernel
theorem dX11_count_121 : decode cX11_count 121 = .ok (.aload_n 0, 1) := by decide +kernel
theorem dX11_count_122 : decode cX11_count 122 = .ok (.getfield 83, 3) := by decide +kernel
theorem dX11_count_125 : decode cX11_count 125 = .ok (.iload_n 3, 1) := by decide +kernel
theorem dX11_count_126 : decode cX11_count 126 = .ok (.iaload, 1) := by decide +kernel
theorem dX11_count_127 : decode cX11_count 127 = .ok (.iconst (-1), 1) := by decide +kernel
theorem dX11_count_128 : decode cX11_count 128 = .ok (.if_icmp .ne 7, 3) := by decide +kernel
theorem dX11_count_131 : decode cX11_count 131 = .ok (.iconst 0, 1) := by decide +kernel
theorem dX11_count_132 : decode cX11_count 132 = .ok (.goto 4, 3) := by decide +kernel
theorem dX11_count_135 : decode cX11_count 135 = .ok (.iconst 1, 1) := by decide +kernel
theorem dX11_count_136 : decode cX11_count 136 = .ok (.iadd, 1) := by decide +kernel
theorem dX11_count_137 : decode cX11_count 137 = .ok (.istore_n 2, 1) := by decide +kernel
theorem dX11_count_138 : decode cX11_count 138 = .ok (.iinc 3 1, 3) := by decide +kernel
theorem dX11_count_141 : decode cX11_count 141 = .ok (.goto (-31), 3) := by decide +kernel
theorem dX11_count_144 : decode cX11_count 144 = .ok (.iload_n 2, 1) := by decide +kernel
theorem dX11_count_145 : decode cX11_count 145 = .ok (.ireturn, 1) := by decide +kernel
theorem dX11_count_146 : decode cX11_count 146 = .ok (.aload_n 0, 1) := by decide +kernel
theorem dX11_count_147 : decode cX11_count 147 = .ok (.invokevirtual 386, 3) := by decide +kernel
theorem dX11_count_150 : decode cX11_count 150 = .ok (.ireturn, 1) := by decide +kernel
theorem dX11_count_151 : decode cX11_count 151 = .ok (.aload_n 0, 1) := by decide +kernel
theorem dX11_count_152 : decode cX11_count 152 = .ok (.getfield 327, 3) := by decide +kernel
theorem dX11_count_155 : decode cX11_count 155 = .ok (.ireturn, 1) := by decide +kernel
theorem dX11_count_156 : decode cX11_count 156 = .ok (.aload_n 0, 1) := by decide +kernel
theorem dX11_count_157 : decode cX11_count 157 = .ok (.getfield 330, 3) := by decide +kernel
theorem dX11_count_160 : decode cX11_count 160 = .ok (.ireturn, 1) := by decide +kernel
theorem dX11_count_161 : decode cX11_count 161 = .ok (.aload_n 0, 1) := by decide +kernel
theorem dX11_count_162 : decode cX11_count 162 = .ok (.getfield 333, 3) := by decide +kernel
theorem dX11_count_165 : decode cX11_count 165 = .ok (.ireturn, 1) := by decide +kernel
theorem dX11_count_166 : decode cX11_count 166 = .ok (.aload_n 0, 1) := by decide +kernel
theorem dX11_count_167 : decode cX11_count 167 = .ok (.getfield 166, 3) := by decide +kernel
theorem dX11_count_170 : decode cX11_count 170 = .ok (.ireturn, 1) := by decide +kernel
theorem dX11_count_171 : decode cX11_count 171 = .ok (.aload_n 0, 1) := by decide +kernel
theorem dX11_count_172 : decode cX11_count 172 = .ok (.getfield 73, 3) := by decide +kernel
theorem dX11_count_175 : decode cX11_count 175 = .ok (.iload_n 1, 1) := by decide +kernel
theorem dX11_count_176 : decode cX11_count 176 = .ok (.bipush 12, 2) := by decide +kernel
theorem dX11_count_178 : decode cX11_count 178 = .ok (.isub, 1) := by decide +kernel
theorem dX11_count_179 : decode cX11_count 179 = .ok (.iaload, 1) := by decide +kernel
theorem dX11_count_180 : decode cX11_count 180 = .ok (.ireturn, 1) := by decide +kernel
theorem dX11_count_181 : decode cX11_count 181 = .ok (.aload_n 0, 1) := by decide +kernel
theorem dX11_count_182 : decode cX11_count 182 = .ok (.iconst 1, 1) := by decide +kernel
theorem dX11_count_183 : decode cX11_count 183 = .ok (.invokevirtual 307, 3) := by decide +kernel
theorem dX11_count_186 : decode cX11_count 186 = .ok (.ireturn, 1) := by decide +kernel
def b_X11_count_L110 (I : g_I) (K : Int32 → Option (Int32 × g_I)) : Nat → Int32 → Int32 → Option (Int32 × g_I)
  | 0, _, _ => none
  | f + 1, x2, x3 => if (I 104 1) ≤ x3 then K x2 else if g_in x3 6 = true then if (I 118 x3.toNatClampNeg) = (-1) then g_let (x2 + 0) fun a3 => b_X11_count_L110 I K f a3 (x3 + 1) else g_let (x2 + 1) fun a2 => b_X11_count_L110 I K f a2 (x3 + 1) else none
def b_X11_count (I : g_I) (x1 : Int32) : Option (Int32 × g_I) :=
  g_let (am_up I 101 2 0) fun I1 => if x1 = 0 then if g_in x1 12 = true then some (I1 104 x1.toNatClampNeg, I1) else none else if x1 = 1 then if g_in x1 12 = true then some (I1 104 x1.toNatClampNeg, I1) else none else if x1 = 2 then if g_in (x1 + 1) 12 = true then some (I1 104 (x1 + 1).toNatClampNeg, I1) else none else if x1 = 3 then if g_in (x1 + 1) 12 = true then some (I1 104 (x1 + 1).toNatClampNeg, I1) else none else if x1 = 4 then some (I1 101 30, I1) else if x1 = 5 then some (I1 101 31, I1) else if x1 = 6 then b_X11_count_L110 I1 (fun (a4 : Int32) => some (a4, I1)) fu 0 0 else if x1 = 7 then g_bind (b_X11_knownBoth I1) fun a5 => some (a5, I1) else if x1 = 8 then some (I1 101 32, I1) else if x1 = 9 then some (I1 101 33, I1) else if x1 = 10 then some (I1 101 34, I1) else if x1 = 11 then some (I1 101 17, I1) else if x1 = 12 then if g_in (x1 - 12) 3 = true then some (I1 116 (x1 - 12).toNatClampNeg, I1) else none else if x1 = 13 then if g_in (x1 - 12) 3 = true then some (I1 116 (x1 - 12).toNatClampNeg, I1) else none else if x1 = 14 then if g_in (x1 - 12) 3 = true then some (I1 116 (x1 - 12).toNatClampNeg, I1) else none else g_bind2 (b_X11_fail I1 1) fun a8 I9 => some (a8, I9)
set_option maxRecDepth 100000 in
set_option maxHeartbeats 4000000 in
theorem gL_X11_count_110 {G : am_G} (hK : k_OK G) {d : Nat} (hd : 4 ≤ d) {sh : List (Nat ⊕ (Nat × Nat))} {I : g_I} {R : Nat → Nat → Option Nat} {L : Nat → Nat → Int64} {g : Nat} (hm : k_Mod sh R) {K : Int32 → Option (Int32 × g_I)} {x2 : Int32} {x3 : Int32} {f : Nat} {r : Int32 × g_I} (h : b_X11_count_L110 I K f x2 x3 = some r) (hk : ∀ (u2 : Int32), K u2 = some r → AW G mX11_count d (fun v w => v = some (.int r.1) ∧ w = (sh, r.2, R, L, g)) (fun _ _ => False) 144 [none, none, some (.int u2), none] [] (sh, I, R, L, g) 0 0) : AW G mX11_count d (fun v w => v = some (.int r.1) ∧ w = (sh, r.2, R, L, g)) (fun _ _ => False) 110 [some (.ref 101), none, some (.int x2), some (.int x3)] [] (sh, I, R, L, g) 0 0 := by
  have hG := hK.1
  induction f generalizing x2 x3 with
  | zero => rw [b_X11_count_L110] at h; cases h
  | succ f ih =>
    rw [b_X11_count_L110] at h
    refine AW.iload_n dX11_count_110 rfl ?_
    refine AW.aload_n dX11_count_111 rfl ?_
    refine AW.getR (c' := 104) (fX11_38 hG).r rfl (hm.1 0 _ rfl) (hm.2 (0, 3, 3) (by decide)) dX11_count_112 ?_
    refine AW.iconst 1 dX11_count_115 (by decide) ?_
    refine AW.iald (hm.1 3 _ rfl) (by unfold vp_in; decide) dX11_count_116 ?_
    show AW G _ d _ _ 117 [some (.ref 101), none, some (.int x2), some (.int x3)] [.int (I 104 1), .int x3] (sh, I, R, L, g) 0 0
    refine AW.icmp_ge 144 dX11_count_117 (by decide) (fun hc117 => ?_) (fun hc117 => ?_)
    · replace h := g_pos hc117 h
      refine AW.mask [0, 3] [none, none, some (.int x2), none] rfl ?_
      exact hk _ h
    · replace h := g_neg hc117 h
      refine AW.iload_n dX11_count_120 rfl ?_
      refine AW.aload_n dX11_count_121 rfl ?_
      refine AW.getR (c' := 118) (fX11_83 hG).r rfl (hm.1 0 _ rfl) (hm.2 (0, 27, 17) (by decide)) dX11_count_122 ?_
      refine AW.iload_n dX11_count_125 rfl ?_
      obtain ⟨hb, h⟩ := g_ifE h
      refine AW.iald (hm.1 17 _ rfl) (g_in_iff.mp hb) dX11_count_126 ?_
      refine AW.iconst (-1) dX11_count_127 (by decide) ?_
      refine AW.icmp_ne 135 dX11_count_128 (by decide) (fun hc128 => ?_) (fun hc128 => ?_)
      · replace h := g_neg hc128 h
        refine AW.iconst 1 dX11_count_135 (by decide) ?_
        refine AW.iadd dX11_count_136 ?_
        obtain ⟨a2, ea2, h⟩ := g_letE h
        refine AW.namE ea2 ?_
        refine AW.is_n [some (.ref 101), none, some (.int a2), some (.int x3)] dX11_count_137 (by decide) rfl rfl ?_
        refine AW.incE 1 (by decide) [some (.ref 101), none, some (.int a2), some (.int (x3 + 1))] dX11_count_138 rfl (by decide) rfl rfl ?_
        refine AW.goto 110 dX11_count_141 (by decide) ?_
        exact ih h
      · replace h := g_pos hc128 h
        refine AW.iconst 0 dX11_count_131 (by decide) ?_
        refine AW.goto 136 dX11_count_132 (by decide) ?_
        refine AW.iadd dX11_count_136 ?_
        obtain ⟨a3, ea3, h⟩ := g_letE h
        refine AW.namE ea3 ?_
        refine AW.is_n [some (.ref 101), none, some (.int a3), some (.int x3)] dX11_count_137 (by decide) rfl rfl ?_
        refine AW.incE 1 (by decide) [some (.ref 101), none, some (.int a3), some (.int (x3 + 1))] dX11_count_138 rfl (by decide) rfl rfl ?_
        refine AW.goto 110 dX11_count_141 (by decide) ?_
        exact ih h
set_option maxRecDepth 100000 in
set_option maxHeartbeats 4000000 in
theorem g_X11_count {G : am_G} (hK : k_OK G) {d : Nat} (hd : 4 ≤ d) {sh : List (Nat ⊕ (Nat × Nat))} {I : g_I} {R : Nat → Nat → Option Nat} {L : Nat → Nat → Int64} {g : Nat} (hm : k_Mod sh R) {x1 : Int32} {r : Int32 × g_I} (h : b_X11_count I x1 = some r) : AM G mX11_count d [.ref 101, .int x1] (sh, I, R, L, g) (fun v w => v = some (.int r.1) ∧ w = (sh, r.2, R, L, g)) (fun _ _ => False) := by
  have hG := hK.1
  refine AM.of (n := 2) (by decide +kernel) (Nat.le_of_ble_eq_true rfl) ?_
  show AW G mX11_count d (fun v w => v = some (.int r.1) ∧ w = (sh, r.2, R, L, g)) (fun _ _ => False) 0 [some (.ref 101), some (.int x1), none, none] [] (sh, I, R, L, g) 0 0
  unfold b_X11_count at h
  refine AW.aload_n dX11_count_0 rfl ?_
  refine AW.iconst 0 dX11_count_1 (by decide) ?_
  refine AW.putI (fX11_159 hG) rfl (vp_nar_int _) rfl (hm.1 0 _ rfl) dX11_count_2 ?_
  obtain ⟨I1, eI1, h⟩ := g_letE h
  refine AW.namIE eI1 ?_
  refine AW.iload_n dX11_count_5 rfl ?_
  by_cases hs6_0 : x1 = 0
  · replace h := g_pos hs6_0 h
    refine AW.tabIn 80 dX11_count_6 (by rw [hs6_0]; decide) (by rw [hs6_0]; decide) (by rw [hs6_0]; rfl) (by decide) ?_
    refine AW.aload_n dX11_count_80 rfl ?_
    refine AW.getR (c' := 104) (fX11_38 hG).r rfl (hm.1 0 _ rfl) (hm.2 (0, 3, 3) (by decide)) dX11_count_81 ?_
    refine AW.iload_n dX11_count_84 rfl ?_
    obtain ⟨hb, h⟩ := g_ifE h
    refine AW.iald (hm.1 3 _ rfl) (g_in_iff.mp hb) dX11_count_85 ?_
    exact AW.iret dX11_count_86 rfl (by decide) (by decide) (by cases h; exact ⟨rfl, rfl⟩)
  replace h := g_neg hs6_0 h
  by_cases hs6_1 : x1 = 1
  · replace h := g_pos hs6_1 h
    refine AW.tabIn 80 dX11_count_6 (by rw [hs6_1]; decide) (by rw [hs6_1]; decide) (by rw [hs6_1]; rfl) (by decide) ?_
    refine AW.aload_n dX11_count_80 rfl ?_
    refine AW.getR (c' := 104) (fX11_38 hG).r rfl (hm.1 0 _ rfl) (hm.2 (0, 3, 3) (by decide)) dX11_count_81 ?_
    refine AW.iload_n dX11_count_84 rfl ?_
    obtain ⟨hb, h⟩ := g_ifE h
    refine AW.iald (hm.1 3 _ rfl) (g_in_iff.mp hb) dX11_count_85 ?_
    exact AW.iret dX11_count_86 rfl (by decide) (by decide) (by cases h; exact ⟨rfl, rfl⟩)
  replace h := g_neg hs6_1 h
  by_cases hs6_2 : x1 = 2
  · replace h := g_pos hs6_2 h
    refine AW.tabIn 87 dX11_count_6 (by rw [hs6_2]; decide) (by rw [hs6_2]; decide) (by rw [hs6_2]; rfl) (by decide) ?_
    refine AW.aload_n dX11_count_87 rfl ?_
    refine AW.getR (c' := 104) (fX11_38 hG).r rfl (hm.1 0 _ rfl) (hm.2 (0, 3, 3) (by decide)) dX11_count_88 ?_
    refine AW.iload_n dX11_count_91 rfl ?_
    refine AW.iconst 1 dX11_count_92 (by decide) ?_
    refine AW.iadd dX11_count_93 ?_
    obtain ⟨hb, h⟩ := g_ifE h
    refine AW.iald (hm.1 3 _ rfl) (g_in_iff.mp hb) dX11_count_94 ?_
    exact AW.iret dX11_count_95 rfl (by decide) (by decide) (by cases h; exact ⟨rfl, rfl⟩)
  replace h := g_neg hs6_2 h
  by_cases hs6_3 : x1 = 3
  · replace h := g_pos hs6_3 h
    refine AW.tabIn 87 dX11_count_6 (by rw [hs6_3]; decide) (by rw [hs6_3]; decide) (by rw [hs6_3]; rfl) (by decide) ?_
    refine AW.aload_n dX11_count_87 rfl ?_
    refine AW.getR (c' := 104) (fX11_38 hG).r rfl (hm.1 0 _ rfl) (hm.2 (0, 3, 3) (by decide)) dX11_count_88 ?_
    refine AW.iload_n dX11_count_91 rfl ?_
    refine AW.iconst 1 dX11_count_92 (by decide) ?_
    refine AW.iadd dX11_count_93 ?_
    obtain ⟨hb, h⟩ := g_ifE h
    refine AW.iald (hm.1 3 _ rfl) (g_in_iff.mp hb) dX11_count_94 ?_
    exact AW.iret dX11_count_95 rfl (by decide) (by decide) (by cases h; exact ⟨rfl, rfl⟩)
  replace h := g_neg hs6_3 h
  by_cases hs6_4 : x1 = 4
  · replace h := g_pos hs6_4 h
    refine AW.tabIn 96 dX11_count_6 (by rw [hs6_4]; decide) (by rw [hs6_4]; decide) (by rw [hs6_4]; rfl) (by decide) ?_
    refine AW.aload_n dX11_count_96 rfl ?_
    refine AW.getI (fX11_321 hG).r rfl (hm.1 0 _ rfl) dX11_count_97 ?_
    exact AW.iret dX11_count_100 rfl (by decide) (by decide) (by cases h; exact ⟨rfl, rfl⟩)
  replace h := g_neg hs6_4 h
  by_cases hs6_5 : x1 = 5
  · replace h := g_pos hs6_5 h
    refine AW.tabIn 101 dX11_count_6 (by rw [hs6_5]; decide) (by rw [hs6_5]; decide) (by rw [hs6_5]; rfl) (by decide) ?_
    refine AW.aload_n dX11_count_101 rfl ?_
    refine AW.getI (fX11_324 hG).r rfl (hm.1 0 _ rfl) dX11_count_102 ?_
    exact AW.iret dX11_count_105 rfl (by decide) (by decide) (by cases h; exact ⟨rfl, rfl⟩)
  replace h := g_neg hs6_5 h
  by_cases hs6_6 : x1 = 6
  · replace h := g_pos hs6_6 h
    refine AW.tabIn 106 dX11_count_6 (by rw [hs6_6]; decide) (by rw [hs6_6]; decide) (by rw [hs6_6]; rfl) (by decide) ?_
    refine AW.iconst 0 dX11_count_106 (by decide) ?_
    refine AW.is_n [some (.ref 101), some (.int x1), some (.int 0), none] dX11_count_107 (by decide) rfl rfl ?_
    refine AW.iconst 0 dX11_count_108 (by decide) ?_
    refine AW.is_n [some (.ref 101), some (.int x1), some (.int 0), some (.int 0)] dX11_count_109 (by decide) rfl rfl ?_
    refine AW.mask [1] [some (.ref 101), none, some (.int 0), some (.int 0)] rfl ?_
    refine gL_X11_count_110 hK hd hm h (fun a4 h => ?_)
    refine AW.iload_n dX11_count_144 rfl ?_
    exact AW.iret dX11_count_145 rfl (by decide) (by decide) (by cases h; exact ⟨rfl, rfl⟩)
  replace h := g_neg hs6_6 h
  by_cases hs6_7 : x1 = 7
  · replace h := g_pos hs6_7 h
    refine AW.tabIn 146 dX11_count_6 (by rw [hs6_7]; decide) (by rw [hs6_7]; decide) (by rw [hs6_7]; rfl) (by decide) ?_
    refine AW.aload_n dX11_count_146 rfl ?_
    obtain ⟨a5, hx7, h⟩ := g_bindE h
    refine AW.callV (b := 101) (As := []) hG.2.2 (vX11_386 hG) (hm.1 0 _ rfl) (g_X11_knownBoth hK (d := 3) (Nat.le_refl _) hm hx7) (by omega) dX11_count_147 rfl rfl (Nat.le_of_ble_eq_true rfl) (fun v w9 hq9 h09 => by obtain ⟨rfl, rfl⟩ := hq9; exact ⟨h09, rfl⟩) (by decide) (by decide) (fun _ _ hx => hx) (fun v9 w9 hq9 => ?_)
    obtain ⟨rfl, rfl⟩ := hq9
    show AW G _ d _ _ 150 [some (.ref 101), some (.int x1), none, none] [.int a5] (sh, I1, R, L, g) 0 0
    exact AW.iret dX11_count_150 rfl (by decide) (by decide) (by cases h; exact ⟨rfl, rfl⟩)
  replace h := g_neg hs6_7 h
  by_cases hs6_8 : x1 = 8
  · replace h := g_pos hs6_8 h
    refine AW.tabIn 151 dX11_count_6 (by rw [hs6_8]; decide) (by rw [hs6_8]; decide) (by rw [hs6_8]; rfl) (by decide) ?_
    refine AW.aload_n dX11_count_151 rfl ?_
    refine AW.getI (fX11_327 hG).r rfl (hm.1 0 _ rfl) dX11_count_152 ?_
    exact AW.iret dX11_count_155 rfl (by decide) (by decide) (by cases h; exact ⟨rfl, rfl⟩)
  replace h := g_neg hs6_8 h
  by_cases hs6_9 : x1 = 9
  · replace h := g_pos hs6_9 h
    refine AW.tabIn 156 dX11_count_6 (by rw [hs6_9]; decide) (by rw [hs6_9]; decide) (by rw [hs6_9]; rfl) (by decide) ?_
    refine AW.aload_n dX11_count_156 rfl ?_
    refine AW.getI (fX11_330 hG).r rfl (hm.1 0 _ rfl) dX11_count_157 ?_
    exact AW.iret dX11_count_160 rfl (by decide) (by decide) (by cases h; exact ⟨rfl, rfl⟩)
  replace h := g_neg hs6_9 h
  by_cases hs6_10 : x1 = 10
  · replace h := g_pos hs6_10 h
    refine AW.tabIn 161 dX11_count_6 (by rw [hs6_10]; decide) (by rw [hs6_10]; decide) (by rw [hs6_10]; rfl) (by decide) ?_
    refine AW.aload_n dX11_count_161 rfl ?_
    refine AW.getI (fX11_333 hG).r rfl (hm.1 0 _ rfl) dX11_count_162 ?_
    exact AW.iret dX11_count_165 rfl (by decide) (by decide) (by cases h; exact ⟨rfl, rfl⟩)
  replace h := g_neg hs6_10 h
  by_cases hs6_11 : x1 = 11
  · replace h := g_pos hs6_11 h
    refine AW.tabIn 166 dX11_count_6 (by rw [hs6_11]; decide) (by rw [hs6_11]; decide) (by rw [hs6_11]; rfl) (by decide) ?_
    refine AW.aload_n dX11_count_166 rfl ?_
    refine AW.getI (fX11_166 hG).r rfl (hm.1 0 _ rfl) dX11_count_167 ?_
    exact AW.iret dX11_count_170 rfl (by decide) (by decide) (by cases h; exact ⟨rfl, rfl⟩)
  replace h := g_neg hs6_11 h
  by_cases hs6_12 : x1 = 12
  · replace h := g_pos hs6_12 h
    refine AW.tabIn 171 dX11_count_6 (by rw [hs6_12]; decide) (by rw [hs6_12]; decide) (by rw [hs6_12]; rfl) (by decide) ?_
    refine AW.aload_n dX11_count_171 rfl ?_
    refine AW.getR (c' := 116) (fX11_73 hG).r rfl (hm.1 0 _ rfl) (hm.2 (0, 15, 15) (by decide)) dX11_count_172 ?_
    refine AW.iload_n dX11_count_175 rfl ?_
    refine AW.bipush 12 dX11_count_176 (by decide) ?_
    refine AW.isub dX11_count_178 ?_
    obtain ⟨hb, h⟩ := g_ifE h
    refine AW.iald (hm.1 15 _ rfl) (g_in_iff.mp hb) dX11_count_179 ?_
    exact AW.iret dX11_count_180 rfl (by decide) (by decide) (by cases h; exact ⟨rfl, rfl⟩)
  replace h := g_neg hs6_12 h
  by_cases hs6_13 : x1 = 13
  · replace h := g_pos hs6_13 h
    refine AW.tabIn 171 dX11_count_6 (by rw [hs6_13]; decide) (by rw [hs6_13]; decide) (by rw [hs6_13]; rfl) (by decide) ?_
    refine AW.aload_n dX11_count_171 rfl ?_
    refine AW.getR (c' := 116) (fX11_73 hG).r rfl (hm.1 0 _ rfl) (hm.2 (0, 15, 15) (by decide)) dX11_count_172 ?_
    refine AW.iload_n dX11_count_175 rfl ?_
    refine AW.bipush 12 dX11_count_176 (by decide) ?_
    refine AW.isub dX11_count_178 ?_
    obtain ⟨hb, h⟩ := g_ifE h
    refine AW.iald (hm.1 15 _ rfl) (g_in_iff.mp hb) dX11_count_179 ?_
    exact AW.iret dX11_count_180 rfl (by decide) (by decide) (by cases h; exact ⟨rfl, rfl⟩)
  replace h := g_neg hs6_13 h
  by_cases hs6_14 : x1 = 14
  · replace h := g_pos hs6_14 h
    refine AW.tabIn 171 dX11_count_6 (by rw [hs6_14]; decide) (by rw [hs6_14]; decide) (by rw [hs6_14]; rfl) (by decide) ?_
    refine AW.aload_n dX11_count_171 rfl ?_
    refine AW.getR (c' := 116) (fX11_73 hG).r rfl (hm.1 0 _ rfl) (hm.2 (0, 15, 15) (by decide)) dX11_count_172 ?_
    refine AW.iload_n dX11_count_175 rfl ?_
    refine AW.bipush 12 dX11_count_176 (by decide) ?_
    refine AW.isub dX11_count_178 ?_
    obtain ⟨hb, h⟩ := g_ifE h
    refine AW.iald (hm.1 15 _ rfl) (g_in_iff.mp hb) dX11_count_179 ?_
    exact AW.iret dX11_count_180 rfl (by decide) (by decide) (by cases h; exact ⟨rfl, rfl⟩)
  replace h := g_neg hs6_14 h
  have ht6 : x1.toInt < 0 ∨ 14 < x1.toInt := by
    have h90 : ¬ x1.toInt = 0 := fun h => hs6_0 (Int32.toInt_inj.mp (h.trans (by decide)))
    have h91 : ¬ x1.toInt = 1 := fun h => hs6_1 (Int32.toInt_inj.mp (h.trans (by decide)))
    have h92 : ¬ x1.toInt = 2 := fun h => hs6_2 (Int32.toInt_inj.mp (h.trans (by decide)))
    have h93 : ¬ x1.toInt = 3 := fun h => hs6_3 (Int32.toInt_inj.mp (h.trans (by decide)))
    have h94 : ¬ x1.toInt = 4 := fun h => hs6_4 (Int32.toInt_inj.mp (h.trans (by decide)))
    have h95 : ¬ x1.toInt = 5 := fun h => hs6_5 (Int32.toInt_inj.mp (h.trans (by decide)))
    have h96 : ¬ x1.toInt = 6 := fun h => hs6_6 (Int32.toInt_inj.mp (h.trans (by decide)))
    have h97 : ¬ x1.toInt = 7 := fun h => hs6_7 (Int32.toInt_inj.mp (h.trans (by decide)))
    have h98 : ¬ x1.toInt = 8 := fun h => hs6_8 (Int32.toInt_inj.mp (h.trans (by decide)))
    have h99 : ¬ x1.toInt = 9 := fun h => hs6_9 (Int32.toInt_inj.mp (h.trans (by decide)))
    have h910 : ¬ x1.toInt = 10 := fun h => hs6_10 (Int32.toInt_inj.mp (h.trans (by decide)))
    have h911 : ¬ x1.toInt = 11 := fun h => hs6_11 (Int32.toInt_inj.mp (h.trans (by decide)))
    have h912 : ¬ x1.toInt = 12 := fun h => hs6_12 (Int32.toInt_inj.mp (h.trans (by decide)))
    have h913 : ¬ x1.toInt = 13 := fun h => hs6_13 (Int32.toInt_inj.mp (h.trans (by decide)))
    have h914 : ¬ x1.toInt = 14 := fun h => hs6_14 (Int32.toInt_inj.mp (h.trans (by decide)))
    omega
  refine AW.tabOut 181 dX11_count_6 ht6 (by decide) ?_
  refine AW.aload_n dX11_count_181 rfl ?_
  refine AW.iconst 1 dX11_count_182 (by decide) ?_
  obtain ⟨a8, I9, hx10, h⟩ := g_bind2E h
  refine AW.callV (b := 101) (As := [.int 1]) hG.2.2 (vX11_307 hG) (hm.1 0 _ rfl) (g_X11_fail hK (d := 0) (Nat.le_refl _) hm hx10) (by omega) dX11_count_183 rfl rfl (Nat.le_of_ble_eq_true rfl) (fun v w9 hq9 h09 => by obtain ⟨rfl, rfl⟩ := hq9; exact ⟨h09, rfl⟩) (by decide) (by decide) (fun _ _ hx => hx) (fun v9 w9 hq9 => ?_)
  obtain ⟨rfl, rfl⟩ := hq9
  show AW G _ d _ _ 186 [some (.ref 101), some (.int x1), none, none] [.int a8] (sh, I9, R, L, g) 0 0
  exact AW.iret dX11_count_186 rfl (by decide) (by decide) (by cases h; exact ⟨rfl, rfl⟩)
theorem dX11_person_0 : decode cX11_person 0 = .ok (.aload_n 0, 1) := by decide +kernel
theorem dX11_person_1 : decode cX11_person 1 = .ok (.iconst 0, 1) := by decide +kernel
theorem dX11_person_2 : decode cX11_person 2 = .ok (.putfield 159, 3) := by decide +kernel
theorem dX11_person_5 : decode cX11_person 5 = .ok (.aload_n 0, 1) := by decide +kernel
theorem dX11_person_6 : decode cX11_person 6 = .ok (.iload_n 1, 1) := by decide +kernel
theorem dX11_person_7 : decode cX11_person 7 = .ok (.invokevirtual 389, 3) := by decide +kernel
theorem dX11_person_10 : decode cX11_person 10 = .ok (.ifCond .ne 9, 3) := by decide +kernel
theorem dX11_person_13 : decode cX11_person 13 = .ok (.aload_n 0, 1) := by decide +kernel
theorem dX11_person_14 : decode cX11_person 14 = .ok (.iconst 1, 1) := by decide +kernel
theorem dX11_person_15 : decode cX11_person 15 = .ok (.invokevirtual 307, 3) := by decide +kernel
theorem dX11_person_18 : decode cX11_person 18 = .ok (.ireturn, 1) := by decide +kernel
theorem dX11_person_19 : decode cX11_person 19 = .ok (.iload_n 2, 1) := by decide +kernel
theorem dX11_person_20 : decode cX11_person 20 = .ok (.tableswitch 121 0 5 #[40, 47, 54, 61, 67, 74], 40) := by decide +kernel
theorem dX11_person_60 : decode cX11_person 60 = .ok (.aload_n 0, 1) := by decide +kernel
theorem dX11_person_61 : decode cX11_person 61 = .ok (.getfield 42, 3) := by decide +kernel
theorem dX11_person_64 : decode cX11_person 64 = .ok (.iload_n 1, 1) := by decide +kernel
theorem dX11_person_65 : decode cX11_person 65 = .ok (.iaload, 1) := by decide +kernel
theorem dX11_person_66 : decode cX11_person 66 = .ok (.ireturn, 1) := by decide +kernel
theorem dX11_person_67 : decode cX11_person 67 = .ok (.aload_n 0, 1) := by decide +kernel
theorem dX11_person_68 : decode cX11_person 68 = .ok (.getfield 44, 3) := by decide +kernel
theorem dX11_person_71 : decode cX11_person 71 = .ok (.iload_n 1, 1) := by decide +kernel
theorem dX11_person_72 : decode cX11_person 72 = .ok (.iaload, 1) := by decide +kernel
theorem dX11_person_73 : decode cX11_person 73 = .ok (.ireturn, 1) := by decide +kernel
theorem dX11_person_74 : decode cX11_person 74 = .ok (.aload_n 0, 1) := by decide +kernel
theorem dX11_person_75 : decode cX11_person 75 = .ok (.getfield 47, 3) := by decide +kernel
theorem dX11_person_78 : decode cX11_person 78 = .ok (.iload_n 1, 1) := by decide +kernel
theorem dX11_person_79 : decode cX11_person 79 = .ok (.iaload, 1) := by decide +kernel
theorem dX11_person_80 : decode cX11_person 80 = .ok (.ireturn, 1) := by decide +kernel
theorem dX11_person_81 : decode cX11_person 81 = .ok (.aload_n 0, 1) := by decide +kernel
theorem dX11_person_82 : decode cX11_person 82 = .ok (.iload_n 1, 1) := by decide +kernel
theorem dX11_person_83 : decode cX11_person 83 = .ok (.invokevirtual 343, 3) := by decide +kernel
theorem dX11_person_86 : decode cX11_person 86 = .ok (.ireturn, 1) := by decide +kernel
theorem dX11_person_87 : decode cX11_person 87 = .ok (.aload_n 0, 1) := by decide +kernel
theorem dX11_person_88 : decode cX11_person 88 = .ok (.getfield 86, 3) := by decide +kernel
theorem dX11_person_91 : decode cX11_person 91 = .ok (.iload_n 1, 1) := by decide +kernel
theorem dX11_person_92 : decode cX11_person 92 = .ok (.iaload, 1) := by decide +kernel
theorem dX11_person_93 : decode cX11_person 93 = .ok (.ireturn, 1) := by decide +kernel
theorem dX11_person_94 : decode cX11_person 94 = .ok (.iconst 0, 1) := by decide +kernel
theorem dX11_person_95 : decode cX11_person 95 = .ok (.istore_n 3, 1) := by decide +kernel
theorem dX11_person_96 : decode cX11_person 96 = .ok (.iconst 0, 1) := by decide +kernel
theorem dX11_person_97 : decode cX11_person 97 = .ok (.istore 4, 2) := by decide +kernel
theorem dX11_person_99 : decode cX11_person 99 = .ok (.iload 4, 2) := by decide +kernel
theorem dX11_person_101 : decode cX11_person 101 = .ok (.aload_n 0, 1) := by decide +kernel
theorem dX11_person_102 : decode cX11_person 102 = .ok (.getfield 38, 3) := by decide +kernel
theorem dX11_person_105 : decode cX11_person 105 = .ok (.iconst 0, 1) := by decide +kernel
theorem dX11_person_106 : decode cX11_person 106 = .ok (.iaload, 1) := by decide +kernel
theorem dX11_person_107 : decode cX11_person 107 = .ok (.if_icmp .ge 32, 3) := by decide +kernel
theorem dX11_person_110 : decode cX11_person 110 = .ok (.iload 4, 2) := by decide +kernel
theorem dX11_person_112 : decode cX11_person 112 = .ok (.iload_n 1, 1) := by decide +kernel
theorem dX11_person_113 : decode cX11_person 113 = .ok (.if_icmp .eq 20, 3) := by decide +kernel
theorem dX11_person_116 : decode cX11_person 116 = .ok (.aload_n 0, 1) := by decide +kernel
theorem dX11_person_117 : decode cX11_person 117 = .ok (.iload_n 1, 1) := by decide +kernel
theorem dX11_person_118 : decode cX11_person 118 = .ok (.iload 4, 2) := by decide +kernel
theorem dX11_person_120 : decode cX11_person 120 = .ok (.invokevirtual 349, 3) := by decide +kernel
theorem dX11_person_123 : decode cX11_person 123 = .ok (.ifCond .eq 10, 3) := by decide +kernel
theorem dX11_person_126 : decode cX11_person 126 = .ok (.iload_n 3, 1) := by decide +kernel
theorem dX11_person_127 : decode cX11_person 127 = .ok (.iconst 1, 1) := by decide +kernel
theorem dX11_person_128 : decode cX11_person 128 = .ok (.iload 4, 2) := by decide +kernel
theorem dX11_person_130 : decode cX11_person 130 = .ok (.ishl, 1) := by decide +kernel
theorem dX11_person_131 : decode cX11_person 131 = .ok (.ior, 1) := by decide +kernel
theorem dX11_person_132 : decode cX11_person 132 = .ok (.istore_n 3, 1) := by decide +kernel
theorem dX11_person_133 : decode cX11_person 133 = .ok (.iinc 4 1, 3) := by decide +kernel
theorem dX11_person_136 : decode cX11_person 136 = .ok (.goto (-37), 3) := by decide +kernel
theorem dX11_person_139 : decode cX11_person 139 = .ok (.iload_n 3, 1) := by decide +kernel
theorem dX11_person_140 : decode cX11_person 140 = .ok (.ireturn, 1) := by decide +kernel
theorem dX11_person_141 : decode cX11_person 141 = .ok (.aload_n 0, 1) := by decide +kernel
theorem dX11_person_142 : decode cX11_person 142 = .ok (.iconst 1, 1) := by decide +kernel
theorem dX11_person_143 : decode cX11_person 143 = .ok (.invokevirtual 307, 3) := by decide +kernel
theorem dX11_person_146 : decode cX11_person 146 = .ok (.ireturn, 1) := by decide +kernel
def b_X11_person_L99 (I : g_I) (y1 : Int32) (K : Int32 → Option (Int32 × g_I)) : Nat → Int32 → Int32 → Option (Int32 × g_I)
  | 0, _, _ => none
  | f + 1, x3, x4 => if (I 104 0) ≤ x4 then K x3 else if x4 = y1 then b_X11_person_L99 I y1 K f x3 (x4 + 1) else g_bind (b_X11_isKnown I y1 x4) fun t5 => if t5 = true then g_let (x3 ||| ((1 : Int32) <<< (x4 &&& 31))) fun a8 => b_X11_person_L99 I y1 K f a8 (x4 + 1) else b_X11_person_L99 I y1 K f x3 (x4 + 1)
def b_X11_person (I : g_I) (x1 : Int32) (x2 : Int32) : Option (Int32 × g_I) :=
  g_let (am_up I 101 2 0) fun I1 => if b_X11_isPerson I1 x1 = true then if x2 = 0 then if g_in x1 16 = true then some (I1 105 x1.toNatClampNeg, I1) else none else if x2 = 1 then if g_in x1 16 = true then some (I1 106 x1.toNatClampNeg, I1) else none else if x2 = 2 then if g_in x1 16 = true then some (I1 107 x1.toNatClampNeg, I1) else none else if x2 = 3 then g_bind (b_X11_twinOf I1 x1) fun a2 => some (a2, I1) else if x2 = 4 then if g_in x1 8 = true then some (I1 119 x1.toNatClampNeg, I1) else none else if x2 = 5 then b_X11_person_L99 I1 x1 (fun (a9 : Int32) => some (a9, I1)) fu 0 0 else g_bind2 (b_X11_fail I1 1) fun a10 I11 => some (a10, I11) else g_bind2 (b_X11_fail I1 1) fun a13 I14 => some (a13, I14)
set_option maxRecDepth 100000 in
set_option maxHeartbeats 4000000 in
theorem gL_X11_person_99 {G : am_G} (hK : k_OK G) {d : Nat} (hd : 3 ≤ d) {sh : List (Nat ⊕ (Nat × Nat))} {I : g_I} {R : Nat → Nat → Option Nat} {L : Nat → Nat → Int64} {g : Nat} (hm : k_Mod sh R) {y1 : Int32} {K : Int32 → Option (Int32 × g_I)} {x3 : Int32} {x4 : Int32} {f : Nat} {r : Int32 × g_I} (h : b_X11_person_L99 I y1 K f x3 x4 = some r) (hk : ∀ (u3 : Int32), K u3 = some r → AW G mX11_person d (fun v w => v = some (.int r.1) ∧ w = (sh, r.2, R, L, g)) (fun _ _ => False) 139 [none, none, none, some (.int u3), none] [] (sh, I, R, L, g) 0 0) : AW G mX11_person d (fun v w => v = some (.int r.1) ∧ w = (sh, r.2, R, L, g)) (fun _ _ => False) 99 [some (.ref 101), some (.int y1), none, some (.int x3), some (.int x4)] [] (sh, I, R, L, g) 0 0 := by
  have hG := hK.1
  induction f generalizing x3 x4 with
  | zero => rw [b_X11_person_L99] at h; cases h
  | succ f ih =>
    rw [b_X11_person_L99] at h
    refine AW.iload dX11_person_99 rfl ?_
    refine AW.aload_n dX11_person_101 rfl ?_
    refine AW.getR (c' := 104) (fX11_38 hG).r rfl (hm.1 0 _ rfl) (hm.2 (0, 3, 3) (by decide)) dX11_person_102 ?_
    refine AW.iconst 0 dX11_person_105 (by decide) ?_
    refine AW.iald (hm.1 3 _ rfl) (by unfold vp_in; decide) dX11_person_106 ?_
    show AW G _ d _ _ 107 [some (.ref 101), some (.int y1), none, some (.int x3), some (.int x4)] [.int (I 104 0), .int x4] (sh, I, R, L, g) 0 0
    refine AW.icmp_ge 139 dX11_person_107 (by decide) (fun hc107 => ?_) (fun hc107 => ?_)
    · replace h := g_pos hc107 h
      refine AW.mask [0, 1, 4] [none, none, none, some (.int x3), none] rfl ?_
      exact hk _ h
    · replace h := g_neg hc107 h
      refine AW.iload dX11_person_110 rfl ?_
      refine AW.iload_n dX11_person_112 rfl ?_
      refine AW.icmp_eq 133 dX11_person_113 (by decide) (fun hc113 => ?_) (fun hc113 => ?_)
      · replace h := g_pos hc113 h
        refine AW.incE 1 (by decide) [some (.ref 101), some (.int y1), none, some (.int x3), some (.int (x4 + 1))] dX11_person_133 rfl (by decide) rfl rfl ?_
        refine AW.goto 99 dX11_person_136 (by decide) ?_
        exact ih h
      · replace h := g_neg hc113 h
        refine AW.aload_n dX11_person_116 rfl ?_
        refine AW.iload_n dX11_person_117 rfl ?_
        refine AW.iload dX11_person_118 rfl ?_
        obtain ⟨t5, hx7, h⟩ := g_bindE h
        refine AW.callV (b := 101) (As := [.int y1, .int x4]) hG.2.2 (vX11_349 hG) (hm.1 0 _ rfl) (g_X11_isKnown hK (d := 2) (Nat.le_refl _) hm hx7) (by omega) dX11_person_120 rfl rfl (Nat.le_of_ble_eq_true rfl) (fun v w9 hq9 h09 => by obtain ⟨rfl, rfl⟩ := hq9; exact ⟨h09, rfl⟩) (by decide) (by decide) (fun _ _ hx => hx) (fun v9 w9 hq9 => ?_)
        obtain ⟨rfl, rfl⟩ := hq9
        show AW G _ d _ _ 123 [some (.ref 101), some (.int y1), none, some (.int x3), some (.int x4)] [.int (kb t5)] (sh, I, R, L, g) 0 0
        refine AW.if_eq 133 dX11_person_123 (by decide) (fun hc123 => ?_) (fun hc123 => ?_)
        · replace h := g_neg (g_kb0 hc123) h
          refine AW.incE 1 (by decide) [some (.ref 101), some (.int y1), none, some (.int x3), some (.int (x4 + 1))] dX11_person_133 rfl (by decide) rfl rfl ?_
          refine AW.goto 99 dX11_person_136 (by decide) ?_
          exact ih h
        · replace h := g_pos (kb_1.mp hc123) h
          refine AW.iload_n dX11_person_126 rfl ?_
          refine AW.iconst 1 dX11_person_127 (by decide) ?_
          refine AW.iload dX11_person_128 rfl ?_
          refine AW.ishl dX11_person_130 ?_
          refine AW.ior dX11_person_131 ?_
          obtain ⟨a8, ea8, h⟩ := g_letE h
          refine AW.namE ea8 ?_
          refine AW.is_n [some (.ref 101), some (.int y1), none, some (.int a8), some (.int x4)] dX11_person_132 (by decide) rfl rfl ?_
          refine AW.incE 1 (by decide) [some (.ref 101), some (.int y1), none, some (.int a8), some (.int (x4 + 1))] dX11_person_133 rfl (by decide) rfl rfl ?_
          refine AW.goto 99 dX11_person_136 (by decide) ?_
          exact ih h
set_option maxRecDepth 100000 in
set_option maxHeartbeats 4000000 in
theorem g_X11_person {G : am_G} (hK : k_OK G) {d : Nat} (hd : 3 ≤ d) {sh : List (Nat ⊕ (Nat × Nat))} {I : g_I} {R : Nat → Nat → Option Nat} {L : Nat → Nat → Int64} {g : Nat} (hm : k_Mod sh R) {x1 : Int32} {x2 : Int32} {r : Int32 × g_I} (h : b_X11_person I x1 x2 = some r) : AM G mX11_person d [.ref 101, .int x1, .int x2] (sh, I, R, L, g) (fun v w => v = some (.int r.1) ∧ w = (sh, r.2, R, L, g)) (fun _ _ => False) := by
  have hG := hK.1
  refine AM.of (n := 2) (by decide +kernel) (Nat.le_of_ble_eq_true rfl) ?_
  show AW G mX11_person d (fun v w => v = some (.int r.1) ∧ w = (sh, r.2, R, L, g)) (fun _ _ => False) 0 [some (.ref 101), some (.int x1), some (.int x2), none, none] [] (sh, I, R, L, g) 0 0
  unfold b_X11_person at h
  refine AW.aload_n dX11_person_0 rfl ?_
  refine AW.iconst 0 dX11_person_1 (by decide) ?_
  refine AW.putI (fX11_159 hG) rfl (vp_nar_int _) rfl (hm.1 0 _ rfl) dX11_person_2 ?_
  obtain ⟨I1, eI1, h⟩ := g_letE h
  refine AW.namIE eI1 ?_
  refine AW.aload_n dX11_person_5 rfl ?_
  refine AW.iload_n dX11_person_6 rfl ?_
  refine AW.callV (b := 101) (As := [.int x1]) hG.2.2 (vX11_389 hG) (hm.1 0 _ rfl) (g_X11_isPerson hK (d := 1) (Nat.le_refl _) hm) (by omega) dX11_person_7 rfl rfl (Nat.le_of_ble_eq_true rfl) (fun v w9 hq9 h09 => by obtain ⟨rfl, rfl⟩ := hq9; exact ⟨h09, rfl⟩) (by decide) (by decide) (fun _ _ hx => hx) (fun v9 w9 hq9 => ?_)
  obtain ⟨rfl, rfl⟩ := hq9
  show AW G _ d _ _ 10 [some (.ref 101), some (.int x1), some (.int x2), none, none] [.int (kb (b_X11_isPerson I1 x1))] (sh, I1, R, L, g) 0 0
  refine AW.if_ne 19 dX11_person_10 (by decide) (fun hc10 => ?_) (fun hc10 => ?_)
  · replace h := g_pos (kb_1.mp hc10) h
    refine AW.iload_n dX11_person_19 rfl ?_
    by_cases hs20_0 : x2 = 0
    · replace h := g_pos hs20_0 h
      refine AW.tabIn 60 dX11_person_20 (by rw [hs20_0]; decide) (by rw [hs20_0]; decide) (by rw [hs20_0]; rfl) (by decide) ?_
      refine AW.aload_n dX11_person_60 rfl ?_
      refine AW.getR (c' := 105) (fX11_42 hG).r rfl (hm.1 0 _ rfl) (hm.2 (0, 4, 4) (by decide)) dX11_person_61 ?_
      refine AW.iload_n dX11_person_64 rfl ?_
      obtain ⟨hb, h⟩ := g_ifE h
      refine AW.iald (hm.1 4 _ rfl) (g_in_iff.mp hb) dX11_person_65 ?_
      exact AW.iret dX11_person_66 rfl (by decide) (by decide) (by cases h; exact ⟨rfl, rfl⟩)
    replace h := g_neg hs20_0 h
    by_cases hs20_1 : x2 = 1
    · replace h := g_pos hs20_1 h
      refine AW.tabIn 67 dX11_person_20 (by rw [hs20_1]; decide) (by rw [hs20_1]; decide) (by rw [hs20_1]; rfl) (by decide) ?_
      refine AW.aload_n dX11_person_67 rfl ?_
      refine AW.getR (c' := 106) (fX11_44 hG).r rfl (hm.1 0 _ rfl) (hm.2 (0, 5, 5) (by decide)) dX11_person_68 ?_
      refine AW.iload_n dX11_person_71 rfl ?_
      obtain ⟨hb, h⟩ := g_ifE h
      refine AW.iald (hm.1 5 _ rfl) (g_in_iff.mp hb) dX11_person_72 ?_
      exact AW.iret dX11_person_73 rfl (by decide) (by decide) (by cases h; exact ⟨rfl, rfl⟩)
    replace h := g_neg hs20_1 h
    by_cases hs20_2 : x2 = 2
    · replace h := g_pos hs20_2 h
      refine AW.tabIn 74 dX11_person_20 (by rw [hs20_2]; decide) (by rw [hs20_2]; decide) (by rw [hs20_2]; rfl) (by decide) ?_
      refine AW.aload_n dX11_person_74 rfl ?_
      refine AW.getR (c' := 107) (fX11_47 hG).r rfl (hm.1 0 _ rfl) (hm.2 (0, 6, 6) (by decide)) dX11_person_75 ?_
      refine AW.iload_n dX11_person_78 rfl ?_
      obtain ⟨hb, h⟩ := g_ifE h
      refine AW.iald (hm.1 6 _ rfl) (g_in_iff.mp hb) dX11_person_79 ?_
      exact AW.iret dX11_person_80 rfl (by decide) (by decide) (by cases h; exact ⟨rfl, rfl⟩)
    replace h := g_neg hs20_2 h
    by_cases hs20_3 : x2 = 3
    · replace h := g_pos hs20_3 h
      refine AW.tabIn 81 dX11_person_20 (by rw [hs20_3]; decide) (by rw [hs20_3]; decide) (by rw [hs20_3]; rfl) (by decide) ?_
      refine AW.aload_n dX11_person_81 rfl ?_
      refine AW.iload_n dX11_person_82 rfl ?_
      obtain ⟨a2, hx4, h⟩ := g_bindE h
      refine AW.callV (b := 101) (As := [.int x1]) hG.2.2 (vX11_343 hG) (hm.1 0 _ rfl) (g_X11_twinOf hK (d := 0) (Nat.le_refl _) hm hx4) (by omega) dX11_person_83 rfl rfl (Nat.le_of_ble_eq_true rfl) (fun v w9 hq9 h09 => by obtain ⟨rfl, rfl⟩ := hq9; exact ⟨h09, rfl⟩) (by decide) (by decide) (fun _ _ hx => hx) (fun v9 w9 hq9 => ?_)
      obtain ⟨rfl, rfl⟩ := hq9
      show AW G _ d _ _ 86 [some (.ref 101), some (.int x1), some (.int x2), none, none] [.int a2] (sh, I1, R, L, g) 0 0
      exact AW.iret dX11_person_86 rfl (by decide) (by decide) (by cases h; exact ⟨rfl, rfl⟩)
    replace h := g_neg hs20_3 h
    by_cases hs20_4 : x2 = 4
    · replace h := g_pos hs20_4 h
      refine AW.tabIn 87 dX11_person_20 (by rw [hs20_4]; decide) (by rw [hs20_4]; decide) (by rw [hs20_4]; rfl) (by decide) ?_
      refine AW.aload_n dX11_person_87 rfl ?_
      refine AW.getR (c' := 119) (fX11_86 hG).r rfl (hm.1 0 _ rfl) (hm.2 (0, 28, 18) (by decide)) dX11_person_88 ?_
      refine AW.iload_n dX11_person_91 rfl ?_
      obtain ⟨hb, h⟩ := g_ifE h
      refine AW.iald (hm.1 18 _ rfl) (g_in_iff.mp hb) dX11_person_92 ?_
      exact AW.iret dX11_person_93 rfl (by decide) (by decide) (by cases h; exact ⟨rfl, rfl⟩)
    replace h := g_neg hs20_4 h
    by_cases hs20_5 : x2 = 5
    · replace h := g_pos hs20_5 h
      refine AW.tabIn 94 dX11_person_20 (by rw [hs20_5]; decide) (by rw [hs20_5]; decide) (by rw [hs20_5]; rfl) (by decide) ?_
      refine AW.iconst 0 dX11_person_94 (by decide) ?_
      refine AW.is_n [some (.ref 101), some (.int x1), some (.int x2), some (.int 0), none] dX11_person_95 (by decide) rfl rfl ?_
      refine AW.iconst 0 dX11_person_96 (by decide) ?_
      refine AW.is [some (.ref 101), some (.int x1), some (.int x2), some (.int 0), some (.int 0)] dX11_person_97 (by decide) rfl rfl ?_
      refine AW.mask [2] [some (.ref 101), some (.int x1), none, some (.int 0), some (.int 0)] rfl ?_
      refine gL_X11_person_99 hK hd hm h (fun a9 h => ?_)
      refine AW.iload_n dX11_person_139 rfl ?_
      exact AW.iret dX11_person_140 rfl (by decide) (by decide) (by cases h; exact ⟨rfl, rfl⟩)
    replace h := g_neg hs20_5 h
    have ht20 : x2.toInt < 0 ∨ 5 < x2.toInt := by
      have h90 : ¬ x2.toInt = 0 := fun h => hs20_0 (Int32.toInt_inj.mp (h.trans (by decide)))
      have h91 : ¬ x2.toInt = 1 := fun h => hs20_1 (Int32.toInt_inj.mp (h.trans (by decide)))
      have h92 : ¬ x2.toInt = 2 := fun h => hs20_2 (Int32.toInt_inj.mp (h.trans (by decide)))
      have h93 : ¬ x2.toInt = 3 := fun h => hs20_3 (Int32.toInt_inj.mp (h.trans (by decide)))
      have h94 : ¬ x2.toInt = 4 := fun h => hs20_4 (Int32.toInt_inj.mp (h.trans (by decide)))
      have h95 : ¬ x2.toInt = 5 := fun h => hs20_5 (Int32.toInt_inj.mp (h.trans (by decide)))
      omega
    refine AW.tabOut 141 dX11_person_20 ht20 (by decide) ?_
    refine AW.aload_n dX11_person_141 rfl ?_
    refine AW.iconst 1 dX11_person_142 (by decide) ?_
    obtain ⟨a10, I11, hx12, h⟩ := g_bind2E h
    refine AW.callV (b := 101) (As := [.int 1]) hG.2.2 (vX11_307 hG) (hm.1 0 _ rfl) (g_X11_fail hK (d := 0) (Nat.le_refl _) hm hx12) (by omega) dX11_person_143 rfl rfl (Nat.le_of_ble_eq_true rfl) (fun v w9 hq9 h09 => by obtain ⟨rfl, rfl⟩ := hq9; exact ⟨h09, rfl⟩) (by decide) (by decide) (fun _ _ hx => hx) (fun v9 w9 hq9 => ?_)
    obtain ⟨rfl, rfl⟩ := hq9
    show AW G _ d _ _ 146 [some (.ref 101), some (.int x1), some (.int x2), none, none] [.int a10] (sh, I11, R, L, g) 0 0
    exact AW.iret dX11_person_146 rfl (by decide) (by decide) (by cases h; exact ⟨rfl, rfl⟩)
  · replace h := g_neg (g_kb0 hc10) h
    refine AW.aload_n dX11_person_13 rfl ?_
    refine AW.iconst 1 dX11_person_14 (by decide) ?_
    obtain ⟨a13, I14, hx15, h⟩ := g_bind2E h
    refine AW.callV (b := 101) (As := [.int 1]) hG.2.2 (vX11_307 hG) (hm.1 0 _ rfl) (g_X11_fail hK (d := 0) (Nat.le_refl _) hm hx15) (by omega) dX11_person_15 rfl rfl (Nat.le_of_ble_eq_true rfl) (fun v w9 hq9 h09 => by obtain ⟨rfl, rfl⟩ := hq9; exact ⟨h09, rfl⟩) (by decide) (by decide) (fun _ _ hx => hx) (fun v9 w9 hq9 => ?_)
    obtain ⟨rfl, rfl⟩ := hq9
    show AW G _ d _ _ 18 [some (.ref 101), some (.int x1), some (.int x2), none, none] [.int a13] (sh, I14, R, L, g) 0 0
    exact AW.iret dX11_person_18 rfl (by decide) (by decide) (by cases h; exact ⟨rfl, rfl⟩)
