/-! 61.ref (printed by s52.py) -/
theorem dX11_whom_0 : decode cX11_whom 0 = .ok (.aload_n 0, 1) := by decide +kernel
theorem dX11_whom_1 : decode cX11_whom 1 = .ok (.iconst 0, 1) := by decide +kernel
theorem dX11_whom_2 : decode cX11_whom 2 = .ok (.putfield 159, 3) := by decide +kernel
theorem dX11_whom_5 : decode cX11_whom 5 = .ok (.iload_n 1, 1) := by decide +kernel
theorem dX11_whom_6 : decode cX11_whom 6 = .ok (.ifCond .lt 8, 3) := by decide +kernel
theorem dX11_whom_9 : decode cX11_whom 9 = .ok (.iload_n 1, 1) := by decide +kernel
theorem dX11_whom_10 : decode cX11_whom 10 = .ok (.iconst 1, 1) := by decide +kernel
theorem dX11_whom_11 : decode cX11_whom 11 = .ok (.if_icmp .le 9, 3) := by decide +kernel
theorem dX11_whom_14 : decode cX11_whom 14 = .ok (.aload_n 0, 1) := by decide +kernel
theorem dX11_whom_15 : decode cX11_whom 15 = .ok (.iconst 1, 1) := by decide +kernel
theorem dX11_whom_16 : decode cX11_whom 16 = .ok (.invokevirtual 307, 3) := by decide +kernel
theorem dX11_whom_19 : decode cX11_whom 19 = .ok (.ireturn, 1) := by decide +kernel
theorem dX11_whom_20 : decode cX11_whom 20 = .ok (.iconst 0, 1) := by decide +kernel
theorem dX11_whom_21 : decode cX11_whom 21 = .ok (.istore_n 2, 1) := by decide +kernel
theorem dX11_whom_22 : decode cX11_whom 22 = .ok (.iconst (-1), 1) := by decide +kernel
theorem dX11_whom_23 : decode cX11_whom 23 = .ok (.istore_n 3, 1) := by decide +kernel
theorem dX11_whom_24 : decode cX11_whom 24 = .ok (.iconst 0, 1) := by decide +kernel
theorem dX11_whom_25 : decode cX11_whom 25 = .ok (.istore 4, 2) := by decide +kernel
theorem dX11_whom_27 : decode cX11_whom 27 = .ok (.iload 4, 2) := by decide +kernel
theorem dX11_whom_29 : decode cX11_whom 29 = .ok (.aload_n 0, 1) := by decide +kernel
theorem dX11_whom_30 : decode cX11_whom 30 = .ok (.getfield 38, 3) := by decide +kernel
theorem dX11_whom_33 : decode cX11_whom 33 = .ok (.iconst 0, 1) := by decide +kernel
theorem dX11_whom_34 : decode cX11_whom 34 = .ok (.iaload, 1) := by decide +kernel
theorem dX11_whom_35 : decode cX11_whom 35 = .ok (.if_icmp .ge 128, 3) := by decide +kernel
theorem dX11_whom_38 : decode cX11_whom 38 = .ok (.iload 4, 2) := by decide +kernel
theorem dX11_whom_40 : decode cX11_whom 40 = .ok (.iconst 1, 1) := by decide +kernel
theorem dX11_whom_41 : decode cX11_whom 41 = .ok (.iadd, 1) := by decide +kernel
theorem dX11_whom_42 : decode cX11_whom 42 = .ok (.istore 5, 2) := by decide +kernel
theorem dX11_whom_44 : decode cX11_whom 44 = .ok (.iload 5, 2) := by decide +kernel
theorem dX11_whom_46 : decode cX11_whom 46 = .ok (.aload_n 0, 1) := by decide +kernel
theorem dX11_whom_47 : decode cX11_whom 47 = .ok (.getfield 38, 3) := by decide +kernel
theorem dX11_whom_50 : decode cX11_whom 50 = .ok (.iconst 0, 1) := by decide +kernel
theorem dX11_whom_51 : decode cX11_whom 51 = .ok (.iaload, 1) := by decide +kernel
theorem dX11_whom_52 : decode cX11_whom 52 = .ok (.if_icmp .ge 105, 3) := by decide +kernel
theorem dX11_whom_55 : decode cX11_whom 55 = .ok (.aload_n 0, 1) := by decide +kernel
theorem dX11_whom_56 : decode cX11_whom 56 = .ok (.iload 4, 2) := by decide +kernel
theorem dX11_whom_58 : decode cX11_whom 58 = .ok (.iload 5, 2) := by decide +kernel
theorem dX11_whom_60 : decode cX11_whom 60 = .ok (.invokevirtual 349, 3) := by decide +kernel
theorem dX11_whom_63 : decode cX11_whom 63 = .ok (.ifCond .eq 17, 3) := by decide +kernel
theorem dX11_whom_66 : decode cX11_whom 66 = .ok (.aload_n 0, 1) := by decide +kernel
theorem dX11_whom_67 : decode cX11_whom 67 = .ok (.iload 5, 2) := by decide +kernel
theorem dX11_whom_69 : decode cX11_whom 69 = .ok (.iload 4, 2) := by decide +kernel
theorem dX11_whom_71 : decode cX11_whom 71 = .ok (.invokevirtual 349, 3) := by decide +kernel
theorem dX11_whom_74 : decode cX11_whom 74 = .ok (.ifCond .eq 6, 3) := by decide +kernel
theorem dX11_whom_77 : decode cX11_whom 77 = .ok (.goto 74, 3) := by decide +kernel
theorem dX11_whom_80 : decode cX11_whom 80 = .ok (.aload_n 0, 1) := by decide +kernel
theorem dX11_whom_81 : decode cX11_whom 81 = .ok (.getfield 67, 3) := by decide +kernel
theorem dX11_whom_84 : decode cX11_whom 84 = .ok (.iload 4, 2) := by decide +kernel
theorem dX11_whom_86 : decode cX11_whom 86 = .ok (.iload 5, 2) := by decide +kernel
theorem dX11_whom_88 : decode cX11_whom 88 = .ok (.invokestatic 282, 3) := by decide +kernel
theorem dX11_whom_91 : decode cX11_whom 91 = .ok (.iaload, 1) := by decide +kernel
theorem dX11_whom_92 : decode cX11_whom 92 = .ok (.istore 6, 2) := by decide +kernel
theorem dX11_whom_94 : decode cX11_whom 94 = .ok (.aload_n 0, 1) := by decide +kernel
theorem dX11_whom_95 : decode cX11_whom 95 = .ok (.iload 4, 2) := by decide +kernel
theorem dX11_whom_97 : decode cX11_whom 97 = .ok (.iload 5, 2) := by decide +kernel
theorem dX11_whom_99 : decode cX11_whom 99 = .ok (.aload_n 0, 1) := by decide +kernel
theorem dX11_whom_100 : decode cX11_whom 100 = .ok (.getfield 321, 3) := by decide +kernel
theorem dX11_whom_103 : decode cX11_whom 103 = .ok (.invokevirtual 417, 3) := by decide +kernel
theorem dX11_whom_106 : decode cX11_whom 106 = .ok (.aload_n 0, 1) := by decide +kernel
theorem dX11_whom_107 : decode cX11_whom 107 = .ok (.invokevirtual 474, 3) := by decide +kernel
theorem dX11_whom_110 : decode cX11_whom 110 = .ok (.istore 7, 2) := by decide +kernel
theorem dX11_whom_112 : decode cX11_whom 112 = .ok (.aload_n 0, 1) := by decide +kernel
theorem dX11_whom_113 : decode cX11_whom 113 = .ok (.iload 4, 2) := by decide +kernel
theorem dX11_whom_115 : decode cX11_whom 115 = .ok (.iload 5, 2) := by decide +kernel
theorem dX11_whom_117 : decode cX11_whom 117 = .ok (.iload 6, 2) := by decide +kernel
theorem dX11_whom_119 : decode cX11_whom 119 = .ok (.invokevirtual 417, 3) := by decide +kernel
theorem dX11_whom_122 : decode cX11_whom 122 = .ok (.iload 7, 2) := by decide +kernel
theorem dX11_whom_124 : decode cX11_whom 124 = .ok (.ifCond .ne 6, 3) := by decide +kernel
theorem dX11_whom_127 : decode cX11_whom 127 = .ok (.goto 24, 3) := by decide +kernel
theorem dX11_whom_130 : decode cX11_whom 130 = .ok (.iinc 2 1, 3) := by decide +kernel
theorem dX11_whom_133 : decode cX11_whom 133 = .ok (.iload_n 3, 1) := by decide +kernel
theorem dX11_whom_134 : decode cX11_whom 134 = .ok (.iconst (-1), 1) := by decide +kernel
theorem dX11_whom_135 : decode cX11_whom 135 = .ok (.if_icmp .ne 14, 3) := by decide +kernel
theorem dX11_whom_138 : decode cX11_whom 138 = .ok (.bipush 10, 2) := by decide +kernel
theorem dX11_whom_140 : decode cX11_whom 140 = .ok (.iload 4, 2) := by decide +kernel
theorem dX11_whom_142 : decode cX11_whom 142 = .ok (.imul, 1) := by decide +kernel
theorem dX11_whom_143 : decode cX11_whom 143 = .ok (.iload 5, 2) := by decide +kernel
theorem dX11_whom_145 : decode cX11_whom 145 = .ok (.iadd, 1) := by decide +kernel
theorem dX11_whom_146 : decode cX11_whom 146 = .ok (.goto 4, 3) := by decide +kernel
theorem dX11_whom_149 : decode cX11_whom 149 = .ok (.iload_n 3, 1) := by decide +kernel
theorem dX11_whom_150 : decode cX11_whom 150 = .ok (.istore_n 3, 1) := by decide +kernel
theorem dX11_whom_151 : decode cX11_whom 151 = .ok (.iinc 5 1, 3) := by decide +kernel
theorem dX11_whom_154 : decode cX11_whom 154 = .ok (.goto (-110), 3) := by decide +kernel
theorem dX11_whom_157 : decode cX11_whom 157 = .ok (.iinc 4 1, 3) := by decide +kernel
theorem dX11_whom_160 : decode cX11_whom 160 = .ok (.goto (-133), 3) := by decide +kernel
theorem dX11_whom_163 : decode cX11_whom 163 = .ok (.iload_n 1, 1) := by decide +kernel
theorem dX11_whom_164 : decode cX11_whom 164 = .ok (.ifCond .ne 7, 3) := by decide +kernel
theorem dX11_whom_167 : decode cX11_whom 167 = .ok (.iload_n 2, 1) := by decide +kernel
theorem dX11_whom_168 : decode cX11_whom 168 = .ok (.goto 4, 3) := by decide +kernel
theorem dX11_whom_171 : decode cX11_whom 171 = .ok (.iload_n 3, 1) := by decide +kernel
theorem dX11_whom_172 : decode cX11_whom 172 = .ok (.ireturn, 1) := by decide +kernel
def b_X11_whom_L44 (y1 : Int32) (y4 : Int32) (K : Int32 → Int32 → g_I → Option (Int32 × g_I)) : Nat → Int32 → Int32 → Int32 → g_I → Option (Int32 × g_I)
  | 0, _, _, _, _ => none
  | f + 1, x2, x3, x5, I => g_let (fun (z2 : Int32) (z3 : Int32) (z5 : Int32) (I80j : g_I) => if g_in (b_X11_couple y4 z5) 128 = true then g_let (I80j 114 (b_X11_couple y4 z5).toNatClampNeg) fun a6 => g_bind (b_X11_meet I80j y4 z5 (I80j 101 30)) fun I8 => g_bind (b_X11_isBalked I8) fun t10 => g_let (kb t10) fun a13 => g_bind (b_X11_meet I8 y4 z5 a6) fun I15 => if a13 = 0 then b_X11_whom_L44 y1 y4 K f z2 z3 (z5 + 1) I15 else if z3 = (-1) then g_let (((10 : Int32) * y4) + z5) fun a17 => b_X11_whom_L44 y1 y4 K f (z2 + 1) a17 (z5 + 1) I15 else b_X11_whom_L44 y1 y4 K f (z2 + 1) z3 (z5 + 1) I15 else none) fun J80 => if (I 104 0) ≤ x5 then K x2 x3 I else g_bind (b_X11_isKnown I y4 x5) fun t18 => if t18 = true then g_bind (b_X11_isKnown I x5 y4) fun t21 => if t21 = true then b_X11_whom_L44 y1 y4 K f x2 x3 (x5 + 1) I else J80 x2 x3 x5 I else J80 x2 x3 x5 I
def b_X11_whom_L27 (y1 : Int32) (K : Int32 → Int32 → g_I → Option (Int32 × g_I)) : Nat → Int32 → Int32 → Int32 → g_I → Option (Int32 × g_I)
  | 0, _, _, _, _ => none
  | f + 1, x2, x3, x4, I => if (I 104 0) ≤ x4 then K x2 x3 I else g_let (x4 + 1) fun a5 => b_X11_whom_L44 y1 x4 (fun (a24 : Int32) (a25 : Int32) (I26 : g_I) => b_X11_whom_L27 y1 K f a24 a25 (x4 + 1) I26) fu x2 x3 a5 I
def b_X11_whom (I : g_I) (x1 : Int32) : Option (Int32 × g_I) :=
  g_let (am_up I 101 2 0) fun I1 => if x1 < 0 then g_bind2 (b_X11_fail I1 1) fun a2 I3 => some (a2, I3) else if x1 ≤ 1 then b_X11_whom_L27 x1 (fun (a27 : Int32) (a28 : Int32) (I29 : g_I) => if x1 = 0 then some (a27, I29) else some (a28, I29)) fu 0 (-1) 0 I1 else g_bind2 (b_X11_fail I1 1) fun a30 I31 => some (a30, I31)
set_option maxRecDepth 100000 in
set_option maxHeartbeats 4000000 in
theorem gL_X11_whom_44 {G : am_G} (hK : k_OK G) {d : Nat} (hd : 5 ≤ d) {sh : List (Nat ⊕ (Nat × Nat))} {I : g_I} {R : Nat → Nat → Option Nat} {L : Nat → Nat → Int64} {g : Nat} (hm : k_Mod sh R) {y1 : Int32} {y4 : Int32} {K : Int32 → Int32 → g_I → Option (Int32 × g_I)} {x2 : Int32} {x3 : Int32} {x5 : Int32} {f : Nat} {r : Int32 × g_I} (h : b_X11_whom_L44 y1 y4 K f x2 x3 x5 I = some r) (hk : ∀ (u2 : Int32) (u3 : Int32) (J : g_I), K u2 u3 J = some r → AW G mX11_whom d (fun v w => v = some (.int r.1) ∧ w = (sh, r.2, R, L, g)) (fun _ _ => False) 157 [some (.ref 101), some (.int y1), some (.int u2), some (.int u3), some (.int y4), none, none, none] [] (sh, J, R, L, g) 0 0) : AW G mX11_whom d (fun v w => v = some (.int r.1) ∧ w = (sh, r.2, R, L, g)) (fun _ _ => False) 44 [some (.ref 101), some (.int y1), some (.int x2), some (.int x3), some (.int y4), some (.int x5), none, none] [] (sh, I, R, L, g) 0 0 := by
  have hG := hK.1
  induction f generalizing x2 x3 x5 I with
  | zero => rw [b_X11_whom_L44] at h; cases h
  | succ f ih =>
    rw [b_X11_whom_L44] at h
    obtain ⟨J80, eJ80, h⟩ := g_letE h
    have H80 : ∀ (z2 : Int32) (z3 : Int32) (z5 : Int32) (I80j : g_I), J80 z2 z3 z5 I80j = some r → AW G mX11_whom d (fun v w => v = some (.int r.1) ∧ w = (sh, r.2, R, L, g)) (fun _ _ => False) 80 [some (.ref 101), some (.int y1), some (.int z2), some (.int z3), some (.int y4), some (.int z5), none, none] [] (sh, I80j, R, L, g) 0 0 := by
      intro z2 z3 z5 I80j h
      rw [eJ80] at h
      refine AW.aload_n dX11_whom_80 rfl ?_
      refine AW.getR (c' := 114) (fX11_67 hG).r rfl (hm.1 0 _ rfl) (hm.2 (0, 13, 13) (by decide)) dX11_whom_81 ?_
      refine AW.iload dX11_whom_84 rfl ?_
      refine AW.iload dX11_whom_86 rfl ?_
      refine AW.callS (As := [.int y4, .int z5]) hG.2.2 (vX11_282 hG) (g_X11_couple hK (d := 0) (Nat.le_refl _)) (by omega) dX11_whom_88 rfl rfl (Nat.le_of_ble_eq_true rfl) (fun v w9 hq9 h09 => by obtain ⟨rfl, rfl⟩ := hq9; exact ⟨h09, rfl⟩) (by decide) (by decide) (fun _ _ hx => hx) (fun v9 w9 hq9 => ?_)
      obtain ⟨rfl, rfl⟩ := hq9
      show AW G _ d _ _ 91 [some (.ref 101), some (.int y1), some (.int z2), some (.int z3), some (.int y4), some (.int z5), none, none] [.int (b_X11_couple y4 z5), .ref 114] (sh, I80j, R, L, g) 0 0
      obtain ⟨hb, h⟩ := g_ifE h
      refine AW.iald (hm.1 13 _ rfl) (g_in_iff.mp hb) dX11_whom_91 ?_
      obtain ⟨a6, ea6, h⟩ := g_letE h
      refine AW.namE ea6 ?_
      refine AW.is [some (.ref 101), some (.int y1), some (.int z2), some (.int z3), some (.int y4), some (.int z5), some (.int a6), none] dX11_whom_92 (by decide) rfl rfl ?_
      refine AW.aload_n dX11_whom_94 rfl ?_
      refine AW.iload dX11_whom_95 rfl ?_
      refine AW.iload dX11_whom_97 rfl ?_
      refine AW.aload_n dX11_whom_99 rfl ?_
      refine AW.getI (fX11_321 hG).r rfl (hm.1 0 _ rfl) dX11_whom_100 ?_
      obtain ⟨I8, hx9, h⟩ := g_bindE h
      refine AW.callV (b := 101) (As := [.int y4, .int z5, .int (I80j 101 30)]) hG.2.2 (vX11_417 hG) (hm.1 0 _ rfl) (g_X11_meet hK (d := 1) (Nat.le_refl _) hm hx9) (by omega) dX11_whom_103 rfl rfl (Nat.le_of_ble_eq_true rfl) (fun v w9 hq9 h09 => by obtain ⟨rfl, rfl⟩ := hq9; exact ⟨h09, rfl⟩) (by decide) (by decide) (fun _ _ hx => hx) (fun v9 w9 hq9 => ?_)
      obtain ⟨rfl, rfl⟩ := hq9
      show AW G _ d _ _ 106 [some (.ref 101), some (.int y1), some (.int z2), some (.int z3), some (.int y4), some (.int z5), some (.int a6), none] [] (sh, I8, R, L, g) 0 0
      refine AW.aload_n dX11_whom_106 rfl ?_
      obtain ⟨t10, hx12, h⟩ := g_bindE h
      refine AW.callV (b := 101) (As := []) hG.2.2 (vX11_474 hG) (hm.1 0 _ rfl) (g_X11_isBalked hK (d := 4) (Nat.le_refl _) hm hx12) (by omega) dX11_whom_107 rfl rfl (Nat.le_of_ble_eq_true rfl) (fun v w9 hq9 h09 => by obtain ⟨rfl, rfl⟩ := hq9; exact ⟨h09, rfl⟩) (by decide) (by decide) (fun _ _ hx => hx) (fun v9 w9 hq9 => ?_)
      obtain ⟨rfl, rfl⟩ := hq9
      show AW G _ d _ _ 110 [some (.ref 101), some (.int y1), some (.int z2), some (.int z3), some (.int y4), some (.int z5), some (.int a6), none] [.int (kb t10)] (sh, I8, R, L, g) 0 0
      obtain ⟨a13, ea13, h⟩ := g_letE h
      refine AW.namE ea13 ?_
      refine AW.is [some (.ref 101), some (.int y1), some (.int z2), some (.int z3), some (.int y4), some (.int z5), some (.int a6), some (.int a13)] dX11_whom_110 (by decide) rfl rfl ?_
      refine AW.aload_n dX11_whom_112 rfl ?_
      refine AW.iload dX11_whom_113 rfl ?_
      refine AW.iload dX11_whom_115 rfl ?_
      refine AW.iload dX11_whom_117 rfl ?_
      obtain ⟨I15, hx16, h⟩ := g_bindE h
      refine AW.callV (b := 101) (As := [.int y4, .int z5, .int a6]) hG.2.2 (vX11_417 hG) (hm.1 0 _ rfl) (g_X11_meet hK (d := 1) (Nat.le_refl _) hm hx16) (by omega) dX11_whom_119 rfl rfl (Nat.le_of_ble_eq_true rfl) (fun v w9 hq9 h09 => by obtain ⟨rfl, rfl⟩ := hq9; exact ⟨h09, rfl⟩) (by decide) (by decide) (fun _ _ hx => hx) (fun v9 w9 hq9 => ?_)
      obtain ⟨rfl, rfl⟩ := hq9
      show AW G _ d _ _ 122 [some (.ref 101), some (.int y1), some (.int z2), some (.int z3), some (.int y4), some (.int z5), some (.int a6), some (.int a13)] [] (sh, I15, R, L, g) 0 0
      refine AW.iload dX11_whom_122 rfl ?_
      refine AW.if_ne 130 dX11_whom_124 (by decide) (fun hc124 => ?_) (fun hc124 => ?_)
      · replace h := g_neg hc124 h
        refine AW.incE 1 (by decide) [some (.ref 101), some (.int y1), some (.int (z2 + 1)), some (.int z3), some (.int y4), some (.int z5), some (.int a6), some (.int a13)] dX11_whom_130 rfl (by decide) rfl rfl ?_
        refine AW.iload_n dX11_whom_133 rfl ?_
        refine AW.iconst (-1) dX11_whom_134 (by decide) ?_
        refine AW.icmp_ne 149 dX11_whom_135 (by decide) (fun hc135 => ?_) (fun hc135 => ?_)
        · replace h := g_neg hc135 h
          refine AW.iload_n dX11_whom_149 rfl ?_
          refine AW.is_n [some (.ref 101), some (.int y1), some (.int (z2 + 1)), some (.int z3), some (.int y4), some (.int z5), some (.int a6), some (.int a13)] dX11_whom_150 (by decide) rfl rfl ?_
          refine AW.incE 1 (by decide) [some (.ref 101), some (.int y1), some (.int (z2 + 1)), some (.int z3), some (.int y4), some (.int (z5 + 1)), some (.int a6), some (.int a13)] dX11_whom_151 rfl (by decide) rfl rfl ?_
          refine AW.goto 44 dX11_whom_154 (by decide) ?_
          refine AW.mask [6, 7] [some (.ref 101), some (.int y1), some (.int (z2 + 1)), some (.int z3), some (.int y4), some (.int (z5 + 1)), none, none] rfl ?_
          exact ih h
        · replace h := g_pos hc135 h
          refine AW.bipush 10 dX11_whom_138 (by decide) ?_
          refine AW.iload dX11_whom_140 rfl ?_
          refine AW.imul dX11_whom_142 ?_
          refine AW.iload dX11_whom_143 rfl ?_
          refine AW.iadd dX11_whom_145 ?_
          refine AW.goto 150 dX11_whom_146 (by decide) ?_
          obtain ⟨a17, ea17, h⟩ := g_letE h
          refine AW.namE ea17 ?_
          refine AW.is_n [some (.ref 101), some (.int y1), some (.int (z2 + 1)), some (.int a17), some (.int y4), some (.int z5), some (.int a6), some (.int a13)] dX11_whom_150 (by decide) rfl rfl ?_
          refine AW.incE 1 (by decide) [some (.ref 101), some (.int y1), some (.int (z2 + 1)), some (.int a17), some (.int y4), some (.int (z5 + 1)), some (.int a6), some (.int a13)] dX11_whom_151 rfl (by decide) rfl rfl ?_
          refine AW.goto 44 dX11_whom_154 (by decide) ?_
          refine AW.mask [6, 7] [some (.ref 101), some (.int y1), some (.int (z2 + 1)), some (.int a17), some (.int y4), some (.int (z5 + 1)), none, none] rfl ?_
          exact ih h
      · replace h := g_pos hc124 h
        refine AW.goto 151 dX11_whom_127 (by decide) ?_
        refine AW.incE 1 (by decide) [some (.ref 101), some (.int y1), some (.int z2), some (.int z3), some (.int y4), some (.int (z5 + 1)), some (.int a6), some (.int a13)] dX11_whom_151 rfl (by decide) rfl rfl ?_
        refine AW.goto 44 dX11_whom_154 (by decide) ?_
        refine AW.mask [6, 7] [some (.ref 101), some (.int y1), some (.int z2), some (.int z3), some (.int y4), some (.int (z5 + 1)), none, none] rfl ?_
        exact ih h
    refine AW.iload dX11_whom_44 rfl ?_
    refine AW.aload_n dX11_whom_46 rfl ?_
    refine AW.getR (c' := 104) (fX11_38 hG).r rfl (hm.1 0 _ rfl) (hm.2 (0, 3, 3) (by decide)) dX11_whom_47 ?_
    refine AW.iconst 0 dX11_whom_50 (by decide) ?_
    refine AW.iald (hm.1 3 _ rfl) (by unfold vp_in; decide) dX11_whom_51 ?_
    show AW G _ d _ _ 52 [some (.ref 101), some (.int y1), some (.int x2), some (.int x3), some (.int y4), some (.int x5), none, none] [.int (I 104 0), .int x5] (sh, I, R, L, g) 0 0
    refine AW.icmp_ge 157 dX11_whom_52 (by decide) (fun hc52 => ?_) (fun hc52 => ?_)
    · replace h := g_pos hc52 h
      refine AW.mask [5] [some (.ref 101), some (.int y1), some (.int x2), some (.int x3), some (.int y4), none, none, none] rfl ?_
      exact hk _ _ _ h
    · replace h := g_neg hc52 h
      refine AW.aload_n dX11_whom_55 rfl ?_
      refine AW.iload dX11_whom_56 rfl ?_
      refine AW.iload dX11_whom_58 rfl ?_
      obtain ⟨t18, hx20, h⟩ := g_bindE h
      refine AW.callV (b := 101) (As := [.int y4, .int x5]) hG.2.2 (vX11_349 hG) (hm.1 0 _ rfl) (g_X11_isKnown hK (d := 2) (Nat.le_refl _) hm hx20) (by omega) dX11_whom_60 rfl rfl (Nat.le_of_ble_eq_true rfl) (fun v w9 hq9 h09 => by obtain ⟨rfl, rfl⟩ := hq9; exact ⟨h09, rfl⟩) (by decide) (by decide) (fun _ _ hx => hx) (fun v9 w9 hq9 => ?_)
      obtain ⟨rfl, rfl⟩ := hq9
      show AW G _ d _ _ 63 [some (.ref 101), some (.int y1), some (.int x2), some (.int x3), some (.int y4), some (.int x5), none, none] [.int (kb t18)] (sh, I, R, L, g) 0 0
      refine AW.if_eq 80 dX11_whom_63 (by decide) (fun hc63 => ?_) (fun hc63 => ?_)
      · replace h := g_neg (g_kb0 hc63) h
        exact H80 _ _ _ _ h
      · replace h := g_pos (kb_1.mp hc63) h
        refine AW.aload_n dX11_whom_66 rfl ?_
        refine AW.iload dX11_whom_67 rfl ?_
        refine AW.iload dX11_whom_69 rfl ?_
        obtain ⟨t21, hx23, h⟩ := g_bindE h
        refine AW.callV (b := 101) (As := [.int x5, .int y4]) hG.2.2 (vX11_349 hG) (hm.1 0 _ rfl) (g_X11_isKnown hK (d := 2) (Nat.le_refl _) hm hx23) (by omega) dX11_whom_71 rfl rfl (Nat.le_of_ble_eq_true rfl) (fun v w9 hq9 h09 => by obtain ⟨rfl, rfl⟩ := hq9; exact ⟨h09, rfl⟩) (by decide) (by decide) (fun _ _ hx => hx) (fun v9 w9 hq9 => ?_)
        obtain ⟨rfl, rfl⟩ := hq9
        show AW G _ d _ _ 74 [some (.ref 101), some (.int y1), some (.int x2), some (.int x3), some (.int y4), some (.int x5), none, none] [.int (kb t21)] (sh, I, R, L, g) 0 0
        refine AW.if_eq 80 dX11_whom_74 (by decide) (fun hc74 => ?_) (fun hc74 => ?_)
        · replace h := g_neg (g_kb0 hc74) h
          exact H80 _ _ _ _ h
        · replace h := g_pos (kb_1.mp hc74) h
          refine AW.goto 151 dX11_whom_77 (by decide) ?_
          refine AW.incE 1 (by decide) [some (.ref 101), some (.int y1), some (.int x2), some (.int x3), some (.int y4), some (.int (x5 + 1)), none, none] dX11_whom_151 rfl (by decide) rfl rfl ?_
          refine AW.goto 44 dX11_whom_154 (by decide) ?_
          exact ih h
set_option maxRecDepth 100000 in
set_option maxHeartbeats 4000000 in
theorem gL_X11_whom_27 {G : am_G} (hK : k_OK G) {d : Nat} (hd : 5 ≤ d) {sh : List (Nat ⊕ (Nat × Nat))} {I : g_I} {R : Nat → Nat → Option Nat} {L : Nat → Nat → Int64} {g : Nat} (hm : k_Mod sh R) {y1 : Int32} {K : Int32 → Int32 → g_I → Option (Int32 × g_I)} {x2 : Int32} {x3 : Int32} {x4 : Int32} {f : Nat} {r : Int32 × g_I} (h : b_X11_whom_L27 y1 K f x2 x3 x4 I = some r) (hk : ∀ (u2 : Int32) (u3 : Int32) (J : g_I), K u2 u3 J = some r → AW G mX11_whom d (fun v w => v = some (.int r.1) ∧ w = (sh, r.2, R, L, g)) (fun _ _ => False) 163 [none, some (.int y1), some (.int u2), some (.int u3), none, none, none, none] [] (sh, J, R, L, g) 0 0) : AW G mX11_whom d (fun v w => v = some (.int r.1) ∧ w = (sh, r.2, R, L, g)) (fun _ _ => False) 27 [some (.ref 101), some (.int y1), some (.int x2), some (.int x3), some (.int x4), none, none, none] [] (sh, I, R, L, g) 0 0 := by
  have hG := hK.1
  induction f generalizing x2 x3 x4 I with
  | zero => rw [b_X11_whom_L27] at h; cases h
  | succ f ih =>
    rw [b_X11_whom_L27] at h
    refine AW.iload dX11_whom_27 rfl ?_
    refine AW.aload_n dX11_whom_29 rfl ?_
    refine AW.getR (c' := 104) (fX11_38 hG).r rfl (hm.1 0 _ rfl) (hm.2 (0, 3, 3) (by decide)) dX11_whom_30 ?_
    refine AW.iconst 0 dX11_whom_33 (by decide) ?_
    refine AW.iald (hm.1 3 _ rfl) (by unfold vp_in; decide) dX11_whom_34 ?_
    show AW G _ d _ _ 35 [some (.ref 101), some (.int y1), some (.int x2), some (.int x3), some (.int x4), none, none, none] [.int (I 104 0), .int x4] (sh, I, R, L, g) 0 0
    refine AW.icmp_ge 163 dX11_whom_35 (by decide) (fun hc35 => ?_) (fun hc35 => ?_)
    · replace h := g_pos hc35 h
      refine AW.mask [0, 4] [none, some (.int y1), some (.int x2), some (.int x3), none, none, none, none] rfl ?_
      exact hk _ _ _ h
    · replace h := g_neg hc35 h
      refine AW.iload dX11_whom_38 rfl ?_
      refine AW.iconst 1 dX11_whom_40 (by decide) ?_
      refine AW.iadd dX11_whom_41 ?_
      obtain ⟨a5, ea5, h⟩ := g_letE h
      refine AW.namE ea5 ?_
      refine AW.is [some (.ref 101), some (.int y1), some (.int x2), some (.int x3), some (.int x4), some (.int a5), none, none] dX11_whom_42 (by decide) rfl rfl ?_
      refine gL_X11_whom_44 hK hd hm h (fun a24 a25 I26 h => ?_)
      refine AW.incE 1 (by decide) [some (.ref 101), some (.int y1), some (.int a24), some (.int a25), some (.int (x4 + 1)), none, none, none] dX11_whom_157 rfl (by decide) rfl rfl ?_
      refine AW.goto 27 dX11_whom_160 (by decide) ?_
      exact ih h
set_option maxRecDepth 100000 in
set_option maxHeartbeats 4000000 in
theorem g_X11_whom {G : am_G} (hK : k_OK G) {d : Nat} (hd : 5 ≤ d) {sh : List (Nat ⊕ (Nat × Nat))} {I : g_I} {R : Nat → Nat → Option Nat} {L : Nat → Nat → Int64} {g : Nat} (hm : k_Mod sh R) {x1 : Int32} {r : Int32 × g_I} (h : b_X11_whom I x1 = some r) : AM G mX11_whom d [.ref 101, .int x1] (sh, I, R, L, g) (fun v w => v = some (.int r.1) ∧ w = (sh, r.2, R, L, g)) (fun _ _ => False) := by
  have hG := hK.1
  refine AM.of (n := 6) (by decide +kernel) (Nat.le_of_ble_eq_true rfl) ?_
  show AW G mX11_whom d (fun v w => v = some (.int r.1) ∧ w = (sh, r.2, R, L, g)) (fun _ _ => False) 0 [some (.ref 101), some (.int x1), none, none, none, none, none, none] [] (sh, I, R, L, g) 0 0
  unfold b_X11_whom at h
  refine AW.aload_n dX11_whom_0 rfl ?_
  refine AW.iconst 0 dX11_whom_1 (by decide) ?_
  refine AW.putI (fX11_159 hG) rfl (vp_nar_int _) rfl (hm.1 0 _ rfl) dX11_whom_2 ?_
  obtain ⟨I1, eI1, h⟩ := g_letE h
  refine AW.namIE eI1 ?_
  refine AW.iload_n dX11_whom_5 rfl ?_
  refine AW.if_lt 14 dX11_whom_6 (by decide) (fun hc6 => ?_) (fun hc6 => ?_)
  · replace h := g_pos hc6 h
    refine AW.aload_n dX11_whom_14 rfl ?_
    refine AW.iconst 1 dX11_whom_15 (by decide) ?_
    obtain ⟨a2, I3, hx4, h⟩ := g_bind2E h
    refine AW.callV (b := 101) (As := [.int 1]) hG.2.2 (vX11_307 hG) (hm.1 0 _ rfl) (g_X11_fail hK (d := 0) (Nat.le_refl _) hm hx4) (by omega) dX11_whom_16 rfl rfl (Nat.le_of_ble_eq_true rfl) (fun v w9 hq9 h09 => by obtain ⟨rfl, rfl⟩ := hq9; exact ⟨h09, rfl⟩) (by decide) (by decide) (fun _ _ hx => hx) (fun v9 w9 hq9 => ?_)
    obtain ⟨rfl, rfl⟩ := hq9
    show AW G _ d _ _ 19 [some (.ref 101), some (.int x1), none, none, none, none, none, none] [.int a2] (sh, I3, R, L, g) 0 0
    exact AW.iret dX11_whom_19 rfl (by decide) (by decide) (by cases h; exact ⟨rfl, rfl⟩)
  · replace h := g_neg hc6 h
    refine AW.iload_n dX11_whom_9 rfl ?_
    refine AW.iconst 1 dX11_whom_10 (by decide) ?_
    refine AW.icmp_le 20 dX11_whom_11 (by decide) (fun hc11 => ?_) (fun hc11 => ?_)
    · replace h := g_pos hc11 h
      refine AW.iconst 0 dX11_whom_20 (by decide) ?_
      refine AW.is_n [some (.ref 101), some (.int x1), some (.int 0), none, none, none, none, none] dX11_whom_21 (by decide) rfl rfl ?_
      refine AW.iconst (-1) dX11_whom_22 (by decide) ?_
      refine AW.is_n [some (.ref 101), some (.int x1), some (.int 0), some (.int (-1)), none, none, none, none] dX11_whom_23 (by decide) rfl rfl ?_
      refine AW.iconst 0 dX11_whom_24 (by decide) ?_
      refine AW.is [some (.ref 101), some (.int x1), some (.int 0), some (.int (-1)), some (.int 0), none, none, none] dX11_whom_25 (by decide) rfl rfl ?_
      refine gL_X11_whom_27 hK hd hm h (fun a27 a28 I29 h => ?_)
      refine AW.iload_n dX11_whom_163 rfl ?_
      refine AW.if_ne 171 dX11_whom_164 (by decide) (fun hc164 => ?_) (fun hc164 => ?_)
      · replace h := g_neg hc164 h
        refine AW.iload_n dX11_whom_171 rfl ?_
        exact AW.iret dX11_whom_172 rfl (by decide) (by decide) (by cases h; exact ⟨rfl, rfl⟩)
      · replace h := g_pos hc164 h
        refine AW.iload_n dX11_whom_167 rfl ?_
        refine AW.goto 172 dX11_whom_168 (by decide) ?_
        exact AW.iret dX11_whom_172 rfl (by decide) (by decide) (by cases h; exact ⟨rfl, rfl⟩)
    · replace h := g_neg hc11 h
      refine AW.aload_n dX11_whom_14 rfl ?_
      refine AW.iconst 1 dX11_whom_15 (by decide) ?_
      obtain ⟨a30, I31, hx32, h⟩ := g_bind2E h
      refine AW.callV (b := 101) (As := [.int 1]) hG.2.2 (vX11_307 hG) (hm.1 0 _ rfl) (g_X11_fail hK (d := 0) (Nat.le_refl _) hm hx32) (by omega) dX11_whom_16 rfl rfl (Nat.le_of_ble_eq_true rfl) (fun v w9 hq9 h09 => by obtain ⟨rfl, rfl⟩ := hq9; exact ⟨h09, rfl⟩) (by decide) (by decide) (fun _ _ hx => hx) (fun v9 w9 hq9 => ?_)
      obtain ⟨rfl, rfl⟩ := hq9
      show AW G _ d _ _ 19 [some (.ref 101), some (.int x1), none, none, none, none, none, none] [.int a30] (sh, I31, R, L, g) 0 0
      exact AW.iret dX11_whom_19 rfl (by decide) (by decide) (by cases h; exact ⟨rfl, rfl⟩)
theorem dX11_why_0 : decode cX11_why 0 = .ok (.aload_n 0, 1) := by decide +kernel
theorem dX11_why_1 : decode cX11_why 1 = .ok (.iconst 0, 1) := by decide +kernel
theorem dX11_why_2 : decode cX11_why 2 = .ok (.putfield 159, 3) := by decide +kernel
theorem dX11_why_5 : decode cX11_why 5 = .ok (.aload_n 0, 1) := by decide +kernel
theorem dX11_why_6 : decode cX11_why 6 = .ok (.iload_n 1, 1) := by decide +kernel
theorem dX11_why_7 : decode cX11_why 7 = .ok (.invokevirtual 392, 3) := by decide +kernel
theorem dX11_why_10 : decode cX11_why 10 = .ok (.ifCond .eq 24, 3) := by decide +kernel
theorem dX11_why_13 : decode cX11_why 13 = .ok (.iload_n 2, 1) := by decide +kernel
theorem dX11_why_14 : decode cX11_why 14 = .ok (.i2l, 1) := by decide +kernel
theorem dX11_why_15 : decode cX11_why 15 = .ok (.lconst 0, 1) := by decide +kernel
theorem dX11_why_16 : decode cX11_why 16 = .ok (.ldc2_w 478, 3) := by decide +kernel
theorem dX11_why_19 : decode cX11_why 19 = .ok (.invokestatic 162, 3) := by decide +kernel
theorem dX11_why_22 : decode cX11_why 22 = .ok (.ifCond .eq 12, 3) := by decide +kernel
theorem dX11_why_25 : decode cX11_why 25 = .ok (.aload_n 0, 1) := by decide +kernel
theorem dX11_why_26 : decode cX11_why 26 = .ok (.iload_n 1, 1) := by decide +kernel
theorem dX11_why_27 : decode cX11_why 27 = .ok (.iload_n 2, 1) := by decide +kernel
theorem dX11_why_28 : decode cX11_why 28 = .ok (.invokevirtual 395, 3) := by decide +kernel
theorem dX11_why_31 : decode cX11_why 31 = .ok (.goto 8, 3) := by decide +kernel
theorem dX11_why_34 : decode cX11_why 34 = .ok (.aload_n 0, 1) := by decide +kernel
theorem dX11_why_35 : decode cX11_why 35 = .ok (.iconst 1, 1) := by decide +kernel
theorem dX11_why_36 : decode cX11_why 36 = .ok (.invokevirtual 307, 3) := by decide +kernel
theorem dX11_why_39 : decode cX11_why 39 = .ok (.ireturn, 1) := by decide +kernel
def b_X11_why (I : g_I) (x1 : Int32) (x2 : Int32) : Option (Int32 × g_I) :=
  g_let (am_up I 101 2 0) fun I1 => if b_X11_isLoaf I1 x1 = true then if b_X11_isIn (x2.toInt64) 0 6 = true then g_bind (b_X11_answering I1 x1 x2) fun a8 => some (a8, I1) else g_bind2 (b_X11_fail I1 1) fun a5 I6 => some (a5, I6) else g_bind2 (b_X11_fail I1 1) fun a2 I3 => some (a2, I3)
set_option maxRecDepth 100000 in
set_option maxHeartbeats 4000000 in
theorem g_X11_why {G : am_G} (hK : k_OK G) {d : Nat} (hd : 6 ≤ d) {sh : List (Nat ⊕ (Nat × Nat))} {I : g_I} {R : Nat → Nat → Option Nat} {L : Nat → Nat → Int64} {g : Nat} (hm : k_Mod sh R) {x1 : Int32} {x2 : Int32} {r : Int32 × g_I} (h : b_X11_why I x1 x2 = some r) : AM G mX11_why d [.ref 101, .int x1, .int x2] (sh, I, R, L, g) (fun v w => v = some (.int r.1) ∧ w = (sh, r.2, R, L, g)) (fun _ _ => False) := by
  have hG := hK.1
  refine AM.of (n := 0) (by decide +kernel) (Nat.le_of_ble_eq_true rfl) ?_
  show AW G mX11_why d (fun v w => v = some (.int r.1) ∧ w = (sh, r.2, R, L, g)) (fun _ _ => False) 0 [some (.ref 101), some (.int x1), some (.int x2)] [] (sh, I, R, L, g) 0 0
  unfold b_X11_why at h
  refine AW.aload_n dX11_why_0 rfl ?_
  refine AW.iconst 0 dX11_why_1 (by decide) ?_
  refine AW.putI (fX11_159 hG) rfl (vp_nar_int _) rfl (hm.1 0 _ rfl) dX11_why_2 ?_
  obtain ⟨I1, eI1, h⟩ := g_letE h
  refine AW.namIE eI1 ?_
  refine AW.aload_n dX11_why_5 rfl ?_
  refine AW.iload_n dX11_why_6 rfl ?_
  refine AW.callV (b := 101) (As := [.int x1]) hG.2.2 (vX11_392 hG) (hm.1 0 _ rfl) (g_X11_isLoaf hK (d := 1) (Nat.le_refl _) hm) (by omega) dX11_why_7 rfl rfl (Nat.le_of_ble_eq_true rfl) (fun v w9 hq9 h09 => by obtain ⟨rfl, rfl⟩ := hq9; exact ⟨h09, rfl⟩) (by decide) (by decide) (fun _ _ hx => hx) (fun v9 w9 hq9 => ?_)
  obtain ⟨rfl, rfl⟩ := hq9
  show AW G _ d _ _ 10 [some (.ref 101), some (.int x1), some (.int x2)] [.int (kb (b_X11_isLoaf I1 x1))] (sh, I1, R, L, g) 0 0
  refine AW.if_eq 34 dX11_why_10 (by decide) (fun hc10 => ?_) (fun hc10 => ?_)
  · replace h := g_neg (g_kb0 hc10) h
    refine AW.aload_n dX11_why_34 rfl ?_
    refine AW.iconst 1 dX11_why_35 (by decide) ?_
    obtain ⟨a2, I3, hx4, h⟩ := g_bind2E h
    refine AW.callV (b := 101) (As := [.int 1]) hG.2.2 (vX11_307 hG) (hm.1 0 _ rfl) (g_X11_fail hK (d := 0) (Nat.le_refl _) hm hx4) (by omega) dX11_why_36 rfl rfl (Nat.le_of_ble_eq_true rfl) (fun v w9 hq9 h09 => by obtain ⟨rfl, rfl⟩ := hq9; exact ⟨h09, rfl⟩) (by decide) (by decide) (fun _ _ hx => hx) (fun v9 w9 hq9 => ?_)
    obtain ⟨rfl, rfl⟩ := hq9
    show AW G _ d _ _ 39 [some (.ref 101), some (.int x1), some (.int x2)] [.int a2] (sh, I3, R, L, g) 0 0
    exact AW.iret dX11_why_39 rfl (by decide) (by decide) (by cases h; exact ⟨rfl, rfl⟩)
  · replace h := g_pos (kb_1.mp hc10) h
    refine AW.iload_n dX11_why_13 rfl ?_
    refine AW.i2l dX11_why_14 ?_
    refine AW.lconst 0 dX11_why_15 (by decide) ?_
    refine AW.ldc2 6 dX11_why_16 (k_c hG 2065 (by decide +kernel) (by decide +kernel)) ?_
    refine AW.callS (As := [.long (x2.toInt64), .long 0, .long 6]) hG.2.2 (vX11_162 hG) (g_X11_isIn hK (d := 0) (Nat.le_refl _) (x2.toInt64) 0 6) (by omega) dX11_why_19 rfl rfl (Nat.le_of_ble_eq_true rfl) (fun v w9 hq9 h09 => by obtain ⟨rfl, rfl⟩ := hq9; exact ⟨h09, rfl⟩) (by decide) (by decide) (fun _ _ hx => hx) (fun v9 w9 hq9 => ?_)
    obtain ⟨rfl, rfl⟩ := hq9
    show AW G _ d _ _ 22 [some (.ref 101), some (.int x1), some (.int x2)] [.int (kb (b_X11_isIn (x2.toInt64) 0 6))] (sh, I1, R, L, g) 0 0
    refine AW.if_eq 34 dX11_why_22 (by decide) (fun hc22 => ?_) (fun hc22 => ?_)
    · replace h := g_neg (g_kb0 hc22) h
      refine AW.aload_n dX11_why_34 rfl ?_
      refine AW.iconst 1 dX11_why_35 (by decide) ?_
      obtain ⟨a5, I6, hx7, h⟩ := g_bind2E h
      refine AW.callV (b := 101) (As := [.int 1]) hG.2.2 (vX11_307 hG) (hm.1 0 _ rfl) (g_X11_fail hK (d := 0) (Nat.le_refl _) hm hx7) (by omega) dX11_why_36 rfl rfl (Nat.le_of_ble_eq_true rfl) (fun v w9 hq9 h09 => by obtain ⟨rfl, rfl⟩ := hq9; exact ⟨h09, rfl⟩) (by decide) (by decide) (fun _ _ hx => hx) (fun v9 w9 hq9 => ?_)
      obtain ⟨rfl, rfl⟩ := hq9
      show AW G _ d _ _ 39 [some (.ref 101), some (.int x1), some (.int x2)] [.int a5] (sh, I6, R, L, g) 0 0
      exact AW.iret dX11_why_39 rfl (by decide) (by decide) (by cases h; exact ⟨rfl, rfl⟩)
    · replace h := g_pos (kb_1.mp hc22) h
      refine AW.aload_n dX11_why_25 rfl ?_
      refine AW.iload_n dX11_why_26 rfl ?_
      refine AW.iload_n dX11_why_27 rfl ?_
      obtain ⟨a8, hx10, h⟩ := g_bindE h
      refine AW.callV (b := 101) (As := [.int x1, .int x2]) hG.2.2 (vX11_395 hG) (hm.1 0 _ rfl) (g_X11_answering hK (d := 5) (Nat.le_refl _) hm hx10) (by omega) dX11_why_28 rfl rfl (Nat.le_of_ble_eq_true rfl) (fun v w9 hq9 h09 => by obtain ⟨rfl, rfl⟩ := hq9; exact ⟨h09, rfl⟩) (by decide) (by decide) (fun _ _ hx => hx) (fun v9 w9 hq9 => ?_)
      obtain ⟨rfl, rfl⟩ := hq9
      show AW G _ d _ _ 31 [some (.ref 101), some (.int x1), some (.int x2)] [.int a8] (sh, I1, R, L, g) 0 0
      refine AW.goto 39 dX11_why_31 (by decide) ?_
      exact AW.iret dX11_why_39 rfl (by decide) (by decide) (by cases h; exact ⟨rfl, rfl⟩)
theorem dX11_goodFor_0 : decode cX11_goodFor 0 = .ok (.aload_n 0, 1) := by decide +kernel
theorem dX11_goodFor_1 : decode cX11_goodFor 1 = .ok (.iload_n 1, 1) := by decide +kernel
theorem dX11_goodFor_2 : decode cX11_goodFor 2 = .ok (.iload_n 2, 1) := by decide +kernel
theorem dX11_goodFor_3 : decode cX11_goodFor 3 = .ok (.invokevirtual 403, 3) := by decide +kernel
theorem dX11_goodFor_6 : decode cX11_goodFor 6 = .ok (.iload_n 3, 1) := by decide +kernel
theorem dX11_goodFor_7 : decode cX11_goodFor 7 = .ok (.iconst (-1), 1) := by decide +kernel
theorem dX11_goodFor_8 : decode cX11_goodFor 8 = .ok (.if_icmp .eq 10, 3) := by decide +kernel
theorem dX11_goodFor_11 : decode cX11_goodFor 11 = .ok (.aload_n 0, 1) := by decide +kernel
theorem dX11_goodFor_12 : decode cX11_goodFor 12 = .ok (.getfield 102, 3) := by decide +kernel
theorem dX11_goodFor_15 : decode cX11_goodFor 15 = .ok (.iload_n 3, 1) := by decide +kernel
theorem dX11_goodFor_16 : decode cX11_goodFor 16 = .ok (.iaload, 1) := by decide +kernel
theorem dX11_goodFor_17 : decode cX11_goodFor 17 = .ok (.ireturn, 1) := by decide +kernel
theorem dX11_goodFor_18 : decode cX11_goodFor 18 = .ok (.aload_n 0, 1) := by decide +kernel
theorem dX11_goodFor_19 : decode cX11_goodFor 19 = .ok (.getfield 97, 3) := by decide +kernel
theorem dX11_goodFor_22 : decode cX11_goodFor 22 = .ok (.iconst 0, 1) := by decide +kernel
theorem dX11_goodFor_23 : decode cX11_goodFor 23 = .ok (.iaload, 1) := by decide +kernel
theorem dX11_goodFor_24 : decode cX11_goodFor 24 = .ok (.istore 4, 2) := by decide +kernel
theorem dX11_goodFor_26 : decode cX11_goodFor 26 = .ok (.aload_n 0, 1) := by decide +kernel
theorem dX11_goodFor_27 : decode cX11_goodFor 27 = .ok (.getfield 97, 3) := by decide +kernel
theorem dX11_goodFor_30 : decode cX11_goodFor 30 = .ok (.iconst 0, 1) := by decide +kernel
theorem dX11_goodFor_31 : decode cX11_goodFor 31 = .ok (.iaload, 1) := by decide +kernel
theorem dX11_goodFor_32 : decode cX11_goodFor 32 = .ok (.istore 5, 2) := by decide +kernel
theorem dX11_goodFor_34 : decode cX11_goodFor 34 = .ok (.iconst 1, 1) := by decide +kernel
theorem dX11_goodFor_35 : decode cX11_goodFor 35 = .ok (.istore 6, 2) := by decide +kernel
theorem dX11_goodFor_37 : decode cX11_goodFor 37 = .ok (.iload 6, 2) := by decide +kernel
theorem dX11_goodFor_39 : decode cX11_goodFor 39 = .ok (.aload_n 0, 1) := by decide +kernel
theorem dX11_goodFor_40 : decode cX11_goodFor 40 = .ok (.getfield 371, 3) := by decide +kernel
theorem dX11_goodFor_43 : decode cX11_goodFor 43 = .ok (.if_icmp .ge 37, 3) := by decide +kernel
theorem dX11_goodFor_46 : decode cX11_goodFor 46 = .ok (.iload 4, 2) := by decide +kernel
theorem dX11_goodFor_48 : decode cX11_goodFor 48 = .ok (.aload_n 0, 1) := by decide +kernel
theorem dX11_goodFor_49 : decode cX11_goodFor 49 = .ok (.getfield 97, 3) := by decide +kernel
theorem dX11_goodFor_52 : decode cX11_goodFor 52 = .ok (.iload 6, 2) := by decide +kernel
theorem dX11_goodFor_54 : decode cX11_goodFor 54 = .ok (.iaload, 1) := by decide +kernel
theorem dX11_goodFor_55 : decode cX11_goodFor 55 = .ok (.invokestatic 285, 3) := by decide +kernel
theorem dX11_goodFor_58 : decode cX11_goodFor 58 = .ok (.istore 4, 2) := by decide +kernel
theorem dX11_goodFor_60 : decode cX11_goodFor 60 = .ok (.iload 5, 2) := by decide +kernel
theorem dX11_goodFor_62 : decode cX11_goodFor 62 = .ok (.aload_n 0, 1) := by decide +kernel
theorem dX11_goodFor_63 : decode cX11_goodFor 63 = .ok (.getfield 97, 3) := by decide +kernel
theorem dX11_goodFor_66 : decode cX11_goodFor 66 = .ok (.iload 6, 2) := by decide +kernel
theorem dX11_goodFor_68 : decode cX11_goodFor 68 = .ok (.iaload, 1) := by decide +kernel
theorem dX11_goodFor_69 : decode cX11_goodFor 69 = .ok (.invokestatic 195, 3) := by decide +kernel
theorem dX11_goodFor_72 : decode cX11_goodFor 72 = .ok (.istore 5, 2) := by decide +kernel
theorem dX11_goodFor_74 : decode cX11_goodFor 74 = .ok (.iinc 6 1, 3) := by decide +kernel
theorem dX11_goodFor_77 : decode cX11_goodFor 77 = .ok (.goto (-40), 3) := by decide +kernel
theorem dX11_goodFor_80 : decode cX11_goodFor 80 = .ok (.iload 5, 2) := by decide +kernel
theorem dX11_goodFor_82 : decode cX11_goodFor 82 = .ok (.iload 4, 2) := by decide +kernel
theorem dX11_goodFor_84 : decode cX11_goodFor 84 = .ok (.isub, 1) := by decide +kernel
theorem dX11_goodFor_85 : decode cX11_goodFor 85 = .ok (.ireturn, 1) := by decide +kernel
def b_X11_goodFor_L37 (I : g_I) (K : Int32 → Int32 → Option (Int32 × g_I)) : Nat → Int32 → Int32 → Int32 → Option (Int32 × g_I)
  | 0, _, _, _ => none
  | f + 1, x4, x5, x6 => if (I 101 40) ≤ x6 then K x4 x5 else if g_in x6 6 = true then g_let (g_max x4 (I 123 x6.toNatClampNeg)) fun a6 => if g_in x6 6 = true then g_let (g_min x5 (I 123 x6.toNatClampNeg)) fun a7 => b_X11_goodFor_L37 I K f a6 a7 (x6 + 1) else none else none
def b_X11_goodFor (I : g_I) (x1 : Int32) (x2 : Int32) (x3 : Int32) : Option (Int32 × g_I) :=
  g_bind (b_X11_tellSlices I x1 x2) fun I2 => if x3 = (-1) then g_let (I2 123 0) fun a4 => g_let (I2 123 0) fun a5 => b_X11_goodFor_L37 I2 (fun (a8 : Int32) (a9 : Int32) => some (a9 - a8, I2)) fu a4 a5 1 else if g_in x3 6 = true then some (I2 125 x3.toNatClampNeg, I2) else none
set_option maxRecDepth 100000 in
set_option maxHeartbeats 4000000 in
theorem gL_X11_goodFor_37 {G : am_G} (hK : k_OK G) {d : Nat} (hd : 4 ≤ d) {sh : List (Nat ⊕ (Nat × Nat))} {I : g_I} {R : Nat → Nat → Option Nat} {L : Nat → Nat → Int64} {g : Nat} (hm : k_Mod sh R) {K : Int32 → Int32 → Option (Int32 × g_I)} {x4 : Int32} {x5 : Int32} {x6 : Int32} {f : Nat} {r : Int32 × g_I} (h : b_X11_goodFor_L37 I K f x4 x5 x6 = some r) (hk : ∀ (u4 : Int32) (u5 : Int32), K u4 u5 = some r → AW G mX11_goodFor d (fun v w => v = some (.int r.1) ∧ w = (sh, r.2, R, L, g)) (fun _ _ => False) 80 [none, none, none, none, some (.int u4), some (.int u5), none] [] (sh, I, R, L, g) 0 0) : AW G mX11_goodFor d (fun v w => v = some (.int r.1) ∧ w = (sh, r.2, R, L, g)) (fun _ _ => False) 37 [some (.ref 101), none, none, none, some (.int x4), some (.int x5), some (.int x6)] [] (sh, I, R, L, g) 0 0 := by
  have hG := hK.1
  induction f generalizing x4 x5 x6 with
  | zero => rw [b_X11_goodFor_L37] at h; cases h
  | succ f ih =>
    rw [b_X11_goodFor_L37] at h
    refine AW.iload dX11_goodFor_37 rfl ?_
    refine AW.aload_n dX11_goodFor_39 rfl ?_
    refine AW.getI (fX11_371 hG).r rfl (hm.1 0 _ rfl) dX11_goodFor_40 ?_
    refine AW.icmp_ge 80 dX11_goodFor_43 (by decide) (fun hc43 => ?_) (fun hc43 => ?_)
    · replace h := g_pos hc43 h
      refine AW.mask [0, 6] [none, none, none, none, some (.int x4), some (.int x5), none] rfl ?_
      exact hk _ _ h
    · replace h := g_neg hc43 h
      refine AW.iload dX11_goodFor_46 rfl ?_
      refine AW.aload_n dX11_goodFor_48 rfl ?_
      refine AW.getR (c' := 123) (fX11_97 hG).r rfl (hm.1 0 _ rfl) (hm.2 (0, 37, 22) (by decide)) dX11_goodFor_49 ?_
      refine AW.iload dX11_goodFor_52 rfl ?_
      obtain ⟨hb, h⟩ := g_ifE h
      refine AW.iald (hm.1 22 _ rfl) (g_in_iff.mp hb) dX11_goodFor_54 ?_
      refine AW.mmax (k_c hG 1812 (by decide +kernel) (by decide +kernel)) (k_mmax hG) dX11_goodFor_55 (by omega) (Nat.le_of_ble_eq_true rfl) (by decide) (by decide) ?_
      show AW G _ d _ _ 58 [some (.ref 101), none, none, none, some (.int x4), some (.int x5), some (.int x6)] [.int (g_max x4 (I 123 x6.toNatClampNeg))] (sh, I, R, L, g) 0 0
      obtain ⟨a6, ea6, h⟩ := g_letE h
      refine AW.namE ea6 ?_
      refine AW.is [some (.ref 101), none, none, none, some (.int a6), some (.int x5), some (.int x6)] dX11_goodFor_58 (by decide) rfl rfl ?_
      refine AW.iload dX11_goodFor_60 rfl ?_
      refine AW.aload_n dX11_goodFor_62 rfl ?_
      refine AW.getR (c' := 123) (fX11_97 hG).r rfl (hm.1 0 _ rfl) (hm.2 (0, 37, 22) (by decide)) dX11_goodFor_63 ?_
      refine AW.iload dX11_goodFor_66 rfl ?_
      obtain ⟨hb, h⟩ := g_ifE h
      refine AW.iald (hm.1 22 _ rfl) (g_in_iff.mp hb) dX11_goodFor_68 ?_
      refine AW.mmin (k_c hG 1716 (by decide +kernel) (by decide +kernel)) (k_mmin hG) dX11_goodFor_69 (by omega) (Nat.le_of_ble_eq_true rfl) (by decide) (by decide) ?_
      show AW G _ d _ _ 72 [some (.ref 101), none, none, none, some (.int a6), some (.int x5), some (.int x6)] [.int (g_min x5 (I 123 x6.toNatClampNeg))] (sh, I, R, L, g) 0 0
      obtain ⟨a7, ea7, h⟩ := g_letE h
      refine AW.namE ea7 ?_
      refine AW.is [some (.ref 101), none, none, none, some (.int a6), some (.int a7), some (.int x6)] dX11_goodFor_72 (by decide) rfl rfl ?_
      refine AW.incE 1 (by decide) [some (.ref 101), none, none, none, some (.int a6), some (.int a7), some (.int (x6 + 1))] dX11_goodFor_74 rfl (by decide) rfl rfl ?_
      refine AW.goto 37 dX11_goodFor_77 (by decide) ?_
      exact ih h
set_option maxRecDepth 100000 in
set_option maxHeartbeats 4000000 in
theorem g_X11_goodFor {G : am_G} (hK : k_OK G) {d : Nat} (hd : 4 ≤ d) {sh : List (Nat ⊕ (Nat × Nat))} {I : g_I} {R : Nat → Nat → Option Nat} {L : Nat → Nat → Int64} {g : Nat} (hm : k_Mod sh R) {x1 : Int32} {x2 : Int32} {x3 : Int32} {r : Int32 × g_I} (h : b_X11_goodFor I x1 x2 x3 = some r) : AM G mX11_goodFor d [.ref 101, .int x1, .int x2, .int x3] (sh, I, R, L, g) (fun v w => v = some (.int r.1) ∧ w = (sh, r.2, R, L, g)) (fun _ _ => False) := by
  have hG := hK.1
  refine AM.of (n := 3) (by decide +kernel) (Nat.le_of_ble_eq_true rfl) ?_
  show AW G mX11_goodFor d (fun v w => v = some (.int r.1) ∧ w = (sh, r.2, R, L, g)) (fun _ _ => False) 0 [some (.ref 101), some (.int x1), some (.int x2), some (.int x3), none, none, none] [] (sh, I, R, L, g) 0 0
  unfold b_X11_goodFor at h
  refine AW.aload_n dX11_goodFor_0 rfl ?_
  refine AW.iload_n dX11_goodFor_1 rfl ?_
  refine AW.iload_n dX11_goodFor_2 rfl ?_
  obtain ⟨I2, hx3, h⟩ := g_bindE h
  refine AW.callV (b := 101) (As := [.int x1, .int x2]) hG.2.2 (vX11_403 hG) (hm.1 0 _ rfl) (g_X11_tellSlices hK (d := 3) (Nat.le_refl _) hm hx3) (by omega) dX11_goodFor_3 rfl rfl (Nat.le_of_ble_eq_true rfl) (fun v w9 hq9 h09 => by obtain ⟨rfl, rfl⟩ := hq9; exact ⟨h09, rfl⟩) (by decide) (by decide) (fun _ _ hx => hx) (fun v9 w9 hq9 => ?_)
  obtain ⟨rfl, rfl⟩ := hq9
  show AW G _ d _ _ 6 [some (.ref 101), some (.int x1), some (.int x2), some (.int x3), none, none, none] [] (sh, I2, R, L, g) 0 0
  refine AW.iload_n dX11_goodFor_6 rfl ?_
  refine AW.iconst (-1) dX11_goodFor_7 (by decide) ?_
  refine AW.icmp_eq 18 dX11_goodFor_8 (by decide) (fun hc8 => ?_) (fun hc8 => ?_)
  · replace h := g_pos hc8 h
    refine AW.aload_n dX11_goodFor_18 rfl ?_
    refine AW.getR (c' := 123) (fX11_97 hG).r rfl (hm.1 0 _ rfl) (hm.2 (0, 37, 22) (by decide)) dX11_goodFor_19 ?_
    refine AW.iconst 0 dX11_goodFor_22 (by decide) ?_
    refine AW.iald (hm.1 22 _ rfl) (by unfold vp_in; decide) dX11_goodFor_23 ?_
    show AW G _ d _ _ 24 [some (.ref 101), some (.int x1), some (.int x2), some (.int x3), none, none, none] [.int (I2 123 0)] (sh, I2, R, L, g) 0 0
    obtain ⟨a4, ea4, h⟩ := g_letE h
    refine AW.namE ea4 ?_
    refine AW.is [some (.ref 101), some (.int x1), some (.int x2), some (.int x3), some (.int a4), none, none] dX11_goodFor_24 (by decide) rfl rfl ?_
    refine AW.aload_n dX11_goodFor_26 rfl ?_
    refine AW.getR (c' := 123) (fX11_97 hG).r rfl (hm.1 0 _ rfl) (hm.2 (0, 37, 22) (by decide)) dX11_goodFor_27 ?_
    refine AW.iconst 0 dX11_goodFor_30 (by decide) ?_
    refine AW.iald (hm.1 22 _ rfl) (by unfold vp_in; decide) dX11_goodFor_31 ?_
    show AW G _ d _ _ 32 [some (.ref 101), some (.int x1), some (.int x2), some (.int x3), some (.int a4), none, none] [.int (I2 123 0)] (sh, I2, R, L, g) 0 0
    obtain ⟨a5, ea5, h⟩ := g_letE h
    refine AW.namE ea5 ?_
    refine AW.is [some (.ref 101), some (.int x1), some (.int x2), some (.int x3), some (.int a4), some (.int a5), none] dX11_goodFor_32 (by decide) rfl rfl ?_
    refine AW.iconst 1 dX11_goodFor_34 (by decide) ?_
    refine AW.is [some (.ref 101), some (.int x1), some (.int x2), some (.int x3), some (.int a4), some (.int a5), some (.int 1)] dX11_goodFor_35 (by decide) rfl rfl ?_
    refine AW.mask [1, 2, 3] [some (.ref 101), none, none, none, some (.int a4), some (.int a5), some (.int 1)] rfl ?_
    refine gL_X11_goodFor_37 hK hd hm h (fun a8 a9 h => ?_)
    refine AW.iload dX11_goodFor_80 rfl ?_
    refine AW.iload dX11_goodFor_82 rfl ?_
    refine AW.isub dX11_goodFor_84 ?_
    exact AW.iret dX11_goodFor_85 rfl (by decide) (by decide) (by cases h; exact ⟨rfl, rfl⟩)
  · replace h := g_neg hc8 h
    refine AW.aload_n dX11_goodFor_11 rfl ?_
    refine AW.getR (c' := 125) (fX11_102 hG).r rfl (hm.1 0 _ rfl) (hm.2 (0, 39, 24) (by decide)) dX11_goodFor_12 ?_
    refine AW.iload_n dX11_goodFor_15 rfl ?_
    obtain ⟨hb, h⟩ := g_ifE h
    refine AW.iald (hm.1 24 _ rfl) (g_in_iff.mp hb) dX11_goodFor_16 ?_
    exact AW.iret dX11_goodFor_17 rfl (by decide) (by decide) (by cases h; exact ⟨rfl, rfl⟩)
theorem dX11_fairest_0 : decode cX11_fairest 0 = .ok (.aload_n 0, 1) := by decide +kernel
theorem dX11_fairest_1 : decode cX11_fairest 1 = .ok (.iconst 0, 1) := by decide +kernel
theorem dX11_fairest_2 : decode cX11_fairest 2 = .ok (.putfield 159, 3) := by decide +kernel
theorem dX11_fairest_5 : decode cX11_fairest 5 = .ok (.aload_n 0, 1) := by decide +kernel
theorem dX11_fairest_6 : decode cX11_fairest 6 = .ok (.iload_n 1, 1) := by decide +kernel
theorem dX11_fairest_7 : decode cX11_fairest 7 = .ok (.invokevirtual 392, 3) := by decide +kernel
theorem dX11_fairest_10 : decode cX11_fairest 10 = .ok (.ifCond .eq 23, 3) := by decide +kernel
theorem dX11_fairest_13 : decode cX11_fairest 13 = .ok (.iload_n 2, 1) := by decide +kernel
theorem dX11_fairest_14 : decode cX11_fairest 14 = .ok (.i2l, 1) := by decide +kernel
theorem dX11_fairest_15 : decode cX11_fairest 15 = .ok (.ldc2_w 401, 3) := by decide +kernel
theorem dX11_fairest_18 : decode cX11_fairest 18 = .ok (.aload_n 0, 1) := by decide +kernel
theorem dX11_fairest_19 : decode cX11_fairest 19 = .ok (.getfield 61, 3) := by decide +kernel
theorem dX11_fairest_22 : decode cX11_fairest 22 = .ok (.iload_n 1, 1) := by decide +kernel
theorem dX11_fairest_23 : decode cX11_fairest 23 = .ok (.iaload, 1) := by decide +kernel
theorem dX11_fairest_24 : decode cX11_fairest 24 = .ok (.iconst 1, 1) := by decide +kernel
theorem dX11_fairest_25 : decode cX11_fairest 25 = .ok (.isub, 1) := by decide +kernel
theorem dX11_fairest_26 : decode cX11_fairest 26 = .ok (.i2l, 1) := by decide +kernel
theorem dX11_fairest_27 : decode cX11_fairest 27 = .ok (.invokestatic 162, 3) := by decide +kernel
theorem dX11_fairest_30 : decode cX11_fairest 30 = .ok (.ifCond .ne 9, 3) := by decide +kernel
theorem dX11_fairest_33 : decode cX11_fairest 33 = .ok (.aload_n 0, 1) := by decide +kernel
theorem dX11_fairest_34 : decode cX11_fairest 34 = .ok (.iconst 1, 1) := by decide +kernel
theorem dX11_fairest_35 : decode cX11_fairest 35 = .ok (.invokevirtual 307, 3) := by decide +kernel
theorem dX11_fairest_38 : decode cX11_fairest 38 = .ok (.ireturn, 1) := by decide +kernel
theorem dX11_fairest_39 : decode cX11_fairest 39 = .ok (.iconst (-1), 1) := by decide +kernel
theorem dX11_fairest_40 : decode cX11_fairest 40 = .ok (.istore_n 3, 1) := by decide +kernel
theorem dX11_fairest_41 : decode cX11_fairest 41 = .ok (.iconst 0, 1) := by decide +kernel
theorem dX11_fairest_42 : decode cX11_fairest 42 = .ok (.istore 4, 2) := by decide +kernel
theorem dX11_fairest_44 : decode cX11_fairest 44 = .ok (.iconst 0, 1) := by decide +kernel
theorem dX11_fairest_45 : decode cX11_fairest 45 = .ok (.istore 5, 2) := by decide +kernel
theorem dX11_fairest_47 : decode cX11_fairest 47 = .ok (.iload 5, 2) := by decide +kernel
theorem dX11_fairest_49 : decode cX11_fairest 49 = .ok (.aload_n 0, 1) := by decide +kernel
theorem dX11_fairest_50 : decode cX11_fairest 50 = .ok (.getfield 38, 3) := by decide +kernel
theorem dX11_fairest_53 : decode cX11_fairest 53 = .ok (.iconst 0, 1) := by decide +kernel
theorem dX11_fairest_54 : decode cX11_fairest 54 = .ok (.iaload, 1) := by decide +kernel
theorem dX11_fairest_55 : decode cX11_fairest 55 = .ok (.if_icmp .ge 54, 3) := by decide +kernel
theorem dX11_fairest_58 : decode cX11_fairest 58 = .ok (.aload_n 0, 1) := by decide +kernel
theorem dX11_fairest_59 : decode cX11_fairest 59 = .ok (.iload 5, 2) := by decide +kernel
theorem dX11_fairest_61 : decode cX11_fairest 61 = .ok (.iload_n 1, 1) := by decide +kernel
theorem dX11_fairest_62 : decode cX11_fairest 62 = .ok (.invokevirtual 364, 3) := by decide +kernel
theorem dX11_fairest_65 : decode cX11_fairest 65 = .ok (.ifCond .ne 6, 3) := by decide +kernel
theorem dX11_fairest_68 : decode cX11_fairest 68 = .ok (.goto 35, 3) := by decide +kernel
theorem dX11_fairest_71 : decode cX11_fairest 71 = .ok (.aload_n 0, 1) := by decide +kernel
theorem dX11_fairest_72 : decode cX11_fairest 72 = .ok (.iload 5, 2) := by decide +kernel
theorem dX11_fairest_74 : decode cX11_fairest 74 = .ok (.iload_n 1, 1) := by decide +kernel
theorem dX11_fairest_75 : decode cX11_fairest 75 = .ok (.iload_n 2, 1) := by decide +kernel
theorem dX11_fairest_76 : decode cX11_fairest 76 = .ok (.invokevirtual 480, 3) := by decide +kernel
theorem dX11_fairest_79 : decode cX11_fairest 79 = .ok (.istore 6, 2) := by decide +kernel
theorem dX11_fairest_81 : decode cX11_fairest 81 = .ok (.iload_n 3, 1) := by decide +kernel
theorem dX11_fairest_82 : decode cX11_fairest 82 = .ok (.iconst (-1), 1) := by decide +kernel
theorem dX11_fairest_83 : decode cX11_fairest 83 = .ok (.if_icmp .eq 13, 3) := by decide +kernel
theorem dX11_fairest_86 : decode cX11_fairest 86 = .ok (.iload 6, 2) := by decide +kernel
theorem dX11_fairest_88 : decode cX11_fairest 88 = .ok (.iload 4, 2) := by decide +kernel
theorem dX11_fairest_90 : decode cX11_fairest 90 = .ok (.if_icmp .gt 6, 3) := by decide +kernel
theorem dX11_fairest_93 : decode cX11_fairest 93 = .ok (.goto 10, 3) := by decide +kernel
theorem dX11_fairest_96 : decode cX11_fairest 96 = .ok (.iload 5, 2) := by decide +kernel
theorem dX11_fairest_98 : decode cX11_fairest 98 = .ok (.istore_n 3, 1) := by decide +kernel
theorem dX11_fairest_99 : decode cX11_fairest 99 = .ok (.iload 6, 2) := by decide +kernel
theorem dX11_fairest_101 : decode cX11_fairest 101 = .ok (.istore 4, 2) := by decide +kernel
theorem dX11_fairest_103 : decode cX11_fairest 103 = .ok (.iinc 5 1, 3) := by decide +kernel
theorem dX11_fairest_106 : decode cX11_fairest 106 = .ok (.goto (-59), 3) := by decide +kernel
theorem dX11_fairest_109 : decode cX11_fairest 109 = .ok (.iload_n 3, 1) := by decide +kernel
theorem dX11_fairest_110 : decode cX11_fairest 110 = .ok (.ireturn, 1) := by decide +kernel
def b_X11_fairest_L47 (y1 : Int32) (y2 : Int32) (K : Int32 → g_I → Option (Int32 × g_I)) : Nat → Int32 → Int32 → Int32 → g_I → Option (Int32 × g_I)
  | 0, _, _, _, _ => none
  | f + 1, x3, x4, x5, I => if (I 104 0) ≤ x5 then K x3 I else g_bind (b_X11_canCut I x5 y1) fun t5 => if t5 = true then g_bind2 (b_X11_goodFor I x5 y1 y2) fun a8 I9 => if x3 = (-1) then b_X11_fairest_L47 y1 y2 K f x5 a8 (x5 + 1) I9 else if x4 < a8 then b_X11_fairest_L47 y1 y2 K f x5 a8 (x5 + 1) I9 else b_X11_fairest_L47 y1 y2 K f x3 x4 (x5 + 1) I9 else b_X11_fairest_L47 y1 y2 K f x3 x4 (x5 + 1) I
def b_X11_fairest (I : g_I) (x1 : Int32) (x2 : Int32) : Option (Int32 × g_I) :=
  g_let (am_up I 101 2 0) fun I1 => if b_X11_isLoaf I1 x1 = true then if g_in x1 12 = true then if b_X11_isIn (x2.toInt64) (-1) (((I1 112 x1.toNatClampNeg) - 1).toInt64) = true then b_X11_fairest_L47 x1 x2 (fun (a11 : Int32) (I12 : g_I) => some (a11, I12)) fu (-1) 0 0 I1 else g_bind2 (b_X11_fail I1 1) fun a13 I14 => some (a13, I14) else none else g_bind2 (b_X11_fail I1 1) fun a2 I3 => some (a2, I3)
set_option maxRecDepth 100000 in
set_option maxHeartbeats 4000000 in
theorem gL_X11_fairest_47 {G : am_G} (hK : k_OK G) {d : Nat} (hd : 6 ≤ d) {sh : List (Nat ⊕ (Nat × Nat))} {I : g_I} {R : Nat → Nat → Option Nat} {L : Nat → Nat → Int64} {g : Nat} (hm : k_Mod sh R) {y1 : Int32} {y2 : Int32} {K : Int32 → g_I → Option (Int32 × g_I)} {x3 : Int32} {x4 : Int32} {x5 : Int32} {f : Nat} {r : Int32 × g_I} (h : b_X11_fairest_L47 y1 y2 K f x3 x4 x5 I = some r) (hk : ∀ (u3 : Int32) (J : g_I), K u3 J = some r → AW G mX11_fairest d (fun v w => v = some (.int r.1) ∧ w = (sh, r.2, R, L, g)) (fun _ _ => False) 109 [none, none, none, some (.int u3), none, none, none] [] (sh, J, R, L, g) 0 0) : AW G mX11_fairest d (fun v w => v = some (.int r.1) ∧ w = (sh, r.2, R, L, g)) (fun _ _ => False) 47 [some (.ref 101), some (.int y1), some (.int y2), some (.int x3), some (.int x4), some (.int x5), none] [] (sh, I, R, L, g) 0 0 := by
  have hG := hK.1
  induction f generalizing x3 x4 x5 I with
  | zero => rw [b_X11_fairest_L47] at h; cases h
  | succ f ih =>
    rw [b_X11_fairest_L47] at h
    refine AW.iload dX11_fairest_47 rfl ?_
    refine AW.aload_n dX11_fairest_49 rfl ?_
    refine AW.getR (c' := 104) (fX11_38 hG).r rfl (hm.1 0 _ rfl) (hm.2 (0, 3, 3) (by decide)) dX11_fairest_50 ?_
    refine AW.iconst 0 dX11_fairest_53 (by decide) ?_
    refine AW.iald (hm.1 3 _ rfl) (by unfold vp_in; decide) dX11_fairest_54 ?_
    show AW G _ d _ _ 55 [some (.ref 101), some (.int y1), some (.int y2), some (.int x3), some (.int x4), some (.int x5), none] [.int (I 104 0), .int x5] (sh, I, R, L, g) 0 0
    refine AW.icmp_ge 109 dX11_fairest_55 (by decide) (fun hc55 => ?_) (fun hc55 => ?_)
    · replace h := g_pos hc55 h
      refine AW.mask [0, 1, 2, 4, 5] [none, none, none, some (.int x3), none, none, none] rfl ?_
      exact hk _ _ h
    · replace h := g_neg hc55 h
      refine AW.aload_n dX11_fairest_58 rfl ?_
      refine AW.iload dX11_fairest_59 rfl ?_
      refine AW.iload_n dX11_fairest_61 rfl ?_
      obtain ⟨t5, hx7, h⟩ := g_bindE h
      refine AW.callV (b := 101) (As := [.int x5, .int y1]) hG.2.2 (vX11_364 hG) (hm.1 0 _ rfl) (g_X11_canCut hK (d := 5) (Nat.le_refl _) hm hx7) (by omega) dX11_fairest_62 rfl rfl (Nat.le_of_ble_eq_true rfl) (fun v w9 hq9 h09 => by obtain ⟨rfl, rfl⟩ := hq9; exact ⟨h09, rfl⟩) (by decide) (by decide) (fun _ _ hx => hx) (fun v9 w9 hq9 => ?_)
      obtain ⟨rfl, rfl⟩ := hq9
      show AW G _ d _ _ 65 [some (.ref 101), some (.int y1), some (.int y2), some (.int x3), some (.int x4), some (.int x5), none] [.int (kb t5)] (sh, I, R, L, g) 0 0
      refine AW.if_ne 71 dX11_fairest_65 (by decide) (fun hc65 => ?_) (fun hc65 => ?_)
      · replace h := g_pos (kb_1.mp hc65) h
        refine AW.aload_n dX11_fairest_71 rfl ?_
        refine AW.iload dX11_fairest_72 rfl ?_
        refine AW.iload_n dX11_fairest_74 rfl ?_
        refine AW.iload_n dX11_fairest_75 rfl ?_
        obtain ⟨a8, I9, hx10, h⟩ := g_bind2E h
        refine AW.callV (b := 101) (As := [.int x5, .int y1, .int y2]) hG.2.2 (vX11_480 hG) (hm.1 0 _ rfl) (g_X11_goodFor hK (d := 4) (Nat.le_refl _) hm hx10) (by omega) dX11_fairest_76 rfl rfl (Nat.le_of_ble_eq_true rfl) (fun v w9 hq9 h09 => by obtain ⟨rfl, rfl⟩ := hq9; exact ⟨h09, rfl⟩) (by decide) (by decide) (fun _ _ hx => hx) (fun v9 w9 hq9 => ?_)
        obtain ⟨rfl, rfl⟩ := hq9
        show AW G _ d _ _ 79 [some (.ref 101), some (.int y1), some (.int y2), some (.int x3), some (.int x4), some (.int x5), none] [.int a8] (sh, I9, R, L, g) 0 0
        refine AW.is [some (.ref 101), some (.int y1), some (.int y2), some (.int x3), some (.int x4), some (.int x5), some (.int a8)] dX11_fairest_79 (by decide) rfl rfl ?_
        refine AW.iload_n dX11_fairest_81 rfl ?_
        refine AW.iconst (-1) dX11_fairest_82 (by decide) ?_
        refine AW.icmp_eq 96 dX11_fairest_83 (by decide) (fun hc83 => ?_) (fun hc83 => ?_)
        · replace h := g_pos hc83 h
          refine AW.iload dX11_fairest_96 rfl ?_
          refine AW.is_n [some (.ref 101), some (.int y1), some (.int y2), some (.int x5), some (.int x4), some (.int x5), some (.int a8)] dX11_fairest_98 (by decide) rfl rfl ?_
          refine AW.iload dX11_fairest_99 rfl ?_
          refine AW.is [some (.ref 101), some (.int y1), some (.int y2), some (.int x5), some (.int a8), some (.int x5), some (.int a8)] dX11_fairest_101 (by decide) rfl rfl ?_
          refine AW.incE 1 (by decide) [some (.ref 101), some (.int y1), some (.int y2), some (.int x5), some (.int a8), some (.int (x5 + 1)), some (.int a8)] dX11_fairest_103 rfl (by decide) rfl rfl ?_
          refine AW.goto 47 dX11_fairest_106 (by decide) ?_
          refine AW.mask [6] [some (.ref 101), some (.int y1), some (.int y2), some (.int x5), some (.int a8), some (.int (x5 + 1)), none] rfl ?_
          exact ih h
        · replace h := g_neg hc83 h
          refine AW.iload dX11_fairest_86 rfl ?_
          refine AW.iload dX11_fairest_88 rfl ?_
          refine AW.icmp_gt 96 dX11_fairest_90 (by decide) (fun hc90 => ?_) (fun hc90 => ?_)
          · replace h := g_pos hc90 h
            refine AW.iload dX11_fairest_96 rfl ?_
            refine AW.is_n [some (.ref 101), some (.int y1), some (.int y2), some (.int x5), some (.int x4), some (.int x5), some (.int a8)] dX11_fairest_98 (by decide) rfl rfl ?_
            refine AW.iload dX11_fairest_99 rfl ?_
            refine AW.is [some (.ref 101), some (.int y1), some (.int y2), some (.int x5), some (.int a8), some (.int x5), some (.int a8)] dX11_fairest_101 (by decide) rfl rfl ?_
            refine AW.incE 1 (by decide) [some (.ref 101), some (.int y1), some (.int y2), some (.int x5), some (.int a8), some (.int (x5 + 1)), some (.int a8)] dX11_fairest_103 rfl (by decide) rfl rfl ?_
            refine AW.goto 47 dX11_fairest_106 (by decide) ?_
            refine AW.mask [6] [some (.ref 101), some (.int y1), some (.int y2), some (.int x5), some (.int a8), some (.int (x5 + 1)), none] rfl ?_
            exact ih h
          · replace h := g_neg hc90 h
            refine AW.goto 103 dX11_fairest_93 (by decide) ?_
            refine AW.incE 1 (by decide) [some (.ref 101), some (.int y1), some (.int y2), some (.int x3), some (.int x4), some (.int (x5 + 1)), some (.int a8)] dX11_fairest_103 rfl (by decide) rfl rfl ?_
            refine AW.goto 47 dX11_fairest_106 (by decide) ?_
            refine AW.mask [6] [some (.ref 101), some (.int y1), some (.int y2), some (.int x3), some (.int x4), some (.int (x5 + 1)), none] rfl ?_
            exact ih h
      · replace h := g_neg (g_kb0 hc65) h
        refine AW.goto 103 dX11_fairest_68 (by decide) ?_
        refine AW.incE 1 (by decide) [some (.ref 101), some (.int y1), some (.int y2), some (.int x3), some (.int x4), some (.int (x5 + 1)), none] dX11_fairest_103 rfl (by decide) rfl rfl ?_
        refine AW.goto 47 dX11_fairest_106 (by decide) ?_
        exact ih h
set_option maxRecDepth 100000 in
set_option maxHeartbeats 4000000 in
theorem g_X11_fairest {G : am_G} (hK : k_OK G) {d : Nat} (hd : 6 ≤ d) {sh : List (Nat ⊕ (Nat × Nat))} {I : g_I} {R : Nat → Nat → Option Nat} {L : Nat → Nat → Int64} {g : Nat} (hm : k_Mod sh R) {x1 : Int32} {x2 : Int32} {r : Int32 × g_I} (h : b_X11_fairest I x1 x2 = some r) : AM G mX11_fairest d [.ref 101, .int x1, .int x2] (sh, I, R, L, g) (fun v w => v = some (.int r.1) ∧ w = (sh, r.2, R, L, g)) (fun _ _ => False) := by
  have hG := hK.1
  refine AM.of (n := 4) (by decide +kernel) (Nat.le_of_ble_eq_true rfl) ?_
  show AW G mX11_fairest d (fun v w => v = some (.int r.1) ∧ w = (sh, r.2, R, L, g)) (fun _ _ => False) 0 [some (.ref 101), some (.int x1), some (.int x2), none, none, none, none] [] (sh, I, R, L, g) 0 0
  unfold b_X11_fairest at h
  refine AW.aload_n dX11_fairest_0 rfl ?_
  refine AW.iconst 0 dX11_fairest_1 (by decide) ?_
  refine AW.putI (fX11_159 hG) rfl (vp_nar_int _) rfl (hm.1 0 _ rfl) dX11_fairest_2 ?_
  obtain ⟨I1, eI1, h⟩ := g_letE h
  refine AW.namIE eI1 ?_
  refine AW.aload_n dX11_fairest_5 rfl ?_
  refine AW.iload_n dX11_fairest_6 rfl ?_
  refine AW.callV (b := 101) (As := [.int x1]) hG.2.2 (vX11_392 hG) (hm.1 0 _ rfl) (g_X11_isLoaf hK (d := 1) (Nat.le_refl _) hm) (by omega) dX11_fairest_7 rfl rfl (Nat.le_of_ble_eq_true rfl) (fun v w9 hq9 h09 => by obtain ⟨rfl, rfl⟩ := hq9; exact ⟨h09, rfl⟩) (by decide) (by decide) (fun _ _ hx => hx) (fun v9 w9 hq9 => ?_)
  obtain ⟨rfl, rfl⟩ := hq9
  show AW G _ d _ _ 10 [some (.ref 101), some (.int x1), some (.int x2), none, none, none, none] [.int (kb (b_X11_isLoaf I1 x1))] (sh, I1, R, L, g) 0 0
  refine AW.if_eq 33 dX11_fairest_10 (by decide) (fun hc10 => ?_) (fun hc10 => ?_)
  · replace h := g_neg (g_kb0 hc10) h
    refine AW.aload_n dX11_fairest_33 rfl ?_
    refine AW.iconst 1 dX11_fairest_34 (by decide) ?_
    obtain ⟨a2, I3, hx4, h⟩ := g_bind2E h
    refine AW.callV (b := 101) (As := [.int 1]) hG.2.2 (vX11_307 hG) (hm.1 0 _ rfl) (g_X11_fail hK (d := 0) (Nat.le_refl _) hm hx4) (by omega) dX11_fairest_35 rfl rfl (Nat.le_of_ble_eq_true rfl) (fun v w9 hq9 h09 => by obtain ⟨rfl, rfl⟩ := hq9; exact ⟨h09, rfl⟩) (by decide) (by decide) (fun _ _ hx => hx) (fun v9 w9 hq9 => ?_)
    obtain ⟨rfl, rfl⟩ := hq9
    show AW G _ d _ _ 38 [some (.ref 101), some (.int x1), some (.int x2), none, none, none, none] [.int a2] (sh, I3, R, L, g) 0 0
    exact AW.iret dX11_fairest_38 rfl (by decide) (by decide) (by cases h; exact ⟨rfl, rfl⟩)
  · replace h := g_pos (kb_1.mp hc10) h
    refine AW.iload_n dX11_fairest_13 rfl ?_
    refine AW.i2l dX11_fairest_14 ?_
    refine AW.ldc2 (-1) dX11_fairest_15 (k_c hG 1907 (by decide +kernel) (by decide +kernel)) ?_
    refine AW.aload_n dX11_fairest_18 rfl ?_
    refine AW.getR (c' := 112) (fX11_61 hG).r rfl (hm.1 0 _ rfl) (hm.2 (0, 11, 11) (by decide)) dX11_fairest_19 ?_
    refine AW.iload_n dX11_fairest_22 rfl ?_
    obtain ⟨hb, h⟩ := g_ifE h
    refine AW.iald (hm.1 11 _ rfl) (g_in_iff.mp hb) dX11_fairest_23 ?_
    refine AW.iconst 1 dX11_fairest_24 (by decide) ?_
    refine AW.isub dX11_fairest_25 ?_
    refine AW.i2l dX11_fairest_26 ?_
    refine AW.callS (As := [.long (x2.toInt64), .long (-1), .long (((I1 112 x1.toNatClampNeg) - 1).toInt64)]) hG.2.2 (vX11_162 hG) (g_X11_isIn hK (d := 0) (Nat.le_refl _) (x2.toInt64) (-1) (((I1 112 x1.toNatClampNeg) - 1).toInt64)) (by omega) dX11_fairest_27 rfl rfl (Nat.le_of_ble_eq_true rfl) (fun v w9 hq9 h09 => by obtain ⟨rfl, rfl⟩ := hq9; exact ⟨h09, rfl⟩) (by decide) (by decide) (fun _ _ hx => hx) (fun v9 w9 hq9 => ?_)
    obtain ⟨rfl, rfl⟩ := hq9
    show AW G _ d _ _ 30 [some (.ref 101), some (.int x1), some (.int x2), none, none, none, none] [.int (kb (b_X11_isIn (x2.toInt64) (-1) (((I1 112 x1.toNatClampNeg) - 1).toInt64)))] (sh, I1, R, L, g) 0 0
    refine AW.if_ne 39 dX11_fairest_30 (by decide) (fun hc30 => ?_) (fun hc30 => ?_)
    · replace h := g_pos (kb_1.mp hc30) h
      refine AW.iconst (-1) dX11_fairest_39 (by decide) ?_
      refine AW.is_n [some (.ref 101), some (.int x1), some (.int x2), some (.int (-1)), none, none, none] dX11_fairest_40 (by decide) rfl rfl ?_
      refine AW.iconst 0 dX11_fairest_41 (by decide) ?_
      refine AW.is [some (.ref 101), some (.int x1), some (.int x2), some (.int (-1)), some (.int 0), none, none] dX11_fairest_42 (by decide) rfl rfl ?_
      refine AW.iconst 0 dX11_fairest_44 (by decide) ?_
      refine AW.is [some (.ref 101), some (.int x1), some (.int x2), some (.int (-1)), some (.int 0), some (.int 0), none] dX11_fairest_45 (by decide) rfl rfl ?_
      refine gL_X11_fairest_47 hK hd hm h (fun a11 I12 h => ?_)
      refine AW.iload_n dX11_fairest_109 rfl ?_
      exact AW.iret dX11_fairest_110 rfl (by decide) (by decide) (by cases h; exact ⟨rfl, rfl⟩)
    · replace h := g_neg (g_kb0 hc30) h
      refine AW.aload_n dX11_fairest_33 rfl ?_
      refine AW.iconst 1 dX11_fairest_34 (by decide) ?_
      obtain ⟨a13, I14, hx15, h⟩ := g_bind2E h
      refine AW.callV (b := 101) (As := [.int 1]) hG.2.2 (vX11_307 hG) (hm.1 0 _ rfl) (g_X11_fail hK (d := 0) (Nat.le_refl _) hm hx15) (by omega) dX11_fairest_35 rfl rfl (Nat.le_of_ble_eq_true rfl) (fun v w9 hq9 h09 => by obtain ⟨rfl, rfl⟩ := hq9; exact ⟨h09, rfl⟩) (by decide) (by decide) (fun _ _ hx => hx) (fun v9 w9 hq9 => ?_)
      obtain ⟨rfl, rfl⟩ := hq9
      show AW G _ d _ _ 38 [some (.ref 101), some (.int x1), some (.int x2), none, none, none, none] [.int a13] (sh, I14, R, L, g) 0 0
      exact AW.iret dX11_fairest_38 rfl (by decide) (by decide) (by cases h; exact ⟨rfl, rfl⟩)
theorem dX11_forget_0 : decode cX11_forget 0 = .ok (.aload_n 0, 1) := by decide +kernel
theorem dX11_forget_1 : decode cX11_forget 1 = .ok (.iconst 0, 1) := by decide +kernel
theorem dX11_forget_2 : decode cX11_forget 2 = .ok (.putfield 159, 3) := by decide +kernel
theorem dX11_forget_5 : decode cX11_forget 5 = .ok (.aload_n 0, 1) := by decide +kernel
theorem dX11_forget_6 : decode cX11_forget 6 = .ok (.iconst 0, 1) := by decide +kernel
theorem dX11_forget_7 : decode cX11_forget 7 = .ok (.putfield 330, 3) := by decide +kernel
theorem dX11_forget_10 : decode cX11_forget 10 = .ok (.aload_n 0, 1) := by decide +kernel
theorem dX11_forget_11 : decode cX11_forget 11 = .ok (.iconst 0, 1) := by decide +kernel
theorem dX11_forget_12 : decode cX11_forget 12 = .ok (.putfield 333, 3) := by decide +kernel
theorem dX11_forget_15 : decode cX11_forget 15 = .ok (.return_, 1) := by decide +kernel
def b_X11_forget (I : g_I) : Option (g_I) :=
  g_let (am_up I 101 2 0) fun I1 => g_let (am_up I1 101 33 0) fun I2 => g_let (am_up I2 101 34 0) fun I3 => some I3
set_option maxRecDepth 100000 in
set_option maxHeartbeats 4000000 in
theorem g_X11_forget {G : am_G} (hK : k_OK G) {d : Nat} (hd : 0 ≤ d) {sh : List (Nat ⊕ (Nat × Nat))} {I : g_I} {R : Nat → Nat → Option Nat} {L : Nat → Nat → Int64} {g : Nat} (hm : k_Mod sh R) {r : g_I} (h : b_X11_forget I = some r) : AM G mX11_forget d [.ref 101] (sh, I, R, L, g) (fun v w => v = none ∧ w = (sh, r, R, L, g)) (fun _ _ => False) := by
  have hG := hK.1
  refine AM.of (n := 0) (by decide +kernel) (Nat.le_of_ble_eq_true rfl) ?_
  show AW G mX11_forget d (fun v w => v = none ∧ w = (sh, r, R, L, g)) (fun _ _ => False) 0 [some (.ref 101)] [] (sh, I, R, L, g) 0 0
  unfold b_X11_forget at h
  refine AW.aload_n dX11_forget_0 rfl ?_
  refine AW.iconst 0 dX11_forget_1 (by decide) ?_
  refine AW.putI (fX11_159 hG) rfl (vp_nar_int _) rfl (hm.1 0 _ rfl) dX11_forget_2 ?_
  obtain ⟨I1, eI1, h⟩ := g_letE h
  refine AW.namIE eI1 ?_
  refine AW.aload_n dX11_forget_5 rfl ?_
  refine AW.iconst 0 dX11_forget_6 (by decide) ?_
  refine AW.putI (fX11_330 hG) rfl (vp_nar_int _) rfl (hm.1 0 _ rfl) dX11_forget_7 ?_
  obtain ⟨I2, eI2, h⟩ := g_letE h
  refine AW.namIE eI2 ?_
  refine AW.aload_n dX11_forget_10 rfl ?_
  refine AW.iconst 0 dX11_forget_11 (by decide) ?_
  refine AW.putI (fX11_333 hG) rfl (vp_nar_int _) rfl (hm.1 0 _ rfl) dX11_forget_12 ?_
  obtain ⟨I3, eI3, h⟩ := g_letE h
  refine AW.namIE eI3 ?_
  exact AW.vret dX11_forget_15 rfl (by decide) (by decide) (by cases h; exact ⟨rfl, rfl⟩)
theorem dX11_gain_0 : decode cX11_gain 0 = .ok (.iload_n 2, 1) := by decide +kernel
theorem dX11_gain_1 : decode cX11_gain 1 = .ok (.iload_n 3, 1) := by decide +kernel
theorem dX11_gain_2 : decode cX11_gain 2 = .ok (.if_icmp .eq 21, 3) := by decide +kernel
theorem dX11_gain_5 : decode cX11_gain 5 = .ok (.aload_n 0, 1) := by decide +kernel
theorem dX11_gain_6 : decode cX11_gain 6 = .ok (.iload_n 1, 1) := by decide +kernel
theorem dX11_gain_7 : decode cX11_gain 7 = .ok (.iload_n 2, 1) := by decide +kernel
theorem dX11_gain_8 : decode cX11_gain 8 = .ok (.invokevirtual 364, 3) := by decide +kernel
theorem dX11_gain_11 : decode cX11_gain 11 = .ok (.ifCond .eq 12, 3) := by decide +kernel
theorem dX11_gain_14 : decode cX11_gain 14 = .ok (.aload_n 0, 1) := by decide +kernel
theorem dX11_gain_15 : decode cX11_gain 15 = .ok (.getfield 52, 3) := by decide +kernel
theorem dX11_gain_18 : decode cX11_gain 18 = .ok (.iload_n 2, 1) := by decide +kernel
theorem dX11_gain_19 : decode cX11_gain 19 = .ok (.iaload, 1) := by decide +kernel
theorem dX11_gain_20 : decode cX11_gain 20 = .ok (.goto 4, 3) := by decide +kernel
theorem dX11_gain_23 : decode cX11_gain 23 = .ok (.iconst 0, 1) := by decide +kernel
theorem dX11_gain_24 : decode cX11_gain 24 = .ok (.ireturn, 1) := by decide +kernel
def b_X11_gain (I : g_I) (x1 : Int32) (x2 : Int32) (x3 : Int32) : Option (Int32) :=
  if x2 = x3 then some 0 else g_bind (b_X11_canCut I x1 x2) fun t1 => if t1 = true then if g_in x2 12 = true then some (I 109 x2.toNatClampNeg) else none else some 0
set_option maxRecDepth 100000 in
set_option maxHeartbeats 4000000 in
theorem g_X11_gain {G : am_G} (hK : k_OK G) {d : Nat} (hd : 6 ≤ d) {sh : List (Nat ⊕ (Nat × Nat))} {I : g_I} {R : Nat → Nat → Option Nat} {L : Nat → Nat → Int64} {g : Nat} (hm : k_Mod sh R) {x1 : Int32} {x2 : Int32} {x3 : Int32} {r : Int32} (h : b_X11_gain I x1 x2 x3 = some r) : AM G mX11_gain d [.ref 101, .int x1, .int x2, .int x3] (sh, I, R, L, g) (fun v w => v = some (.int r) ∧ w = (sh, I, R, L, g)) (fun _ _ => False) := by
  have hG := hK.1
  refine AM.of (n := 0) (by decide +kernel) (Nat.le_of_ble_eq_true rfl) ?_
  show AW G mX11_gain d (fun v w => v = some (.int r) ∧ w = (sh, I, R, L, g)) (fun _ _ => False) 0 [some (.ref 101), some (.int x1), some (.int x2), some (.int x3)] [] (sh, I, R, L, g) 0 0
  unfold b_X11_gain at h
  refine AW.iload_n dX11_gain_0 rfl ?_
  refine AW.iload_n dX11_gain_1 rfl ?_
  refine AW.icmp_eq 23 dX11_gain_2 (by decide) (fun hc2 => ?_) (fun hc2 => ?_)
  · replace h := g_pos hc2 h
    refine AW.iconst 0 dX11_gain_23 (by decide) ?_
    exact AW.iret dX11_gain_24 rfl (by decide) (by decide) (by cases h; exact ⟨rfl, rfl⟩)
  · replace h := g_neg hc2 h
    refine AW.aload_n dX11_gain_5 rfl ?_
    refine AW.iload_n dX11_gain_6 rfl ?_
    refine AW.iload_n dX11_gain_7 rfl ?_
    obtain ⟨t1, hx3, h⟩ := g_bindE h
    refine AW.callV (b := 101) (As := [.int x1, .int x2]) hG.2.2 (vX11_364 hG) (hm.1 0 _ rfl) (g_X11_canCut hK (d := 5) (Nat.le_refl _) hm hx3) (by omega) dX11_gain_8 rfl rfl (Nat.le_of_ble_eq_true rfl) (fun v w9 hq9 h09 => by obtain ⟨rfl, rfl⟩ := hq9; exact ⟨h09, rfl⟩) (by decide) (by decide) (fun _ _ hx => hx) (fun v9 w9 hq9 => ?_)
    obtain ⟨rfl, rfl⟩ := hq9
    show AW G _ d _ _ 11 [some (.ref 101), some (.int x1), some (.int x2), some (.int x3)] [.int (kb t1)] (sh, I, R, L, g) 0 0
    refine AW.if_eq 23 dX11_gain_11 (by decide) (fun hc11 => ?_) (fun hc11 => ?_)
    · replace h := g_neg (g_kb0 hc11) h
      refine AW.iconst 0 dX11_gain_23 (by decide) ?_
      exact AW.iret dX11_gain_24 rfl (by decide) (by decide) (by cases h; exact ⟨rfl, rfl⟩)
    · replace h := g_pos (kb_1.mp hc11) h
      refine AW.aload_n dX11_gain_14 rfl ?_
      refine AW.getR (c' := 109) (fX11_52 hG).r rfl (hm.1 0 _ rfl) (hm.2 (0, 8, 8) (by decide)) dX11_gain_15 ?_
      refine AW.iload_n dX11_gain_18 rfl ?_
      obtain ⟨hb, h⟩ := g_ifE h
      refine AW.iald (hm.1 8 _ rfl) (g_in_iff.mp hb) dX11_gain_19 ?_
      refine AW.goto 24 dX11_gain_20 (by decide) ?_
      exact AW.iret dX11_gain_24 rfl (by decide) (by decide) (by cases h; exact ⟨rfl, rfl⟩)
theorem dX11_game_0 : decode cX11_game 0 = .ok (.aload_n 0, 1) := by decide +kernel
theorem dX11_game_1 : decode cX11_game 1 = .ok (.iconst 0, 1) := by decide +kernel
theorem dX11_game_2 : decode cX11_game 2 = .ok (.putfield 159, 3) := by decide +kernel
theorem dX11_game_5 : decode cX11_game 5 = .ok (.aload_n 0, 1) := by decide +kernel
theorem dX11_game_6 : decode cX11_game 6 = .ok (.iload_n 1, 1) := by decide +kernel
theorem dX11_game_7 : decode cX11_game 7 = .ok (.invokevirtual 389, 3) := by decide +kernel
theorem dX11_game_10 : decode cX11_game 10 = .ok (.ifCond .eq 20, 3) := by decide +kernel
theorem dX11_game_13 : decode cX11_game 13 = .ok (.aload_n 0, 1) := by decide +kernel
theorem dX11_game_14 : decode cX11_game 14 = .ok (.iload_n 2, 1) := by decide +kernel
theorem dX11_game_15 : decode cX11_game 15 = .ok (.invokevirtual 389, 3) := by decide +kernel
theorem dX11_game_18 : decode cX11_game 18 = .ok (.ifCond .eq 12, 3) := by decide +kernel
theorem dX11_game_21 : decode cX11_game 21 = .ok (.iload_n 3, 1) := by decide +kernel
theorem dX11_game_22 : decode cX11_game 22 = .ok (.ifCond .lt 8, 3) := by decide +kernel
theorem dX11_game_25 : decode cX11_game 25 = .ok (.iload_n 3, 1) := by decide +kernel
theorem dX11_game_26 : decode cX11_game 26 = .ok (.iconst 1, 1) := by decide +kernel
theorem dX11_game_27 : decode cX11_game 27 = .ok (.if_icmp .le 9, 3) := by decide +kernel
theorem dX11_game_30 : decode cX11_game 30 = .ok (.aload_n 0, 1) := by decide +kernel
theorem dX11_game_31 : decode cX11_game 31 = .ok (.iconst 1, 1) := by decide +kernel
theorem dX11_game_32 : decode cX11_game 32 = .ok (.invokevirtual 307, 3) := by decide +kernel
theorem dX11_game_35 : decode cX11_game 35 = .ok (.ireturn, 1) := by decide +kernel
theorem dX11_game_36 : decode cX11_game 36 = .ok (.iload_n 1, 1) := by decide +kernel
theorem dX11_game_37 : decode cX11_game 37 = .ok (.iload_n 2, 1) := by decide +kernel
theorem dX11_game_38 : decode cX11_game 38 = .ok (.if_icmp .ne 9, 3) := by decide +kernel
theorem dX11_game_41 : decode cX11_game 41 = .ok (.aload_n 0, 1) := by decide +kernel
theorem dX11_game_42 : decode cX11_game 42 = .ok (.iconst 2, 1) := by decide +kernel
theorem dX11_game_43 : decode cX11_game 43 = .ok (.invokevirtual 307, 3) := by decide +kernel
theorem dX11_game_46 : decode cX11_game 46 = .ok (.ireturn, 1) := by decide +kernel
theorem dX11_game_47 : decode cX11_game 47 = .ok (.iconst 0, 1) := by decide +kernel
theorem dX11_game_48 : decode cX11_game 48 = .ok (.istore 4, 2) := by decide +kernel
theorem dX11_game_50 : decode cX11_game 50 = .ok (.iconst (-1), 1) := by decide +kernel
theorem dX11_game_51 : decode cX11_game 51 = .ok (.istore 5, 2) := by decide +kernel
theorem dX11_game_53 : decode cX11_game 53 = .ok (.iconst 0, 1) := by decide +kernel
theorem dX11_game_54 : decode cX11_game 54 = .ok (.istore 6, 2) := by decide +kernel
theorem dX11_game_56 : decode cX11_game 56 = .ok (.iload 6, 2) := by decide +kernel
theorem dX11_game_58 : decode cX11_game 58 = .ok (.aload_n 0, 1) := by decide +kernel
theorem dX11_game_59 : decode cX11_game 59 = .ok (.getfield 38, 3) := by decide +kernel
theorem dX11_game_62 : decode cX11_game 62 = .ok (.iconst 1, 1) := by decide +kernel
theorem dX11_game_63 : decode cX11_game 63 = .ok (.iaload, 1) := by decide +kernel
theorem dX11_game_64 : decode cX11_game 64 = .ok (.if_icmp .ge 138, 3) := by decide +kernel
theorem dX11_game_67 : decode cX11_game 67 = .ok (.iconst 0, 1) := by decide +kernel
theorem dX11_game_68 : decode cX11_game 68 = .ok (.istore 7, 2) := by decide +kernel
theorem dX11_game_70 : decode cX11_game 70 = .ok (.iload 7, 2) := by decide +kernel
theorem dX11_game_72 : decode cX11_game 72 = .ok (.aload_n 0, 1) := by decide +kernel
theorem dX11_game_73 : decode cX11_game 73 = .ok (.getfield 38, 3) := by decide +kernel
theorem dX11_game_76 : decode cX11_game 76 = .ok (.iconst 1, 1) := by decide +kernel
theorem dX11_game_77 : decode cX11_game 77 = .ok (.iaload, 1) := by decide +kernel
theorem dX11_game_78 : decode cX11_game 78 = .ok (.if_icmp .ge 118, 3) := by decide +kernel
theorem dX11_game_81 : decode cX11_game 81 = .ok (.iconst 1, 1) := by decide +kernel
theorem dX11_game_82 : decode cX11_game 82 = .ok (.istore 8, 2) := by decide +kernel
theorem dX11_game_84 : decode cX11_game 84 = .ok (.iconst 0, 1) := by decide +kernel
theorem dX11_game_85 : decode cX11_game 85 = .ok (.istore 9, 2) := by decide +kernel
theorem dX11_game_87 : decode cX11_game 87 = .ok (.iload 9, 2) := by decide +kernel
theorem dX11_game_89 : decode cX11_game 89 = .ok (.aload_n 0, 1) := by decide +kernel
theorem dX11_game_90 : decode cX11_game 90 = .ok (.getfield 38, 3) := by decide +kernel
theorem dX11_game_93 : decode cX11_game 93 = .ok (.iconst 1, 1) := by decide +kernel
theorem dX11_game_94 : decode cX11_game 94 = .ok (.iaload, 1) := by decide +kernel
theorem dX11_game_95 : decode cX11_game 95 = .ok (.if_icmp .ge 63, 3) := by decide +kernel
theorem dX11_game_98 : decode cX11_game 98 = .ok (.iload 8, 2) := by decide +kernel
theorem dX11_game_100 : decode cX11_game 100 = .ok (.ifCond .eq 58, 3) := by decide +kernel
theorem dX11_game_103 : decode cX11_game 103 = .ok (.aload_n 0, 1) := by decide +kernel
theorem dX11_game_104 : decode cX11_game 104 = .ok (.iload_n 1, 1) := by decide +kernel
theorem dX11_game_105 : decode cX11_game 105 = .ok (.iload 9, 2) := by decide +kernel
theorem dX11_game_107 : decode cX11_game 107 = .ok (.iload 7, 2) := by decide +kernel
theorem dX11_game_109 : decode cX11_game 109 = .ok (.invokevirtual 483, 3) := by decide +kernel
theorem dX11_game_112 : decode cX11_game 112 = .ok (.aload_n 0, 1) := by decide +kernel
theorem dX11_game_113 : decode cX11_game 113 = .ok (.iload_n 1, 1) := by decide +kernel
theorem dX11_game_114 : decode cX11_game 114 = .ok (.iload 6, 2) := by decide +kernel
theorem dX11_game_116 : decode cX11_game 116 = .ok (.iload 7, 2) := by decide +kernel
theorem dX11_game_118 : decode cX11_game 118 = .ok (.invokevirtual 483, 3) := by decide +kernel
theorem dX11_game_121 : decode cX11_game 121 = .ok (.if_icmp .gt 28, 3) := by decide +kernel
theorem dX11_game_124 : decode cX11_game 124 = .ok (.aload_n 0, 1) := by decide +kernel
theorem dX11_game_125 : decode cX11_game 125 = .ok (.iload_n 2, 1) := by decide +kernel
theorem dX11_game_126 : decode cX11_game 126 = .ok (.iload 9, 2) := by decide +kernel
theorem dX11_game_128 : decode cX11_game 128 = .ok (.iload 6, 2) := by decide +kernel
theorem dX11_game_130 : decode cX11_game 130 = .ok (.invokevirtual 483, 3) := by decide +kernel
theorem dX11_game_133 : decode cX11_game 133 = .ok (.aload_n 0, 1) := by decide +kernel
theorem dX11_game_134 : decode cX11_game 134 = .ok (.iload_n 2, 1) := by decide +kernel
theorem dX11_game_135 : decode cX11_game 135 = .ok (.iload 7, 2) := by decide +kernel
theorem dX11_game_137 : decode cX11_game 137 = .ok (.iload 6, 2) := by decide +kernel
theorem dX11_game_139 : decode cX11_game 139 = .ok (.invokevirtual 483, 3) := by decide +kernel
theorem dX11_game_142 : decode cX11_game 142 = .ok (.if_icmp .gt 7, 3) := by decide +kernel
theorem dX11_game_145 : decode cX11_game 145 = .ok (.iconst 1, 1) := by decide +kernel
theorem dX11_game_146 : decode cX11_game 146 = .ok (.goto 4, 3) := by decide +kernel
theorem dX11_game_149 : decode cX11_game 149 = .ok (.iconst 0, 1) := by decide +kernel
theorem dX11_game_150 : decode cX11_game 150 = .ok (.istore 8, 2) := by decide +kernel
theorem dX11_game_152 : decode cX11_game 152 = .ok (.iinc 9 1, 3) := by decide +kernel
theorem dX11_game_155 : decode cX11_game 155 = .ok (.goto (-68), 3) := by decide +kernel
theorem dX11_game_158 : decode cX11_game 158 = .ok (.iload 8, 2) := by decide +kernel
theorem dX11_game_160 : decode cX11_game 160 = .ok (.ifCond .ne 6, 3) := by decide +kernel
theorem dX11_game_163 : decode cX11_game 163 = .ok (.goto 27, 3) := by decide +kernel
theorem dX11_game_166 : decode cX11_game 166 = .ok (.iinc 4 1, 3) := by decide +kernel
theorem dX11_game_169 : decode cX11_game 169 = .ok (.iload 5, 2) := by decide +kernel
theorem dX11_game_171 : decode cX11_game 171 = .ok (.iconst (-1), 1) := by decide +kernel
theorem dX11_game_172 : decode cX11_game 172 = .ok (.if_icmp .ne 14, 3) := by decide +kernel
theorem dX11_game_175 : decode cX11_game 175 = .ok (.bipush 10, 2) := by decide +kernel
theorem dX11_game_177 : decode cX11_game 177 = .ok (.iload 6, 2) := by decide +kernel
theorem dX11_game_179 : decode cX11_game 179 = .ok (.imul, 1) := by decide +kernel
theorem dX11_game_180 : decode cX11_game 180 = .ok (.iload 7, 2) := by decide +kernel
theorem dX11_game_182 : decode cX11_game 182 = .ok (.iadd, 1) := by decide +kernel
theorem dX11_game_183 : decode cX11_game 183 = .ok (.goto 5, 3) := by decide +kernel
theorem dX11_game_186 : decode cX11_game 186 = .ok (.iload 5, 2) := by decide +kernel
theorem dX11_game_188 : decode cX11_game 188 = .ok (.istore 5, 2) := by decide +kernel
theorem dX11_game_190 : decode cX11_game 190 = .ok (.iinc 7 1, 3) := by decide +kernel
theorem dX11_game_193 : decode cX11_game 193 = .ok (.goto (-123), 3) := by decide +kernel
theorem dX11_game_196 : decode cX11_game 196 = .ok (.iinc 6 1, 3) := by decide +kernel
theorem dX11_game_199 : decode cX11_game 199 = .ok (.goto (-143), 3) := by decide +kernel
theorem dX11_game_202 : decode cX11_game 202 = .ok (.iload_n 3, 1) := by decide +kernel
theorem dX11_game_203 : decode cX11_game 203 = .ok (.ifCond .ne 8, 3) := by decide +kernel
theorem dX11_game_206 : decode cX11_game 206 = .ok (.iload 4, 2) := by decide +kernel
theorem dX11_game_208 : decode cX11_game 208 = .ok (.goto 5, 3) := by decide +kernel
theorem dX11_game_211 : decode cX11_game 211 = .ok (.iload 5, 2) := by decide +kernel
theorem dX11_game_213 : decode cX11_game 213 = .ok (.ireturn, 1) := by decide +kernel
def b_X11_game_L87 (I : g_I) (y1 : Int32) (y2 : Int32) (y3 : Int32) (y4 : Int32) (y5 : Int32) (y6 : Int32) (y7 : Int32) (K : Int32 → Option (Int32 × g_I)) : Nat → Int32 → Int32 → Option (Int32 × g_I)
  | 0, _, _ => none
  | f + 1, x8, x9 => if (I 104 1) ≤ x9 then K x8 else if x8 = 0 then K x8 else g_bind (b_X11_gain I y1 x9 y7) fun a11 => g_bind (b_X11_gain I y1 y6 y7) fun a14 => if a14 < a11 then b_X11_game_L87 I y1 y2 y3 y4 y5 y6 y7 K f 0 (x9 + 1) else g_bind (b_X11_gain I y2 x9 y6) fun a17 => g_bind (b_X11_gain I y2 y7 y6) fun a20 => if a20 < a17 then b_X11_game_L87 I y1 y2 y3 y4 y5 y6 y7 K f 0 (x9 + 1) else b_X11_game_L87 I y1 y2 y3 y4 y5 y6 y7 K f 1 (x9 + 1)
def b_X11_game_L70 (I : g_I) (y1 : Int32) (y2 : Int32) (y3 : Int32) (y6 : Int32) (K : Int32 → Int32 → Option (Int32 × g_I)) : Nat → Int32 → Int32 → Int32 → Option (Int32 × g_I)
  | 0, _, _, _ => none
  | f + 1, x4, x5, x7 => if (I 104 1) ≤ x7 then K x4 x5 else b_X11_game_L87 I y1 y2 y3 x4 x5 y6 x7 (fun (a23 : Int32) => if a23 = 0 then b_X11_game_L70 I y1 y2 y3 y6 K f x4 x5 (x7 + 1) else if x5 = (-1) then g_let (((10 : Int32) * y6) + x7) fun a24 => b_X11_game_L70 I y1 y2 y3 y6 K f (x4 + 1) a24 (x7 + 1) else b_X11_game_L70 I y1 y2 y3 y6 K f (x4 + 1) x5 (x7 + 1)) fu 1 0
def b_X11_game_L56 (I : g_I) (y1 : Int32) (y2 : Int32) (y3 : Int32) (K : Int32 → Int32 → Option (Int32 × g_I)) : Nat → Int32 → Int32 → Int32 → Option (Int32 × g_I)
  | 0, _, _, _ => none
  | f + 1, x4, x5, x6 => if (I 104 1) ≤ x6 then K x4 x5 else b_X11_game_L70 I y1 y2 y3 x6 (fun (a25 : Int32) (a26 : Int32) => b_X11_game_L56 I y1 y2 y3 K f a25 a26 (x6 + 1)) fu x4 x5 0
def b_X11_game (I : g_I) (x1 : Int32) (x2 : Int32) (x3 : Int32) : Option (Int32 × g_I) :=
  g_let (am_up I 101 2 0) fun I1 => if b_X11_isPerson I1 x1 = true then if b_X11_isPerson I1 x2 = true then if x3 < 0 then g_bind2 (b_X11_fail I1 1) fun a8 I9 => some (a8, I9) else if x3 ≤ 1 then if x1 = x2 then g_bind2 (b_X11_fail I1 2) fun a29 I30 => some (a29, I30) else b_X11_game_L56 I1 x1 x2 x3 (fun (a27 : Int32) (a28 : Int32) => if x3 = 0 then some (a27, I1) else some (a28, I1)) fu 0 (-1) 0 else g_bind2 (b_X11_fail I1 1) fun a32 I33 => some (a32, I33) else g_bind2 (b_X11_fail I1 1) fun a5 I6 => some (a5, I6) else g_bind2 (b_X11_fail I1 1) fun a2 I3 => some (a2, I3)
set_option maxRecDepth 100000 in
set_option maxHeartbeats 4000000 in
theorem gL_X11_game_87 {G : am_G} (hK : k_OK G) {d : Nat} (hd : 7 ≤ d) {sh : List (Nat ⊕ (Nat × Nat))} {I : g_I} {R : Nat → Nat → Option Nat} {L : Nat → Nat → Int64} {g : Nat} (hm : k_Mod sh R) {y1 : Int32} {y2 : Int32} {y3 : Int32} {y4 : Int32} {y5 : Int32} {y6 : Int32} {y7 : Int32} {K : Int32 → Option (Int32 × g_I)} {x8 : Int32} {x9 : Int32} {f : Nat} {r : Int32 × g_I} (h : b_X11_game_L87 I y1 y2 y3 y4 y5 y6 y7 K f x8 x9 = some r) (hk : ∀ (u8 : Int32), K u8 = some r → AW G mX11_game d (fun v w => v = some (.int r.1) ∧ w = (sh, r.2, R, L, g)) (fun _ _ => False) 158 [some (.ref 101), some (.int y1), some (.int y2), some (.int y3), some (.int y4), some (.int y5), some (.int y6), some (.int y7), some (.int u8), none] [] (sh, I, R, L, g) 0 0) : AW G mX11_game d (fun v w => v = some (.int r.1) ∧ w = (sh, r.2, R, L, g)) (fun _ _ => False) 87 [some (.ref 101), some (.int y1), some (.int y2), some (.int y3), some (.int y4), some (.int y5), some (.int y6), some (.int y7), some (.int x8), some (.int x9)] [] (sh, I, R, L, g) 0 0 := by
  have hG := hK.1
  induction f generalizing x8 x9 with
  | zero => rw [b_X11_game_L87] at h; cases h
  | succ f ih =>
    rw [b_X11_game_L87] at h
    refine AW.iload dX11_game_87 rfl ?_
    refine AW.aload_n dX11_game_89 rfl ?_
    refine AW.getR (c' := 104) (fX11_38 hG).r rfl (hm.1 0 _ rfl) (hm.2 (0, 3, 3) (by decide)) dX11_game_90 ?_
    refine AW.iconst 1 dX11_game_93 (by decide) ?_
    refine AW.iald (hm.1 3 _ rfl) (by unfold vp_in; decide) dX11_game_94 ?_
    show AW G _ d _ _ 95 [some (.ref 101), some (.int y1), some (.int y2), some (.int y3), some (.int y4), some (.int y5), some (.int y6), some (.int y7), some (.int x8), some (.int x9)] [.int (I 104 1), .int x9] (sh, I, R, L, g) 0 0
    refine AW.icmp_ge 158 dX11_game_95 (by decide) (fun hc95 => ?_) (fun hc95 => ?_)
    · replace h := g_pos hc95 h
      refine AW.mask [9] [some (.ref 101), some (.int y1), some (.int y2), some (.int y3), some (.int y4), some (.int y5), some (.int y6), some (.int y7), some (.int x8), none] rfl ?_
      exact hk _ h
    · replace h := g_neg hc95 h
      refine AW.iload dX11_game_98 rfl ?_
      refine AW.if_eq 158 dX11_game_100 (by decide) (fun hc100 => ?_) (fun hc100 => ?_)
      · replace h := g_pos hc100 h
        refine AW.mask [9] [some (.ref 101), some (.int y1), some (.int y2), some (.int y3), some (.int y4), some (.int y5), some (.int y6), some (.int y7), some (.int x8), none] rfl ?_
        exact hk _ h
      · replace h := g_neg hc100 h
        refine AW.aload_n dX11_game_103 rfl ?_
        refine AW.iload_n dX11_game_104 rfl ?_
        refine AW.iload dX11_game_105 rfl ?_
        refine AW.iload dX11_game_107 rfl ?_
        obtain ⟨a11, hx13, h⟩ := g_bindE h
        refine AW.callV (b := 101) (As := [.int y1, .int x9, .int y7]) hG.2.2 (vX11_483 hG) (hm.1 0 _ rfl) (g_X11_gain hK (d := 6) (Nat.le_refl _) hm hx13) (by omega) dX11_game_109 rfl rfl (Nat.le_of_ble_eq_true rfl) (fun v w9 hq9 h09 => by obtain ⟨rfl, rfl⟩ := hq9; exact ⟨h09, rfl⟩) (by decide) (by decide) (fun _ _ hx => hx) (fun v9 w9 hq9 => ?_)
        obtain ⟨rfl, rfl⟩ := hq9
        show AW G _ d _ _ 112 [some (.ref 101), some (.int y1), some (.int y2), some (.int y3), some (.int y4), some (.int y5), some (.int y6), some (.int y7), some (.int x8), some (.int x9)] [.int a11] (sh, I, R, L, g) 0 0
        refine AW.aload_n dX11_game_112 rfl ?_
        refine AW.iload_n dX11_game_113 rfl ?_
        refine AW.iload dX11_game_114 rfl ?_
        refine AW.iload dX11_game_116 rfl ?_
        obtain ⟨a14, hx16, h⟩ := g_bindE h
        refine AW.callV (b := 101) (As := [.int y1, .int y6, .int y7]) hG.2.2 (vX11_483 hG) (hm.1 0 _ rfl) (g_X11_gain hK (d := 6) (Nat.le_refl _) hm hx16) (by omega) dX11_game_118 rfl rfl (Nat.le_of_ble_eq_true rfl) (fun v w9 hq9 h09 => by obtain ⟨rfl, rfl⟩ := hq9; exact ⟨h09, rfl⟩) (by decide) (by decide) (fun _ _ hx => hx) (fun v9 w9 hq9 => ?_)
        obtain ⟨rfl, rfl⟩ := hq9
        show AW G _ d _ _ 121 [some (.ref 101), some (.int y1), some (.int y2), some (.int y3), some (.int y4), some (.int y5), some (.int y6), some (.int y7), some (.int x8), some (.int x9)] [.int a14, .int a11] (sh, I, R, L, g) 0 0
        refine AW.icmp_gt 149 dX11_game_121 (by decide) (fun hc121 => ?_) (fun hc121 => ?_)
        · replace h := g_pos hc121 h
          refine AW.iconst 0 dX11_game_149 (by decide) ?_
          refine AW.is [some (.ref 101), some (.int y1), some (.int y2), some (.int y3), some (.int y4), some (.int y5), some (.int y6), some (.int y7), some (.int 0), some (.int x9)] dX11_game_150 (by decide) rfl rfl ?_
          refine AW.incE 1 (by decide) [some (.ref 101), some (.int y1), some (.int y2), some (.int y3), some (.int y4), some (.int y5), some (.int y6), some (.int y7), some (.int 0), some (.int (x9 + 1))] dX11_game_152 rfl (by decide) rfl rfl ?_
          refine AW.goto 87 dX11_game_155 (by decide) ?_
          exact ih h
        · replace h := g_neg hc121 h
          refine AW.aload_n dX11_game_124 rfl ?_
          refine AW.iload_n dX11_game_125 rfl ?_
          refine AW.iload dX11_game_126 rfl ?_
          refine AW.iload dX11_game_128 rfl ?_
          obtain ⟨a17, hx19, h⟩ := g_bindE h
          refine AW.callV (b := 101) (As := [.int y2, .int x9, .int y6]) hG.2.2 (vX11_483 hG) (hm.1 0 _ rfl) (g_X11_gain hK (d := 6) (Nat.le_refl _) hm hx19) (by omega) dX11_game_130 rfl rfl (Nat.le_of_ble_eq_true rfl) (fun v w9 hq9 h09 => by obtain ⟨rfl, rfl⟩ := hq9; exact ⟨h09, rfl⟩) (by decide) (by decide) (fun _ _ hx => hx) (fun v9 w9 hq9 => ?_)
          obtain ⟨rfl, rfl⟩ := hq9
          show AW G _ d _ _ 133 [some (.ref 101), some (.int y1), some (.int y2), some (.int y3), some (.int y4), some (.int y5), some (.int y6), some (.int y7), some (.int x8), some (.int x9)] [.int a17] (sh, I, R, L, g) 0 0
          refine AW.aload_n dX11_game_133 rfl ?_
          refine AW.iload_n dX11_game_134 rfl ?_
          refine AW.iload dX11_game_135 rfl ?_
          refine AW.iload dX11_game_137 rfl ?_
          obtain ⟨a20, hx22, h⟩ := g_bindE h
          refine AW.callV (b := 101) (As := [.int y2, .int y7, .int y6]) hG.2.2 (vX11_483 hG) (hm.1 0 _ rfl) (g_X11_gain hK (d := 6) (Nat.le_refl _) hm hx22) (by omega) dX11_game_139 rfl rfl (Nat.le_of_ble_eq_true rfl) (fun v w9 hq9 h09 => by obtain ⟨rfl, rfl⟩ := hq9; exact ⟨h09, rfl⟩) (by decide) (by decide) (fun _ _ hx => hx) (fun v9 w9 hq9 => ?_)
          obtain ⟨rfl, rfl⟩ := hq9
          show AW G _ d _ _ 142 [some (.ref 101), some (.int y1), some (.int y2), some (.int y3), some (.int y4), some (.int y5), some (.int y6), some (.int y7), some (.int x8), some (.int x9)] [.int a20, .int a17] (sh, I, R, L, g) 0 0
          refine AW.icmp_gt 149 dX11_game_142 (by decide) (fun hc142 => ?_) (fun hc142 => ?_)
          · replace h := g_pos hc142 h
            refine AW.iconst 0 dX11_game_149 (by decide) ?_
            refine AW.is [some (.ref 101), some (.int y1), some (.int y2), some (.int y3), some (.int y4), some (.int y5), some (.int y6), some (.int y7), some (.int 0), some (.int x9)] dX11_game_150 (by decide) rfl rfl ?_
            refine AW.incE 1 (by decide) [some (.ref 101), some (.int y1), some (.int y2), some (.int y3), some (.int y4), some (.int y5), some (.int y6), some (.int y7), some (.int 0), some (.int (x9 + 1))] dX11_game_152 rfl (by decide) rfl rfl ?_
            refine AW.goto 87 dX11_game_155 (by decide) ?_
            exact ih h
          · replace h := g_neg hc142 h
            refine AW.iconst 1 dX11_game_145 (by decide) ?_
            refine AW.goto 150 dX11_game_146 (by decide) ?_
            refine AW.is [some (.ref 101), some (.int y1), some (.int y2), some (.int y3), some (.int y4), some (.int y5), some (.int y6), some (.int y7), some (.int 1), some (.int x9)] dX11_game_150 (by decide) rfl rfl ?_
            refine AW.incE 1 (by decide) [some (.ref 101), some (.int y1), some (.int y2), some (.int y3), some (.int y4), some (.int y5), some (.int y6), some (.int y7), some (.int 1), some (.int (x9 + 1))] dX11_game_152 rfl (by decide) rfl rfl ?_
            refine AW.goto 87 dX11_game_155 (by decide) ?_
            exact ih h
set_option maxRecDepth 100000 in
set_option maxHeartbeats 4000000 in
theorem gL_X11_game_70 {G : am_G} (hK : k_OK G) {d : Nat} (hd : 7 ≤ d) {sh : List (Nat ⊕ (Nat × Nat))} {I : g_I} {R : Nat → Nat → Option Nat} {L : Nat → Nat → Int64} {g : Nat} (hm : k_Mod sh R) {y1 : Int32} {y2 : Int32} {y3 : Int32} {y6 : Int32} {K : Int32 → Int32 → Option (Int32 × g_I)} {x4 : Int32} {x5 : Int32} {x7 : Int32} {f : Nat} {r : Int32 × g_I} (h : b_X11_game_L70 I y1 y2 y3 y6 K f x4 x5 x7 = some r) (hk : ∀ (u4 : Int32) (u5 : Int32), K u4 u5 = some r → AW G mX11_game d (fun v w => v = some (.int r.1) ∧ w = (sh, r.2, R, L, g)) (fun _ _ => False) 196 [some (.ref 101), some (.int y1), some (.int y2), some (.int y3), some (.int u4), some (.int u5), some (.int y6), none, none, none] [] (sh, I, R, L, g) 0 0) : AW G mX11_game d (fun v w => v = some (.int r.1) ∧ w = (sh, r.2, R, L, g)) (fun _ _ => False) 70 [some (.ref 101), some (.int y1), some (.int y2), some (.int y3), some (.int x4), some (.int x5), some (.int y6), some (.int x7), none, none] [] (sh, I, R, L, g) 0 0 := by
  have hG := hK.1
  induction f generalizing x4 x5 x7 with
  | zero => rw [b_X11_game_L70] at h; cases h
  | succ f ih =>
    rw [b_X11_game_L70] at h
    refine AW.iload dX11_game_70 rfl ?_
    refine AW.aload_n dX11_game_72 rfl ?_
    refine AW.getR (c' := 104) (fX11_38 hG).r rfl (hm.1 0 _ rfl) (hm.2 (0, 3, 3) (by decide)) dX11_game_73 ?_
    refine AW.iconst 1 dX11_game_76 (by decide) ?_
    refine AW.iald (hm.1 3 _ rfl) (by unfold vp_in; decide) dX11_game_77 ?_
    show AW G _ d _ _ 78 [some (.ref 101), some (.int y1), some (.int y2), some (.int y3), some (.int x4), some (.int x5), some (.int y6), some (.int x7), none, none] [.int (I 104 1), .int x7] (sh, I, R, L, g) 0 0
    refine AW.icmp_ge 196 dX11_game_78 (by decide) (fun hc78 => ?_) (fun hc78 => ?_)
    · replace h := g_pos hc78 h
      refine AW.mask [7] [some (.ref 101), some (.int y1), some (.int y2), some (.int y3), some (.int x4), some (.int x5), some (.int y6), none, none, none] rfl ?_
      exact hk _ _ h
    · replace h := g_neg hc78 h
      refine AW.iconst 1 dX11_game_81 (by decide) ?_
      refine AW.is [some (.ref 101), some (.int y1), some (.int y2), some (.int y3), some (.int x4), some (.int x5), some (.int y6), some (.int x7), some (.int 1), none] dX11_game_82 (by decide) rfl rfl ?_
      refine AW.iconst 0 dX11_game_84 (by decide) ?_
      refine AW.is [some (.ref 101), some (.int y1), some (.int y2), some (.int y3), some (.int x4), some (.int x5), some (.int y6), some (.int x7), some (.int 1), some (.int 0)] dX11_game_85 (by decide) rfl rfl ?_
      refine gL_X11_game_87 hK hd hm h (fun a23 h => ?_)
      refine AW.iload dX11_game_158 rfl ?_
      refine AW.if_ne 166 dX11_game_160 (by decide) (fun hc160 => ?_) (fun hc160 => ?_)
      · replace h := g_neg hc160 h
        refine AW.incE 1 (by decide) [some (.ref 101), some (.int y1), some (.int y2), some (.int y3), some (.int (x4 + 1)), some (.int x5), some (.int y6), some (.int x7), some (.int a23), none] dX11_game_166 rfl (by decide) rfl rfl ?_
        refine AW.iload dX11_game_169 rfl ?_
        refine AW.iconst (-1) dX11_game_171 (by decide) ?_
        refine AW.icmp_ne 186 dX11_game_172 (by decide) (fun hc172 => ?_) (fun hc172 => ?_)
        · replace h := g_neg hc172 h
          refine AW.iload dX11_game_186 rfl ?_
          refine AW.is [some (.ref 101), some (.int y1), some (.int y2), some (.int y3), some (.int (x4 + 1)), some (.int x5), some (.int y6), some (.int x7), some (.int a23), none] dX11_game_188 (by decide) rfl rfl ?_
          refine AW.incE 1 (by decide) [some (.ref 101), some (.int y1), some (.int y2), some (.int y3), some (.int (x4 + 1)), some (.int x5), some (.int y6), some (.int (x7 + 1)), some (.int a23), none] dX11_game_190 rfl (by decide) rfl rfl ?_
          refine AW.goto 70 dX11_game_193 (by decide) ?_
          refine AW.mask [8] [some (.ref 101), some (.int y1), some (.int y2), some (.int y3), some (.int (x4 + 1)), some (.int x5), some (.int y6), some (.int (x7 + 1)), none, none] rfl ?_
          exact ih h
        · replace h := g_pos hc172 h
          refine AW.bipush 10 dX11_game_175 (by decide) ?_
          refine AW.iload dX11_game_177 rfl ?_
          refine AW.imul dX11_game_179 ?_
          refine AW.iload dX11_game_180 rfl ?_
          refine AW.iadd dX11_game_182 ?_
          refine AW.goto 188 dX11_game_183 (by decide) ?_
          obtain ⟨a24, ea24, h⟩ := g_letE h
          refine AW.namE ea24 ?_
          refine AW.is [some (.ref 101), some (.int y1), some (.int y2), some (.int y3), some (.int (x4 + 1)), some (.int a24), some (.int y6), some (.int x7), some (.int a23), none] dX11_game_188 (by decide) rfl rfl ?_
          refine AW.incE 1 (by decide) [some (.ref 101), some (.int y1), some (.int y2), some (.int y3), some (.int (x4 + 1)), some (.int a24), some (.int y6), some (.int (x7 + 1)), some (.int a23), none] dX11_game_190 rfl (by decide) rfl rfl ?_
          refine AW.goto 70 dX11_game_193 (by decide) ?_
          refine AW.mask [8] [some (.ref 101), some (.int y1), some (.int y2), some (.int y3), some (.int (x4 + 1)), some (.int a24), some (.int y6), some (.int (x7 + 1)), none, none] rfl ?_
          exact ih h
      · replace h := g_pos hc160 h
        refine AW.goto 190 dX11_game_163 (by decide) ?_
        refine AW.incE 1 (by decide) [some (.ref 101), some (.int y1), some (.int y2), some (.int y3), some (.int x4), some (.int x5), some (.int y6), some (.int (x7 + 1)), some (.int a23), none] dX11_game_190 rfl (by decide) rfl rfl ?_
        refine AW.goto 70 dX11_game_193 (by decide) ?_
        refine AW.mask [8] [some (.ref 101), some (.int y1), some (.int y2), some (.int y3), some (.int x4), some (.int x5), some (.int y6), some (.int (x7 + 1)), none, none] rfl ?_
        exact ih h
set_option maxRecDepth 100000 in
set_option maxHeartbeats 4000000 in
theorem gL_X11_game_56 {G : am_G} (hK : k_OK G) {d : Nat} (hd : 7 ≤ d) {sh : List (Nat ⊕ (Nat × Nat))} {I : g_I} {R : Nat → Nat → Option Nat} {L : Nat → Nat → Int64} {g : Nat} (hm : k_Mod sh R) {y1 : Int32} {y2 : Int32} {y3 : Int32} {K : Int32 → Int32 → Option (Int32 × g_I)} {x4 : Int32} {x5 : Int32} {x6 : Int32} {f : Nat} {r : Int32 × g_I} (h : b_X11_game_L56 I y1 y2 y3 K f x4 x5 x6 = some r) (hk : ∀ (u4 : Int32) (u5 : Int32), K u4 u5 = some r → AW G mX11_game d (fun v w => v = some (.int r.1) ∧ w = (sh, r.2, R, L, g)) (fun _ _ => False) 202 [none, none, none, some (.int y3), some (.int u4), some (.int u5), none, none, none, none] [] (sh, I, R, L, g) 0 0) : AW G mX11_game d (fun v w => v = some (.int r.1) ∧ w = (sh, r.2, R, L, g)) (fun _ _ => False) 56 [some (.ref 101), some (.int y1), some (.int y2), some (.int y3), some (.int x4), some (.int x5), some (.int x6), none, none, none] [] (sh, I, R, L, g) 0 0 := by
  have hG := hK.1
  induction f generalizing x4 x5 x6 with
  | zero => rw [b_X11_game_L56] at h; cases h
  | succ f ih =>
    rw [b_X11_game_L56] at h
    refine AW.iload dX11_game_56 rfl ?_
    refine AW.aload_n dX11_game_58 rfl ?_
    refine AW.getR (c' := 104) (fX11_38 hG).r rfl (hm.1 0 _ rfl) (hm.2 (0, 3, 3) (by decide)) dX11_game_59 ?_
    refine AW.iconst 1 dX11_game_62 (by decide) ?_
    refine AW.iald (hm.1 3 _ rfl) (by unfold vp_in; decide) dX11_game_63 ?_
    show AW G _ d _ _ 64 [some (.ref 101), some (.int y1), some (.int y2), some (.int y3), some (.int x4), some (.int x5), some (.int x6), none, none, none] [.int (I 104 1), .int x6] (sh, I, R, L, g) 0 0
    refine AW.icmp_ge 202 dX11_game_64 (by decide) (fun hc64 => ?_) (fun hc64 => ?_)
    · replace h := g_pos hc64 h
      refine AW.mask [0, 1, 2, 6] [none, none, none, some (.int y3), some (.int x4), some (.int x5), none, none, none, none] rfl ?_
      exact hk _ _ h
    · replace h := g_neg hc64 h
      refine AW.iconst 0 dX11_game_67 (by decide) ?_
      refine AW.is [some (.ref 101), some (.int y1), some (.int y2), some (.int y3), some (.int x4), some (.int x5), some (.int x6), some (.int 0), none, none] dX11_game_68 (by decide) rfl rfl ?_
      refine gL_X11_game_70 hK hd hm h (fun a25 a26 h => ?_)
      refine AW.incE 1 (by decide) [some (.ref 101), some (.int y1), some (.int y2), some (.int y3), some (.int a25), some (.int a26), some (.int (x6 + 1)), none, none, none] dX11_game_196 rfl (by decide) rfl rfl ?_
      refine AW.goto 56 dX11_game_199 (by decide) ?_
      exact ih h
set_option maxRecDepth 100000 in
set_option maxHeartbeats 4000000 in
theorem g_X11_game {G : am_G} (hK : k_OK G) {d : Nat} (hd : 7 ≤ d) {sh : List (Nat ⊕ (Nat × Nat))} {I : g_I} {R : Nat → Nat → Option Nat} {L : Nat → Nat → Int64} {g : Nat} (hm : k_Mod sh R) {x1 : Int32} {x2 : Int32} {x3 : Int32} {r : Int32 × g_I} (h : b_X11_game I x1 x2 x3 = some r) : AM G mX11_game d [.ref 101, .int x1, .int x2, .int x3] (sh, I, R, L, g) (fun v w => v = some (.int r.1) ∧ w = (sh, r.2, R, L, g)) (fun _ _ => False) := by
  have hG := hK.1
  refine AM.of (n := 6) (by decide +kernel) (Nat.le_of_ble_eq_true rfl) ?_
  show AW G mX11_game d (fun v w => v = some (.int r.1) ∧ w = (sh, r.2, R, L, g)) (fun _ _ => False) 0 [some (.ref 101), some (.int x1), some (.int x2), some (.int x3), none, none, none, none, none, none] [] (sh, I, R, L, g) 0 0
  unfold b_X11_game at h
  refine AW.aload_n dX11_game_0 rfl ?_
  refine AW.iconst 0 dX11_game_1 (by decide) ?_
  refine AW.putI (fX11_159 hG) rfl (vp_nar_int _) rfl (hm.1 0 _ rfl) dX11_game_2 ?_
  obtain ⟨I1, eI1, h⟩ := g_letE h
  refine AW.namIE eI1 ?_
  refine AW.aload_n dX11_game_5 rfl ?_
  refine AW.iload_n dX11_game_6 rfl ?_
  refine AW.callV (b := 101) (As := [.int x1]) hG.2.2 (vX11_389 hG) (hm.1 0 _ rfl) (g_X11_isPerson hK (d := 1) (Nat.le_refl _) hm) (by omega) dX11_game_7 rfl rfl (Nat.le_of_ble_eq_true rfl) (fun v w9 hq9 h09 => by obtain ⟨rfl, rfl⟩ := hq9; exact ⟨h09, rfl⟩) (by decide) (by decide) (fun _ _ hx => hx) (fun v9 w9 hq9 => ?_)
  obtain ⟨rfl, rfl⟩ := hq9
  show AW G _ d _ _ 10 [some (.ref 101), some (.int x1), some (.int x2), some (.int x3), none, none, none, none, none, none] [.int (kb (b_X11_isPerson I1 x1))] (sh, I1, R, L, g) 0 0
  refine AW.if_eq 30 dX11_game_10 (by decide) (fun hc10 => ?_) (fun hc10 => ?_)
  · replace h := g_neg (g_kb0 hc10) h
    refine AW.aload_n dX11_game_30 rfl ?_
    refine AW.iconst 1 dX11_game_31 (by decide) ?_
    obtain ⟨a2, I3, hx4, h⟩ := g_bind2E h
    refine AW.callV (b := 101) (As := [.int 1]) hG.2.2 (vX11_307 hG) (hm.1 0 _ rfl) (g_X11_fail hK (d := 0) (Nat.le_refl _) hm hx4) (by omega) dX11_game_32 rfl rfl (Nat.le_of_ble_eq_true rfl) (fun v w9 hq9 h09 => by obtain ⟨rfl, rfl⟩ := hq9; exact ⟨h09, rfl⟩) (by decide) (by decide) (fun _ _ hx => hx) (fun v9 w9 hq9 => ?_)
    obtain ⟨rfl, rfl⟩ := hq9
    show AW G _ d _ _ 35 [some (.ref 101), some (.int x1), some (.int x2), some (.int x3), none, none, none, none, none, none] [.int a2] (sh, I3, R, L, g) 0 0
    exact AW.iret dX11_game_35 rfl (by decide) (by decide) (by cases h; exact ⟨rfl, rfl⟩)
  · replace h := g_pos (kb_1.mp hc10) h
    refine AW.aload_n dX11_game_13 rfl ?_
    refine AW.iload_n dX11_game_14 rfl ?_
    refine AW.callV (b := 101) (As := [.int x2]) hG.2.2 (vX11_389 hG) (hm.1 0 _ rfl) (g_X11_isPerson hK (d := 1) (Nat.le_refl _) hm) (by omega) dX11_game_15 rfl rfl (Nat.le_of_ble_eq_true rfl) (fun v w9 hq9 h09 => by obtain ⟨rfl, rfl⟩ := hq9; exact ⟨h09, rfl⟩) (by decide) (by decide) (fun _ _ hx => hx) (fun v9 w9 hq9 => ?_)
    obtain ⟨rfl, rfl⟩ := hq9
    show AW G _ d _ _ 18 [some (.ref 101), some (.int x1), some (.int x2), some (.int x3), none, none, none, none, none, none] [.int (kb (b_X11_isPerson I1 x2))] (sh, I1, R, L, g) 0 0
    refine AW.if_eq 30 dX11_game_18 (by decide) (fun hc18 => ?_) (fun hc18 => ?_)
    · replace h := g_neg (g_kb0 hc18) h
      refine AW.aload_n dX11_game_30 rfl ?_
      refine AW.iconst 1 dX11_game_31 (by decide) ?_
      obtain ⟨a5, I6, hx7, h⟩ := g_bind2E h
      refine AW.callV (b := 101) (As := [.int 1]) hG.2.2 (vX11_307 hG) (hm.1 0 _ rfl) (g_X11_fail hK (d := 0) (Nat.le_refl _) hm hx7) (by omega) dX11_game_32 rfl rfl (Nat.le_of_ble_eq_true rfl) (fun v w9 hq9 h09 => by obtain ⟨rfl, rfl⟩ := hq9; exact ⟨h09, rfl⟩) (by decide) (by decide) (fun _ _ hx => hx) (fun v9 w9 hq9 => ?_)
      obtain ⟨rfl, rfl⟩ := hq9
      show AW G _ d _ _ 35 [some (.ref 101), some (.int x1), some (.int x2), some (.int x3), none, none, none, none, none, none] [.int a5] (sh, I6, R, L, g) 0 0
      exact AW.iret dX11_game_35 rfl (by decide) (by decide) (by cases h; exact ⟨rfl, rfl⟩)
    · replace h := g_pos (kb_1.mp hc18) h
      refine AW.iload_n dX11_game_21 rfl ?_
      refine AW.if_lt 30 dX11_game_22 (by decide) (fun hc22 => ?_) (fun hc22 => ?_)
      · replace h := g_pos hc22 h
        refine AW.aload_n dX11_game_30 rfl ?_
        refine AW.iconst 1 dX11_game_31 (by decide) ?_
        obtain ⟨a8, I9, hx10, h⟩ := g_bind2E h
        refine AW.callV (b := 101) (As := [.int 1]) hG.2.2 (vX11_307 hG) (hm.1 0 _ rfl) (g_X11_fail hK (d := 0) (Nat.le_refl _) hm hx10) (by omega) dX11_game_32 rfl rfl (Nat.le_of_ble_eq_true rfl) (fun v w9 hq9 h09 => by obtain ⟨rfl, rfl⟩ := hq9; exact ⟨h09, rfl⟩) (by decide) (by decide) (fun _ _ hx => hx) (fun v9 w9 hq9 => ?_)
        obtain ⟨rfl, rfl⟩ := hq9
        show AW G _ d _ _ 35 [some (.ref 101), some (.int x1), some (.int x2), some (.int x3), none, none, none, none, none, none] [.int a8] (sh, I9, R, L, g) 0 0
        exact AW.iret dX11_game_35 rfl (by decide) (by decide) (by cases h; exact ⟨rfl, rfl⟩)
      · replace h := g_neg hc22 h
        refine AW.iload_n dX11_game_25 rfl ?_
        refine AW.iconst 1 dX11_game_26 (by decide) ?_
        refine AW.icmp_le 36 dX11_game_27 (by decide) (fun hc27 => ?_) (fun hc27 => ?_)
        · replace h := g_pos hc27 h
          refine AW.iload_n dX11_game_36 rfl ?_
          refine AW.iload_n dX11_game_37 rfl ?_
          refine AW.icmp_ne 47 dX11_game_38 (by decide) (fun hc38 => ?_) (fun hc38 => ?_)
          · replace h := g_neg hc38 h
            refine AW.iconst 0 dX11_game_47 (by decide) ?_
            refine AW.is [some (.ref 101), some (.int x1), some (.int x2), some (.int x3), some (.int 0), none, none, none, none, none] dX11_game_48 (by decide) rfl rfl ?_
            refine AW.iconst (-1) dX11_game_50 (by decide) ?_
            refine AW.is [some (.ref 101), some (.int x1), some (.int x2), some (.int x3), some (.int 0), some (.int (-1)), none, none, none, none] dX11_game_51 (by decide) rfl rfl ?_
            refine AW.iconst 0 dX11_game_53 (by decide) ?_
            refine AW.is [some (.ref 101), some (.int x1), some (.int x2), some (.int x3), some (.int 0), some (.int (-1)), some (.int 0), none, none, none] dX11_game_54 (by decide) rfl rfl ?_
            refine gL_X11_game_56 hK hd hm h (fun a27 a28 h => ?_)
            refine AW.iload_n dX11_game_202 rfl ?_
            refine AW.if_ne 211 dX11_game_203 (by decide) (fun hc203 => ?_) (fun hc203 => ?_)
            · replace h := g_neg hc203 h
              refine AW.iload dX11_game_211 rfl ?_
              exact AW.iret dX11_game_213 rfl (by decide) (by decide) (by cases h; exact ⟨rfl, rfl⟩)
            · replace h := g_pos hc203 h
              refine AW.iload dX11_game_206 rfl ?_
              refine AW.goto 213 dX11_game_208 (by decide) ?_
              exact AW.iret dX11_game_213 rfl (by decide) (by decide) (by cases h; exact ⟨rfl, rfl⟩)
          · replace h := g_pos hc38 h
            refine AW.aload_n dX11_game_41 rfl ?_
            refine AW.iconst 2 dX11_game_42 (by decide) ?_
            obtain ⟨a29, I30, hx31, h⟩ := g_bind2E h
            refine AW.callV (b := 101) (As := [.int 2]) hG.2.2 (vX11_307 hG) (hm.1 0 _ rfl) (g_X11_fail hK (d := 0) (Nat.le_refl _) hm hx31) (by omega) dX11_game_43 rfl rfl (Nat.le_of_ble_eq_true rfl) (fun v w9 hq9 h09 => by obtain ⟨rfl, rfl⟩ := hq9; exact ⟨h09, rfl⟩) (by decide) (by decide) (fun _ _ hx => hx) (fun v9 w9 hq9 => ?_)
            obtain ⟨rfl, rfl⟩ := hq9
            show AW G _ d _ _ 46 [some (.ref 101), some (.int x1), some (.int x2), some (.int x3), none, none, none, none, none, none] [.int a29] (sh, I30, R, L, g) 0 0
            exact AW.iret dX11_game_46 rfl (by decide) (by decide) (by cases h; exact ⟨rfl, rfl⟩)
        · replace h := g_neg hc27 h
          refine AW.aload_n dX11_game_30 rfl ?_
          refine AW.iconst 1 dX11_game_31 (by decide) ?_
          obtain ⟨a32, I33, hx34, h⟩ := g_bind2E h
          refine AW.callV (b := 101) (As := [.int 1]) hG.2.2 (vX11_307 hG) (hm.1 0 _ rfl) (g_X11_fail hK (d := 0) (Nat.le_refl _) hm hx34) (by omega) dX11_game_32 rfl rfl (Nat.le_of_ble_eq_true rfl) (fun v w9 hq9 h09 => by obtain ⟨rfl, rfl⟩ := hq9; exact ⟨h09, rfl⟩) (by decide) (by decide) (fun _ _ hx => hx) (fun v9 w9 hq9 => ?_)
          obtain ⟨rfl, rfl⟩ := hq9
          show AW G _ d _ _ 35 [some (.ref 101), some (.int x1), some (.int x2), some (.int x3), none, none, none, none, none, none] [.int a32] (sh, I33, R, L, g) 0 0
          exact AW.iret dX11_game_35 rfl (by decide) (by decide) (by cases h; exact ⟨rfl, rfl⟩)
theorem dX11_drawOf_0 : decode cX11_drawOf 0 = .ok (.aload_n 0, 1) := by decide +kernel
theorem dX11_drawOf_1 : decode cX11_drawOf 1 = .ok (.aload_n 0, 1) := by decide +kernel
theorem dX11_drawOf_2 : decode cX11_drawOf 2 = .ok (.getfield 486, 3) := by decide +kernel
theorem dX11_drawOf_5 : decode cX11_drawOf 5 = .ok (.ldc_w 489, 3) := by decide +kernel
theorem dX11_drawOf_8 : decode cX11_drawOf 8 = .ok (.imul, 1) := by decide +kernel
theorem dX11_drawOf_9 : decode cX11_drawOf 9 = .ok (.sipush 12345, 3) := by decide +kernel
theorem dX11_drawOf_12 : decode cX11_drawOf 12 = .ok (.iadd, 1) := by decide +kernel
theorem dX11_drawOf_13 : decode cX11_drawOf 13 = .ok (.putfield 486, 3) := by decide +kernel
theorem dX11_drawOf_16 : decode cX11_drawOf 16 = .ok (.aload_n 0, 1) := by decide +kernel
theorem dX11_drawOf_17 : decode cX11_drawOf 17 = .ok (.getfield 486, 3) := by decide +kernel
theorem dX11_drawOf_20 : decode cX11_drawOf 20 = .ok (.bipush 16, 2) := by decide +kernel
theorem dX11_drawOf_22 : decode cX11_drawOf 22 = .ok (.ishr, 1) := by decide +kernel
theorem dX11_drawOf_23 : decode cX11_drawOf 23 = .ok (.sipush 32767, 3) := by decide +kernel
theorem dX11_drawOf_26 : decode cX11_drawOf 26 = .ok (.iand, 1) := by decide +kernel
theorem dX11_drawOf_27 : decode cX11_drawOf 27 = .ok (.iload_n 1, 1) := by decide +kernel
theorem dX11_drawOf_28 : decode cX11_drawOf 28 = .ok (.irem, 1) := by decide +kernel
theorem dX11_drawOf_29 : decode cX11_drawOf 29 = .ok (.ireturn, 1) := by decide +kernel
def b_X11_drawOf (I : g_I) (x1 : Int32) : Option (Int32 × g_I) :=
  g_let (am_up I 101 56 (((I 101 56) * 1103515245) + 12345)) fun I1 => if ¬ x1 = 0 then some ((((I1 101 56) >>> ((16 : Int32) &&& 31)) &&& 32767) - (((I1 101 56) >>> ((16 : Int32) &&& 31)) &&& 32767) / x1 * x1, I1) else none
set_option maxRecDepth 100000 in
set_option maxHeartbeats 4000000 in
theorem g_X11_drawOf {G : am_G} (hK : k_OK G) {d : Nat} (hd : 0 ≤ d) {sh : List (Nat ⊕ (Nat × Nat))} {I : g_I} {R : Nat → Nat → Option Nat} {L : Nat → Nat → Int64} {g : Nat} (hm : k_Mod sh R) {x1 : Int32} {r : Int32 × g_I} (h : b_X11_drawOf I x1 = some r) : AM G mX11_drawOf d [.ref 101, .int x1] (sh, I, R, L, g) (fun v w => v = some (.int r.1) ∧ w = (sh, r.2, R, L, g)) (fun _ _ => False) := by
  have hG := hK.1
  refine AM.of (n := 0) (by decide +kernel) (Nat.le_of_ble_eq_true rfl) ?_
  show AW G mX11_drawOf d (fun v w => v = some (.int r.1) ∧ w = (sh, r.2, R, L, g)) (fun _ _ => False) 0 [some (.ref 101), some (.int x1)] [] (sh, I, R, L, g) 0 0
  unfold b_X11_drawOf at h
  refine AW.aload_n dX11_drawOf_0 rfl ?_
  refine AW.aload_n dX11_drawOf_1 rfl ?_
  refine AW.getI (fX11_486 hG).r rfl (hm.1 0 _ rfl) dX11_drawOf_2 ?_
  refine AW.ldc_w 1103515245 dX11_drawOf_5 (k_c hG 2096 (by decide +kernel) (by decide +kernel)) ?_
  refine AW.imul dX11_drawOf_8 ?_
  refine AW.sipush 12345 dX11_drawOf_9 (by decide) ?_
  refine AW.iadd dX11_drawOf_12 ?_
  refine AW.putI (fX11_486 hG) rfl (vp_nar_int _) rfl (hm.1 0 _ rfl) dX11_drawOf_13 ?_
  obtain ⟨I1, eI1, h⟩ := g_letE h
  refine AW.namIE eI1 ?_
  refine AW.aload_n dX11_drawOf_16 rfl ?_
  refine AW.getI (fX11_486 hG).r rfl (hm.1 0 _ rfl) dX11_drawOf_17 ?_
  refine AW.bipush 16 dX11_drawOf_20 (by decide) ?_
  refine AW.ishr dX11_drawOf_22 ?_
  refine AW.sipush 32767 dX11_drawOf_23 (by decide) ?_
  refine AW.iand dX11_drawOf_26 ?_
  refine AW.iload_n dX11_drawOf_27 rfl ?_
  obtain ⟨hb, h⟩ := g_ifE h
  refine AW.irem dX11_drawOf_28 hb ?_
  exact AW.iret dX11_drawOf_29 rfl (by decide) (by decide) (by cases h; exact ⟨rfl, rfl⟩)
theorem dX11_season_0 : decode cX11_season 0 = .ok (.aload_n 0, 1) := by decide +kernel
theorem dX11_season_1 : decode cX11_season 1 = .ok (.iconst 0, 1) := by decide +kernel
theorem dX11_season_2 : decode cX11_season 2 = .ok (.putfield 159, 3) := by decide +kernel
theorem dX11_season_5 : decode cX11_season 5 = .ok (.iload_n 3, 1) := by decide +kernel
theorem dX11_season_6 : decode cX11_season 6 = .ok (.i2l, 1) := by decide +kernel
theorem dX11_season_7 : decode cX11_season 7 = .ok (.lconst 0, 1) := by decide +kernel
theorem dX11_season_8 : decode cX11_season 8 = .ok (.ldc2_w 490, 3) := by decide +kernel
theorem dX11_season_11 : decode cX11_season 11 = .ok (.invokestatic 162, 3) := by decide +kernel
theorem dX11_season_14 : decode cX11_season 14 = .ok (.ifCond .ne 9, 3) := by decide +kernel
theorem dX11_season_17 : decode cX11_season 17 = .ok (.aload_n 0, 1) := by decide +kernel
theorem dX11_season_18 : decode cX11_season 18 = .ok (.iconst 1, 1) := by decide +kernel
theorem dX11_season_19 : decode cX11_season 19 = .ok (.invokevirtual 307, 3) := by decide +kernel
theorem dX11_season_22 : decode cX11_season 22 = .ok (.ireturn, 1) := by decide +kernel
theorem dX11_season_23 : decode cX11_season 23 = .ok (.iload_n 2, 1) := by decide +kernel
theorem dX11_season_24 : decode cX11_season 24 = .ok (.i2l, 1) := by decide +kernel
theorem dX11_season_25 : decode cX11_season 25 = .ok (.lconst 0, 1) := by decide +kernel
theorem dX11_season_26 : decode cX11_season 26 = .ok (.ldc2_w 492, 3) := by decide +kernel
theorem dX11_season_29 : decode cX11_season 29 = .ok (.invokestatic 162, 3) := by decide +kernel
theorem dX11_season_32 : decode cX11_season 32 = .ok (.ifCond .ne 9, 3) := by decide +kernel
theorem dX11_season_35 : decode cX11_season 35 = .ok (.aload_n 0, 1) := by decide +kernel
theorem dX11_season_36 : decode cX11_season 36 = .ok (.iconst 2, 1) := by decide +kernel
theorem dX11_season_37 : decode cX11_season 37 = .ok (.invokevirtual 307, 3) := by decide +kernel
theorem dX11_season_40 : decode cX11_season 40 = .ok (.ireturn, 1) := by decide +kernel
theorem dX11_season_41 : decode cX11_season 41 = .ok (.aload_n 0, 1) := by decide +kernel
theorem dX11_season_42 : decode cX11_season 42 = .ok (.aload_n 0, 1) := by decide +kernel
theorem dX11_season_43 : decode cX11_season 43 = .ok (.getfield 114, 3) := by decide +kernel
theorem dX11_season_46 : decode cX11_season 46 = .ok (.iconst 0, 1) := by decide +kernel
theorem dX11_season_47 : decode cX11_season 47 = .ok (.invokevirtual 407, 3) := by decide +kernel
theorem dX11_season_50 : decode cX11_season 50 = .ok (.aload_n 0, 1) := by decide +kernel
theorem dX11_season_51 : decode cX11_season 51 = .ok (.iload_n 1, 1) := by decide +kernel
theorem dX11_season_52 : decode cX11_season 52 = .ok (.putfield 486, 3) := by decide +kernel
theorem dX11_season_55 : decode cX11_season 55 = .ok (.iconst 0, 1) := by decide +kernel
theorem dX11_season_56 : decode cX11_season 56 = .ok (.istore 4, 2) := by decide +kernel
theorem dX11_season_58 : decode cX11_season 58 = .ok (.iconst 0, 1) := by decide +kernel
theorem dX11_season_59 : decode cX11_season 59 = .ok (.istore 5, 2) := by decide +kernel
theorem dX11_season_61 : decode cX11_season 61 = .ok (.iconst 0, 1) := by decide +kernel
theorem dX11_season_62 : decode cX11_season 62 = .ok (.istore 6, 2) := by decide +kernel
theorem dX11_season_64 : decode cX11_season 64 = .ok (.iload 6, 2) := by decide +kernel
theorem dX11_season_66 : decode cX11_season 66 = .ok (.iload_n 2, 1) := by decide +kernel
theorem dX11_season_67 : decode cX11_season 67 = .ok (.if_icmp .ge 124, 3) := by decide +kernel
theorem dX11_season_70 : decode cX11_season 70 = .ok (.aload_n 0, 1) := by decide +kernel
theorem dX11_season_71 : decode cX11_season 71 = .ok (.dup, 1) := by decide +kernel
theorem dX11_season_72 : decode cX11_season 72 = .ok (.getfield 321, 3) := by decide +kernel
theorem dX11_season_75 : decode cX11_season 75 = .ok (.iconst 1, 1) := by decide +kernel
theorem dX11_season_76 : decode cX11_season 76 = .ok (.iadd, 1) := by decide +kernel
theorem dX11_season_77 : decode cX11_season 77 = .ok (.putfield 321, 3) := by decide +kernel
theorem dX11_season_80 : decode cX11_season 80 = .ok (.aload_n 0, 1) := by decide +kernel
theorem dX11_season_81 : decode cX11_season 81 = .ok (.getfield 38, 3) := by decide +kernel
theorem dX11_season_84 : decode cX11_season 84 = .ok (.iconst 0, 1) := by decide +kernel
theorem dX11_season_85 : decode cX11_season 85 = .ok (.iaload, 1) := by decide +kernel
theorem dX11_season_86 : decode cX11_season 86 = .ok (.ifCond .ne 7, 3) := by decide +kernel
theorem dX11_season_89 : decode cX11_season 89 = .ok (.iconst 0, 1) := by decide +kernel
theorem dX11_season_90 : decode cX11_season 90 = .ok (.goto 13, 3) := by decide +kernel
theorem dX11_season_93 : decode cX11_season 93 = .ok (.aload_n 0, 1) := by decide +kernel
theorem dX11_season_94 : decode cX11_season 94 = .ok (.aload_n 0, 1) := by decide +kernel
theorem dX11_season_95 : decode cX11_season 95 = .ok (.getfield 38, 3) := by decide +kernel
theorem dX11_season_98 : decode cX11_season 98 = .ok (.iconst 0, 1) := by decide +kernel
theorem dX11_season_99 : decode cX11_season 99 = .ok (.iaload, 1) := by decide +kernel
theorem dX11_season_100 : decode cX11_season 100 = .ok (.invokevirtual 494, 3) := by decide +kernel
theorem dX11_season_103 : decode cX11_season 103 = .ok (.istore 7, 2) := by decide +kernel
theorem dX11_season_105 : decode cX11_season 105 = .ok (.aload_n 0, 1) := by decide +kernel
theorem dX11_season_106 : decode cX11_season 106 = .ok (.getfield 38, 3) := by decide +kernel
theorem dX11_season_109 : decode cX11_season 109 = .ok (.iconst 0, 1) := by decide +kernel
theorem dX11_season_110 : decode cX11_season 110 = .ok (.iaload, 1) := by decide +kernel
theorem dX11_season_111 : decode cX11_season 111 = .ok (.ifCond .ne 7, 3) := by decide +kernel
theorem dX11_season_114 : decode cX11_season 114 = .ok (.iconst 0, 1) := by decide +kernel
theorem dX11_season_115 : decode cX11_season 115 = .ok (.goto 13, 3) := by decide +kernel
theorem dX11_season_118 : decode cX11_season 118 = .ok (.aload_n 0, 1) := by decide +kernel
theorem dX11_season_119 : decode cX11_season 119 = .ok (.aload_n 0, 1) := by decide +kernel
theorem dX11_season_120 : decode cX11_season 120 = .ok (.getfield 38, 3) := by decide +kernel
theorem dX11_season_123 : decode cX11_season 123 = .ok (.iconst 0, 1) := by decide +kernel
theorem dX11_season_124 : decode cX11_season 124 = .ok (.iaload, 1) := by decide +kernel
theorem dX11_season_125 : decode cX11_season 125 = .ok (.invokevirtual 494, 3) := by decide +kernel
theorem dX11_season_128 : decode cX11_season 128 = .ok (.istore 8, 2) := by decide +kernel
theorem dX11_season_130 : decode cX11_season 130 = .ok (.iload 7, 2) := by decide +kernel
theorem dX11_season_132 : decode cX11_season 132 = .ok (.iload 8, 2) := by decide +kernel
theorem dX11_season_134 : decode cX11_season 134 = .ok (.if_icmp .eq 15, 3) := by decide +kernel
theorem dX11_season_137 : decode cX11_season 137 = .ok (.aload_n 0, 1) := by decide +kernel
theorem dX11_season_138 : decode cX11_season 138 = .ok (.iload 7, 2) := by decide +kernel
theorem dX11_season_140 : decode cX11_season 140 = .ok (.iload 8, 2) := by decide +kernel
theorem dX11_season_142 : decode cX11_season 142 = .ok (.aload_n 0, 1) := by decide +kernel
theorem dX11_season_143 : decode cX11_season 143 = .ok (.getfield 321, 3) := by decide +kernel
theorem dX11_season_146 : decode cX11_season 146 = .ok (.invokevirtual 417, 3) := by decide +kernel
theorem dX11_season_149 : decode cX11_season 149 = .ok (.aload_n 0, 1) := by decide +kernel
theorem dX11_season_150 : decode cX11_season 150 = .ok (.iconst 1, 1) := by decide +kernel
theorem dX11_season_151 : decode cX11_season 151 = .ok (.invokevirtual 459, 3) := by decide +kernel
theorem dX11_season_154 : decode cX11_season 154 = .ok (.invokestatic 421, 3) := by decide +kernel
theorem dX11_season_157 : decode cX11_season 157 = .ok (.istore 9, 2) := by decide +kernel
theorem dX11_season_159 : decode cX11_season 159 = .ok (.iload 4, 2) := by decide +kernel
theorem dX11_season_161 : decode cX11_season 161 = .ok (.iload 9, 2) := by decide +kernel
theorem dX11_season_163 : decode cX11_season 163 = .ok (.iadd, 1) := by decide +kernel
theorem dX11_season_164 : decode cX11_season 164 = .ok (.istore 4, 2) := by decide +kernel
theorem dX11_season_166 : decode cX11_season 166 = .ok (.iload 6, 2) := by decide +kernel
theorem dX11_season_168 : decode cX11_season 168 = .ok (.ifCond .ne 8, 3) := by decide +kernel
theorem dX11_season_171 : decode cX11_season 171 = .ok (.iload 9, 2) := by decide +kernel
theorem dX11_season_173 : decode cX11_season 173 = .ok (.goto 10, 3) := by decide +kernel
theorem dX11_season_176 : decode cX11_season 176 = .ok (.iload 5, 2) := by decide +kernel
theorem dX11_season_178 : decode cX11_season 178 = .ok (.iload 9, 2) := by decide +kernel
theorem dX11_season_180 : decode cX11_season 180 = .ok (.invokestatic 195, 3) := by decide +kernel
theorem dX11_season_183 : decode cX11_season 183 = .ok (.istore 5, 2) := by decide +kernel
theorem dX11_season_185 : decode cX11_season 185 = .ok (.iinc 6 1, 3) := by decide +kernel
theorem dX11_season_188 : decode cX11_season 188 = .ok (.goto (-124), 3) := by decide +kernel
theorem dX11_season_191 : decode cX11_season 191 = .ok (.aload_n 0, 1) := by decide +kernel
theorem dX11_season_192 : decode cX11_season 192 = .ok (.invokevirtual 386, 3) := by decide +kernel
theorem dX11_season_195 : decode cX11_season 195 = .ok (.istore 6, 2) := by decide +kernel
theorem dX11_season_197 : decode cX11_season 197 = .ok (.aload_n 0, 1) := by decide +kernel
theorem dX11_season_198 : decode cX11_season 198 = .ok (.aload_n 0, 1) := by decide +kernel
theorem dX11_season_199 : decode cX11_season 199 = .ok (.getfield 114, 3) := by decide +kernel
theorem dX11_season_202 : decode cX11_season 202 = .ok (.iconst 0, 1) := by decide +kernel
theorem dX11_season_203 : decode cX11_season 203 = .ok (.invokevirtual 429, 3) := by decide +kernel
theorem dX11_season_206 : decode cX11_season 206 = .ok (.iload_n 3, 1) := by decide +kernel
theorem dX11_season_207 : decode cX11_season 207 = .ok (.ifCond .ne 8, 3) := by decide +kernel
theorem dX11_season_210 : decode cX11_season 210 = .ok (.iload 4, 2) := by decide +kernel
theorem dX11_season_212 : decode cX11_season 212 = .ok (.goto 15, 3) := by decide +kernel
theorem dX11_season_215 : decode cX11_season 215 = .ok (.iload_n 3, 1) := by decide +kernel
theorem dX11_season_216 : decode cX11_season 216 = .ok (.iconst 1, 1) := by decide +kernel
theorem dX11_season_217 : decode cX11_season 217 = .ok (.if_icmp .ne 8, 3) := by decide +kernel
theorem dX11_season_220 : decode cX11_season 220 = .ok (.iload 5, 2) := by decide +kernel
theorem dX11_season_222 : decode cX11_season 222 = .ok (.goto 5, 3) := by decide +kernel
theorem dX11_season_225 : decode cX11_season 225 = .ok (.iload 6, 2) := by decide +kernel
theorem dX11_season_227 : decode cX11_season 227 = .ok (.ireturn, 1) := by decide +kernel
def b_X11_season_L64 (y2 : Int32) (y3 : Int32) (K : Int32 → Int32 → g_I → Option (Int32 × g_I)) : Nat → Int32 → Int32 → Int32 → g_I → Option (Int32 × g_I)
  | 0, _, _, _, _ => none
  | f + 1, x4, x5, x6, I => g_let (fun (z4 : Int32) (z5 : Int32) (z6 : Int32) (I149j : g_I) => g_bind (b_X11_cuttable I149j 1) fun a6 => g_bind (b_X11_bitsOf a6) fun a9 => g_let (z4 + a9) fun a12 => if z6 = 0 then b_X11_season_L64 y2 y3 K f a12 a9 (z6 + 1) I149j else g_let (g_min z5 a9) fun a13 => b_X11_season_L64 y2 y3 K f a12 a13 (z6 + 1) I149j) fun J149 => g_let (fun (z4 : Int32) (z5 : Int32) (z6 : Int32) (w0 : Int32) (I103j : g_I) => if (I103j 104 0) = 0 then if w0 = 0 then J149 z4 z5 z6 I103j else g_bind (b_X11_meet I103j w0 0 (I103j 101 30)) fun I21 => J149 z4 z5 z6 I21 else g_bind2 (b_X11_drawOf I103j (I103j 104 0)) fun a14 I15 => if w0 = a14 then J149 z4 z5 z6 I15 else g_bind (b_X11_meet I15 w0 a14 (I15 101 30)) fun I18 => J149 z4 z5 z6 I18) fun J103 => if y2 ≤ x6 then K x4 x5 I else g_let (am_up I 101 30 ((I 101 30) + 1)) fun I23 => if (I23 104 0) = 0 then J103 x4 x5 x6 0 I23 else g_bind2 (b_X11_drawOf I23 (I23 104 0)) fun a24 I25 => J103 x4 x5 x6 a24 I25
def b_X11_season (I : g_I) (x1 : Int32) (x2 : Int32) (x3 : Int32) : Option (Int32 × g_I) :=
  g_let (am_up I 101 2 0) fun I1 => if b_X11_isIn (x3.toInt64) 0 2 = true then if b_X11_isIn (x2.toInt64) 0 60 = true then g_bind (b_X11_pack I1 129 80 0) fun I3 => g_let (am_up I3 101 56 x1) fun I5 => b_X11_season_L64 x2 x3 (fun (a27 : Int32) (a28 : Int32) (I29 : g_I) => g_bind (b_X11_knownBoth I29) fun a30 => g_bind (b_X11_unpack I29 129 80 0) fun I34 => if x3 = 0 then some (a27, I34) else if x3 = 1 then some (a28, I34) else some (a30, I34)) fu 0 0 0 I5 else g_bind2 (b_X11_fail I1 2) fun a36 I37 => some (a36, I37) else g_bind2 (b_X11_fail I1 1) fun a39 I40 => some (a39, I40)
set_option maxRecDepth 100000 in
set_option maxHeartbeats 4000000 in
theorem gL_X11_season_64 {G : am_G} (hK : k_OK G) {d : Nat} (hd : 8 ≤ d) {sh : List (Nat ⊕ (Nat × Nat))} {I : g_I} {R : Nat → Nat → Option Nat} {L : Nat → Nat → Int64} {g : Nat} (hm : k_Mod sh R) {y2 : Int32} {y3 : Int32} {K : Int32 → Int32 → g_I → Option (Int32 × g_I)} {x4 : Int32} {x5 : Int32} {x6 : Int32} {f : Nat} {r : Int32 × g_I} (h : b_X11_season_L64 y2 y3 K f x4 x5 x6 I = some r) (hk : ∀ (u4 : Int32) (u5 : Int32) (J : g_I), K u4 u5 J = some r → AW G mX11_season d (fun v w => v = some (.int r.1) ∧ w = (sh, r.2, R, L, g)) (fun _ _ => False) 191 [some (.ref 101), none, none, some (.int y3), some (.int u4), some (.int u5), none, none, none, none] [] (sh, J, R, L, g) 0 0) : AW G mX11_season d (fun v w => v = some (.int r.1) ∧ w = (sh, r.2, R, L, g)) (fun _ _ => False) 64 [some (.ref 101), none, some (.int y2), some (.int y3), some (.int x4), some (.int x5), some (.int x6), none, none, none] [] (sh, I, R, L, g) 0 0 := by
  have hG := hK.1
  induction f generalizing x4 x5 x6 I with
  | zero => rw [b_X11_season_L64] at h; cases h
  | succ f ih =>
    rw [b_X11_season_L64] at h
    obtain ⟨J149, eJ149, h⟩ := g_letE h
    have H149 : ∀ (z4 : Int32) (z5 : Int32) (z6 : Int32) (I149j : g_I), J149 z4 z5 z6 I149j = some r → AW G mX11_season d (fun v w => v = some (.int r.1) ∧ w = (sh, r.2, R, L, g)) (fun _ _ => False) 149 [some (.ref 101), none, some (.int y2), some (.int y3), some (.int z4), some (.int z5), some (.int z6), none, none, none] [] (sh, I149j, R, L, g) 0 0 := by
      intro z4 z5 z6 I149j h
      rw [eJ149] at h
      refine AW.aload_n dX11_season_149 rfl ?_
      refine AW.iconst 1 dX11_season_150 (by decide) ?_
      obtain ⟨a6, hx8, h⟩ := g_bindE h
      refine AW.callV (b := 101) (As := [.int 1]) hG.2.2 (vX11_459 hG) (hm.1 0 _ rfl) (g_X11_cuttable hK (d := 7) (Nat.le_refl _) hm hx8) (by omega) dX11_season_151 rfl rfl (Nat.le_of_ble_eq_true rfl) (fun v w9 hq9 h09 => by obtain ⟨rfl, rfl⟩ := hq9; exact ⟨h09, rfl⟩) (by decide) (by decide) (fun _ _ hx => hx) (fun v9 w9 hq9 => ?_)
      obtain ⟨rfl, rfl⟩ := hq9
      show AW G _ d _ _ 154 [some (.ref 101), none, some (.int y2), some (.int y3), some (.int z4), some (.int z5), some (.int z6), none, none, none] [.int a6] (sh, I149j, R, L, g) 0 0
      obtain ⟨a9, hx11, h⟩ := g_bindE h
      refine AW.callS (As := [.int a6]) hG.2.2 (vX11_421 hG) (g_X11_bitsOf hK (d := 0) (Nat.le_refl _) hx11) (by omega) dX11_season_154 rfl rfl (Nat.le_of_ble_eq_true rfl) (fun v w9 hq9 h09 => by obtain ⟨rfl, rfl⟩ := hq9; exact ⟨h09, rfl⟩) (by decide) (by decide) (fun _ _ hx => hx) (fun v9 w9 hq9 => ?_)
      obtain ⟨rfl, rfl⟩ := hq9
      show AW G _ d _ _ 157 [some (.ref 101), none, some (.int y2), some (.int y3), some (.int z4), some (.int z5), some (.int z6), none, none, none] [.int a9] (sh, I149j, R, L, g) 0 0
      refine AW.is [some (.ref 101), none, some (.int y2), some (.int y3), some (.int z4), some (.int z5), some (.int z6), none, none, some (.int a9)] dX11_season_157 (by decide) rfl rfl ?_
      refine AW.iload dX11_season_159 rfl ?_
      refine AW.iload dX11_season_161 rfl ?_
      refine AW.iadd dX11_season_163 ?_
      obtain ⟨a12, ea12, h⟩ := g_letE h
      refine AW.namE ea12 ?_
      refine AW.is [some (.ref 101), none, some (.int y2), some (.int y3), some (.int a12), some (.int z5), some (.int z6), none, none, some (.int a9)] dX11_season_164 (by decide) rfl rfl ?_
      refine AW.iload dX11_season_166 rfl ?_
      refine AW.if_ne 176 dX11_season_168 (by decide) (fun hc168 => ?_) (fun hc168 => ?_)
      · replace h := g_neg hc168 h
        refine AW.iload dX11_season_176 rfl ?_
        refine AW.iload dX11_season_178 rfl ?_
        refine AW.mmin (k_c hG 1716 (by decide +kernel) (by decide +kernel)) (k_mmin hG) dX11_season_180 (by omega) (Nat.le_of_ble_eq_true rfl) (by decide) (by decide) ?_
        show AW G _ d _ _ 183 [some (.ref 101), none, some (.int y2), some (.int y3), some (.int a12), some (.int z5), some (.int z6), none, none, some (.int a9)] [.int (g_min z5 a9)] (sh, I149j, R, L, g) 0 0
        obtain ⟨a13, ea13, h⟩ := g_letE h
        refine AW.namE ea13 ?_
        refine AW.is [some (.ref 101), none, some (.int y2), some (.int y3), some (.int a12), some (.int a13), some (.int z6), none, none, some (.int a9)] dX11_season_183 (by decide) rfl rfl ?_
        refine AW.incE 1 (by decide) [some (.ref 101), none, some (.int y2), some (.int y3), some (.int a12), some (.int a13), some (.int (z6 + 1)), none, none, some (.int a9)] dX11_season_185 rfl (by decide) rfl rfl ?_
        refine AW.goto 64 dX11_season_188 (by decide) ?_
        refine AW.mask [9] [some (.ref 101), none, some (.int y2), some (.int y3), some (.int a12), some (.int a13), some (.int (z6 + 1)), none, none, none] rfl ?_
        exact ih h
      · replace h := g_pos hc168 h
        refine AW.iload dX11_season_171 rfl ?_
        refine AW.goto 183 dX11_season_173 (by decide) ?_
        refine AW.is [some (.ref 101), none, some (.int y2), some (.int y3), some (.int a12), some (.int a9), some (.int z6), none, none, some (.int a9)] dX11_season_183 (by decide) rfl rfl ?_
        refine AW.incE 1 (by decide) [some (.ref 101), none, some (.int y2), some (.int y3), some (.int a12), some (.int a9), some (.int (z6 + 1)), none, none, some (.int a9)] dX11_season_185 rfl (by decide) rfl rfl ?_
        refine AW.goto 64 dX11_season_188 (by decide) ?_
        refine AW.mask [9] [some (.ref 101), none, some (.int y2), some (.int y3), some (.int a12), some (.int a9), some (.int (z6 + 1)), none, none, none] rfl ?_
        exact ih h
    obtain ⟨J103, eJ103, h⟩ := g_letE h
    have H103 : ∀ (z4 : Int32) (z5 : Int32) (z6 : Int32) (w0 : Int32) (I103j : g_I), J103 z4 z5 z6 w0 I103j = some r → AW G mX11_season d (fun v w => v = some (.int r.1) ∧ w = (sh, r.2, R, L, g)) (fun _ _ => False) 103 [some (.ref 101), none, some (.int y2), some (.int y3), some (.int z4), some (.int z5), some (.int z6), none, none, none] [.int w0] (sh, I103j, R, L, g) 0 0 := by
      intro z4 z5 z6 w0 I103j h
      rw [eJ103] at h
      refine AW.is [some (.ref 101), none, some (.int y2), some (.int y3), some (.int z4), some (.int z5), some (.int z6), some (.int w0), none, none] dX11_season_103 (by decide) rfl rfl ?_
      refine AW.aload_n dX11_season_105 rfl ?_
      refine AW.getR (c' := 104) (fX11_38 hG).r rfl (hm.1 0 _ rfl) (hm.2 (0, 3, 3) (by decide)) dX11_season_106 ?_
      refine AW.iconst 0 dX11_season_109 (by decide) ?_
      refine AW.iald (hm.1 3 _ rfl) (by unfold vp_in; decide) dX11_season_110 ?_
      show AW G _ d _ _ 111 [some (.ref 101), none, some (.int y2), some (.int y3), some (.int z4), some (.int z5), some (.int z6), some (.int w0), none, none] [.int (I103j 104 0)] (sh, I103j, R, L, g) 0 0
      refine AW.if_ne 118 dX11_season_111 (by decide) (fun hc111 => ?_) (fun hc111 => ?_)
      · replace h := g_neg hc111 h
        refine AW.aload_n dX11_season_118 rfl ?_
        refine AW.aload_n dX11_season_119 rfl ?_
        refine AW.getR (c' := 104) (fX11_38 hG).r rfl (hm.1 0 _ rfl) (hm.2 (0, 3, 3) (by decide)) dX11_season_120 ?_
        refine AW.iconst 0 dX11_season_123 (by decide) ?_
        refine AW.iald (hm.1 3 _ rfl) (by unfold vp_in; decide) dX11_season_124 ?_
        show AW G _ d _ _ 125 [some (.ref 101), none, some (.int y2), some (.int y3), some (.int z4), some (.int z5), some (.int z6), some (.int w0), none, none] [.int (I103j 104 0), .ref 101] (sh, I103j, R, L, g) 0 0
        obtain ⟨a14, I15, hx16, h⟩ := g_bind2E h
        refine AW.callV (b := 101) (As := [.int (I103j 104 0)]) hG.2.2 (vX11_494 hG) (hm.1 0 _ rfl) (g_X11_drawOf hK (d := 0) (Nat.le_refl _) hm hx16) (by omega) dX11_season_125 rfl rfl (Nat.le_of_ble_eq_true rfl) (fun v w9 hq9 h09 => by obtain ⟨rfl, rfl⟩ := hq9; exact ⟨h09, rfl⟩) (by decide) (by decide) (fun _ _ hx => hx) (fun v9 w9 hq9 => ?_)
        obtain ⟨rfl, rfl⟩ := hq9
        show AW G _ d _ _ 128 [some (.ref 101), none, some (.int y2), some (.int y3), some (.int z4), some (.int z5), some (.int z6), some (.int w0), none, none] [.int a14] (sh, I15, R, L, g) 0 0
        refine AW.is [some (.ref 101), none, some (.int y2), some (.int y3), some (.int z4), some (.int z5), some (.int z6), some (.int w0), some (.int a14), none] dX11_season_128 (by decide) rfl rfl ?_
        refine AW.iload dX11_season_130 rfl ?_
        refine AW.iload dX11_season_132 rfl ?_
        refine AW.icmp_eq 149 dX11_season_134 (by decide) (fun hc134 => ?_) (fun hc134 => ?_)
        · replace h := g_pos hc134 h
          refine AW.mask [7, 8] [some (.ref 101), none, some (.int y2), some (.int y3), some (.int z4), some (.int z5), some (.int z6), none, none, none] rfl ?_
          exact H149 _ _ _ _ h
        · replace h := g_neg hc134 h
          refine AW.aload_n dX11_season_137 rfl ?_
          refine AW.iload dX11_season_138 rfl ?_
          refine AW.iload dX11_season_140 rfl ?_
          refine AW.aload_n dX11_season_142 rfl ?_
          refine AW.getI (fX11_321 hG).r rfl (hm.1 0 _ rfl) dX11_season_143 ?_
          obtain ⟨I18, hx19, h⟩ := g_bindE h
          refine AW.callV (b := 101) (As := [.int w0, .int a14, .int (I15 101 30)]) hG.2.2 (vX11_417 hG) (hm.1 0 _ rfl) (g_X11_meet hK (d := 1) (Nat.le_refl _) hm hx19) (by omega) dX11_season_146 rfl rfl (Nat.le_of_ble_eq_true rfl) (fun v w9 hq9 h09 => by obtain ⟨rfl, rfl⟩ := hq9; exact ⟨h09, rfl⟩) (by decide) (by decide) (fun _ _ hx => hx) (fun v9 w9 hq9 => ?_)
          obtain ⟨rfl, rfl⟩ := hq9
          show AW G _ d _ _ 149 [some (.ref 101), none, some (.int y2), some (.int y3), some (.int z4), some (.int z5), some (.int z6), some (.int w0), some (.int a14), none] [] (sh, I18, R, L, g) 0 0
          refine AW.mask [7, 8] [some (.ref 101), none, some (.int y2), some (.int y3), some (.int z4), some (.int z5), some (.int z6), none, none, none] rfl ?_
          exact H149 _ _ _ _ h
      · replace h := g_pos hc111 h
        refine AW.iconst 0 dX11_season_114 (by decide) ?_
        refine AW.goto 128 dX11_season_115 (by decide) ?_
        refine AW.is [some (.ref 101), none, some (.int y2), some (.int y3), some (.int z4), some (.int z5), some (.int z6), some (.int w0), some (.int 0), none] dX11_season_128 (by decide) rfl rfl ?_
        refine AW.iload dX11_season_130 rfl ?_
        refine AW.iload dX11_season_132 rfl ?_
        refine AW.icmp_eq 149 dX11_season_134 (by decide) (fun hc134 => ?_) (fun hc134 => ?_)
        · replace h := g_pos hc134 h
          refine AW.mask [7, 8] [some (.ref 101), none, some (.int y2), some (.int y3), some (.int z4), some (.int z5), some (.int z6), none, none, none] rfl ?_
          exact H149 _ _ _ _ h
        · replace h := g_neg hc134 h
          refine AW.aload_n dX11_season_137 rfl ?_
          refine AW.iload dX11_season_138 rfl ?_
          refine AW.iload dX11_season_140 rfl ?_
          refine AW.aload_n dX11_season_142 rfl ?_
          refine AW.getI (fX11_321 hG).r rfl (hm.1 0 _ rfl) dX11_season_143 ?_
          obtain ⟨I21, hx22, h⟩ := g_bindE h
          refine AW.callV (b := 101) (As := [.int w0, .int 0, .int (I103j 101 30)]) hG.2.2 (vX11_417 hG) (hm.1 0 _ rfl) (g_X11_meet hK (d := 1) (Nat.le_refl _) hm hx22) (by omega) dX11_season_146 rfl rfl (Nat.le_of_ble_eq_true rfl) (fun v w9 hq9 h09 => by obtain ⟨rfl, rfl⟩ := hq9; exact ⟨h09, rfl⟩) (by decide) (by decide) (fun _ _ hx => hx) (fun v9 w9 hq9 => ?_)
          obtain ⟨rfl, rfl⟩ := hq9
          show AW G _ d _ _ 149 [some (.ref 101), none, some (.int y2), some (.int y3), some (.int z4), some (.int z5), some (.int z6), some (.int w0), some (.int 0), none] [] (sh, I21, R, L, g) 0 0
          refine AW.mask [7, 8] [some (.ref 101), none, some (.int y2), some (.int y3), some (.int z4), some (.int z5), some (.int z6), none, none, none] rfl ?_
          exact H149 _ _ _ _ h
    refine AW.iload dX11_season_64 rfl ?_
    refine AW.iload_n dX11_season_66 rfl ?_
    refine AW.icmp_ge 191 dX11_season_67 (by decide) (fun hc67 => ?_) (fun hc67 => ?_)
    · replace h := g_pos hc67 h
      refine AW.mask [2, 6] [some (.ref 101), none, none, some (.int y3), some (.int x4), some (.int x5), none, none, none, none] rfl ?_
      exact hk _ _ _ h
    · replace h := g_neg hc67 h
      refine AW.aload_n dX11_season_70 rfl ?_
      refine AW.dup dX11_season_71 rfl ?_
      refine AW.getI (fX11_321 hG).r rfl (hm.1 0 _ rfl) dX11_season_72 ?_
      refine AW.iconst 1 dX11_season_75 (by decide) ?_
      refine AW.iadd dX11_season_76 ?_
      refine AW.putI (fX11_321 hG) rfl (vp_nar_int _) rfl (hm.1 0 _ rfl) dX11_season_77 ?_
      obtain ⟨I23, eI23, h⟩ := g_letE h
      refine AW.namIE eI23 ?_
      refine AW.aload_n dX11_season_80 rfl ?_
      refine AW.getR (c' := 104) (fX11_38 hG).r rfl (hm.1 0 _ rfl) (hm.2 (0, 3, 3) (by decide)) dX11_season_81 ?_
      refine AW.iconst 0 dX11_season_84 (by decide) ?_
      refine AW.iald (hm.1 3 _ rfl) (by unfold vp_in; decide) dX11_season_85 ?_
      show AW G _ d _ _ 86 [some (.ref 101), none, some (.int y2), some (.int y3), some (.int x4), some (.int x5), some (.int x6), none, none, none] [.int (I23 104 0)] (sh, I23, R, L, g) 0 0
      refine AW.if_ne 93 dX11_season_86 (by decide) (fun hc86 => ?_) (fun hc86 => ?_)
      · replace h := g_neg hc86 h
        refine AW.aload_n dX11_season_93 rfl ?_
        refine AW.aload_n dX11_season_94 rfl ?_
        refine AW.getR (c' := 104) (fX11_38 hG).r rfl (hm.1 0 _ rfl) (hm.2 (0, 3, 3) (by decide)) dX11_season_95 ?_
        refine AW.iconst 0 dX11_season_98 (by decide) ?_
        refine AW.iald (hm.1 3 _ rfl) (by unfold vp_in; decide) dX11_season_99 ?_
        show AW G _ d _ _ 100 [some (.ref 101), none, some (.int y2), some (.int y3), some (.int x4), some (.int x5), some (.int x6), none, none, none] [.int (I23 104 0), .ref 101] (sh, I23, R, L, g) 0 0
        obtain ⟨a24, I25, hx26, h⟩ := g_bind2E h
        refine AW.callV (b := 101) (As := [.int (I23 104 0)]) hG.2.2 (vX11_494 hG) (hm.1 0 _ rfl) (g_X11_drawOf hK (d := 0) (Nat.le_refl _) hm hx26) (by omega) dX11_season_100 rfl rfl (Nat.le_of_ble_eq_true rfl) (fun v w9 hq9 h09 => by obtain ⟨rfl, rfl⟩ := hq9; exact ⟨h09, rfl⟩) (by decide) (by decide) (fun _ _ hx => hx) (fun v9 w9 hq9 => ?_)
        obtain ⟨rfl, rfl⟩ := hq9
        show AW G _ d _ _ 103 [some (.ref 101), none, some (.int y2), some (.int y3), some (.int x4), some (.int x5), some (.int x6), none, none, none] [.int a24] (sh, I25, R, L, g) 0 0
        exact H103 _ _ _ _ _ h
      · replace h := g_pos hc86 h
        refine AW.iconst 0 dX11_season_89 (by decide) ?_
        refine AW.goto 103 dX11_season_90 (by decide) ?_
        exact H103 _ _ _ _ _ h
set_option maxRecDepth 100000 in
set_option maxHeartbeats 4000000 in
theorem g_X11_season {G : am_G} (hK : k_OK G) {d : Nat} (hd : 8 ≤ d) {sh : List (Nat ⊕ (Nat × Nat))} {I : g_I} {R : Nat → Nat → Option Nat} {L : Nat → Nat → Int64} {g : Nat} (hm : k_Mod sh R) {x1 : Int32} {x2 : Int32} {x3 : Int32} {r : Int32 × g_I} (h : b_X11_season I x1 x2 x3 = some r) : AM G mX11_season d [.ref 101, .int x1, .int x2, .int x3] (sh, I, R, L, g) (fun v w => v = some (.int r.1) ∧ w = (sh, r.2, R, L, g)) (fun _ _ => False) := by
  have hG := hK.1
  refine AM.of (n := 6) (by decide +kernel) (Nat.le_of_ble_eq_true rfl) ?_
  show AW G mX11_season d (fun v w => v = some (.int r.1) ∧ w = (sh, r.2, R, L, g)) (fun _ _ => False) 0 [some (.ref 101), some (.int x1), some (.int x2), some (.int x3), none, none, none, none, none, none] [] (sh, I, R, L, g) 0 0
  unfold b_X11_season at h
  refine AW.aload_n dX11_season_0 rfl ?_
  refine AW.iconst 0 dX11_season_1 (by decide) ?_
  refine AW.putI (fX11_159 hG) rfl (vp_nar_int _) rfl (hm.1 0 _ rfl) dX11_season_2 ?_
  obtain ⟨I1, eI1, h⟩ := g_letE h
  refine AW.namIE eI1 ?_
  refine AW.iload_n dX11_season_5 rfl ?_
  refine AW.i2l dX11_season_6 ?_
  refine AW.lconst 0 dX11_season_7 (by decide) ?_
  refine AW.ldc2 2 dX11_season_8 (k_c hG 2090 (by decide +kernel) (by decide +kernel)) ?_
  refine AW.callS (As := [.long (x3.toInt64), .long 0, .long 2]) hG.2.2 (vX11_162 hG) (g_X11_isIn hK (d := 0) (Nat.le_refl _) (x3.toInt64) 0 2) (by omega) dX11_season_11 rfl rfl (Nat.le_of_ble_eq_true rfl) (fun v w9 hq9 h09 => by obtain ⟨rfl, rfl⟩ := hq9; exact ⟨h09, rfl⟩) (by decide) (by decide) (fun _ _ hx => hx) (fun v9 w9 hq9 => ?_)
  obtain ⟨rfl, rfl⟩ := hq9
  show AW G _ d _ _ 14 [some (.ref 101), some (.int x1), some (.int x2), some (.int x3), none, none, none, none, none, none] [.int (kb (b_X11_isIn (x3.toInt64) 0 2))] (sh, I1, R, L, g) 0 0
  refine AW.if_ne 23 dX11_season_14 (by decide) (fun hc14 => ?_) (fun hc14 => ?_)
  · replace h := g_pos (kb_1.mp hc14) h
    refine AW.iload_n dX11_season_23 rfl ?_
    refine AW.i2l dX11_season_24 ?_
    refine AW.lconst 0 dX11_season_25 (by decide) ?_
    refine AW.ldc2 60 dX11_season_26 (k_c hG 2091 (by decide +kernel) (by decide +kernel)) ?_
    refine AW.callS (As := [.long (x2.toInt64), .long 0, .long 60]) hG.2.2 (vX11_162 hG) (g_X11_isIn hK (d := 0) (Nat.le_refl _) (x2.toInt64) 0 60) (by omega) dX11_season_29 rfl rfl (Nat.le_of_ble_eq_true rfl) (fun v w9 hq9 h09 => by obtain ⟨rfl, rfl⟩ := hq9; exact ⟨h09, rfl⟩) (by decide) (by decide) (fun _ _ hx => hx) (fun v9 w9 hq9 => ?_)
    obtain ⟨rfl, rfl⟩ := hq9
    show AW G _ d _ _ 32 [some (.ref 101), some (.int x1), some (.int x2), some (.int x3), none, none, none, none, none, none] [.int (kb (b_X11_isIn (x2.toInt64) 0 60))] (sh, I1, R, L, g) 0 0
    refine AW.if_ne 41 dX11_season_32 (by decide) (fun hc32 => ?_) (fun hc32 => ?_)
    · replace h := g_pos (kb_1.mp hc32) h
      refine AW.aload_n dX11_season_41 rfl ?_
      refine AW.aload_n dX11_season_42 rfl ?_
      refine AW.getR (c' := 129) (fX11_114 hG).r rfl (hm.1 0 _ rfl) (hm.2 (0, 48, 28) (by decide)) dX11_season_43 ?_
      refine AW.iconst 0 dX11_season_46 (by decide) ?_
      obtain ⟨I3, hx4, h⟩ := g_bindE h
      refine AW.callV (b := 101) (As := [.ref 129, .int 0]) hG.2.2 (vX11_407 hG) (hm.1 0 _ rfl) (g_X11_pack hK (d := 0) (Nat.le_refl _) hm (hm.1 28 _ rfl) hx4) (by omega) dX11_season_47 rfl rfl (Nat.le_of_ble_eq_true rfl) (fun v w9 hq9 h09 => by obtain ⟨rfl, rfl⟩ := hq9; exact ⟨h09, rfl⟩) (by decide) (by decide) (fun _ _ hx => hx) (fun v9 w9 hq9 => ?_)
      obtain ⟨rfl, rfl⟩ := hq9
      show AW G _ d _ _ 50 [some (.ref 101), some (.int x1), some (.int x2), some (.int x3), none, none, none, none, none, none] [] (sh, I3, R, L, g) 0 0
      refine AW.aload_n dX11_season_50 rfl ?_
      refine AW.iload_n dX11_season_51 rfl ?_
      refine AW.putI (fX11_486 hG) rfl (vp_nar_int _) rfl (hm.1 0 _ rfl) dX11_season_52 ?_
      obtain ⟨I5, eI5, h⟩ := g_letE h
      refine AW.namIE eI5 ?_
      refine AW.iconst 0 dX11_season_55 (by decide) ?_
      refine AW.is [some (.ref 101), some (.int x1), some (.int x2), some (.int x3), some (.int 0), none, none, none, none, none] dX11_season_56 (by decide) rfl rfl ?_
      refine AW.iconst 0 dX11_season_58 (by decide) ?_
      refine AW.is [some (.ref 101), some (.int x1), some (.int x2), some (.int x3), some (.int 0), some (.int 0), none, none, none, none] dX11_season_59 (by decide) rfl rfl ?_
      refine AW.iconst 0 dX11_season_61 (by decide) ?_
      refine AW.is [some (.ref 101), some (.int x1), some (.int x2), some (.int x3), some (.int 0), some (.int 0), some (.int 0), none, none, none] dX11_season_62 (by decide) rfl rfl ?_
      refine AW.mask [1] [some (.ref 101), none, some (.int x2), some (.int x3), some (.int 0), some (.int 0), some (.int 0), none, none, none] rfl ?_
      refine gL_X11_season_64 hK hd hm h (fun a27 a28 I29 h => ?_)
      refine AW.aload_n dX11_season_191 rfl ?_
      obtain ⟨a30, hx32, h⟩ := g_bindE h
      refine AW.callV (b := 101) (As := []) hG.2.2 (vX11_386 hG) (hm.1 0 _ rfl) (g_X11_knownBoth hK (d := 3) (Nat.le_refl _) hm hx32) (by omega) dX11_season_192 rfl rfl (Nat.le_of_ble_eq_true rfl) (fun v w9 hq9 h09 => by obtain ⟨rfl, rfl⟩ := hq9; exact ⟨h09, rfl⟩) (by decide) (by decide) (fun _ _ hx => hx) (fun v9 w9 hq9 => ?_)
      obtain ⟨rfl, rfl⟩ := hq9
      show AW G _ d _ _ 195 [some (.ref 101), none, none, some (.int x3), some (.int a27), some (.int a28), none, none, none, none] [.int a30] (sh, I29, R, L, g) 0 0
      refine AW.is [some (.ref 101), none, none, some (.int x3), some (.int a27), some (.int a28), some (.int a30), none, none, none] dX11_season_195 (by decide) rfl rfl ?_
      refine AW.aload_n dX11_season_197 rfl ?_
      refine AW.aload_n dX11_season_198 rfl ?_
      refine AW.getR (c' := 129) (fX11_114 hG).r rfl (hm.1 0 _ rfl) (hm.2 (0, 48, 28) (by decide)) dX11_season_199 ?_
      refine AW.iconst 0 dX11_season_202 (by decide) ?_
      obtain ⟨I34, hx35, h⟩ := g_bindE h
      refine AW.callV (b := 101) (As := [.ref 129, .int 0]) hG.2.2 (vX11_429 hG) (hm.1 0 _ rfl) (g_X11_unpack hK (d := 0) (Nat.le_refl _) hm (hm.1 28 _ rfl) hx35) (by omega) dX11_season_203 rfl rfl (Nat.le_of_ble_eq_true rfl) (fun v w9 hq9 h09 => by obtain ⟨rfl, rfl⟩ := hq9; exact ⟨h09, rfl⟩) (by decide) (by decide) (fun _ _ hx => hx) (fun v9 w9 hq9 => ?_)
      obtain ⟨rfl, rfl⟩ := hq9
      show AW G _ d _ _ 206 [some (.ref 101), none, none, some (.int x3), some (.int a27), some (.int a28), some (.int a30), none, none, none] [] (sh, I34, R, L, g) 0 0
      refine AW.iload_n dX11_season_206 rfl ?_
      refine AW.if_ne 215 dX11_season_207 (by decide) (fun hc207 => ?_) (fun hc207 => ?_)
      · replace h := g_neg hc207 h
        refine AW.iload_n dX11_season_215 rfl ?_
        refine AW.iconst 1 dX11_season_216 (by decide) ?_
        refine AW.icmp_ne 225 dX11_season_217 (by decide) (fun hc217 => ?_) (fun hc217 => ?_)
        · replace h := g_neg hc217 h
          refine AW.iload dX11_season_225 rfl ?_
          exact AW.iret dX11_season_227 rfl (by decide) (by decide) (by cases h; exact ⟨rfl, rfl⟩)
        · replace h := g_pos hc217 h
          refine AW.iload dX11_season_220 rfl ?_
          refine AW.goto 227 dX11_season_222 (by decide) ?_
          exact AW.iret dX11_season_227 rfl (by decide) (by decide) (by cases h; exact ⟨rfl, rfl⟩)
      · replace h := g_pos hc207 h
        refine AW.iload dX11_season_210 rfl ?_
        refine AW.goto 227 dX11_season_212 (by decide) ?_
        exact AW.iret dX11_season_227 rfl (by decide) (by decide) (by cases h; exact ⟨rfl, rfl⟩)
    · replace h := g_neg (g_kb0 hc32) h
      refine AW.aload_n dX11_season_35 rfl ?_
      refine AW.iconst 2 dX11_season_36 (by decide) ?_
      obtain ⟨a36, I37, hx38, h⟩ := g_bind2E h
      refine AW.callV (b := 101) (As := [.int 2]) hG.2.2 (vX11_307 hG) (hm.1 0 _ rfl) (g_X11_fail hK (d := 0) (Nat.le_refl _) hm hx38) (by omega) dX11_season_37 rfl rfl (Nat.le_of_ble_eq_true rfl) (fun v w9 hq9 h09 => by obtain ⟨rfl, rfl⟩ := hq9; exact ⟨h09, rfl⟩) (by decide) (by decide) (fun _ _ hx => hx) (fun v9 w9 hq9 => ?_)
      obtain ⟨rfl, rfl⟩ := hq9
      show AW G _ d _ _ 40 [some (.ref 101), some (.int x1), some (.int x2), some (.int x3), none, none, none, none, none, none] [.int a36] (sh, I37, R, L, g) 0 0
      exact AW.iret dX11_season_40 rfl (by decide) (by decide) (by cases h; exact ⟨rfl, rfl⟩)
  · replace h := g_neg (g_kb0 hc14) h
    refine AW.aload_n dX11_season_17 rfl ?_
    refine AW.iconst 1 dX11_season_18 (by decide) ?_
    obtain ⟨a39, I40, hx41, h⟩ := g_bind2E h
    refine AW.callV (b := 101) (As := [.int 1]) hG.2.2 (vX11_307 hG) (hm.1 0 _ rfl) (g_X11_fail hK (d := 0) (Nat.le_refl _) hm hx41) (by omega) dX11_season_19 rfl rfl (Nat.le_of_ble_eq_true rfl) (fun v w9 hq9 h09 => by obtain ⟨rfl, rfl⟩ := hq9; exact ⟨h09, rfl⟩) (by decide) (by decide) (fun _ _ hx => hx) (fun v9 w9 hq9 => ?_)
    obtain ⟨rfl, rfl⟩ := hq9
    show AW G _ d _ _ 22 [some (.ref 101), some (.int x1), some (.int x2), some (.int x3), none, none, none, none, none, none] [.int a39] (sh, I40, R, L, g) 0 0
    exact AW.iret dX11_season_22 rfl (by decide) (by decide) (by cases h; exact ⟨rfl, rfl⟩)
