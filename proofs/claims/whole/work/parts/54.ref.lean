/-! 54.ref (printed by s52.py) -/
theorem dX11_personNow_0 : decode cX11_personNow 0 = .ok (.aload_n 0, 1) := by decide +kernel
theorem dX11_personNow_1 : decode cX11_personNow 1 = .ok (.iconst 0, 1) := by decide +kernel
theorem dX11_personNow_2 : decode cX11_personNow 2 = .ok (.sipush 9999, 3) := by decide +kernel
theorem dX11_personNow_5 : decode cX11_personNow 5 = .ok (.invokevirtual 235, 3) := by decide +kernel
theorem dX11_personNow_8 : decode cX11_personNow 8 = .ok (.istore_n 1, 1) := by decide +kernel
theorem dX11_personNow_9 : decode cX11_personNow 9 = .ok (.aload_n 0, 1) := by decide +kernel
theorem dX11_personNow_10 : decode cX11_personNow 10 = .ok (.getfield 207, 3) := by decide +kernel
theorem dX11_personNow_13 : decode cX11_personNow 13 = .ok (.ifCond .ne 19, 3) := by decide +kernel
theorem dX11_personNow_16 : decode cX11_personNow 16 = .ok (.iload_n 1, 1) := by decide +kernel
theorem dX11_personNow_17 : decode cX11_personNow 17 = .ok (.aload_n 0, 1) := by decide +kernel
theorem dX11_personNow_18 : decode cX11_personNow 18 = .ok (.getfield 38, 3) := by decide +kernel
theorem dX11_personNow_21 : decode cX11_personNow 21 = .ok (.bipush 6, 2) := by decide +kernel
theorem dX11_personNow_23 : decode cX11_personNow 23 = .ok (.iaload, 1) := by decide +kernel
theorem dX11_personNow_24 : decode cX11_personNow 24 = .ok (.if_icmp .lt 8, 3) := by decide +kernel
theorem dX11_personNow_27 : decode cX11_personNow 27 = .ok (.aload_n 0, 1) := by decide +kernel
theorem dX11_personNow_28 : decode cX11_personNow 28 = .ok (.iconst 3, 1) := by decide +kernel
theorem dX11_personNow_29 : decode cX11_personNow 29 = .ok (.invokevirtual 228, 3) := by decide +kernel
theorem dX11_personNow_32 : decode cX11_personNow 32 = .ok (.aload_n 0, 1) := by decide +kernel
theorem dX11_personNow_33 : decode cX11_personNow 33 = .ok (.getfield 207, 3) := by decide +kernel
theorem dX11_personNow_36 : decode cX11_personNow 36 = .ok (.ifCond .ne 7, 3) := by decide +kernel
theorem dX11_personNow_39 : decode cX11_personNow 39 = .ok (.iload_n 1, 1) := by decide +kernel
theorem dX11_personNow_40 : decode cX11_personNow 40 = .ok (.goto 4, 3) := by decide +kernel
theorem dX11_personNow_43 : decode cX11_personNow 43 = .ok (.iconst 0, 1) := by decide +kernel
theorem dX11_personNow_44 : decode cX11_personNow 44 = .ok (.ireturn, 1) := by decide +kernel
def b_X11_personNow (I : g_I) : Option (Int32 × g_I) :=
  g_let (fun (z1 : Int32) (I32j : g_I) => if (I32j 101 24) = 0 then some (z1, I32j) else some (0, I32j)) fun J32 => g_bind2 (b_X11_numberNow I 0 9999) fun a1 I2 => if (I2 101 24) = 0 then if a1 < (I2 104 6) then J32 a1 I2 else g_bind (b_X11_wrong I2 3) fun I5 => J32 a1 I5 else J32 a1 I2
set_option maxRecDepth 100000 in
set_option maxHeartbeats 4000000 in
theorem g_X11_personNow {G : am_G} (hK : k_OK G) {d : Nat} (hd : 2 ≤ d) {sh : List (Nat ⊕ (Nat × Nat))} {I : g_I} {R : Nat → Nat → Option Nat} {L : Nat → Nat → Int64} {g : Nat} (hm : k_Mod sh R) {r : Int32 × g_I} (h : b_X11_personNow I = some r) : AM G mX11_personNow d [.ref 101] (sh, I, R, L, g) (fun v w => v = some (.int r.1) ∧ w = (sh, r.2, R, L, g)) (fun _ _ => False) := by
  have hG := hK.1
  refine AM.of (n := 1) (by decide +kernel) (Nat.le_of_ble_eq_true rfl) ?_
  show AW G mX11_personNow d (fun v w => v = some (.int r.1) ∧ w = (sh, r.2, R, L, g)) (fun _ _ => False) 0 [some (.ref 101), none] [] (sh, I, R, L, g) 0 0
  unfold b_X11_personNow at h
  obtain ⟨J32, eJ32, h⟩ := g_letE h
  have H32 : ∀ (z1 : Int32) (I32j : g_I), J32 z1 I32j = some r → AW G mX11_personNow d (fun v w => v = some (.int r.1) ∧ w = (sh, r.2, R, L, g)) (fun _ _ => False) 32 [some (.ref 101), some (.int z1)] [] (sh, I32j, R, L, g) 0 0 := by
    intro z1 I32j h
    rw [eJ32] at h
    refine AW.aload_n dX11_personNow_32 rfl ?_
    refine AW.getI (fX11_207 hG).r rfl (hm.1 0 _ rfl) dX11_personNow_33 ?_
    refine AW.if_ne 43 dX11_personNow_36 (by decide) (fun hc36 => ?_) (fun hc36 => ?_)
    · replace h := g_neg hc36 h
      refine AW.iconst 0 dX11_personNow_43 (by decide) ?_
      exact AW.iret dX11_personNow_44 rfl (by decide) (by decide) (by cases h; exact ⟨rfl, rfl⟩)
    · replace h := g_pos hc36 h
      refine AW.iload_n dX11_personNow_39 rfl ?_
      refine AW.goto 44 dX11_personNow_40 (by decide) ?_
      exact AW.iret dX11_personNow_44 rfl (by decide) (by decide) (by cases h; exact ⟨rfl, rfl⟩)
  refine AW.aload_n dX11_personNow_0 rfl ?_
  refine AW.iconst 0 dX11_personNow_1 (by decide) ?_
  refine AW.sipush 9999 dX11_personNow_2 (by decide) ?_
  obtain ⟨a1, I2, hx3, h⟩ := g_bind2E h
  refine AW.callV (b := 101) (As := [.int 0, .int 9999]) hG.2.2 (vX11_235 hG) (hm.1 0 _ rfl) (g_X11_numberNow hK (d := 1) (Nat.le_refl _) hm hx3) (by omega) dX11_personNow_5 rfl rfl (Nat.le_of_ble_eq_true rfl) (fun v w9 hq9 h09 => by obtain ⟨rfl, rfl⟩ := hq9; exact ⟨h09, rfl⟩) (by decide) (by decide) (fun _ _ hx => hx) (fun v9 w9 hq9 => ?_)
  obtain ⟨rfl, rfl⟩ := hq9
  show AW G _ d _ _ 8 [some (.ref 101), none] [.int a1] (sh, I2, R, L, g) 0 0
  refine AW.is_n [some (.ref 101), some (.int a1)] dX11_personNow_8 (by decide) rfl rfl ?_
  refine AW.aload_n dX11_personNow_9 rfl ?_
  refine AW.getI (fX11_207 hG).r rfl (hm.1 0 _ rfl) dX11_personNow_10 ?_
  refine AW.if_ne 32 dX11_personNow_13 (by decide) (fun hc13 => ?_) (fun hc13 => ?_)
  · replace h := g_neg hc13 h
    exact H32 _ _ h
  · replace h := g_pos hc13 h
    refine AW.iload_n dX11_personNow_16 rfl ?_
    refine AW.aload_n dX11_personNow_17 rfl ?_
    refine AW.getR (c' := 104) (fX11_38 hG).r rfl (hm.1 0 _ rfl) (hm.2 (0, 3, 3) (by decide)) dX11_personNow_18 ?_
    refine AW.bipush 6 dX11_personNow_21 (by decide) ?_
    refine AW.iald (hm.1 3 _ rfl) (by unfold vp_in; decide) dX11_personNow_23 ?_
    show AW G _ d _ _ 24 [some (.ref 101), some (.int a1)] [.int (I2 104 6), .int a1] (sh, I2, R, L, g) 0 0
    refine AW.icmp_lt 32 dX11_personNow_24 (by decide) (fun hc24 => ?_) (fun hc24 => ?_)
    · replace h := g_pos hc24 h
      exact H32 _ _ h
    · replace h := g_neg hc24 h
      refine AW.aload_n dX11_personNow_27 rfl ?_
      refine AW.iconst 3 dX11_personNow_28 (by decide) ?_
      obtain ⟨I5, hx6, h⟩ := g_bindE h
      refine AW.callV (b := 101) (As := [.int 3]) hG.2.2 (vX11_228 hG) (hm.1 0 _ rfl) (g_X11_wrong hK (d := 0) (Nat.le_refl _) hm hx6) (by omega) dX11_personNow_29 rfl rfl (Nat.le_of_ble_eq_true rfl) (fun v w9 hq9 h09 => by obtain ⟨rfl, rfl⟩ := hq9; exact ⟨h09, rfl⟩) (by decide) (by decide) (fun _ _ hx => hx) (fun v9 w9 hq9 => ?_)
      obtain ⟨rfl, rfl⟩ := hq9
      show AW G _ d _ _ 32 [some (.ref 101), some (.int a1)] [] (sh, I5, R, L, g) 0 0
      exact H32 _ _ h
theorem dX11_lay_0 : decode cX11_lay 0 = .ok (.aload_n 0, 1) := by decide +kernel
theorem dX11_lay_1 : decode cX11_lay 1 = .ok (.getfield 207, 3) := by decide +kernel
theorem dX11_lay_4 : decode cX11_lay 4 = .ok (.ifCond .eq 4, 3) := by decide +kernel
theorem dX11_lay_7 : decode cX11_lay 7 = .ok (.return_, 1) := by decide +kernel
theorem dX11_lay_8 : decode cX11_lay 8 = .ok (.aload_n 0, 1) := by decide +kernel
theorem dX11_lay_9 : decode cX11_lay 9 = .ok (.getfield 70, 3) := by decide +kernel
theorem dX11_lay_12 : decode cX11_lay 12 = .ok (.sipush 600, 3) := by decide +kernel
theorem dX11_lay_15 : decode cX11_lay 15 = .ok (.aload_n 0, 1) := by decide +kernel
theorem dX11_lay_16 : decode cX11_lay 16 = .ok (.getfield 38, 3) := by decide +kernel
theorem dX11_lay_19 : decode cX11_lay 19 = .ok (.bipush 11, 2) := by decide +kernel
theorem dX11_lay_21 : decode cX11_lay 21 = .ok (.iaload, 1) := by decide +kernel
theorem dX11_lay_22 : decode cX11_lay 22 = .ok (.iadd, 1) := by decide +kernel
theorem dX11_lay_23 : decode cX11_lay 23 = .ok (.iload_n 1, 1) := by decide +kernel
theorem dX11_lay_24 : decode cX11_lay 24 = .ok (.iastore, 1) := by decide +kernel
theorem dX11_lay_25 : decode cX11_lay 25 = .ok (.aload_n 0, 1) := by decide +kernel
theorem dX11_lay_26 : decode cX11_lay 26 = .ok (.getfield 38, 3) := by decide +kernel
theorem dX11_lay_29 : decode cX11_lay 29 = .ok (.bipush 11, 2) := by decide +kernel
theorem dX11_lay_31 : decode cX11_lay 31 = .ok (.dup2, 1) := by decide +kernel
theorem dX11_lay_32 : decode cX11_lay 32 = .ok (.iaload, 1) := by decide +kernel
theorem dX11_lay_33 : decode cX11_lay 33 = .ok (.iconst 1, 1) := by decide +kernel
theorem dX11_lay_34 : decode cX11_lay 34 = .ok (.iadd, 1) := by decide +kernel
theorem dX11_lay_35 : decode cX11_lay 35 = .ok (.iastore, 1) := by decide +kernel
theorem dX11_lay_36 : decode cX11_lay 36 = .ok (.return_, 1) := by decide +kernel
def b_X11_lay (I : g_I) (x1 : Int32) : Option (g_I) :=
  if (I 101 24) = 0 then if g_in ((600 : Int32) + (I 104 11)) 1200 = true then g_let (am_up I 115 ((600 : Int32) + (I 104 11)).toNatClampNeg x1) fun I1 => g_let (am_up I1 104 11 ((I1 104 11) + 1)) fun I2 => some I2 else none else some I
set_option maxRecDepth 100000 in
set_option maxHeartbeats 4000000 in
theorem g_X11_lay {G : am_G} (hK : k_OK G) {d : Nat} (hd : 0 ≤ d) {sh : List (Nat ⊕ (Nat × Nat))} {I : g_I} {R : Nat → Nat → Option Nat} {L : Nat → Nat → Int64} {g : Nat} (hm : k_Mod sh R) {x1 : Int32} {r : g_I} (h : b_X11_lay I x1 = some r) : AM G mX11_lay d [.ref 101, .int x1] (sh, I, R, L, g) (fun v w => v = none ∧ w = (sh, r, R, L, g)) (fun _ _ => False) := by
  have hG := hK.1
  refine AM.of (n := 0) (by decide +kernel) (Nat.le_of_ble_eq_true rfl) ?_
  show AW G mX11_lay d (fun v w => v = none ∧ w = (sh, r, R, L, g)) (fun _ _ => False) 0 [some (.ref 101), some (.int x1)] [] (sh, I, R, L, g) 0 0
  unfold b_X11_lay at h
  refine AW.aload_n dX11_lay_0 rfl ?_
  refine AW.getI (fX11_207 hG).r rfl (hm.1 0 _ rfl) dX11_lay_1 ?_
  refine AW.if_eq 8 dX11_lay_4 (by decide) (fun hc4 => ?_) (fun hc4 => ?_)
  · replace h := g_pos hc4 h
    refine AW.aload_n dX11_lay_8 rfl ?_
    refine AW.getR (c' := 115) (fX11_70 hG).r rfl (hm.1 0 _ rfl) (hm.2 (0, 14, 14) (by decide)) dX11_lay_9 ?_
    refine AW.sipush 600 dX11_lay_12 (by decide) ?_
    refine AW.aload_n dX11_lay_15 rfl ?_
    refine AW.getR (c' := 104) (fX11_38 hG).r rfl (hm.1 0 _ rfl) (hm.2 (0, 3, 3) (by decide)) dX11_lay_16 ?_
    refine AW.bipush 11 dX11_lay_19 (by decide) ?_
    refine AW.iald (hm.1 3 _ rfl) (by unfold vp_in; decide) dX11_lay_21 ?_
    show AW G _ d _ _ 22 [some (.ref 101), some (.int x1)] [.int (I 104 11), .int 600, .ref 115] (sh, I, R, L, g) 0 0
    refine AW.iadd dX11_lay_22 ?_
    refine AW.iload_n dX11_lay_23 rfl ?_
    obtain ⟨hb, h⟩ := g_ifE h
    refine AW.iast (hm.1 14 _ rfl) (g_in_iff.mp hb) dX11_lay_24 ?_
    obtain ⟨I1, eI1, h⟩ := g_letE h
    refine AW.namIE eI1 ?_
    refine AW.aload_n dX11_lay_25 rfl ?_
    refine AW.getR (c' := 104) (fX11_38 hG).r rfl (hm.1 0 _ rfl) (hm.2 (0, 3, 3) (by decide)) dX11_lay_26 ?_
    refine AW.bipush 11 dX11_lay_29 (by decide) ?_
    refine AW.dup2 dX11_lay_31 rfl rfl ?_
    refine AW.iald (hm.1 3 _ rfl) (by unfold vp_in; decide) dX11_lay_32 ?_
    show AW G _ d _ _ 33 [some (.ref 101), some (.int x1)] [.int (I1 104 11), .int 11, .ref 104] (sh, I1, R, L, g) 0 0
    refine AW.iconst 1 dX11_lay_33 (by decide) ?_
    refine AW.iadd dX11_lay_34 ?_
    refine AW.iast (hm.1 3 _ rfl) (by unfold vp_in; decide) dX11_lay_35 ?_
    show AW G _ d _ _ 36 [some (.ref 101), some (.int x1)] [] (sh, am_up I1 104 11 ((I1 104 11) + 1), R, L, g) 0 0
    obtain ⟨I2, eI2, h⟩ := g_letE h
    refine AW.namIE eI2 ?_
    exact AW.vret dX11_lay_36 rfl (by decide) (by decide) (by cases h; exact ⟨rfl, rfl⟩)
  · replace h := g_neg hc4 h
    exact AW.vret dX11_lay_7 rfl (by decide) (by decide) (by cases h; exact ⟨rfl, rfl⟩)
theorem dX11_readPart_0 : decode cX11_readPart 0 = .ok (.aload_n 0, 1) := by decide +kernel
theorem dX11_readPart_1 : decode cX11_readPart 1 = .ok (.getfield 207, 3) := by decide +kernel
theorem dX11_readPart_4 : decode cX11_readPart 4 = .ok (.ifCond .eq 4, 3) := by decide +kernel
theorem dX11_readPart_7 : decode cX11_readPart 7 = .ok (.return_, 1) := by decide +kernel
theorem dX11_readPart_8 : decode cX11_readPart 8 = .ok (.aload_n 0, 1) := by decide +kernel
theorem dX11_readPart_9 : decode cX11_readPart 9 = .ok (.getfield 181, 3) := by decide +kernel
theorem dX11_readPart_12 : decode cX11_readPart 12 = .ok (.iconst 2, 1) := by decide +kernel
theorem dX11_readPart_13 : decode cX11_readPart 13 = .ok (.if_icmp .ne 16, 3) := by decide +kernel
theorem dX11_readPart_16 : decode cX11_readPart 16 = .ok (.aload_n 0, 1) := by decide +kernel
theorem dX11_readPart_17 : decode cX11_readPart 17 = .ok (.aload_n 0, 1) := by decide +kernel
theorem dX11_readPart_18 : decode cX11_readPart 18 = .ok (.iconst 0, 1) := by decide +kernel
theorem dX11_readPart_19 : decode cX11_readPart 19 = .ok (.sipush 9999, 3) := by decide +kernel
theorem dX11_readPart_22 : decode cX11_readPart 22 = .ok (.invokevirtual 238, 3) := by decide +kernel
theorem dX11_readPart_25 : decode cX11_readPart 25 = .ok (.invokevirtual 241, 3) := by decide +kernel
theorem dX11_readPart_28 : decode cX11_readPart 28 = .ok (.return_, 1) := by decide +kernel
theorem dX11_readPart_29 : decode cX11_readPart 29 = .ok (.aload_n 0, 1) := by decide +kernel
theorem dX11_readPart_30 : decode cX11_readPart 30 = .ok (.getfield 181, 3) := by decide +kernel
theorem dX11_readPart_33 : decode cX11_readPart 33 = .ok (.iconst 1, 1) := by decide +kernel
theorem dX11_readPart_34 : decode cX11_readPart 34 = .ok (.if_icmp .ne 41, 3) := by decide +kernel
theorem dX11_readPart_37 : decode cX11_readPart 37 = .ok (.aload_n 0, 1) := by decide +kernel
theorem dX11_readPart_38 : decode cX11_readPart 38 = .ok (.aload_n 0, 1) := by decide +kernel
theorem dX11_readPart_39 : decode cX11_readPart 39 = .ok (.getfield 35, 3) := by decide +kernel
theorem dX11_readPart_42 : decode cX11_readPart 42 = .ok (.invokevirtual 244, 3) := by decide +kernel
theorem dX11_readPart_45 : decode cX11_readPart 45 = .ok (.istore_n 2, 1) := by decide +kernel
theorem dX11_readPart_46 : decode cX11_readPart 46 = .ok (.iload_n 2, 1) := by decide +kernel
theorem dX11_readPart_47 : decode cX11_readPart 47 = .ok (.iconst (-1), 1) := by decide +kernel
theorem dX11_readPart_48 : decode cX11_readPart 48 = .ok (.if_icmp .ne 8, 3) := by decide +kernel
theorem dX11_readPart_51 : decode cX11_readPart 51 = .ok (.aload_n 0, 1) := by decide +kernel
theorem dX11_readPart_52 : decode cX11_readPart 52 = .ok (.iconst 3, 1) := by decide +kernel
theorem dX11_readPart_53 : decode cX11_readPart 53 = .ok (.invokevirtual 228, 3) := by decide +kernel
theorem dX11_readPart_56 : decode cX11_readPart 56 = .ok (.aload_n 0, 1) := by decide +kernel
theorem dX11_readPart_57 : decode cX11_readPart 57 = .ok (.iconst (-1), 1) := by decide +kernel
theorem dX11_readPart_58 : decode cX11_readPart 58 = .ok (.iload_n 2, 1) := by decide +kernel
theorem dX11_readPart_59 : decode cX11_readPart 59 = .ok (.isub, 1) := by decide +kernel
theorem dX11_readPart_60 : decode cX11_readPart 60 = .ok (.invokevirtual 241, 3) := by decide +kernel
theorem dX11_readPart_63 : decode cX11_readPart 63 = .ok (.aload_n 0, 1) := by decide +kernel
theorem dX11_readPart_64 : decode cX11_readPart 64 = .ok (.getfield 207, 3) := by decide +kernel
theorem dX11_readPart_67 : decode cX11_readPart 67 = .ok (.ifCond .ne 7, 3) := by decide +kernel
theorem dX11_readPart_70 : decode cX11_readPart 70 = .ok (.aload_n 0, 1) := by decide +kernel
theorem dX11_readPart_71 : decode cX11_readPart 71 = .ok (.invokevirtual 232, 3) := by decide +kernel
theorem dX11_readPart_74 : decode cX11_readPart 74 = .ok (.return_, 1) := by decide +kernel
theorem dX11_readPart_75 : decode cX11_readPart 75 = .ok (.aload_n 0, 1) := by decide +kernel
theorem dX11_readPart_76 : decode cX11_readPart 76 = .ok (.bipush 40, 2) := by decide +kernel
theorem dX11_readPart_78 : decode cX11_readPart 78 = .ok (.invokevirtual 248, 3) := by decide +kernel
theorem dX11_readPart_81 : decode cX11_readPart 81 = .ok (.aload_n 0, 1) := by decide +kernel
theorem dX11_readPart_82 : decode cX11_readPart 82 = .ok (.iload_n 1, 1) := by decide +kernel
theorem dX11_readPart_83 : decode cX11_readPart 83 = .ok (.iconst 1, 1) := by decide +kernel
theorem dX11_readPart_84 : decode cX11_readPart 84 = .ok (.iadd, 1) := by decide +kernel
theorem dX11_readPart_85 : decode cX11_readPart 85 = .ok (.invokevirtual 251, 3) := by decide +kernel
theorem dX11_readPart_88 : decode cX11_readPart 88 = .ok (.aload_n 0, 1) := by decide +kernel
theorem dX11_readPart_89 : decode cX11_readPart 89 = .ok (.bipush 41, 2) := by decide +kernel
theorem dX11_readPart_91 : decode cX11_readPart 91 = .ok (.invokevirtual 248, 3) := by decide +kernel
theorem dX11_readPart_94 : decode cX11_readPart 94 = .ok (.return_, 1) := by decide +kernel
def b_X11_readPart (rec : g_I → Int32 → Option (g_I)) (I : g_I) (x1 : Int32) : Option (g_I) :=
  if (I 101 24) = 0 then if (I 101 20) = 2 then g_bind2 (b_X11_readNumber I 0 9999) fun a28 I29 => g_bind (b_X11_lay I29 a28) fun I32 => some I32 else if (I 101 20) = 1 then g_bind (b_X11_which I g_values) fun a10 => if a10 = (-1) then g_bind (b_X11_wrong I 3) fun I20 => g_bind (b_X11_lay I20 (((-1) : Int32) - a10)) fun I23 => if (I23 101 24) = 0 then g_bind (b_X11_stepOn I23) fun I26 => some I26 else some I23 else g_bind (b_X11_lay I (((-1) : Int32) - a10)) fun I14 => if (I14 101 24) = 0 then g_bind (b_X11_stepOn I14) fun I17 => some I17 else some I14 else g_bind (b_X11_mark I 40) fun I2 => g_bind (rec I2 (x1 + 1)) fun I5 => g_bind (b_X11_mark I5 41) fun I8 => some I8 else some I
set_option maxRecDepth 100000 in
set_option maxHeartbeats 4000000 in
theorem g_X11_readPart {G : am_G} (hK : k_OK G) {rec : g_I → Int32 → Option (g_I)} {dr : Nat} {d : Nat} (hd : dr + 6 ≤ d) {sh : List (Nat ⊕ (Nat × Nat))} {I : g_I} {R : Nat → Nat → Option Nat} {L : Nat → Nat → Int64} {g : Nat} (hm : k_Mod sh R) {x1 : Int32} (ih9 : ∀ {I : g_I} {x1 : Int32} {r : g_I}, rec I x1 = some r → AM G mX11_readExpression dr [.ref 101, .int x1] (sh, I, R, L, g) (fun v w => v = none ∧ w = (sh, r, R, L, g)) (fun _ _ => False)) {r : g_I} (h : b_X11_readPart rec I x1 = some r) : AM G mX11_readPart d [.ref 101, .int x1] (sh, I, R, L, g) (fun v w => v = none ∧ w = (sh, r, R, L, g)) (fun _ _ => False) := by
  have hG := hK.1
  refine AM.of (n := 1) (by decide +kernel) (Nat.le_of_ble_eq_true rfl) ?_
  show AW G mX11_readPart d (fun v w => v = none ∧ w = (sh, r, R, L, g)) (fun _ _ => False) 0 [some (.ref 101), some (.int x1), none] [] (sh, I, R, L, g) 0 0
  unfold b_X11_readPart at h
  refine AW.aload_n dX11_readPart_0 rfl ?_
  refine AW.getI (fX11_207 hG).r rfl (hm.1 0 _ rfl) dX11_readPart_1 ?_
  refine AW.if_eq 8 dX11_readPart_4 (by decide) (fun hc4 => ?_) (fun hc4 => ?_)
  · replace h := g_pos hc4 h
    refine AW.aload_n dX11_readPart_8 rfl ?_
    refine AW.getI (fX11_181 hG).r rfl (hm.1 0 _ rfl) dX11_readPart_9 ?_
    refine AW.iconst 2 dX11_readPart_12 (by decide) ?_
    refine AW.icmp_ne 29 dX11_readPart_13 (by decide) (fun hc13 => ?_) (fun hc13 => ?_)
    · replace h := g_neg hc13 h
      refine AW.aload_n dX11_readPart_29 rfl ?_
      refine AW.getI (fX11_181 hG).r rfl (hm.1 0 _ rfl) dX11_readPart_30 ?_
      refine AW.iconst 1 dX11_readPart_33 (by decide) ?_
      refine AW.icmp_ne 75 dX11_readPart_34 (by decide) (fun hc34 => ?_) (fun hc34 => ?_)
      · replace h := g_neg hc34 h
        refine AW.aload_n dX11_readPart_75 rfl ?_
        refine AW.bipush 40 dX11_readPart_76 (by decide) ?_
        obtain ⟨I2, hx3, h⟩ := g_bindE h
        refine AW.callV (b := 101) (As := [.int 40]) hG.2.2 (vX11_248 hG) (hm.1 0 _ rfl) (g_X11_mark hK (d := 2) (Nat.le_refl _) hm hx3) (by omega) dX11_readPart_78 rfl rfl (Nat.le_of_ble_eq_true rfl) (fun v w9 hq9 h09 => by obtain ⟨rfl, rfl⟩ := hq9; exact ⟨h09, rfl⟩) (by decide) (by decide) (fun _ _ hx => hx) (fun v9 w9 hq9 => ?_)
        obtain ⟨rfl, rfl⟩ := hq9
        show AW G _ d _ _ 81 [some (.ref 101), some (.int x1), none] [] (sh, I2, R, L, g) 0 0
        refine AW.aload_n dX11_readPart_81 rfl ?_
        refine AW.iload_n dX11_readPart_82 rfl ?_
        refine AW.iconst 1 dX11_readPart_83 (by decide) ?_
        refine AW.iadd dX11_readPart_84 ?_
        obtain ⟨I5, hx6, h⟩ := g_bindE h
        refine AW.callV (b := 101) (As := [.int (x1 + 1)]) hG.2.2 (vX11_251 hG) (hm.1 0 _ rfl) (ih9 hx6) (by omega) dX11_readPart_85 rfl rfl (Nat.le_of_ble_eq_true rfl) (fun v w9 hq9 h09 => by obtain ⟨rfl, rfl⟩ := hq9; exact ⟨h09, rfl⟩) (by decide) (by decide) (fun _ _ hx => hx) (fun v9 w9 hq9 => ?_)
        obtain ⟨rfl, rfl⟩ := hq9
        show AW G _ d _ _ 88 [some (.ref 101), some (.int x1), none] [] (sh, I5, R, L, g) 0 0
        refine AW.aload_n dX11_readPart_88 rfl ?_
        refine AW.bipush 41 dX11_readPart_89 (by decide) ?_
        obtain ⟨I8, hx9, h⟩ := g_bindE h
        refine AW.callV (b := 101) (As := [.int 41]) hG.2.2 (vX11_248 hG) (hm.1 0 _ rfl) (g_X11_mark hK (d := 2) (Nat.le_refl _) hm hx9) (by omega) dX11_readPart_91 rfl rfl (Nat.le_of_ble_eq_true rfl) (fun v w9 hq9 h09 => by obtain ⟨rfl, rfl⟩ := hq9; exact ⟨h09, rfl⟩) (by decide) (by decide) (fun _ _ hx => hx) (fun v9 w9 hq9 => ?_)
        obtain ⟨rfl, rfl⟩ := hq9
        show AW G _ d _ _ 94 [some (.ref 101), some (.int x1), none] [] (sh, I8, R, L, g) 0 0
        exact AW.vret dX11_readPart_94 rfl (by decide) (by decide) (by cases h; exact ⟨rfl, rfl⟩)
      · replace h := g_pos hc34 h
        refine AW.aload_n dX11_readPart_37 rfl ?_
        refine AW.aload_n dX11_readPart_38 rfl ?_
        refine AW.getR (c' := 103) (fX11_35 hG).r rfl (hm.1 0 _ rfl) (hm.2 (0, 1, 2) (by decide)) dX11_readPart_39 ?_
        obtain ⟨a10, hx12, h⟩ := g_bindE h
        refine AW.callV (b := 101) (As := [.ref 103]) hG.2.2 (vX11_244 hG) (hm.1 0 _ rfl) (g_X11_which hK (d := 5) (Nat.le_refl _) hm (hm.1 2 _ rfl) (by decide) (g_values_ok hK hm) hx12) (by omega) dX11_readPart_42 rfl rfl (Nat.le_of_ble_eq_true rfl) (fun v w9 hq9 h09 => by obtain ⟨rfl, rfl⟩ := hq9; exact ⟨h09, rfl⟩) (by decide) (by decide) (fun _ _ hx => hx) (fun v9 w9 hq9 => ?_)
        obtain ⟨rfl, rfl⟩ := hq9
        show AW G _ d _ _ 45 [some (.ref 101), some (.int x1), none] [.int a10] (sh, I, R, L, g) 0 0
        refine AW.is_n [some (.ref 101), some (.int x1), some (.int a10)] dX11_readPart_45 (by decide) rfl rfl ?_
        refine AW.iload_n dX11_readPart_46 rfl ?_
        refine AW.iconst (-1) dX11_readPart_47 (by decide) ?_
        refine AW.icmp_ne 56 dX11_readPart_48 (by decide) (fun hc48 => ?_) (fun hc48 => ?_)
        · replace h := g_neg hc48 h
          refine AW.aload_n dX11_readPart_56 rfl ?_
          refine AW.iconst (-1) dX11_readPart_57 (by decide) ?_
          refine AW.iload_n dX11_readPart_58 rfl ?_
          refine AW.isub dX11_readPart_59 ?_
          obtain ⟨I14, hx15, h⟩ := g_bindE h
          refine AW.callV (b := 101) (As := [.int (((-1) : Int32) - a10)]) hG.2.2 (vX11_241 hG) (hm.1 0 _ rfl) (g_X11_lay hK (d := 0) (Nat.le_refl _) hm hx15) (by omega) dX11_readPart_60 rfl rfl (Nat.le_of_ble_eq_true rfl) (fun v w9 hq9 h09 => by obtain ⟨rfl, rfl⟩ := hq9; exact ⟨h09, rfl⟩) (by decide) (by decide) (fun _ _ hx => hx) (fun v9 w9 hq9 => ?_)
          obtain ⟨rfl, rfl⟩ := hq9
          show AW G _ d _ _ 63 [some (.ref 101), some (.int x1), some (.int a10)] [] (sh, I14, R, L, g) 0 0
          refine AW.aload_n dX11_readPart_63 rfl ?_
          refine AW.getI (fX11_207 hG).r rfl (hm.1 0 _ rfl) dX11_readPart_64 ?_
          refine AW.if_ne 74 dX11_readPart_67 (by decide) (fun hc67 => ?_) (fun hc67 => ?_)
          · replace h := g_neg hc67 h
            exact AW.vret dX11_readPart_74 rfl (by decide) (by decide) (by cases h; exact ⟨rfl, rfl⟩)
          · replace h := g_pos hc67 h
            refine AW.aload_n dX11_readPart_70 rfl ?_
            obtain ⟨I17, hx18, h⟩ := g_bindE h
            refine AW.callV (b := 101) (As := []) hG.2.2 (vX11_232 hG) (hm.1 0 _ rfl) (g_X11_stepOn hK (d := 1) (Nat.le_refl _) hm hx18) (by omega) dX11_readPart_71 rfl rfl (Nat.le_of_ble_eq_true rfl) (fun v w9 hq9 h09 => by obtain ⟨rfl, rfl⟩ := hq9; exact ⟨h09, rfl⟩) (by decide) (by decide) (fun _ _ hx => hx) (fun v9 w9 hq9 => ?_)
            obtain ⟨rfl, rfl⟩ := hq9
            show AW G _ d _ _ 74 [some (.ref 101), some (.int x1), some (.int a10)] [] (sh, I17, R, L, g) 0 0
            exact AW.vret dX11_readPart_74 rfl (by decide) (by decide) (by cases h; exact ⟨rfl, rfl⟩)
        · replace h := g_pos hc48 h
          refine AW.aload_n dX11_readPart_51 rfl ?_
          refine AW.iconst 3 dX11_readPart_52 (by decide) ?_
          obtain ⟨I20, hx21, h⟩ := g_bindE h
          refine AW.callV (b := 101) (As := [.int 3]) hG.2.2 (vX11_228 hG) (hm.1 0 _ rfl) (g_X11_wrong hK (d := 0) (Nat.le_refl _) hm hx21) (by omega) dX11_readPart_53 rfl rfl (Nat.le_of_ble_eq_true rfl) (fun v w9 hq9 h09 => by obtain ⟨rfl, rfl⟩ := hq9; exact ⟨h09, rfl⟩) (by decide) (by decide) (fun _ _ hx => hx) (fun v9 w9 hq9 => ?_)
          obtain ⟨rfl, rfl⟩ := hq9
          show AW G _ d _ _ 56 [some (.ref 101), some (.int x1), some (.int a10)] [] (sh, I20, R, L, g) 0 0
          refine AW.aload_n dX11_readPart_56 rfl ?_
          refine AW.iconst (-1) dX11_readPart_57 (by decide) ?_
          refine AW.iload_n dX11_readPart_58 rfl ?_
          refine AW.isub dX11_readPart_59 ?_
          obtain ⟨I23, hx24, h⟩ := g_bindE h
          refine AW.callV (b := 101) (As := [.int (((-1) : Int32) - a10)]) hG.2.2 (vX11_241 hG) (hm.1 0 _ rfl) (g_X11_lay hK (d := 0) (Nat.le_refl _) hm hx24) (by omega) dX11_readPart_60 rfl rfl (Nat.le_of_ble_eq_true rfl) (fun v w9 hq9 h09 => by obtain ⟨rfl, rfl⟩ := hq9; exact ⟨h09, rfl⟩) (by decide) (by decide) (fun _ _ hx => hx) (fun v9 w9 hq9 => ?_)
          obtain ⟨rfl, rfl⟩ := hq9
          show AW G _ d _ _ 63 [some (.ref 101), some (.int x1), some (.int a10)] [] (sh, I23, R, L, g) 0 0
          refine AW.aload_n dX11_readPart_63 rfl ?_
          refine AW.getI (fX11_207 hG).r rfl (hm.1 0 _ rfl) dX11_readPart_64 ?_
          refine AW.if_ne 74 dX11_readPart_67 (by decide) (fun hc67 => ?_) (fun hc67 => ?_)
          · replace h := g_neg hc67 h
            exact AW.vret dX11_readPart_74 rfl (by decide) (by decide) (by cases h; exact ⟨rfl, rfl⟩)
          · replace h := g_pos hc67 h
            refine AW.aload_n dX11_readPart_70 rfl ?_
            obtain ⟨I26, hx27, h⟩ := g_bindE h
            refine AW.callV (b := 101) (As := []) hG.2.2 (vX11_232 hG) (hm.1 0 _ rfl) (g_X11_stepOn hK (d := 1) (Nat.le_refl _) hm hx27) (by omega) dX11_readPart_71 rfl rfl (Nat.le_of_ble_eq_true rfl) (fun v w9 hq9 h09 => by obtain ⟨rfl, rfl⟩ := hq9; exact ⟨h09, rfl⟩) (by decide) (by decide) (fun _ _ hx => hx) (fun v9 w9 hq9 => ?_)
            obtain ⟨rfl, rfl⟩ := hq9
            show AW G _ d _ _ 74 [some (.ref 101), some (.int x1), some (.int a10)] [] (sh, I26, R, L, g) 0 0
            exact AW.vret dX11_readPart_74 rfl (by decide) (by decide) (by cases h; exact ⟨rfl, rfl⟩)
    · replace h := g_pos hc13 h
      refine AW.aload_n dX11_readPart_16 rfl ?_
      refine AW.aload_n dX11_readPart_17 rfl ?_
      refine AW.iconst 0 dX11_readPart_18 (by decide) ?_
      refine AW.sipush 9999 dX11_readPart_19 (by decide) ?_
      obtain ⟨a28, I29, hx30, h⟩ := g_bind2E h
      refine AW.callV (b := 101) (As := [.int 0, .int 9999]) hG.2.2 (vX11_238 hG) (hm.1 0 _ rfl) (g_X11_readNumber hK (d := 2) (Nat.le_refl _) hm hx30) (by omega) dX11_readPart_22 rfl rfl (Nat.le_of_ble_eq_true rfl) (fun v w9 hq9 h09 => by obtain ⟨rfl, rfl⟩ := hq9; exact ⟨h09, rfl⟩) (by decide) (by decide) (fun _ _ hx => hx) (fun v9 w9 hq9 => ?_)
      obtain ⟨rfl, rfl⟩ := hq9
      show AW G _ d _ _ 25 [some (.ref 101), some (.int x1), none] [.int a28, .ref 101] (sh, I29, R, L, g) 0 0
      obtain ⟨I32, hx33, h⟩ := g_bindE h
      refine AW.callV (b := 101) (As := [.int a28]) hG.2.2 (vX11_241 hG) (hm.1 0 _ rfl) (g_X11_lay hK (d := 0) (Nat.le_refl _) hm hx33) (by omega) dX11_readPart_25 rfl rfl (Nat.le_of_ble_eq_true rfl) (fun v w9 hq9 h09 => by obtain ⟨rfl, rfl⟩ := hq9; exact ⟨h09, rfl⟩) (by decide) (by decide) (fun _ _ hx => hx) (fun v9 w9 hq9 => ?_)
      obtain ⟨rfl, rfl⟩ := hq9
      show AW G _ d _ _ 28 [some (.ref 101), some (.int x1), none] [] (sh, I32, R, L, g) 0 0
      exact AW.vret dX11_readPart_28 rfl (by decide) (by decide) (by cases h; exact ⟨rfl, rfl⟩)
  · replace h := g_neg hc4 h
    exact AW.vret dX11_readPart_7 rfl (by decide) (by decide) (by cases h; exact ⟨rfl, rfl⟩)
theorem dX11_readProduct_0 : decode cX11_readProduct 0 = .ok (.aload_n 0, 1) := by decide +kernel
theorem dX11_readProduct_1 : decode cX11_readProduct 1 = .ok (.iload_n 1, 1) := by decide +kernel
theorem dX11_readProduct_2 : decode cX11_readProduct 2 = .ok (.invokevirtual 254, 3) := by decide +kernel
theorem dX11_readProduct_5 : decode cX11_readProduct 5 = .ok (.aload_n 0, 1) := by decide +kernel
theorem dX11_readProduct_6 : decode cX11_readProduct 6 = .ok (.bipush 42, 2) := by decide +kernel
theorem dX11_readProduct_8 : decode cX11_readProduct 8 = .ok (.invokevirtual 225, 3) := by decide +kernel
theorem dX11_readProduct_11 : decode cX11_readProduct 11 = .ok (.ifCond .ne 12, 3) := by decide +kernel
theorem dX11_readProduct_14 : decode cX11_readProduct 14 = .ok (.aload_n 0, 1) := by decide +kernel
theorem dX11_readProduct_15 : decode cX11_readProduct 15 = .ok (.bipush 47, 2) := by decide +kernel
theorem dX11_readProduct_17 : decode cX11_readProduct 17 = .ok (.invokevirtual 225, 3) := by decide +kernel
theorem dX11_readProduct_20 : decode cX11_readProduct 20 = .ok (.ifCond .eq 37, 3) := by decide +kernel
theorem dX11_readProduct_23 : decode cX11_readProduct 23 = .ok (.aload_n 0, 1) := by decide +kernel
theorem dX11_readProduct_24 : decode cX11_readProduct 24 = .ok (.bipush 42, 2) := by decide +kernel
theorem dX11_readProduct_26 : decode cX11_readProduct 26 = .ok (.invokevirtual 225, 3) := by decide +kernel
theorem dX11_readProduct_29 : decode cX11_readProduct 29 = .ok (.ifCond .eq 8, 3) := by decide +kernel
theorem dX11_readProduct_32 : decode cX11_readProduct 32 = .ok (.bipush (-22), 2) := by decide +kernel
theorem dX11_readProduct_34 : decode cX11_readProduct 34 = .ok (.goto 5, 3) := by decide +kernel
theorem dX11_readProduct_37 : decode cX11_readProduct 37 = .ok (.bipush (-23), 2) := by decide +kernel
theorem dX11_readProduct_39 : decode cX11_readProduct 39 = .ok (.istore_n 2, 1) := by decide +kernel
theorem dX11_readProduct_40 : decode cX11_readProduct 40 = .ok (.aload_n 0, 1) := by decide +kernel
theorem dX11_readProduct_41 : decode cX11_readProduct 41 = .ok (.invokevirtual 232, 3) := by decide +kernel
theorem dX11_readProduct_44 : decode cX11_readProduct 44 = .ok (.aload_n 0, 1) := by decide +kernel
theorem dX11_readProduct_45 : decode cX11_readProduct 45 = .ok (.iload_n 1, 1) := by decide +kernel
theorem dX11_readProduct_46 : decode cX11_readProduct 46 = .ok (.invokevirtual 254, 3) := by decide +kernel
theorem dX11_readProduct_49 : decode cX11_readProduct 49 = .ok (.aload_n 0, 1) := by decide +kernel
theorem dX11_readProduct_50 : decode cX11_readProduct 50 = .ok (.iload_n 2, 1) := by decide +kernel
theorem dX11_readProduct_51 : decode cX11_readProduct 51 = .ok (.invokevirtual 241, 3) := by decide +kernel
theorem dX11_readProduct_54 : decode cX11_readProduct 54 = .ok (.goto (-49), 3) := by decide +kernel
theorem dX11_readProduct_57 : decode cX11_readProduct 57 = .ok (.return_, 1) := by decide +kernel
def b_X11_readProduct_L5 (rec : g_I → Int32 → Option (g_I)) (y1 : Int32) (K : g_I → Option (g_I)) : Nat → g_I → Option (g_I)
  | 0, _ => none
  | f + 1, I => g_let (fun (I23j : g_I) => g_bind (b_X11_isMarked I23j 42) fun t4 => if t4 = true then g_bind (b_X11_stepOn I23j) fun I17 => g_bind (b_X11_readPart rec I17 y1) fun I20 => g_bind (b_X11_lay I20 (-22)) fun I23 => b_X11_readProduct_L5 rec y1 K f I23 else g_bind (b_X11_stepOn I23j) fun I8 => g_bind (b_X11_readPart rec I8 y1) fun I11 => g_bind (b_X11_lay I11 (-23)) fun I14 => b_X11_readProduct_L5 rec y1 K f I14) fun J23 => g_bind (b_X11_isMarked I 42) fun t25 => if t25 = true then J23 I else g_bind (b_X11_isMarked I 47) fun t28 => if t28 = true then J23 I else K I
def b_X11_readProduct (rec : g_I → Int32 → Option (g_I)) (I : g_I) (x1 : Int32) : Option (g_I) :=
  g_bind (b_X11_readPart rec I x1) fun I2 => b_X11_readProduct_L5 rec x1 (fun (I31 : g_I) => some I31) fu I2
set_option maxRecDepth 100000 in
set_option maxHeartbeats 4000000 in
theorem gL_X11_readProduct_5 {G : am_G} (hK : k_OK G) {rec : g_I → Int32 → Option (g_I)} {dr : Nat} {d : Nat} (hd : dr + 7 ≤ d) {sh : List (Nat ⊕ (Nat × Nat))} {I : g_I} {R : Nat → Nat → Option Nat} {L : Nat → Nat → Int64} {g : Nat} (hm : k_Mod sh R) (ih9 : ∀ {I : g_I} {x1 : Int32} {r : g_I}, rec I x1 = some r → AM G mX11_readExpression dr [.ref 101, .int x1] (sh, I, R, L, g) (fun v w => v = none ∧ w = (sh, r, R, L, g)) (fun _ _ => False)) {y1 : Int32} {K : g_I → Option (g_I)} {f : Nat} {r : g_I} (h : b_X11_readProduct_L5 rec y1 K f I = some r) (hk : ∀ (J : g_I), K J = some r → AW G mX11_readProduct d (fun v w => v = none ∧ w = (sh, r, R, L, g)) (fun _ _ => False) 57 [none, none, none] [] (sh, J, R, L, g) 0 0) : AW G mX11_readProduct d (fun v w => v = none ∧ w = (sh, r, R, L, g)) (fun _ _ => False) 5 [some (.ref 101), some (.int y1), none] [] (sh, I, R, L, g) 0 0 := by
  have hG := hK.1
  induction f generalizing I with
  | zero => rw [b_X11_readProduct_L5] at h; cases h
  | succ f ih =>
    rw [b_X11_readProduct_L5] at h
    obtain ⟨J23, eJ23, h⟩ := g_letE h
    have H23 : ∀ (I23j : g_I), J23 I23j = some r → AW G mX11_readProduct d (fun v w => v = none ∧ w = (sh, r, R, L, g)) (fun _ _ => False) 23 [some (.ref 101), some (.int y1), none] [] (sh, I23j, R, L, g) 0 0 := by
      intro I23j h
      rw [eJ23] at h
      refine AW.aload_n dX11_readProduct_23 rfl ?_
      refine AW.bipush 42 dX11_readProduct_24 (by decide) ?_
      obtain ⟨t4, hx6, h⟩ := g_bindE h
      refine AW.callV (b := 101) (As := [.int 42]) hG.2.2 (vX11_225 hG) (hm.1 0 _ rfl) (g_X11_isMarked hK (d := 0) (Nat.le_refl _) hm hx6) (by omega) dX11_readProduct_26 rfl rfl (Nat.le_of_ble_eq_true rfl) (fun v w9 hq9 h09 => by obtain ⟨rfl, rfl⟩ := hq9; exact ⟨h09, rfl⟩) (by decide) (by decide) (fun _ _ hx => hx) (fun v9 w9 hq9 => ?_)
      obtain ⟨rfl, rfl⟩ := hq9
      show AW G _ d _ _ 29 [some (.ref 101), some (.int y1), none] [.int (kb t4)] (sh, I23j, R, L, g) 0 0
      refine AW.if_eq 37 dX11_readProduct_29 (by decide) (fun hc29 => ?_) (fun hc29 => ?_)
      · replace h := g_neg (g_kb0 hc29) h
        refine AW.bipush (-23) dX11_readProduct_37 (by decide) ?_
        refine AW.is_n [some (.ref 101), some (.int y1), some (.int (-23))] dX11_readProduct_39 (by decide) rfl rfl ?_
        refine AW.aload_n dX11_readProduct_40 rfl ?_
        obtain ⟨I8, hx9, h⟩ := g_bindE h
        refine AW.callV (b := 101) (As := []) hG.2.2 (vX11_232 hG) (hm.1 0 _ rfl) (g_X11_stepOn hK (d := 1) (Nat.le_refl _) hm hx9) (by omega) dX11_readProduct_41 rfl rfl (Nat.le_of_ble_eq_true rfl) (fun v w9 hq9 h09 => by obtain ⟨rfl, rfl⟩ := hq9; exact ⟨h09, rfl⟩) (by decide) (by decide) (fun _ _ hx => hx) (fun v9 w9 hq9 => ?_)
        obtain ⟨rfl, rfl⟩ := hq9
        show AW G _ d _ _ 44 [some (.ref 101), some (.int y1), some (.int (-23))] [] (sh, I8, R, L, g) 0 0
        refine AW.aload_n dX11_readProduct_44 rfl ?_
        refine AW.iload_n dX11_readProduct_45 rfl ?_
        obtain ⟨I11, hx12, h⟩ := g_bindE h
        refine AW.callV (b := 101) (As := [.int y1]) hG.2.2 (vX11_254 hG) (hm.1 0 _ rfl) (g_X11_readPart hK (d := dr + 6) (Nat.le_refl _) hm ih9 hx12) (by omega) dX11_readProduct_46 rfl rfl (Nat.le_of_ble_eq_true rfl) (fun v w9 hq9 h09 => by obtain ⟨rfl, rfl⟩ := hq9; exact ⟨h09, rfl⟩) (by decide) (by decide) (fun _ _ hx => hx) (fun v9 w9 hq9 => ?_)
        obtain ⟨rfl, rfl⟩ := hq9
        show AW G _ d _ _ 49 [some (.ref 101), some (.int y1), some (.int (-23))] [] (sh, I11, R, L, g) 0 0
        refine AW.aload_n dX11_readProduct_49 rfl ?_
        refine AW.iload_n dX11_readProduct_50 rfl ?_
        obtain ⟨I14, hx15, h⟩ := g_bindE h
        refine AW.callV (b := 101) (As := [.int (-23)]) hG.2.2 (vX11_241 hG) (hm.1 0 _ rfl) (g_X11_lay hK (d := 0) (Nat.le_refl _) hm hx15) (by omega) dX11_readProduct_51 rfl rfl (Nat.le_of_ble_eq_true rfl) (fun v w9 hq9 h09 => by obtain ⟨rfl, rfl⟩ := hq9; exact ⟨h09, rfl⟩) (by decide) (by decide) (fun _ _ hx => hx) (fun v9 w9 hq9 => ?_)
        obtain ⟨rfl, rfl⟩ := hq9
        show AW G _ d _ _ 54 [some (.ref 101), some (.int y1), some (.int (-23))] [] (sh, I14, R, L, g) 0 0
        refine AW.goto 5 dX11_readProduct_54 (by decide) ?_
        refine AW.mask [2] [some (.ref 101), some (.int y1), none] rfl ?_
        exact ih h
      · replace h := g_pos (kb_1.mp hc29) h
        refine AW.bipush (-22) dX11_readProduct_32 (by decide) ?_
        refine AW.goto 39 dX11_readProduct_34 (by decide) ?_
        refine AW.is_n [some (.ref 101), some (.int y1), some (.int (-22))] dX11_readProduct_39 (by decide) rfl rfl ?_
        refine AW.aload_n dX11_readProduct_40 rfl ?_
        obtain ⟨I17, hx18, h⟩ := g_bindE h
        refine AW.callV (b := 101) (As := []) hG.2.2 (vX11_232 hG) (hm.1 0 _ rfl) (g_X11_stepOn hK (d := 1) (Nat.le_refl _) hm hx18) (by omega) dX11_readProduct_41 rfl rfl (Nat.le_of_ble_eq_true rfl) (fun v w9 hq9 h09 => by obtain ⟨rfl, rfl⟩ := hq9; exact ⟨h09, rfl⟩) (by decide) (by decide) (fun _ _ hx => hx) (fun v9 w9 hq9 => ?_)
        obtain ⟨rfl, rfl⟩ := hq9
        show AW G _ d _ _ 44 [some (.ref 101), some (.int y1), some (.int (-22))] [] (sh, I17, R, L, g) 0 0
        refine AW.aload_n dX11_readProduct_44 rfl ?_
        refine AW.iload_n dX11_readProduct_45 rfl ?_
        obtain ⟨I20, hx21, h⟩ := g_bindE h
        refine AW.callV (b := 101) (As := [.int y1]) hG.2.2 (vX11_254 hG) (hm.1 0 _ rfl) (g_X11_readPart hK (d := dr + 6) (Nat.le_refl _) hm ih9 hx21) (by omega) dX11_readProduct_46 rfl rfl (Nat.le_of_ble_eq_true rfl) (fun v w9 hq9 h09 => by obtain ⟨rfl, rfl⟩ := hq9; exact ⟨h09, rfl⟩) (by decide) (by decide) (fun _ _ hx => hx) (fun v9 w9 hq9 => ?_)
        obtain ⟨rfl, rfl⟩ := hq9
        show AW G _ d _ _ 49 [some (.ref 101), some (.int y1), some (.int (-22))] [] (sh, I20, R, L, g) 0 0
        refine AW.aload_n dX11_readProduct_49 rfl ?_
        refine AW.iload_n dX11_readProduct_50 rfl ?_
        obtain ⟨I23, hx24, h⟩ := g_bindE h
        refine AW.callV (b := 101) (As := [.int (-22)]) hG.2.2 (vX11_241 hG) (hm.1 0 _ rfl) (g_X11_lay hK (d := 0) (Nat.le_refl _) hm hx24) (by omega) dX11_readProduct_51 rfl rfl (Nat.le_of_ble_eq_true rfl) (fun v w9 hq9 h09 => by obtain ⟨rfl, rfl⟩ := hq9; exact ⟨h09, rfl⟩) (by decide) (by decide) (fun _ _ hx => hx) (fun v9 w9 hq9 => ?_)
        obtain ⟨rfl, rfl⟩ := hq9
        show AW G _ d _ _ 54 [some (.ref 101), some (.int y1), some (.int (-22))] [] (sh, I23, R, L, g) 0 0
        refine AW.goto 5 dX11_readProduct_54 (by decide) ?_
        refine AW.mask [2] [some (.ref 101), some (.int y1), none] rfl ?_
        exact ih h
    refine AW.aload_n dX11_readProduct_5 rfl ?_
    refine AW.bipush 42 dX11_readProduct_6 (by decide) ?_
    obtain ⟨t25, hx27, h⟩ := g_bindE h
    refine AW.callV (b := 101) (As := [.int 42]) hG.2.2 (vX11_225 hG) (hm.1 0 _ rfl) (g_X11_isMarked hK (d := 0) (Nat.le_refl _) hm hx27) (by omega) dX11_readProduct_8 rfl rfl (Nat.le_of_ble_eq_true rfl) (fun v w9 hq9 h09 => by obtain ⟨rfl, rfl⟩ := hq9; exact ⟨h09, rfl⟩) (by decide) (by decide) (fun _ _ hx => hx) (fun v9 w9 hq9 => ?_)
    obtain ⟨rfl, rfl⟩ := hq9
    show AW G _ d _ _ 11 [some (.ref 101), some (.int y1), none] [.int (kb t25)] (sh, I, R, L, g) 0 0
    refine AW.if_ne 23 dX11_readProduct_11 (by decide) (fun hc11 => ?_) (fun hc11 => ?_)
    · replace h := g_pos (kb_1.mp hc11) h
      exact H23 _ h
    · replace h := g_neg (g_kb0 hc11) h
      refine AW.aload_n dX11_readProduct_14 rfl ?_
      refine AW.bipush 47 dX11_readProduct_15 (by decide) ?_
      obtain ⟨t28, hx30, h⟩ := g_bindE h
      refine AW.callV (b := 101) (As := [.int 47]) hG.2.2 (vX11_225 hG) (hm.1 0 _ rfl) (g_X11_isMarked hK (d := 0) (Nat.le_refl _) hm hx30) (by omega) dX11_readProduct_17 rfl rfl (Nat.le_of_ble_eq_true rfl) (fun v w9 hq9 h09 => by obtain ⟨rfl, rfl⟩ := hq9; exact ⟨h09, rfl⟩) (by decide) (by decide) (fun _ _ hx => hx) (fun v9 w9 hq9 => ?_)
      obtain ⟨rfl, rfl⟩ := hq9
      show AW G _ d _ _ 20 [some (.ref 101), some (.int y1), none] [.int (kb t28)] (sh, I, R, L, g) 0 0
      refine AW.if_eq 57 dX11_readProduct_20 (by decide) (fun hc20 => ?_) (fun hc20 => ?_)
      · replace h := g_neg (g_kb0 hc20) h
        refine AW.mask [0, 1] [none, none, none] rfl ?_
        exact hk _ h
      · replace h := g_pos (kb_1.mp hc20) h
        exact H23 _ h
set_option maxRecDepth 100000 in
set_option maxHeartbeats 4000000 in
theorem g_X11_readProduct {G : am_G} (hK : k_OK G) {rec : g_I → Int32 → Option (g_I)} {dr : Nat} {d : Nat} (hd : dr + 7 ≤ d) {sh : List (Nat ⊕ (Nat × Nat))} {I : g_I} {R : Nat → Nat → Option Nat} {L : Nat → Nat → Int64} {g : Nat} (hm : k_Mod sh R) {x1 : Int32} (ih9 : ∀ {I : g_I} {x1 : Int32} {r : g_I}, rec I x1 = some r → AM G mX11_readExpression dr [.ref 101, .int x1] (sh, I, R, L, g) (fun v w => v = none ∧ w = (sh, r, R, L, g)) (fun _ _ => False)) {r : g_I} (h : b_X11_readProduct rec I x1 = some r) : AM G mX11_readProduct d [.ref 101, .int x1] (sh, I, R, L, g) (fun v w => v = none ∧ w = (sh, r, R, L, g)) (fun _ _ => False) := by
  have hG := hK.1
  refine AM.of (n := 1) (by decide +kernel) (Nat.le_of_ble_eq_true rfl) ?_
  show AW G mX11_readProduct d (fun v w => v = none ∧ w = (sh, r, R, L, g)) (fun _ _ => False) 0 [some (.ref 101), some (.int x1), none] [] (sh, I, R, L, g) 0 0
  unfold b_X11_readProduct at h
  refine AW.aload_n dX11_readProduct_0 rfl ?_
  refine AW.iload_n dX11_readProduct_1 rfl ?_
  obtain ⟨I2, hx3, h⟩ := g_bindE h
  refine AW.callV (b := 101) (As := [.int x1]) hG.2.2 (vX11_254 hG) (hm.1 0 _ rfl) (g_X11_readPart hK (d := dr + 6) (Nat.le_refl _) hm ih9 hx3) (by omega) dX11_readProduct_2 rfl rfl (Nat.le_of_ble_eq_true rfl) (fun v w9 hq9 h09 => by obtain ⟨rfl, rfl⟩ := hq9; exact ⟨h09, rfl⟩) (by decide) (by decide) (fun _ _ hx => hx) (fun v9 w9 hq9 => ?_)
  obtain ⟨rfl, rfl⟩ := hq9
  show AW G _ d _ _ 5 [some (.ref 101), some (.int x1), none] [] (sh, I2, R, L, g) 0 0
  refine gL_X11_readProduct_5 hK hd hm ih9 h (fun I31 h => ?_)
  exact AW.vret dX11_readProduct_57 rfl (by decide) (by decide) (by cases h; exact ⟨rfl, rfl⟩)
theorem dX11_readSum_0 : decode cX11_readSum 0 = .ok (.aload_n 0, 1) := by decide +kernel
theorem dX11_readSum_1 : decode cX11_readSum 1 = .ok (.iload_n 1, 1) := by decide +kernel
theorem dX11_readSum_2 : decode cX11_readSum 2 = .ok (.invokevirtual 257, 3) := by decide +kernel
theorem dX11_readSum_5 : decode cX11_readSum 5 = .ok (.aload_n 0, 1) := by decide +kernel
theorem dX11_readSum_6 : decode cX11_readSum 6 = .ok (.bipush 43, 2) := by decide +kernel
theorem dX11_readSum_8 : decode cX11_readSum 8 = .ok (.invokevirtual 225, 3) := by decide +kernel
theorem dX11_readSum_11 : decode cX11_readSum 11 = .ok (.ifCond .ne 12, 3) := by decide +kernel
theorem dX11_readSum_14 : decode cX11_readSum 14 = .ok (.aload_n 0, 1) := by decide +kernel
theorem dX11_readSum_15 : decode cX11_readSum 15 = .ok (.bipush 45, 2) := by decide +kernel
theorem dX11_readSum_17 : decode cX11_readSum 17 = .ok (.invokevirtual 225, 3) := by decide +kernel
theorem dX11_readSum_20 : decode cX11_readSum 20 = .ok (.ifCond .eq 37, 3) := by decide +kernel
theorem dX11_readSum_23 : decode cX11_readSum 23 = .ok (.aload_n 0, 1) := by decide +kernel
theorem dX11_readSum_24 : decode cX11_readSum 24 = .ok (.bipush 43, 2) := by decide +kernel
theorem dX11_readSum_26 : decode cX11_readSum 26 = .ok (.invokevirtual 225, 3) := by decide +kernel
theorem dX11_readSum_29 : decode cX11_readSum 29 = .ok (.ifCond .eq 8, 3) := by decide +kernel
theorem dX11_readSum_32 : decode cX11_readSum 32 = .ok (.bipush (-20), 2) := by decide +kernel
theorem dX11_readSum_34 : decode cX11_readSum 34 = .ok (.goto 5, 3) := by decide +kernel
theorem dX11_readSum_37 : decode cX11_readSum 37 = .ok (.bipush (-21), 2) := by decide +kernel
theorem dX11_readSum_39 : decode cX11_readSum 39 = .ok (.istore_n 2, 1) := by decide +kernel
theorem dX11_readSum_40 : decode cX11_readSum 40 = .ok (.aload_n 0, 1) := by decide +kernel
theorem dX11_readSum_41 : decode cX11_readSum 41 = .ok (.invokevirtual 232, 3) := by decide +kernel
theorem dX11_readSum_44 : decode cX11_readSum 44 = .ok (.aload_n 0, 1) := by decide +kernel
theorem dX11_readSum_45 : decode cX11_readSum 45 = .ok (.iload_n 1, 1) := by decide +kernel
theorem dX11_readSum_46 : decode cX11_readSum 46 = .ok (.invokevirtual 257, 3) := by decide +kernel
theorem dX11_readSum_49 : decode cX11_readSum 49 = .ok (.aload_n 0, 1) := by decide +kernel
theorem dX11_readSum_50 : decode cX11_readSum 50 = .ok (.iload_n 2, 1) := by decide +kernel
theorem dX11_readSum_51 : decode cX11_readSum 51 = .ok (.invokevirtual 241, 3) := by decide +kernel
theorem dX11_readSum_54 : decode cX11_readSum 54 = .ok (.goto (-49), 3) := by decide +kernel
theorem dX11_readSum_57 : decode cX11_readSum 57 = .ok (.return_, 1) := by decide +kernel
def b_X11_readSum_L5 (rec : g_I → Int32 → Option (g_I)) (y1 : Int32) (K : g_I → Option (g_I)) : Nat → g_I → Option (g_I)
  | 0, _ => none
  | f + 1, I => g_let (fun (I23j : g_I) => g_bind (b_X11_isMarked I23j 43) fun t4 => if t4 = true then g_bind (b_X11_stepOn I23j) fun I17 => g_bind (b_X11_readProduct rec I17 y1) fun I20 => g_bind (b_X11_lay I20 (-20)) fun I23 => b_X11_readSum_L5 rec y1 K f I23 else g_bind (b_X11_stepOn I23j) fun I8 => g_bind (b_X11_readProduct rec I8 y1) fun I11 => g_bind (b_X11_lay I11 (-21)) fun I14 => b_X11_readSum_L5 rec y1 K f I14) fun J23 => g_bind (b_X11_isMarked I 43) fun t25 => if t25 = true then J23 I else g_bind (b_X11_isMarked I 45) fun t28 => if t28 = true then J23 I else K I
def b_X11_readSum (rec : g_I → Int32 → Option (g_I)) (I : g_I) (x1 : Int32) : Option (g_I) :=
  g_bind (b_X11_readProduct rec I x1) fun I2 => b_X11_readSum_L5 rec x1 (fun (I31 : g_I) => some I31) fu I2
set_option maxRecDepth 100000 in
set_option maxHeartbeats 4000000 in
theorem gL_X11_readSum_5 {G : am_G} (hK : k_OK G) {rec : g_I → Int32 → Option (g_I)} {dr : Nat} {d : Nat} (hd : dr + 8 ≤ d) {sh : List (Nat ⊕ (Nat × Nat))} {I : g_I} {R : Nat → Nat → Option Nat} {L : Nat → Nat → Int64} {g : Nat} (hm : k_Mod sh R) (ih9 : ∀ {I : g_I} {x1 : Int32} {r : g_I}, rec I x1 = some r → AM G mX11_readExpression dr [.ref 101, .int x1] (sh, I, R, L, g) (fun v w => v = none ∧ w = (sh, r, R, L, g)) (fun _ _ => False)) {y1 : Int32} {K : g_I → Option (g_I)} {f : Nat} {r : g_I} (h : b_X11_readSum_L5 rec y1 K f I = some r) (hk : ∀ (J : g_I), K J = some r → AW G mX11_readSum d (fun v w => v = none ∧ w = (sh, r, R, L, g)) (fun _ _ => False) 57 [none, none, none] [] (sh, J, R, L, g) 0 0) : AW G mX11_readSum d (fun v w => v = none ∧ w = (sh, r, R, L, g)) (fun _ _ => False) 5 [some (.ref 101), some (.int y1), none] [] (sh, I, R, L, g) 0 0 := by
  have hG := hK.1
  induction f generalizing I with
  | zero => rw [b_X11_readSum_L5] at h; cases h
  | succ f ih =>
    rw [b_X11_readSum_L5] at h
    obtain ⟨J23, eJ23, h⟩ := g_letE h
    have H23 : ∀ (I23j : g_I), J23 I23j = some r → AW G mX11_readSum d (fun v w => v = none ∧ w = (sh, r, R, L, g)) (fun _ _ => False) 23 [some (.ref 101), some (.int y1), none] [] (sh, I23j, R, L, g) 0 0 := by
      intro I23j h
      rw [eJ23] at h
      refine AW.aload_n dX11_readSum_23 rfl ?_
      refine AW.bipush 43 dX11_readSum_24 (by decide) ?_
      obtain ⟨t4, hx6, h⟩ := g_bindE h
      refine AW.callV (b := 101) (As := [.int 43]) hG.2.2 (vX11_225 hG) (hm.1 0 _ rfl) (g_X11_isMarked hK (d := 0) (Nat.le_refl _) hm hx6) (by omega) dX11_readSum_26 rfl rfl (Nat.le_of_ble_eq_true rfl) (fun v w9 hq9 h09 => by obtain ⟨rfl, rfl⟩ := hq9; exact ⟨h09, rfl⟩) (by decide) (by decide) (fun _ _ hx => hx) (fun v9 w9 hq9 => ?_)
      obtain ⟨rfl, rfl⟩ := hq9
      show AW G _ d _ _ 29 [some (.ref 101), some (.int y1), none] [.int (kb t4)] (sh, I23j, R, L, g) 0 0
      refine AW.if_eq 37 dX11_readSum_29 (by decide) (fun hc29 => ?_) (fun hc29 => ?_)
      · replace h := g_neg (g_kb0 hc29) h
        refine AW.bipush (-21) dX11_readSum_37 (by decide) ?_
        refine AW.is_n [some (.ref 101), some (.int y1), some (.int (-21))] dX11_readSum_39 (by decide) rfl rfl ?_
        refine AW.aload_n dX11_readSum_40 rfl ?_
        obtain ⟨I8, hx9, h⟩ := g_bindE h
        refine AW.callV (b := 101) (As := []) hG.2.2 (vX11_232 hG) (hm.1 0 _ rfl) (g_X11_stepOn hK (d := 1) (Nat.le_refl _) hm hx9) (by omega) dX11_readSum_41 rfl rfl (Nat.le_of_ble_eq_true rfl) (fun v w9 hq9 h09 => by obtain ⟨rfl, rfl⟩ := hq9; exact ⟨h09, rfl⟩) (by decide) (by decide) (fun _ _ hx => hx) (fun v9 w9 hq9 => ?_)
        obtain ⟨rfl, rfl⟩ := hq9
        show AW G _ d _ _ 44 [some (.ref 101), some (.int y1), some (.int (-21))] [] (sh, I8, R, L, g) 0 0
        refine AW.aload_n dX11_readSum_44 rfl ?_
        refine AW.iload_n dX11_readSum_45 rfl ?_
        obtain ⟨I11, hx12, h⟩ := g_bindE h
        refine AW.callV (b := 101) (As := [.int y1]) hG.2.2 (vX11_257 hG) (hm.1 0 _ rfl) (g_X11_readProduct hK (d := dr + 7) (Nat.le_refl _) hm ih9 hx12) (by omega) dX11_readSum_46 rfl rfl (Nat.le_of_ble_eq_true rfl) (fun v w9 hq9 h09 => by obtain ⟨rfl, rfl⟩ := hq9; exact ⟨h09, rfl⟩) (by decide) (by decide) (fun _ _ hx => hx) (fun v9 w9 hq9 => ?_)
        obtain ⟨rfl, rfl⟩ := hq9
        show AW G _ d _ _ 49 [some (.ref 101), some (.int y1), some (.int (-21))] [] (sh, I11, R, L, g) 0 0
        refine AW.aload_n dX11_readSum_49 rfl ?_
        refine AW.iload_n dX11_readSum_50 rfl ?_
        obtain ⟨I14, hx15, h⟩ := g_bindE h
        refine AW.callV (b := 101) (As := [.int (-21)]) hG.2.2 (vX11_241 hG) (hm.1 0 _ rfl) (g_X11_lay hK (d := 0) (Nat.le_refl _) hm hx15) (by omega) dX11_readSum_51 rfl rfl (Nat.le_of_ble_eq_true rfl) (fun v w9 hq9 h09 => by obtain ⟨rfl, rfl⟩ := hq9; exact ⟨h09, rfl⟩) (by decide) (by decide) (fun _ _ hx => hx) (fun v9 w9 hq9 => ?_)
        obtain ⟨rfl, rfl⟩ := hq9
        show AW G _ d _ _ 54 [some (.ref 101), some (.int y1), some (.int (-21))] [] (sh, I14, R, L, g) 0 0
        refine AW.goto 5 dX11_readSum_54 (by decide) ?_
        refine AW.mask [2] [some (.ref 101), some (.int y1), none] rfl ?_
        exact ih h
      · replace h := g_pos (kb_1.mp hc29) h
        refine AW.bipush (-20) dX11_readSum_32 (by decide) ?_
        refine AW.goto 39 dX11_readSum_34 (by decide) ?_
        refine AW.is_n [some (.ref 101), some (.int y1), some (.int (-20))] dX11_readSum_39 (by decide) rfl rfl ?_
        refine AW.aload_n dX11_readSum_40 rfl ?_
        obtain ⟨I17, hx18, h⟩ := g_bindE h
        refine AW.callV (b := 101) (As := []) hG.2.2 (vX11_232 hG) (hm.1 0 _ rfl) (g_X11_stepOn hK (d := 1) (Nat.le_refl _) hm hx18) (by omega) dX11_readSum_41 rfl rfl (Nat.le_of_ble_eq_true rfl) (fun v w9 hq9 h09 => by obtain ⟨rfl, rfl⟩ := hq9; exact ⟨h09, rfl⟩) (by decide) (by decide) (fun _ _ hx => hx) (fun v9 w9 hq9 => ?_)
        obtain ⟨rfl, rfl⟩ := hq9
        show AW G _ d _ _ 44 [some (.ref 101), some (.int y1), some (.int (-20))] [] (sh, I17, R, L, g) 0 0
        refine AW.aload_n dX11_readSum_44 rfl ?_
        refine AW.iload_n dX11_readSum_45 rfl ?_
        obtain ⟨I20, hx21, h⟩ := g_bindE h
        refine AW.callV (b := 101) (As := [.int y1]) hG.2.2 (vX11_257 hG) (hm.1 0 _ rfl) (g_X11_readProduct hK (d := dr + 7) (Nat.le_refl _) hm ih9 hx21) (by omega) dX11_readSum_46 rfl rfl (Nat.le_of_ble_eq_true rfl) (fun v w9 hq9 h09 => by obtain ⟨rfl, rfl⟩ := hq9; exact ⟨h09, rfl⟩) (by decide) (by decide) (fun _ _ hx => hx) (fun v9 w9 hq9 => ?_)
        obtain ⟨rfl, rfl⟩ := hq9
        show AW G _ d _ _ 49 [some (.ref 101), some (.int y1), some (.int (-20))] [] (sh, I20, R, L, g) 0 0
        refine AW.aload_n dX11_readSum_49 rfl ?_
        refine AW.iload_n dX11_readSum_50 rfl ?_
        obtain ⟨I23, hx24, h⟩ := g_bindE h
        refine AW.callV (b := 101) (As := [.int (-20)]) hG.2.2 (vX11_241 hG) (hm.1 0 _ rfl) (g_X11_lay hK (d := 0) (Nat.le_refl _) hm hx24) (by omega) dX11_readSum_51 rfl rfl (Nat.le_of_ble_eq_true rfl) (fun v w9 hq9 h09 => by obtain ⟨rfl, rfl⟩ := hq9; exact ⟨h09, rfl⟩) (by decide) (by decide) (fun _ _ hx => hx) (fun v9 w9 hq9 => ?_)
        obtain ⟨rfl, rfl⟩ := hq9
        show AW G _ d _ _ 54 [some (.ref 101), some (.int y1), some (.int (-20))] [] (sh, I23, R, L, g) 0 0
        refine AW.goto 5 dX11_readSum_54 (by decide) ?_
        refine AW.mask [2] [some (.ref 101), some (.int y1), none] rfl ?_
        exact ih h
    refine AW.aload_n dX11_readSum_5 rfl ?_
    refine AW.bipush 43 dX11_readSum_6 (by decide) ?_
    obtain ⟨t25, hx27, h⟩ := g_bindE h
    refine AW.callV (b := 101) (As := [.int 43]) hG.2.2 (vX11_225 hG) (hm.1 0 _ rfl) (g_X11_isMarked hK (d := 0) (Nat.le_refl _) hm hx27) (by omega) dX11_readSum_8 rfl rfl (Nat.le_of_ble_eq_true rfl) (fun v w9 hq9 h09 => by obtain ⟨rfl, rfl⟩ := hq9; exact ⟨h09, rfl⟩) (by decide) (by decide) (fun _ _ hx => hx) (fun v9 w9 hq9 => ?_)
    obtain ⟨rfl, rfl⟩ := hq9
    show AW G _ d _ _ 11 [some (.ref 101), some (.int y1), none] [.int (kb t25)] (sh, I, R, L, g) 0 0
    refine AW.if_ne 23 dX11_readSum_11 (by decide) (fun hc11 => ?_) (fun hc11 => ?_)
    · replace h := g_pos (kb_1.mp hc11) h
      exact H23 _ h
    · replace h := g_neg (g_kb0 hc11) h
      refine AW.aload_n dX11_readSum_14 rfl ?_
      refine AW.bipush 45 dX11_readSum_15 (by decide) ?_
      obtain ⟨t28, hx30, h⟩ := g_bindE h
      refine AW.callV (b := 101) (As := [.int 45]) hG.2.2 (vX11_225 hG) (hm.1 0 _ rfl) (g_X11_isMarked hK (d := 0) (Nat.le_refl _) hm hx30) (by omega) dX11_readSum_17 rfl rfl (Nat.le_of_ble_eq_true rfl) (fun v w9 hq9 h09 => by obtain ⟨rfl, rfl⟩ := hq9; exact ⟨h09, rfl⟩) (by decide) (by decide) (fun _ _ hx => hx) (fun v9 w9 hq9 => ?_)
      obtain ⟨rfl, rfl⟩ := hq9
      show AW G _ d _ _ 20 [some (.ref 101), some (.int y1), none] [.int (kb t28)] (sh, I, R, L, g) 0 0
      refine AW.if_eq 57 dX11_readSum_20 (by decide) (fun hc20 => ?_) (fun hc20 => ?_)
      · replace h := g_neg (g_kb0 hc20) h
        refine AW.mask [0, 1] [none, none, none] rfl ?_
        exact hk _ h
      · replace h := g_pos (kb_1.mp hc20) h
        exact H23 _ h
set_option maxRecDepth 100000 in
set_option maxHeartbeats 4000000 in
theorem g_X11_readSum {G : am_G} (hK : k_OK G) {rec : g_I → Int32 → Option (g_I)} {dr : Nat} {d : Nat} (hd : dr + 8 ≤ d) {sh : List (Nat ⊕ (Nat × Nat))} {I : g_I} {R : Nat → Nat → Option Nat} {L : Nat → Nat → Int64} {g : Nat} (hm : k_Mod sh R) {x1 : Int32} (ih9 : ∀ {I : g_I} {x1 : Int32} {r : g_I}, rec I x1 = some r → AM G mX11_readExpression dr [.ref 101, .int x1] (sh, I, R, L, g) (fun v w => v = none ∧ w = (sh, r, R, L, g)) (fun _ _ => False)) {r : g_I} (h : b_X11_readSum rec I x1 = some r) : AM G mX11_readSum d [.ref 101, .int x1] (sh, I, R, L, g) (fun v w => v = none ∧ w = (sh, r, R, L, g)) (fun _ _ => False) := by
  have hG := hK.1
  refine AM.of (n := 1) (by decide +kernel) (Nat.le_of_ble_eq_true rfl) ?_
  show AW G mX11_readSum d (fun v w => v = none ∧ w = (sh, r, R, L, g)) (fun _ _ => False) 0 [some (.ref 101), some (.int x1), none] [] (sh, I, R, L, g) 0 0
  unfold b_X11_readSum at h
  refine AW.aload_n dX11_readSum_0 rfl ?_
  refine AW.iload_n dX11_readSum_1 rfl ?_
  obtain ⟨I2, hx3, h⟩ := g_bindE h
  refine AW.callV (b := 101) (As := [.int x1]) hG.2.2 (vX11_257 hG) (hm.1 0 _ rfl) (g_X11_readProduct hK (d := dr + 7) (Nat.le_refl _) hm ih9 hx3) (by omega) dX11_readSum_2 rfl rfl (Nat.le_of_ble_eq_true rfl) (fun v w9 hq9 h09 => by obtain ⟨rfl, rfl⟩ := hq9; exact ⟨h09, rfl⟩) (by decide) (by decide) (fun _ _ hx => hx) (fun v9 w9 hq9 => ?_)
  obtain ⟨rfl, rfl⟩ := hq9
  show AW G _ d _ _ 5 [some (.ref 101), some (.int x1), none] [] (sh, I2, R, L, g) 0 0
  refine gL_X11_readSum_5 hK hd hm ih9 h (fun I31 h => ?_)
  exact AW.vret dX11_readSum_57 rfl (by decide) (by decide) (by cases h; exact ⟨rfl, rfl⟩)
theorem dX11_readNot_0 : decode cX11_readNot 0 = .ok (.iconst 0, 1) := by decide +kernel
theorem dX11_readNot_1 : decode cX11_readNot 1 = .ok (.istore_n 2, 1) := by decide +kernel
theorem dX11_readNot_2 : decode cX11_readNot 2 = .ok (.aload_n 0, 1) := by decide +kernel
theorem dX11_readNot_3 : decode cX11_readNot 3 = .ok (.ldc_w 260, 3) := by decide +kernel
theorem dX11_readNot_6 : decode cX11_readNot 6 = .ok (.invokevirtual 221, 3) := by decide +kernel
theorem dX11_readNot_9 : decode cX11_readNot 9 = .ok (.ifCond .eq 31, 3) := by decide +kernel
theorem dX11_readNot_12 : decode cX11_readNot 12 = .ok (.iload_n 2, 1) := by decide +kernel
theorem dX11_readNot_13 : decode cX11_readNot 13 = .ok (.bipush 6, 2) := by decide +kernel
theorem dX11_readNot_15 : decode cX11_readNot 15 = .ok (.if_icmp .ne 8, 3) := by decide +kernel
theorem dX11_readNot_18 : decode cX11_readNot 18 = .ok (.aload_n 0, 1) := by decide +kernel
theorem dX11_readNot_19 : decode cX11_readNot 19 = .ok (.iconst 2, 1) := by decide +kernel
theorem dX11_readNot_20 : decode cX11_readNot 20 = .ok (.invokevirtual 228, 3) := by decide +kernel
theorem dX11_readNot_23 : decode cX11_readNot 23 = .ok (.iinc 2 1, 3) := by decide +kernel
theorem dX11_readNot_26 : decode cX11_readNot 26 = .ok (.aload_n 0, 1) := by decide +kernel
theorem dX11_readNot_27 : decode cX11_readNot 27 = .ok (.getfield 207, 3) := by decide +kernel
theorem dX11_readNot_30 : decode cX11_readNot 30 = .ok (.ifCond .ne (-28), 3) := by decide +kernel
theorem dX11_readNot_33 : decode cX11_readNot 33 = .ok (.aload_n 0, 1) := by decide +kernel
theorem dX11_readNot_34 : decode cX11_readNot 34 = .ok (.invokevirtual 232, 3) := by decide +kernel
theorem dX11_readNot_37 : decode cX11_readNot 37 = .ok (.goto (-35), 3) := by decide +kernel
theorem dX11_readNot_40 : decode cX11_readNot 40 = .ok (.aload_n 0, 1) := by decide +kernel
theorem dX11_readNot_41 : decode cX11_readNot 41 = .ok (.iload_n 1, 1) := by decide +kernel
theorem dX11_readNot_42 : decode cX11_readNot 42 = .ok (.invokevirtual 262, 3) := by decide +kernel
theorem dX11_readNot_45 : decode cX11_readNot 45 = .ok (.aload_n 0, 1) := by decide +kernel
theorem dX11_readNot_46 : decode cX11_readNot 46 = .ok (.bipush 60, 2) := by decide +kernel
theorem dX11_readNot_48 : decode cX11_readNot 48 = .ok (.invokevirtual 225, 3) := by decide +kernel
theorem dX11_readNot_51 : decode cX11_readNot 51 = .ok (.ifCond .ne 12, 3) := by decide +kernel
theorem dX11_readNot_54 : decode cX11_readNot 54 = .ok (.aload_n 0, 1) := by decide +kernel
theorem dX11_readNot_55 : decode cX11_readNot 55 = .ok (.bipush 61, 2) := by decide +kernel
theorem dX11_readNot_57 : decode cX11_readNot 57 = .ok (.invokevirtual 225, 3) := by decide +kernel
theorem dX11_readNot_60 : decode cX11_readNot 60 = .ok (.ifCond .eq 34, 3) := by decide +kernel
theorem dX11_readNot_63 : decode cX11_readNot 63 = .ok (.aload_n 0, 1) := by decide +kernel
theorem dX11_readNot_64 : decode cX11_readNot 64 = .ok (.bipush 60, 2) := by decide +kernel
theorem dX11_readNot_66 : decode cX11_readNot 66 = .ok (.invokevirtual 225, 3) := by decide +kernel
theorem dX11_readNot_69 : decode cX11_readNot 69 = .ok (.ifCond .eq 8, 3) := by decide +kernel
theorem dX11_readNot_72 : decode cX11_readNot 72 = .ok (.bipush (-24), 2) := by decide +kernel
theorem dX11_readNot_74 : decode cX11_readNot 74 = .ok (.goto 5, 3) := by decide +kernel
theorem dX11_readNot_77 : decode cX11_readNot 77 = .ok (.bipush (-25), 2) := by decide +kernel
theorem dX11_readNot_79 : decode cX11_readNot 79 = .ok (.istore_n 3, 1) := by decide +kernel
theorem dX11_readNot_80 : decode cX11_readNot 80 = .ok (.aload_n 0, 1) := by decide +kernel
theorem dX11_readNot_81 : decode cX11_readNot 81 = .ok (.invokevirtual 232, 3) := by decide +kernel
theorem dX11_readNot_84 : decode cX11_readNot 84 = .ok (.aload_n 0, 1) := by decide +kernel
theorem dX11_readNot_85 : decode cX11_readNot 85 = .ok (.iload_n 1, 1) := by decide +kernel
theorem dX11_readNot_86 : decode cX11_readNot 86 = .ok (.invokevirtual 262, 3) := by decide +kernel
theorem dX11_readNot_89 : decode cX11_readNot 89 = .ok (.aload_n 0, 1) := by decide +kernel
theorem dX11_readNot_90 : decode cX11_readNot 90 = .ok (.iload_n 3, 1) := by decide +kernel
theorem dX11_readNot_91 : decode cX11_readNot 91 = .ok (.invokevirtual 241, 3) := by decide +kernel
theorem dX11_readNot_94 : decode cX11_readNot 94 = .ok (.iconst 0, 1) := by decide +kernel
theorem dX11_readNot_95 : decode cX11_readNot 95 = .ok (.istore_n 3, 1) := by decide +kernel
theorem dX11_readNot_96 : decode cX11_readNot 96 = .ok (.iload_n 3, 1) := by decide +kernel
theorem dX11_readNot_97 : decode cX11_readNot 97 = .ok (.iload_n 2, 1) := by decide +kernel
theorem dX11_readNot_98 : decode cX11_readNot 98 = .ok (.if_icmp .ge 15, 3) := by decide +kernel
theorem dX11_readNot_101 : decode cX11_readNot 101 = .ok (.aload_n 0, 1) := by decide +kernel
theorem dX11_readNot_102 : decode cX11_readNot 102 = .ok (.bipush (-28), 2) := by decide +kernel
theorem dX11_readNot_104 : decode cX11_readNot 104 = .ok (.invokevirtual 241, 3) := by decide +kernel
theorem dX11_readNot_107 : decode cX11_readNot 107 = .ok (.iinc 3 1, 3) := by decide +kernel
theorem dX11_readNot_110 : decode cX11_readNot 110 = .ok (.goto (-14), 3) := by decide +kernel
theorem dX11_readNot_113 : decode cX11_readNot 113 = .ok (.return_, 1) := by decide +kernel
def b_X11_readNot_L96 (rec : g_I → Int32 → Option (g_I)) (y2 : Int32) (K : g_I → Option (g_I)) : Nat → Int32 → g_I → Option (g_I)
  | 0, _, _ => none
  | f + 1, x3, I => if y2 ≤ x3 then K I else g_bind (b_X11_lay I (-28)) fun I11 => b_X11_readNot_L96 rec y2 K f (x3 + 1) I11
def b_X11_readNot_L2 (rec : g_I → Int32 → Option (g_I)) (y1 : Int32) (K : Int32 → g_I → Option (g_I)) : Nat → Int32 → g_I → Option (g_I)
  | 0, _, _ => none
  | f + 1, x2, I => g_bind (b_X11_is I q_46.2.2.2.2) fun t14 => if t14 = true then if x2 = 6 then g_bind (b_X11_wrong I 2) fun I21 => if (I21 101 24) = 0 then g_bind (b_X11_stepOn I21) fun I24 => b_X11_readNot_L2 rec y1 K f (x2 + 1) I24 else b_X11_readNot_L2 rec y1 K f (x2 + 1) I21 else if (I 101 24) = 0 then g_bind (b_X11_stepOn I) fun I18 => b_X11_readNot_L2 rec y1 K f (x2 + 1) I18 else b_X11_readNot_L2 rec y1 K f (x2 + 1) I else K x2 I
def b_X11_readNot (rec : g_I → Int32 → Option (g_I)) (I : g_I) (x1 : Int32) : Option (g_I) :=
  g_let (fun (z2 : Int32) (w0 : Int32) (I79j : g_I) => g_bind (b_X11_stepOn I79j) fun I2 => g_bind (b_X11_readSum rec I2 x1) fun I5 => g_bind (b_X11_lay I5 w0) fun I8 => b_X11_readNot_L96 rec z2 (fun (I13 : g_I) => some I13) fu 0 I8) fun J79 => b_X11_readNot_L2 rec x1 (fun (a26 : Int32) (I27 : g_I) => g_bind (b_X11_readSum rec I27 x1) fun I29 => g_bind (b_X11_isMarked I29 60) fun t31 => if t31 = true then g_bind (b_X11_isMarked I29 60) fun t34 => if t34 = true then J79 a26 (-24) I29 else J79 a26 (-25) I29 else g_bind (b_X11_isMarked I29 61) fun t37 => if t37 = true then g_bind (b_X11_isMarked I29 60) fun t41 => if t41 = true then J79 a26 (-24) I29 else J79 a26 (-25) I29 else b_X11_readNot_L96 rec a26 (fun (I40 : g_I) => some I40) fu 0 I29) fu 0 I
set_option maxRecDepth 100000 in
set_option maxHeartbeats 4000000 in
theorem gL_X11_readNot_96 {G : am_G} (hK : k_OK G) {rec : g_I → Int32 → Option (g_I)} {dr : Nat} {d : Nat} (hd : dr + 9 ≤ d) {sh : List (Nat ⊕ (Nat × Nat))} {I : g_I} {R : Nat → Nat → Option Nat} {L : Nat → Nat → Int64} {g : Nat} (hm : k_Mod sh R) (ih9 : ∀ {I : g_I} {x1 : Int32} {r : g_I}, rec I x1 = some r → AM G mX11_readExpression dr [.ref 101, .int x1] (sh, I, R, L, g) (fun v w => v = none ∧ w = (sh, r, R, L, g)) (fun _ _ => False)) {y2 : Int32} {K : g_I → Option (g_I)} {x3 : Int32} {f : Nat} {r : g_I} (h : b_X11_readNot_L96 rec y2 K f x3 I = some r) (hk : ∀ (J : g_I), K J = some r → AW G mX11_readNot d (fun v w => v = none ∧ w = (sh, r, R, L, g)) (fun _ _ => False) 113 [none, none, none, none] [] (sh, J, R, L, g) 0 0) : AW G mX11_readNot d (fun v w => v = none ∧ w = (sh, r, R, L, g)) (fun _ _ => False) 96 [some (.ref 101), none, some (.int y2), some (.int x3)] [] (sh, I, R, L, g) 0 0 := by
  have hG := hK.1
  induction f generalizing x3 I with
  | zero => rw [b_X11_readNot_L96] at h; cases h
  | succ f ih =>
    rw [b_X11_readNot_L96] at h
    refine AW.iload_n dX11_readNot_96 rfl ?_
    refine AW.iload_n dX11_readNot_97 rfl ?_
    refine AW.icmp_ge 113 dX11_readNot_98 (by decide) (fun hc98 => ?_) (fun hc98 => ?_)
    · replace h := g_pos hc98 h
      refine AW.mask [0, 2, 3] [none, none, none, none] rfl ?_
      exact hk _ h
    · replace h := g_neg hc98 h
      refine AW.aload_n dX11_readNot_101 rfl ?_
      refine AW.bipush (-28) dX11_readNot_102 (by decide) ?_
      obtain ⟨I11, hx12, h⟩ := g_bindE h
      refine AW.callV (b := 101) (As := [.int (-28)]) hG.2.2 (vX11_241 hG) (hm.1 0 _ rfl) (g_X11_lay hK (d := 0) (Nat.le_refl _) hm hx12) (by omega) dX11_readNot_104 rfl rfl (Nat.le_of_ble_eq_true rfl) (fun v w9 hq9 h09 => by obtain ⟨rfl, rfl⟩ := hq9; exact ⟨h09, rfl⟩) (by decide) (by decide) (fun _ _ hx => hx) (fun v9 w9 hq9 => ?_)
      obtain ⟨rfl, rfl⟩ := hq9
      show AW G _ d _ _ 107 [some (.ref 101), none, some (.int y2), some (.int x3)] [] (sh, I11, R, L, g) 0 0
      refine AW.incE 1 (by decide) [some (.ref 101), none, some (.int y2), some (.int (x3 + 1))] dX11_readNot_107 rfl (by decide) rfl rfl ?_
      refine AW.goto 96 dX11_readNot_110 (by decide) ?_
      exact ih h
set_option maxRecDepth 100000 in
set_option maxHeartbeats 4000000 in
theorem gL_X11_readNot_2 {G : am_G} (hK : k_OK G) {rec : g_I → Int32 → Option (g_I)} {dr : Nat} {d : Nat} (hd : dr + 9 ≤ d) {sh : List (Nat ⊕ (Nat × Nat))} {I : g_I} {R : Nat → Nat → Option Nat} {L : Nat → Nat → Int64} {g : Nat} (hm : k_Mod sh R) (ih9 : ∀ {I : g_I} {x1 : Int32} {r : g_I}, rec I x1 = some r → AM G mX11_readExpression dr [.ref 101, .int x1] (sh, I, R, L, g) (fun v w => v = none ∧ w = (sh, r, R, L, g)) (fun _ _ => False)) {y1 : Int32} {K : Int32 → g_I → Option (g_I)} {x2 : Int32} {f : Nat} {r : g_I} (h : b_X11_readNot_L2 rec y1 K f x2 I = some r) (hk : ∀ (u2 : Int32) (J : g_I), K u2 J = some r → AW G mX11_readNot d (fun v w => v = none ∧ w = (sh, r, R, L, g)) (fun _ _ => False) 40 [some (.ref 101), some (.int y1), some (.int u2), none] [] (sh, J, R, L, g) 0 0) : AW G mX11_readNot d (fun v w => v = none ∧ w = (sh, r, R, L, g)) (fun _ _ => False) 2 [some (.ref 101), some (.int y1), some (.int x2), none] [] (sh, I, R, L, g) 0 0 := by
  have hG := hK.1
  induction f generalizing x2 I with
  | zero => rw [b_X11_readNot_L2] at h; cases h
  | succ f ih =>
    rw [b_X11_readNot_L2] at h
    refine AW.aload_n dX11_readNot_2 rfl ?_
    refine AW.ldcSW (j := 46) hK q_46 k_s_46 rfl rfl dX11_readNot_3 ?_
    obtain ⟨t14, hx16, h⟩ := g_bindE h
    refine AW.callV (b := 101) (As := [.ref (1000000 + 46)]) hG.2.2 (vX11_221 hG) (hm.1 0 _ rfl) (g_X11_is hK (d := 4) (Nat.le_refl _) hm (k_txi hK k_s_46) hx16) (by omega) dX11_readNot_6 rfl rfl (Nat.le_of_ble_eq_true rfl) (fun v w9 hq9 h09 => by obtain ⟨rfl, rfl⟩ := hq9; exact ⟨h09, rfl⟩) (by decide) (by decide) (fun _ _ hx => hx) (fun v9 w9 hq9 => ?_)
    obtain ⟨rfl, rfl⟩ := hq9
    show AW G _ d _ _ 9 [some (.ref 101), some (.int y1), some (.int x2), none] [.int (kb t14)] (sh, I, R, L, g) 0 0
    refine AW.if_eq 40 dX11_readNot_9 (by decide) (fun hc9 => ?_) (fun hc9 => ?_)
    · replace h := g_neg (g_kb0 hc9) h
      exact hk _ _ h
    · replace h := g_pos (kb_1.mp hc9) h
      refine AW.iload_n dX11_readNot_12 rfl ?_
      refine AW.bipush 6 dX11_readNot_13 (by decide) ?_
      refine AW.icmp_ne 23 dX11_readNot_15 (by decide) (fun hc15 => ?_) (fun hc15 => ?_)
      · replace h := g_neg hc15 h
        refine AW.incE 1 (by decide) [some (.ref 101), some (.int y1), some (.int (x2 + 1)), none] dX11_readNot_23 rfl (by decide) rfl rfl ?_
        refine AW.aload_n dX11_readNot_26 rfl ?_
        refine AW.getI (fX11_207 hG).r rfl (hm.1 0 _ rfl) dX11_readNot_27 ?_
        refine AW.if_ne 2 dX11_readNot_30 (by decide) (fun hc30 => ?_) (fun hc30 => ?_)
        · replace h := g_neg hc30 h
          exact ih h
        · replace h := g_pos hc30 h
          refine AW.aload_n dX11_readNot_33 rfl ?_
          obtain ⟨I18, hx19, h⟩ := g_bindE h
          refine AW.callV (b := 101) (As := []) hG.2.2 (vX11_232 hG) (hm.1 0 _ rfl) (g_X11_stepOn hK (d := 1) (Nat.le_refl _) hm hx19) (by omega) dX11_readNot_34 rfl rfl (Nat.le_of_ble_eq_true rfl) (fun v w9 hq9 h09 => by obtain ⟨rfl, rfl⟩ := hq9; exact ⟨h09, rfl⟩) (by decide) (by decide) (fun _ _ hx => hx) (fun v9 w9 hq9 => ?_)
          obtain ⟨rfl, rfl⟩ := hq9
          show AW G _ d _ _ 37 [some (.ref 101), some (.int y1), some (.int (x2 + 1)), none] [] (sh, I18, R, L, g) 0 0
          refine AW.goto 2 dX11_readNot_37 (by decide) ?_
          exact ih h
      · replace h := g_pos hc15 h
        refine AW.aload_n dX11_readNot_18 rfl ?_
        refine AW.iconst 2 dX11_readNot_19 (by decide) ?_
        obtain ⟨I21, hx22, h⟩ := g_bindE h
        refine AW.callV (b := 101) (As := [.int 2]) hG.2.2 (vX11_228 hG) (hm.1 0 _ rfl) (g_X11_wrong hK (d := 0) (Nat.le_refl _) hm hx22) (by omega) dX11_readNot_20 rfl rfl (Nat.le_of_ble_eq_true rfl) (fun v w9 hq9 h09 => by obtain ⟨rfl, rfl⟩ := hq9; exact ⟨h09, rfl⟩) (by decide) (by decide) (fun _ _ hx => hx) (fun v9 w9 hq9 => ?_)
        obtain ⟨rfl, rfl⟩ := hq9
        show AW G _ d _ _ 23 [some (.ref 101), some (.int y1), some (.int x2), none] [] (sh, I21, R, L, g) 0 0
        refine AW.incE 1 (by decide) [some (.ref 101), some (.int y1), some (.int (x2 + 1)), none] dX11_readNot_23 rfl (by decide) rfl rfl ?_
        refine AW.aload_n dX11_readNot_26 rfl ?_
        refine AW.getI (fX11_207 hG).r rfl (hm.1 0 _ rfl) dX11_readNot_27 ?_
        refine AW.if_ne 2 dX11_readNot_30 (by decide) (fun hc30 => ?_) (fun hc30 => ?_)
        · replace h := g_neg hc30 h
          exact ih h
        · replace h := g_pos hc30 h
          refine AW.aload_n dX11_readNot_33 rfl ?_
          obtain ⟨I24, hx25, h⟩ := g_bindE h
          refine AW.callV (b := 101) (As := []) hG.2.2 (vX11_232 hG) (hm.1 0 _ rfl) (g_X11_stepOn hK (d := 1) (Nat.le_refl _) hm hx25) (by omega) dX11_readNot_34 rfl rfl (Nat.le_of_ble_eq_true rfl) (fun v w9 hq9 h09 => by obtain ⟨rfl, rfl⟩ := hq9; exact ⟨h09, rfl⟩) (by decide) (by decide) (fun _ _ hx => hx) (fun v9 w9 hq9 => ?_)
          obtain ⟨rfl, rfl⟩ := hq9
          show AW G _ d _ _ 37 [some (.ref 101), some (.int y1), some (.int (x2 + 1)), none] [] (sh, I24, R, L, g) 0 0
          refine AW.goto 2 dX11_readNot_37 (by decide) ?_
          exact ih h
set_option maxRecDepth 100000 in
set_option maxHeartbeats 4000000 in
theorem g_X11_readNot {G : am_G} (hK : k_OK G) {rec : g_I → Int32 → Option (g_I)} {dr : Nat} {d : Nat} (hd : dr + 9 ≤ d) {sh : List (Nat ⊕ (Nat × Nat))} {I : g_I} {R : Nat → Nat → Option Nat} {L : Nat → Nat → Int64} {g : Nat} (hm : k_Mod sh R) {x1 : Int32} (ih9 : ∀ {I : g_I} {x1 : Int32} {r : g_I}, rec I x1 = some r → AM G mX11_readExpression dr [.ref 101, .int x1] (sh, I, R, L, g) (fun v w => v = none ∧ w = (sh, r, R, L, g)) (fun _ _ => False)) {r : g_I} (h : b_X11_readNot rec I x1 = some r) : AM G mX11_readNot d [.ref 101, .int x1] (sh, I, R, L, g) (fun v w => v = none ∧ w = (sh, r, R, L, g)) (fun _ _ => False) := by
  have hG := hK.1
  refine AM.of (n := 2) (by decide +kernel) (Nat.le_of_ble_eq_true rfl) ?_
  show AW G mX11_readNot d (fun v w => v = none ∧ w = (sh, r, R, L, g)) (fun _ _ => False) 0 [some (.ref 101), some (.int x1), none, none] [] (sh, I, R, L, g) 0 0
  unfold b_X11_readNot at h
  obtain ⟨J79, eJ79, h⟩ := g_letE h
  have H79 : ∀ (z2 : Int32) (w0 : Int32) (I79j : g_I), J79 z2 w0 I79j = some r → AW G mX11_readNot d (fun v w => v = none ∧ w = (sh, r, R, L, g)) (fun _ _ => False) 79 [some (.ref 101), some (.int x1), some (.int z2), none] [.int w0] (sh, I79j, R, L, g) 0 0 := by
    intro z2 w0 I79j h
    rw [eJ79] at h
    refine AW.is_n [some (.ref 101), some (.int x1), some (.int z2), some (.int w0)] dX11_readNot_79 (by decide) rfl rfl ?_
    refine AW.aload_n dX11_readNot_80 rfl ?_
    obtain ⟨I2, hx3, h⟩ := g_bindE h
    refine AW.callV (b := 101) (As := []) hG.2.2 (vX11_232 hG) (hm.1 0 _ rfl) (g_X11_stepOn hK (d := 1) (Nat.le_refl _) hm hx3) (by omega) dX11_readNot_81 rfl rfl (Nat.le_of_ble_eq_true rfl) (fun v w9 hq9 h09 => by obtain ⟨rfl, rfl⟩ := hq9; exact ⟨h09, rfl⟩) (by decide) (by decide) (fun _ _ hx => hx) (fun v9 w9 hq9 => ?_)
    obtain ⟨rfl, rfl⟩ := hq9
    show AW G _ d _ _ 84 [some (.ref 101), some (.int x1), some (.int z2), some (.int w0)] [] (sh, I2, R, L, g) 0 0
    refine AW.aload_n dX11_readNot_84 rfl ?_
    refine AW.iload_n dX11_readNot_85 rfl ?_
    obtain ⟨I5, hx6, h⟩ := g_bindE h
    refine AW.callV (b := 101) (As := [.int x1]) hG.2.2 (vX11_262 hG) (hm.1 0 _ rfl) (g_X11_readSum hK (d := dr + 8) (Nat.le_refl _) hm ih9 hx6) (by omega) dX11_readNot_86 rfl rfl (Nat.le_of_ble_eq_true rfl) (fun v w9 hq9 h09 => by obtain ⟨rfl, rfl⟩ := hq9; exact ⟨h09, rfl⟩) (by decide) (by decide) (fun _ _ hx => hx) (fun v9 w9 hq9 => ?_)
    obtain ⟨rfl, rfl⟩ := hq9
    show AW G _ d _ _ 89 [some (.ref 101), some (.int x1), some (.int z2), some (.int w0)] [] (sh, I5, R, L, g) 0 0
    refine AW.aload_n dX11_readNot_89 rfl ?_
    refine AW.iload_n dX11_readNot_90 rfl ?_
    obtain ⟨I8, hx9, h⟩ := g_bindE h
    refine AW.callV (b := 101) (As := [.int w0]) hG.2.2 (vX11_241 hG) (hm.1 0 _ rfl) (g_X11_lay hK (d := 0) (Nat.le_refl _) hm hx9) (by omega) dX11_readNot_91 rfl rfl (Nat.le_of_ble_eq_true rfl) (fun v w9 hq9 h09 => by obtain ⟨rfl, rfl⟩ := hq9; exact ⟨h09, rfl⟩) (by decide) (by decide) (fun _ _ hx => hx) (fun v9 w9 hq9 => ?_)
    obtain ⟨rfl, rfl⟩ := hq9
    show AW G _ d _ _ 94 [some (.ref 101), some (.int x1), some (.int z2), some (.int w0)] [] (sh, I8, R, L, g) 0 0
    refine AW.iconst 0 dX11_readNot_94 (by decide) ?_
    refine AW.is_n [some (.ref 101), some (.int x1), some (.int z2), some (.int 0)] dX11_readNot_95 (by decide) rfl rfl ?_
    refine AW.mask [1] [some (.ref 101), none, some (.int z2), some (.int 0)] rfl ?_
    refine gL_X11_readNot_96 hK hd hm ih9 h (fun I13 h => ?_)
    exact AW.vret dX11_readNot_113 rfl (by decide) (by decide) (by cases h; exact ⟨rfl, rfl⟩)
  refine AW.iconst 0 dX11_readNot_0 (by decide) ?_
  refine AW.is_n [some (.ref 101), some (.int x1), some (.int 0), none] dX11_readNot_1 (by decide) rfl rfl ?_
  refine gL_X11_readNot_2 hK hd hm ih9 h (fun a26 I27 h => ?_)
  refine AW.aload_n dX11_readNot_40 rfl ?_
  refine AW.iload_n dX11_readNot_41 rfl ?_
  obtain ⟨I29, hx30, h⟩ := g_bindE h
  refine AW.callV (b := 101) (As := [.int x1]) hG.2.2 (vX11_262 hG) (hm.1 0 _ rfl) (g_X11_readSum hK (d := dr + 8) (Nat.le_refl _) hm ih9 hx30) (by omega) dX11_readNot_42 rfl rfl (Nat.le_of_ble_eq_true rfl) (fun v w9 hq9 h09 => by obtain ⟨rfl, rfl⟩ := hq9; exact ⟨h09, rfl⟩) (by decide) (by decide) (fun _ _ hx => hx) (fun v9 w9 hq9 => ?_)
  obtain ⟨rfl, rfl⟩ := hq9
  show AW G _ d _ _ 45 [some (.ref 101), some (.int x1), some (.int a26), none] [] (sh, I29, R, L, g) 0 0
  refine AW.aload_n dX11_readNot_45 rfl ?_
  refine AW.bipush 60 dX11_readNot_46 (by decide) ?_
  obtain ⟨t31, hx33, h⟩ := g_bindE h
  refine AW.callV (b := 101) (As := [.int 60]) hG.2.2 (vX11_225 hG) (hm.1 0 _ rfl) (g_X11_isMarked hK (d := 0) (Nat.le_refl _) hm hx33) (by omega) dX11_readNot_48 rfl rfl (Nat.le_of_ble_eq_true rfl) (fun v w9 hq9 h09 => by obtain ⟨rfl, rfl⟩ := hq9; exact ⟨h09, rfl⟩) (by decide) (by decide) (fun _ _ hx => hx) (fun v9 w9 hq9 => ?_)
  obtain ⟨rfl, rfl⟩ := hq9
  show AW G _ d _ _ 51 [some (.ref 101), some (.int x1), some (.int a26), none] [.int (kb t31)] (sh, I29, R, L, g) 0 0
  refine AW.if_ne 63 dX11_readNot_51 (by decide) (fun hc51 => ?_) (fun hc51 => ?_)
  · replace h := g_pos (kb_1.mp hc51) h
    refine AW.aload_n dX11_readNot_63 rfl ?_
    refine AW.bipush 60 dX11_readNot_64 (by decide) ?_
    obtain ⟨t34, hx36, h⟩ := g_bindE h
    refine AW.callV (b := 101) (As := [.int 60]) hG.2.2 (vX11_225 hG) (hm.1 0 _ rfl) (g_X11_isMarked hK (d := 0) (Nat.le_refl _) hm hx36) (by omega) dX11_readNot_66 rfl rfl (Nat.le_of_ble_eq_true rfl) (fun v w9 hq9 h09 => by obtain ⟨rfl, rfl⟩ := hq9; exact ⟨h09, rfl⟩) (by decide) (by decide) (fun _ _ hx => hx) (fun v9 w9 hq9 => ?_)
    obtain ⟨rfl, rfl⟩ := hq9
    show AW G _ d _ _ 69 [some (.ref 101), some (.int x1), some (.int a26), none] [.int (kb t34)] (sh, I29, R, L, g) 0 0
    refine AW.if_eq 77 dX11_readNot_69 (by decide) (fun hc69 => ?_) (fun hc69 => ?_)
    · replace h := g_neg (g_kb0 hc69) h
      refine AW.bipush (-25) dX11_readNot_77 (by decide) ?_
      exact H79 _ _ _ h
    · replace h := g_pos (kb_1.mp hc69) h
      refine AW.bipush (-24) dX11_readNot_72 (by decide) ?_
      refine AW.goto 79 dX11_readNot_74 (by decide) ?_
      exact H79 _ _ _ h
  · replace h := g_neg (g_kb0 hc51) h
    refine AW.aload_n dX11_readNot_54 rfl ?_
    refine AW.bipush 61 dX11_readNot_55 (by decide) ?_
    obtain ⟨t37, hx39, h⟩ := g_bindE h
    refine AW.callV (b := 101) (As := [.int 61]) hG.2.2 (vX11_225 hG) (hm.1 0 _ rfl) (g_X11_isMarked hK (d := 0) (Nat.le_refl _) hm hx39) (by omega) dX11_readNot_57 rfl rfl (Nat.le_of_ble_eq_true rfl) (fun v w9 hq9 h09 => by obtain ⟨rfl, rfl⟩ := hq9; exact ⟨h09, rfl⟩) (by decide) (by decide) (fun _ _ hx => hx) (fun v9 w9 hq9 => ?_)
    obtain ⟨rfl, rfl⟩ := hq9
    show AW G _ d _ _ 60 [some (.ref 101), some (.int x1), some (.int a26), none] [.int (kb t37)] (sh, I29, R, L, g) 0 0
    refine AW.if_eq 94 dX11_readNot_60 (by decide) (fun hc60 => ?_) (fun hc60 => ?_)
    · replace h := g_neg (g_kb0 hc60) h
      refine AW.iconst 0 dX11_readNot_94 (by decide) ?_
      refine AW.is_n [some (.ref 101), some (.int x1), some (.int a26), some (.int 0)] dX11_readNot_95 (by decide) rfl rfl ?_
      refine AW.mask [1] [some (.ref 101), none, some (.int a26), some (.int 0)] rfl ?_
      refine gL_X11_readNot_96 hK hd hm ih9 h (fun I40 h => ?_)
      exact AW.vret dX11_readNot_113 rfl (by decide) (by decide) (by cases h; exact ⟨rfl, rfl⟩)
    · replace h := g_pos (kb_1.mp hc60) h
      refine AW.aload_n dX11_readNot_63 rfl ?_
      refine AW.bipush 60 dX11_readNot_64 (by decide) ?_
      obtain ⟨t41, hx43, h⟩ := g_bindE h
      refine AW.callV (b := 101) (As := [.int 60]) hG.2.2 (vX11_225 hG) (hm.1 0 _ rfl) (g_X11_isMarked hK (d := 0) (Nat.le_refl _) hm hx43) (by omega) dX11_readNot_66 rfl rfl (Nat.le_of_ble_eq_true rfl) (fun v w9 hq9 h09 => by obtain ⟨rfl, rfl⟩ := hq9; exact ⟨h09, rfl⟩) (by decide) (by decide) (fun _ _ hx => hx) (fun v9 w9 hq9 => ?_)
      obtain ⟨rfl, rfl⟩ := hq9
      show AW G _ d _ _ 69 [some (.ref 101), some (.int x1), some (.int a26), none] [.int (kb t41)] (sh, I29, R, L, g) 0 0
      refine AW.if_eq 77 dX11_readNot_69 (by decide) (fun hc69 => ?_) (fun hc69 => ?_)
      · replace h := g_neg (g_kb0 hc69) h
        refine AW.bipush (-25) dX11_readNot_77 (by decide) ?_
        exact H79 _ _ _ h
      · replace h := g_pos (kb_1.mp hc69) h
        refine AW.bipush (-24) dX11_readNot_72 (by decide) ?_
        refine AW.goto 79 dX11_readNot_74 (by decide) ?_
        exact H79 _ _ _ h
theorem dX11_readAnd_0 : decode cX11_readAnd 0 = .ok (.aload_n 0, 1) := by decide +kernel
theorem dX11_readAnd_1 : decode cX11_readAnd 1 = .ok (.iload_n 1, 1) := by decide +kernel
theorem dX11_readAnd_2 : decode cX11_readAnd 2 = .ok (.invokevirtual 265, 3) := by decide +kernel
theorem dX11_readAnd_5 : decode cX11_readAnd 5 = .ok (.aload_n 0, 1) := by decide +kernel
theorem dX11_readAnd_6 : decode cX11_readAnd 6 = .ok (.ldc_w 268, 3) := by decide +kernel
theorem dX11_readAnd_9 : decode cX11_readAnd 9 = .ok (.invokevirtual 221, 3) := by decide +kernel
theorem dX11_readAnd_12 : decode cX11_readAnd 12 = .ok (.ifCond .eq 21, 3) := by decide +kernel
theorem dX11_readAnd_15 : decode cX11_readAnd 15 = .ok (.aload_n 0, 1) := by decide +kernel
theorem dX11_readAnd_16 : decode cX11_readAnd 16 = .ok (.invokevirtual 232, 3) := by decide +kernel
theorem dX11_readAnd_19 : decode cX11_readAnd 19 = .ok (.aload_n 0, 1) := by decide +kernel
theorem dX11_readAnd_20 : decode cX11_readAnd 20 = .ok (.iload_n 1, 1) := by decide +kernel
theorem dX11_readAnd_21 : decode cX11_readAnd 21 = .ok (.invokevirtual 265, 3) := by decide +kernel
theorem dX11_readAnd_24 : decode cX11_readAnd 24 = .ok (.aload_n 0, 1) := by decide +kernel
theorem dX11_readAnd_25 : decode cX11_readAnd 25 = .ok (.bipush (-26), 2) := by decide +kernel
theorem dX11_readAnd_27 : decode cX11_readAnd 27 = .ok (.invokevirtual 241, 3) := by decide +kernel
theorem dX11_readAnd_30 : decode cX11_readAnd 30 = .ok (.goto (-25), 3) := by decide +kernel
theorem dX11_readAnd_33 : decode cX11_readAnd 33 = .ok (.return_, 1) := by decide +kernel
def b_X11_readAnd_L5 (rec : g_I → Int32 → Option (g_I)) (y1 : Int32) (K : g_I → Option (g_I)) : Nat → g_I → Option (g_I)
  | 0, _ => none
  | f + 1, I => g_bind (b_X11_is I q_47.2.2.2.2) fun t4 => if t4 = true then g_bind (b_X11_stepOn I) fun I8 => g_bind (b_X11_readNot rec I8 y1) fun I11 => g_bind (b_X11_lay I11 (-26)) fun I14 => b_X11_readAnd_L5 rec y1 K f I14 else K I
def b_X11_readAnd (rec : g_I → Int32 → Option (g_I)) (I : g_I) (x1 : Int32) : Option (g_I) :=
  g_bind (b_X11_readNot rec I x1) fun I2 => b_X11_readAnd_L5 rec x1 (fun (I16 : g_I) => some I16) fu I2
set_option maxRecDepth 100000 in
set_option maxHeartbeats 4000000 in
theorem gL_X11_readAnd_5 {G : am_G} (hK : k_OK G) {rec : g_I → Int32 → Option (g_I)} {dr : Nat} {d : Nat} (hd : dr + 10 ≤ d) {sh : List (Nat ⊕ (Nat × Nat))} {I : g_I} {R : Nat → Nat → Option Nat} {L : Nat → Nat → Int64} {g : Nat} (hm : k_Mod sh R) (ih9 : ∀ {I : g_I} {x1 : Int32} {r : g_I}, rec I x1 = some r → AM G mX11_readExpression dr [.ref 101, .int x1] (sh, I, R, L, g) (fun v w => v = none ∧ w = (sh, r, R, L, g)) (fun _ _ => False)) {y1 : Int32} {K : g_I → Option (g_I)} {f : Nat} {r : g_I} (h : b_X11_readAnd_L5 rec y1 K f I = some r) (hk : ∀ (J : g_I), K J = some r → AW G mX11_readAnd d (fun v w => v = none ∧ w = (sh, r, R, L, g)) (fun _ _ => False) 33 [none, none] [] (sh, J, R, L, g) 0 0) : AW G mX11_readAnd d (fun v w => v = none ∧ w = (sh, r, R, L, g)) (fun _ _ => False) 5 [some (.ref 101), some (.int y1)] [] (sh, I, R, L, g) 0 0 := by
  have hG := hK.1
  induction f generalizing I with
  | zero => rw [b_X11_readAnd_L5] at h; cases h
  | succ f ih =>
    rw [b_X11_readAnd_L5] at h
    refine AW.aload_n dX11_readAnd_5 rfl ?_
    refine AW.ldcSW (j := 47) hK q_47 k_s_47 rfl rfl dX11_readAnd_6 ?_
    obtain ⟨t4, hx6, h⟩ := g_bindE h
    refine AW.callV (b := 101) (As := [.ref (1000000 + 47)]) hG.2.2 (vX11_221 hG) (hm.1 0 _ rfl) (g_X11_is hK (d := 4) (Nat.le_refl _) hm (k_txi hK k_s_47) hx6) (by omega) dX11_readAnd_9 rfl rfl (Nat.le_of_ble_eq_true rfl) (fun v w9 hq9 h09 => by obtain ⟨rfl, rfl⟩ := hq9; exact ⟨h09, rfl⟩) (by decide) (by decide) (fun _ _ hx => hx) (fun v9 w9 hq9 => ?_)
    obtain ⟨rfl, rfl⟩ := hq9
    show AW G _ d _ _ 12 [some (.ref 101), some (.int y1)] [.int (kb t4)] (sh, I, R, L, g) 0 0
    refine AW.if_eq 33 dX11_readAnd_12 (by decide) (fun hc12 => ?_) (fun hc12 => ?_)
    · replace h := g_neg (g_kb0 hc12) h
      refine AW.mask [0, 1] [none, none] rfl ?_
      exact hk _ h
    · replace h := g_pos (kb_1.mp hc12) h
      refine AW.aload_n dX11_readAnd_15 rfl ?_
      obtain ⟨I8, hx9, h⟩ := g_bindE h
      refine AW.callV (b := 101) (As := []) hG.2.2 (vX11_232 hG) (hm.1 0 _ rfl) (g_X11_stepOn hK (d := 1) (Nat.le_refl _) hm hx9) (by omega) dX11_readAnd_16 rfl rfl (Nat.le_of_ble_eq_true rfl) (fun v w9 hq9 h09 => by obtain ⟨rfl, rfl⟩ := hq9; exact ⟨h09, rfl⟩) (by decide) (by decide) (fun _ _ hx => hx) (fun v9 w9 hq9 => ?_)
      obtain ⟨rfl, rfl⟩ := hq9
      show AW G _ d _ _ 19 [some (.ref 101), some (.int y1)] [] (sh, I8, R, L, g) 0 0
      refine AW.aload_n dX11_readAnd_19 rfl ?_
      refine AW.iload_n dX11_readAnd_20 rfl ?_
      obtain ⟨I11, hx12, h⟩ := g_bindE h
      refine AW.callV (b := 101) (As := [.int y1]) hG.2.2 (vX11_265 hG) (hm.1 0 _ rfl) (g_X11_readNot hK (d := dr + 9) (Nat.le_refl _) hm ih9 hx12) (by omega) dX11_readAnd_21 rfl rfl (Nat.le_of_ble_eq_true rfl) (fun v w9 hq9 h09 => by obtain ⟨rfl, rfl⟩ := hq9; exact ⟨h09, rfl⟩) (by decide) (by decide) (fun _ _ hx => hx) (fun v9 w9 hq9 => ?_)
      obtain ⟨rfl, rfl⟩ := hq9
      show AW G _ d _ _ 24 [some (.ref 101), some (.int y1)] [] (sh, I11, R, L, g) 0 0
      refine AW.aload_n dX11_readAnd_24 rfl ?_
      refine AW.bipush (-26) dX11_readAnd_25 (by decide) ?_
      obtain ⟨I14, hx15, h⟩ := g_bindE h
      refine AW.callV (b := 101) (As := [.int (-26)]) hG.2.2 (vX11_241 hG) (hm.1 0 _ rfl) (g_X11_lay hK (d := 0) (Nat.le_refl _) hm hx15) (by omega) dX11_readAnd_27 rfl rfl (Nat.le_of_ble_eq_true rfl) (fun v w9 hq9 h09 => by obtain ⟨rfl, rfl⟩ := hq9; exact ⟨h09, rfl⟩) (by decide) (by decide) (fun _ _ hx => hx) (fun v9 w9 hq9 => ?_)
      obtain ⟨rfl, rfl⟩ := hq9
      show AW G _ d _ _ 30 [some (.ref 101), some (.int y1)] [] (sh, I14, R, L, g) 0 0
      refine AW.goto 5 dX11_readAnd_30 (by decide) ?_
      exact ih h
set_option maxRecDepth 100000 in
set_option maxHeartbeats 4000000 in
theorem g_X11_readAnd {G : am_G} (hK : k_OK G) {rec : g_I → Int32 → Option (g_I)} {dr : Nat} {d : Nat} (hd : dr + 10 ≤ d) {sh : List (Nat ⊕ (Nat × Nat))} {I : g_I} {R : Nat → Nat → Option Nat} {L : Nat → Nat → Int64} {g : Nat} (hm : k_Mod sh R) {x1 : Int32} (ih9 : ∀ {I : g_I} {x1 : Int32} {r : g_I}, rec I x1 = some r → AM G mX11_readExpression dr [.ref 101, .int x1] (sh, I, R, L, g) (fun v w => v = none ∧ w = (sh, r, R, L, g)) (fun _ _ => False)) {r : g_I} (h : b_X11_readAnd rec I x1 = some r) : AM G mX11_readAnd d [.ref 101, .int x1] (sh, I, R, L, g) (fun v w => v = none ∧ w = (sh, r, R, L, g)) (fun _ _ => False) := by
  have hG := hK.1
  refine AM.of (n := 0) (by decide +kernel) (Nat.le_of_ble_eq_true rfl) ?_
  show AW G mX11_readAnd d (fun v w => v = none ∧ w = (sh, r, R, L, g)) (fun _ _ => False) 0 [some (.ref 101), some (.int x1)] [] (sh, I, R, L, g) 0 0
  unfold b_X11_readAnd at h
  refine AW.aload_n dX11_readAnd_0 rfl ?_
  refine AW.iload_n dX11_readAnd_1 rfl ?_
  obtain ⟨I2, hx3, h⟩ := g_bindE h
  refine AW.callV (b := 101) (As := [.int x1]) hG.2.2 (vX11_265 hG) (hm.1 0 _ rfl) (g_X11_readNot hK (d := dr + 9) (Nat.le_refl _) hm ih9 hx3) (by omega) dX11_readAnd_2 rfl rfl (Nat.le_of_ble_eq_true rfl) (fun v w9 hq9 h09 => by obtain ⟨rfl, rfl⟩ := hq9; exact ⟨h09, rfl⟩) (by decide) (by decide) (fun _ _ hx => hx) (fun v9 w9 hq9 => ?_)
  obtain ⟨rfl, rfl⟩ := hq9
  show AW G _ d _ _ 5 [some (.ref 101), some (.int x1)] [] (sh, I2, R, L, g) 0 0
  refine gL_X11_readAnd_5 hK hd hm ih9 h (fun I16 h => ?_)
  exact AW.vret dX11_readAnd_33 rfl (by decide) (by decide) (by cases h; exact ⟨rfl, rfl⟩)
theorem dX11_readExpression_0 : decode cX11_readExpression 0 = .ok (.aload_n 0, 1) := by decide +kernel
theorem dX11_readExpression_1 : decode cX11_readExpression 1 = .ok (.getfield 207, 3) := by decide +kernel
theorem dX11_readExpression_4 : decode cX11_readExpression 4 = .ok (.ifCond .eq 4, 3) := by decide +kernel
theorem dX11_readExpression_7 : decode cX11_readExpression 7 = .ok (.return_, 1) := by decide +kernel
theorem dX11_readExpression_8 : decode cX11_readExpression 8 = .ok (.aload_n 0, 1) := by decide +kernel
theorem dX11_readExpression_9 : decode cX11_readExpression 9 = .ok (.getfield 181, 3) := by decide +kernel
theorem dX11_readExpression_12 : decode cX11_readExpression 12 = .ok (.iconst 2, 1) := by decide +kernel
theorem dX11_readExpression_13 : decode cX11_readExpression 13 = .ok (.if_icmp .eq 20, 3) := by decide +kernel
theorem dX11_readExpression_16 : decode cX11_readExpression 16 = .ok (.aload_n 0, 1) := by decide +kernel
theorem dX11_readExpression_17 : decode cX11_readExpression 17 = .ok (.getfield 181, 3) := by decide +kernel
theorem dX11_readExpression_20 : decode cX11_readExpression 20 = .ok (.iconst 1, 1) := by decide +kernel
theorem dX11_readExpression_21 : decode cX11_readExpression 21 = .ok (.if_icmp .eq 12, 3) := by decide +kernel
theorem dX11_readExpression_24 : decode cX11_readExpression 24 = .ok (.aload_n 0, 1) := by decide +kernel
theorem dX11_readExpression_25 : decode cX11_readExpression 25 = .ok (.bipush 40, 2) := by decide +kernel
theorem dX11_readExpression_27 : decode cX11_readExpression 27 = .ok (.invokevirtual 225, 3) := by decide +kernel
theorem dX11_readExpression_30 : decode cX11_readExpression 30 = .ok (.ifCond .eq 7, 3) := by decide +kernel
theorem dX11_readExpression_33 : decode cX11_readExpression 33 = .ok (.iconst 1, 1) := by decide +kernel
theorem dX11_readExpression_34 : decode cX11_readExpression 34 = .ok (.goto 4, 3) := by decide +kernel
theorem dX11_readExpression_37 : decode cX11_readExpression 37 = .ok (.iconst 0, 1) := by decide +kernel
theorem dX11_readExpression_38 : decode cX11_readExpression 38 = .ok (.istore_n 2, 1) := by decide +kernel
theorem dX11_readExpression_39 : decode cX11_readExpression 39 = .ok (.iload_n 2, 1) := by decide +kernel
theorem dX11_readExpression_40 : decode cX11_readExpression 40 = .ok (.ifCond .ne 11, 3) := by decide +kernel
theorem dX11_readExpression_43 : decode cX11_readExpression 43 = .ok (.aload_n 0, 1) := by decide +kernel
theorem dX11_readExpression_44 : decode cX11_readExpression 44 = .ok (.iconst 1, 1) := by decide +kernel
theorem dX11_readExpression_45 : decode cX11_readExpression 45 = .ok (.invokevirtual 228, 3) := by decide +kernel
theorem dX11_readExpression_48 : decode cX11_readExpression 48 = .ok (.goto 14, 3) := by decide +kernel
theorem dX11_readExpression_51 : decode cX11_readExpression 51 = .ok (.iload_n 1, 1) := by decide +kernel
theorem dX11_readExpression_52 : decode cX11_readExpression 52 = .ok (.bipush 6, 2) := by decide +kernel
theorem dX11_readExpression_54 : decode cX11_readExpression 54 = .ok (.if_icmp .ne 8, 3) := by decide +kernel
theorem dX11_readExpression_57 : decode cX11_readExpression 57 = .ok (.aload_n 0, 1) := by decide +kernel
theorem dX11_readExpression_58 : decode cX11_readExpression 58 = .ok (.iconst 2, 1) := by decide +kernel
theorem dX11_readExpression_59 : decode cX11_readExpression 59 = .ok (.invokevirtual 228, 3) := by decide +kernel
theorem dX11_readExpression_62 : decode cX11_readExpression 62 = .ok (.aload_n 0, 1) := by decide +kernel
theorem dX11_readExpression_63 : decode cX11_readExpression 63 = .ok (.iload_n 1, 1) := by decide +kernel
theorem dX11_readExpression_64 : decode cX11_readExpression 64 = .ok (.invokevirtual 270, 3) := by decide +kernel
theorem dX11_readExpression_67 : decode cX11_readExpression 67 = .ok (.aload_n 0, 1) := by decide +kernel
theorem dX11_readExpression_68 : decode cX11_readExpression 68 = .ok (.ldc_w 273, 3) := by decide +kernel
theorem dX11_readExpression_71 : decode cX11_readExpression 71 = .ok (.invokevirtual 221, 3) := by decide +kernel
theorem dX11_readExpression_74 : decode cX11_readExpression 74 = .ok (.ifCond .eq 21, 3) := by decide +kernel
theorem dX11_readExpression_77 : decode cX11_readExpression 77 = .ok (.aload_n 0, 1) := by decide +kernel
theorem dX11_readExpression_78 : decode cX11_readExpression 78 = .ok (.invokevirtual 232, 3) := by decide +kernel
theorem dX11_readExpression_81 : decode cX11_readExpression 81 = .ok (.aload_n 0, 1) := by decide +kernel
theorem dX11_readExpression_82 : decode cX11_readExpression 82 = .ok (.iload_n 1, 1) := by decide +kernel
theorem dX11_readExpression_83 : decode cX11_readExpression 83 = .ok (.invokevirtual 270, 3) := by decide +kernel
theorem dX11_readExpression_86 : decode cX11_readExpression 86 = .ok (.aload_n 0, 1) := by decide +kernel
theorem dX11_readExpression_87 : decode cX11_readExpression 87 = .ok (.bipush (-27), 2) := by decide +kernel
theorem dX11_readExpression_89 : decode cX11_readExpression 89 = .ok (.invokevirtual 241, 3) := by decide +kernel
theorem dX11_readExpression_92 : decode cX11_readExpression 92 = .ok (.goto (-25), 3) := by decide +kernel
theorem dX11_readExpression_95 : decode cX11_readExpression 95 = .ok (.return_, 1) := by decide +kernel
def b_X11_readExpression_L67 (rec : g_I → Int32 → Option (g_I)) (y1 : Int32) (K : g_I → Option (g_I)) : Nat → g_I → Option (g_I)
  | 0, _ => none
  | f + 1, I => g_bind (b_X11_is I q_48.2.2.2.2) fun t4 => if t4 = true then g_bind (b_X11_stepOn I) fun I8 => g_bind (b_X11_readAnd rec I8 y1) fun I11 => g_bind (b_X11_lay I11 (-27)) fun I14 => b_X11_readExpression_L67 rec y1 K f I14 else K I
def b_X11_readExpression (rec : g_I → Int32 → Option (g_I)) (I : g_I) (x1 : Int32) : Option (g_I) :=
  g_let (fun (I62j : g_I) => g_bind (b_X11_readAnd rec I62j x1) fun I2 => b_X11_readExpression_L67 rec x1 (fun (I16 : g_I) => some I16) fu I2) fun J62 => g_let (fun (w0 : Int32) (I38j : g_I) => if w0 = 0 then g_bind (b_X11_wrong I38j 1) fun I21 => J62 I21 else if x1 = 6 then g_bind (b_X11_wrong I38j 2) fun I18 => J62 I18 else J62 I38j) fun J38 => if (I 101 24) = 0 then if (I 101 20) = 2 then J38 1 I else if (I 101 20) = 1 then J38 1 I else g_bind (b_X11_isMarked I 40) fun t23 => if t23 = true then J38 1 I else J38 0 I else some I
set_option maxRecDepth 100000 in
set_option maxHeartbeats 4000000 in
theorem gL_X11_readExpression_67 {G : am_G} (hK : k_OK G) {rec : g_I → Int32 → Option (g_I)} {dr : Nat} {d : Nat} (hd : dr + 11 ≤ d) {sh : List (Nat ⊕ (Nat × Nat))} {I : g_I} {R : Nat → Nat → Option Nat} {L : Nat → Nat → Int64} {g : Nat} (hm : k_Mod sh R) (ih9 : ∀ {I : g_I} {x1 : Int32} {r : g_I}, rec I x1 = some r → AM G mX11_readExpression dr [.ref 101, .int x1] (sh, I, R, L, g) (fun v w => v = none ∧ w = (sh, r, R, L, g)) (fun _ _ => False)) {y1 : Int32} {K : g_I → Option (g_I)} {f : Nat} {r : g_I} (h : b_X11_readExpression_L67 rec y1 K f I = some r) (hk : ∀ (J : g_I), K J = some r → AW G mX11_readExpression d (fun v w => v = none ∧ w = (sh, r, R, L, g)) (fun _ _ => False) 95 [none, none, none] [] (sh, J, R, L, g) 0 0) : AW G mX11_readExpression d (fun v w => v = none ∧ w = (sh, r, R, L, g)) (fun _ _ => False) 67 [some (.ref 101), some (.int y1), none] [] (sh, I, R, L, g) 0 0 := by
  have hG := hK.1
  induction f generalizing I with
  | zero => rw [b_X11_readExpression_L67] at h; cases h
  | succ f ih =>
    rw [b_X11_readExpression_L67] at h
    refine AW.aload_n dX11_readExpression_67 rfl ?_
    refine AW.ldcSW (j := 48) hK q_48 k_s_48 rfl rfl dX11_readExpression_68 ?_
    obtain ⟨t4, hx6, h⟩ := g_bindE h
    refine AW.callV (b := 101) (As := [.ref (1000000 + 48)]) hG.2.2 (vX11_221 hG) (hm.1 0 _ rfl) (g_X11_is hK (d := 4) (Nat.le_refl _) hm (k_txi hK k_s_48) hx6) (by omega) dX11_readExpression_71 rfl rfl (Nat.le_of_ble_eq_true rfl) (fun v w9 hq9 h09 => by obtain ⟨rfl, rfl⟩ := hq9; exact ⟨h09, rfl⟩) (by decide) (by decide) (fun _ _ hx => hx) (fun v9 w9 hq9 => ?_)
    obtain ⟨rfl, rfl⟩ := hq9
    show AW G _ d _ _ 74 [some (.ref 101), some (.int y1), none] [.int (kb t4)] (sh, I, R, L, g) 0 0
    refine AW.if_eq 95 dX11_readExpression_74 (by decide) (fun hc74 => ?_) (fun hc74 => ?_)
    · replace h := g_neg (g_kb0 hc74) h
      refine AW.mask [0, 1] [none, none, none] rfl ?_
      exact hk _ h
    · replace h := g_pos (kb_1.mp hc74) h
      refine AW.aload_n dX11_readExpression_77 rfl ?_
      obtain ⟨I8, hx9, h⟩ := g_bindE h
      refine AW.callV (b := 101) (As := []) hG.2.2 (vX11_232 hG) (hm.1 0 _ rfl) (g_X11_stepOn hK (d := 1) (Nat.le_refl _) hm hx9) (by omega) dX11_readExpression_78 rfl rfl (Nat.le_of_ble_eq_true rfl) (fun v w9 hq9 h09 => by obtain ⟨rfl, rfl⟩ := hq9; exact ⟨h09, rfl⟩) (by decide) (by decide) (fun _ _ hx => hx) (fun v9 w9 hq9 => ?_)
      obtain ⟨rfl, rfl⟩ := hq9
      show AW G _ d _ _ 81 [some (.ref 101), some (.int y1), none] [] (sh, I8, R, L, g) 0 0
      refine AW.aload_n dX11_readExpression_81 rfl ?_
      refine AW.iload_n dX11_readExpression_82 rfl ?_
      obtain ⟨I11, hx12, h⟩ := g_bindE h
      refine AW.callV (b := 101) (As := [.int y1]) hG.2.2 (vX11_270 hG) (hm.1 0 _ rfl) (g_X11_readAnd hK (d := dr + 10) (Nat.le_refl _) hm ih9 hx12) (by omega) dX11_readExpression_83 rfl rfl (Nat.le_of_ble_eq_true rfl) (fun v w9 hq9 h09 => by obtain ⟨rfl, rfl⟩ := hq9; exact ⟨h09, rfl⟩) (by decide) (by decide) (fun _ _ hx => hx) (fun v9 w9 hq9 => ?_)
      obtain ⟨rfl, rfl⟩ := hq9
      show AW G _ d _ _ 86 [some (.ref 101), some (.int y1), none] [] (sh, I11, R, L, g) 0 0
      refine AW.aload_n dX11_readExpression_86 rfl ?_
      refine AW.bipush (-27) dX11_readExpression_87 (by decide) ?_
      obtain ⟨I14, hx15, h⟩ := g_bindE h
      refine AW.callV (b := 101) (As := [.int (-27)]) hG.2.2 (vX11_241 hG) (hm.1 0 _ rfl) (g_X11_lay hK (d := 0) (Nat.le_refl _) hm hx15) (by omega) dX11_readExpression_89 rfl rfl (Nat.le_of_ble_eq_true rfl) (fun v w9 hq9 h09 => by obtain ⟨rfl, rfl⟩ := hq9; exact ⟨h09, rfl⟩) (by decide) (by decide) (fun _ _ hx => hx) (fun v9 w9 hq9 => ?_)
      obtain ⟨rfl, rfl⟩ := hq9
      show AW G _ d _ _ 92 [some (.ref 101), some (.int y1), none] [] (sh, I14, R, L, g) 0 0
      refine AW.goto 67 dX11_readExpression_92 (by decide) ?_
      exact ih h
set_option maxRecDepth 100000 in
set_option maxHeartbeats 4000000 in
theorem g_X11_readExpression {G : am_G} (hK : k_OK G) {rec : g_I → Int32 → Option (g_I)} {dr : Nat} {d : Nat} (hd : dr + 11 ≤ d) {sh : List (Nat ⊕ (Nat × Nat))} {I : g_I} {R : Nat → Nat → Option Nat} {L : Nat → Nat → Int64} {g : Nat} (hm : k_Mod sh R) {x1 : Int32} (ih9 : ∀ {I : g_I} {x1 : Int32} {r : g_I}, rec I x1 = some r → AM G mX11_readExpression dr [.ref 101, .int x1] (sh, I, R, L, g) (fun v w => v = none ∧ w = (sh, r, R, L, g)) (fun _ _ => False)) {r : g_I} (h : b_X11_readExpression rec I x1 = some r) : AM G mX11_readExpression d [.ref 101, .int x1] (sh, I, R, L, g) (fun v w => v = none ∧ w = (sh, r, R, L, g)) (fun _ _ => False) := by
  have hG := hK.1
  refine AM.of (n := 1) (by decide +kernel) (Nat.le_of_ble_eq_true rfl) ?_
  show AW G mX11_readExpression d (fun v w => v = none ∧ w = (sh, r, R, L, g)) (fun _ _ => False) 0 [some (.ref 101), some (.int x1), none] [] (sh, I, R, L, g) 0 0
  unfold b_X11_readExpression at h
  obtain ⟨J62, eJ62, h⟩ := g_letE h
  have H62 : ∀ (I62j : g_I), J62 I62j = some r → AW G mX11_readExpression d (fun v w => v = none ∧ w = (sh, r, R, L, g)) (fun _ _ => False) 62 [some (.ref 101), some (.int x1), none] [] (sh, I62j, R, L, g) 0 0 := by
    intro I62j h
    rw [eJ62] at h
    refine AW.aload_n dX11_readExpression_62 rfl ?_
    refine AW.iload_n dX11_readExpression_63 rfl ?_
    obtain ⟨I2, hx3, h⟩ := g_bindE h
    refine AW.callV (b := 101) (As := [.int x1]) hG.2.2 (vX11_270 hG) (hm.1 0 _ rfl) (g_X11_readAnd hK (d := dr + 10) (Nat.le_refl _) hm ih9 hx3) (by omega) dX11_readExpression_64 rfl rfl (Nat.le_of_ble_eq_true rfl) (fun v w9 hq9 h09 => by obtain ⟨rfl, rfl⟩ := hq9; exact ⟨h09, rfl⟩) (by decide) (by decide) (fun _ _ hx => hx) (fun v9 w9 hq9 => ?_)
    obtain ⟨rfl, rfl⟩ := hq9
    show AW G _ d _ _ 67 [some (.ref 101), some (.int x1), none] [] (sh, I2, R, L, g) 0 0
    refine gL_X11_readExpression_67 hK hd hm ih9 h (fun I16 h => ?_)
    exact AW.vret dX11_readExpression_95 rfl (by decide) (by decide) (by cases h; exact ⟨rfl, rfl⟩)
  obtain ⟨J38, eJ38, h⟩ := g_letE h
  have H38 : ∀ (w0 : Int32) (I38j : g_I), J38 w0 I38j = some r → AW G mX11_readExpression d (fun v w => v = none ∧ w = (sh, r, R, L, g)) (fun _ _ => False) 38 [some (.ref 101), some (.int x1), none] [.int w0] (sh, I38j, R, L, g) 0 0 := by
    intro w0 I38j h
    rw [eJ38] at h
    refine AW.is_n [some (.ref 101), some (.int x1), some (.int w0)] dX11_readExpression_38 (by decide) rfl rfl ?_
    refine AW.iload_n dX11_readExpression_39 rfl ?_
    refine AW.if_ne 51 dX11_readExpression_40 (by decide) (fun hc40 => ?_) (fun hc40 => ?_)
    · replace h := g_neg hc40 h
      refine AW.iload_n dX11_readExpression_51 rfl ?_
      refine AW.bipush 6 dX11_readExpression_52 (by decide) ?_
      refine AW.icmp_ne 62 dX11_readExpression_54 (by decide) (fun hc54 => ?_) (fun hc54 => ?_)
      · replace h := g_neg hc54 h
        refine AW.mask [2] [some (.ref 101), some (.int x1), none] rfl ?_
        exact H62 _ h
      · replace h := g_pos hc54 h
        refine AW.aload_n dX11_readExpression_57 rfl ?_
        refine AW.iconst 2 dX11_readExpression_58 (by decide) ?_
        obtain ⟨I18, hx19, h⟩ := g_bindE h
        refine AW.callV (b := 101) (As := [.int 2]) hG.2.2 (vX11_228 hG) (hm.1 0 _ rfl) (g_X11_wrong hK (d := 0) (Nat.le_refl _) hm hx19) (by omega) dX11_readExpression_59 rfl rfl (Nat.le_of_ble_eq_true rfl) (fun v w9 hq9 h09 => by obtain ⟨rfl, rfl⟩ := hq9; exact ⟨h09, rfl⟩) (by decide) (by decide) (fun _ _ hx => hx) (fun v9 w9 hq9 => ?_)
        obtain ⟨rfl, rfl⟩ := hq9
        show AW G _ d _ _ 62 [some (.ref 101), some (.int x1), some (.int w0)] [] (sh, I18, R, L, g) 0 0
        refine AW.mask [2] [some (.ref 101), some (.int x1), none] rfl ?_
        exact H62 _ h
    · replace h := g_pos hc40 h
      refine AW.aload_n dX11_readExpression_43 rfl ?_
      refine AW.iconst 1 dX11_readExpression_44 (by decide) ?_
      obtain ⟨I21, hx22, h⟩ := g_bindE h
      refine AW.callV (b := 101) (As := [.int 1]) hG.2.2 (vX11_228 hG) (hm.1 0 _ rfl) (g_X11_wrong hK (d := 0) (Nat.le_refl _) hm hx22) (by omega) dX11_readExpression_45 rfl rfl (Nat.le_of_ble_eq_true rfl) (fun v w9 hq9 h09 => by obtain ⟨rfl, rfl⟩ := hq9; exact ⟨h09, rfl⟩) (by decide) (by decide) (fun _ _ hx => hx) (fun v9 w9 hq9 => ?_)
      obtain ⟨rfl, rfl⟩ := hq9
      show AW G _ d _ _ 48 [some (.ref 101), some (.int x1), some (.int w0)] [] (sh, I21, R, L, g) 0 0
      refine AW.goto 62 dX11_readExpression_48 (by decide) ?_
      refine AW.mask [2] [some (.ref 101), some (.int x1), none] rfl ?_
      exact H62 _ h
  refine AW.aload_n dX11_readExpression_0 rfl ?_
  refine AW.getI (fX11_207 hG).r rfl (hm.1 0 _ rfl) dX11_readExpression_1 ?_
  refine AW.if_eq 8 dX11_readExpression_4 (by decide) (fun hc4 => ?_) (fun hc4 => ?_)
  · replace h := g_pos hc4 h
    refine AW.aload_n dX11_readExpression_8 rfl ?_
    refine AW.getI (fX11_181 hG).r rfl (hm.1 0 _ rfl) dX11_readExpression_9 ?_
    refine AW.iconst 2 dX11_readExpression_12 (by decide) ?_
    refine AW.icmp_eq 33 dX11_readExpression_13 (by decide) (fun hc13 => ?_) (fun hc13 => ?_)
    · replace h := g_pos hc13 h
      refine AW.iconst 1 dX11_readExpression_33 (by decide) ?_
      refine AW.goto 38 dX11_readExpression_34 (by decide) ?_
      exact H38 _ _ h
    · replace h := g_neg hc13 h
      refine AW.aload_n dX11_readExpression_16 rfl ?_
      refine AW.getI (fX11_181 hG).r rfl (hm.1 0 _ rfl) dX11_readExpression_17 ?_
      refine AW.iconst 1 dX11_readExpression_20 (by decide) ?_
      refine AW.icmp_eq 33 dX11_readExpression_21 (by decide) (fun hc21 => ?_) (fun hc21 => ?_)
      · replace h := g_pos hc21 h
        refine AW.iconst 1 dX11_readExpression_33 (by decide) ?_
        refine AW.goto 38 dX11_readExpression_34 (by decide) ?_
        exact H38 _ _ h
      · replace h := g_neg hc21 h
        refine AW.aload_n dX11_readExpression_24 rfl ?_
        refine AW.bipush 40 dX11_readExpression_25 (by decide) ?_
        obtain ⟨t23, hx25, h⟩ := g_bindE h
        refine AW.callV (b := 101) (As := [.int 40]) hG.2.2 (vX11_225 hG) (hm.1 0 _ rfl) (g_X11_isMarked hK (d := 0) (Nat.le_refl _) hm hx25) (by omega) dX11_readExpression_27 rfl rfl (Nat.le_of_ble_eq_true rfl) (fun v w9 hq9 h09 => by obtain ⟨rfl, rfl⟩ := hq9; exact ⟨h09, rfl⟩) (by decide) (by decide) (fun _ _ hx => hx) (fun v9 w9 hq9 => ?_)
        obtain ⟨rfl, rfl⟩ := hq9
        show AW G _ d _ _ 30 [some (.ref 101), some (.int x1), none] [.int (kb t23)] (sh, I, R, L, g) 0 0
        refine AW.if_eq 37 dX11_readExpression_30 (by decide) (fun hc30 => ?_) (fun hc30 => ?_)
        · replace h := g_neg (g_kb0 hc30) h
          refine AW.iconst 0 dX11_readExpression_37 (by decide) ?_
          exact H38 _ _ h
        · replace h := g_pos (kb_1.mp hc30) h
          refine AW.iconst 1 dX11_readExpression_33 (by decide) ?_
          refine AW.goto 38 dX11_readExpression_34 (by decide) ?_
          exact H38 _ _ h
  · replace h := g_neg hc4 h
    exact AW.vret dX11_readExpression_7 rfl (by decide) (by decide) (by cases h; exact ⟨rfl, rfl⟩)
def c_X11_readExpression : Nat → g_I → Int32 → Option (g_I)
  | 0, _, _ => none
  | f + 1, I, x1 => b_X11_readExpression (c_X11_readExpression f) I x1
theorem gc_X11_readExpression {G : am_G} (hK : k_OK G) {sh : List (Nat ⊕ (Nat × Nat))} {R : Nat → Nat → Option Nat} {L : Nat → Nat → Int64} {g : Nat} (hm : k_Mod sh R) : ∀ (f : Nat) {d : Nat} (_ : 11 * f ≤ d) {I : g_I} {x1 : Int32} {r : g_I}, c_X11_readExpression f I x1 = some r → AM G mX11_readExpression d [.ref 101, .int x1] (sh, I, R, L, g) (fun v w => v = none ∧ w = (sh, r, R, L, g)) (fun _ _ => False) := by
  intro f
  induction f with
  | zero => intro d hd I x1 r h; rw [c_X11_readExpression] at h; cases h
  | succ f ih => intro d hd I x1 r h; rw [c_X11_readExpression] at h; exact g_X11_readExpression hK (dr := 11 * f) (by rw [Nat.mul_succ] at hd; omega) hm (fun h9 => ih (Nat.le_refl _) h9) h
theorem g2_X11_readExpression {G : am_G} (hK : k_OK G) {d : Nat} (hd : 88 ≤ d) {sh : List (Nat ⊕ (Nat × Nat))} {I : g_I} {R : Nat → Nat → Option Nat} {L : Nat → Nat → Int64} {g : Nat} (hm : k_Mod sh R) {x1 : Int32} {r : g_I} (h : c_X11_readExpression 8 I x1 = some r) : AM G mX11_readExpression d [.ref 101, .int x1] (sh, I, R, L, g) (fun v w => v = none ∧ w = (sh, r, R, L, g)) (fun _ _ => False) := gc_X11_readExpression hK hm 8 hd h
theorem dX11_readPerson_0 : decode cX11_readPerson 0 = .ok (.bipush 8, 2) := by decide +kernel
theorem dX11_readPerson_2 : decode cX11_readPerson 2 = .ok (.aload_n 0, 1) := by decide +kernel
theorem dX11_readPerson_3 : decode cX11_readPerson 3 = .ok (.getfield 38, 3) := by decide +kernel
theorem dX11_readPerson_6 : decode cX11_readPerson 6 = .ok (.bipush 6, 2) := by decide +kernel
theorem dX11_readPerson_8 : decode cX11_readPerson 8 = .ok (.iaload, 1) := by decide +kernel
theorem dX11_readPerson_9 : decode cX11_readPerson 9 = .ok (.iadd, 1) := by decide +kernel
theorem dX11_readPerson_10 : decode cX11_readPerson 10 = .ok (.istore_n 2, 1) := by decide +kernel
theorem dX11_readPerson_11 : decode cX11_readPerson 11 = .ok (.aload_n 0, 1) := by decide +kernel
theorem dX11_readPerson_12 : decode cX11_readPerson 12 = .ok (.getfield 38, 3) := by decide +kernel
theorem dX11_readPerson_15 : decode cX11_readPerson 15 = .ok (.bipush 6, 2) := by decide +kernel
theorem dX11_readPerson_17 : decode cX11_readPerson 17 = .ok (.iaload, 1) := by decide +kernel
theorem dX11_readPerson_18 : decode cX11_readPerson 18 = .ok (.bipush 8, 2) := by decide +kernel
theorem dX11_readPerson_20 : decode cX11_readPerson 20 = .ok (.if_icmp .ne 11, 3) := by decide +kernel
theorem dX11_readPerson_23 : decode cX11_readPerson 23 = .ok (.aload_n 0, 1) := by decide +kernel
theorem dX11_readPerson_24 : decode cX11_readPerson 24 = .ok (.iconst 2, 1) := by decide +kernel
theorem dX11_readPerson_25 : decode cX11_readPerson 25 = .ok (.invokevirtual 228, 3) := by decide +kernel
theorem dX11_readPerson_28 : decode cX11_readPerson 28 = .ok (.goto 36, 3) := by decide +kernel
theorem dX11_readPerson_31 : decode cX11_readPerson 31 = .ok (.iload_n 1, 1) := by decide +kernel
theorem dX11_readPerson_32 : decode cX11_readPerson 32 = .ok (.iconst 3, 1) := by decide +kernel
theorem dX11_readPerson_33 : decode cX11_readPerson 33 = .ok (.if_icmp .ne 31, 3) := by decide +kernel
theorem dX11_readPerson_36 : decode cX11_readPerson 36 = .ok (.aload_n 0, 1) := by decide +kernel
theorem dX11_readPerson_37 : decode cX11_readPerson 37 = .ok (.getfield 38, 3) := by decide +kernel
theorem dX11_readPerson_40 : decode cX11_readPerson 40 = .ok (.bipush 6, 2) := by decide +kernel
theorem dX11_readPerson_42 : decode cX11_readPerson 42 = .ok (.iaload, 1) := by decide +kernel
theorem dX11_readPerson_43 : decode cX11_readPerson 43 = .ok (.ifCond .eq 15, 3) := by decide +kernel
theorem dX11_readPerson_46 : decode cX11_readPerson 46 = .ok (.aload_n 0, 1) := by decide +kernel
theorem dX11_readPerson_47 : decode cX11_readPerson 47 = .ok (.getfield 42, 3) := by decide +kernel
theorem dX11_readPerson_50 : decode cX11_readPerson 50 = .ok (.iload_n 2, 1) := by decide +kernel
theorem dX11_readPerson_51 : decode cX11_readPerson 51 = .ok (.iconst 1, 1) := by decide +kernel
theorem dX11_readPerson_52 : decode cX11_readPerson 52 = .ok (.isub, 1) := by decide +kernel
theorem dX11_readPerson_53 : decode cX11_readPerson 53 = .ok (.iaload, 1) := by decide +kernel
theorem dX11_readPerson_54 : decode cX11_readPerson 54 = .ok (.iconst 3, 1) := by decide +kernel
theorem dX11_readPerson_55 : decode cX11_readPerson 55 = .ok (.if_icmp .ne 9, 3) := by decide +kernel
theorem dX11_readPerson_58 : decode cX11_readPerson 58 = .ok (.aload_n 0, 1) := by decide +kernel
theorem dX11_readPerson_59 : decode cX11_readPerson 59 = .ok (.bipush 6, 2) := by decide +kernel
theorem dX11_readPerson_61 : decode cX11_readPerson 61 = .ok (.invokevirtual 228, 3) := by decide +kernel
theorem dX11_readPerson_64 : decode cX11_readPerson 64 = .ok (.aload_n 0, 1) := by decide +kernel
theorem dX11_readPerson_65 : decode cX11_readPerson 65 = .ok (.getfield 207, 3) := by decide +kernel
theorem dX11_readPerson_68 : decode cX11_readPerson 68 = .ok (.ifCond .eq 4, 3) := by decide +kernel
theorem dX11_readPerson_71 : decode cX11_readPerson 71 = .ok (.return_, 1) := by decide +kernel
theorem dX11_readPerson_72 : decode cX11_readPerson 72 = .ok (.aload_n 0, 1) := by decide +kernel
theorem dX11_readPerson_73 : decode cX11_readPerson 73 = .ok (.invokevirtual 232, 3) := by decide +kernel
theorem dX11_readPerson_76 : decode cX11_readPerson 76 = .ok (.aload_n 0, 1) := by decide +kernel
theorem dX11_readPerson_77 : decode cX11_readPerson 77 = .ok (.getfield 42, 3) := by decide +kernel
theorem dX11_readPerson_80 : decode cX11_readPerson 80 = .ok (.iload_n 2, 1) := by decide +kernel
theorem dX11_readPerson_81 : decode cX11_readPerson 81 = .ok (.iload_n 1, 1) := by decide +kernel
theorem dX11_readPerson_82 : decode cX11_readPerson 82 = .ok (.iastore, 1) := by decide +kernel
theorem dX11_readPerson_83 : decode cX11_readPerson 83 = .ok (.aload_n 0, 1) := by decide +kernel
theorem dX11_readPerson_84 : decode cX11_readPerson 84 = .ok (.getfield 44, 3) := by decide +kernel
theorem dX11_readPerson_87 : decode cX11_readPerson 87 = .ok (.iload_n 2, 1) := by decide +kernel
theorem dX11_readPerson_88 : decode cX11_readPerson 88 = .ok (.aload_n 0, 1) := by decide +kernel
theorem dX11_readPerson_89 : decode cX11_readPerson 89 = .ok (.iconst 0, 1) := by decide +kernel
theorem dX11_readPerson_90 : decode cX11_readPerson 90 = .ok (.bipush 9, 2) := by decide +kernel
theorem dX11_readPerson_92 : decode cX11_readPerson 92 = .ok (.invokevirtual 238, 3) := by decide +kernel
theorem dX11_readPerson_95 : decode cX11_readPerson 95 = .ok (.iastore, 1) := by decide +kernel
theorem dX11_readPerson_96 : decode cX11_readPerson 96 = .ok (.aload_n 0, 1) := by decide +kernel
theorem dX11_readPerson_97 : decode cX11_readPerson 97 = .ok (.getfield 47, 3) := by decide +kernel
theorem dX11_readPerson_100 : decode cX11_readPerson 100 = .ok (.iload_n 2, 1) := by decide +kernel
theorem dX11_readPerson_101 : decode cX11_readPerson 101 = .ok (.aload_n 0, 1) := by decide +kernel
theorem dX11_readPerson_102 : decode cX11_readPerson 102 = .ok (.iconst 0, 1) := by decide +kernel
theorem dX11_readPerson_103 : decode cX11_readPerson 103 = .ok (.bipush 9, 2) := by decide +kernel
theorem dX11_readPerson_105 : decode cX11_readPerson 105 = .ok (.invokevirtual 238, 3) := by decide +kernel
theorem dX11_readPerson_108 : decode cX11_readPerson 108 = .ok (.iastore, 1) := by decide +kernel
theorem dX11_readPerson_109 : decode cX11_readPerson 109 = .ok (.aload_n 0, 1) := by decide +kernel
theorem dX11_readPerson_110 : decode cX11_readPerson 110 = .ok (.getfield 38, 3) := by decide +kernel
theorem dX11_readPerson_113 : decode cX11_readPerson 113 = .ok (.bipush 6, 2) := by decide +kernel
theorem dX11_readPerson_115 : decode cX11_readPerson 115 = .ok (.dup2, 1) := by decide +kernel
theorem dX11_readPerson_116 : decode cX11_readPerson 116 = .ok (.iaload, 1) := by decide +kernel
theorem dX11_readPerson_117 : decode cX11_readPerson 117 = .ok (.iconst 1, 1) := by decide +kernel
theorem dX11_readPerson_118 : decode cX11_readPerson 118 = .ok (.iadd, 1) := by decide +kernel
theorem dX11_readPerson_119 : decode cX11_readPerson 119 = .ok (.iastore, 1) := by decide +kernel
theorem dX11_readPerson_120 : decode cX11_readPerson 120 = .ok (.return_, 1) := by decide +kernel
def b_X11_readPerson (I : g_I) (x1 : Int32) : Option (g_I) :=
  g_let (fun (z2 : Int32) (I64j : g_I) => if (I64j 101 24) = 0 then g_bind (b_X11_stepOn I64j) fun I2 => if g_in z2 16 = true then g_let (am_up I2 105 z2.toNatClampNeg x1) fun I4 => g_bind2 (b_X11_readNumber I4 0 9) fun a5 I6 => if g_in z2 16 = true then g_let (am_up I6 106 z2.toNatClampNeg a5) fun I8 => g_bind2 (b_X11_readNumber I8 0 9) fun a9 I10 => if g_in z2 16 = true then g_let (am_up I10 107 z2.toNatClampNeg a9) fun I12 => g_let (am_up I12 104 6 ((I12 104 6) + 1)) fun I13 => some I13 else none else none else none else some I64j) fun J64 => g_let ((8 : Int32) + (I 104 6)) fun a14 => if (I 104 6) = 8 then g_bind (b_X11_wrong I 2) fun I22 => J64 a14 I22 else if x1 = 3 then if (I 104 6) = 0 then g_bind (b_X11_wrong I 6) fun I16 => J64 a14 I16 else if g_in (a14 - 1) 16 = true then if (I 105 (a14 - 1).toNatClampNeg) = 3 then g_bind (b_X11_wrong I 6) fun I19 => J64 a14 I19 else J64 a14 I else none else J64 a14 I
set_option maxRecDepth 100000 in
set_option maxHeartbeats 4000000 in
theorem g_X11_readPerson {G : am_G} (hK : k_OK G) {d : Nat} (hd : 3 ≤ d) {sh : List (Nat ⊕ (Nat × Nat))} {I : g_I} {R : Nat → Nat → Option Nat} {L : Nat → Nat → Int64} {g : Nat} (hm : k_Mod sh R) {x1 : Int32} {r : g_I} (h : b_X11_readPerson I x1 = some r) : AM G mX11_readPerson d [.ref 101, .int x1] (sh, I, R, L, g) (fun v w => v = none ∧ w = (sh, r, R, L, g)) (fun _ _ => False) := by
  have hG := hK.1
  refine AM.of (n := 1) (by decide +kernel) (Nat.le_of_ble_eq_true rfl) ?_
  show AW G mX11_readPerson d (fun v w => v = none ∧ w = (sh, r, R, L, g)) (fun _ _ => False) 0 [some (.ref 101), some (.int x1), none] [] (sh, I, R, L, g) 0 0
  unfold b_X11_readPerson at h
  obtain ⟨J64, eJ64, h⟩ := g_letE h
  have H64 : ∀ (z2 : Int32) (I64j : g_I), J64 z2 I64j = some r → AW G mX11_readPerson d (fun v w => v = none ∧ w = (sh, r, R, L, g)) (fun _ _ => False) 64 [some (.ref 101), some (.int x1), some (.int z2)] [] (sh, I64j, R, L, g) 0 0 := by
    intro z2 I64j h
    rw [eJ64] at h
    refine AW.aload_n dX11_readPerson_64 rfl ?_
    refine AW.getI (fX11_207 hG).r rfl (hm.1 0 _ rfl) dX11_readPerson_65 ?_
    refine AW.if_eq 72 dX11_readPerson_68 (by decide) (fun hc68 => ?_) (fun hc68 => ?_)
    · replace h := g_pos hc68 h
      refine AW.aload_n dX11_readPerson_72 rfl ?_
      obtain ⟨I2, hx3, h⟩ := g_bindE h
      refine AW.callV (b := 101) (As := []) hG.2.2 (vX11_232 hG) (hm.1 0 _ rfl) (g_X11_stepOn hK (d := 1) (Nat.le_refl _) hm hx3) (by omega) dX11_readPerson_73 rfl rfl (Nat.le_of_ble_eq_true rfl) (fun v w9 hq9 h09 => by obtain ⟨rfl, rfl⟩ := hq9; exact ⟨h09, rfl⟩) (by decide) (by decide) (fun _ _ hx => hx) (fun v9 w9 hq9 => ?_)
      obtain ⟨rfl, rfl⟩ := hq9
      show AW G _ d _ _ 76 [some (.ref 101), some (.int x1), some (.int z2)] [] (sh, I2, R, L, g) 0 0
      refine AW.aload_n dX11_readPerson_76 rfl ?_
      refine AW.getR (c' := 105) (fX11_42 hG).r rfl (hm.1 0 _ rfl) (hm.2 (0, 4, 4) (by decide)) dX11_readPerson_77 ?_
      refine AW.iload_n dX11_readPerson_80 rfl ?_
      refine AW.iload_n dX11_readPerson_81 rfl ?_
      obtain ⟨hb, h⟩ := g_ifE h
      refine AW.iast (hm.1 4 _ rfl) (g_in_iff.mp hb) dX11_readPerson_82 ?_
      obtain ⟨I4, eI4, h⟩ := g_letE h
      refine AW.namIE eI4 ?_
      refine AW.aload_n dX11_readPerson_83 rfl ?_
      refine AW.getR (c' := 106) (fX11_44 hG).r rfl (hm.1 0 _ rfl) (hm.2 (0, 5, 5) (by decide)) dX11_readPerson_84 ?_
      refine AW.iload_n dX11_readPerson_87 rfl ?_
      refine AW.aload_n dX11_readPerson_88 rfl ?_
      refine AW.iconst 0 dX11_readPerson_89 (by decide) ?_
      refine AW.bipush 9 dX11_readPerson_90 (by decide) ?_
      obtain ⟨a5, I6, hx7, h⟩ := g_bind2E h
      refine AW.callV (b := 101) (As := [.int 0, .int 9]) hG.2.2 (vX11_238 hG) (hm.1 0 _ rfl) (g_X11_readNumber hK (d := 2) (Nat.le_refl _) hm hx7) (by omega) dX11_readPerson_92 rfl rfl (Nat.le_of_ble_eq_true rfl) (fun v w9 hq9 h09 => by obtain ⟨rfl, rfl⟩ := hq9; exact ⟨h09, rfl⟩) (by decide) (by decide) (fun _ _ hx => hx) (fun v9 w9 hq9 => ?_)
      obtain ⟨rfl, rfl⟩ := hq9
      show AW G _ d _ _ 95 [some (.ref 101), some (.int x1), some (.int z2)] [.int a5, .int z2, .ref 106] (sh, I6, R, L, g) 0 0
      obtain ⟨hb, h⟩ := g_ifE h
      refine AW.iast (hm.1 5 _ rfl) (g_in_iff.mp hb) dX11_readPerson_95 ?_
      obtain ⟨I8, eI8, h⟩ := g_letE h
      refine AW.namIE eI8 ?_
      refine AW.aload_n dX11_readPerson_96 rfl ?_
      refine AW.getR (c' := 107) (fX11_47 hG).r rfl (hm.1 0 _ rfl) (hm.2 (0, 6, 6) (by decide)) dX11_readPerson_97 ?_
      refine AW.iload_n dX11_readPerson_100 rfl ?_
      refine AW.aload_n dX11_readPerson_101 rfl ?_
      refine AW.iconst 0 dX11_readPerson_102 (by decide) ?_
      refine AW.bipush 9 dX11_readPerson_103 (by decide) ?_
      obtain ⟨a9, I10, hx11, h⟩ := g_bind2E h
      refine AW.callV (b := 101) (As := [.int 0, .int 9]) hG.2.2 (vX11_238 hG) (hm.1 0 _ rfl) (g_X11_readNumber hK (d := 2) (Nat.le_refl _) hm hx11) (by omega) dX11_readPerson_105 rfl rfl (Nat.le_of_ble_eq_true rfl) (fun v w9 hq9 h09 => by obtain ⟨rfl, rfl⟩ := hq9; exact ⟨h09, rfl⟩) (by decide) (by decide) (fun _ _ hx => hx) (fun v9 w9 hq9 => ?_)
      obtain ⟨rfl, rfl⟩ := hq9
      show AW G _ d _ _ 108 [some (.ref 101), some (.int x1), some (.int z2)] [.int a9, .int z2, .ref 107] (sh, I10, R, L, g) 0 0
      obtain ⟨hb, h⟩ := g_ifE h
      refine AW.iast (hm.1 6 _ rfl) (g_in_iff.mp hb) dX11_readPerson_108 ?_
      obtain ⟨I12, eI12, h⟩ := g_letE h
      refine AW.namIE eI12 ?_
      refine AW.aload_n dX11_readPerson_109 rfl ?_
      refine AW.getR (c' := 104) (fX11_38 hG).r rfl (hm.1 0 _ rfl) (hm.2 (0, 3, 3) (by decide)) dX11_readPerson_110 ?_
      refine AW.bipush 6 dX11_readPerson_113 (by decide) ?_
      refine AW.dup2 dX11_readPerson_115 rfl rfl ?_
      refine AW.iald (hm.1 3 _ rfl) (by unfold vp_in; decide) dX11_readPerson_116 ?_
      show AW G _ d _ _ 117 [some (.ref 101), some (.int x1), some (.int z2)] [.int (I12 104 6), .int 6, .ref 104] (sh, I12, R, L, g) 0 0
      refine AW.iconst 1 dX11_readPerson_117 (by decide) ?_
      refine AW.iadd dX11_readPerson_118 ?_
      refine AW.iast (hm.1 3 _ rfl) (by unfold vp_in; decide) dX11_readPerson_119 ?_
      show AW G _ d _ _ 120 [some (.ref 101), some (.int x1), some (.int z2)] [] (sh, am_up I12 104 6 ((I12 104 6) + 1), R, L, g) 0 0
      obtain ⟨I13, eI13, h⟩ := g_letE h
      refine AW.namIE eI13 ?_
      exact AW.vret dX11_readPerson_120 rfl (by decide) (by decide) (by cases h; exact ⟨rfl, rfl⟩)
    · replace h := g_neg hc68 h
      exact AW.vret dX11_readPerson_71 rfl (by decide) (by decide) (by cases h; exact ⟨rfl, rfl⟩)
  refine AW.bipush 8 dX11_readPerson_0 (by decide) ?_
  refine AW.aload_n dX11_readPerson_2 rfl ?_
  refine AW.getR (c' := 104) (fX11_38 hG).r rfl (hm.1 0 _ rfl) (hm.2 (0, 3, 3) (by decide)) dX11_readPerson_3 ?_
  refine AW.bipush 6 dX11_readPerson_6 (by decide) ?_
  refine AW.iald (hm.1 3 _ rfl) (by unfold vp_in; decide) dX11_readPerson_8 ?_
  show AW G _ d _ _ 9 [some (.ref 101), some (.int x1), none] [.int (I 104 6), .int 8] (sh, I, R, L, g) 0 0
  refine AW.iadd dX11_readPerson_9 ?_
  obtain ⟨a14, ea14, h⟩ := g_letE h
  refine AW.namE ea14 ?_
  refine AW.is_n [some (.ref 101), some (.int x1), some (.int a14)] dX11_readPerson_10 (by decide) rfl rfl ?_
  refine AW.aload_n dX11_readPerson_11 rfl ?_
  refine AW.getR (c' := 104) (fX11_38 hG).r rfl (hm.1 0 _ rfl) (hm.2 (0, 3, 3) (by decide)) dX11_readPerson_12 ?_
  refine AW.bipush 6 dX11_readPerson_15 (by decide) ?_
  refine AW.iald (hm.1 3 _ rfl) (by unfold vp_in; decide) dX11_readPerson_17 ?_
  show AW G _ d _ _ 18 [some (.ref 101), some (.int x1), some (.int a14)] [.int (I 104 6)] (sh, I, R, L, g) 0 0
  refine AW.bipush 8 dX11_readPerson_18 (by decide) ?_
  refine AW.icmp_ne 31 dX11_readPerson_20 (by decide) (fun hc20 => ?_) (fun hc20 => ?_)
  · replace h := g_neg hc20 h
    refine AW.iload_n dX11_readPerson_31 rfl ?_
    refine AW.iconst 3 dX11_readPerson_32 (by decide) ?_
    refine AW.icmp_ne 64 dX11_readPerson_33 (by decide) (fun hc33 => ?_) (fun hc33 => ?_)
    · replace h := g_neg hc33 h
      exact H64 _ _ h
    · replace h := g_pos hc33 h
      refine AW.aload_n dX11_readPerson_36 rfl ?_
      refine AW.getR (c' := 104) (fX11_38 hG).r rfl (hm.1 0 _ rfl) (hm.2 (0, 3, 3) (by decide)) dX11_readPerson_37 ?_
      refine AW.bipush 6 dX11_readPerson_40 (by decide) ?_
      refine AW.iald (hm.1 3 _ rfl) (by unfold vp_in; decide) dX11_readPerson_42 ?_
      show AW G _ d _ _ 43 [some (.ref 101), some (.int x1), some (.int a14)] [.int (I 104 6)] (sh, I, R, L, g) 0 0
      refine AW.if_eq 58 dX11_readPerson_43 (by decide) (fun hc43 => ?_) (fun hc43 => ?_)
      · replace h := g_pos hc43 h
        refine AW.aload_n dX11_readPerson_58 rfl ?_
        refine AW.bipush 6 dX11_readPerson_59 (by decide) ?_
        obtain ⟨I16, hx17, h⟩ := g_bindE h
        refine AW.callV (b := 101) (As := [.int 6]) hG.2.2 (vX11_228 hG) (hm.1 0 _ rfl) (g_X11_wrong hK (d := 0) (Nat.le_refl _) hm hx17) (by omega) dX11_readPerson_61 rfl rfl (Nat.le_of_ble_eq_true rfl) (fun v w9 hq9 h09 => by obtain ⟨rfl, rfl⟩ := hq9; exact ⟨h09, rfl⟩) (by decide) (by decide) (fun _ _ hx => hx) (fun v9 w9 hq9 => ?_)
        obtain ⟨rfl, rfl⟩ := hq9
        show AW G _ d _ _ 64 [some (.ref 101), some (.int x1), some (.int a14)] [] (sh, I16, R, L, g) 0 0
        exact H64 _ _ h
      · replace h := g_neg hc43 h
        refine AW.aload_n dX11_readPerson_46 rfl ?_
        refine AW.getR (c' := 105) (fX11_42 hG).r rfl (hm.1 0 _ rfl) (hm.2 (0, 4, 4) (by decide)) dX11_readPerson_47 ?_
        refine AW.iload_n dX11_readPerson_50 rfl ?_
        refine AW.iconst 1 dX11_readPerson_51 (by decide) ?_
        refine AW.isub dX11_readPerson_52 ?_
        obtain ⟨hb, h⟩ := g_ifE h
        refine AW.iald (hm.1 4 _ rfl) (g_in_iff.mp hb) dX11_readPerson_53 ?_
        refine AW.iconst 3 dX11_readPerson_54 (by decide) ?_
        refine AW.icmp_ne 64 dX11_readPerson_55 (by decide) (fun hc55 => ?_) (fun hc55 => ?_)
        · replace h := g_neg hc55 h
          exact H64 _ _ h
        · replace h := g_pos hc55 h
          refine AW.aload_n dX11_readPerson_58 rfl ?_
          refine AW.bipush 6 dX11_readPerson_59 (by decide) ?_
          obtain ⟨I19, hx20, h⟩ := g_bindE h
          refine AW.callV (b := 101) (As := [.int 6]) hG.2.2 (vX11_228 hG) (hm.1 0 _ rfl) (g_X11_wrong hK (d := 0) (Nat.le_refl _) hm hx20) (by omega) dX11_readPerson_61 rfl rfl (Nat.le_of_ble_eq_true rfl) (fun v w9 hq9 h09 => by obtain ⟨rfl, rfl⟩ := hq9; exact ⟨h09, rfl⟩) (by decide) (by decide) (fun _ _ hx => hx) (fun v9 w9 hq9 => ?_)
          obtain ⟨rfl, rfl⟩ := hq9
          show AW G _ d _ _ 64 [some (.ref 101), some (.int x1), some (.int a14)] [] (sh, I19, R, L, g) 0 0
          exact H64 _ _ h
  · replace h := g_pos hc20 h
    refine AW.aload_n dX11_readPerson_23 rfl ?_
    refine AW.iconst 2 dX11_readPerson_24 (by decide) ?_
    obtain ⟨I22, hx23, h⟩ := g_bindE h
    refine AW.callV (b := 101) (As := [.int 2]) hG.2.2 (vX11_228 hG) (hm.1 0 _ rfl) (g_X11_wrong hK (d := 0) (Nat.le_refl _) hm hx23) (by omega) dX11_readPerson_25 rfl rfl (Nat.le_of_ble_eq_true rfl) (fun v w9 hq9 h09 => by obtain ⟨rfl, rfl⟩ := hq9; exact ⟨h09, rfl⟩) (by decide) (by decide) (fun _ _ hx => hx) (fun v9 w9 hq9 => ?_)
    obtain ⟨rfl, rfl⟩ := hq9
    show AW G _ d _ _ 28 [some (.ref 101), some (.int x1), some (.int a14)] [] (sh, I22, R, L, g) 0 0
    refine AW.goto 64 dX11_readPerson_28 (by decide) ?_
    exact H64 _ _ h
theorem dX11_readLoaf_0 : decode cX11_readLoaf 0 = .ok (.aload_n 0, 1) := by decide +kernel
theorem dX11_readLoaf_1 : decode cX11_readLoaf 1 = .ok (.getfield 38, 3) := by decide +kernel
theorem dX11_readLoaf_4 : decode cX11_readLoaf 4 = .ok (.bipush 7, 2) := by decide +kernel
theorem dX11_readLoaf_6 : decode cX11_readLoaf 6 = .ok (.iaload, 1) := by decide +kernel
theorem dX11_readLoaf_7 : decode cX11_readLoaf 7 = .ok (.bipush 6, 2) := by decide +kernel
theorem dX11_readLoaf_9 : decode cX11_readLoaf 9 = .ok (.if_icmp .ne 8, 3) := by decide +kernel
theorem dX11_readLoaf_12 : decode cX11_readLoaf 12 = .ok (.aload_n 0, 1) := by decide +kernel
theorem dX11_readLoaf_13 : decode cX11_readLoaf 13 = .ok (.iconst 2, 1) := by decide +kernel
theorem dX11_readLoaf_14 : decode cX11_readLoaf 14 = .ok (.invokevirtual 228, 3) := by decide +kernel
theorem dX11_readLoaf_17 : decode cX11_readLoaf 17 = .ok (.aload_n 0, 1) := by decide +kernel
theorem dX11_readLoaf_18 : decode cX11_readLoaf 18 = .ok (.getfield 207, 3) := by decide +kernel
theorem dX11_readLoaf_21 : decode cX11_readLoaf 21 = .ok (.ifCond .eq 4, 3) := by decide +kernel
theorem dX11_readLoaf_24 : decode cX11_readLoaf 24 = .ok (.return_, 1) := by decide +kernel
theorem dX11_readLoaf_25 : decode cX11_readLoaf 25 = .ok (.aload_n 0, 1) := by decide +kernel
theorem dX11_readLoaf_26 : decode cX11_readLoaf 26 = .ok (.invokevirtual 232, 3) := by decide +kernel
theorem dX11_readLoaf_29 : decode cX11_readLoaf 29 = .ok (.bipush 6, 2) := by decide +kernel
theorem dX11_readLoaf_31 : decode cX11_readLoaf 31 = .ok (.aload_n 0, 1) := by decide +kernel
theorem dX11_readLoaf_32 : decode cX11_readLoaf 32 = .ok (.getfield 38, 3) := by decide +kernel
theorem dX11_readLoaf_35 : decode cX11_readLoaf 35 = .ok (.bipush 7, 2) := by decide +kernel
theorem dX11_readLoaf_37 : decode cX11_readLoaf 37 = .ok (.iaload, 1) := by decide +kernel
theorem dX11_readLoaf_38 : decode cX11_readLoaf 38 = .ok (.iadd, 1) := by decide +kernel
theorem dX11_readLoaf_39 : decode cX11_readLoaf 39 = .ok (.istore_n 1, 1) := by decide +kernel
theorem dX11_readLoaf_40 : decode cX11_readLoaf 40 = .ok (.aload_n 0, 1) := by decide +kernel
theorem dX11_readLoaf_41 : decode cX11_readLoaf 41 = .ok (.getfield 49, 3) := by decide +kernel
theorem dX11_readLoaf_44 : decode cX11_readLoaf 44 = .ok (.iload_n 1, 1) := by decide +kernel
theorem dX11_readLoaf_45 : decode cX11_readLoaf 45 = .ok (.aload_n 0, 1) := by decide +kernel
theorem dX11_readLoaf_46 : decode cX11_readLoaf 46 = .ok (.iconst 0, 1) := by decide +kernel
theorem dX11_readLoaf_47 : decode cX11_readLoaf 47 = .ok (.bipush 9, 2) := by decide +kernel
theorem dX11_readLoaf_49 : decode cX11_readLoaf 49 = .ok (.invokevirtual 238, 3) := by decide +kernel
theorem dX11_readLoaf_52 : decode cX11_readLoaf 52 = .ok (.iastore, 1) := by decide +kernel
theorem dX11_readLoaf_53 : decode cX11_readLoaf 53 = .ok (.aload_n 0, 1) := by decide +kernel
theorem dX11_readLoaf_54 : decode cX11_readLoaf 54 = .ok (.getfield 52, 3) := by decide +kernel
theorem dX11_readLoaf_57 : decode cX11_readLoaf 57 = .ok (.iload_n 1, 1) := by decide +kernel
theorem dX11_readLoaf_58 : decode cX11_readLoaf 58 = .ok (.aload_n 0, 1) := by decide +kernel
theorem dX11_readLoaf_59 : decode cX11_readLoaf 59 = .ok (.iconst 1, 1) := by decide +kernel
theorem dX11_readLoaf_60 : decode cX11_readLoaf 60 = .ok (.sipush 999, 3) := by decide +kernel
theorem dX11_readLoaf_63 : decode cX11_readLoaf 63 = .ok (.invokevirtual 238, 3) := by decide +kernel
theorem dX11_readLoaf_66 : decode cX11_readLoaf 66 = .ok (.iastore, 1) := by decide +kernel
theorem dX11_readLoaf_67 : decode cX11_readLoaf 67 = .ok (.aload_n 0, 1) := by decide +kernel
theorem dX11_readLoaf_68 : decode cX11_readLoaf 68 = .ok (.getfield 55, 3) := by decide +kernel
theorem dX11_readLoaf_71 : decode cX11_readLoaf 71 = .ok (.iload_n 1, 1) := by decide +kernel
theorem dX11_readLoaf_72 : decode cX11_readLoaf 72 = .ok (.aload_n 0, 1) := by decide +kernel
theorem dX11_readLoaf_73 : decode cX11_readLoaf 73 = .ok (.iconst 0, 1) := by decide +kernel
theorem dX11_readLoaf_74 : decode cX11_readLoaf 74 = .ok (.bipush 23, 2) := by decide +kernel
theorem dX11_readLoaf_76 : decode cX11_readLoaf 76 = .ok (.invokevirtual 238, 3) := by decide +kernel
theorem dX11_readLoaf_79 : decode cX11_readLoaf 79 = .ok (.iastore, 1) := by decide +kernel
theorem dX11_readLoaf_80 : decode cX11_readLoaf 80 = .ok (.aload_n 0, 1) := by decide +kernel
theorem dX11_readLoaf_81 : decode cX11_readLoaf 81 = .ok (.getfield 58, 3) := by decide +kernel
theorem dX11_readLoaf_84 : decode cX11_readLoaf 84 = .ok (.iload_n 1, 1) := by decide +kernel
theorem dX11_readLoaf_85 : decode cX11_readLoaf 85 = .ok (.aload_n 0, 1) := by decide +kernel
theorem dX11_readLoaf_86 : decode cX11_readLoaf 86 = .ok (.iconst 1, 1) := by decide +kernel
theorem dX11_readLoaf_87 : decode cX11_readLoaf 87 = .ok (.bipush 23, 2) := by decide +kernel
theorem dX11_readLoaf_89 : decode cX11_readLoaf 89 = .ok (.invokevirtual 238, 3) := by decide +kernel
theorem dX11_readLoaf_92 : decode cX11_readLoaf 92 = .ok (.iastore, 1) := by decide +kernel
theorem dX11_readLoaf_93 : decode cX11_readLoaf 93 = .ok (.iconst 0, 1) := by decide +kernel
theorem dX11_readLoaf_94 : decode cX11_readLoaf 94 = .ok (.istore_n 2, 1) := by decide +kernel
theorem dX11_readLoaf_95 : decode cX11_readLoaf 95 = .ok (.iconst 0, 1) := by decide +kernel
theorem dX11_readLoaf_96 : decode cX11_readLoaf 96 = .ok (.istore_n 3, 1) := by decide +kernel
theorem dX11_readLoaf_97 : decode cX11_readLoaf 97 = .ok (.aload_n 0, 1) := by decide +kernel
theorem dX11_readLoaf_98 : decode cX11_readLoaf 98 = .ok (.getfield 207, 3) := by decide +kernel
theorem dX11_readLoaf_101 : decode cX11_readLoaf 101 = .ok (.ifCond .ne 16, 3) := by decide +kernel
theorem dX11_readLoaf_104 : decode cX11_readLoaf 104 = .ok (.aload_n 0, 1) := by decide +kernel
theorem dX11_readLoaf_105 : decode cX11_readLoaf 105 = .ok (.getfield 181, 3) := by decide +kernel
theorem dX11_readLoaf_108 : decode cX11_readLoaf 108 = .ok (.iconst 2, 1) := by decide +kernel
theorem dX11_readLoaf_109 : decode cX11_readLoaf 109 = .ok (.if_icmp .eq 8, 3) := by decide +kernel
theorem dX11_readLoaf_112 : decode cX11_readLoaf 112 = .ok (.aload_n 0, 1) := by decide +kernel
theorem dX11_readLoaf_113 : decode cX11_readLoaf 113 = .ok (.iconst 1, 1) := by decide +kernel
theorem dX11_readLoaf_114 : decode cX11_readLoaf 114 = .ok (.invokevirtual 228, 3) := by decide +kernel
theorem dX11_readLoaf_117 : decode cX11_readLoaf 117 = .ok (.aload_n 0, 1) := by decide +kernel
theorem dX11_readLoaf_118 : decode cX11_readLoaf 118 = .ok (.getfield 207, 3) := by decide +kernel
theorem dX11_readLoaf_121 : decode cX11_readLoaf 121 = .ok (.ifCond .ne 89, 3) := by decide +kernel
theorem dX11_readLoaf_124 : decode cX11_readLoaf 124 = .ok (.aload_n 0, 1) := by decide +kernel
theorem dX11_readLoaf_125 : decode cX11_readLoaf 125 = .ok (.getfield 181, 3) := by decide +kernel
theorem dX11_readLoaf_128 : decode cX11_readLoaf 128 = .ok (.iconst 2, 1) := by decide +kernel
theorem dX11_readLoaf_129 : decode cX11_readLoaf 129 = .ok (.if_icmp .ne 81, 3) := by decide +kernel
theorem dX11_readLoaf_132 : decode cX11_readLoaf 132 = .ok (.iload_n 2, 1) := by decide +kernel
theorem dX11_readLoaf_133 : decode cX11_readLoaf 133 = .ok (.bipush 6, 2) := by decide +kernel
theorem dX11_readLoaf_135 : decode cX11_readLoaf 135 = .ok (.if_icmp .ne 8, 3) := by decide +kernel
theorem dX11_readLoaf_138 : decode cX11_readLoaf 138 = .ok (.aload_n 0, 1) := by decide +kernel
theorem dX11_readLoaf_139 : decode cX11_readLoaf 139 = .ok (.iconst 2, 1) := by decide +kernel
theorem dX11_readLoaf_140 : decode cX11_readLoaf 140 = .ok (.invokevirtual 228, 3) := by decide +kernel
theorem dX11_readLoaf_143 : decode cX11_readLoaf 143 = .ok (.aload_n 0, 1) := by decide +kernel
theorem dX11_readLoaf_144 : decode cX11_readLoaf 144 = .ok (.invokevirtual 275, 3) := by decide +kernel
theorem dX11_readLoaf_147 : decode cX11_readLoaf 147 = .ok (.istore 4, 2) := by decide +kernel
theorem dX11_readLoaf_149 : decode cX11_readLoaf 149 = .ok (.aload_n 0, 1) := by decide +kernel
theorem dX11_readLoaf_150 : decode cX11_readLoaf 150 = .ok (.getfield 207, 3) := by decide +kernel
theorem dX11_readLoaf_153 : decode cX11_readLoaf 153 = .ok (.ifCond .ne 17, 3) := by decide +kernel
theorem dX11_readLoaf_156 : decode cX11_readLoaf 156 = .ok (.iload_n 3, 1) := by decide +kernel
theorem dX11_readLoaf_157 : decode cX11_readLoaf 157 = .ok (.iload 4, 2) := by decide +kernel
theorem dX11_readLoaf_159 : decode cX11_readLoaf 159 = .ok (.invokestatic 278, 3) := by decide +kernel
theorem dX11_readLoaf_162 : decode cX11_readLoaf 162 = .ok (.ifCond .eq 8, 3) := by decide +kernel
theorem dX11_readLoaf_165 : decode cX11_readLoaf 165 = .ok (.aload_n 0, 1) := by decide +kernel
theorem dX11_readLoaf_166 : decode cX11_readLoaf 166 = .ok (.iconst 4, 1) := by decide +kernel
theorem dX11_readLoaf_167 : decode cX11_readLoaf 167 = .ok (.invokevirtual 228, 3) := by decide +kernel
theorem dX11_readLoaf_170 : decode cX11_readLoaf 170 = .ok (.aload_n 0, 1) := by decide +kernel
theorem dX11_readLoaf_171 : decode cX11_readLoaf 171 = .ok (.getfield 207, 3) := by decide +kernel
theorem dX11_readLoaf_174 : decode cX11_readLoaf 174 = .ok (.ifCond .eq 6, 3) := by decide +kernel
theorem dX11_readLoaf_177 : decode cX11_readLoaf 177 = .ok (.goto (-60), 3) := by decide +kernel
theorem dX11_readLoaf_180 : decode cX11_readLoaf 180 = .ok (.iload_n 3, 1) := by decide +kernel
theorem dX11_readLoaf_181 : decode cX11_readLoaf 181 = .ok (.iconst 1, 1) := by decide +kernel
theorem dX11_readLoaf_182 : decode cX11_readLoaf 182 = .ok (.iload 4, 2) := by decide +kernel
theorem dX11_readLoaf_184 : decode cX11_readLoaf 184 = .ok (.ishl, 1) := by decide +kernel
theorem dX11_readLoaf_185 : decode cX11_readLoaf 185 = .ok (.ior, 1) := by decide +kernel
theorem dX11_readLoaf_186 : decode cX11_readLoaf 186 = .ok (.istore_n 3, 1) := by decide +kernel
theorem dX11_readLoaf_187 : decode cX11_readLoaf 187 = .ok (.aload_n 0, 1) := by decide +kernel
theorem dX11_readLoaf_188 : decode cX11_readLoaf 188 = .ok (.getfield 64, 3) := by decide +kernel
theorem dX11_readLoaf_191 : decode cX11_readLoaf 191 = .ok (.bipush 6, 2) := by decide +kernel
theorem dX11_readLoaf_193 : decode cX11_readLoaf 193 = .ok (.iload_n 1, 1) := by decide +kernel
theorem dX11_readLoaf_194 : decode cX11_readLoaf 194 = .ok (.imul, 1) := by decide +kernel
theorem dX11_readLoaf_195 : decode cX11_readLoaf 195 = .ok (.iload_n 2, 1) := by decide +kernel
theorem dX11_readLoaf_196 : decode cX11_readLoaf 196 = .ok (.iadd, 1) := by decide +kernel
theorem dX11_readLoaf_197 : decode cX11_readLoaf 197 = .ok (.iload 4, 2) := by decide +kernel
theorem dX11_readLoaf_199 : decode cX11_readLoaf 199 = .ok (.iastore, 1) := by decide +kernel
theorem dX11_readLoaf_200 : decode cX11_readLoaf 200 = .ok (.iinc 2 1, 3) := by decide +kernel
theorem dX11_readLoaf_203 : decode cX11_readLoaf 203 = .ok (.aload_n 0, 1) := by decide +kernel
theorem dX11_readLoaf_204 : decode cX11_readLoaf 204 = .ok (.invokevirtual 232, 3) := by decide +kernel
theorem dX11_readLoaf_207 : decode cX11_readLoaf 207 = .ok (.goto (-90), 3) := by decide +kernel
theorem dX11_readLoaf_210 : decode cX11_readLoaf 210 = .ok (.aload_n 0, 1) := by decide +kernel
theorem dX11_readLoaf_211 : decode cX11_readLoaf 211 = .ok (.getfield 61, 3) := by decide +kernel
theorem dX11_readLoaf_214 : decode cX11_readLoaf 214 = .ok (.iload_n 1, 1) := by decide +kernel
theorem dX11_readLoaf_215 : decode cX11_readLoaf 215 = .ok (.iload_n 2, 1) := by decide +kernel
theorem dX11_readLoaf_216 : decode cX11_readLoaf 216 = .ok (.iastore, 1) := by decide +kernel
theorem dX11_readLoaf_217 : decode cX11_readLoaf 217 = .ok (.aload_n 0, 1) := by decide +kernel
theorem dX11_readLoaf_218 : decode cX11_readLoaf 218 = .ok (.getfield 38, 3) := by decide +kernel
theorem dX11_readLoaf_221 : decode cX11_readLoaf 221 = .ok (.bipush 7, 2) := by decide +kernel
theorem dX11_readLoaf_223 : decode cX11_readLoaf 223 = .ok (.dup2, 1) := by decide +kernel
theorem dX11_readLoaf_224 : decode cX11_readLoaf 224 = .ok (.iaload, 1) := by decide +kernel
theorem dX11_readLoaf_225 : decode cX11_readLoaf 225 = .ok (.iconst 1, 1) := by decide +kernel
theorem dX11_readLoaf_226 : decode cX11_readLoaf 226 = .ok (.iadd, 1) := by decide +kernel
theorem dX11_readLoaf_227 : decode cX11_readLoaf 227 = .ok (.iastore, 1) := by decide +kernel
theorem dX11_readLoaf_228 : decode cX11_readLoaf 228 = .ok (.return_, 1) := by decide +kernel
def b_X11_readLoaf_L117 (y1 : Int32) (K : Int32 → g_I → Option (g_I)) : Nat → Int32 → Int32 → g_I → Option (g_I)
  | 0, _, _, _ => none
  | f + 1, x2, x3, I => g_let (fun (z2 : Int32) (z3 : Int32) (z4 : Int32) (I170j : g_I) => if (I170j 101 24) = 0 then g_let (z3 ||| ((1 : Int32) <<< (z4 &&& 31))) fun a1 => if g_in (((6 : Int32) * y1) + z2) 72 = true then g_let (am_up I170j 113 (((6 : Int32) * y1) + z2).toNatClampNeg z4) fun I2 => g_bind (b_X11_stepOn I2) fun I4 => b_X11_readLoaf_L117 y1 K f (z2 + 1) a1 I4 else none else b_X11_readLoaf_L117 y1 K f z2 z3 I170j) fun J170 => g_let (fun (z2 : Int32) (z3 : Int32) (I143j : g_I) => g_bind2 (b_X11_personNow I143j) fun a6 I7 => if (I7 101 24) = 0 then if b_X11_isOf z3 a6 = true then g_bind (b_X11_wrong I7 4) fun I10 => J170 z2 z3 a6 I10 else J170 z2 z3 a6 I7 else J170 z2 z3 a6 I7) fun J143 => if (I 101 24) = 0 then if (I 101 20) = 2 then if x2 = 6 then g_bind (b_X11_wrong I 2) fun I13 => J143 x2 x3 I13 else J143 x2 x3 I else K x2 I else K x2 I
def b_X11_readLoaf (I : g_I) : Option (g_I) :=
  g_let (fun (z1 : Int32) (z2 : Int32) (z3 : Int32) (I117j : g_I) => b_X11_readLoaf_L117 z1 (fun (a15 : Int32) (I16 : g_I) => if g_in z1 12 = true then g_let (am_up I16 112 z1.toNatClampNeg a15) fun I17 => g_let (am_up I17 104 7 ((I17 104 7) + 1)) fun I18 => some I18 else none) fu z2 z3 I117j) fun J117 => g_let (fun (I17j : g_I) => if (I17j 101 24) = 0 then g_bind (b_X11_stepOn I17j) fun I20 => g_let ((6 : Int32) + (I20 104 7)) fun a22 => g_bind2 (b_X11_readNumber I20 0 9) fun a23 I24 => if g_in a22 12 = true then g_let (am_up I24 108 a22.toNatClampNeg a23) fun I26 => g_bind2 (b_X11_readNumber I26 1 999) fun a27 I28 => if g_in a22 12 = true then g_let (am_up I28 109 a22.toNatClampNeg a27) fun I30 => g_bind2 (b_X11_readNumber I30 0 23) fun a31 I32 => if g_in a22 12 = true then g_let (am_up I32 110 a22.toNatClampNeg a31) fun I34 => g_bind2 (b_X11_readNumber I34 1 23) fun a35 I36 => if g_in a22 12 = true then g_let (am_up I36 111 a22.toNatClampNeg a35) fun I38 => if (I38 101 24) = 0 then if (I38 101 20) = 2 then J117 a22 0 0 I38 else g_bind (b_X11_wrong I38 1) fun I40 => J117 a22 0 0 I40 else J117 a22 0 0 I38 else none else none else none else none else some I17j) fun J17 => if (I 104 7) = 6 then g_bind (b_X11_wrong I 2) fun I43 => J17 I43 else J17 I
set_option maxRecDepth 100000 in
set_option maxHeartbeats 4000000 in
theorem gL_X11_readLoaf_117 {G : am_G} (hK : k_OK G) {d : Nat} (hd : 3 ≤ d) {sh : List (Nat ⊕ (Nat × Nat))} {I : g_I} {R : Nat → Nat → Option Nat} {L : Nat → Nat → Int64} {g : Nat} (hm : k_Mod sh R) {y1 : Int32} {K : Int32 → g_I → Option (g_I)} {x2 : Int32} {x3 : Int32} {f : Nat} {r : g_I} (h : b_X11_readLoaf_L117 y1 K f x2 x3 I = some r) (hk : ∀ (u2 : Int32) (J : g_I), K u2 J = some r → AW G mX11_readLoaf d (fun v w => v = none ∧ w = (sh, r, R, L, g)) (fun _ _ => False) 210 [some (.ref 101), some (.int y1), some (.int u2), none, none] [] (sh, J, R, L, g) 0 0) : AW G mX11_readLoaf d (fun v w => v = none ∧ w = (sh, r, R, L, g)) (fun _ _ => False) 117 [some (.ref 101), some (.int y1), some (.int x2), some (.int x3), none] [] (sh, I, R, L, g) 0 0 := by
  have hG := hK.1
  induction f generalizing x2 x3 I with
  | zero => rw [b_X11_readLoaf_L117] at h; cases h
  | succ f ih =>
    rw [b_X11_readLoaf_L117] at h
    obtain ⟨J170, eJ170, h⟩ := g_letE h
    have H170 : ∀ (z2 : Int32) (z3 : Int32) (z4 : Int32) (I170j : g_I), J170 z2 z3 z4 I170j = some r → AW G mX11_readLoaf d (fun v w => v = none ∧ w = (sh, r, R, L, g)) (fun _ _ => False) 170 [some (.ref 101), some (.int y1), some (.int z2), some (.int z3), some (.int z4)] [] (sh, I170j, R, L, g) 0 0 := by
      intro z2 z3 z4 I170j h
      rw [eJ170] at h
      refine AW.aload_n dX11_readLoaf_170 rfl ?_
      refine AW.getI (fX11_207 hG).r rfl (hm.1 0 _ rfl) dX11_readLoaf_171 ?_
      refine AW.if_eq 180 dX11_readLoaf_174 (by decide) (fun hc174 => ?_) (fun hc174 => ?_)
      · replace h := g_pos hc174 h
        refine AW.iload_n dX11_readLoaf_180 rfl ?_
        refine AW.iconst 1 dX11_readLoaf_181 (by decide) ?_
        refine AW.iload dX11_readLoaf_182 rfl ?_
        refine AW.ishl dX11_readLoaf_184 ?_
        refine AW.ior dX11_readLoaf_185 ?_
        obtain ⟨a1, ea1, h⟩ := g_letE h
        refine AW.namE ea1 ?_
        refine AW.is_n [some (.ref 101), some (.int y1), some (.int z2), some (.int a1), some (.int z4)] dX11_readLoaf_186 (by decide) rfl rfl ?_
        refine AW.aload_n dX11_readLoaf_187 rfl ?_
        refine AW.getR (c' := 113) (fX11_64 hG).r rfl (hm.1 0 _ rfl) (hm.2 (0, 12, 12) (by decide)) dX11_readLoaf_188 ?_
        refine AW.bipush 6 dX11_readLoaf_191 (by decide) ?_
        refine AW.iload_n dX11_readLoaf_193 rfl ?_
        refine AW.imul dX11_readLoaf_194 ?_
        refine AW.iload_n dX11_readLoaf_195 rfl ?_
        refine AW.iadd dX11_readLoaf_196 ?_
        refine AW.iload dX11_readLoaf_197 rfl ?_
        obtain ⟨hb, h⟩ := g_ifE h
        refine AW.iast (hm.1 12 _ rfl) (g_in_iff.mp hb) dX11_readLoaf_199 ?_
        obtain ⟨I2, eI2, h⟩ := g_letE h
        refine AW.namIE eI2 ?_
        refine AW.incE 1 (by decide) [some (.ref 101), some (.int y1), some (.int (z2 + 1)), some (.int a1), some (.int z4)] dX11_readLoaf_200 rfl (by decide) rfl rfl ?_
        refine AW.aload_n dX11_readLoaf_203 rfl ?_
        obtain ⟨I4, hx5, h⟩ := g_bindE h
        refine AW.callV (b := 101) (As := []) hG.2.2 (vX11_232 hG) (hm.1 0 _ rfl) (g_X11_stepOn hK (d := 1) (Nat.le_refl _) hm hx5) (by omega) dX11_readLoaf_204 rfl rfl (Nat.le_of_ble_eq_true rfl) (fun v w9 hq9 h09 => by obtain ⟨rfl, rfl⟩ := hq9; exact ⟨h09, rfl⟩) (by decide) (by decide) (fun _ _ hx => hx) (fun v9 w9 hq9 => ?_)
        obtain ⟨rfl, rfl⟩ := hq9
        show AW G _ d _ _ 207 [some (.ref 101), some (.int y1), some (.int (z2 + 1)), some (.int a1), some (.int z4)] [] (sh, I4, R, L, g) 0 0
        refine AW.goto 117 dX11_readLoaf_207 (by decide) ?_
        refine AW.mask [4] [some (.ref 101), some (.int y1), some (.int (z2 + 1)), some (.int a1), none] rfl ?_
        exact ih h
      · replace h := g_neg hc174 h
        refine AW.goto 117 dX11_readLoaf_177 (by decide) ?_
        refine AW.mask [4] [some (.ref 101), some (.int y1), some (.int z2), some (.int z3), none] rfl ?_
        exact ih h
    obtain ⟨J143, eJ143, h⟩ := g_letE h
    have H143 : ∀ (z2 : Int32) (z3 : Int32) (I143j : g_I), J143 z2 z3 I143j = some r → AW G mX11_readLoaf d (fun v w => v = none ∧ w = (sh, r, R, L, g)) (fun _ _ => False) 143 [some (.ref 101), some (.int y1), some (.int z2), some (.int z3), none] [] (sh, I143j, R, L, g) 0 0 := by
      intro z2 z3 I143j h
      rw [eJ143] at h
      refine AW.aload_n dX11_readLoaf_143 rfl ?_
      obtain ⟨a6, I7, hx8, h⟩ := g_bind2E h
      refine AW.callV (b := 101) (As := []) hG.2.2 (vX11_275 hG) (hm.1 0 _ rfl) (g_X11_personNow hK (d := 2) (Nat.le_refl _) hm hx8) (by omega) dX11_readLoaf_144 rfl rfl (Nat.le_of_ble_eq_true rfl) (fun v w9 hq9 h09 => by obtain ⟨rfl, rfl⟩ := hq9; exact ⟨h09, rfl⟩) (by decide) (by decide) (fun _ _ hx => hx) (fun v9 w9 hq9 => ?_)
      obtain ⟨rfl, rfl⟩ := hq9
      show AW G _ d _ _ 147 [some (.ref 101), some (.int y1), some (.int z2), some (.int z3), none] [.int a6] (sh, I7, R, L, g) 0 0
      refine AW.is [some (.ref 101), some (.int y1), some (.int z2), some (.int z3), some (.int a6)] dX11_readLoaf_147 (by decide) rfl rfl ?_
      refine AW.aload_n dX11_readLoaf_149 rfl ?_
      refine AW.getI (fX11_207 hG).r rfl (hm.1 0 _ rfl) dX11_readLoaf_150 ?_
      refine AW.if_ne 170 dX11_readLoaf_153 (by decide) (fun hc153 => ?_) (fun hc153 => ?_)
      · replace h := g_neg hc153 h
        exact H170 _ _ _ _ h
      · replace h := g_pos hc153 h
        refine AW.iload_n dX11_readLoaf_156 rfl ?_
        refine AW.iload dX11_readLoaf_157 rfl ?_
        refine AW.callS (As := [.int z3, .int a6]) hG.2.2 (vX11_278 hG) (g_X11_isOf hK (d := 0) (Nat.le_refl _)) (by omega) dX11_readLoaf_159 rfl rfl (Nat.le_of_ble_eq_true rfl) (fun v w9 hq9 h09 => by obtain ⟨rfl, rfl⟩ := hq9; exact ⟨h09, rfl⟩) (by decide) (by decide) (fun _ _ hx => hx) (fun v9 w9 hq9 => ?_)
        obtain ⟨rfl, rfl⟩ := hq9
        show AW G _ d _ _ 162 [some (.ref 101), some (.int y1), some (.int z2), some (.int z3), some (.int a6)] [.int (kb (b_X11_isOf z3 a6))] (sh, I7, R, L, g) 0 0
        refine AW.if_eq 170 dX11_readLoaf_162 (by decide) (fun hc162 => ?_) (fun hc162 => ?_)
        · replace h := g_neg (g_kb0 hc162) h
          exact H170 _ _ _ _ h
        · replace h := g_pos (kb_1.mp hc162) h
          refine AW.aload_n dX11_readLoaf_165 rfl ?_
          refine AW.iconst 4 dX11_readLoaf_166 (by decide) ?_
          obtain ⟨I10, hx11, h⟩ := g_bindE h
          refine AW.callV (b := 101) (As := [.int 4]) hG.2.2 (vX11_228 hG) (hm.1 0 _ rfl) (g_X11_wrong hK (d := 0) (Nat.le_refl _) hm hx11) (by omega) dX11_readLoaf_167 rfl rfl (Nat.le_of_ble_eq_true rfl) (fun v w9 hq9 h09 => by obtain ⟨rfl, rfl⟩ := hq9; exact ⟨h09, rfl⟩) (by decide) (by decide) (fun _ _ hx => hx) (fun v9 w9 hq9 => ?_)
          obtain ⟨rfl, rfl⟩ := hq9
          show AW G _ d _ _ 170 [some (.ref 101), some (.int y1), some (.int z2), some (.int z3), some (.int a6)] [] (sh, I10, R, L, g) 0 0
          exact H170 _ _ _ _ h
    refine AW.aload_n dX11_readLoaf_117 rfl ?_
    refine AW.getI (fX11_207 hG).r rfl (hm.1 0 _ rfl) dX11_readLoaf_118 ?_
    refine AW.if_ne 210 dX11_readLoaf_121 (by decide) (fun hc121 => ?_) (fun hc121 => ?_)
    · replace h := g_neg hc121 h
      refine AW.mask [3] [some (.ref 101), some (.int y1), some (.int x2), none, none] rfl ?_
      exact hk _ _ h
    · replace h := g_pos hc121 h
      refine AW.aload_n dX11_readLoaf_124 rfl ?_
      refine AW.getI (fX11_181 hG).r rfl (hm.1 0 _ rfl) dX11_readLoaf_125 ?_
      refine AW.iconst 2 dX11_readLoaf_128 (by decide) ?_
      refine AW.icmp_ne 210 dX11_readLoaf_129 (by decide) (fun hc129 => ?_) (fun hc129 => ?_)
      · replace h := g_neg hc129 h
        refine AW.mask [3] [some (.ref 101), some (.int y1), some (.int x2), none, none] rfl ?_
        exact hk _ _ h
      · replace h := g_pos hc129 h
        refine AW.iload_n dX11_readLoaf_132 rfl ?_
        refine AW.bipush 6 dX11_readLoaf_133 (by decide) ?_
        refine AW.icmp_ne 143 dX11_readLoaf_135 (by decide) (fun hc135 => ?_) (fun hc135 => ?_)
        · replace h := g_neg hc135 h
          exact H143 _ _ _ h
        · replace h := g_pos hc135 h
          refine AW.aload_n dX11_readLoaf_138 rfl ?_
          refine AW.iconst 2 dX11_readLoaf_139 (by decide) ?_
          obtain ⟨I13, hx14, h⟩ := g_bindE h
          refine AW.callV (b := 101) (As := [.int 2]) hG.2.2 (vX11_228 hG) (hm.1 0 _ rfl) (g_X11_wrong hK (d := 0) (Nat.le_refl _) hm hx14) (by omega) dX11_readLoaf_140 rfl rfl (Nat.le_of_ble_eq_true rfl) (fun v w9 hq9 h09 => by obtain ⟨rfl, rfl⟩ := hq9; exact ⟨h09, rfl⟩) (by decide) (by decide) (fun _ _ hx => hx) (fun v9 w9 hq9 => ?_)
          obtain ⟨rfl, rfl⟩ := hq9
          show AW G _ d _ _ 143 [some (.ref 101), some (.int y1), some (.int x2), some (.int x3), none] [] (sh, I13, R, L, g) 0 0
          exact H143 _ _ _ h
set_option maxRecDepth 100000 in
set_option maxHeartbeats 4000000 in
theorem g_X11_readLoaf {G : am_G} (hK : k_OK G) {d : Nat} (hd : 3 ≤ d) {sh : List (Nat ⊕ (Nat × Nat))} {I : g_I} {R : Nat → Nat → Option Nat} {L : Nat → Nat → Int64} {g : Nat} (hm : k_Mod sh R) {r : g_I} (h : b_X11_readLoaf I = some r) : AM G mX11_readLoaf d [.ref 101] (sh, I, R, L, g) (fun v w => v = none ∧ w = (sh, r, R, L, g)) (fun _ _ => False) := by
  have hG := hK.1
  refine AM.of (n := 4) (by decide +kernel) (Nat.le_of_ble_eq_true rfl) ?_
  show AW G mX11_readLoaf d (fun v w => v = none ∧ w = (sh, r, R, L, g)) (fun _ _ => False) 0 [some (.ref 101), none, none, none, none] [] (sh, I, R, L, g) 0 0
  unfold b_X11_readLoaf at h
  obtain ⟨J117, eJ117, h⟩ := g_letE h
  have H117 : ∀ (z1 : Int32) (z2 : Int32) (z3 : Int32) (I117j : g_I), J117 z1 z2 z3 I117j = some r → AW G mX11_readLoaf d (fun v w => v = none ∧ w = (sh, r, R, L, g)) (fun _ _ => False) 117 [some (.ref 101), some (.int z1), some (.int z2), some (.int z3), none] [] (sh, I117j, R, L, g) 0 0 := by
    intro z1 z2 z3 I117j h
    rw [eJ117] at h
    refine gL_X11_readLoaf_117 hK hd hm h (fun a15 I16 h => ?_)
    refine AW.aload_n dX11_readLoaf_210 rfl ?_
    refine AW.getR (c' := 112) (fX11_61 hG).r rfl (hm.1 0 _ rfl) (hm.2 (0, 11, 11) (by decide)) dX11_readLoaf_211 ?_
    refine AW.iload_n dX11_readLoaf_214 rfl ?_
    refine AW.iload_n dX11_readLoaf_215 rfl ?_
    obtain ⟨hb, h⟩ := g_ifE h
    refine AW.iast (hm.1 11 _ rfl) (g_in_iff.mp hb) dX11_readLoaf_216 ?_
    obtain ⟨I17, eI17, h⟩ := g_letE h
    refine AW.namIE eI17 ?_
    refine AW.aload_n dX11_readLoaf_217 rfl ?_
    refine AW.getR (c' := 104) (fX11_38 hG).r rfl (hm.1 0 _ rfl) (hm.2 (0, 3, 3) (by decide)) dX11_readLoaf_218 ?_
    refine AW.bipush 7 dX11_readLoaf_221 (by decide) ?_
    refine AW.dup2 dX11_readLoaf_223 rfl rfl ?_
    refine AW.iald (hm.1 3 _ rfl) (by unfold vp_in; decide) dX11_readLoaf_224 ?_
    show AW G _ d _ _ 225 [some (.ref 101), some (.int z1), some (.int a15), none, none] [.int (I17 104 7), .int 7, .ref 104] (sh, I17, R, L, g) 0 0
    refine AW.iconst 1 dX11_readLoaf_225 (by decide) ?_
    refine AW.iadd dX11_readLoaf_226 ?_
    refine AW.iast (hm.1 3 _ rfl) (by unfold vp_in; decide) dX11_readLoaf_227 ?_
    show AW G _ d _ _ 228 [some (.ref 101), some (.int z1), some (.int a15), none, none] [] (sh, am_up I17 104 7 ((I17 104 7) + 1), R, L, g) 0 0
    obtain ⟨I18, eI18, h⟩ := g_letE h
    refine AW.namIE eI18 ?_
    exact AW.vret dX11_readLoaf_228 rfl (by decide) (by decide) (by cases h; exact ⟨rfl, rfl⟩)
  obtain ⟨J17, eJ17, h⟩ := g_letE h
  have H17 : ∀ (I17j : g_I), J17 I17j = some r → AW G mX11_readLoaf d (fun v w => v = none ∧ w = (sh, r, R, L, g)) (fun _ _ => False) 17 [some (.ref 101), none, none, none, none] [] (sh, I17j, R, L, g) 0 0 := by
    intro I17j h
    rw [eJ17] at h
    refine AW.aload_n dX11_readLoaf_17 rfl ?_
    refine AW.getI (fX11_207 hG).r rfl (hm.1 0 _ rfl) dX11_readLoaf_18 ?_
    refine AW.if_eq 25 dX11_readLoaf_21 (by decide) (fun hc21 => ?_) (fun hc21 => ?_)
    · replace h := g_pos hc21 h
      refine AW.aload_n dX11_readLoaf_25 rfl ?_
      obtain ⟨I20, hx21, h⟩ := g_bindE h
      refine AW.callV (b := 101) (As := []) hG.2.2 (vX11_232 hG) (hm.1 0 _ rfl) (g_X11_stepOn hK (d := 1) (Nat.le_refl _) hm hx21) (by omega) dX11_readLoaf_26 rfl rfl (Nat.le_of_ble_eq_true rfl) (fun v w9 hq9 h09 => by obtain ⟨rfl, rfl⟩ := hq9; exact ⟨h09, rfl⟩) (by decide) (by decide) (fun _ _ hx => hx) (fun v9 w9 hq9 => ?_)
      obtain ⟨rfl, rfl⟩ := hq9
      show AW G _ d _ _ 29 [some (.ref 101), none, none, none, none] [] (sh, I20, R, L, g) 0 0
      refine AW.bipush 6 dX11_readLoaf_29 (by decide) ?_
      refine AW.aload_n dX11_readLoaf_31 rfl ?_
      refine AW.getR (c' := 104) (fX11_38 hG).r rfl (hm.1 0 _ rfl) (hm.2 (0, 3, 3) (by decide)) dX11_readLoaf_32 ?_
      refine AW.bipush 7 dX11_readLoaf_35 (by decide) ?_
      refine AW.iald (hm.1 3 _ rfl) (by unfold vp_in; decide) dX11_readLoaf_37 ?_
      show AW G _ d _ _ 38 [some (.ref 101), none, none, none, none] [.int (I20 104 7), .int 6] (sh, I20, R, L, g) 0 0
      refine AW.iadd dX11_readLoaf_38 ?_
      obtain ⟨a22, ea22, h⟩ := g_letE h
      refine AW.namE ea22 ?_
      refine AW.is_n [some (.ref 101), some (.int a22), none, none, none] dX11_readLoaf_39 (by decide) rfl rfl ?_
      refine AW.aload_n dX11_readLoaf_40 rfl ?_
      refine AW.getR (c' := 108) (fX11_49 hG).r rfl (hm.1 0 _ rfl) (hm.2 (0, 7, 7) (by decide)) dX11_readLoaf_41 ?_
      refine AW.iload_n dX11_readLoaf_44 rfl ?_
      refine AW.aload_n dX11_readLoaf_45 rfl ?_
      refine AW.iconst 0 dX11_readLoaf_46 (by decide) ?_
      refine AW.bipush 9 dX11_readLoaf_47 (by decide) ?_
      obtain ⟨a23, I24, hx25, h⟩ := g_bind2E h
      refine AW.callV (b := 101) (As := [.int 0, .int 9]) hG.2.2 (vX11_238 hG) (hm.1 0 _ rfl) (g_X11_readNumber hK (d := 2) (Nat.le_refl _) hm hx25) (by omega) dX11_readLoaf_49 rfl rfl (Nat.le_of_ble_eq_true rfl) (fun v w9 hq9 h09 => by obtain ⟨rfl, rfl⟩ := hq9; exact ⟨h09, rfl⟩) (by decide) (by decide) (fun _ _ hx => hx) (fun v9 w9 hq9 => ?_)
      obtain ⟨rfl, rfl⟩ := hq9
      show AW G _ d _ _ 52 [some (.ref 101), some (.int a22), none, none, none] [.int a23, .int a22, .ref 108] (sh, I24, R, L, g) 0 0
      obtain ⟨hb, h⟩ := g_ifE h
      refine AW.iast (hm.1 7 _ rfl) (g_in_iff.mp hb) dX11_readLoaf_52 ?_
      obtain ⟨I26, eI26, h⟩ := g_letE h
      refine AW.namIE eI26 ?_
      refine AW.aload_n dX11_readLoaf_53 rfl ?_
      refine AW.getR (c' := 109) (fX11_52 hG).r rfl (hm.1 0 _ rfl) (hm.2 (0, 8, 8) (by decide)) dX11_readLoaf_54 ?_
      refine AW.iload_n dX11_readLoaf_57 rfl ?_
      refine AW.aload_n dX11_readLoaf_58 rfl ?_
      refine AW.iconst 1 dX11_readLoaf_59 (by decide) ?_
      refine AW.sipush 999 dX11_readLoaf_60 (by decide) ?_
      obtain ⟨a27, I28, hx29, h⟩ := g_bind2E h
      refine AW.callV (b := 101) (As := [.int 1, .int 999]) hG.2.2 (vX11_238 hG) (hm.1 0 _ rfl) (g_X11_readNumber hK (d := 2) (Nat.le_refl _) hm hx29) (by omega) dX11_readLoaf_63 rfl rfl (Nat.le_of_ble_eq_true rfl) (fun v w9 hq9 h09 => by obtain ⟨rfl, rfl⟩ := hq9; exact ⟨h09, rfl⟩) (by decide) (by decide) (fun _ _ hx => hx) (fun v9 w9 hq9 => ?_)
      obtain ⟨rfl, rfl⟩ := hq9
      show AW G _ d _ _ 66 [some (.ref 101), some (.int a22), none, none, none] [.int a27, .int a22, .ref 109] (sh, I28, R, L, g) 0 0
      obtain ⟨hb, h⟩ := g_ifE h
      refine AW.iast (hm.1 8 _ rfl) (g_in_iff.mp hb) dX11_readLoaf_66 ?_
      obtain ⟨I30, eI30, h⟩ := g_letE h
      refine AW.namIE eI30 ?_
      refine AW.aload_n dX11_readLoaf_67 rfl ?_
      refine AW.getR (c' := 110) (fX11_55 hG).r rfl (hm.1 0 _ rfl) (hm.2 (0, 9, 9) (by decide)) dX11_readLoaf_68 ?_
      refine AW.iload_n dX11_readLoaf_71 rfl ?_
      refine AW.aload_n dX11_readLoaf_72 rfl ?_
      refine AW.iconst 0 dX11_readLoaf_73 (by decide) ?_
      refine AW.bipush 23 dX11_readLoaf_74 (by decide) ?_
      obtain ⟨a31, I32, hx33, h⟩ := g_bind2E h
      refine AW.callV (b := 101) (As := [.int 0, .int 23]) hG.2.2 (vX11_238 hG) (hm.1 0 _ rfl) (g_X11_readNumber hK (d := 2) (Nat.le_refl _) hm hx33) (by omega) dX11_readLoaf_76 rfl rfl (Nat.le_of_ble_eq_true rfl) (fun v w9 hq9 h09 => by obtain ⟨rfl, rfl⟩ := hq9; exact ⟨h09, rfl⟩) (by decide) (by decide) (fun _ _ hx => hx) (fun v9 w9 hq9 => ?_)
      obtain ⟨rfl, rfl⟩ := hq9
      show AW G _ d _ _ 79 [some (.ref 101), some (.int a22), none, none, none] [.int a31, .int a22, .ref 110] (sh, I32, R, L, g) 0 0
      obtain ⟨hb, h⟩ := g_ifE h
      refine AW.iast (hm.1 9 _ rfl) (g_in_iff.mp hb) dX11_readLoaf_79 ?_
      obtain ⟨I34, eI34, h⟩ := g_letE h
      refine AW.namIE eI34 ?_
      refine AW.aload_n dX11_readLoaf_80 rfl ?_
      refine AW.getR (c' := 111) (fX11_58 hG).r rfl (hm.1 0 _ rfl) (hm.2 (0, 10, 10) (by decide)) dX11_readLoaf_81 ?_
      refine AW.iload_n dX11_readLoaf_84 rfl ?_
      refine AW.aload_n dX11_readLoaf_85 rfl ?_
      refine AW.iconst 1 dX11_readLoaf_86 (by decide) ?_
      refine AW.bipush 23 dX11_readLoaf_87 (by decide) ?_
      obtain ⟨a35, I36, hx37, h⟩ := g_bind2E h
      refine AW.callV (b := 101) (As := [.int 1, .int 23]) hG.2.2 (vX11_238 hG) (hm.1 0 _ rfl) (g_X11_readNumber hK (d := 2) (Nat.le_refl _) hm hx37) (by omega) dX11_readLoaf_89 rfl rfl (Nat.le_of_ble_eq_true rfl) (fun v w9 hq9 h09 => by obtain ⟨rfl, rfl⟩ := hq9; exact ⟨h09, rfl⟩) (by decide) (by decide) (fun _ _ hx => hx) (fun v9 w9 hq9 => ?_)
      obtain ⟨rfl, rfl⟩ := hq9
      show AW G _ d _ _ 92 [some (.ref 101), some (.int a22), none, none, none] [.int a35, .int a22, .ref 111] (sh, I36, R, L, g) 0 0
      obtain ⟨hb, h⟩ := g_ifE h
      refine AW.iast (hm.1 10 _ rfl) (g_in_iff.mp hb) dX11_readLoaf_92 ?_
      obtain ⟨I38, eI38, h⟩ := g_letE h
      refine AW.namIE eI38 ?_
      refine AW.iconst 0 dX11_readLoaf_93 (by decide) ?_
      refine AW.is_n [some (.ref 101), some (.int a22), some (.int 0), none, none] dX11_readLoaf_94 (by decide) rfl rfl ?_
      refine AW.iconst 0 dX11_readLoaf_95 (by decide) ?_
      refine AW.is_n [some (.ref 101), some (.int a22), some (.int 0), some (.int 0), none] dX11_readLoaf_96 (by decide) rfl rfl ?_
      refine AW.aload_n dX11_readLoaf_97 rfl ?_
      refine AW.getI (fX11_207 hG).r rfl (hm.1 0 _ rfl) dX11_readLoaf_98 ?_
      refine AW.if_ne 117 dX11_readLoaf_101 (by decide) (fun hc101 => ?_) (fun hc101 => ?_)
      · replace h := g_neg hc101 h
        exact H117 _ _ _ _ h
      · replace h := g_pos hc101 h
        refine AW.aload_n dX11_readLoaf_104 rfl ?_
        refine AW.getI (fX11_181 hG).r rfl (hm.1 0 _ rfl) dX11_readLoaf_105 ?_
        refine AW.iconst 2 dX11_readLoaf_108 (by decide) ?_
        refine AW.icmp_eq 117 dX11_readLoaf_109 (by decide) (fun hc109 => ?_) (fun hc109 => ?_)
        · replace h := g_pos hc109 h
          exact H117 _ _ _ _ h
        · replace h := g_neg hc109 h
          refine AW.aload_n dX11_readLoaf_112 rfl ?_
          refine AW.iconst 1 dX11_readLoaf_113 (by decide) ?_
          obtain ⟨I40, hx41, h⟩ := g_bindE h
          refine AW.callV (b := 101) (As := [.int 1]) hG.2.2 (vX11_228 hG) (hm.1 0 _ rfl) (g_X11_wrong hK (d := 0) (Nat.le_refl _) hm hx41) (by omega) dX11_readLoaf_114 rfl rfl (Nat.le_of_ble_eq_true rfl) (fun v w9 hq9 h09 => by obtain ⟨rfl, rfl⟩ := hq9; exact ⟨h09, rfl⟩) (by decide) (by decide) (fun _ _ hx => hx) (fun v9 w9 hq9 => ?_)
          obtain ⟨rfl, rfl⟩ := hq9
          show AW G _ d _ _ 117 [some (.ref 101), some (.int a22), some (.int 0), some (.int 0), none] [] (sh, I40, R, L, g) 0 0
          exact H117 _ _ _ _ h
    · replace h := g_neg hc21 h
      exact AW.vret dX11_readLoaf_24 rfl (by decide) (by decide) (by cases h; exact ⟨rfl, rfl⟩)
  refine AW.aload_n dX11_readLoaf_0 rfl ?_
  refine AW.getR (c' := 104) (fX11_38 hG).r rfl (hm.1 0 _ rfl) (hm.2 (0, 3, 3) (by decide)) dX11_readLoaf_1 ?_
  refine AW.bipush 7 dX11_readLoaf_4 (by decide) ?_
  refine AW.iald (hm.1 3 _ rfl) (by unfold vp_in; decide) dX11_readLoaf_6 ?_
  show AW G _ d _ _ 7 [some (.ref 101), none, none, none, none] [.int (I 104 7)] (sh, I, R, L, g) 0 0
  refine AW.bipush 6 dX11_readLoaf_7 (by decide) ?_
  refine AW.icmp_ne 17 dX11_readLoaf_9 (by decide) (fun hc9 => ?_) (fun hc9 => ?_)
  · replace h := g_neg hc9 h
    exact H17 _ h
  · replace h := g_pos hc9 h
    refine AW.aload_n dX11_readLoaf_12 rfl ?_
    refine AW.iconst 2 dX11_readLoaf_13 (by decide) ?_
    obtain ⟨I43, hx44, h⟩ := g_bindE h
    refine AW.callV (b := 101) (As := [.int 2]) hG.2.2 (vX11_228 hG) (hm.1 0 _ rfl) (g_X11_wrong hK (d := 0) (Nat.le_refl _) hm hx44) (by omega) dX11_readLoaf_14 rfl rfl (Nat.le_of_ble_eq_true rfl) (fun v w9 hq9 h09 => by obtain ⟨rfl, rfl⟩ := hq9; exact ⟨h09, rfl⟩) (by decide) (by decide) (fun _ _ hx => hx) (fun v9 w9 hq9 => ?_)
    obtain ⟨rfl, rfl⟩ := hq9
    show AW G _ d _ _ 17 [some (.ref 101), none, none, none, none] [] (sh, I43, R, L, g) 0 0
    exact H17 _ h
