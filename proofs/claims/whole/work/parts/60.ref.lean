/-! 60.ref (printed by s52.py) -/
theorem dX11_safe_0 : decode cX11_safe 0 = .ok (.aload_n 0, 1) := by decide +kernel
theorem dX11_safe_1 : decode cX11_safe 1 = .ok (.iconst 0, 1) := by decide +kernel
theorem dX11_safe_2 : decode cX11_safe 2 = .ok (.putfield 159, 3) := by decide +kernel
theorem dX11_safe_5 : decode cX11_safe 5 = .ok (.aload_n 0, 1) := by decide +kernel
theorem dX11_safe_6 : decode cX11_safe 6 = .ok (.iconst 0, 1) := by decide +kernel
theorem dX11_safe_7 : decode cX11_safe 7 = .ok (.invokevirtual 459, 3) := by decide +kernel
theorem dX11_safe_10 : decode cX11_safe 10 = .ok (.istore_n 1, 1) := by decide +kernel
theorem dX11_safe_11 : decode cX11_safe 11 = .ok (.iconst (-1), 1) := by decide +kernel
theorem dX11_safe_12 : decode cX11_safe 12 = .ok (.istore_n 2, 1) := by decide +kernel
theorem dX11_safe_13 : decode cX11_safe 13 = .ok (.aload_n 0, 1) := by decide +kernel
theorem dX11_safe_14 : decode cX11_safe 14 = .ok (.aload_n 0, 1) := by decide +kernel
theorem dX11_safe_15 : decode cX11_safe 15 = .ok (.getfield 114, 3) := by decide +kernel
theorem dX11_safe_18 : decode cX11_safe 18 = .ok (.iconst 0, 1) := by decide +kernel
theorem dX11_safe_19 : decode cX11_safe 19 = .ok (.invokevirtual 407, 3) := by decide +kernel
theorem dX11_safe_22 : decode cX11_safe 22 = .ok (.iconst 0, 1) := by decide +kernel
theorem dX11_safe_23 : decode cX11_safe 23 = .ok (.istore_n 3, 1) := by decide +kernel
theorem dX11_safe_24 : decode cX11_safe 24 = .ok (.iload_n 3, 1) := by decide +kernel
theorem dX11_safe_25 : decode cX11_safe 25 = .ok (.iconst 1, 1) := by decide +kernel
theorem dX11_safe_26 : decode cX11_safe 26 = .ok (.aload_n 0, 1) := by decide +kernel
theorem dX11_safe_27 : decode cX11_safe 27 = .ok (.getfield 38, 3) := by decide +kernel
theorem dX11_safe_30 : decode cX11_safe 30 = .ok (.iconst 0, 1) := by decide +kernel
theorem dX11_safe_31 : decode cX11_safe 31 = .ok (.iaload, 1) := by decide +kernel
theorem dX11_safe_32 : decode cX11_safe 32 = .ok (.ishl, 1) := by decide +kernel
theorem dX11_safe_33 : decode cX11_safe 33 = .ok (.if_icmp .ge 64, 3) := by decide +kernel
theorem dX11_safe_36 : decode cX11_safe 36 = .ok (.iload_n 3, 1) := by decide +kernel
theorem dX11_safe_37 : decode cX11_safe 37 = .ok (.invokestatic 421, 3) := by decide +kernel
theorem dX11_safe_40 : decode cX11_safe 40 = .ok (.iconst 2, 1) := by decide +kernel
theorem dX11_safe_41 : decode cX11_safe 41 = .ok (.if_icmp .lt 50, 3) := by decide +kernel
theorem dX11_safe_44 : decode cX11_safe 44 = .ok (.iload_n 2, 1) := by decide +kernel
theorem dX11_safe_45 : decode cX11_safe 45 = .ok (.iconst (-1), 1) := by decide +kernel
theorem dX11_safe_46 : decode cX11_safe 46 = .ok (.if_icmp .eq 17, 3) := by decide +kernel
theorem dX11_safe_49 : decode cX11_safe 49 = .ok (.iload_n 3, 1) := by decide +kernel
theorem dX11_safe_50 : decode cX11_safe 50 = .ok (.invokestatic 421, 3) := by decide +kernel
theorem dX11_safe_53 : decode cX11_safe 53 = .ok (.iload_n 2, 1) := by decide +kernel
theorem dX11_safe_54 : decode cX11_safe 54 = .ok (.invokestatic 421, 3) := by decide +kernel
theorem dX11_safe_57 : decode cX11_safe 57 = .ok (.if_icmp .gt 6, 3) := by decide +kernel
theorem dX11_safe_60 : decode cX11_safe 60 = .ok (.goto 31, 3) := by decide +kernel
theorem dX11_safe_63 : decode cX11_safe 63 = .ok (.aload_n 0, 1) := by decide +kernel
theorem dX11_safe_64 : decode cX11_safe 64 = .ok (.iload_n 3, 1) := by decide +kernel
theorem dX11_safe_65 : decode cX11_safe 65 = .ok (.invokevirtual 424, 3) := by decide +kernel
theorem dX11_safe_68 : decode cX11_safe 68 = .ok (.iload_n 1, 1) := by decide +kernel
theorem dX11_safe_69 : decode cX11_safe 69 = .ok (.aload_n 0, 1) := by decide +kernel
theorem dX11_safe_70 : decode cX11_safe 70 = .ok (.iconst 0, 1) := by decide +kernel
theorem dX11_safe_71 : decode cX11_safe 71 = .ok (.invokevirtual 459, 3) := by decide +kernel
theorem dX11_safe_74 : decode cX11_safe 74 = .ok (.iconst (-1), 1) := by decide +kernel
theorem dX11_safe_75 : decode cX11_safe 75 = .ok (.ixor, 1) := by decide +kernel
theorem dX11_safe_76 : decode cX11_safe 76 = .ok (.iand, 1) := by decide +kernel
theorem dX11_safe_77 : decode cX11_safe 77 = .ok (.ifCond .ne 5, 3) := by decide +kernel
theorem dX11_safe_80 : decode cX11_safe 80 = .ok (.iload_n 3, 1) := by decide +kernel
theorem dX11_safe_81 : decode cX11_safe 81 = .ok (.istore_n 2, 1) := by decide +kernel
theorem dX11_safe_82 : decode cX11_safe 82 = .ok (.aload_n 0, 1) := by decide +kernel
theorem dX11_safe_83 : decode cX11_safe 83 = .ok (.aload_n 0, 1) := by decide +kernel
theorem dX11_safe_84 : decode cX11_safe 84 = .ok (.getfield 114, 3) := by decide +kernel
theorem dX11_safe_87 : decode cX11_safe 87 = .ok (.iconst 0, 1) := by decide +kernel
theorem dX11_safe_88 : decode cX11_safe 88 = .ok (.invokevirtual 429, 3) := by decide +kernel
theorem dX11_safe_91 : decode cX11_safe 91 = .ok (.iinc 3 1, 3) := by decide +kernel
theorem dX11_safe_94 : decode cX11_safe 94 = .ok (.goto (-70), 3) := by decide +kernel
theorem dX11_safe_97 : decode cX11_safe 97 = .ok (.iload_n 2, 1) := by decide +kernel
theorem dX11_safe_98 : decode cX11_safe 98 = .ok (.ireturn, 1) := by decide +kernel
def b_X11_safe_L24 (y1 : Int32) (K : Int32 → g_I → Option (Int32 × g_I)) : Nat → Int32 → Int32 → g_I → Option (Int32 × g_I)
  | 0, _, _, _ => none
  | f + 1, x2, x3, I => g_let (fun (z2 : Int32) (z3 : Int32) (I63j : g_I) => g_bind (b_X11_fairOf I63j z3) fun I9 => g_bind (b_X11_cuttable I9 0) fun a11 => if (y1 &&& (a11 ^^^ (-1))) = 0 then g_bind (b_X11_unpack I9 129 80 0) fun I18 => b_X11_safe_L24 y1 K f z3 (z3 + 1) I18 else g_bind (b_X11_unpack I9 129 80 0) fun I15 => b_X11_safe_L24 y1 K f z2 (z3 + 1) I15) fun J63 => if ((1 : Int32) <<< ((I 104 0) &&& 31)) ≤ x3 then K x2 I else g_bind (b_X11_bitsOf x3) fun a20 => if a20 < 2 then b_X11_safe_L24 y1 K f x2 (x3 + 1) I else if x2 = (-1) then J63 x2 x3 I else g_bind (b_X11_bitsOf x3) fun a23 => g_bind (b_X11_bitsOf x2) fun a26 => if a26 < a23 then J63 x2 x3 I else b_X11_safe_L24 y1 K f x2 (x3 + 1) I
def b_X11_safe (I : g_I) : Option (Int32 × g_I) :=
  g_let (am_up I 101 2 0) fun I1 => g_bind (b_X11_cuttable I1 0) fun a2 => g_bind (b_X11_pack I1 129 80 0) fun I6 => b_X11_safe_L24 a2 (fun (a29 : Int32) (I30 : g_I) => some (a29, I30)) fu (-1) 0 I6
set_option maxRecDepth 100000 in
set_option maxHeartbeats 4000000 in
theorem gL_X11_safe_24 {G : am_G} (hK : k_OK G) {d : Nat} (hd : 8 ≤ d) {sh : List (Nat ⊕ (Nat × Nat))} {I : g_I} {R : Nat → Nat → Option Nat} {L : Nat → Nat → Int64} {g : Nat} (hm : k_Mod sh R) {y1 : Int32} {K : Int32 → g_I → Option (Int32 × g_I)} {x2 : Int32} {x3 : Int32} {f : Nat} {r : Int32 × g_I} (h : b_X11_safe_L24 y1 K f x2 x3 I = some r) (hk : ∀ (u2 : Int32) (J : g_I), K u2 J = some r → AW G mX11_safe d (fun v w => v = some (.int r.1) ∧ w = (sh, r.2, R, L, g)) (fun _ _ => False) 97 [none, none, some (.int u2), none] [] (sh, J, R, L, g) 0 0) : AW G mX11_safe d (fun v w => v = some (.int r.1) ∧ w = (sh, r.2, R, L, g)) (fun _ _ => False) 24 [some (.ref 101), some (.int y1), some (.int x2), some (.int x3)] [] (sh, I, R, L, g) 0 0 := by
  have hG := hK.1
  induction f generalizing x2 x3 I with
  | zero => rw [b_X11_safe_L24] at h; cases h
  | succ f ih =>
    rw [b_X11_safe_L24] at h
    obtain ⟨J63, eJ63, h⟩ := g_letE h
    have H63 : ∀ (z2 : Int32) (z3 : Int32) (I63j : g_I), J63 z2 z3 I63j = some r → AW G mX11_safe d (fun v w => v = some (.int r.1) ∧ w = (sh, r.2, R, L, g)) (fun _ _ => False) 63 [some (.ref 101), some (.int y1), some (.int z2), some (.int z3)] [] (sh, I63j, R, L, g) 0 0 := by
      intro z2 z3 I63j h
      rw [eJ63] at h
      refine AW.aload_n dX11_safe_63 rfl ?_
      refine AW.iload_n dX11_safe_64 rfl ?_
      obtain ⟨I9, hx10, h⟩ := g_bindE h
      refine AW.callV (b := 101) (As := [.int z3]) hG.2.2 (vX11_424 hG) (hm.1 0 _ rfl) (g_X11_fairOf hK (d := 2) (Nat.le_refl _) hm hx10) (by omega) dX11_safe_65 rfl rfl (Nat.le_of_ble_eq_true rfl) (fun v w9 hq9 h09 => by obtain ⟨rfl, rfl⟩ := hq9; exact ⟨h09, rfl⟩) (by decide) (by decide) (fun _ _ hx => hx) (fun v9 w9 hq9 => ?_)
      obtain ⟨rfl, rfl⟩ := hq9
      show AW G _ d _ _ 68 [some (.ref 101), some (.int y1), some (.int z2), some (.int z3)] [] (sh, I9, R, L, g) 0 0
      refine AW.iload_n dX11_safe_68 rfl ?_
      refine AW.aload_n dX11_safe_69 rfl ?_
      refine AW.iconst 0 dX11_safe_70 (by decide) ?_
      obtain ⟨a11, hx13, h⟩ := g_bindE h
      refine AW.callV (b := 101) (As := [.int 0]) hG.2.2 (vX11_459 hG) (hm.1 0 _ rfl) (g_X11_cuttable hK (d := 7) (Nat.le_refl _) hm hx13) (by omega) dX11_safe_71 rfl rfl (Nat.le_of_ble_eq_true rfl) (fun v w9 hq9 h09 => by obtain ⟨rfl, rfl⟩ := hq9; exact ⟨h09, rfl⟩) (by decide) (by decide) (fun _ _ hx => hx) (fun v9 w9 hq9 => ?_)
      obtain ⟨rfl, rfl⟩ := hq9
      show AW G _ d _ _ 74 [some (.ref 101), some (.int y1), some (.int z2), some (.int z3)] [.int a11, .int y1] (sh, I9, R, L, g) 0 0
      refine AW.iconst (-1) dX11_safe_74 (by decide) ?_
      refine AW.ixor dX11_safe_75 ?_
      refine AW.iand dX11_safe_76 ?_
      refine AW.if_ne 82 dX11_safe_77 (by decide) (fun hc77 => ?_) (fun hc77 => ?_)
      · replace h := g_neg hc77 h
        refine AW.aload_n dX11_safe_82 rfl ?_
        refine AW.aload_n dX11_safe_83 rfl ?_
        refine AW.getR (c' := 129) (fX11_114 hG).r rfl (hm.1 0 _ rfl) (hm.2 (0, 48, 28) (by decide)) dX11_safe_84 ?_
        refine AW.iconst 0 dX11_safe_87 (by decide) ?_
        obtain ⟨I15, hx16, h⟩ := g_bindE h
        refine AW.callV (b := 101) (As := [.ref 129, .int 0]) hG.2.2 (vX11_429 hG) (hm.1 0 _ rfl) (g_X11_unpack hK (d := 0) (Nat.le_refl _) hm (hm.1 28 _ rfl) hx16) (by omega) dX11_safe_88 rfl rfl (Nat.le_of_ble_eq_true rfl) (fun v w9 hq9 h09 => by obtain ⟨rfl, rfl⟩ := hq9; exact ⟨h09, rfl⟩) (by decide) (by decide) (fun _ _ hx => hx) (fun v9 w9 hq9 => ?_)
        obtain ⟨rfl, rfl⟩ := hq9
        show AW G _ d _ _ 91 [some (.ref 101), some (.int y1), some (.int z2), some (.int z3)] [] (sh, I15, R, L, g) 0 0
        refine AW.incE 1 (by decide) [some (.ref 101), some (.int y1), some (.int z2), some (.int (z3 + 1))] dX11_safe_91 rfl (by decide) rfl rfl ?_
        refine AW.goto 24 dX11_safe_94 (by decide) ?_
        exact ih h
      · replace h := g_pos hc77 h
        refine AW.iload_n dX11_safe_80 rfl ?_
        refine AW.is_n [some (.ref 101), some (.int y1), some (.int z3), some (.int z3)] dX11_safe_81 (by decide) rfl rfl ?_
        refine AW.aload_n dX11_safe_82 rfl ?_
        refine AW.aload_n dX11_safe_83 rfl ?_
        refine AW.getR (c' := 129) (fX11_114 hG).r rfl (hm.1 0 _ rfl) (hm.2 (0, 48, 28) (by decide)) dX11_safe_84 ?_
        refine AW.iconst 0 dX11_safe_87 (by decide) ?_
        obtain ⟨I18, hx19, h⟩ := g_bindE h
        refine AW.callV (b := 101) (As := [.ref 129, .int 0]) hG.2.2 (vX11_429 hG) (hm.1 0 _ rfl) (g_X11_unpack hK (d := 0) (Nat.le_refl _) hm (hm.1 28 _ rfl) hx19) (by omega) dX11_safe_88 rfl rfl (Nat.le_of_ble_eq_true rfl) (fun v w9 hq9 h09 => by obtain ⟨rfl, rfl⟩ := hq9; exact ⟨h09, rfl⟩) (by decide) (by decide) (fun _ _ hx => hx) (fun v9 w9 hq9 => ?_)
        obtain ⟨rfl, rfl⟩ := hq9
        show AW G _ d _ _ 91 [some (.ref 101), some (.int y1), some (.int z3), some (.int z3)] [] (sh, I18, R, L, g) 0 0
        refine AW.incE 1 (by decide) [some (.ref 101), some (.int y1), some (.int z3), some (.int (z3 + 1))] dX11_safe_91 rfl (by decide) rfl rfl ?_
        refine AW.goto 24 dX11_safe_94 (by decide) ?_
        exact ih h
    refine AW.iload_n dX11_safe_24 rfl ?_
    refine AW.iconst 1 dX11_safe_25 (by decide) ?_
    refine AW.aload_n dX11_safe_26 rfl ?_
    refine AW.getR (c' := 104) (fX11_38 hG).r rfl (hm.1 0 _ rfl) (hm.2 (0, 3, 3) (by decide)) dX11_safe_27 ?_
    refine AW.iconst 0 dX11_safe_30 (by decide) ?_
    refine AW.iald (hm.1 3 _ rfl) (by unfold vp_in; decide) dX11_safe_31 ?_
    show AW G _ d _ _ 32 [some (.ref 101), some (.int y1), some (.int x2), some (.int x3)] [.int (I 104 0), .int 1, .int x3] (sh, I, R, L, g) 0 0
    refine AW.ishl dX11_safe_32 ?_
    refine AW.icmp_ge 97 dX11_safe_33 (by decide) (fun hc33 => ?_) (fun hc33 => ?_)
    · replace h := g_pos hc33 h
      refine AW.mask [0, 1, 3] [none, none, some (.int x2), none] rfl ?_
      exact hk _ _ h
    · replace h := g_neg hc33 h
      refine AW.iload_n dX11_safe_36 rfl ?_
      obtain ⟨a20, hx22, h⟩ := g_bindE h
      refine AW.callS (As := [.int x3]) hG.2.2 (vX11_421 hG) (g_X11_bitsOf hK (d := 0) (Nat.le_refl _) hx22) (by omega) dX11_safe_37 rfl rfl (Nat.le_of_ble_eq_true rfl) (fun v w9 hq9 h09 => by obtain ⟨rfl, rfl⟩ := hq9; exact ⟨h09, rfl⟩) (by decide) (by decide) (fun _ _ hx => hx) (fun v9 w9 hq9 => ?_)
      obtain ⟨rfl, rfl⟩ := hq9
      show AW G _ d _ _ 40 [some (.ref 101), some (.int y1), some (.int x2), some (.int x3)] [.int a20] (sh, I, R, L, g) 0 0
      refine AW.iconst 2 dX11_safe_40 (by decide) ?_
      refine AW.icmp_lt 91 dX11_safe_41 (by decide) (fun hc41 => ?_) (fun hc41 => ?_)
      · replace h := g_pos hc41 h
        refine AW.incE 1 (by decide) [some (.ref 101), some (.int y1), some (.int x2), some (.int (x3 + 1))] dX11_safe_91 rfl (by decide) rfl rfl ?_
        refine AW.goto 24 dX11_safe_94 (by decide) ?_
        exact ih h
      · replace h := g_neg hc41 h
        refine AW.iload_n dX11_safe_44 rfl ?_
        refine AW.iconst (-1) dX11_safe_45 (by decide) ?_
        refine AW.icmp_eq 63 dX11_safe_46 (by decide) (fun hc46 => ?_) (fun hc46 => ?_)
        · replace h := g_pos hc46 h
          exact H63 _ _ _ h
        · replace h := g_neg hc46 h
          refine AW.iload_n dX11_safe_49 rfl ?_
          obtain ⟨a23, hx25, h⟩ := g_bindE h
          refine AW.callS (As := [.int x3]) hG.2.2 (vX11_421 hG) (g_X11_bitsOf hK (d := 0) (Nat.le_refl _) hx25) (by omega) dX11_safe_50 rfl rfl (Nat.le_of_ble_eq_true rfl) (fun v w9 hq9 h09 => by obtain ⟨rfl, rfl⟩ := hq9; exact ⟨h09, rfl⟩) (by decide) (by decide) (fun _ _ hx => hx) (fun v9 w9 hq9 => ?_)
          obtain ⟨rfl, rfl⟩ := hq9
          show AW G _ d _ _ 53 [some (.ref 101), some (.int y1), some (.int x2), some (.int x3)] [.int a23] (sh, I, R, L, g) 0 0
          refine AW.iload_n dX11_safe_53 rfl ?_
          obtain ⟨a26, hx28, h⟩ := g_bindE h
          refine AW.callS (As := [.int x2]) hG.2.2 (vX11_421 hG) (g_X11_bitsOf hK (d := 0) (Nat.le_refl _) hx28) (by omega) dX11_safe_54 rfl rfl (Nat.le_of_ble_eq_true rfl) (fun v w9 hq9 h09 => by obtain ⟨rfl, rfl⟩ := hq9; exact ⟨h09, rfl⟩) (by decide) (by decide) (fun _ _ hx => hx) (fun v9 w9 hq9 => ?_)
          obtain ⟨rfl, rfl⟩ := hq9
          show AW G _ d _ _ 57 [some (.ref 101), some (.int y1), some (.int x2), some (.int x3)] [.int a26, .int a23] (sh, I, R, L, g) 0 0
          refine AW.icmp_gt 63 dX11_safe_57 (by decide) (fun hc57 => ?_) (fun hc57 => ?_)
          · replace h := g_pos hc57 h
            exact H63 _ _ _ h
          · replace h := g_neg hc57 h
            refine AW.goto 91 dX11_safe_60 (by decide) ?_
            refine AW.incE 1 (by decide) [some (.ref 101), some (.int y1), some (.int x2), some (.int (x3 + 1))] dX11_safe_91 rfl (by decide) rfl rfl ?_
            refine AW.goto 24 dX11_safe_94 (by decide) ?_
            exact ih h
set_option maxRecDepth 100000 in
set_option maxHeartbeats 4000000 in
theorem g_X11_safe {G : am_G} (hK : k_OK G) {d : Nat} (hd : 8 ≤ d) {sh : List (Nat ⊕ (Nat × Nat))} {I : g_I} {R : Nat → Nat → Option Nat} {L : Nat → Nat → Int64} {g : Nat} (hm : k_Mod sh R) {r : Int32 × g_I} (h : b_X11_safe I = some r) : AM G mX11_safe d [.ref 101] (sh, I, R, L, g) (fun v w => v = some (.int r.1) ∧ w = (sh, r.2, R, L, g)) (fun _ _ => False) := by
  have hG := hK.1
  refine AM.of (n := 3) (by decide +kernel) (Nat.le_of_ble_eq_true rfl) ?_
  show AW G mX11_safe d (fun v w => v = some (.int r.1) ∧ w = (sh, r.2, R, L, g)) (fun _ _ => False) 0 [some (.ref 101), none, none, none] [] (sh, I, R, L, g) 0 0
  unfold b_X11_safe at h
  refine AW.aload_n dX11_safe_0 rfl ?_
  refine AW.iconst 0 dX11_safe_1 (by decide) ?_
  refine AW.putI (fX11_159 hG) rfl (vp_nar_int _) rfl (hm.1 0 _ rfl) dX11_safe_2 ?_
  obtain ⟨I1, eI1, h⟩ := g_letE h
  refine AW.namIE eI1 ?_
  refine AW.aload_n dX11_safe_5 rfl ?_
  refine AW.iconst 0 dX11_safe_6 (by decide) ?_
  obtain ⟨a2, hx4, h⟩ := g_bindE h
  refine AW.callV (b := 101) (As := [.int 0]) hG.2.2 (vX11_459 hG) (hm.1 0 _ rfl) (g_X11_cuttable hK (d := 7) (Nat.le_refl _) hm hx4) (by omega) dX11_safe_7 rfl rfl (Nat.le_of_ble_eq_true rfl) (fun v w9 hq9 h09 => by obtain ⟨rfl, rfl⟩ := hq9; exact ⟨h09, rfl⟩) (by decide) (by decide) (fun _ _ hx => hx) (fun v9 w9 hq9 => ?_)
  obtain ⟨rfl, rfl⟩ := hq9
  show AW G _ d _ _ 10 [some (.ref 101), none, none, none] [.int a2] (sh, I1, R, L, g) 0 0
  refine AW.is_n [some (.ref 101), some (.int a2), none, none] dX11_safe_10 (by decide) rfl rfl ?_
  refine AW.iconst (-1) dX11_safe_11 (by decide) ?_
  refine AW.is_n [some (.ref 101), some (.int a2), some (.int (-1)), none] dX11_safe_12 (by decide) rfl rfl ?_
  refine AW.aload_n dX11_safe_13 rfl ?_
  refine AW.aload_n dX11_safe_14 rfl ?_
  refine AW.getR (c' := 129) (fX11_114 hG).r rfl (hm.1 0 _ rfl) (hm.2 (0, 48, 28) (by decide)) dX11_safe_15 ?_
  refine AW.iconst 0 dX11_safe_18 (by decide) ?_
  obtain ⟨I6, hx7, h⟩ := g_bindE h
  refine AW.callV (b := 101) (As := [.ref 129, .int 0]) hG.2.2 (vX11_407 hG) (hm.1 0 _ rfl) (g_X11_pack hK (d := 0) (Nat.le_refl _) hm (hm.1 28 _ rfl) hx7) (by omega) dX11_safe_19 rfl rfl (Nat.le_of_ble_eq_true rfl) (fun v w9 hq9 h09 => by obtain ⟨rfl, rfl⟩ := hq9; exact ⟨h09, rfl⟩) (by decide) (by decide) (fun _ _ hx => hx) (fun v9 w9 hq9 => ?_)
  obtain ⟨rfl, rfl⟩ := hq9
  show AW G _ d _ _ 22 [some (.ref 101), some (.int a2), some (.int (-1)), none] [] (sh, I6, R, L, g) 0 0
  refine AW.iconst 0 dX11_safe_22 (by decide) ?_
  refine AW.is_n [some (.ref 101), some (.int a2), some (.int (-1)), some (.int 0)] dX11_safe_23 (by decide) rfl rfl ?_
  refine gL_X11_safe_24 hK hd hm h (fun a29 I30 h => ?_)
  refine AW.iload_n dX11_safe_97 rfl ?_
  exact AW.iret dX11_safe_98 rfl (by decide) (by decide) (by cases h; exact ⟨rfl, rfl⟩)
theorem dX11_isHelped_0 : decode cX11_isHelped 0 = .ok (.iconst 0, 1) := by decide +kernel
theorem dX11_isHelped_1 : decode cX11_isHelped 1 = .ok (.istore_n 2, 1) := by decide +kernel
theorem dX11_isHelped_2 : decode cX11_isHelped 2 = .ok (.iload_n 2, 1) := by decide +kernel
theorem dX11_isHelped_3 : decode cX11_isHelped 3 = .ok (.aload_n 0, 1) := by decide +kernel
theorem dX11_isHelped_4 : decode cX11_isHelped 4 = .ok (.getfield 38, 3) := by decide +kernel
theorem dX11_isHelped_7 : decode cX11_isHelped 7 = .ok (.iconst 0, 1) := by decide +kernel
theorem dX11_isHelped_8 : decode cX11_isHelped 8 = .ok (.iaload, 1) := by decide +kernel
theorem dX11_isHelped_9 : decode cX11_isHelped 9 = .ok (.if_icmp .ge 79, 3) := by decide +kernel
theorem dX11_isHelped_12 : decode cX11_isHelped 12 = .ok (.aload_n 0, 1) := by decide +kernel
theorem dX11_isHelped_13 : decode cX11_isHelped 13 = .ok (.getfield 463, 3) := by decide +kernel
theorem dX11_isHelped_16 : decode cX11_isHelped 16 = .ok (.iload_n 2, 1) := by decide +kernel
theorem dX11_isHelped_17 : decode cX11_isHelped 17 = .ok (.invokestatic 278, 3) := by decide +kernel
theorem dX11_isHelped_20 : decode cX11_isHelped 20 = .ok (.ifCond .ne 62, 3) := by decide +kernel
theorem dX11_isHelped_23 : decode cX11_isHelped 23 = .ok (.aload_n 0, 1) := by decide +kernel
theorem dX11_isHelped_24 : decode cX11_isHelped 24 = .ok (.iload_n 2, 1) := by decide +kernel
theorem dX11_isHelped_25 : decode cX11_isHelped 25 = .ok (.iload_n 1, 1) := by decide +kernel
theorem dX11_isHelped_26 : decode cX11_isHelped 26 = .ok (.invokevirtual 364, 3) := by decide +kernel
theorem dX11_isHelped_29 : decode cX11_isHelped 29 = .ok (.ifCond .ne 6, 3) := by decide +kernel
theorem dX11_isHelped_32 : decode cX11_isHelped 32 = .ok (.goto 50, 3) := by decide +kernel
theorem dX11_isHelped_35 : decode cX11_isHelped 35 = .ok (.aload_n 0, 1) := by decide +kernel
theorem dX11_isHelped_36 : decode cX11_isHelped 36 = .ok (.dup, 1) := by decide +kernel
theorem dX11_isHelped_37 : decode cX11_isHelped 37 = .ok (.getfield 463, 3) := by decide +kernel
theorem dX11_isHelped_40 : decode cX11_isHelped 40 = .ok (.iconst 1, 1) := by decide +kernel
theorem dX11_isHelped_41 : decode cX11_isHelped 41 = .ok (.iload_n 2, 1) := by decide +kernel
theorem dX11_isHelped_42 : decode cX11_isHelped 42 = .ok (.ishl, 1) := by decide +kernel
theorem dX11_isHelped_43 : decode cX11_isHelped 43 = .ok (.ior, 1) := by decide +kernel
theorem dX11_isHelped_44 : decode cX11_isHelped 44 = .ok (.putfield 463, 3) := by decide +kernel
theorem dX11_isHelped_47 : decode cX11_isHelped 47 = .ok (.aload_n 0, 1) := by decide +kernel
theorem dX11_isHelped_48 : decode cX11_isHelped 48 = .ok (.getfield 117, 3) := by decide +kernel
theorem dX11_isHelped_51 : decode cX11_isHelped 51 = .ok (.iload_n 2, 1) := by decide +kernel
theorem dX11_isHelped_52 : decode cX11_isHelped 52 = .ok (.iaload, 1) := by decide +kernel
theorem dX11_isHelped_53 : decode cX11_isHelped 53 = .ok (.iconst (-1), 1) := by decide +kernel
theorem dX11_isHelped_54 : decode cX11_isHelped 54 = .ok (.if_icmp .eq 19, 3) := by decide +kernel
theorem dX11_isHelped_57 : decode cX11_isHelped 57 = .ok (.aload_n 0, 1) := by decide +kernel
theorem dX11_isHelped_58 : decode cX11_isHelped 58 = .ok (.aload_n 0, 1) := by decide +kernel
theorem dX11_isHelped_59 : decode cX11_isHelped 59 = .ok (.getfield 117, 3) := by decide +kernel
theorem dX11_isHelped_62 : decode cX11_isHelped 62 = .ok (.iload_n 2, 1) := by decide +kernel
theorem dX11_isHelped_63 : decode cX11_isHelped 63 = .ok (.iaload, 1) := by decide +kernel
theorem dX11_isHelped_64 : decode cX11_isHelped 64 = .ok (.invokevirtual 466, 3) := by decide +kernel
theorem dX11_isHelped_67 : decode cX11_isHelped 67 = .ok (.ifCond .ne 6, 3) := by decide +kernel
theorem dX11_isHelped_70 : decode cX11_isHelped 70 = .ok (.goto 12, 3) := by decide +kernel
theorem dX11_isHelped_73 : decode cX11_isHelped 73 = .ok (.aload_n 0, 1) := by decide +kernel
theorem dX11_isHelped_74 : decode cX11_isHelped 74 = .ok (.getfield 117, 3) := by decide +kernel
theorem dX11_isHelped_77 : decode cX11_isHelped 77 = .ok (.iload_n 2, 1) := by decide +kernel
theorem dX11_isHelped_78 : decode cX11_isHelped 78 = .ok (.iload_n 1, 1) := by decide +kernel
theorem dX11_isHelped_79 : decode cX11_isHelped 79 = .ok (.iastore, 1) := by decide +kernel
theorem dX11_isHelped_80 : decode cX11_isHelped 80 = .ok (.iconst 1, 1) := by decide +kernel
theorem dX11_isHelped_81 : decode cX11_isHelped 81 = .ok (.ireturn, 1) := by decide +kernel
theorem dX11_isHelped_82 : decode cX11_isHelped 82 = .ok (.iinc 2 1, 3) := by decide +kernel
theorem dX11_isHelped_85 : decode cX11_isHelped 85 = .ok (.goto (-83), 3) := by decide +kernel
theorem dX11_isHelped_88 : decode cX11_isHelped 88 = .ok (.iconst 0, 1) := by decide +kernel
theorem dX11_isHelped_89 : decode cX11_isHelped 89 = .ok (.ireturn, 1) := by decide +kernel
def b_X11_isHelped_L2 (rec : g_I → Int32 → Option (Bool × g_I)) (y1 : Int32) (K : g_I → Option (Bool × g_I)) : Nat → Int32 → g_I → Option (Bool × g_I)
  | 0, _, _ => none
  | f + 1, x2, I => if (I 104 0) ≤ x2 then K I else if b_X11_isOf (I 101 50) x2 = true then b_X11_isHelped_L2 rec y1 K f (x2 + 1) I else g_bind (b_X11_canCut I x2 y1) fun t1 => if t1 = true then g_let (am_up I 101 50 ((I 101 50) ||| ((1 : Int32) <<< (x2 &&& 31)))) fun I4 => if g_in x2 8 = true then if (I4 130 x2.toNatClampNeg) = (-1) then if g_in x2 8 = true then g_let (am_up I4 130 x2.toNatClampNeg y1) fun I5 => some (true, I5) else none else if g_in x2 8 = true then g_bind2 (rec I4 (I4 130 x2.toNatClampNeg)) fun t6 I7 => if t6 = true then if g_in x2 8 = true then g_let (am_up I7 130 x2.toNatClampNeg y1) fun I9 => some (true, I9) else none else b_X11_isHelped_L2 rec y1 K f (x2 + 1) I7 else none else none else b_X11_isHelped_L2 rec y1 K f (x2 + 1) I
def b_X11_isHelped (rec : g_I → Int32 → Option (Bool × g_I)) (I : g_I) (x1 : Int32) : Option (Bool × g_I) :=
  b_X11_isHelped_L2 rec x1 (fun (I10 : g_I) => some (false, I10)) fu 0 I
set_option maxRecDepth 100000 in
set_option maxHeartbeats 4000000 in
theorem gL_X11_isHelped_2 {G : am_G} (hK : k_OK G) {rec : g_I → Int32 → Option (Bool × g_I)} {dr : Nat} {d : Nat} (hd : dr + 6 ≤ d) {sh : List (Nat ⊕ (Nat × Nat))} {I : g_I} {R : Nat → Nat → Option Nat} {L : Nat → Nat → Int64} {g : Nat} (hm : k_Mod sh R) (ih9 : ∀ {I : g_I} {x1 : Int32} {r : Bool × g_I}, rec I x1 = some r → AM G mX11_isHelped dr [.ref 101, .int x1] (sh, I, R, L, g) (fun v w => v = some (.int (kb r.1)) ∧ w = (sh, r.2, R, L, g)) (fun _ _ => False)) {y1 : Int32} {K : g_I → Option (Bool × g_I)} {x2 : Int32} {f : Nat} {r : Bool × g_I} (h : b_X11_isHelped_L2 rec y1 K f x2 I = some r) (hk : ∀ (J : g_I), K J = some r → AW G mX11_isHelped d (fun v w => v = some (.int (kb r.1)) ∧ w = (sh, r.2, R, L, g)) (fun _ _ => False) 88 [none, none, none] [] (sh, J, R, L, g) 0 0) : AW G mX11_isHelped d (fun v w => v = some (.int (kb r.1)) ∧ w = (sh, r.2, R, L, g)) (fun _ _ => False) 2 [some (.ref 101), some (.int y1), some (.int x2)] [] (sh, I, R, L, g) 0 0 := by
  have hG := hK.1
  induction f generalizing x2 I with
  | zero => rw [b_X11_isHelped_L2] at h; cases h
  | succ f ih =>
    rw [b_X11_isHelped_L2] at h
    refine AW.iload_n dX11_isHelped_2 rfl ?_
    refine AW.aload_n dX11_isHelped_3 rfl ?_
    refine AW.getR (c' := 104) (fX11_38 hG).r rfl (hm.1 0 _ rfl) (hm.2 (0, 3, 3) (by decide)) dX11_isHelped_4 ?_
    refine AW.iconst 0 dX11_isHelped_7 (by decide) ?_
    refine AW.iald (hm.1 3 _ rfl) (by unfold vp_in; decide) dX11_isHelped_8 ?_
    show AW G _ d _ _ 9 [some (.ref 101), some (.int y1), some (.int x2)] [.int (I 104 0), .int x2] (sh, I, R, L, g) 0 0
    refine AW.icmp_ge 88 dX11_isHelped_9 (by decide) (fun hc9 => ?_) (fun hc9 => ?_)
    · replace h := g_pos hc9 h
      refine AW.mask [0, 1, 2] [none, none, none] rfl ?_
      exact hk _ h
    · replace h := g_neg hc9 h
      refine AW.aload_n dX11_isHelped_12 rfl ?_
      refine AW.getI (fX11_463 hG).r rfl (hm.1 0 _ rfl) dX11_isHelped_13 ?_
      refine AW.iload_n dX11_isHelped_16 rfl ?_
      refine AW.callS (As := [.int (I 101 50), .int x2]) hG.2.2 (vX11_278 hG) (g_X11_isOf hK (d := 0) (Nat.le_refl _)) (by omega) dX11_isHelped_17 rfl rfl (Nat.le_of_ble_eq_true rfl) (fun v w9 hq9 h09 => by obtain ⟨rfl, rfl⟩ := hq9; exact ⟨h09, rfl⟩) (by decide) (by decide) (fun _ _ hx => hx) (fun v9 w9 hq9 => ?_)
      obtain ⟨rfl, rfl⟩ := hq9
      show AW G _ d _ _ 20 [some (.ref 101), some (.int y1), some (.int x2)] [.int (kb (b_X11_isOf (I 101 50) x2))] (sh, I, R, L, g) 0 0
      refine AW.if_ne 82 dX11_isHelped_20 (by decide) (fun hc20 => ?_) (fun hc20 => ?_)
      · replace h := g_pos (kb_1.mp hc20) h
        refine AW.incE 1 (by decide) [some (.ref 101), some (.int y1), some (.int (x2 + 1))] dX11_isHelped_82 rfl (by decide) rfl rfl ?_
        refine AW.goto 2 dX11_isHelped_85 (by decide) ?_
        exact ih h
      · replace h := g_neg (g_kb0 hc20) h
        refine AW.aload_n dX11_isHelped_23 rfl ?_
        refine AW.iload_n dX11_isHelped_24 rfl ?_
        refine AW.iload_n dX11_isHelped_25 rfl ?_
        obtain ⟨t1, hx3, h⟩ := g_bindE h
        refine AW.callV (b := 101) (As := [.int x2, .int y1]) hG.2.2 (vX11_364 hG) (hm.1 0 _ rfl) (g_X11_canCut hK (d := 5) (Nat.le_refl _) hm hx3) (by omega) dX11_isHelped_26 rfl rfl (Nat.le_of_ble_eq_true rfl) (fun v w9 hq9 h09 => by obtain ⟨rfl, rfl⟩ := hq9; exact ⟨h09, rfl⟩) (by decide) (by decide) (fun _ _ hx => hx) (fun v9 w9 hq9 => ?_)
        obtain ⟨rfl, rfl⟩ := hq9
        show AW G _ d _ _ 29 [some (.ref 101), some (.int y1), some (.int x2)] [.int (kb t1)] (sh, I, R, L, g) 0 0
        refine AW.if_ne 35 dX11_isHelped_29 (by decide) (fun hc29 => ?_) (fun hc29 => ?_)
        · replace h := g_pos (kb_1.mp hc29) h
          refine AW.aload_n dX11_isHelped_35 rfl ?_
          refine AW.dup dX11_isHelped_36 rfl ?_
          refine AW.getI (fX11_463 hG).r rfl (hm.1 0 _ rfl) dX11_isHelped_37 ?_
          refine AW.iconst 1 dX11_isHelped_40 (by decide) ?_
          refine AW.iload_n dX11_isHelped_41 rfl ?_
          refine AW.ishl dX11_isHelped_42 ?_
          refine AW.ior dX11_isHelped_43 ?_
          refine AW.putI (fX11_463 hG) rfl (vp_nar_int _) rfl (hm.1 0 _ rfl) dX11_isHelped_44 ?_
          obtain ⟨I4, eI4, h⟩ := g_letE h
          refine AW.namIE eI4 ?_
          refine AW.aload_n dX11_isHelped_47 rfl ?_
          refine AW.getR (c' := 130) (fX11_117 hG).r rfl (hm.1 0 _ rfl) (hm.2 (0, 49, 29) (by decide)) dX11_isHelped_48 ?_
          refine AW.iload_n dX11_isHelped_51 rfl ?_
          obtain ⟨hb, h⟩ := g_ifE h
          refine AW.iald (hm.1 29 _ rfl) (g_in_iff.mp hb) dX11_isHelped_52 ?_
          refine AW.iconst (-1) dX11_isHelped_53 (by decide) ?_
          refine AW.icmp_eq 73 dX11_isHelped_54 (by decide) (fun hc54 => ?_) (fun hc54 => ?_)
          · replace h := g_pos hc54 h
            refine AW.aload_n dX11_isHelped_73 rfl ?_
            refine AW.getR (c' := 130) (fX11_117 hG).r rfl (hm.1 0 _ rfl) (hm.2 (0, 49, 29) (by decide)) dX11_isHelped_74 ?_
            refine AW.iload_n dX11_isHelped_77 rfl ?_
            refine AW.iload_n dX11_isHelped_78 rfl ?_
            obtain ⟨hb, h⟩ := g_ifE h
            refine AW.iast (hm.1 29 _ rfl) (g_in_iff.mp hb) dX11_isHelped_79 ?_
            obtain ⟨I5, eI5, h⟩ := g_letE h
            refine AW.namIE eI5 ?_
            refine AW.iconst 1 dX11_isHelped_80 (by decide) ?_
            exact AW.zret dX11_isHelped_81 rfl (by decide) (by decide) (by decide) (by cases h; exact ⟨rfl, rfl⟩)
          · replace h := g_neg hc54 h
            refine AW.aload_n dX11_isHelped_57 rfl ?_
            refine AW.aload_n dX11_isHelped_58 rfl ?_
            refine AW.getR (c' := 130) (fX11_117 hG).r rfl (hm.1 0 _ rfl) (hm.2 (0, 49, 29) (by decide)) dX11_isHelped_59 ?_
            refine AW.iload_n dX11_isHelped_62 rfl ?_
            obtain ⟨hb, h⟩ := g_ifE h
            refine AW.iald (hm.1 29 _ rfl) (g_in_iff.mp hb) dX11_isHelped_63 ?_
            obtain ⟨t6, I7, hx8, h⟩ := g_bind2E h
            refine AW.callV (b := 101) (As := [.int (I4 130 x2.toNatClampNeg)]) hG.2.2 (vX11_466 hG) (hm.1 0 _ rfl) (ih9 hx8) (by omega) dX11_isHelped_64 rfl rfl (Nat.le_of_ble_eq_true rfl) (fun v w9 hq9 h09 => by obtain ⟨rfl, rfl⟩ := hq9; exact ⟨h09, rfl⟩) (by decide) (by decide) (fun _ _ hx => hx) (fun v9 w9 hq9 => ?_)
            obtain ⟨rfl, rfl⟩ := hq9
            show AW G _ d _ _ 67 [some (.ref 101), some (.int y1), some (.int x2)] [.int (kb t6)] (sh, I7, R, L, g) 0 0
            refine AW.if_ne 73 dX11_isHelped_67 (by decide) (fun hc67 => ?_) (fun hc67 => ?_)
            · replace h := g_pos (kb_1.mp hc67) h
              refine AW.aload_n dX11_isHelped_73 rfl ?_
              refine AW.getR (c' := 130) (fX11_117 hG).r rfl (hm.1 0 _ rfl) (hm.2 (0, 49, 29) (by decide)) dX11_isHelped_74 ?_
              refine AW.iload_n dX11_isHelped_77 rfl ?_
              refine AW.iload_n dX11_isHelped_78 rfl ?_
              obtain ⟨hb, h⟩ := g_ifE h
              refine AW.iast (hm.1 29 _ rfl) (g_in_iff.mp hb) dX11_isHelped_79 ?_
              obtain ⟨I9, eI9, h⟩ := g_letE h
              refine AW.namIE eI9 ?_
              refine AW.iconst 1 dX11_isHelped_80 (by decide) ?_
              exact AW.zret dX11_isHelped_81 rfl (by decide) (by decide) (by decide) (by cases h; exact ⟨rfl, rfl⟩)
            · replace h := g_neg (g_kb0 hc67) h
              refine AW.goto 82 dX11_isHelped_70 (by decide) ?_
              refine AW.incE 1 (by decide) [some (.ref 101), some (.int y1), some (.int (x2 + 1))] dX11_isHelped_82 rfl (by decide) rfl rfl ?_
              refine AW.goto 2 dX11_isHelped_85 (by decide) ?_
              exact ih h
        · replace h := g_neg (g_kb0 hc29) h
          refine AW.goto 82 dX11_isHelped_32 (by decide) ?_
          refine AW.incE 1 (by decide) [some (.ref 101), some (.int y1), some (.int (x2 + 1))] dX11_isHelped_82 rfl (by decide) rfl rfl ?_
          refine AW.goto 2 dX11_isHelped_85 (by decide) ?_
          exact ih h
set_option maxRecDepth 100000 in
set_option maxHeartbeats 4000000 in
theorem g_X11_isHelped {G : am_G} (hK : k_OK G) {rec : g_I → Int32 → Option (Bool × g_I)} {dr : Nat} {d : Nat} (hd : dr + 6 ≤ d) {sh : List (Nat ⊕ (Nat × Nat))} {I : g_I} {R : Nat → Nat → Option Nat} {L : Nat → Nat → Int64} {g : Nat} (hm : k_Mod sh R) {x1 : Int32} (ih9 : ∀ {I : g_I} {x1 : Int32} {r : Bool × g_I}, rec I x1 = some r → AM G mX11_isHelped dr [.ref 101, .int x1] (sh, I, R, L, g) (fun v w => v = some (.int (kb r.1)) ∧ w = (sh, r.2, R, L, g)) (fun _ _ => False)) {r : Bool × g_I} (h : b_X11_isHelped rec I x1 = some r) : AM G mX11_isHelped d [.ref 101, .int x1] (sh, I, R, L, g) (fun v w => v = some (.int (kb r.1)) ∧ w = (sh, r.2, R, L, g)) (fun _ _ => False) := by
  have hG := hK.1
  refine AM.of (n := 1) (by decide +kernel) (Nat.le_of_ble_eq_true rfl) ?_
  show AW G mX11_isHelped d (fun v w => v = some (.int (kb r.1)) ∧ w = (sh, r.2, R, L, g)) (fun _ _ => False) 0 [some (.ref 101), some (.int x1), none] [] (sh, I, R, L, g) 0 0
  unfold b_X11_isHelped at h
  refine AW.iconst 0 dX11_isHelped_0 (by decide) ?_
  refine AW.is_n [some (.ref 101), some (.int x1), some (.int 0)] dX11_isHelped_1 (by decide) rfl rfl ?_
  refine gL_X11_isHelped_2 hK hd hm ih9 h (fun I10 h => ?_)
  refine AW.iconst 0 dX11_isHelped_88 (by decide) ?_
  exact AW.zret dX11_isHelped_89 rfl (by decide) (by decide) (by decide) (by cases h; exact ⟨rfl, rfl⟩)
def c_X11_isHelped : Nat → g_I → Int32 → Option (Bool × g_I)
  | 0, _, _ => none
  | f + 1, I, x1 => b_X11_isHelped (c_X11_isHelped f) I x1
theorem gc_X11_isHelped {G : am_G} (hK : k_OK G) {sh : List (Nat ⊕ (Nat × Nat))} {R : Nat → Nat → Option Nat} {L : Nat → Nat → Int64} {g : Nat} (hm : k_Mod sh R) : ∀ (f : Nat) {d : Nat} (_ : 6 * f ≤ d) {I : g_I} {x1 : Int32} {r : Bool × g_I}, c_X11_isHelped f I x1 = some r → AM G mX11_isHelped d [.ref 101, .int x1] (sh, I, R, L, g) (fun v w => v = some (.int (kb r.1)) ∧ w = (sh, r.2, R, L, g)) (fun _ _ => False) := by
  intro f
  induction f with
  | zero => intro d hd I x1 r h; rw [c_X11_isHelped] at h; cases h
  | succ f ih => intro d hd I x1 r h; rw [c_X11_isHelped] at h; exact g_X11_isHelped hK (dr := 6 * f) (by rw [Nat.mul_succ] at hd; omega) hm (fun h9 => ih (Nat.le_refl _) h9) h
theorem g2_X11_isHelped {G : am_G} (hK : k_OK G) {d : Nat} (hd : 60 ≤ d) {sh : List (Nat ⊕ (Nat × Nat))} {I : g_I} {R : Nat → Nat → Option Nat} {L : Nat → Nat → Int64} {g : Nat} (hm : k_Mod sh R) {x1 : Int32} {r : Bool × g_I} (h : c_X11_isHelped 10 I x1 = some r) : AM G mX11_isHelped d [.ref 101, .int x1] (sh, I, R, L, g) (fun v w => v = some (.int (kb r.1)) ∧ w = (sh, r.2, R, L, g)) (fun _ _ => False) := gc_X11_isHelped hK hm 10 hd h
theorem dX11_help_0 : decode cX11_help 0 = .ok (.aload_n 0, 1) := by decide +kernel
theorem dX11_help_1 : decode cX11_help 1 = .ok (.iconst 0, 1) := by decide +kernel
theorem dX11_help_2 : decode cX11_help 2 = .ok (.putfield 159, 3) := by decide +kernel
theorem dX11_help_5 : decode cX11_help 5 = .ok (.iconst 0, 1) := by decide +kernel
theorem dX11_help_6 : decode cX11_help 6 = .ok (.istore_n 1, 1) := by decide +kernel
theorem dX11_help_7 : decode cX11_help 7 = .ok (.iconst 0, 1) := by decide +kernel
theorem dX11_help_8 : decode cX11_help 8 = .ok (.istore_n 2, 1) := by decide +kernel
theorem dX11_help_9 : decode cX11_help 9 = .ok (.iload_n 2, 1) := by decide +kernel
theorem dX11_help_10 : decode cX11_help 10 = .ok (.bipush 8, 2) := by decide +kernel
theorem dX11_help_12 : decode cX11_help 12 = .ok (.if_icmp .ge 16, 3) := by decide +kernel
theorem dX11_help_15 : decode cX11_help 15 = .ok (.aload_n 0, 1) := by decide +kernel
theorem dX11_help_16 : decode cX11_help 16 = .ok (.getfield 117, 3) := by decide +kernel
theorem dX11_help_19 : decode cX11_help 19 = .ok (.iload_n 2, 1) := by decide +kernel
theorem dX11_help_20 : decode cX11_help 20 = .ok (.iconst (-1), 1) := by decide +kernel
theorem dX11_help_21 : decode cX11_help 21 = .ok (.iastore, 1) := by decide +kernel
theorem dX11_help_22 : decode cX11_help 22 = .ok (.iinc 2 1, 3) := by decide +kernel
theorem dX11_help_25 : decode cX11_help 25 = .ok (.goto (-16), 3) := by decide +kernel
theorem dX11_help_28 : decode cX11_help 28 = .ok (.iconst 0, 1) := by decide +kernel
theorem dX11_help_29 : decode cX11_help 29 = .ok (.istore_n 2, 1) := by decide +kernel
theorem dX11_help_30 : decode cX11_help 30 = .ok (.iload_n 2, 1) := by decide +kernel
theorem dX11_help_31 : decode cX11_help 31 = .ok (.aload_n 0, 1) := by decide +kernel
theorem dX11_help_32 : decode cX11_help 32 = .ok (.getfield 38, 3) := by decide +kernel
theorem dX11_help_35 : decode cX11_help 35 = .ok (.iconst 1, 1) := by decide +kernel
theorem dX11_help_36 : decode cX11_help 36 = .ok (.iaload, 1) := by decide +kernel
theorem dX11_help_37 : decode cX11_help 37 = .ok (.if_icmp .ge 43, 3) := by decide +kernel
theorem dX11_help_40 : decode cX11_help 40 = .ok (.aload_n 0, 1) := by decide +kernel
theorem dX11_help_41 : decode cX11_help 41 = .ok (.getfield 83, 3) := by decide +kernel
theorem dX11_help_44 : decode cX11_help 44 = .ok (.iload_n 2, 1) := by decide +kernel
theorem dX11_help_45 : decode cX11_help 45 = .ok (.iaload, 1) := by decide +kernel
theorem dX11_help_46 : decode cX11_help 46 = .ok (.iconst (-1), 1) := by decide +kernel
theorem dX11_help_47 : decode cX11_help 47 = .ok (.if_icmp .eq 6, 3) := by decide +kernel
theorem dX11_help_50 : decode cX11_help 50 = .ok (.goto 24, 3) := by decide +kernel
theorem dX11_help_53 : decode cX11_help 53 = .ok (.aload_n 0, 1) := by decide +kernel
theorem dX11_help_54 : decode cX11_help 54 = .ok (.iconst 0, 1) := by decide +kernel
theorem dX11_help_55 : decode cX11_help 55 = .ok (.putfield 463, 3) := by decide +kernel
theorem dX11_help_58 : decode cX11_help 58 = .ok (.iload_n 1, 1) := by decide +kernel
theorem dX11_help_59 : decode cX11_help 59 = .ok (.aload_n 0, 1) := by decide +kernel
theorem dX11_help_60 : decode cX11_help 60 = .ok (.iload_n 2, 1) := by decide +kernel
theorem dX11_help_61 : decode cX11_help 61 = .ok (.invokevirtual 466, 3) := by decide +kernel
theorem dX11_help_64 : decode cX11_help 64 = .ok (.ifCond .eq 7, 3) := by decide +kernel
theorem dX11_help_67 : decode cX11_help 67 = .ok (.iconst 0, 1) := by decide +kernel
theorem dX11_help_68 : decode cX11_help 68 = .ok (.goto 4, 3) := by decide +kernel
theorem dX11_help_71 : decode cX11_help 71 = .ok (.iconst 1, 1) := by decide +kernel
theorem dX11_help_72 : decode cX11_help 72 = .ok (.iadd, 1) := by decide +kernel
theorem dX11_help_73 : decode cX11_help 73 = .ok (.istore_n 1, 1) := by decide +kernel
theorem dX11_help_74 : decode cX11_help 74 = .ok (.iinc 2 1, 3) := by decide +kernel
theorem dX11_help_77 : decode cX11_help 77 = .ok (.goto (-47), 3) := by decide +kernel
theorem dX11_help_80 : decode cX11_help 80 = .ok (.iload_n 1, 1) := by decide +kernel
theorem dX11_help_81 : decode cX11_help 81 = .ok (.ireturn, 1) := by decide +kernel
def b_X11_help_L9 (y1 : Int32) (K : g_I → Option (Int32 × g_I)) : Nat → Int32 → g_I → Option (Int32 × g_I)
  | 0, _, _ => none
  | f + 1, x2, I => if 8 ≤ x2 then K I else if g_in x2 8 = true then g_let (am_up I 130 x2.toNatClampNeg (-1)) fun I2 => b_X11_help_L9 y1 K f (x2 + 1) I2 else none
def b_X11_help_L30 (K : Int32 → g_I → Option (Int32 × g_I)) : Nat → Int32 → Int32 → g_I → Option (Int32 × g_I)
  | 0, _, _, _ => none
  | f + 1, x1, x2, I => if (I 104 1) ≤ x2 then K x1 I else if g_in x2 6 = true then if (I 118 x2.toNatClampNeg) = (-1) then g_let (am_up I 101 50 0) fun I4 => g_bind2 (c_X11_isHelped 10 I4 x2) fun t5 I6 => if t5 = true then g_let (x1 + 0) fun a9 => b_X11_help_L30 K f a9 (x2 + 1) I6 else g_let (x1 + 1) fun a8 => b_X11_help_L30 K f a8 (x2 + 1) I6 else b_X11_help_L30 K f x1 (x2 + 1) I else none
def b_X11_help (I : g_I) : Option (Int32 × g_I) :=
  g_let (am_up I 101 2 0) fun I1 => b_X11_help_L9 0 (fun (I3 : g_I) => b_X11_help_L30 (fun (a10 : Int32) (I11 : g_I) => some (a10, I11)) fu 0 0 I3) fu 0 I1
set_option maxRecDepth 100000 in
set_option maxHeartbeats 4000000 in
theorem gL_X11_help_9 {G : am_G} (hK : k_OK G) {d : Nat} (hd : 61 ≤ d) {sh : List (Nat ⊕ (Nat × Nat))} {I : g_I} {R : Nat → Nat → Option Nat} {L : Nat → Nat → Int64} {g : Nat} (hm : k_Mod sh R) {y1 : Int32} {K : g_I → Option (Int32 × g_I)} {x2 : Int32} {f : Nat} {r : Int32 × g_I} (h : b_X11_help_L9 y1 K f x2 I = some r) (hk : ∀ (J : g_I), K J = some r → AW G mX11_help d (fun v w => v = some (.int r.1) ∧ w = (sh, r.2, R, L, g)) (fun _ _ => False) 28 [some (.ref 101), some (.int y1), none] [] (sh, J, R, L, g) 0 0) : AW G mX11_help d (fun v w => v = some (.int r.1) ∧ w = (sh, r.2, R, L, g)) (fun _ _ => False) 9 [some (.ref 101), some (.int y1), some (.int x2)] [] (sh, I, R, L, g) 0 0 := by
  have hG := hK.1
  induction f generalizing x2 I with
  | zero => rw [b_X11_help_L9] at h; cases h
  | succ f ih =>
    rw [b_X11_help_L9] at h
    refine AW.iload_n dX11_help_9 rfl ?_
    refine AW.bipush 8 dX11_help_10 (by decide) ?_
    refine AW.icmp_ge 28 dX11_help_12 (by decide) (fun hc12 => ?_) (fun hc12 => ?_)
    · replace h := g_pos hc12 h
      refine AW.mask [2] [some (.ref 101), some (.int y1), none] rfl ?_
      exact hk _ h
    · replace h := g_neg hc12 h
      refine AW.aload_n dX11_help_15 rfl ?_
      refine AW.getR (c' := 130) (fX11_117 hG).r rfl (hm.1 0 _ rfl) (hm.2 (0, 49, 29) (by decide)) dX11_help_16 ?_
      refine AW.iload_n dX11_help_19 rfl ?_
      refine AW.iconst (-1) dX11_help_20 (by decide) ?_
      obtain ⟨hb, h⟩ := g_ifE h
      refine AW.iast (hm.1 29 _ rfl) (g_in_iff.mp hb) dX11_help_21 ?_
      obtain ⟨I2, eI2, h⟩ := g_letE h
      refine AW.namIE eI2 ?_
      refine AW.incE 1 (by decide) [some (.ref 101), some (.int y1), some (.int (x2 + 1))] dX11_help_22 rfl (by decide) rfl rfl ?_
      refine AW.goto 9 dX11_help_25 (by decide) ?_
      exact ih h
set_option maxRecDepth 100000 in
set_option maxHeartbeats 4000000 in
theorem gL_X11_help_30 {G : am_G} (hK : k_OK G) {d : Nat} (hd : 61 ≤ d) {sh : List (Nat ⊕ (Nat × Nat))} {I : g_I} {R : Nat → Nat → Option Nat} {L : Nat → Nat → Int64} {g : Nat} (hm : k_Mod sh R) {K : Int32 → g_I → Option (Int32 × g_I)} {x1 : Int32} {x2 : Int32} {f : Nat} {r : Int32 × g_I} (h : b_X11_help_L30 K f x1 x2 I = some r) (hk : ∀ (u1 : Int32) (J : g_I), K u1 J = some r → AW G mX11_help d (fun v w => v = some (.int r.1) ∧ w = (sh, r.2, R, L, g)) (fun _ _ => False) 80 [none, some (.int u1), none] [] (sh, J, R, L, g) 0 0) : AW G mX11_help d (fun v w => v = some (.int r.1) ∧ w = (sh, r.2, R, L, g)) (fun _ _ => False) 30 [some (.ref 101), some (.int x1), some (.int x2)] [] (sh, I, R, L, g) 0 0 := by
  have hG := hK.1
  induction f generalizing x1 x2 I with
  | zero => rw [b_X11_help_L30] at h; cases h
  | succ f ih =>
    rw [b_X11_help_L30] at h
    refine AW.iload_n dX11_help_30 rfl ?_
    refine AW.aload_n dX11_help_31 rfl ?_
    refine AW.getR (c' := 104) (fX11_38 hG).r rfl (hm.1 0 _ rfl) (hm.2 (0, 3, 3) (by decide)) dX11_help_32 ?_
    refine AW.iconst 1 dX11_help_35 (by decide) ?_
    refine AW.iald (hm.1 3 _ rfl) (by unfold vp_in; decide) dX11_help_36 ?_
    show AW G _ d _ _ 37 [some (.ref 101), some (.int x1), some (.int x2)] [.int (I 104 1), .int x2] (sh, I, R, L, g) 0 0
    refine AW.icmp_ge 80 dX11_help_37 (by decide) (fun hc37 => ?_) (fun hc37 => ?_)
    · replace h := g_pos hc37 h
      refine AW.mask [0, 2] [none, some (.int x1), none] rfl ?_
      exact hk _ _ h
    · replace h := g_neg hc37 h
      refine AW.aload_n dX11_help_40 rfl ?_
      refine AW.getR (c' := 118) (fX11_83 hG).r rfl (hm.1 0 _ rfl) (hm.2 (0, 27, 17) (by decide)) dX11_help_41 ?_
      refine AW.iload_n dX11_help_44 rfl ?_
      obtain ⟨hb, h⟩ := g_ifE h
      refine AW.iald (hm.1 17 _ rfl) (g_in_iff.mp hb) dX11_help_45 ?_
      refine AW.iconst (-1) dX11_help_46 (by decide) ?_
      refine AW.icmp_eq 53 dX11_help_47 (by decide) (fun hc47 => ?_) (fun hc47 => ?_)
      · replace h := g_pos hc47 h
        refine AW.aload_n dX11_help_53 rfl ?_
        refine AW.iconst 0 dX11_help_54 (by decide) ?_
        refine AW.putI (fX11_463 hG) rfl (vp_nar_int _) rfl (hm.1 0 _ rfl) dX11_help_55 ?_
        obtain ⟨I4, eI4, h⟩ := g_letE h
        refine AW.namIE eI4 ?_
        refine AW.iload_n dX11_help_58 rfl ?_
        refine AW.aload_n dX11_help_59 rfl ?_
        refine AW.iload_n dX11_help_60 rfl ?_
        obtain ⟨t5, I6, hx7, h⟩ := g_bind2E h
        refine AW.callV (b := 101) (As := [.int x2]) hG.2.2 (vX11_466 hG) (hm.1 0 _ rfl) (g2_X11_isHelped hK (d := 60) (Nat.le_refl _) hm hx7) (by omega) dX11_help_61 rfl rfl (Nat.le_of_ble_eq_true rfl) (fun v w9 hq9 h09 => by obtain ⟨rfl, rfl⟩ := hq9; exact ⟨h09, rfl⟩) (by decide) (by decide) (fun _ _ hx => hx) (fun v9 w9 hq9 => ?_)
        obtain ⟨rfl, rfl⟩ := hq9
        show AW G _ d _ _ 64 [some (.ref 101), some (.int x1), some (.int x2)] [.int (kb t5), .int x1] (sh, I6, R, L, g) 0 0
        refine AW.if_eq 71 dX11_help_64 (by decide) (fun hc64 => ?_) (fun hc64 => ?_)
        · replace h := g_neg (g_kb0 hc64) h
          refine AW.iconst 1 dX11_help_71 (by decide) ?_
          refine AW.iadd dX11_help_72 ?_
          obtain ⟨a8, ea8, h⟩ := g_letE h
          refine AW.namE ea8 ?_
          refine AW.is_n [some (.ref 101), some (.int a8), some (.int x2)] dX11_help_73 (by decide) rfl rfl ?_
          refine AW.incE 1 (by decide) [some (.ref 101), some (.int a8), some (.int (x2 + 1))] dX11_help_74 rfl (by decide) rfl rfl ?_
          refine AW.goto 30 dX11_help_77 (by decide) ?_
          exact ih h
        · replace h := g_pos (kb_1.mp hc64) h
          refine AW.iconst 0 dX11_help_67 (by decide) ?_
          refine AW.goto 72 dX11_help_68 (by decide) ?_
          refine AW.iadd dX11_help_72 ?_
          obtain ⟨a9, ea9, h⟩ := g_letE h
          refine AW.namE ea9 ?_
          refine AW.is_n [some (.ref 101), some (.int a9), some (.int x2)] dX11_help_73 (by decide) rfl rfl ?_
          refine AW.incE 1 (by decide) [some (.ref 101), some (.int a9), some (.int (x2 + 1))] dX11_help_74 rfl (by decide) rfl rfl ?_
          refine AW.goto 30 dX11_help_77 (by decide) ?_
          exact ih h
      · replace h := g_neg hc47 h
        refine AW.goto 74 dX11_help_50 (by decide) ?_
        refine AW.incE 1 (by decide) [some (.ref 101), some (.int x1), some (.int (x2 + 1))] dX11_help_74 rfl (by decide) rfl rfl ?_
        refine AW.goto 30 dX11_help_77 (by decide) ?_
        exact ih h
set_option maxRecDepth 100000 in
set_option maxHeartbeats 4000000 in
theorem g_X11_help {G : am_G} (hK : k_OK G) {d : Nat} (hd : 61 ≤ d) {sh : List (Nat ⊕ (Nat × Nat))} {I : g_I} {R : Nat → Nat → Option Nat} {L : Nat → Nat → Int64} {g : Nat} (hm : k_Mod sh R) {r : Int32 × g_I} (h : b_X11_help I = some r) : AM G mX11_help d [.ref 101] (sh, I, R, L, g) (fun v w => v = some (.int r.1) ∧ w = (sh, r.2, R, L, g)) (fun _ _ => False) := by
  have hG := hK.1
  refine AM.of (n := 2) (by decide +kernel) (Nat.le_of_ble_eq_true rfl) ?_
  show AW G mX11_help d (fun v w => v = some (.int r.1) ∧ w = (sh, r.2, R, L, g)) (fun _ _ => False) 0 [some (.ref 101), none, none] [] (sh, I, R, L, g) 0 0
  unfold b_X11_help at h
  refine AW.aload_n dX11_help_0 rfl ?_
  refine AW.iconst 0 dX11_help_1 (by decide) ?_
  refine AW.putI (fX11_159 hG) rfl (vp_nar_int _) rfl (hm.1 0 _ rfl) dX11_help_2 ?_
  obtain ⟨I1, eI1, h⟩ := g_letE h
  refine AW.namIE eI1 ?_
  refine AW.iconst 0 dX11_help_5 (by decide) ?_
  refine AW.is_n [some (.ref 101), some (.int 0), none] dX11_help_6 (by decide) rfl rfl ?_
  refine AW.iconst 0 dX11_help_7 (by decide) ?_
  refine AW.is_n [some (.ref 101), some (.int 0), some (.int 0)] dX11_help_8 (by decide) rfl rfl ?_
  refine gL_X11_help_9 hK hd hm h (fun I3 h => ?_)
  refine AW.iconst 0 dX11_help_28 (by decide) ?_
  refine AW.is_n [some (.ref 101), some (.int 0), some (.int 0)] dX11_help_29 (by decide) rfl rfl ?_
  refine gL_X11_help_30 hK hd hm h (fun a10 I11 h => ?_)
  refine AW.iload_n dX11_help_80 rfl ?_
  exact AW.iret dX11_help_81 rfl (by decide) (by decide) (by cases h; exact ⟨rfl, rfl⟩)
theorem dX11_peopleIn_0 : decode cX11_peopleIn 0 = .ok (.iconst 0, 1) := by decide +kernel
theorem dX11_peopleIn_1 : decode cX11_peopleIn 1 = .ok (.istore_n 2, 1) := by decide +kernel
theorem dX11_peopleIn_2 : decode cX11_peopleIn 2 = .ok (.iconst 0, 1) := by decide +kernel
theorem dX11_peopleIn_3 : decode cX11_peopleIn 3 = .ok (.istore_n 3, 1) := by decide +kernel
theorem dX11_peopleIn_4 : decode cX11_peopleIn 4 = .ok (.iload_n 3, 1) := by decide +kernel
theorem dX11_peopleIn_5 : decode cX11_peopleIn 5 = .ok (.aload_n 0, 1) := by decide +kernel
theorem dX11_peopleIn_6 : decode cX11_peopleIn 6 = .ok (.getfield 38, 3) := by decide +kernel
theorem dX11_peopleIn_9 : decode cX11_peopleIn 9 = .ok (.iconst 0, 1) := by decide +kernel
theorem dX11_peopleIn_10 : decode cX11_peopleIn 10 = .ok (.iaload, 1) := by decide +kernel
theorem dX11_peopleIn_11 : decode cX11_peopleIn 11 = .ok (.if_icmp .ge 28, 3) := by decide +kernel
theorem dX11_peopleIn_14 : decode cX11_peopleIn 14 = .ok (.iload_n 1, 1) := by decide +kernel
theorem dX11_peopleIn_15 : decode cX11_peopleIn 15 = .ok (.aload_n 0, 1) := by decide +kernel
theorem dX11_peopleIn_16 : decode cX11_peopleIn 16 = .ok (.getfield 44, 3) := by decide +kernel
theorem dX11_peopleIn_19 : decode cX11_peopleIn 19 = .ok (.iload_n 3, 1) := by decide +kernel
theorem dX11_peopleIn_20 : decode cX11_peopleIn 20 = .ok (.iaload, 1) := by decide +kernel
theorem dX11_peopleIn_21 : decode cX11_peopleIn 21 = .ok (.invokestatic 278, 3) := by decide +kernel
theorem dX11_peopleIn_24 : decode cX11_peopleIn 24 = .ok (.ifCond .eq 9, 3) := by decide +kernel
theorem dX11_peopleIn_27 : decode cX11_peopleIn 27 = .ok (.iload_n 2, 1) := by decide +kernel
theorem dX11_peopleIn_28 : decode cX11_peopleIn 28 = .ok (.iconst 1, 1) := by decide +kernel
theorem dX11_peopleIn_29 : decode cX11_peopleIn 29 = .ok (.iload_n 3, 1) := by decide +kernel
theorem dX11_peopleIn_30 : decode cX11_peopleIn 30 = .ok (.ishl, 1) := by decide +kernel
theorem dX11_peopleIn_31 : decode cX11_peopleIn 31 = .ok (.ior, 1) := by decide +kernel
theorem dX11_peopleIn_32 : decode cX11_peopleIn 32 = .ok (.istore_n 2, 1) := by decide +kernel
theorem dX11_peopleIn_33 : decode cX11_peopleIn 33 = .ok (.iinc 3 1, 3) := by decide +kernel
theorem dX11_peopleIn_36 : decode cX11_peopleIn 36 = .ok (.goto (-32), 3) := by decide +kernel
theorem dX11_peopleIn_39 : decode cX11_peopleIn 39 = .ok (.iload_n 2, 1) := by decide +kernel
theorem dX11_peopleIn_40 : decode cX11_peopleIn 40 = .ok (.ireturn, 1) := by decide +kernel
def b_X11_peopleIn_L4 (I : g_I) (y1 : Int32) (K : Int32 → Option (Int32)) : Nat → Int32 → Int32 → Option (Int32)
  | 0, _, _ => none
  | f + 1, x2, x3 => if (I 104 0) ≤ x3 then K x2 else if g_in x3 16 = true then if b_X11_isOf y1 (I 106 x3.toNatClampNeg) = true then g_let (x2 ||| ((1 : Int32) <<< (x3 &&& 31))) fun a1 => b_X11_peopleIn_L4 I y1 K f a1 (x3 + 1) else b_X11_peopleIn_L4 I y1 K f x2 (x3 + 1) else none
def b_X11_peopleIn (I : g_I) (x1 : Int32) : Option (Int32) :=
  b_X11_peopleIn_L4 I x1 (fun (a2 : Int32) => some a2) fu 0 0
set_option maxRecDepth 100000 in
set_option maxHeartbeats 4000000 in
theorem gL_X11_peopleIn_4 {G : am_G} (hK : k_OK G) {d : Nat} (hd : 1 ≤ d) {sh : List (Nat ⊕ (Nat × Nat))} {I : g_I} {R : Nat → Nat → Option Nat} {L : Nat → Nat → Int64} {g : Nat} (hm : k_Mod sh R) {y1 : Int32} {K : Int32 → Option (Int32)} {x2 : Int32} {x3 : Int32} {f : Nat} {r : Int32} (h : b_X11_peopleIn_L4 I y1 K f x2 x3 = some r) (hk : ∀ (u2 : Int32), K u2 = some r → AW G mX11_peopleIn d (fun v w => v = some (.int r) ∧ w = (sh, I, R, L, g)) (fun _ _ => False) 39 [none, none, some (.int u2), none] [] (sh, I, R, L, g) 0 0) : AW G mX11_peopleIn d (fun v w => v = some (.int r) ∧ w = (sh, I, R, L, g)) (fun _ _ => False) 4 [some (.ref 101), some (.int y1), some (.int x2), some (.int x3)] [] (sh, I, R, L, g) 0 0 := by
  have hG := hK.1
  induction f generalizing x2 x3 with
  | zero => rw [b_X11_peopleIn_L4] at h; cases h
  | succ f ih =>
    rw [b_X11_peopleIn_L4] at h
    refine AW.iload_n dX11_peopleIn_4 rfl ?_
    refine AW.aload_n dX11_peopleIn_5 rfl ?_
    refine AW.getR (c' := 104) (fX11_38 hG).r rfl (hm.1 0 _ rfl) (hm.2 (0, 3, 3) (by decide)) dX11_peopleIn_6 ?_
    refine AW.iconst 0 dX11_peopleIn_9 (by decide) ?_
    refine AW.iald (hm.1 3 _ rfl) (by unfold vp_in; decide) dX11_peopleIn_10 ?_
    show AW G _ d _ _ 11 [some (.ref 101), some (.int y1), some (.int x2), some (.int x3)] [.int (I 104 0), .int x3] (sh, I, R, L, g) 0 0
    refine AW.icmp_ge 39 dX11_peopleIn_11 (by decide) (fun hc11 => ?_) (fun hc11 => ?_)
    · replace h := g_pos hc11 h
      refine AW.mask [0, 1, 3] [none, none, some (.int x2), none] rfl ?_
      exact hk _ h
    · replace h := g_neg hc11 h
      refine AW.iload_n dX11_peopleIn_14 rfl ?_
      refine AW.aload_n dX11_peopleIn_15 rfl ?_
      refine AW.getR (c' := 106) (fX11_44 hG).r rfl (hm.1 0 _ rfl) (hm.2 (0, 5, 5) (by decide)) dX11_peopleIn_16 ?_
      refine AW.iload_n dX11_peopleIn_19 rfl ?_
      obtain ⟨hb, h⟩ := g_ifE h
      refine AW.iald (hm.1 5 _ rfl) (g_in_iff.mp hb) dX11_peopleIn_20 ?_
      refine AW.callS (As := [.int y1, .int (I 106 x3.toNatClampNeg)]) hG.2.2 (vX11_278 hG) (g_X11_isOf hK (d := 0) (Nat.le_refl _)) (by omega) dX11_peopleIn_21 rfl rfl (Nat.le_of_ble_eq_true rfl) (fun v w9 hq9 h09 => by obtain ⟨rfl, rfl⟩ := hq9; exact ⟨h09, rfl⟩) (by decide) (by decide) (fun _ _ hx => hx) (fun v9 w9 hq9 => ?_)
      obtain ⟨rfl, rfl⟩ := hq9
      show AW G _ d _ _ 24 [some (.ref 101), some (.int y1), some (.int x2), some (.int x3)] [.int (kb (b_X11_isOf y1 (I 106 x3.toNatClampNeg)))] (sh, I, R, L, g) 0 0
      refine AW.if_eq 33 dX11_peopleIn_24 (by decide) (fun hc24 => ?_) (fun hc24 => ?_)
      · replace h := g_neg (g_kb0 hc24) h
        refine AW.incE 1 (by decide) [some (.ref 101), some (.int y1), some (.int x2), some (.int (x3 + 1))] dX11_peopleIn_33 rfl (by decide) rfl rfl ?_
        refine AW.goto 4 dX11_peopleIn_36 (by decide) ?_
        exact ih h
      · replace h := g_pos (kb_1.mp hc24) h
        refine AW.iload_n dX11_peopleIn_27 rfl ?_
        refine AW.iconst 1 dX11_peopleIn_28 (by decide) ?_
        refine AW.iload_n dX11_peopleIn_29 rfl ?_
        refine AW.ishl dX11_peopleIn_30 ?_
        refine AW.ior dX11_peopleIn_31 ?_
        obtain ⟨a1, ea1, h⟩ := g_letE h
        refine AW.namE ea1 ?_
        refine AW.is_n [some (.ref 101), some (.int y1), some (.int a1), some (.int x3)] dX11_peopleIn_32 (by decide) rfl rfl ?_
        refine AW.incE 1 (by decide) [some (.ref 101), some (.int y1), some (.int a1), some (.int (x3 + 1))] dX11_peopleIn_33 rfl (by decide) rfl rfl ?_
        refine AW.goto 4 dX11_peopleIn_36 (by decide) ?_
        exact ih h
set_option maxRecDepth 100000 in
set_option maxHeartbeats 4000000 in
theorem g_X11_peopleIn {G : am_G} (hK : k_OK G) {d : Nat} (hd : 1 ≤ d) {sh : List (Nat ⊕ (Nat × Nat))} {I : g_I} {R : Nat → Nat → Option Nat} {L : Nat → Nat → Int64} {g : Nat} (hm : k_Mod sh R) {x1 : Int32} {r : Int32} (h : b_X11_peopleIn I x1 = some r) : AM G mX11_peopleIn d [.ref 101, .int x1] (sh, I, R, L, g) (fun v w => v = some (.int r) ∧ w = (sh, I, R, L, g)) (fun _ _ => False) := by
  have hG := hK.1
  refine AM.of (n := 2) (by decide +kernel) (Nat.le_of_ble_eq_true rfl) ?_
  show AW G mX11_peopleIn d (fun v w => v = some (.int r) ∧ w = (sh, I, R, L, g)) (fun _ _ => False) 0 [some (.ref 101), some (.int x1), none, none] [] (sh, I, R, L, g) 0 0
  unfold b_X11_peopleIn at h
  refine AW.iconst 0 dX11_peopleIn_0 (by decide) ?_
  refine AW.is_n [some (.ref 101), some (.int x1), some (.int 0), none] dX11_peopleIn_1 (by decide) rfl rfl ?_
  refine AW.iconst 0 dX11_peopleIn_2 (by decide) ?_
  refine AW.is_n [some (.ref 101), some (.int x1), some (.int 0), some (.int 0)] dX11_peopleIn_3 (by decide) rfl rfl ?_
  refine gL_X11_peopleIn_4 hK hd hm h (fun a2 h => ?_)
  refine AW.iload_n dX11_peopleIn_39 rfl ?_
  exact AW.iret dX11_peopleIn_40 rfl (by decide) (by decide) (by cases h; exact ⟨rfl, rfl⟩)
theorem dX11_doors_0 : decode cX11_doors 0 = .ok (.aload_n 0, 1) := by decide +kernel
theorem dX11_doors_1 : decode cX11_doors 1 = .ok (.iconst 0, 1) := by decide +kernel
theorem dX11_doors_2 : decode cX11_doors 2 = .ok (.putfield 159, 3) := by decide +kernel
theorem dX11_doors_5 : decode cX11_doors 5 = .ok (.iconst (-1), 1) := by decide +kernel
theorem dX11_doors_6 : decode cX11_doors 6 = .ok (.istore_n 1, 1) := by decide +kernel
theorem dX11_doors_7 : decode cX11_doors 7 = .ok (.iconst 0, 1) := by decide +kernel
theorem dX11_doors_8 : decode cX11_doors 8 = .ok (.istore_n 2, 1) := by decide +kernel
theorem dX11_doors_9 : decode cX11_doors 9 = .ok (.iload_n 2, 1) := by decide +kernel
theorem dX11_doors_10 : decode cX11_doors 10 = .ok (.sipush 1024, 3) := by decide +kernel
theorem dX11_doors_13 : decode cX11_doors 13 = .ok (.if_icmp .ge 102, 3) := by decide +kernel
theorem dX11_doors_16 : decode cX11_doors 16 = .ok (.iload_n 1, 1) := by decide +kernel
theorem dX11_doors_17 : decode cX11_doors 17 = .ok (.iconst (-1), 1) := by decide +kernel
theorem dX11_doors_18 : decode cX11_doors 18 = .ok (.if_icmp .eq 14, 3) := by decide +kernel
theorem dX11_doors_21 : decode cX11_doors 21 = .ok (.iload_n 2, 1) := by decide +kernel
theorem dX11_doors_22 : decode cX11_doors 22 = .ok (.invokestatic 421, 3) := by decide +kernel
theorem dX11_doors_25 : decode cX11_doors 25 = .ok (.iload_n 1, 1) := by decide +kernel
theorem dX11_doors_26 : decode cX11_doors 26 = .ok (.invokestatic 421, 3) := by decide +kernel
theorem dX11_doors_29 : decode cX11_doors 29 = .ok (.if_icmp .ge 7, 3) := by decide +kernel
theorem dX11_doors_32 : decode cX11_doors 32 = .ok (.iconst 1, 1) := by decide +kernel
theorem dX11_doors_33 : decode cX11_doors 33 = .ok (.goto 4, 3) := by decide +kernel
theorem dX11_doors_36 : decode cX11_doors 36 = .ok (.iconst 0, 1) := by decide +kernel
theorem dX11_doors_37 : decode cX11_doors 37 = .ok (.istore_n 3, 1) := by decide +kernel
theorem dX11_doors_38 : decode cX11_doors 38 = .ok (.iconst 0, 1) := by decide +kernel
theorem dX11_doors_39 : decode cX11_doors 39 = .ok (.istore 4, 2) := by decide +kernel
theorem dX11_doors_41 : decode cX11_doors 41 = .ok (.iload 4, 2) := by decide +kernel
theorem dX11_doors_43 : decode cX11_doors 43 = .ok (.aload_n 0, 1) := by decide +kernel
theorem dX11_doors_44 : decode cX11_doors 44 = .ok (.getfield 38, 3) := by decide +kernel
theorem dX11_doors_47 : decode cX11_doors 47 = .ok (.iconst 1, 1) := by decide +kernel
theorem dX11_doors_48 : decode cX11_doors 48 = .ok (.iaload, 1) := by decide +kernel
theorem dX11_doors_49 : decode cX11_doors 49 = .ok (.if_icmp .ge 54, 3) := by decide +kernel
theorem dX11_doors_52 : decode cX11_doors 52 = .ok (.iload_n 3, 1) := by decide +kernel
theorem dX11_doors_53 : decode cX11_doors 53 = .ok (.ifCond .eq 50, 3) := by decide +kernel
theorem dX11_doors_56 : decode cX11_doors 56 = .ok (.aload_n 0, 1) := by decide +kernel
theorem dX11_doors_57 : decode cX11_doors 57 = .ok (.getfield 83, 3) := by decide +kernel
theorem dX11_doors_60 : decode cX11_doors 60 = .ok (.iload 4, 2) := by decide +kernel
theorem dX11_doors_62 : decode cX11_doors 62 = .ok (.iaload, 1) := by decide +kernel
theorem dX11_doors_63 : decode cX11_doors 63 = .ok (.iconst (-1), 1) := by decide +kernel
theorem dX11_doors_64 : decode cX11_doors 64 = .ok (.if_icmp .ne 27, 3) := by decide +kernel
theorem dX11_doors_67 : decode cX11_doors 67 = .ok (.aload_n 0, 1) := by decide +kernel
theorem dX11_doors_68 : decode cX11_doors 68 = .ok (.iload 4, 2) := by decide +kernel
theorem dX11_doors_70 : decode cX11_doors 70 = .ok (.invokevirtual 456, 3) := by decide +kernel
theorem dX11_doors_73 : decode cX11_doors 73 = .ok (.ifCond .eq 18, 3) := by decide +kernel
theorem dX11_doors_76 : decode cX11_doors 76 = .ok (.aload_n 0, 1) := by decide +kernel
theorem dX11_doors_77 : decode cX11_doors 77 = .ok (.iload 4, 2) := by decide +kernel
theorem dX11_doors_79 : decode cX11_doors 79 = .ok (.invokevirtual 456, 3) := by decide +kernel
theorem dX11_doors_82 : decode cX11_doors 82 = .ok (.aload_n 0, 1) := by decide +kernel
theorem dX11_doors_83 : decode cX11_doors 83 = .ok (.iload_n 2, 1) := by decide +kernel
theorem dX11_doors_84 : decode cX11_doors 84 = .ok (.invokevirtual 469, 3) := by decide +kernel
theorem dX11_doors_87 : decode cX11_doors 87 = .ok (.iand, 1) := by decide +kernel
theorem dX11_doors_88 : decode cX11_doors 88 = .ok (.ifCond .eq 7, 3) := by decide +kernel
theorem dX11_doors_91 : decode cX11_doors 91 = .ok (.iconst 1, 1) := by decide +kernel
theorem dX11_doors_92 : decode cX11_doors 92 = .ok (.goto 4, 3) := by decide +kernel
theorem dX11_doors_95 : decode cX11_doors 95 = .ok (.iconst 0, 1) := by decide +kernel
theorem dX11_doors_96 : decode cX11_doors 96 = .ok (.istore_n 3, 1) := by decide +kernel
theorem dX11_doors_97 : decode cX11_doors 97 = .ok (.iinc 4 1, 3) := by decide +kernel
theorem dX11_doors_100 : decode cX11_doors 100 = .ok (.goto (-59), 3) := by decide +kernel
theorem dX11_doors_103 : decode cX11_doors 103 = .ok (.iload_n 3, 1) := by decide +kernel
theorem dX11_doors_104 : decode cX11_doors 104 = .ok (.ifCond .eq 5, 3) := by decide +kernel
theorem dX11_doors_107 : decode cX11_doors 107 = .ok (.iload_n 2, 1) := by decide +kernel
theorem dX11_doors_108 : decode cX11_doors 108 = .ok (.istore_n 1, 1) := by decide +kernel
theorem dX11_doors_109 : decode cX11_doors 109 = .ok (.iinc 2 1, 3) := by decide +kernel
theorem dX11_doors_112 : decode cX11_doors 112 = .ok (.goto (-103), 3) := by decide +kernel
theorem dX11_doors_115 : decode cX11_doors 115 = .ok (.iload_n 1, 1) := by decide +kernel
theorem dX11_doors_116 : decode cX11_doors 116 = .ok (.ireturn, 1) := by decide +kernel
def b_X11_doors_L41 (I : g_I) (y1 : Int32) (y2 : Int32) (K : Int32 → Option (Int32 × g_I)) : Nat → Int32 → Int32 → Option (Int32 × g_I)
  | 0, _, _ => none
  | f + 1, x3, x4 => if (I 104 1) ≤ x4 then K x3 else if x3 = 0 then K x3 else if g_in x4 6 = true then if (I 118 x4.toNatClampNeg) = (-1) then g_bind (b_X11_cutters I x4) fun a2 => if a2 = 0 then b_X11_doors_L41 I y1 y2 K f 1 (x4 + 1) else g_bind (b_X11_cutters I x4) fun a5 => g_bind (b_X11_peopleIn I y2) fun a8 => if (a5 &&& a8) = 0 then b_X11_doors_L41 I y1 y2 K f 0 (x4 + 1) else b_X11_doors_L41 I y1 y2 K f 1 (x4 + 1) else b_X11_doors_L41 I y1 y2 K f 1 (x4 + 1) else none
def b_X11_doors_L9 (I : g_I) (K : Int32 → Option (Int32 × g_I)) : Nat → Int32 → Int32 → Option (Int32 × g_I)
  | 0, _, _ => none
  | f + 1, x1, x2 => g_let (fun (z1 : Int32) (z2 : Int32) (w0 : Int32) => b_X11_doors_L41 I z1 z2 (fun (a11 : Int32) => if a11 = 0 then b_X11_doors_L9 I K f z1 (z2 + 1) else b_X11_doors_L9 I K f z2 (z2 + 1)) fu w0 0) fun J37 => if 1024 ≤ x2 then K x1 else if x1 = (-1) then J37 x1 x2 1 else g_bind (b_X11_bitsOf x2) fun a12 => g_bind (b_X11_bitsOf x1) fun a15 => if a15 ≤ a12 then J37 x1 x2 0 else J37 x1 x2 1
def b_X11_doors (I : g_I) : Option (Int32 × g_I) :=
  g_let (am_up I 101 2 0) fun I1 => b_X11_doors_L9 I1 (fun (a18 : Int32) => some (a18, I1)) fu (-1) 0
set_option maxRecDepth 100000 in
set_option maxHeartbeats 4000000 in
theorem gL_X11_doors_41 {G : am_G} (hK : k_OK G) {d : Nat} (hd : 7 ≤ d) {sh : List (Nat ⊕ (Nat × Nat))} {I : g_I} {R : Nat → Nat → Option Nat} {L : Nat → Nat → Int64} {g : Nat} (hm : k_Mod sh R) {y1 : Int32} {y2 : Int32} {K : Int32 → Option (Int32 × g_I)} {x3 : Int32} {x4 : Int32} {f : Nat} {r : Int32 × g_I} (h : b_X11_doors_L41 I y1 y2 K f x3 x4 = some r) (hk : ∀ (u3 : Int32), K u3 = some r → AW G mX11_doors d (fun v w => v = some (.int r.1) ∧ w = (sh, r.2, R, L, g)) (fun _ _ => False) 103 [some (.ref 101), some (.int y1), some (.int y2), some (.int u3), none] [] (sh, I, R, L, g) 0 0) : AW G mX11_doors d (fun v w => v = some (.int r.1) ∧ w = (sh, r.2, R, L, g)) (fun _ _ => False) 41 [some (.ref 101), some (.int y1), some (.int y2), some (.int x3), some (.int x4)] [] (sh, I, R, L, g) 0 0 := by
  have hG := hK.1
  induction f generalizing x3 x4 with
  | zero => rw [b_X11_doors_L41] at h; cases h
  | succ f ih =>
    rw [b_X11_doors_L41] at h
    refine AW.iload dX11_doors_41 rfl ?_
    refine AW.aload_n dX11_doors_43 rfl ?_
    refine AW.getR (c' := 104) (fX11_38 hG).r rfl (hm.1 0 _ rfl) (hm.2 (0, 3, 3) (by decide)) dX11_doors_44 ?_
    refine AW.iconst 1 dX11_doors_47 (by decide) ?_
    refine AW.iald (hm.1 3 _ rfl) (by unfold vp_in; decide) dX11_doors_48 ?_
    show AW G _ d _ _ 49 [some (.ref 101), some (.int y1), some (.int y2), some (.int x3), some (.int x4)] [.int (I 104 1), .int x4] (sh, I, R, L, g) 0 0
    refine AW.icmp_ge 103 dX11_doors_49 (by decide) (fun hc49 => ?_) (fun hc49 => ?_)
    · replace h := g_pos hc49 h
      refine AW.mask [4] [some (.ref 101), some (.int y1), some (.int y2), some (.int x3), none] rfl ?_
      exact hk _ h
    · replace h := g_neg hc49 h
      refine AW.iload_n dX11_doors_52 rfl ?_
      refine AW.if_eq 103 dX11_doors_53 (by decide) (fun hc53 => ?_) (fun hc53 => ?_)
      · replace h := g_pos hc53 h
        refine AW.mask [4] [some (.ref 101), some (.int y1), some (.int y2), some (.int x3), none] rfl ?_
        exact hk _ h
      · replace h := g_neg hc53 h
        refine AW.aload_n dX11_doors_56 rfl ?_
        refine AW.getR (c' := 118) (fX11_83 hG).r rfl (hm.1 0 _ rfl) (hm.2 (0, 27, 17) (by decide)) dX11_doors_57 ?_
        refine AW.iload dX11_doors_60 rfl ?_
        obtain ⟨hb, h⟩ := g_ifE h
        refine AW.iald (hm.1 17 _ rfl) (g_in_iff.mp hb) dX11_doors_62 ?_
        refine AW.iconst (-1) dX11_doors_63 (by decide) ?_
        refine AW.icmp_ne 91 dX11_doors_64 (by decide) (fun hc64 => ?_) (fun hc64 => ?_)
        · replace h := g_neg hc64 h
          refine AW.iconst 1 dX11_doors_91 (by decide) ?_
          refine AW.goto 96 dX11_doors_92 (by decide) ?_
          refine AW.is_n [some (.ref 101), some (.int y1), some (.int y2), some (.int 1), some (.int x4)] dX11_doors_96 (by decide) rfl rfl ?_
          refine AW.incE 1 (by decide) [some (.ref 101), some (.int y1), some (.int y2), some (.int 1), some (.int (x4 + 1))] dX11_doors_97 rfl (by decide) rfl rfl ?_
          refine AW.goto 41 dX11_doors_100 (by decide) ?_
          exact ih h
        · replace h := g_pos hc64 h
          refine AW.aload_n dX11_doors_67 rfl ?_
          refine AW.iload dX11_doors_68 rfl ?_
          obtain ⟨a2, hx4, h⟩ := g_bindE h
          refine AW.callV (b := 101) (As := [.int x4]) hG.2.2 (vX11_456 hG) (hm.1 0 _ rfl) (g_X11_cutters hK (d := 6) (Nat.le_refl _) hm hx4) (by omega) dX11_doors_70 rfl rfl (Nat.le_of_ble_eq_true rfl) (fun v w9 hq9 h09 => by obtain ⟨rfl, rfl⟩ := hq9; exact ⟨h09, rfl⟩) (by decide) (by decide) (fun _ _ hx => hx) (fun v9 w9 hq9 => ?_)
          obtain ⟨rfl, rfl⟩ := hq9
          show AW G _ d _ _ 73 [some (.ref 101), some (.int y1), some (.int y2), some (.int x3), some (.int x4)] [.int a2] (sh, I, R, L, g) 0 0
          refine AW.if_eq 91 dX11_doors_73 (by decide) (fun hc73 => ?_) (fun hc73 => ?_)
          · replace h := g_pos hc73 h
            refine AW.iconst 1 dX11_doors_91 (by decide) ?_
            refine AW.goto 96 dX11_doors_92 (by decide) ?_
            refine AW.is_n [some (.ref 101), some (.int y1), some (.int y2), some (.int 1), some (.int x4)] dX11_doors_96 (by decide) rfl rfl ?_
            refine AW.incE 1 (by decide) [some (.ref 101), some (.int y1), some (.int y2), some (.int 1), some (.int (x4 + 1))] dX11_doors_97 rfl (by decide) rfl rfl ?_
            refine AW.goto 41 dX11_doors_100 (by decide) ?_
            exact ih h
          · replace h := g_neg hc73 h
            refine AW.aload_n dX11_doors_76 rfl ?_
            refine AW.iload dX11_doors_77 rfl ?_
            obtain ⟨a5, hx7, h⟩ := g_bindE h
            refine AW.callV (b := 101) (As := [.int x4]) hG.2.2 (vX11_456 hG) (hm.1 0 _ rfl) (g_X11_cutters hK (d := 6) (Nat.le_refl _) hm hx7) (by omega) dX11_doors_79 rfl rfl (Nat.le_of_ble_eq_true rfl) (fun v w9 hq9 h09 => by obtain ⟨rfl, rfl⟩ := hq9; exact ⟨h09, rfl⟩) (by decide) (by decide) (fun _ _ hx => hx) (fun v9 w9 hq9 => ?_)
            obtain ⟨rfl, rfl⟩ := hq9
            show AW G _ d _ _ 82 [some (.ref 101), some (.int y1), some (.int y2), some (.int x3), some (.int x4)] [.int a5] (sh, I, R, L, g) 0 0
            refine AW.aload_n dX11_doors_82 rfl ?_
            refine AW.iload_n dX11_doors_83 rfl ?_
            obtain ⟨a8, hx10, h⟩ := g_bindE h
            refine AW.callV (b := 101) (As := [.int y2]) hG.2.2 (vX11_469 hG) (hm.1 0 _ rfl) (g_X11_peopleIn hK (d := 1) (Nat.le_refl _) hm hx10) (by omega) dX11_doors_84 rfl rfl (Nat.le_of_ble_eq_true rfl) (fun v w9 hq9 h09 => by obtain ⟨rfl, rfl⟩ := hq9; exact ⟨h09, rfl⟩) (by decide) (by decide) (fun _ _ hx => hx) (fun v9 w9 hq9 => ?_)
            obtain ⟨rfl, rfl⟩ := hq9
            show AW G _ d _ _ 87 [some (.ref 101), some (.int y1), some (.int y2), some (.int x3), some (.int x4)] [.int a8, .int a5] (sh, I, R, L, g) 0 0
            refine AW.iand dX11_doors_87 ?_
            refine AW.if_eq 95 dX11_doors_88 (by decide) (fun hc88 => ?_) (fun hc88 => ?_)
            · replace h := g_pos hc88 h
              refine AW.iconst 0 dX11_doors_95 (by decide) ?_
              refine AW.is_n [some (.ref 101), some (.int y1), some (.int y2), some (.int 0), some (.int x4)] dX11_doors_96 (by decide) rfl rfl ?_
              refine AW.incE 1 (by decide) [some (.ref 101), some (.int y1), some (.int y2), some (.int 0), some (.int (x4 + 1))] dX11_doors_97 rfl (by decide) rfl rfl ?_
              refine AW.goto 41 dX11_doors_100 (by decide) ?_
              exact ih h
            · replace h := g_neg hc88 h
              refine AW.iconst 1 dX11_doors_91 (by decide) ?_
              refine AW.goto 96 dX11_doors_92 (by decide) ?_
              refine AW.is_n [some (.ref 101), some (.int y1), some (.int y2), some (.int 1), some (.int x4)] dX11_doors_96 (by decide) rfl rfl ?_
              refine AW.incE 1 (by decide) [some (.ref 101), some (.int y1), some (.int y2), some (.int 1), some (.int (x4 + 1))] dX11_doors_97 rfl (by decide) rfl rfl ?_
              refine AW.goto 41 dX11_doors_100 (by decide) ?_
              exact ih h
set_option maxRecDepth 100000 in
set_option maxHeartbeats 4000000 in
theorem gL_X11_doors_9 {G : am_G} (hK : k_OK G) {d : Nat} (hd : 7 ≤ d) {sh : List (Nat ⊕ (Nat × Nat))} {I : g_I} {R : Nat → Nat → Option Nat} {L : Nat → Nat → Int64} {g : Nat} (hm : k_Mod sh R) {K : Int32 → Option (Int32 × g_I)} {x1 : Int32} {x2 : Int32} {f : Nat} {r : Int32 × g_I} (h : b_X11_doors_L9 I K f x1 x2 = some r) (hk : ∀ (u1 : Int32), K u1 = some r → AW G mX11_doors d (fun v w => v = some (.int r.1) ∧ w = (sh, r.2, R, L, g)) (fun _ _ => False) 115 [none, some (.int u1), none, none, none] [] (sh, I, R, L, g) 0 0) : AW G mX11_doors d (fun v w => v = some (.int r.1) ∧ w = (sh, r.2, R, L, g)) (fun _ _ => False) 9 [some (.ref 101), some (.int x1), some (.int x2), none, none] [] (sh, I, R, L, g) 0 0 := by
  have hG := hK.1
  induction f generalizing x1 x2 with
  | zero => rw [b_X11_doors_L9] at h; cases h
  | succ f ih =>
    rw [b_X11_doors_L9] at h
    obtain ⟨J37, eJ37, h⟩ := g_letE h
    have H37 : ∀ (z1 : Int32) (z2 : Int32) (w0 : Int32), J37 z1 z2 w0 = some r → AW G mX11_doors d (fun v w => v = some (.int r.1) ∧ w = (sh, r.2, R, L, g)) (fun _ _ => False) 37 [some (.ref 101), some (.int z1), some (.int z2), none, none] [.int w0] (sh, I, R, L, g) 0 0 := by
      intro z1 z2 w0 h
      rw [eJ37] at h
      refine AW.is_n [some (.ref 101), some (.int z1), some (.int z2), some (.int w0), none] dX11_doors_37 (by decide) rfl rfl ?_
      refine AW.iconst 0 dX11_doors_38 (by decide) ?_
      refine AW.is [some (.ref 101), some (.int z1), some (.int z2), some (.int w0), some (.int 0)] dX11_doors_39 (by decide) rfl rfl ?_
      refine gL_X11_doors_41 hK hd hm h (fun a11 h => ?_)
      refine AW.iload_n dX11_doors_103 rfl ?_
      refine AW.if_eq 109 dX11_doors_104 (by decide) (fun hc104 => ?_) (fun hc104 => ?_)
      · replace h := g_pos hc104 h
        refine AW.incE 1 (by decide) [some (.ref 101), some (.int z1), some (.int (z2 + 1)), some (.int a11), none] dX11_doors_109 rfl (by decide) rfl rfl ?_
        refine AW.goto 9 dX11_doors_112 (by decide) ?_
        refine AW.mask [3] [some (.ref 101), some (.int z1), some (.int (z2 + 1)), none, none] rfl ?_
        exact ih h
      · replace h := g_neg hc104 h
        refine AW.iload_n dX11_doors_107 rfl ?_
        refine AW.is_n [some (.ref 101), some (.int z2), some (.int z2), some (.int a11), none] dX11_doors_108 (by decide) rfl rfl ?_
        refine AW.incE 1 (by decide) [some (.ref 101), some (.int z2), some (.int (z2 + 1)), some (.int a11), none] dX11_doors_109 rfl (by decide) rfl rfl ?_
        refine AW.goto 9 dX11_doors_112 (by decide) ?_
        refine AW.mask [3] [some (.ref 101), some (.int z2), some (.int (z2 + 1)), none, none] rfl ?_
        exact ih h
    refine AW.iload_n dX11_doors_9 rfl ?_
    refine AW.sipush 1024 dX11_doors_10 (by decide) ?_
    refine AW.icmp_ge 115 dX11_doors_13 (by decide) (fun hc13 => ?_) (fun hc13 => ?_)
    · replace h := g_pos hc13 h
      refine AW.mask [0, 2] [none, some (.int x1), none, none, none] rfl ?_
      exact hk _ h
    · replace h := g_neg hc13 h
      refine AW.iload_n dX11_doors_16 rfl ?_
      refine AW.iconst (-1) dX11_doors_17 (by decide) ?_
      refine AW.icmp_eq 32 dX11_doors_18 (by decide) (fun hc18 => ?_) (fun hc18 => ?_)
      · replace h := g_pos hc18 h
        refine AW.iconst 1 dX11_doors_32 (by decide) ?_
        refine AW.goto 37 dX11_doors_33 (by decide) ?_
        exact H37 _ _ _ h
      · replace h := g_neg hc18 h
        refine AW.iload_n dX11_doors_21 rfl ?_
        obtain ⟨a12, hx14, h⟩ := g_bindE h
        refine AW.callS (As := [.int x2]) hG.2.2 (vX11_421 hG) (g_X11_bitsOf hK (d := 0) (Nat.le_refl _) hx14) (by omega) dX11_doors_22 rfl rfl (Nat.le_of_ble_eq_true rfl) (fun v w9 hq9 h09 => by obtain ⟨rfl, rfl⟩ := hq9; exact ⟨h09, rfl⟩) (by decide) (by decide) (fun _ _ hx => hx) (fun v9 w9 hq9 => ?_)
        obtain ⟨rfl, rfl⟩ := hq9
        show AW G _ d _ _ 25 [some (.ref 101), some (.int x1), some (.int x2), none, none] [.int a12] (sh, I, R, L, g) 0 0
        refine AW.iload_n dX11_doors_25 rfl ?_
        obtain ⟨a15, hx17, h⟩ := g_bindE h
        refine AW.callS (As := [.int x1]) hG.2.2 (vX11_421 hG) (g_X11_bitsOf hK (d := 0) (Nat.le_refl _) hx17) (by omega) dX11_doors_26 rfl rfl (Nat.le_of_ble_eq_true rfl) (fun v w9 hq9 h09 => by obtain ⟨rfl, rfl⟩ := hq9; exact ⟨h09, rfl⟩) (by decide) (by decide) (fun _ _ hx => hx) (fun v9 w9 hq9 => ?_)
        obtain ⟨rfl, rfl⟩ := hq9
        show AW G _ d _ _ 29 [some (.ref 101), some (.int x1), some (.int x2), none, none] [.int a15, .int a12] (sh, I, R, L, g) 0 0
        refine AW.icmp_ge 36 dX11_doors_29 (by decide) (fun hc29 => ?_) (fun hc29 => ?_)
        · replace h := g_pos hc29 h
          refine AW.iconst 0 dX11_doors_36 (by decide) ?_
          exact H37 _ _ _ h
        · replace h := g_neg hc29 h
          refine AW.iconst 1 dX11_doors_32 (by decide) ?_
          refine AW.goto 37 dX11_doors_33 (by decide) ?_
          exact H37 _ _ _ h
set_option maxRecDepth 100000 in
set_option maxHeartbeats 4000000 in
theorem g_X11_doors {G : am_G} (hK : k_OK G) {d : Nat} (hd : 7 ≤ d) {sh : List (Nat ⊕ (Nat × Nat))} {I : g_I} {R : Nat → Nat → Option Nat} {L : Nat → Nat → Int64} {g : Nat} (hm : k_Mod sh R) {r : Int32 × g_I} (h : b_X11_doors I = some r) : AM G mX11_doors d [.ref 101] (sh, I, R, L, g) (fun v w => v = some (.int r.1) ∧ w = (sh, r.2, R, L, g)) (fun _ _ => False) := by
  have hG := hK.1
  refine AM.of (n := 4) (by decide +kernel) (Nat.le_of_ble_eq_true rfl) ?_
  show AW G mX11_doors d (fun v w => v = some (.int r.1) ∧ w = (sh, r.2, R, L, g)) (fun _ _ => False) 0 [some (.ref 101), none, none, none, none] [] (sh, I, R, L, g) 0 0
  unfold b_X11_doors at h
  refine AW.aload_n dX11_doors_0 rfl ?_
  refine AW.iconst 0 dX11_doors_1 (by decide) ?_
  refine AW.putI (fX11_159 hG) rfl (vp_nar_int _) rfl (hm.1 0 _ rfl) dX11_doors_2 ?_
  obtain ⟨I1, eI1, h⟩ := g_letE h
  refine AW.namIE eI1 ?_
  refine AW.iconst (-1) dX11_doors_5 (by decide) ?_
  refine AW.is_n [some (.ref 101), some (.int (-1)), none, none, none] dX11_doors_6 (by decide) rfl rfl ?_
  refine AW.iconst 0 dX11_doors_7 (by decide) ?_
  refine AW.is_n [some (.ref 101), some (.int (-1)), some (.int 0), none, none] dX11_doors_8 (by decide) rfl rfl ?_
  refine gL_X11_doors_9 hK hd hm h (fun a18 h => ?_)
  refine AW.iload_n dX11_doors_115 rfl ?_
  exact AW.iret dX11_doors_116 rfl (by decide) (by decide) (by cases h; exact ⟨rfl, rfl⟩)
theorem dX11_see_0 : decode cX11_see 0 = .ok (.aload_n 0, 1) := by decide +kernel
theorem dX11_see_1 : decode cX11_see 1 = .ok (.iconst 0, 1) := by decide +kernel
theorem dX11_see_2 : decode cX11_see 2 = .ok (.putfield 159, 3) := by decide +kernel
theorem dX11_see_5 : decode cX11_see 5 = .ok (.aload_n 0, 1) := by decide +kernel
theorem dX11_see_6 : decode cX11_see 6 = .ok (.iload_n 1, 1) := by decide +kernel
theorem dX11_see_7 : decode cX11_see 7 = .ok (.invokevirtual 392, 3) := by decide +kernel
theorem dX11_see_10 : decode cX11_see 10 = .ok (.ifCond .ne 9, 3) := by decide +kernel
theorem dX11_see_13 : decode cX11_see 13 = .ok (.aload_n 0, 1) := by decide +kernel
theorem dX11_see_14 : decode cX11_see 14 = .ok (.iconst 1, 1) := by decide +kernel
theorem dX11_see_15 : decode cX11_see 15 = .ok (.invokevirtual 307, 3) := by decide +kernel
theorem dX11_see_18 : decode cX11_see 18 = .ok (.ireturn, 1) := by decide +kernel
theorem dX11_see_19 : decode cX11_see 19 = .ok (.aload_n 0, 1) := by decide +kernel
theorem dX11_see_20 : decode cX11_see 20 = .ok (.getfield 330, 3) := by decide +kernel
theorem dX11_see_23 : decode cX11_see 23 = .ok (.bipush 6, 2) := by decide +kernel
theorem dX11_see_25 : decode cX11_see 25 = .ok (.if_icmp .eq 33, 3) := by decide +kernel
theorem dX11_see_28 : decode cX11_see 28 = .ok (.iload_n 2, 1) := by decide +kernel
theorem dX11_see_29 : decode cX11_see 29 = .ok (.i2l, 1) := by decide +kernel
theorem dX11_see_30 : decode cX11_see 30 = .ok (.lconst 0, 1) := by decide +kernel
theorem dX11_see_31 : decode cX11_see 31 = .ok (.aload_n 0, 1) := by decide +kernel
theorem dX11_see_32 : decode cX11_see 32 = .ok (.getfield 61, 3) := by decide +kernel
theorem dX11_see_35 : decode cX11_see 35 = .ok (.iload_n 1, 1) := by decide +kernel
theorem dX11_see_36 : decode cX11_see 36 = .ok (.iaload, 1) := by decide +kernel
theorem dX11_see_37 : decode cX11_see 37 = .ok (.iconst 1, 1) := by decide +kernel
theorem dX11_see_38 : decode cX11_see 38 = .ok (.isub, 1) := by decide +kernel
theorem dX11_see_39 : decode cX11_see 39 = .ok (.i2l, 1) := by decide +kernel
theorem dX11_see_40 : decode cX11_see 40 = .ok (.invokestatic 162, 3) := by decide +kernel
theorem dX11_see_43 : decode cX11_see 43 = .ok (.ifCond .eq 15, 3) := by decide +kernel
theorem dX11_see_46 : decode cX11_see 46 = .ok (.iload_n 3, 1) := by decide +kernel
theorem dX11_see_47 : decode cX11_see 47 = .ok (.i2l, 1) := by decide +kernel
theorem dX11_see_48 : decode cX11_see 48 = .ok (.lconst 0, 1) := by decide +kernel
theorem dX11_see_49 : decode cX11_see 49 = .ok (.ldc2_w 472, 3) := by decide +kernel
theorem dX11_see_52 : decode cX11_see 52 = .ok (.invokestatic 162, 3) := by decide +kernel
theorem dX11_see_55 : decode cX11_see 55 = .ok (.ifCond .ne 9, 3) := by decide +kernel
theorem dX11_see_58 : decode cX11_see 58 = .ok (.aload_n 0, 1) := by decide +kernel
theorem dX11_see_59 : decode cX11_see 59 = .ok (.iconst 2, 1) := by decide +kernel
theorem dX11_see_60 : decode cX11_see 60 = .ok (.invokevirtual 414, 3) := by decide +kernel
theorem dX11_see_63 : decode cX11_see 63 = .ok (.ireturn, 1) := by decide +kernel
theorem dX11_see_64 : decode cX11_see 64 = .ok (.aload_n 0, 1) := by decide +kernel
theorem dX11_see_65 : decode cX11_see 65 = .ok (.getfield 120, 3) := by decide +kernel
theorem dX11_see_68 : decode cX11_see 68 = .ok (.aload_n 0, 1) := by decide +kernel
theorem dX11_see_69 : decode cX11_see 69 = .ok (.getfield 330, 3) := by decide +kernel
theorem dX11_see_72 : decode cX11_see 72 = .ok (.iload_n 1, 1) := by decide +kernel
theorem dX11_see_73 : decode cX11_see 73 = .ok (.iastore, 1) := by decide +kernel
theorem dX11_see_74 : decode cX11_see 74 = .ok (.aload_n 0, 1) := by decide +kernel
theorem dX11_see_75 : decode cX11_see 75 = .ok (.getfield 123, 3) := by decide +kernel
theorem dX11_see_78 : decode cX11_see 78 = .ok (.aload_n 0, 1) := by decide +kernel
theorem dX11_see_79 : decode cX11_see 79 = .ok (.getfield 330, 3) := by decide +kernel
theorem dX11_see_82 : decode cX11_see 82 = .ok (.iload_n 2, 1) := by decide +kernel
theorem dX11_see_83 : decode cX11_see 83 = .ok (.iastore, 1) := by decide +kernel
theorem dX11_see_84 : decode cX11_see 84 = .ok (.aload_n 0, 1) := by decide +kernel
theorem dX11_see_85 : decode cX11_see 85 = .ok (.getfield 126, 3) := by decide +kernel
theorem dX11_see_88 : decode cX11_see 88 = .ok (.aload_n 0, 1) := by decide +kernel
theorem dX11_see_89 : decode cX11_see 89 = .ok (.getfield 330, 3) := by decide +kernel
theorem dX11_see_92 : decode cX11_see 92 = .ok (.iload_n 3, 1) := by decide +kernel
theorem dX11_see_93 : decode cX11_see 93 = .ok (.iastore, 1) := by decide +kernel
theorem dX11_see_94 : decode cX11_see 94 = .ok (.aload_n 0, 1) := by decide +kernel
theorem dX11_see_95 : decode cX11_see 95 = .ok (.dup, 1) := by decide +kernel
theorem dX11_see_96 : decode cX11_see 96 = .ok (.getfield 330, 3) := by decide +kernel
theorem dX11_see_99 : decode cX11_see 99 = .ok (.iconst 1, 1) := by decide +kernel
theorem dX11_see_100 : decode cX11_see 100 = .ok (.iadd, 1) := by decide +kernel
theorem dX11_see_101 : decode cX11_see 101 = .ok (.putfield 330, 3) := by decide +kernel
theorem dX11_see_104 : decode cX11_see 104 = .ok (.aload_n 0, 1) := by decide +kernel
theorem dX11_see_105 : decode cX11_see 105 = .ok (.getfield 330, 3) := by decide +kernel
theorem dX11_see_108 : decode cX11_see 108 = .ok (.ireturn, 1) := by decide +kernel
def b_X11_see (I : g_I) (x1 : Int32) (x2 : Int32) (x3 : Int32) : Option (Int32 × g_I) :=
  g_let (am_up I 101 2 0) fun I1 => if b_X11_isLoaf I1 x1 = true then if (I1 101 33) = 6 then g_bind2 (b_X11_refuse I1 2) fun a2 I3 => some (a2, I3) else if g_in x1 12 = true then if b_X11_isIn (x2.toInt64) 0 (((I1 112 x1.toNatClampNeg) - 1).toInt64) = true then if b_X11_isIn (x3.toInt64) 0 999 = true then if g_in (I1 101 33) 6 = true then g_let (am_up I1 131 (I1 101 33).toNatClampNeg x1) fun I8 => if g_in (I8 101 33) 6 = true then g_let (am_up I8 132 (I8 101 33).toNatClampNeg x2) fun I9 => if g_in (I9 101 33) 6 = true then g_let (am_up I9 133 (I9 101 33).toNatClampNeg x3) fun I10 => g_let (am_up I10 101 33 ((I10 101 33) + 1)) fun I11 => some (I11 101 33, I11) else none else none else none else g_bind2 (b_X11_refuse I1 2) fun a12 I13 => some (a12, I13) else g_bind2 (b_X11_refuse I1 2) fun a5 I6 => some (a5, I6) else none else g_bind2 (b_X11_fail I1 1) fun a15 I16 => some (a15, I16)
set_option maxRecDepth 100000 in
set_option maxHeartbeats 4000000 in
theorem g_X11_see {G : am_G} (hK : k_OK G) {d : Nat} (hd : 2 ≤ d) {sh : List (Nat ⊕ (Nat × Nat))} {I : g_I} {R : Nat → Nat → Option Nat} {L : Nat → Nat → Int64} {g : Nat} (hm : k_Mod sh R) {x1 : Int32} {x2 : Int32} {x3 : Int32} {r : Int32 × g_I} (h : b_X11_see I x1 x2 x3 = some r) : AM G mX11_see d [.ref 101, .int x1, .int x2, .int x3] (sh, I, R, L, g) (fun v w => v = some (.int r.1) ∧ w = (sh, r.2, R, L, g)) (fun _ _ => False) := by
  have hG := hK.1
  refine AM.of (n := 0) (by decide +kernel) (Nat.le_of_ble_eq_true rfl) ?_
  show AW G mX11_see d (fun v w => v = some (.int r.1) ∧ w = (sh, r.2, R, L, g)) (fun _ _ => False) 0 [some (.ref 101), some (.int x1), some (.int x2), some (.int x3)] [] (sh, I, R, L, g) 0 0
  unfold b_X11_see at h
  refine AW.aload_n dX11_see_0 rfl ?_
  refine AW.iconst 0 dX11_see_1 (by decide) ?_
  refine AW.putI (fX11_159 hG) rfl (vp_nar_int _) rfl (hm.1 0 _ rfl) dX11_see_2 ?_
  obtain ⟨I1, eI1, h⟩ := g_letE h
  refine AW.namIE eI1 ?_
  refine AW.aload_n dX11_see_5 rfl ?_
  refine AW.iload_n dX11_see_6 rfl ?_
  refine AW.callV (b := 101) (As := [.int x1]) hG.2.2 (vX11_392 hG) (hm.1 0 _ rfl) (g_X11_isLoaf hK (d := 1) (Nat.le_refl _) hm) (by omega) dX11_see_7 rfl rfl (Nat.le_of_ble_eq_true rfl) (fun v w9 hq9 h09 => by obtain ⟨rfl, rfl⟩ := hq9; exact ⟨h09, rfl⟩) (by decide) (by decide) (fun _ _ hx => hx) (fun v9 w9 hq9 => ?_)
  obtain ⟨rfl, rfl⟩ := hq9
  show AW G _ d _ _ 10 [some (.ref 101), some (.int x1), some (.int x2), some (.int x3)] [.int (kb (b_X11_isLoaf I1 x1))] (sh, I1, R, L, g) 0 0
  refine AW.if_ne 19 dX11_see_10 (by decide) (fun hc10 => ?_) (fun hc10 => ?_)
  · replace h := g_pos (kb_1.mp hc10) h
    refine AW.aload_n dX11_see_19 rfl ?_
    refine AW.getI (fX11_330 hG).r rfl (hm.1 0 _ rfl) dX11_see_20 ?_
    refine AW.bipush 6 dX11_see_23 (by decide) ?_
    refine AW.icmp_eq 58 dX11_see_25 (by decide) (fun hc25 => ?_) (fun hc25 => ?_)
    · replace h := g_pos hc25 h
      refine AW.aload_n dX11_see_58 rfl ?_
      refine AW.iconst 2 dX11_see_59 (by decide) ?_
      obtain ⟨a2, I3, hx4, h⟩ := g_bind2E h
      refine AW.callV (b := 101) (As := [.int 2]) hG.2.2 (vX11_414 hG) (hm.1 0 _ rfl) (g_X11_refuse hK (d := 0) (Nat.le_refl _) hm hx4) (by omega) dX11_see_60 rfl rfl (Nat.le_of_ble_eq_true rfl) (fun v w9 hq9 h09 => by obtain ⟨rfl, rfl⟩ := hq9; exact ⟨h09, rfl⟩) (by decide) (by decide) (fun _ _ hx => hx) (fun v9 w9 hq9 => ?_)
      obtain ⟨rfl, rfl⟩ := hq9
      show AW G _ d _ _ 63 [some (.ref 101), some (.int x1), some (.int x2), some (.int x3)] [.int a2] (sh, I3, R, L, g) 0 0
      exact AW.iret dX11_see_63 rfl (by decide) (by decide) (by cases h; exact ⟨rfl, rfl⟩)
    · replace h := g_neg hc25 h
      refine AW.iload_n dX11_see_28 rfl ?_
      refine AW.i2l dX11_see_29 ?_
      refine AW.lconst 0 dX11_see_30 (by decide) ?_
      refine AW.aload_n dX11_see_31 rfl ?_
      refine AW.getR (c' := 112) (fX11_61 hG).r rfl (hm.1 0 _ rfl) (hm.2 (0, 11, 11) (by decide)) dX11_see_32 ?_
      refine AW.iload_n dX11_see_35 rfl ?_
      obtain ⟨hb, h⟩ := g_ifE h
      refine AW.iald (hm.1 11 _ rfl) (g_in_iff.mp hb) dX11_see_36 ?_
      refine AW.iconst 1 dX11_see_37 (by decide) ?_
      refine AW.isub dX11_see_38 ?_
      refine AW.i2l dX11_see_39 ?_
      refine AW.callS (As := [.long (x2.toInt64), .long 0, .long (((I1 112 x1.toNatClampNeg) - 1).toInt64)]) hG.2.2 (vX11_162 hG) (g_X11_isIn hK (d := 0) (Nat.le_refl _) (x2.toInt64) 0 (((I1 112 x1.toNatClampNeg) - 1).toInt64)) (by omega) dX11_see_40 rfl rfl (Nat.le_of_ble_eq_true rfl) (fun v w9 hq9 h09 => by obtain ⟨rfl, rfl⟩ := hq9; exact ⟨h09, rfl⟩) (by decide) (by decide) (fun _ _ hx => hx) (fun v9 w9 hq9 => ?_)
      obtain ⟨rfl, rfl⟩ := hq9
      show AW G _ d _ _ 43 [some (.ref 101), some (.int x1), some (.int x2), some (.int x3)] [.int (kb (b_X11_isIn (x2.toInt64) 0 (((I1 112 x1.toNatClampNeg) - 1).toInt64)))] (sh, I1, R, L, g) 0 0
      refine AW.if_eq 58 dX11_see_43 (by decide) (fun hc43 => ?_) (fun hc43 => ?_)
      · replace h := g_neg (g_kb0 hc43) h
        refine AW.aload_n dX11_see_58 rfl ?_
        refine AW.iconst 2 dX11_see_59 (by decide) ?_
        obtain ⟨a5, I6, hx7, h⟩ := g_bind2E h
        refine AW.callV (b := 101) (As := [.int 2]) hG.2.2 (vX11_414 hG) (hm.1 0 _ rfl) (g_X11_refuse hK (d := 0) (Nat.le_refl _) hm hx7) (by omega) dX11_see_60 rfl rfl (Nat.le_of_ble_eq_true rfl) (fun v w9 hq9 h09 => by obtain ⟨rfl, rfl⟩ := hq9; exact ⟨h09, rfl⟩) (by decide) (by decide) (fun _ _ hx => hx) (fun v9 w9 hq9 => ?_)
        obtain ⟨rfl, rfl⟩ := hq9
        show AW G _ d _ _ 63 [some (.ref 101), some (.int x1), some (.int x2), some (.int x3)] [.int a5] (sh, I6, R, L, g) 0 0
        exact AW.iret dX11_see_63 rfl (by decide) (by decide) (by cases h; exact ⟨rfl, rfl⟩)
      · replace h := g_pos (kb_1.mp hc43) h
        refine AW.iload_n dX11_see_46 rfl ?_
        refine AW.i2l dX11_see_47 ?_
        refine AW.lconst 0 dX11_see_48 (by decide) ?_
        refine AW.ldc2 999 dX11_see_49 (k_c hG 2044 (by decide +kernel) (by decide +kernel)) ?_
        refine AW.callS (As := [.long (x3.toInt64), .long 0, .long 999]) hG.2.2 (vX11_162 hG) (g_X11_isIn hK (d := 0) (Nat.le_refl _) (x3.toInt64) 0 999) (by omega) dX11_see_52 rfl rfl (Nat.le_of_ble_eq_true rfl) (fun v w9 hq9 h09 => by obtain ⟨rfl, rfl⟩ := hq9; exact ⟨h09, rfl⟩) (by decide) (by decide) (fun _ _ hx => hx) (fun v9 w9 hq9 => ?_)
        obtain ⟨rfl, rfl⟩ := hq9
        show AW G _ d _ _ 55 [some (.ref 101), some (.int x1), some (.int x2), some (.int x3)] [.int (kb (b_X11_isIn (x3.toInt64) 0 999))] (sh, I1, R, L, g) 0 0
        refine AW.if_ne 64 dX11_see_55 (by decide) (fun hc55 => ?_) (fun hc55 => ?_)
        · replace h := g_pos (kb_1.mp hc55) h
          refine AW.aload_n dX11_see_64 rfl ?_
          refine AW.getR (c' := 131) (fX11_120 hG).r rfl (hm.1 0 _ rfl) (hm.2 (0, 51, 30) (by decide)) dX11_see_65 ?_
          refine AW.aload_n dX11_see_68 rfl ?_
          refine AW.getI (fX11_330 hG).r rfl (hm.1 0 _ rfl) dX11_see_69 ?_
          refine AW.iload_n dX11_see_72 rfl ?_
          obtain ⟨hb, h⟩ := g_ifE h
          refine AW.iast (hm.1 30 _ rfl) (g_in_iff.mp hb) dX11_see_73 ?_
          obtain ⟨I8, eI8, h⟩ := g_letE h
          refine AW.namIE eI8 ?_
          refine AW.aload_n dX11_see_74 rfl ?_
          refine AW.getR (c' := 132) (fX11_123 hG).r rfl (hm.1 0 _ rfl) (hm.2 (0, 52, 31) (by decide)) dX11_see_75 ?_
          refine AW.aload_n dX11_see_78 rfl ?_
          refine AW.getI (fX11_330 hG).r rfl (hm.1 0 _ rfl) dX11_see_79 ?_
          refine AW.iload_n dX11_see_82 rfl ?_
          obtain ⟨hb, h⟩ := g_ifE h
          refine AW.iast (hm.1 31 _ rfl) (g_in_iff.mp hb) dX11_see_83 ?_
          obtain ⟨I9, eI9, h⟩ := g_letE h
          refine AW.namIE eI9 ?_
          refine AW.aload_n dX11_see_84 rfl ?_
          refine AW.getR (c' := 133) (fX11_126 hG).r rfl (hm.1 0 _ rfl) (hm.2 (0, 53, 32) (by decide)) dX11_see_85 ?_
          refine AW.aload_n dX11_see_88 rfl ?_
          refine AW.getI (fX11_330 hG).r rfl (hm.1 0 _ rfl) dX11_see_89 ?_
          refine AW.iload_n dX11_see_92 rfl ?_
          obtain ⟨hb, h⟩ := g_ifE h
          refine AW.iast (hm.1 32 _ rfl) (g_in_iff.mp hb) dX11_see_93 ?_
          obtain ⟨I10, eI10, h⟩ := g_letE h
          refine AW.namIE eI10 ?_
          refine AW.aload_n dX11_see_94 rfl ?_
          refine AW.dup dX11_see_95 rfl ?_
          refine AW.getI (fX11_330 hG).r rfl (hm.1 0 _ rfl) dX11_see_96 ?_
          refine AW.iconst 1 dX11_see_99 (by decide) ?_
          refine AW.iadd dX11_see_100 ?_
          refine AW.putI (fX11_330 hG) rfl (vp_nar_int _) rfl (hm.1 0 _ rfl) dX11_see_101 ?_
          obtain ⟨I11, eI11, h⟩ := g_letE h
          refine AW.namIE eI11 ?_
          refine AW.aload_n dX11_see_104 rfl ?_
          refine AW.getI (fX11_330 hG).r rfl (hm.1 0 _ rfl) dX11_see_105 ?_
          exact AW.iret dX11_see_108 rfl (by decide) (by decide) (by cases h; exact ⟨rfl, rfl⟩)
        · replace h := g_neg (g_kb0 hc55) h
          refine AW.aload_n dX11_see_58 rfl ?_
          refine AW.iconst 2 dX11_see_59 (by decide) ?_
          obtain ⟨a12, I13, hx14, h⟩ := g_bind2E h
          refine AW.callV (b := 101) (As := [.int 2]) hG.2.2 (vX11_414 hG) (hm.1 0 _ rfl) (g_X11_refuse hK (d := 0) (Nat.le_refl _) hm hx14) (by omega) dX11_see_60 rfl rfl (Nat.le_of_ble_eq_true rfl) (fun v w9 hq9 h09 => by obtain ⟨rfl, rfl⟩ := hq9; exact ⟨h09, rfl⟩) (by decide) (by decide) (fun _ _ hx => hx) (fun v9 w9 hq9 => ?_)
          obtain ⟨rfl, rfl⟩ := hq9
          show AW G _ d _ _ 63 [some (.ref 101), some (.int x1), some (.int x2), some (.int x3)] [.int a12] (sh, I13, R, L, g) 0 0
          exact AW.iret dX11_see_63 rfl (by decide) (by decide) (by cases h; exact ⟨rfl, rfl⟩)
  · replace h := g_neg (g_kb0 hc10) h
    refine AW.aload_n dX11_see_13 rfl ?_
    refine AW.iconst 1 dX11_see_14 (by decide) ?_
    obtain ⟨a15, I16, hx17, h⟩ := g_bind2E h
    refine AW.callV (b := 101) (As := [.int 1]) hG.2.2 (vX11_307 hG) (hm.1 0 _ rfl) (g_X11_fail hK (d := 0) (Nat.le_refl _) hm hx17) (by omega) dX11_see_15 rfl rfl (Nat.le_of_ble_eq_true rfl) (fun v w9 hq9 h09 => by obtain ⟨rfl, rfl⟩ := hq9; exact ⟨h09, rfl⟩) (by decide) (by decide) (fun _ _ hx => hx) (fun v9 w9 hq9 => ?_)
    obtain ⟨rfl, rfl⟩ := hq9
    show AW G _ d _ _ 18 [some (.ref 101), some (.int x1), some (.int x2), some (.int x3)] [.int a15] (sh, I16, R, L, g) 0 0
    exact AW.iret dX11_see_18 rfl (by decide) (by decide) (by cases h; exact ⟨rfl, rfl⟩)
theorem dX11_who_0 : decode cX11_who 0 = .ok (.aload_n 0, 1) := by decide +kernel
theorem dX11_who_1 : decode cX11_who 1 = .ok (.iconst 0, 1) := by decide +kernel
theorem dX11_who_2 : decode cX11_who 2 = .ok (.putfield 159, 3) := by decide +kernel
theorem dX11_who_5 : decode cX11_who 5 = .ok (.aload_n 0, 1) := by decide +kernel
theorem dX11_who_6 : decode cX11_who 6 = .ok (.iload_n 1, 1) := by decide +kernel
theorem dX11_who_7 : decode cX11_who 7 = .ok (.invokevirtual 392, 3) := by decide +kernel
theorem dX11_who_10 : decode cX11_who 10 = .ok (.ifCond .ne 9, 3) := by decide +kernel
theorem dX11_who_13 : decode cX11_who 13 = .ok (.aload_n 0, 1) := by decide +kernel
theorem dX11_who_14 : decode cX11_who 14 = .ok (.iconst 1, 1) := by decide +kernel
theorem dX11_who_15 : decode cX11_who 15 = .ok (.invokevirtual 307, 3) := by decide +kernel
theorem dX11_who_18 : decode cX11_who 18 = .ok (.ireturn, 1) := by decide +kernel
theorem dX11_who_19 : decode cX11_who 19 = .ok (.iconst 0, 1) := by decide +kernel
theorem dX11_who_20 : decode cX11_who 20 = .ok (.istore_n 2, 1) := by decide +kernel
theorem dX11_who_21 : decode cX11_who 21 = .ok (.iconst 0, 1) := by decide +kernel
theorem dX11_who_22 : decode cX11_who 22 = .ok (.istore_n 3, 1) := by decide +kernel
theorem dX11_who_23 : decode cX11_who 23 = .ok (.iload_n 3, 1) := by decide +kernel
theorem dX11_who_24 : decode cX11_who 24 = .ok (.aload_n 0, 1) := by decide +kernel
theorem dX11_who_25 : decode cX11_who 25 = .ok (.getfield 38, 3) := by decide +kernel
theorem dX11_who_28 : decode cX11_who 28 = .ok (.iconst 0, 1) := by decide +kernel
theorem dX11_who_29 : decode cX11_who 29 = .ok (.iaload, 1) := by decide +kernel
theorem dX11_who_30 : decode cX11_who 30 = .ok (.if_icmp .ge 114, 3) := by decide +kernel
theorem dX11_who_33 : decode cX11_who 33 = .ok (.aload_n 0, 1) := by decide +kernel
theorem dX11_who_34 : decode cX11_who 34 = .ok (.iload_n 3, 1) := by decide +kernel
theorem dX11_who_35 : decode cX11_who 35 = .ok (.iload_n 1, 1) := by decide +kernel
theorem dX11_who_36 : decode cX11_who 36 = .ok (.invokevirtual 355, 3) := by decide +kernel
theorem dX11_who_39 : decode cX11_who 39 = .ok (.ifCond .ne 7, 3) := by decide +kernel
theorem dX11_who_42 : decode cX11_who 42 = .ok (.iconst 1, 1) := by decide +kernel
theorem dX11_who_43 : decode cX11_who 43 = .ok (.goto 4, 3) := by decide +kernel
theorem dX11_who_46 : decode cX11_who 46 = .ok (.iconst 0, 1) := by decide +kernel
theorem dX11_who_47 : decode cX11_who 47 = .ok (.istore 4, 2) := by decide +kernel
theorem dX11_who_49 : decode cX11_who 49 = .ok (.iload 4, 2) := by decide +kernel
theorem dX11_who_51 : decode cX11_who 51 = .ok (.ifCond .eq 9, 3) := by decide +kernel
theorem dX11_who_54 : decode cX11_who 54 = .ok (.aload_n 0, 1) := by decide +kernel
theorem dX11_who_55 : decode cX11_who 55 = .ok (.iload_n 3, 1) := by decide +kernel
theorem dX11_who_56 : decode cX11_who 56 = .ok (.iload_n 1, 1) := by decide +kernel
theorem dX11_who_57 : decode cX11_who 57 = .ok (.invokevirtual 403, 3) := by decide +kernel
theorem dX11_who_60 : decode cX11_who 60 = .ok (.iconst 0, 1) := by decide +kernel
theorem dX11_who_61 : decode cX11_who 61 = .ok (.istore 5, 2) := by decide +kernel
theorem dX11_who_63 : decode cX11_who 63 = .ok (.iload 5, 2) := by decide +kernel
theorem dX11_who_65 : decode cX11_who 65 = .ok (.aload_n 0, 1) := by decide +kernel
theorem dX11_who_66 : decode cX11_who 66 = .ok (.getfield 330, 3) := by decide +kernel
theorem dX11_who_69 : decode cX11_who 69 = .ok (.if_icmp .ge 54, 3) := by decide +kernel
theorem dX11_who_72 : decode cX11_who 72 = .ok (.iload 4, 2) := by decide +kernel
theorem dX11_who_74 : decode cX11_who 74 = .ok (.ifCond .eq 49, 3) := by decide +kernel
theorem dX11_who_77 : decode cX11_who 77 = .ok (.aload_n 0, 1) := by decide +kernel
theorem dX11_who_78 : decode cX11_who 78 = .ok (.getfield 120, 3) := by decide +kernel
theorem dX11_who_81 : decode cX11_who 81 = .ok (.iload 5, 2) := by decide +kernel
theorem dX11_who_83 : decode cX11_who 83 = .ok (.iaload, 1) := by decide +kernel
theorem dX11_who_84 : decode cX11_who 84 = .ok (.iload_n 1, 1) := by decide +kernel
theorem dX11_who_85 : decode cX11_who 85 = .ok (.if_icmp .ne 25, 3) := by decide +kernel
theorem dX11_who_88 : decode cX11_who 88 = .ok (.aload_n 0, 1) := by decide +kernel
theorem dX11_who_89 : decode cX11_who 89 = .ok (.getfield 102, 3) := by decide +kernel
theorem dX11_who_92 : decode cX11_who 92 = .ok (.aload_n 0, 1) := by decide +kernel
theorem dX11_who_93 : decode cX11_who 93 = .ok (.getfield 123, 3) := by decide +kernel
theorem dX11_who_96 : decode cX11_who 96 = .ok (.iload 5, 2) := by decide +kernel
theorem dX11_who_98 : decode cX11_who 98 = .ok (.iaload, 1) := by decide +kernel
theorem dX11_who_99 : decode cX11_who 99 = .ok (.iaload, 1) := by decide +kernel
theorem dX11_who_100 : decode cX11_who 100 = .ok (.aload_n 0, 1) := by decide +kernel
theorem dX11_who_101 : decode cX11_who 101 = .ok (.getfield 126, 3) := by decide +kernel
theorem dX11_who_104 : decode cX11_who 104 = .ok (.iload 5, 2) := by decide +kernel
theorem dX11_who_106 : decode cX11_who 106 = .ok (.iaload, 1) := by decide +kernel
theorem dX11_who_107 : decode cX11_who 107 = .ok (.if_icmp .ne 7, 3) := by decide +kernel
theorem dX11_who_110 : decode cX11_who 110 = .ok (.iconst 1, 1) := by decide +kernel
theorem dX11_who_111 : decode cX11_who 111 = .ok (.goto 4, 3) := by decide +kernel
theorem dX11_who_114 : decode cX11_who 114 = .ok (.iconst 0, 1) := by decide +kernel
theorem dX11_who_115 : decode cX11_who 115 = .ok (.istore 4, 2) := by decide +kernel
theorem dX11_who_117 : decode cX11_who 117 = .ok (.iinc 5 1, 3) := by decide +kernel
theorem dX11_who_120 : decode cX11_who 120 = .ok (.goto (-57), 3) := by decide +kernel
theorem dX11_who_123 : decode cX11_who 123 = .ok (.iload_n 2, 1) := by decide +kernel
theorem dX11_who_124 : decode cX11_who 124 = .ok (.iload 4, 2) := by decide +kernel
theorem dX11_who_126 : decode cX11_who 126 = .ok (.ifCond .eq 9, 3) := by decide +kernel
theorem dX11_who_129 : decode cX11_who 129 = .ok (.iconst 1, 1) := by decide +kernel
theorem dX11_who_130 : decode cX11_who 130 = .ok (.iload_n 3, 1) := by decide +kernel
theorem dX11_who_131 : decode cX11_who 131 = .ok (.ishl, 1) := by decide +kernel
theorem dX11_who_132 : decode cX11_who 132 = .ok (.goto 4, 3) := by decide +kernel
theorem dX11_who_135 : decode cX11_who 135 = .ok (.iconst 0, 1) := by decide +kernel
theorem dX11_who_136 : decode cX11_who 136 = .ok (.ior, 1) := by decide +kernel
theorem dX11_who_137 : decode cX11_who 137 = .ok (.istore_n 2, 1) := by decide +kernel
theorem dX11_who_138 : decode cX11_who 138 = .ok (.iinc 3 1, 3) := by decide +kernel
theorem dX11_who_141 : decode cX11_who 141 = .ok (.goto (-118), 3) := by decide +kernel
theorem dX11_who_144 : decode cX11_who 144 = .ok (.iload_n 2, 1) := by decide +kernel
theorem dX11_who_145 : decode cX11_who 145 = .ok (.ireturn, 1) := by decide +kernel
def b_X11_who_L63 (I : g_I) (y1 : Int32) (y2 : Int32) (y3 : Int32) (K : Int32 → Option (Int32 × g_I)) : Nat → Int32 → Int32 → Option (Int32 × g_I)
  | 0, _, _ => none
  | f + 1, x4, x5 => if (I 101 33) ≤ x5 then K x4 else if x4 = 0 then K x4 else if g_in x5 6 = true then if (I 131 x5.toNatClampNeg) = y1 then if g_in x5 6 = true then if g_in (I 132 x5.toNatClampNeg) 6 = true then if g_in x5 6 = true then if (I 125 (I 132 x5.toNatClampNeg).toNatClampNeg) = (I 133 x5.toNatClampNeg) then b_X11_who_L63 I y1 y2 y3 K f 1 (x5 + 1) else b_X11_who_L63 I y1 y2 y3 K f 0 (x5 + 1) else none else none else none else b_X11_who_L63 I y1 y2 y3 K f 1 (x5 + 1) else none
def b_X11_who_L23 (y1 : Int32) (K : Int32 → g_I → Option (Int32 × g_I)) : Nat → Int32 → Int32 → g_I → Option (Int32 × g_I)
  | 0, _, _, _ => none
  | f + 1, x2, x3, I => g_let (fun (z2 : Int32) (z3 : Int32) (z4 : Int32) (I60j : g_I) => b_X11_who_L63 I60j y1 z2 z3 (fun (a2 : Int32) => if a2 = 0 then g_let (z2 ||| 0) fun a3 => b_X11_who_L23 y1 K f a3 (z3 + 1) I60j else g_let (z2 ||| ((1 : Int32) <<< (z3 &&& 31))) fun a4 => b_X11_who_L23 y1 K f a4 (z3 + 1) I60j) fu z4 0) fun J60 => if (I 104 0) ≤ x3 then K x2 I else g_bind (b_X11_eats I x3 y1) fun t5 => if t5 = true then if (0 : Int32) = 0 then J60 x2 x3 0 I else g_bind (b_X11_tellSlices I x3 y1) fun I9 => J60 x2 x3 0 I9 else if (1 : Int32) = 0 then J60 x2 x3 1 I else g_bind (b_X11_tellSlices I x3 y1) fun I12 => J60 x2 x3 1 I12
def b_X11_who (I : g_I) (x1 : Int32) : Option (Int32 × g_I) :=
  g_let (am_up I 101 2 0) fun I1 => if b_X11_isLoaf I1 x1 = true then b_X11_who_L23 x1 (fun (a14 : Int32) (I15 : g_I) => some (a14, I15)) fu 0 0 I1 else g_bind2 (b_X11_fail I1 1) fun a16 I17 => some (a16, I17)
set_option maxRecDepth 100000 in
set_option maxHeartbeats 4000000 in
theorem gL_X11_who_63 {G : am_G} (hK : k_OK G) {d : Nat} (hd : 4 ≤ d) {sh : List (Nat ⊕ (Nat × Nat))} {I : g_I} {R : Nat → Nat → Option Nat} {L : Nat → Nat → Int64} {g : Nat} (hm : k_Mod sh R) {y1 : Int32} {y2 : Int32} {y3 : Int32} {K : Int32 → Option (Int32 × g_I)} {x4 : Int32} {x5 : Int32} {f : Nat} {r : Int32 × g_I} (h : b_X11_who_L63 I y1 y2 y3 K f x4 x5 = some r) (hk : ∀ (u4 : Int32), K u4 = some r → AW G mX11_who d (fun v w => v = some (.int r.1) ∧ w = (sh, r.2, R, L, g)) (fun _ _ => False) 123 [some (.ref 101), some (.int y1), some (.int y2), some (.int y3), some (.int u4), none] [] (sh, I, R, L, g) 0 0) : AW G mX11_who d (fun v w => v = some (.int r.1) ∧ w = (sh, r.2, R, L, g)) (fun _ _ => False) 63 [some (.ref 101), some (.int y1), some (.int y2), some (.int y3), some (.int x4), some (.int x5)] [] (sh, I, R, L, g) 0 0 := by
  have hG := hK.1
  induction f generalizing x4 x5 with
  | zero => rw [b_X11_who_L63] at h; cases h
  | succ f ih =>
    rw [b_X11_who_L63] at h
    refine AW.iload dX11_who_63 rfl ?_
    refine AW.aload_n dX11_who_65 rfl ?_
    refine AW.getI (fX11_330 hG).r rfl (hm.1 0 _ rfl) dX11_who_66 ?_
    refine AW.icmp_ge 123 dX11_who_69 (by decide) (fun hc69 => ?_) (fun hc69 => ?_)
    · replace h := g_pos hc69 h
      refine AW.mask [5] [some (.ref 101), some (.int y1), some (.int y2), some (.int y3), some (.int x4), none] rfl ?_
      exact hk _ h
    · replace h := g_neg hc69 h
      refine AW.iload dX11_who_72 rfl ?_
      refine AW.if_eq 123 dX11_who_74 (by decide) (fun hc74 => ?_) (fun hc74 => ?_)
      · replace h := g_pos hc74 h
        refine AW.mask [5] [some (.ref 101), some (.int y1), some (.int y2), some (.int y3), some (.int x4), none] rfl ?_
        exact hk _ h
      · replace h := g_neg hc74 h
        refine AW.aload_n dX11_who_77 rfl ?_
        refine AW.getR (c' := 131) (fX11_120 hG).r rfl (hm.1 0 _ rfl) (hm.2 (0, 51, 30) (by decide)) dX11_who_78 ?_
        refine AW.iload dX11_who_81 rfl ?_
        obtain ⟨hb, h⟩ := g_ifE h
        refine AW.iald (hm.1 30 _ rfl) (g_in_iff.mp hb) dX11_who_83 ?_
        refine AW.iload_n dX11_who_84 rfl ?_
        refine AW.icmp_ne 110 dX11_who_85 (by decide) (fun hc85 => ?_) (fun hc85 => ?_)
        · replace h := g_neg hc85 h
          refine AW.iconst 1 dX11_who_110 (by decide) ?_
          refine AW.goto 115 dX11_who_111 (by decide) ?_
          refine AW.is [some (.ref 101), some (.int y1), some (.int y2), some (.int y3), some (.int 1), some (.int x5)] dX11_who_115 (by decide) rfl rfl ?_
          refine AW.incE 1 (by decide) [some (.ref 101), some (.int y1), some (.int y2), some (.int y3), some (.int 1), some (.int (x5 + 1))] dX11_who_117 rfl (by decide) rfl rfl ?_
          refine AW.goto 63 dX11_who_120 (by decide) ?_
          exact ih h
        · replace h := g_pos hc85 h
          refine AW.aload_n dX11_who_88 rfl ?_
          refine AW.getR (c' := 125) (fX11_102 hG).r rfl (hm.1 0 _ rfl) (hm.2 (0, 39, 24) (by decide)) dX11_who_89 ?_
          refine AW.aload_n dX11_who_92 rfl ?_
          refine AW.getR (c' := 132) (fX11_123 hG).r rfl (hm.1 0 _ rfl) (hm.2 (0, 52, 31) (by decide)) dX11_who_93 ?_
          refine AW.iload dX11_who_96 rfl ?_
          obtain ⟨hb, h⟩ := g_ifE h
          refine AW.iald (hm.1 31 _ rfl) (g_in_iff.mp hb) dX11_who_98 ?_
          obtain ⟨hb, h⟩ := g_ifE h
          refine AW.iald (hm.1 24 _ rfl) (g_in_iff.mp hb) dX11_who_99 ?_
          refine AW.aload_n dX11_who_100 rfl ?_
          refine AW.getR (c' := 133) (fX11_126 hG).r rfl (hm.1 0 _ rfl) (hm.2 (0, 53, 32) (by decide)) dX11_who_101 ?_
          refine AW.iload dX11_who_104 rfl ?_
          obtain ⟨hb, h⟩ := g_ifE h
          refine AW.iald (hm.1 32 _ rfl) (g_in_iff.mp hb) dX11_who_106 ?_
          refine AW.icmp_ne 114 dX11_who_107 (by decide) (fun hc107 => ?_) (fun hc107 => ?_)
          · replace h := g_neg hc107 h
            refine AW.iconst 0 dX11_who_114 (by decide) ?_
            refine AW.is [some (.ref 101), some (.int y1), some (.int y2), some (.int y3), some (.int 0), some (.int x5)] dX11_who_115 (by decide) rfl rfl ?_
            refine AW.incE 1 (by decide) [some (.ref 101), some (.int y1), some (.int y2), some (.int y3), some (.int 0), some (.int (x5 + 1))] dX11_who_117 rfl (by decide) rfl rfl ?_
            refine AW.goto 63 dX11_who_120 (by decide) ?_
            exact ih h
          · replace h := g_pos hc107 h
            refine AW.iconst 1 dX11_who_110 (by decide) ?_
            refine AW.goto 115 dX11_who_111 (by decide) ?_
            refine AW.is [some (.ref 101), some (.int y1), some (.int y2), some (.int y3), some (.int 1), some (.int x5)] dX11_who_115 (by decide) rfl rfl ?_
            refine AW.incE 1 (by decide) [some (.ref 101), some (.int y1), some (.int y2), some (.int y3), some (.int 1), some (.int (x5 + 1))] dX11_who_117 rfl (by decide) rfl rfl ?_
            refine AW.goto 63 dX11_who_120 (by decide) ?_
            exact ih h
set_option maxRecDepth 100000 in
set_option maxHeartbeats 4000000 in
theorem gL_X11_who_23 {G : am_G} (hK : k_OK G) {d : Nat} (hd : 4 ≤ d) {sh : List (Nat ⊕ (Nat × Nat))} {I : g_I} {R : Nat → Nat → Option Nat} {L : Nat → Nat → Int64} {g : Nat} (hm : k_Mod sh R) {y1 : Int32} {K : Int32 → g_I → Option (Int32 × g_I)} {x2 : Int32} {x3 : Int32} {f : Nat} {r : Int32 × g_I} (h : b_X11_who_L23 y1 K f x2 x3 I = some r) (hk : ∀ (u2 : Int32) (J : g_I), K u2 J = some r → AW G mX11_who d (fun v w => v = some (.int r.1) ∧ w = (sh, r.2, R, L, g)) (fun _ _ => False) 144 [none, none, some (.int u2), none, none, none] [] (sh, J, R, L, g) 0 0) : AW G mX11_who d (fun v w => v = some (.int r.1) ∧ w = (sh, r.2, R, L, g)) (fun _ _ => False) 23 [some (.ref 101), some (.int y1), some (.int x2), some (.int x3), none, none] [] (sh, I, R, L, g) 0 0 := by
  have hG := hK.1
  induction f generalizing x2 x3 I with
  | zero => rw [b_X11_who_L23] at h; cases h
  | succ f ih =>
    rw [b_X11_who_L23] at h
    obtain ⟨J60, eJ60, h⟩ := g_letE h
    have H60 : ∀ (z2 : Int32) (z3 : Int32) (z4 : Int32) (I60j : g_I), J60 z2 z3 z4 I60j = some r → AW G mX11_who d (fun v w => v = some (.int r.1) ∧ w = (sh, r.2, R, L, g)) (fun _ _ => False) 60 [some (.ref 101), some (.int y1), some (.int z2), some (.int z3), some (.int z4), none] [] (sh, I60j, R, L, g) 0 0 := by
      intro z2 z3 z4 I60j h
      rw [eJ60] at h
      refine AW.iconst 0 dX11_who_60 (by decide) ?_
      refine AW.is [some (.ref 101), some (.int y1), some (.int z2), some (.int z3), some (.int z4), some (.int 0)] dX11_who_61 (by decide) rfl rfl ?_
      refine gL_X11_who_63 hK hd hm h (fun a2 h => ?_)
      refine AW.iload_n dX11_who_123 rfl ?_
      refine AW.iload dX11_who_124 rfl ?_
      refine AW.if_eq 135 dX11_who_126 (by decide) (fun hc126 => ?_) (fun hc126 => ?_)
      · replace h := g_pos hc126 h
        refine AW.iconst 0 dX11_who_135 (by decide) ?_
        refine AW.ior dX11_who_136 ?_
        obtain ⟨a3, ea3, h⟩ := g_letE h
        refine AW.namE ea3 ?_
        refine AW.is_n [some (.ref 101), some (.int y1), some (.int a3), some (.int z3), some (.int a2), none] dX11_who_137 (by decide) rfl rfl ?_
        refine AW.incE 1 (by decide) [some (.ref 101), some (.int y1), some (.int a3), some (.int (z3 + 1)), some (.int a2), none] dX11_who_138 rfl (by decide) rfl rfl ?_
        refine AW.goto 23 dX11_who_141 (by decide) ?_
        refine AW.mask [4] [some (.ref 101), some (.int y1), some (.int a3), some (.int (z3 + 1)), none, none] rfl ?_
        exact ih h
      · replace h := g_neg hc126 h
        refine AW.iconst 1 dX11_who_129 (by decide) ?_
        refine AW.iload_n dX11_who_130 rfl ?_
        refine AW.ishl dX11_who_131 ?_
        refine AW.goto 136 dX11_who_132 (by decide) ?_
        refine AW.ior dX11_who_136 ?_
        obtain ⟨a4, ea4, h⟩ := g_letE h
        refine AW.namE ea4 ?_
        refine AW.is_n [some (.ref 101), some (.int y1), some (.int a4), some (.int z3), some (.int a2), none] dX11_who_137 (by decide) rfl rfl ?_
        refine AW.incE 1 (by decide) [some (.ref 101), some (.int y1), some (.int a4), some (.int (z3 + 1)), some (.int a2), none] dX11_who_138 rfl (by decide) rfl rfl ?_
        refine AW.goto 23 dX11_who_141 (by decide) ?_
        refine AW.mask [4] [some (.ref 101), some (.int y1), some (.int a4), some (.int (z3 + 1)), none, none] rfl ?_
        exact ih h
    refine AW.iload_n dX11_who_23 rfl ?_
    refine AW.aload_n dX11_who_24 rfl ?_
    refine AW.getR (c' := 104) (fX11_38 hG).r rfl (hm.1 0 _ rfl) (hm.2 (0, 3, 3) (by decide)) dX11_who_25 ?_
    refine AW.iconst 0 dX11_who_28 (by decide) ?_
    refine AW.iald (hm.1 3 _ rfl) (by unfold vp_in; decide) dX11_who_29 ?_
    show AW G _ d _ _ 30 [some (.ref 101), some (.int y1), some (.int x2), some (.int x3), none, none] [.int (I 104 0), .int x3] (sh, I, R, L, g) 0 0
    refine AW.icmp_ge 144 dX11_who_30 (by decide) (fun hc30 => ?_) (fun hc30 => ?_)
    · replace h := g_pos hc30 h
      refine AW.mask [0, 1, 3] [none, none, some (.int x2), none, none, none] rfl ?_
      exact hk _ _ h
    · replace h := g_neg hc30 h
      refine AW.aload_n dX11_who_33 rfl ?_
      refine AW.iload_n dX11_who_34 rfl ?_
      refine AW.iload_n dX11_who_35 rfl ?_
      obtain ⟨t5, hx7, h⟩ := g_bindE h
      refine AW.callV (b := 101) (As := [.int x3, .int y1]) hG.2.2 (vX11_355 hG) (hm.1 0 _ rfl) (g_X11_eats hK (d := 1) (Nat.le_refl _) hm hx7) (by omega) dX11_who_36 rfl rfl (Nat.le_of_ble_eq_true rfl) (fun v w9 hq9 h09 => by obtain ⟨rfl, rfl⟩ := hq9; exact ⟨h09, rfl⟩) (by decide) (by decide) (fun _ _ hx => hx) (fun v9 w9 hq9 => ?_)
      obtain ⟨rfl, rfl⟩ := hq9
      show AW G _ d _ _ 39 [some (.ref 101), some (.int y1), some (.int x2), some (.int x3), none, none] [.int (kb t5)] (sh, I, R, L, g) 0 0
      refine AW.if_ne 46 dX11_who_39 (by decide) (fun hc39 => ?_) (fun hc39 => ?_)
      · replace h := g_pos (kb_1.mp hc39) h
        refine AW.iconst 0 dX11_who_46 (by decide) ?_
        refine AW.is [some (.ref 101), some (.int y1), some (.int x2), some (.int x3), some (.int 0), none] dX11_who_47 (by decide) rfl rfl ?_
        refine AW.iload dX11_who_49 rfl ?_
        refine AW.if_eq 60 dX11_who_51 (by decide) (fun hc51 => ?_) (fun hc51 => ?_)
        · replace h := g_pos hc51 h
          exact H60 _ _ _ _ h
        · replace h := g_neg hc51 h
          refine AW.aload_n dX11_who_54 rfl ?_
          refine AW.iload_n dX11_who_55 rfl ?_
          refine AW.iload_n dX11_who_56 rfl ?_
          obtain ⟨I9, hx10, h⟩ := g_bindE h
          refine AW.callV (b := 101) (As := [.int x3, .int y1]) hG.2.2 (vX11_403 hG) (hm.1 0 _ rfl) (g_X11_tellSlices hK (d := 3) (Nat.le_refl _) hm hx10) (by omega) dX11_who_57 rfl rfl (Nat.le_of_ble_eq_true rfl) (fun v w9 hq9 h09 => by obtain ⟨rfl, rfl⟩ := hq9; exact ⟨h09, rfl⟩) (by decide) (by decide) (fun _ _ hx => hx) (fun v9 w9 hq9 => ?_)
          obtain ⟨rfl, rfl⟩ := hq9
          show AW G _ d _ _ 60 [some (.ref 101), some (.int y1), some (.int x2), some (.int x3), some (.int 0), none] [] (sh, I9, R, L, g) 0 0
          exact H60 _ _ _ _ h
      · replace h := g_neg (g_kb0 hc39) h
        refine AW.iconst 1 dX11_who_42 (by decide) ?_
        refine AW.goto 47 dX11_who_43 (by decide) ?_
        refine AW.is [some (.ref 101), some (.int y1), some (.int x2), some (.int x3), some (.int 1), none] dX11_who_47 (by decide) rfl rfl ?_
        refine AW.iload dX11_who_49 rfl ?_
        refine AW.if_eq 60 dX11_who_51 (by decide) (fun hc51 => ?_) (fun hc51 => ?_)
        · replace h := g_pos hc51 h
          exact H60 _ _ _ _ h
        · replace h := g_neg hc51 h
          refine AW.aload_n dX11_who_54 rfl ?_
          refine AW.iload_n dX11_who_55 rfl ?_
          refine AW.iload_n dX11_who_56 rfl ?_
          obtain ⟨I12, hx13, h⟩ := g_bindE h
          refine AW.callV (b := 101) (As := [.int x3, .int y1]) hG.2.2 (vX11_403 hG) (hm.1 0 _ rfl) (g_X11_tellSlices hK (d := 3) (Nat.le_refl _) hm hx13) (by omega) dX11_who_57 rfl rfl (Nat.le_of_ble_eq_true rfl) (fun v w9 hq9 h09 => by obtain ⟨rfl, rfl⟩ := hq9; exact ⟨h09, rfl⟩) (by decide) (by decide) (fun _ _ hx => hx) (fun v9 w9 hq9 => ?_)
          obtain ⟨rfl, rfl⟩ := hq9
          show AW G _ d _ _ 60 [some (.ref 101), some (.int y1), some (.int x2), some (.int x3), some (.int 1), none] [] (sh, I12, R, L, g) 0 0
          exact H60 _ _ _ _ h
set_option maxRecDepth 100000 in
set_option maxHeartbeats 4000000 in
theorem g_X11_who {G : am_G} (hK : k_OK G) {d : Nat} (hd : 4 ≤ d) {sh : List (Nat ⊕ (Nat × Nat))} {I : g_I} {R : Nat → Nat → Option Nat} {L : Nat → Nat → Int64} {g : Nat} (hm : k_Mod sh R) {x1 : Int32} {r : Int32 × g_I} (h : b_X11_who I x1 = some r) : AM G mX11_who d [.ref 101, .int x1] (sh, I, R, L, g) (fun v w => v = some (.int r.1) ∧ w = (sh, r.2, R, L, g)) (fun _ _ => False) := by
  have hG := hK.1
  refine AM.of (n := 4) (by decide +kernel) (Nat.le_of_ble_eq_true rfl) ?_
  show AW G mX11_who d (fun v w => v = some (.int r.1) ∧ w = (sh, r.2, R, L, g)) (fun _ _ => False) 0 [some (.ref 101), some (.int x1), none, none, none, none] [] (sh, I, R, L, g) 0 0
  unfold b_X11_who at h
  refine AW.aload_n dX11_who_0 rfl ?_
  refine AW.iconst 0 dX11_who_1 (by decide) ?_
  refine AW.putI (fX11_159 hG) rfl (vp_nar_int _) rfl (hm.1 0 _ rfl) dX11_who_2 ?_
  obtain ⟨I1, eI1, h⟩ := g_letE h
  refine AW.namIE eI1 ?_
  refine AW.aload_n dX11_who_5 rfl ?_
  refine AW.iload_n dX11_who_6 rfl ?_
  refine AW.callV (b := 101) (As := [.int x1]) hG.2.2 (vX11_392 hG) (hm.1 0 _ rfl) (g_X11_isLoaf hK (d := 1) (Nat.le_refl _) hm) (by omega) dX11_who_7 rfl rfl (Nat.le_of_ble_eq_true rfl) (fun v w9 hq9 h09 => by obtain ⟨rfl, rfl⟩ := hq9; exact ⟨h09, rfl⟩) (by decide) (by decide) (fun _ _ hx => hx) (fun v9 w9 hq9 => ?_)
  obtain ⟨rfl, rfl⟩ := hq9
  show AW G _ d _ _ 10 [some (.ref 101), some (.int x1), none, none, none, none] [.int (kb (b_X11_isLoaf I1 x1))] (sh, I1, R, L, g) 0 0
  refine AW.if_ne 19 dX11_who_10 (by decide) (fun hc10 => ?_) (fun hc10 => ?_)
  · replace h := g_pos (kb_1.mp hc10) h
    refine AW.iconst 0 dX11_who_19 (by decide) ?_
    refine AW.is_n [some (.ref 101), some (.int x1), some (.int 0), none, none, none] dX11_who_20 (by decide) rfl rfl ?_
    refine AW.iconst 0 dX11_who_21 (by decide) ?_
    refine AW.is_n [some (.ref 101), some (.int x1), some (.int 0), some (.int 0), none, none] dX11_who_22 (by decide) rfl rfl ?_
    refine gL_X11_who_23 hK hd hm h (fun a14 I15 h => ?_)
    refine AW.iload_n dX11_who_144 rfl ?_
    exact AW.iret dX11_who_145 rfl (by decide) (by decide) (by cases h; exact ⟨rfl, rfl⟩)
  · replace h := g_neg (g_kb0 hc10) h
    refine AW.aload_n dX11_who_13 rfl ?_
    refine AW.iconst 1 dX11_who_14 (by decide) ?_
    obtain ⟨a16, I17, hx18, h⟩ := g_bind2E h
    refine AW.callV (b := 101) (As := [.int 1]) hG.2.2 (vX11_307 hG) (hm.1 0 _ rfl) (g_X11_fail hK (d := 0) (Nat.le_refl _) hm hx18) (by omega) dX11_who_15 rfl rfl (Nat.le_of_ble_eq_true rfl) (fun v w9 hq9 h09 => by obtain ⟨rfl, rfl⟩ := hq9; exact ⟨h09, rfl⟩) (by decide) (by decide) (fun _ _ hx => hx) (fun v9 w9 hq9 => ?_)
    obtain ⟨rfl, rfl⟩ := hq9
    show AW G _ d _ _ 18 [some (.ref 101), some (.int x1), none, none, none, none] [.int a16] (sh, I17, R, L, g) 0 0
    exact AW.iret dX11_who_18 rfl (by decide) (by decide) (by cases h; exact ⟨rfl, rfl⟩)
theorem dX11_balk_0 : decode cX11_balk 0 = .ok (.aload_n 0, 1) := by decide +kernel
theorem dX11_balk_1 : decode cX11_balk 1 = .ok (.iconst 0, 1) := by decide +kernel
theorem dX11_balk_2 : decode cX11_balk 2 = .ok (.putfield 159, 3) := by decide +kernel
theorem dX11_balk_5 : decode cX11_balk 5 = .ok (.aload_n 0, 1) := by decide +kernel
theorem dX11_balk_6 : decode cX11_balk 6 = .ok (.iload_n 1, 1) := by decide +kernel
theorem dX11_balk_7 : decode cX11_balk 7 = .ok (.invokevirtual 389, 3) := by decide +kernel
theorem dX11_balk_10 : decode cX11_balk 10 = .ok (.ifCond .eq 11, 3) := by decide +kernel
theorem dX11_balk_13 : decode cX11_balk 13 = .ok (.aload_n 0, 1) := by decide +kernel
theorem dX11_balk_14 : decode cX11_balk 14 = .ok (.iload_n 2, 1) := by decide +kernel
theorem dX11_balk_15 : decode cX11_balk 15 = .ok (.invokevirtual 392, 3) := by decide +kernel
theorem dX11_balk_18 : decode cX11_balk 18 = .ok (.ifCond .ne 9, 3) := by decide +kernel
theorem dX11_balk_21 : decode cX11_balk 21 = .ok (.aload_n 0, 1) := by decide +kernel
theorem dX11_balk_22 : decode cX11_balk 22 = .ok (.iconst 1, 1) := by decide +kernel
theorem dX11_balk_23 : decode cX11_balk 23 = .ok (.invokevirtual 307, 3) := by decide +kernel
theorem dX11_balk_26 : decode cX11_balk 26 = .ok (.ireturn, 1) := by decide +kernel
theorem dX11_balk_27 : decode cX11_balk 27 = .ok (.aload_n 0, 1) := by decide +kernel
theorem dX11_balk_28 : decode cX11_balk 28 = .ok (.getfield 333, 3) := by decide +kernel
theorem dX11_balk_31 : decode cX11_balk 31 = .ok (.iconst 4, 1) := by decide +kernel
theorem dX11_balk_32 : decode cX11_balk 32 = .ok (.if_icmp .ne 9, 3) := by decide +kernel
theorem dX11_balk_35 : decode cX11_balk 35 = .ok (.aload_n 0, 1) := by decide +kernel
theorem dX11_balk_36 : decode cX11_balk 36 = .ok (.iconst 2, 1) := by decide +kernel
theorem dX11_balk_37 : decode cX11_balk 37 = .ok (.invokevirtual 414, 3) := by decide +kernel
theorem dX11_balk_40 : decode cX11_balk 40 = .ok (.ireturn, 1) := by decide +kernel
theorem dX11_balk_41 : decode cX11_balk 41 = .ok (.aload_n 0, 1) := by decide +kernel
theorem dX11_balk_42 : decode cX11_balk 42 = .ok (.getfield 129, 3) := by decide +kernel
theorem dX11_balk_45 : decode cX11_balk 45 = .ok (.aload_n 0, 1) := by decide +kernel
theorem dX11_balk_46 : decode cX11_balk 46 = .ok (.getfield 333, 3) := by decide +kernel
theorem dX11_balk_49 : decode cX11_balk 49 = .ok (.iload_n 1, 1) := by decide +kernel
theorem dX11_balk_50 : decode cX11_balk 50 = .ok (.iastore, 1) := by decide +kernel
theorem dX11_balk_51 : decode cX11_balk 51 = .ok (.aload_n 0, 1) := by decide +kernel
theorem dX11_balk_52 : decode cX11_balk 52 = .ok (.getfield 132, 3) := by decide +kernel
theorem dX11_balk_55 : decode cX11_balk 55 = .ok (.aload_n 0, 1) := by decide +kernel
theorem dX11_balk_56 : decode cX11_balk 56 = .ok (.getfield 333, 3) := by decide +kernel
theorem dX11_balk_59 : decode cX11_balk 59 = .ok (.iload_n 2, 1) := by decide +kernel
theorem dX11_balk_60 : decode cX11_balk 60 = .ok (.iastore, 1) := by decide +kernel
theorem dX11_balk_61 : decode cX11_balk 61 = .ok (.aload_n 0, 1) := by decide +kernel
theorem dX11_balk_62 : decode cX11_balk 62 = .ok (.dup, 1) := by decide +kernel
theorem dX11_balk_63 : decode cX11_balk 63 = .ok (.getfield 333, 3) := by decide +kernel
theorem dX11_balk_66 : decode cX11_balk 66 = .ok (.iconst 1, 1) := by decide +kernel
theorem dX11_balk_67 : decode cX11_balk 67 = .ok (.iadd, 1) := by decide +kernel
theorem dX11_balk_68 : decode cX11_balk 68 = .ok (.putfield 333, 3) := by decide +kernel
theorem dX11_balk_71 : decode cX11_balk 71 = .ok (.aload_n 0, 1) := by decide +kernel
theorem dX11_balk_72 : decode cX11_balk 72 = .ok (.getfield 333, 3) := by decide +kernel
theorem dX11_balk_75 : decode cX11_balk 75 = .ok (.ireturn, 1) := by decide +kernel
def b_X11_balk (I : g_I) (x1 : Int32) (x2 : Int32) : Option (Int32 × g_I) :=
  g_let (am_up I 101 2 0) fun I1 => if b_X11_isPerson I1 x1 = true then if b_X11_isLoaf I1 x2 = true then if (I1 101 34) = 4 then g_bind2 (b_X11_refuse I1 2) fun a8 I9 => some (a8, I9) else if g_in (I1 101 34) 4 = true then g_let (am_up I1 134 (I1 101 34).toNatClampNeg x1) fun I5 => if g_in (I5 101 34) 4 = true then g_let (am_up I5 135 (I5 101 34).toNatClampNeg x2) fun I6 => g_let (am_up I6 101 34 ((I6 101 34) + 1)) fun I7 => some (I7 101 34, I7) else none else none else g_bind2 (b_X11_fail I1 1) fun a11 I12 => some (a11, I12) else g_bind2 (b_X11_fail I1 1) fun a2 I3 => some (a2, I3)
set_option maxRecDepth 100000 in
set_option maxHeartbeats 4000000 in
theorem g_X11_balk {G : am_G} (hK : k_OK G) {d : Nat} (hd : 2 ≤ d) {sh : List (Nat ⊕ (Nat × Nat))} {I : g_I} {R : Nat → Nat → Option Nat} {L : Nat → Nat → Int64} {g : Nat} (hm : k_Mod sh R) {x1 : Int32} {x2 : Int32} {r : Int32 × g_I} (h : b_X11_balk I x1 x2 = some r) : AM G mX11_balk d [.ref 101, .int x1, .int x2] (sh, I, R, L, g) (fun v w => v = some (.int r.1) ∧ w = (sh, r.2, R, L, g)) (fun _ _ => False) := by
  have hG := hK.1
  refine AM.of (n := 0) (by decide +kernel) (Nat.le_of_ble_eq_true rfl) ?_
  show AW G mX11_balk d (fun v w => v = some (.int r.1) ∧ w = (sh, r.2, R, L, g)) (fun _ _ => False) 0 [some (.ref 101), some (.int x1), some (.int x2)] [] (sh, I, R, L, g) 0 0
  unfold b_X11_balk at h
  refine AW.aload_n dX11_balk_0 rfl ?_
  refine AW.iconst 0 dX11_balk_1 (by decide) ?_
  refine AW.putI (fX11_159 hG) rfl (vp_nar_int _) rfl (hm.1 0 _ rfl) dX11_balk_2 ?_
  obtain ⟨I1, eI1, h⟩ := g_letE h
  refine AW.namIE eI1 ?_
  refine AW.aload_n dX11_balk_5 rfl ?_
  refine AW.iload_n dX11_balk_6 rfl ?_
  refine AW.callV (b := 101) (As := [.int x1]) hG.2.2 (vX11_389 hG) (hm.1 0 _ rfl) (g_X11_isPerson hK (d := 1) (Nat.le_refl _) hm) (by omega) dX11_balk_7 rfl rfl (Nat.le_of_ble_eq_true rfl) (fun v w9 hq9 h09 => by obtain ⟨rfl, rfl⟩ := hq9; exact ⟨h09, rfl⟩) (by decide) (by decide) (fun _ _ hx => hx) (fun v9 w9 hq9 => ?_)
  obtain ⟨rfl, rfl⟩ := hq9
  show AW G _ d _ _ 10 [some (.ref 101), some (.int x1), some (.int x2)] [.int (kb (b_X11_isPerson I1 x1))] (sh, I1, R, L, g) 0 0
  refine AW.if_eq 21 dX11_balk_10 (by decide) (fun hc10 => ?_) (fun hc10 => ?_)
  · replace h := g_neg (g_kb0 hc10) h
    refine AW.aload_n dX11_balk_21 rfl ?_
    refine AW.iconst 1 dX11_balk_22 (by decide) ?_
    obtain ⟨a2, I3, hx4, h⟩ := g_bind2E h
    refine AW.callV (b := 101) (As := [.int 1]) hG.2.2 (vX11_307 hG) (hm.1 0 _ rfl) (g_X11_fail hK (d := 0) (Nat.le_refl _) hm hx4) (by omega) dX11_balk_23 rfl rfl (Nat.le_of_ble_eq_true rfl) (fun v w9 hq9 h09 => by obtain ⟨rfl, rfl⟩ := hq9; exact ⟨h09, rfl⟩) (by decide) (by decide) (fun _ _ hx => hx) (fun v9 w9 hq9 => ?_)
    obtain ⟨rfl, rfl⟩ := hq9
    show AW G _ d _ _ 26 [some (.ref 101), some (.int x1), some (.int x2)] [.int a2] (sh, I3, R, L, g) 0 0
    exact AW.iret dX11_balk_26 rfl (by decide) (by decide) (by cases h; exact ⟨rfl, rfl⟩)
  · replace h := g_pos (kb_1.mp hc10) h
    refine AW.aload_n dX11_balk_13 rfl ?_
    refine AW.iload_n dX11_balk_14 rfl ?_
    refine AW.callV (b := 101) (As := [.int x2]) hG.2.2 (vX11_392 hG) (hm.1 0 _ rfl) (g_X11_isLoaf hK (d := 1) (Nat.le_refl _) hm) (by omega) dX11_balk_15 rfl rfl (Nat.le_of_ble_eq_true rfl) (fun v w9 hq9 h09 => by obtain ⟨rfl, rfl⟩ := hq9; exact ⟨h09, rfl⟩) (by decide) (by decide) (fun _ _ hx => hx) (fun v9 w9 hq9 => ?_)
    obtain ⟨rfl, rfl⟩ := hq9
    show AW G _ d _ _ 18 [some (.ref 101), some (.int x1), some (.int x2)] [.int (kb (b_X11_isLoaf I1 x2))] (sh, I1, R, L, g) 0 0
    refine AW.if_ne 27 dX11_balk_18 (by decide) (fun hc18 => ?_) (fun hc18 => ?_)
    · replace h := g_pos (kb_1.mp hc18) h
      refine AW.aload_n dX11_balk_27 rfl ?_
      refine AW.getI (fX11_333 hG).r rfl (hm.1 0 _ rfl) dX11_balk_28 ?_
      refine AW.iconst 4 dX11_balk_31 (by decide) ?_
      refine AW.icmp_ne 41 dX11_balk_32 (by decide) (fun hc32 => ?_) (fun hc32 => ?_)
      · replace h := g_neg hc32 h
        refine AW.aload_n dX11_balk_41 rfl ?_
        refine AW.getR (c' := 134) (fX11_129 hG).r rfl (hm.1 0 _ rfl) (hm.2 (0, 54, 33) (by decide)) dX11_balk_42 ?_
        refine AW.aload_n dX11_balk_45 rfl ?_
        refine AW.getI (fX11_333 hG).r rfl (hm.1 0 _ rfl) dX11_balk_46 ?_
        refine AW.iload_n dX11_balk_49 rfl ?_
        obtain ⟨hb, h⟩ := g_ifE h
        refine AW.iast (hm.1 33 _ rfl) (g_in_iff.mp hb) dX11_balk_50 ?_
        obtain ⟨I5, eI5, h⟩ := g_letE h
        refine AW.namIE eI5 ?_
        refine AW.aload_n dX11_balk_51 rfl ?_
        refine AW.getR (c' := 135) (fX11_132 hG).r rfl (hm.1 0 _ rfl) (hm.2 (0, 55, 34) (by decide)) dX11_balk_52 ?_
        refine AW.aload_n dX11_balk_55 rfl ?_
        refine AW.getI (fX11_333 hG).r rfl (hm.1 0 _ rfl) dX11_balk_56 ?_
        refine AW.iload_n dX11_balk_59 rfl ?_
        obtain ⟨hb, h⟩ := g_ifE h
        refine AW.iast (hm.1 34 _ rfl) (g_in_iff.mp hb) dX11_balk_60 ?_
        obtain ⟨I6, eI6, h⟩ := g_letE h
        refine AW.namIE eI6 ?_
        refine AW.aload_n dX11_balk_61 rfl ?_
        refine AW.dup dX11_balk_62 rfl ?_
        refine AW.getI (fX11_333 hG).r rfl (hm.1 0 _ rfl) dX11_balk_63 ?_
        refine AW.iconst 1 dX11_balk_66 (by decide) ?_
        refine AW.iadd dX11_balk_67 ?_
        refine AW.putI (fX11_333 hG) rfl (vp_nar_int _) rfl (hm.1 0 _ rfl) dX11_balk_68 ?_
        obtain ⟨I7, eI7, h⟩ := g_letE h
        refine AW.namIE eI7 ?_
        refine AW.aload_n dX11_balk_71 rfl ?_
        refine AW.getI (fX11_333 hG).r rfl (hm.1 0 _ rfl) dX11_balk_72 ?_
        exact AW.iret dX11_balk_75 rfl (by decide) (by decide) (by cases h; exact ⟨rfl, rfl⟩)
      · replace h := g_pos hc32 h
        refine AW.aload_n dX11_balk_35 rfl ?_
        refine AW.iconst 2 dX11_balk_36 (by decide) ?_
        obtain ⟨a8, I9, hx10, h⟩ := g_bind2E h
        refine AW.callV (b := 101) (As := [.int 2]) hG.2.2 (vX11_414 hG) (hm.1 0 _ rfl) (g_X11_refuse hK (d := 0) (Nat.le_refl _) hm hx10) (by omega) dX11_balk_37 rfl rfl (Nat.le_of_ble_eq_true rfl) (fun v w9 hq9 h09 => by obtain ⟨rfl, rfl⟩ := hq9; exact ⟨h09, rfl⟩) (by decide) (by decide) (fun _ _ hx => hx) (fun v9 w9 hq9 => ?_)
        obtain ⟨rfl, rfl⟩ := hq9
        show AW G _ d _ _ 40 [some (.ref 101), some (.int x1), some (.int x2)] [.int a8] (sh, I9, R, L, g) 0 0
        exact AW.iret dX11_balk_40 rfl (by decide) (by decide) (by cases h; exact ⟨rfl, rfl⟩)
    · replace h := g_neg (g_kb0 hc18) h
      refine AW.aload_n dX11_balk_21 rfl ?_
      refine AW.iconst 1 dX11_balk_22 (by decide) ?_
      obtain ⟨a11, I12, hx13, h⟩ := g_bind2E h
      refine AW.callV (b := 101) (As := [.int 1]) hG.2.2 (vX11_307 hG) (hm.1 0 _ rfl) (g_X11_fail hK (d := 0) (Nat.le_refl _) hm hx13) (by omega) dX11_balk_23 rfl rfl (Nat.le_of_ble_eq_true rfl) (fun v w9 hq9 h09 => by obtain ⟨rfl, rfl⟩ := hq9; exact ⟨h09, rfl⟩) (by decide) (by decide) (fun _ _ hx => hx) (fun v9 w9 hq9 => ?_)
      obtain ⟨rfl, rfl⟩ := hq9
      show AW G _ d _ _ 26 [some (.ref 101), some (.int x1), some (.int x2)] [.int a11] (sh, I12, R, L, g) 0 0
      exact AW.iret dX11_balk_26 rfl (by decide) (by decide) (by cases h; exact ⟨rfl, rfl⟩)
theorem dX11_isBalked_0 : decode cX11_isBalked 0 = .ok (.iconst 0, 1) := by decide +kernel
theorem dX11_isBalked_1 : decode cX11_isBalked 1 = .ok (.istore_n 1, 1) := by decide +kernel
theorem dX11_isBalked_2 : decode cX11_isBalked 2 = .ok (.iload_n 1, 1) := by decide +kernel
theorem dX11_isBalked_3 : decode cX11_isBalked 3 = .ok (.aload_n 0, 1) := by decide +kernel
theorem dX11_isBalked_4 : decode cX11_isBalked 4 = .ok (.getfield 333, 3) := by decide +kernel
theorem dX11_isBalked_7 : decode cX11_isBalked 7 = .ok (.if_icmp .ge 30, 3) := by decide +kernel
theorem dX11_isBalked_10 : decode cX11_isBalked 10 = .ok (.aload_n 0, 1) := by decide +kernel
theorem dX11_isBalked_11 : decode cX11_isBalked 11 = .ok (.aload_n 0, 1) := by decide +kernel
theorem dX11_isBalked_12 : decode cX11_isBalked 12 = .ok (.getfield 129, 3) := by decide +kernel
theorem dX11_isBalked_15 : decode cX11_isBalked 15 = .ok (.iload_n 1, 1) := by decide +kernel
theorem dX11_isBalked_16 : decode cX11_isBalked 16 = .ok (.iaload, 1) := by decide +kernel
theorem dX11_isBalked_17 : decode cX11_isBalked 17 = .ok (.aload_n 0, 1) := by decide +kernel
theorem dX11_isBalked_18 : decode cX11_isBalked 18 = .ok (.getfield 132, 3) := by decide +kernel
theorem dX11_isBalked_21 : decode cX11_isBalked 21 = .ok (.iload_n 1, 1) := by decide +kernel
theorem dX11_isBalked_22 : decode cX11_isBalked 22 = .ok (.iaload, 1) := by decide +kernel
theorem dX11_isBalked_23 : decode cX11_isBalked 23 = .ok (.invokevirtual 358, 3) := by decide +kernel
theorem dX11_isBalked_26 : decode cX11_isBalked 26 = .ok (.ifCond .ne 5, 3) := by decide +kernel
theorem dX11_isBalked_29 : decode cX11_isBalked 29 = .ok (.iconst 0, 1) := by decide +kernel
theorem dX11_isBalked_30 : decode cX11_isBalked 30 = .ok (.ireturn, 1) := by decide +kernel
theorem dX11_isBalked_31 : decode cX11_isBalked 31 = .ok (.iinc 1 1, 3) := by decide +kernel
theorem dX11_isBalked_34 : decode cX11_isBalked 34 = .ok (.goto (-32), 3) := by decide +kernel
theorem dX11_isBalked_37 : decode cX11_isBalked 37 = .ok (.iconst 1, 1) := by decide +kernel
theorem dX11_isBalked_38 : decode cX11_isBalked 38 = .ok (.ireturn, 1) := by decide +kernel
def b_X11_isBalked_L2 (I : g_I) (K : Unit → Option (Bool)) : Nat → Int32 → Option (Bool)
  | 0, _ => none
  | f + 1, x1 => if (I 101 34) ≤ x1 then K () else if g_in x1 4 = true then if g_in x1 4 = true then g_bind (b_X11_knowsEater I (I 134 x1.toNatClampNeg) (I 135 x1.toNatClampNeg)) fun t1 => if t1 = true then b_X11_isBalked_L2 I K f (x1 + 1) else some false else none else none
def b_X11_isBalked (I : g_I) : Option (Bool) :=
  b_X11_isBalked_L2 I (fun (_ : Unit) => some true) fu 0
set_option maxRecDepth 100000 in
set_option maxHeartbeats 4000000 in
theorem gL_X11_isBalked_2 {G : am_G} (hK : k_OK G) {d : Nat} (hd : 4 ≤ d) {sh : List (Nat ⊕ (Nat × Nat))} {I : g_I} {R : Nat → Nat → Option Nat} {L : Nat → Nat → Int64} {g : Nat} (hm : k_Mod sh R) {K : Unit → Option (Bool)} {x1 : Int32} {f : Nat} {r : Bool} (h : b_X11_isBalked_L2 I K f x1 = some r) (hk : ∀ (_ : Unit), K () = some r → AW G mX11_isBalked d (fun v w => v = some (.int (kb r)) ∧ w = (sh, I, R, L, g)) (fun _ _ => False) 37 [none, none] [] (sh, I, R, L, g) 0 0) : AW G mX11_isBalked d (fun v w => v = some (.int (kb r)) ∧ w = (sh, I, R, L, g)) (fun _ _ => False) 2 [some (.ref 101), some (.int x1)] [] (sh, I, R, L, g) 0 0 := by
  have hG := hK.1
  induction f generalizing x1 with
  | zero => rw [b_X11_isBalked_L2] at h; cases h
  | succ f ih =>
    rw [b_X11_isBalked_L2] at h
    refine AW.iload_n dX11_isBalked_2 rfl ?_
    refine AW.aload_n dX11_isBalked_3 rfl ?_
    refine AW.getI (fX11_333 hG).r rfl (hm.1 0 _ rfl) dX11_isBalked_4 ?_
    refine AW.icmp_ge 37 dX11_isBalked_7 (by decide) (fun hc7 => ?_) (fun hc7 => ?_)
    · replace h := g_pos hc7 h
      refine AW.mask [0, 1] [none, none] rfl ?_
      exact hk () h
    · replace h := g_neg hc7 h
      refine AW.aload_n dX11_isBalked_10 rfl ?_
      refine AW.aload_n dX11_isBalked_11 rfl ?_
      refine AW.getR (c' := 134) (fX11_129 hG).r rfl (hm.1 0 _ rfl) (hm.2 (0, 54, 33) (by decide)) dX11_isBalked_12 ?_
      refine AW.iload_n dX11_isBalked_15 rfl ?_
      obtain ⟨hb, h⟩ := g_ifE h
      refine AW.iald (hm.1 33 _ rfl) (g_in_iff.mp hb) dX11_isBalked_16 ?_
      refine AW.aload_n dX11_isBalked_17 rfl ?_
      refine AW.getR (c' := 135) (fX11_132 hG).r rfl (hm.1 0 _ rfl) (hm.2 (0, 55, 34) (by decide)) dX11_isBalked_18 ?_
      refine AW.iload_n dX11_isBalked_21 rfl ?_
      obtain ⟨hb, h⟩ := g_ifE h
      refine AW.iald (hm.1 34 _ rfl) (g_in_iff.mp hb) dX11_isBalked_22 ?_
      obtain ⟨t1, hx3, h⟩ := g_bindE h
      refine AW.callV (b := 101) (As := [.int (I 134 x1.toNatClampNeg), .int (I 135 x1.toNatClampNeg)]) hG.2.2 (vX11_358 hG) (hm.1 0 _ rfl) (g_X11_knowsEater hK (d := 3) (Nat.le_refl _) hm hx3) (by omega) dX11_isBalked_23 rfl rfl (Nat.le_of_ble_eq_true rfl) (fun v w9 hq9 h09 => by obtain ⟨rfl, rfl⟩ := hq9; exact ⟨h09, rfl⟩) (by decide) (by decide) (fun _ _ hx => hx) (fun v9 w9 hq9 => ?_)
      obtain ⟨rfl, rfl⟩ := hq9
      show AW G _ d _ _ 26 [some (.ref 101), some (.int x1)] [.int (kb t1)] (sh, I, R, L, g) 0 0
      refine AW.if_ne 31 dX11_isBalked_26 (by decide) (fun hc26 => ?_) (fun hc26 => ?_)
      · replace h := g_pos (kb_1.mp hc26) h
        refine AW.incE 1 (by decide) [some (.ref 101), some (.int (x1 + 1))] dX11_isBalked_31 rfl (by decide) rfl rfl ?_
        refine AW.goto 2 dX11_isBalked_34 (by decide) ?_
        exact ih h
      · replace h := g_neg (g_kb0 hc26) h
        refine AW.iconst 0 dX11_isBalked_29 (by decide) ?_
        exact AW.zret dX11_isBalked_30 rfl (by decide) (by decide) (by decide) (by cases h; exact ⟨rfl, rfl⟩)
set_option maxRecDepth 100000 in
set_option maxHeartbeats 4000000 in
theorem g_X11_isBalked {G : am_G} (hK : k_OK G) {d : Nat} (hd : 4 ≤ d) {sh : List (Nat ⊕ (Nat × Nat))} {I : g_I} {R : Nat → Nat → Option Nat} {L : Nat → Nat → Int64} {g : Nat} (hm : k_Mod sh R) {r : Bool} (h : b_X11_isBalked I = some r) : AM G mX11_isBalked d [.ref 101] (sh, I, R, L, g) (fun v w => v = some (.int (kb r)) ∧ w = (sh, I, R, L, g)) (fun _ _ => False) := by
  have hG := hK.1
  refine AM.of (n := 1) (by decide +kernel) (Nat.le_of_ble_eq_true rfl) ?_
  show AW G mX11_isBalked d (fun v w => v = some (.int (kb r)) ∧ w = (sh, I, R, L, g)) (fun _ _ => False) 0 [some (.ref 101), none] [] (sh, I, R, L, g) 0 0
  unfold b_X11_isBalked at h
  refine AW.iconst 0 dX11_isBalked_0 (by decide) ?_
  refine AW.is_n [some (.ref 101), some (.int 0)] dX11_isBalked_1 (by decide) rfl rfl ?_
  refine gL_X11_isBalked_2 hK hd hm h (fun _ h => ?_)
  refine AW.iconst 1 dX11_isBalked_37 (by decide) ?_
  exact AW.zret dX11_isBalked_38 rfl (by decide) (by decide) (by decide) (by cases h; exact ⟨rfl, rfl⟩)
