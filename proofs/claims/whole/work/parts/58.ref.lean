/-! 58.ref (printed by s52.py) -/
theorem dX11_answering_0 : decode cX11_answering 0 = .ok (.iconst 0, 1) := by decide +kernel
theorem dX11_answering_1 : decode cX11_answering 1 = .ok (.istore_n 3, 1) := by decide +kernel
theorem dX11_answering_2 : decode cX11_answering 2 = .ok (.iconst 0, 1) := by decide +kernel
theorem dX11_answering_3 : decode cX11_answering 3 = .ok (.istore 4, 2) := by decide +kernel
theorem dX11_answering_5 : decode cX11_answering 5 = .ok (.iload 4, 2) := by decide +kernel
theorem dX11_answering_7 : decode cX11_answering 7 = .ok (.aload_n 0, 1) := by decide +kernel
theorem dX11_answering_8 : decode cX11_answering 8 = .ok (.getfield 38, 3) := by decide +kernel
theorem dX11_answering_11 : decode cX11_answering 11 = .ok (.iconst 0, 1) := by decide +kernel
theorem dX11_answering_12 : decode cX11_answering 12 = .ok (.iaload, 1) := by decide +kernel
theorem dX11_answering_13 : decode cX11_answering 13 = .ok (.if_icmp .ge 27, 3) := by decide +kernel
theorem dX11_answering_16 : decode cX11_answering 16 = .ok (.aload_n 0, 1) := by decide +kernel
theorem dX11_answering_17 : decode cX11_answering 17 = .ok (.iload 4, 2) := by decide +kernel
theorem dX11_answering_19 : decode cX11_answering 19 = .ok (.iload_n 1, 1) := by decide +kernel
theorem dX11_answering_20 : decode cX11_answering 20 = .ok (.invokevirtual 361, 3) := by decide +kernel
theorem dX11_answering_23 : decode cX11_answering 23 = .ok (.iload_n 2, 1) := by decide +kernel
theorem dX11_answering_24 : decode cX11_answering 24 = .ok (.if_icmp .ne 10, 3) := by decide +kernel
theorem dX11_answering_27 : decode cX11_answering 27 = .ok (.iload_n 3, 1) := by decide +kernel
theorem dX11_answering_28 : decode cX11_answering 28 = .ok (.iconst 1, 1) := by decide +kernel
theorem dX11_answering_29 : decode cX11_answering 29 = .ok (.iload 4, 2) := by decide +kernel
theorem dX11_answering_31 : decode cX11_answering 31 = .ok (.ishl, 1) := by decide +kernel
theorem dX11_answering_32 : decode cX11_answering 32 = .ok (.ior, 1) := by decide +kernel
theorem dX11_answering_33 : decode cX11_answering 33 = .ok (.istore_n 3, 1) := by decide +kernel
theorem dX11_answering_34 : decode cX11_answering 34 = .ok (.iinc 4 1, 3) := by decide +kernel
theorem dX11_answering_37 : decode cX11_answering 37 = .ok (.goto (-32), 3) := by decide +kernel
theorem dX11_answering_40 : decode cX11_answering 40 = .ok (.iload_n 3, 1) := by decide +kernel
theorem dX11_answering_41 : decode cX11_answering 41 = .ok (.ireturn, 1) := by decide +kernel
def b_X11_answering_L5 (I : g_I) (y1 : Int32) (y2 : Int32) (K : Int32 → Option (Int32)) : Nat → Int32 → Int32 → Option (Int32)
  | 0, _, _ => none
  | f + 1, x3, x4 => if (I 104 0) ≤ x4 then K x3 else g_bind (b_X11_mayNow I x4 y1) fun a1 => if a1 = y2 then g_let (x3 ||| ((1 : Int32) <<< (x4 &&& 31))) fun a4 => b_X11_answering_L5 I y1 y2 K f a4 (x4 + 1) else b_X11_answering_L5 I y1 y2 K f x3 (x4 + 1)
def b_X11_answering (I : g_I) (x1 : Int32) (x2 : Int32) : Option (Int32) :=
  b_X11_answering_L5 I x1 x2 (fun (a5 : Int32) => some a5) fu 0 0
set_option maxRecDepth 100000 in
set_option maxHeartbeats 4000000 in
theorem gL_X11_answering_5 {G : am_G} (hK : k_OK G) {d : Nat} (hd : 5 ≤ d) {sh : List (Nat ⊕ (Nat × Nat))} {I : g_I} {R : Nat → Nat → Option Nat} {L : Nat → Nat → Int64} {g : Nat} (hm : k_Mod sh R) {y1 : Int32} {y2 : Int32} {K : Int32 → Option (Int32)} {x3 : Int32} {x4 : Int32} {f : Nat} {r : Int32} (h : b_X11_answering_L5 I y1 y2 K f x3 x4 = some r) (hk : ∀ (u3 : Int32), K u3 = some r → AW G mX11_answering d (fun v w => v = some (.int r) ∧ w = (sh, I, R, L, g)) (fun _ _ => False) 40 [none, none, none, some (.int u3), none] [] (sh, I, R, L, g) 0 0) : AW G mX11_answering d (fun v w => v = some (.int r) ∧ w = (sh, I, R, L, g)) (fun _ _ => False) 5 [some (.ref 101), some (.int y1), some (.int y2), some (.int x3), some (.int x4)] [] (sh, I, R, L, g) 0 0 := by
  have hG := hK.1
  induction f generalizing x3 x4 with
  | zero => rw [b_X11_answering_L5] at h; cases h
  | succ f ih =>
    rw [b_X11_answering_L5] at h
    refine AW.iload dX11_answering_5 rfl ?_
    refine AW.aload_n dX11_answering_7 rfl ?_
    refine AW.getR (c' := 104) (fX11_38 hG).r rfl (hm.1 0 _ rfl) (hm.2 (0, 3, 3) (by decide)) dX11_answering_8 ?_
    refine AW.iconst 0 dX11_answering_11 (by decide) ?_
    refine AW.iald (hm.1 3 _ rfl) (by unfold vp_in; decide) dX11_answering_12 ?_
    show AW G _ d _ _ 13 [some (.ref 101), some (.int y1), some (.int y2), some (.int x3), some (.int x4)] [.int (I 104 0), .int x4] (sh, I, R, L, g) 0 0
    refine AW.icmp_ge 40 dX11_answering_13 (by decide) (fun hc13 => ?_) (fun hc13 => ?_)
    · replace h := g_pos hc13 h
      refine AW.mask [0, 1, 2, 4] [none, none, none, some (.int x3), none] rfl ?_
      exact hk _ h
    · replace h := g_neg hc13 h
      refine AW.aload_n dX11_answering_16 rfl ?_
      refine AW.iload dX11_answering_17 rfl ?_
      refine AW.iload_n dX11_answering_19 rfl ?_
      obtain ⟨a1, hx3, h⟩ := g_bindE h
      refine AW.callV (b := 101) (As := [.int x4, .int y1]) hG.2.2 (vX11_361 hG) (hm.1 0 _ rfl) (g_X11_mayNow hK (d := 4) (Nat.le_refl _) hm hx3) (by omega) dX11_answering_20 rfl rfl (Nat.le_of_ble_eq_true rfl) (fun v w9 hq9 h09 => by obtain ⟨rfl, rfl⟩ := hq9; exact ⟨h09, rfl⟩) (by decide) (by decide) (fun _ _ hx => hx) (fun v9 w9 hq9 => ?_)
      obtain ⟨rfl, rfl⟩ := hq9
      show AW G _ d _ _ 23 [some (.ref 101), some (.int y1), some (.int y2), some (.int x3), some (.int x4)] [.int a1] (sh, I, R, L, g) 0 0
      refine AW.iload_n dX11_answering_23 rfl ?_
      refine AW.icmp_ne 34 dX11_answering_24 (by decide) (fun hc24 => ?_) (fun hc24 => ?_)
      · replace h := g_neg hc24 h
        refine AW.incE 1 (by decide) [some (.ref 101), some (.int y1), some (.int y2), some (.int x3), some (.int (x4 + 1))] dX11_answering_34 rfl (by decide) rfl rfl ?_
        refine AW.goto 5 dX11_answering_37 (by decide) ?_
        exact ih h
      · replace h := g_pos hc24 h
        refine AW.iload_n dX11_answering_27 rfl ?_
        refine AW.iconst 1 dX11_answering_28 (by decide) ?_
        refine AW.iload dX11_answering_29 rfl ?_
        refine AW.ishl dX11_answering_31 ?_
        refine AW.ior dX11_answering_32 ?_
        obtain ⟨a4, ea4, h⟩ := g_letE h
        refine AW.namE ea4 ?_
        refine AW.is_n [some (.ref 101), some (.int y1), some (.int y2), some (.int a4), some (.int x4)] dX11_answering_33 (by decide) rfl rfl ?_
        refine AW.incE 1 (by decide) [some (.ref 101), some (.int y1), some (.int y2), some (.int a4), some (.int (x4 + 1))] dX11_answering_34 rfl (by decide) rfl rfl ?_
        refine AW.goto 5 dX11_answering_37 (by decide) ?_
        exact ih h
set_option maxRecDepth 100000 in
set_option maxHeartbeats 4000000 in
theorem g_X11_answering {G : am_G} (hK : k_OK G) {d : Nat} (hd : 5 ≤ d) {sh : List (Nat ⊕ (Nat × Nat))} {I : g_I} {R : Nat → Nat → Option Nat} {L : Nat → Nat → Int64} {g : Nat} (hm : k_Mod sh R) {x1 : Int32} {x2 : Int32} {r : Int32} (h : b_X11_answering I x1 x2 = some r) : AM G mX11_answering d [.ref 101, .int x1, .int x2] (sh, I, R, L, g) (fun v w => v = some (.int r) ∧ w = (sh, I, R, L, g)) (fun _ _ => False) := by
  have hG := hK.1
  refine AM.of (n := 2) (by decide +kernel) (Nat.le_of_ble_eq_true rfl) ?_
  show AW G mX11_answering d (fun v w => v = some (.int r) ∧ w = (sh, I, R, L, g)) (fun _ _ => False) 0 [some (.ref 101), some (.int x1), some (.int x2), none, none] [] (sh, I, R, L, g) 0 0
  unfold b_X11_answering at h
  refine AW.iconst 0 dX11_answering_0 (by decide) ?_
  refine AW.is_n [some (.ref 101), some (.int x1), some (.int x2), some (.int 0), none] dX11_answering_1 (by decide) rfl rfl ?_
  refine AW.iconst 0 dX11_answering_2 (by decide) ?_
  refine AW.is [some (.ref 101), some (.int x1), some (.int x2), some (.int 0), some (.int 0)] dX11_answering_3 (by decide) rfl rfl ?_
  refine gL_X11_answering_5 hK hd hm h (fun a5 h => ?_)
  refine AW.iload_n dX11_answering_40 rfl ?_
  exact AW.iret dX11_answering_41 rfl (by decide) (by decide) (by cases h; exact ⟨rfl, rfl⟩)
theorem dX11_loaf_0 : decode cX11_loaf 0 = .ok (.aload_n 0, 1) := by decide +kernel
theorem dX11_loaf_1 : decode cX11_loaf 1 = .ok (.iconst 0, 1) := by decide +kernel
theorem dX11_loaf_2 : decode cX11_loaf 2 = .ok (.putfield 159, 3) := by decide +kernel
theorem dX11_loaf_5 : decode cX11_loaf 5 = .ok (.aload_n 0, 1) := by decide +kernel
theorem dX11_loaf_6 : decode cX11_loaf 6 = .ok (.iload_n 1, 1) := by decide +kernel
theorem dX11_loaf_7 : decode cX11_loaf 7 = .ok (.invokevirtual 392, 3) := by decide +kernel
theorem dX11_loaf_10 : decode cX11_loaf 10 = .ok (.ifCond .ne 9, 3) := by decide +kernel
theorem dX11_loaf_13 : decode cX11_loaf 13 = .ok (.aload_n 0, 1) := by decide +kernel
theorem dX11_loaf_14 : decode cX11_loaf 14 = .ok (.iconst 1, 1) := by decide +kernel
theorem dX11_loaf_15 : decode cX11_loaf 15 = .ok (.invokevirtual 307, 3) := by decide +kernel
theorem dX11_loaf_18 : decode cX11_loaf 18 = .ok (.ireturn, 1) := by decide +kernel
theorem dX11_loaf_19 : decode cX11_loaf 19 = .ok (.iload_n 2, 1) := by decide +kernel
theorem dX11_loaf_20 : decode cX11_loaf 20 = .ok (.tableswitch 106 0 7 #[48, 55, 62, 69, 76, 82, 92, 99], 48) := by decide +kernel
theorem dX11_loaf_68 : decode cX11_loaf 68 = .ok (.aload_n 0, 1) := by decide +kernel
theorem dX11_loaf_69 : decode cX11_loaf 69 = .ok (.getfield 49, 3) := by decide +kernel
theorem dX11_loaf_72 : decode cX11_loaf 72 = .ok (.iload_n 1, 1) := by decide +kernel
theorem dX11_loaf_73 : decode cX11_loaf 73 = .ok (.iaload, 1) := by decide +kernel
theorem dX11_loaf_74 : decode cX11_loaf 74 = .ok (.ireturn, 1) := by decide +kernel
theorem dX11_loaf_75 : decode cX11_loaf 75 = .ok (.aload_n 0, 1) := by decide +kernel
theorem dX11_loaf_76 : decode cX11_loaf 76 = .ok (.getfield 52, 3) := by decide +kernel
theorem dX11_loaf_79 : decode cX11_loaf 79 = .ok (.iload_n 1, 1) := by decide +kernel
theorem dX11_loaf_80 : decode cX11_loaf 80 = .ok (.iaload, 1) := by decide +kernel
theorem dX11_loaf_81 : decode cX11_loaf 81 = .ok (.ireturn, 1) := by decide +kernel
theorem dX11_loaf_82 : decode cX11_loaf 82 = .ok (.aload_n 0, 1) := by decide +kernel
theorem dX11_loaf_83 : decode cX11_loaf 83 = .ok (.getfield 55, 3) := by decide +kernel
theorem dX11_loaf_86 : decode cX11_loaf 86 = .ok (.iload_n 1, 1) := by decide +kernel
theorem dX11_loaf_87 : decode cX11_loaf 87 = .ok (.iaload, 1) := by decide +kernel
theorem dX11_loaf_88 : decode cX11_loaf 88 = .ok (.ireturn, 1) := by decide +kernel
theorem dX11_loaf_89 : decode cX11_loaf 89 = .ok (.aload_n 0, 1) := by decide +kernel
theorem dX11_loaf_90 : decode cX11_loaf 90 = .ok (.getfield 58, 3) := by decide +kernel
theorem dX11_loaf_93 : decode cX11_loaf 93 = .ok (.iload_n 1, 1) := by decide +kernel
theorem dX11_loaf_94 : decode cX11_loaf 94 = .ok (.iaload, 1) := by decide +kernel
theorem dX11_loaf_95 : decode cX11_loaf 95 = .ok (.ireturn, 1) := by decide +kernel
theorem dX11_loaf_96 : decode cX11_loaf 96 = .ok (.aload_n 0, 1) := by decide +kernel
theorem dX11_loaf_97 : decode cX11_loaf 97 = .ok (.iload_n 1, 1) := by decide +kernel
theorem dX11_loaf_98 : decode cX11_loaf 98 = .ok (.invokevirtual 352, 3) := by decide +kernel
theorem dX11_loaf_101 : decode cX11_loaf 101 = .ok (.ireturn, 1) := by decide +kernel
theorem dX11_loaf_102 : decode cX11_loaf 102 = .ok (.aload_n 0, 1) := by decide +kernel
theorem dX11_loaf_103 : decode cX11_loaf 103 = .ok (.iload_n 1, 1) := by decide +kernel
theorem dX11_loaf_104 : decode cX11_loaf 104 = .ok (.invokevirtual 377, 3) := by decide +kernel
theorem dX11_loaf_107 : decode cX11_loaf 107 = .ok (.aload_n 0, 1) := by decide +kernel
theorem dX11_loaf_108 : decode cX11_loaf 108 = .ok (.getfield 371, 3) := by decide +kernel
theorem dX11_loaf_111 : decode cX11_loaf 111 = .ok (.ireturn, 1) := by decide +kernel
theorem dX11_loaf_112 : decode cX11_loaf 112 = .ok (.aload_n 0, 1) := by decide +kernel
theorem dX11_loaf_113 : decode cX11_loaf 113 = .ok (.getfield 83, 3) := by decide +kernel
theorem dX11_loaf_116 : decode cX11_loaf 116 = .ok (.iload_n 1, 1) := by decide +kernel
theorem dX11_loaf_117 : decode cX11_loaf 117 = .ok (.iaload, 1) := by decide +kernel
theorem dX11_loaf_118 : decode cX11_loaf 118 = .ok (.ireturn, 1) := by decide +kernel
theorem dX11_loaf_119 : decode cX11_loaf 119 = .ok (.aload_n 0, 1) := by decide +kernel
theorem dX11_loaf_120 : decode cX11_loaf 120 = .ok (.iload_n 1, 1) := by decide +kernel
theorem dX11_loaf_121 : decode cX11_loaf 121 = .ok (.iconst 0, 1) := by decide +kernel
theorem dX11_loaf_122 : decode cX11_loaf 122 = .ok (.invokevirtual 395, 3) := by decide +kernel
theorem dX11_loaf_125 : decode cX11_loaf 125 = .ok (.ireturn, 1) := by decide +kernel
theorem dX11_loaf_126 : decode cX11_loaf 126 = .ok (.aload_n 0, 1) := by decide +kernel
theorem dX11_loaf_127 : decode cX11_loaf 127 = .ok (.iconst 1, 1) := by decide +kernel
theorem dX11_loaf_128 : decode cX11_loaf 128 = .ok (.invokevirtual 307, 3) := by decide +kernel
theorem dX11_loaf_131 : decode cX11_loaf 131 = .ok (.ireturn, 1) := by decide +kernel
def b_X11_loaf (I : g_I) (x1 : Int32) (x2 : Int32) : Option (Int32 × g_I) :=
  g_let (am_up I 101 2 0) fun I1 => if b_X11_isLoaf I1 x1 = true then if x2 = 0 then if g_in x1 12 = true then some (I1 108 x1.toNatClampNeg, I1) else none else if x2 = 1 then if g_in x1 12 = true then some (I1 109 x1.toNatClampNeg, I1) else none else if x2 = 2 then if g_in x1 12 = true then some (I1 110 x1.toNatClampNeg, I1) else none else if x2 = 3 then if g_in x1 12 = true then some (I1 111 x1.toNatClampNeg, I1) else none else if x2 = 4 then g_bind (b_X11_eatersOf I1 x1) fun a2 => some (a2, I1) else if x2 = 5 then g_bind (b_X11_tellUnits I1 x1) fun I6 => some (I6 101 40, I6) else if x2 = 6 then if g_in x1 6 = true then some (I1 118 x1.toNatClampNeg, I1) else none else if x2 = 7 then g_bind (b_X11_answering I1 x1 0) fun a8 => some (a8, I1) else g_bind2 (b_X11_fail I1 1) fun a11 I12 => some (a11, I12) else g_bind2 (b_X11_fail I1 1) fun a14 I15 => some (a14, I15)
set_option maxRecDepth 100000 in
set_option maxHeartbeats 4000000 in
theorem g_X11_loaf {G : am_G} (hK : k_OK G) {d : Nat} (hd : 6 ≤ d) {sh : List (Nat ⊕ (Nat × Nat))} {I : g_I} {R : Nat → Nat → Option Nat} {L : Nat → Nat → Int64} {g : Nat} (hm : k_Mod sh R) {x1 : Int32} {x2 : Int32} {r : Int32 × g_I} (h : b_X11_loaf I x1 x2 = some r) : AM G mX11_loaf d [.ref 101, .int x1, .int x2] (sh, I, R, L, g) (fun v w => v = some (.int r.1) ∧ w = (sh, r.2, R, L, g)) (fun _ _ => False) := by
  have hG := hK.1
  refine AM.of (n := 0) (by decide +kernel) (Nat.le_of_ble_eq_true rfl) ?_
  show AW G mX11_loaf d (fun v w => v = some (.int r.1) ∧ w = (sh, r.2, R, L, g)) (fun _ _ => False) 0 [some (.ref 101), some (.int x1), some (.int x2)] [] (sh, I, R, L, g) 0 0
  unfold b_X11_loaf at h
  refine AW.aload_n dX11_loaf_0 rfl ?_
  refine AW.iconst 0 dX11_loaf_1 (by decide) ?_
  refine AW.putI (fX11_159 hG) rfl (vp_nar_int _) rfl (hm.1 0 _ rfl) dX11_loaf_2 ?_
  obtain ⟨I1, eI1, h⟩ := g_letE h
  refine AW.namIE eI1 ?_
  refine AW.aload_n dX11_loaf_5 rfl ?_
  refine AW.iload_n dX11_loaf_6 rfl ?_
  refine AW.callV (b := 101) (As := [.int x1]) hG.2.2 (vX11_392 hG) (hm.1 0 _ rfl) (g_X11_isLoaf hK (d := 1) (Nat.le_refl _) hm) (by omega) dX11_loaf_7 rfl rfl (Nat.le_of_ble_eq_true rfl) (fun v w9 hq9 h09 => by obtain ⟨rfl, rfl⟩ := hq9; exact ⟨h09, rfl⟩) (by decide) (by decide) (fun _ _ hx => hx) (fun v9 w9 hq9 => ?_)
  obtain ⟨rfl, rfl⟩ := hq9
  show AW G _ d _ _ 10 [some (.ref 101), some (.int x1), some (.int x2)] [.int (kb (b_X11_isLoaf I1 x1))] (sh, I1, R, L, g) 0 0
  refine AW.if_ne 19 dX11_loaf_10 (by decide) (fun hc10 => ?_) (fun hc10 => ?_)
  · replace h := g_pos (kb_1.mp hc10) h
    refine AW.iload_n dX11_loaf_19 rfl ?_
    by_cases hs20_0 : x2 = 0
    · replace h := g_pos hs20_0 h
      refine AW.tabIn 68 dX11_loaf_20 (by rw [hs20_0]; decide) (by rw [hs20_0]; decide) (by rw [hs20_0]; rfl) (by decide) ?_
      refine AW.aload_n dX11_loaf_68 rfl ?_
      refine AW.getR (c' := 108) (fX11_49 hG).r rfl (hm.1 0 _ rfl) (hm.2 (0, 7, 7) (by decide)) dX11_loaf_69 ?_
      refine AW.iload_n dX11_loaf_72 rfl ?_
      obtain ⟨hb, h⟩ := g_ifE h
      refine AW.iald (hm.1 7 _ rfl) (g_in_iff.mp hb) dX11_loaf_73 ?_
      exact AW.iret dX11_loaf_74 rfl (by decide) (by decide) (by cases h; exact ⟨rfl, rfl⟩)
    replace h := g_neg hs20_0 h
    by_cases hs20_1 : x2 = 1
    · replace h := g_pos hs20_1 h
      refine AW.tabIn 75 dX11_loaf_20 (by rw [hs20_1]; decide) (by rw [hs20_1]; decide) (by rw [hs20_1]; rfl) (by decide) ?_
      refine AW.aload_n dX11_loaf_75 rfl ?_
      refine AW.getR (c' := 109) (fX11_52 hG).r rfl (hm.1 0 _ rfl) (hm.2 (0, 8, 8) (by decide)) dX11_loaf_76 ?_
      refine AW.iload_n dX11_loaf_79 rfl ?_
      obtain ⟨hb, h⟩ := g_ifE h
      refine AW.iald (hm.1 8 _ rfl) (g_in_iff.mp hb) dX11_loaf_80 ?_
      exact AW.iret dX11_loaf_81 rfl (by decide) (by decide) (by cases h; exact ⟨rfl, rfl⟩)
    replace h := g_neg hs20_1 h
    by_cases hs20_2 : x2 = 2
    · replace h := g_pos hs20_2 h
      refine AW.tabIn 82 dX11_loaf_20 (by rw [hs20_2]; decide) (by rw [hs20_2]; decide) (by rw [hs20_2]; rfl) (by decide) ?_
      refine AW.aload_n dX11_loaf_82 rfl ?_
      refine AW.getR (c' := 110) (fX11_55 hG).r rfl (hm.1 0 _ rfl) (hm.2 (0, 9, 9) (by decide)) dX11_loaf_83 ?_
      refine AW.iload_n dX11_loaf_86 rfl ?_
      obtain ⟨hb, h⟩ := g_ifE h
      refine AW.iald (hm.1 9 _ rfl) (g_in_iff.mp hb) dX11_loaf_87 ?_
      exact AW.iret dX11_loaf_88 rfl (by decide) (by decide) (by cases h; exact ⟨rfl, rfl⟩)
    replace h := g_neg hs20_2 h
    by_cases hs20_3 : x2 = 3
    · replace h := g_pos hs20_3 h
      refine AW.tabIn 89 dX11_loaf_20 (by rw [hs20_3]; decide) (by rw [hs20_3]; decide) (by rw [hs20_3]; rfl) (by decide) ?_
      refine AW.aload_n dX11_loaf_89 rfl ?_
      refine AW.getR (c' := 111) (fX11_58 hG).r rfl (hm.1 0 _ rfl) (hm.2 (0, 10, 10) (by decide)) dX11_loaf_90 ?_
      refine AW.iload_n dX11_loaf_93 rfl ?_
      obtain ⟨hb, h⟩ := g_ifE h
      refine AW.iald (hm.1 10 _ rfl) (g_in_iff.mp hb) dX11_loaf_94 ?_
      exact AW.iret dX11_loaf_95 rfl (by decide) (by decide) (by cases h; exact ⟨rfl, rfl⟩)
    replace h := g_neg hs20_3 h
    by_cases hs20_4 : x2 = 4
    · replace h := g_pos hs20_4 h
      refine AW.tabIn 96 dX11_loaf_20 (by rw [hs20_4]; decide) (by rw [hs20_4]; decide) (by rw [hs20_4]; rfl) (by decide) ?_
      refine AW.aload_n dX11_loaf_96 rfl ?_
      refine AW.iload_n dX11_loaf_97 rfl ?_
      obtain ⟨a2, hx4, h⟩ := g_bindE h
      refine AW.callV (b := 101) (As := [.int x1]) hG.2.2 (vX11_352 hG) (hm.1 0 _ rfl) (g_X11_eatersOf hK (d := 0) (Nat.le_refl _) hm hx4) (by omega) dX11_loaf_98 rfl rfl (Nat.le_of_ble_eq_true rfl) (fun v w9 hq9 h09 => by obtain ⟨rfl, rfl⟩ := hq9; exact ⟨h09, rfl⟩) (by decide) (by decide) (fun _ _ hx => hx) (fun v9 w9 hq9 => ?_)
      obtain ⟨rfl, rfl⟩ := hq9
      show AW G _ d _ _ 101 [some (.ref 101), some (.int x1), some (.int x2)] [.int a2] (sh, I1, R, L, g) 0 0
      exact AW.iret dX11_loaf_101 rfl (by decide) (by decide) (by cases h; exact ⟨rfl, rfl⟩)
    replace h := g_neg hs20_4 h
    by_cases hs20_5 : x2 = 5
    · replace h := g_pos hs20_5 h
      refine AW.tabIn 102 dX11_loaf_20 (by rw [hs20_5]; decide) (by rw [hs20_5]; decide) (by rw [hs20_5]; rfl) (by decide) ?_
      refine AW.aload_n dX11_loaf_102 rfl ?_
      refine AW.iload_n dX11_loaf_103 rfl ?_
      obtain ⟨I6, hx7, h⟩ := g_bindE h
      refine AW.callV (b := 101) (As := [.int x1]) hG.2.2 (vX11_377 hG) (hm.1 0 _ rfl) (g_X11_tellUnits hK (d := 1) (Nat.le_refl _) hm hx7) (by omega) dX11_loaf_104 rfl rfl (Nat.le_of_ble_eq_true rfl) (fun v w9 hq9 h09 => by obtain ⟨rfl, rfl⟩ := hq9; exact ⟨h09, rfl⟩) (by decide) (by decide) (fun _ _ hx => hx) (fun v9 w9 hq9 => ?_)
      obtain ⟨rfl, rfl⟩ := hq9
      show AW G _ d _ _ 107 [some (.ref 101), some (.int x1), some (.int x2)] [] (sh, I6, R, L, g) 0 0
      refine AW.aload_n dX11_loaf_107 rfl ?_
      refine AW.getI (fX11_371 hG).r rfl (hm.1 0 _ rfl) dX11_loaf_108 ?_
      exact AW.iret dX11_loaf_111 rfl (by decide) (by decide) (by cases h; exact ⟨rfl, rfl⟩)
    replace h := g_neg hs20_5 h
    by_cases hs20_6 : x2 = 6
    · replace h := g_pos hs20_6 h
      refine AW.tabIn 112 dX11_loaf_20 (by rw [hs20_6]; decide) (by rw [hs20_6]; decide) (by rw [hs20_6]; rfl) (by decide) ?_
      refine AW.aload_n dX11_loaf_112 rfl ?_
      refine AW.getR (c' := 118) (fX11_83 hG).r rfl (hm.1 0 _ rfl) (hm.2 (0, 27, 17) (by decide)) dX11_loaf_113 ?_
      refine AW.iload_n dX11_loaf_116 rfl ?_
      obtain ⟨hb, h⟩ := g_ifE h
      refine AW.iald (hm.1 17 _ rfl) (g_in_iff.mp hb) dX11_loaf_117 ?_
      exact AW.iret dX11_loaf_118 rfl (by decide) (by decide) (by cases h; exact ⟨rfl, rfl⟩)
    replace h := g_neg hs20_6 h
    by_cases hs20_7 : x2 = 7
    · replace h := g_pos hs20_7 h
      refine AW.tabIn 119 dX11_loaf_20 (by rw [hs20_7]; decide) (by rw [hs20_7]; decide) (by rw [hs20_7]; rfl) (by decide) ?_
      refine AW.aload_n dX11_loaf_119 rfl ?_
      refine AW.iload_n dX11_loaf_120 rfl ?_
      refine AW.iconst 0 dX11_loaf_121 (by decide) ?_
      obtain ⟨a8, hx10, h⟩ := g_bindE h
      refine AW.callV (b := 101) (As := [.int x1, .int 0]) hG.2.2 (vX11_395 hG) (hm.1 0 _ rfl) (g_X11_answering hK (d := 5) (Nat.le_refl _) hm hx10) (by omega) dX11_loaf_122 rfl rfl (Nat.le_of_ble_eq_true rfl) (fun v w9 hq9 h09 => by obtain ⟨rfl, rfl⟩ := hq9; exact ⟨h09, rfl⟩) (by decide) (by decide) (fun _ _ hx => hx) (fun v9 w9 hq9 => ?_)
      obtain ⟨rfl, rfl⟩ := hq9
      show AW G _ d _ _ 125 [some (.ref 101), some (.int x1), some (.int x2)] [.int a8] (sh, I1, R, L, g) 0 0
      exact AW.iret dX11_loaf_125 rfl (by decide) (by decide) (by cases h; exact ⟨rfl, rfl⟩)
    replace h := g_neg hs20_7 h
    have ht20 : x2.toInt < 0 ∨ 7 < x2.toInt := by
      have h90 : ¬ x2.toInt = 0 := fun h => hs20_0 (Int32.toInt_inj.mp (h.trans (by decide)))
      have h91 : ¬ x2.toInt = 1 := fun h => hs20_1 (Int32.toInt_inj.mp (h.trans (by decide)))
      have h92 : ¬ x2.toInt = 2 := fun h => hs20_2 (Int32.toInt_inj.mp (h.trans (by decide)))
      have h93 : ¬ x2.toInt = 3 := fun h => hs20_3 (Int32.toInt_inj.mp (h.trans (by decide)))
      have h94 : ¬ x2.toInt = 4 := fun h => hs20_4 (Int32.toInt_inj.mp (h.trans (by decide)))
      have h95 : ¬ x2.toInt = 5 := fun h => hs20_5 (Int32.toInt_inj.mp (h.trans (by decide)))
      have h96 : ¬ x2.toInt = 6 := fun h => hs20_6 (Int32.toInt_inj.mp (h.trans (by decide)))
      have h97 : ¬ x2.toInt = 7 := fun h => hs20_7 (Int32.toInt_inj.mp (h.trans (by decide)))
      omega
    refine AW.tabOut 126 dX11_loaf_20 ht20 (by decide) ?_
    refine AW.aload_n dX11_loaf_126 rfl ?_
    refine AW.iconst 1 dX11_loaf_127 (by decide) ?_
    obtain ⟨a11, I12, hx13, h⟩ := g_bind2E h
    refine AW.callV (b := 101) (As := [.int 1]) hG.2.2 (vX11_307 hG) (hm.1 0 _ rfl) (g_X11_fail hK (d := 0) (Nat.le_refl _) hm hx13) (by omega) dX11_loaf_128 rfl rfl (Nat.le_of_ble_eq_true rfl) (fun v w9 hq9 h09 => by obtain ⟨rfl, rfl⟩ := hq9; exact ⟨h09, rfl⟩) (by decide) (by decide) (fun _ _ hx => hx) (fun v9 w9 hq9 => ?_)
    obtain ⟨rfl, rfl⟩ := hq9
    show AW G _ d _ _ 131 [some (.ref 101), some (.int x1), some (.int x2)] [.int a11] (sh, I12, R, L, g) 0 0
    exact AW.iret dX11_loaf_131 rfl (by decide) (by decide) (by cases h; exact ⟨rfl, rfl⟩)
  · replace h := g_neg (g_kb0 hc10) h
    refine AW.aload_n dX11_loaf_13 rfl ?_
    refine AW.iconst 1 dX11_loaf_14 (by decide) ?_
    obtain ⟨a14, I15, hx16, h⟩ := g_bind2E h
    refine AW.callV (b := 101) (As := [.int 1]) hG.2.2 (vX11_307 hG) (hm.1 0 _ rfl) (g_X11_fail hK (d := 0) (Nat.le_refl _) hm hx16) (by omega) dX11_loaf_15 rfl rfl (Nat.le_of_ble_eq_true rfl) (fun v w9 hq9 h09 => by obtain ⟨rfl, rfl⟩ := hq9; exact ⟨h09, rfl⟩) (by decide) (by decide) (fun _ _ hx => hx) (fun v9 w9 hq9 => ?_)
    obtain ⟨rfl, rfl⟩ := hq9
    show AW G _ d _ _ 18 [some (.ref 101), some (.int x1), some (.int x2)] [.int a14] (sh, I15, R, L, g) 0 0
    exact AW.iret dX11_loaf_18 rfl (by decide) (by decide) (by cases h; exact ⟨rfl, rfl⟩)
theorem dX11_met_0 : decode cX11_met 0 = .ok (.aload_n 0, 1) := by decide +kernel
theorem dX11_met_1 : decode cX11_met 1 = .ok (.iconst 0, 1) := by decide +kernel
theorem dX11_met_2 : decode cX11_met 2 = .ok (.putfield 159, 3) := by decide +kernel
theorem dX11_met_5 : decode cX11_met 5 = .ok (.aload_n 0, 1) := by decide +kernel
theorem dX11_met_6 : decode cX11_met 6 = .ok (.iload_n 1, 1) := by decide +kernel
theorem dX11_met_7 : decode cX11_met 7 = .ok (.invokevirtual 389, 3) := by decide +kernel
theorem dX11_met_10 : decode cX11_met 10 = .ok (.ifCond .eq 11, 3) := by decide +kernel
theorem dX11_met_13 : decode cX11_met 13 = .ok (.aload_n 0, 1) := by decide +kernel
theorem dX11_met_14 : decode cX11_met 14 = .ok (.iload_n 2, 1) := by decide +kernel
theorem dX11_met_15 : decode cX11_met 15 = .ok (.invokevirtual 389, 3) := by decide +kernel
theorem dX11_met_18 : decode cX11_met 18 = .ok (.ifCond .ne 9, 3) := by decide +kernel
theorem dX11_met_21 : decode cX11_met 21 = .ok (.aload_n 0, 1) := by decide +kernel
theorem dX11_met_22 : decode cX11_met 22 = .ok (.iconst 1, 1) := by decide +kernel
theorem dX11_met_23 : decode cX11_met 23 = .ok (.invokevirtual 307, 3) := by decide +kernel
theorem dX11_met_26 : decode cX11_met 26 = .ok (.ireturn, 1) := by decide +kernel
theorem dX11_met_27 : decode cX11_met 27 = .ok (.iload_n 1, 1) := by decide +kernel
theorem dX11_met_28 : decode cX11_met 28 = .ok (.iload_n 2, 1) := by decide +kernel
theorem dX11_met_29 : decode cX11_met 29 = .ok (.if_icmp .ne 9, 3) := by decide +kernel
theorem dX11_met_32 : decode cX11_met 32 = .ok (.aload_n 0, 1) := by decide +kernel
theorem dX11_met_33 : decode cX11_met 33 = .ok (.iconst 2, 1) := by decide +kernel
theorem dX11_met_34 : decode cX11_met 34 = .ok (.invokevirtual 307, 3) := by decide +kernel
theorem dX11_met_37 : decode cX11_met 37 = .ok (.ireturn, 1) := by decide +kernel
theorem dX11_met_38 : decode cX11_met 38 = .ok (.aload_n 0, 1) := by decide +kernel
theorem dX11_met_39 : decode cX11_met 39 = .ok (.iload_n 1, 1) := by decide +kernel
theorem dX11_met_40 : decode cX11_met 40 = .ok (.iload_n 2, 1) := by decide +kernel
theorem dX11_met_41 : decode cX11_met 41 = .ok (.invokevirtual 346, 3) := by decide +kernel
theorem dX11_met_44 : decode cX11_met 44 = .ok (.ldc_w 310, 3) := by decide +kernel
theorem dX11_met_47 : decode cX11_met 47 = .ok (.if_icmp .ne 7, 3) := by decide +kernel
theorem dX11_met_50 : decode cX11_met 50 = .ok (.iconst (-1), 1) := by decide +kernel
theorem dX11_met_51 : decode cX11_met 51 = .ok (.goto 14, 3) := by decide +kernel
theorem dX11_met_54 : decode cX11_met 54 = .ok (.aload_n 0, 1) := by decide +kernel
theorem dX11_met_55 : decode cX11_met 55 = .ok (.getfield 321, 3) := by decide +kernel
theorem dX11_met_58 : decode cX11_met 58 = .ok (.aload_n 0, 1) := by decide +kernel
theorem dX11_met_59 : decode cX11_met 59 = .ok (.iload_n 1, 1) := by decide +kernel
theorem dX11_met_60 : decode cX11_met 60 = .ok (.iload_n 2, 1) := by decide +kernel
theorem dX11_met_61 : decode cX11_met 61 = .ok (.invokevirtual 346, 3) := by decide +kernel
theorem dX11_met_64 : decode cX11_met 64 = .ok (.isub, 1) := by decide +kernel
theorem dX11_met_65 : decode cX11_met 65 = .ok (.ireturn, 1) := by decide +kernel
def b_X11_met (I : g_I) (x1 : Int32) (x2 : Int32) : Option (Int32 × g_I) :=
  g_let (am_up I 101 2 0) fun I1 => if b_X11_isPerson I1 x1 = true then if b_X11_isPerson I1 x2 = true then if x1 = x2 then g_bind2 (b_X11_fail I1 2) fun a11 I12 => some (a11, I12) else g_bind (b_X11_lastDay I1 x1 x2) fun a5 => if a5 = (-100000) then some ((-1), I1) else g_bind (b_X11_lastDay I1 x1 x2) fun a8 => some ((I1 101 30) - a8, I1) else g_bind2 (b_X11_fail I1 1) fun a14 I15 => some (a14, I15) else g_bind2 (b_X11_fail I1 1) fun a2 I3 => some (a2, I3)
set_option maxRecDepth 100000 in
set_option maxHeartbeats 4000000 in
theorem g_X11_met {G : am_G} (hK : k_OK G) {d : Nat} (hd : 2 ≤ d) {sh : List (Nat ⊕ (Nat × Nat))} {I : g_I} {R : Nat → Nat → Option Nat} {L : Nat → Nat → Int64} {g : Nat} (hm : k_Mod sh R) {x1 : Int32} {x2 : Int32} {r : Int32 × g_I} (h : b_X11_met I x1 x2 = some r) : AM G mX11_met d [.ref 101, .int x1, .int x2] (sh, I, R, L, g) (fun v w => v = some (.int r.1) ∧ w = (sh, r.2, R, L, g)) (fun _ _ => False) := by
  have hG := hK.1
  refine AM.of (n := 0) (by decide +kernel) (Nat.le_of_ble_eq_true rfl) ?_
  show AW G mX11_met d (fun v w => v = some (.int r.1) ∧ w = (sh, r.2, R, L, g)) (fun _ _ => False) 0 [some (.ref 101), some (.int x1), some (.int x2)] [] (sh, I, R, L, g) 0 0
  unfold b_X11_met at h
  refine AW.aload_n dX11_met_0 rfl ?_
  refine AW.iconst 0 dX11_met_1 (by decide) ?_
  refine AW.putI (fX11_159 hG) rfl (vp_nar_int _) rfl (hm.1 0 _ rfl) dX11_met_2 ?_
  obtain ⟨I1, eI1, h⟩ := g_letE h
  refine AW.namIE eI1 ?_
  refine AW.aload_n dX11_met_5 rfl ?_
  refine AW.iload_n dX11_met_6 rfl ?_
  refine AW.callV (b := 101) (As := [.int x1]) hG.2.2 (vX11_389 hG) (hm.1 0 _ rfl) (g_X11_isPerson hK (d := 1) (Nat.le_refl _) hm) (by omega) dX11_met_7 rfl rfl (Nat.le_of_ble_eq_true rfl) (fun v w9 hq9 h09 => by obtain ⟨rfl, rfl⟩ := hq9; exact ⟨h09, rfl⟩) (by decide) (by decide) (fun _ _ hx => hx) (fun v9 w9 hq9 => ?_)
  obtain ⟨rfl, rfl⟩ := hq9
  show AW G _ d _ _ 10 [some (.ref 101), some (.int x1), some (.int x2)] [.int (kb (b_X11_isPerson I1 x1))] (sh, I1, R, L, g) 0 0
  refine AW.if_eq 21 dX11_met_10 (by decide) (fun hc10 => ?_) (fun hc10 => ?_)
  · replace h := g_neg (g_kb0 hc10) h
    refine AW.aload_n dX11_met_21 rfl ?_
    refine AW.iconst 1 dX11_met_22 (by decide) ?_
    obtain ⟨a2, I3, hx4, h⟩ := g_bind2E h
    refine AW.callV (b := 101) (As := [.int 1]) hG.2.2 (vX11_307 hG) (hm.1 0 _ rfl) (g_X11_fail hK (d := 0) (Nat.le_refl _) hm hx4) (by omega) dX11_met_23 rfl rfl (Nat.le_of_ble_eq_true rfl) (fun v w9 hq9 h09 => by obtain ⟨rfl, rfl⟩ := hq9; exact ⟨h09, rfl⟩) (by decide) (by decide) (fun _ _ hx => hx) (fun v9 w9 hq9 => ?_)
    obtain ⟨rfl, rfl⟩ := hq9
    show AW G _ d _ _ 26 [some (.ref 101), some (.int x1), some (.int x2)] [.int a2] (sh, I3, R, L, g) 0 0
    exact AW.iret dX11_met_26 rfl (by decide) (by decide) (by cases h; exact ⟨rfl, rfl⟩)
  · replace h := g_pos (kb_1.mp hc10) h
    refine AW.aload_n dX11_met_13 rfl ?_
    refine AW.iload_n dX11_met_14 rfl ?_
    refine AW.callV (b := 101) (As := [.int x2]) hG.2.2 (vX11_389 hG) (hm.1 0 _ rfl) (g_X11_isPerson hK (d := 1) (Nat.le_refl _) hm) (by omega) dX11_met_15 rfl rfl (Nat.le_of_ble_eq_true rfl) (fun v w9 hq9 h09 => by obtain ⟨rfl, rfl⟩ := hq9; exact ⟨h09, rfl⟩) (by decide) (by decide) (fun _ _ hx => hx) (fun v9 w9 hq9 => ?_)
    obtain ⟨rfl, rfl⟩ := hq9
    show AW G _ d _ _ 18 [some (.ref 101), some (.int x1), some (.int x2)] [.int (kb (b_X11_isPerson I1 x2))] (sh, I1, R, L, g) 0 0
    refine AW.if_ne 27 dX11_met_18 (by decide) (fun hc18 => ?_) (fun hc18 => ?_)
    · replace h := g_pos (kb_1.mp hc18) h
      refine AW.iload_n dX11_met_27 rfl ?_
      refine AW.iload_n dX11_met_28 rfl ?_
      refine AW.icmp_ne 38 dX11_met_29 (by decide) (fun hc29 => ?_) (fun hc29 => ?_)
      · replace h := g_neg hc29 h
        refine AW.aload_n dX11_met_38 rfl ?_
        refine AW.iload_n dX11_met_39 rfl ?_
        refine AW.iload_n dX11_met_40 rfl ?_
        obtain ⟨a5, hx7, h⟩ := g_bindE h
        refine AW.callV (b := 101) (As := [.int x1, .int x2]) hG.2.2 (vX11_346 hG) (hm.1 0 _ rfl) (g_X11_lastDay hK (d := 1) (Nat.le_refl _) hm hx7) (by omega) dX11_met_41 rfl rfl (Nat.le_of_ble_eq_true rfl) (fun v w9 hq9 h09 => by obtain ⟨rfl, rfl⟩ := hq9; exact ⟨h09, rfl⟩) (by decide) (by decide) (fun _ _ hx => hx) (fun v9 w9 hq9 => ?_)
        obtain ⟨rfl, rfl⟩ := hq9
        show AW G _ d _ _ 44 [some (.ref 101), some (.int x1), some (.int x2)] [.int a5] (sh, I1, R, L, g) 0 0
        refine AW.ldc_w (-100000) dX11_met_44 (k_c hG 1700 (by decide +kernel) (by decide +kernel)) ?_
        refine AW.icmp_ne 54 dX11_met_47 (by decide) (fun hc47 => ?_) (fun hc47 => ?_)
        · replace h := g_neg hc47 h
          refine AW.aload_n dX11_met_54 rfl ?_
          refine AW.getI (fX11_321 hG).r rfl (hm.1 0 _ rfl) dX11_met_55 ?_
          refine AW.aload_n dX11_met_58 rfl ?_
          refine AW.iload_n dX11_met_59 rfl ?_
          refine AW.iload_n dX11_met_60 rfl ?_
          obtain ⟨a8, hx10, h⟩ := g_bindE h
          refine AW.callV (b := 101) (As := [.int x1, .int x2]) hG.2.2 (vX11_346 hG) (hm.1 0 _ rfl) (g_X11_lastDay hK (d := 1) (Nat.le_refl _) hm hx10) (by omega) dX11_met_61 rfl rfl (Nat.le_of_ble_eq_true rfl) (fun v w9 hq9 h09 => by obtain ⟨rfl, rfl⟩ := hq9; exact ⟨h09, rfl⟩) (by decide) (by decide) (fun _ _ hx => hx) (fun v9 w9 hq9 => ?_)
          obtain ⟨rfl, rfl⟩ := hq9
          show AW G _ d _ _ 64 [some (.ref 101), some (.int x1), some (.int x2)] [.int a8, .int (I1 101 30)] (sh, I1, R, L, g) 0 0
          refine AW.isub dX11_met_64 ?_
          exact AW.iret dX11_met_65 rfl (by decide) (by decide) (by cases h; exact ⟨rfl, rfl⟩)
        · replace h := g_pos hc47 h
          refine AW.iconst (-1) dX11_met_50 (by decide) ?_
          refine AW.goto 65 dX11_met_51 (by decide) ?_
          exact AW.iret dX11_met_65 rfl (by decide) (by decide) (by cases h; exact ⟨rfl, rfl⟩)
      · replace h := g_pos hc29 h
        refine AW.aload_n dX11_met_32 rfl ?_
        refine AW.iconst 2 dX11_met_33 (by decide) ?_
        obtain ⟨a11, I12, hx13, h⟩ := g_bind2E h
        refine AW.callV (b := 101) (As := [.int 2]) hG.2.2 (vX11_307 hG) (hm.1 0 _ rfl) (g_X11_fail hK (d := 0) (Nat.le_refl _) hm hx13) (by omega) dX11_met_34 rfl rfl (Nat.le_of_ble_eq_true rfl) (fun v w9 hq9 h09 => by obtain ⟨rfl, rfl⟩ := hq9; exact ⟨h09, rfl⟩) (by decide) (by decide) (fun _ _ hx => hx) (fun v9 w9 hq9 => ?_)
        obtain ⟨rfl, rfl⟩ := hq9
        show AW G _ d _ _ 37 [some (.ref 101), some (.int x1), some (.int x2)] [.int a11] (sh, I12, R, L, g) 0 0
        exact AW.iret dX11_met_37 rfl (by decide) (by decide) (by cases h; exact ⟨rfl, rfl⟩)
    · replace h := g_neg (g_kb0 hc18) h
      refine AW.aload_n dX11_met_21 rfl ?_
      refine AW.iconst 1 dX11_met_22 (by decide) ?_
      obtain ⟨a14, I15, hx16, h⟩ := g_bind2E h
      refine AW.callV (b := 101) (As := [.int 1]) hG.2.2 (vX11_307 hG) (hm.1 0 _ rfl) (g_X11_fail hK (d := 0) (Nat.le_refl _) hm hx16) (by omega) dX11_met_23 rfl rfl (Nat.le_of_ble_eq_true rfl) (fun v w9 hq9 h09 => by obtain ⟨rfl, rfl⟩ := hq9; exact ⟨h09, rfl⟩) (by decide) (by decide) (fun _ _ hx => hx) (fun v9 w9 hq9 => ?_)
      obtain ⟨rfl, rfl⟩ := hq9
      show AW G _ d _ _ 26 [some (.ref 101), some (.int x1), some (.int x2)] [.int a14] (sh, I15, R, L, g) 0 0
      exact AW.iret dX11_met_26 rfl (by decide) (by decide) (by cases h; exact ⟨rfl, rfl⟩)
theorem dX11_knows_0 : decode cX11_knows 0 = .ok (.aload_n 0, 1) := by decide +kernel
theorem dX11_knows_1 : decode cX11_knows 1 = .ok (.iconst 0, 1) := by decide +kernel
theorem dX11_knows_2 : decode cX11_knows 2 = .ok (.putfield 159, 3) := by decide +kernel
theorem dX11_knows_5 : decode cX11_knows 5 = .ok (.aload_n 0, 1) := by decide +kernel
theorem dX11_knows_6 : decode cX11_knows 6 = .ok (.iload_n 1, 1) := by decide +kernel
theorem dX11_knows_7 : decode cX11_knows 7 = .ok (.invokevirtual 389, 3) := by decide +kernel
theorem dX11_knows_10 : decode cX11_knows 10 = .ok (.ifCond .eq 20, 3) := by decide +kernel
theorem dX11_knows_13 : decode cX11_knows 13 = .ok (.aload_n 0, 1) := by decide +kernel
theorem dX11_knows_14 : decode cX11_knows 14 = .ok (.iload_n 2, 1) := by decide +kernel
theorem dX11_knows_15 : decode cX11_knows 15 = .ok (.invokevirtual 389, 3) := by decide +kernel
theorem dX11_knows_18 : decode cX11_knows 18 = .ok (.ifCond .eq 12, 3) := by decide +kernel
theorem dX11_knows_21 : decode cX11_knows 21 = .ok (.aload_n 0, 1) := by decide +kernel
theorem dX11_knows_22 : decode cX11_knows 22 = .ok (.iload_n 1, 1) := by decide +kernel
theorem dX11_knows_23 : decode cX11_knows 23 = .ok (.iload_n 2, 1) := by decide +kernel
theorem dX11_knows_24 : decode cX11_knows 24 = .ok (.invokevirtual 349, 3) := by decide +kernel
theorem dX11_knows_27 : decode cX11_knows 27 = .ok (.goto 8, 3) := by decide +kernel
theorem dX11_knows_30 : decode cX11_knows 30 = .ok (.aload_n 0, 1) := by decide +kernel
theorem dX11_knows_31 : decode cX11_knows 31 = .ok (.iconst 1, 1) := by decide +kernel
theorem dX11_knows_32 : decode cX11_knows 32 = .ok (.invokevirtual 398, 3) := by decide +kernel
theorem dX11_knows_35 : decode cX11_knows 35 = .ok (.ireturn, 1) := by decide +kernel
def b_X11_knows (I : g_I) (x1 : Int32) (x2 : Int32) : Option (Bool × g_I) :=
  g_let (am_up I 101 2 0) fun I1 => if b_X11_isPerson I1 x1 = true then if b_X11_isPerson I1 x2 = true then g_bind (b_X11_isKnown I1 x1 x2) fun t8 => some (t8, I1) else g_bind2 (b_X11_failing I1 1) fun t5 I6 => some (t5, I6) else g_bind2 (b_X11_failing I1 1) fun t2 I3 => some (t2, I3)
set_option maxRecDepth 100000 in
set_option maxHeartbeats 4000000 in
theorem g_X11_knows {G : am_G} (hK : k_OK G) {d : Nat} (hd : 3 ≤ d) {sh : List (Nat ⊕ (Nat × Nat))} {I : g_I} {R : Nat → Nat → Option Nat} {L : Nat → Nat → Int64} {g : Nat} (hm : k_Mod sh R) {x1 : Int32} {x2 : Int32} {r : Bool × g_I} (h : b_X11_knows I x1 x2 = some r) : AM G mX11_knows d [.ref 101, .int x1, .int x2] (sh, I, R, L, g) (fun v w => v = some (.int (kb r.1)) ∧ w = (sh, r.2, R, L, g)) (fun _ _ => False) := by
  have hG := hK.1
  refine AM.of (n := 0) (by decide +kernel) (Nat.le_of_ble_eq_true rfl) ?_
  show AW G mX11_knows d (fun v w => v = some (.int (kb r.1)) ∧ w = (sh, r.2, R, L, g)) (fun _ _ => False) 0 [some (.ref 101), some (.int x1), some (.int x2)] [] (sh, I, R, L, g) 0 0
  unfold b_X11_knows at h
  refine AW.aload_n dX11_knows_0 rfl ?_
  refine AW.iconst 0 dX11_knows_1 (by decide) ?_
  refine AW.putI (fX11_159 hG) rfl (vp_nar_int _) rfl (hm.1 0 _ rfl) dX11_knows_2 ?_
  obtain ⟨I1, eI1, h⟩ := g_letE h
  refine AW.namIE eI1 ?_
  refine AW.aload_n dX11_knows_5 rfl ?_
  refine AW.iload_n dX11_knows_6 rfl ?_
  refine AW.callV (b := 101) (As := [.int x1]) hG.2.2 (vX11_389 hG) (hm.1 0 _ rfl) (g_X11_isPerson hK (d := 1) (Nat.le_refl _) hm) (by omega) dX11_knows_7 rfl rfl (Nat.le_of_ble_eq_true rfl) (fun v w9 hq9 h09 => by obtain ⟨rfl, rfl⟩ := hq9; exact ⟨h09, rfl⟩) (by decide) (by decide) (fun _ _ hx => hx) (fun v9 w9 hq9 => ?_)
  obtain ⟨rfl, rfl⟩ := hq9
  show AW G _ d _ _ 10 [some (.ref 101), some (.int x1), some (.int x2)] [.int (kb (b_X11_isPerson I1 x1))] (sh, I1, R, L, g) 0 0
  refine AW.if_eq 30 dX11_knows_10 (by decide) (fun hc10 => ?_) (fun hc10 => ?_)
  · replace h := g_neg (g_kb0 hc10) h
    refine AW.aload_n dX11_knows_30 rfl ?_
    refine AW.iconst 1 dX11_knows_31 (by decide) ?_
    obtain ⟨t2, I3, hx4, h⟩ := g_bind2E h
    refine AW.callV (b := 101) (As := [.int 1]) hG.2.2 (vX11_398 hG) (hm.1 0 _ rfl) (g_X11_failing hK (d := 0) (Nat.le_refl _) hm hx4) (by omega) dX11_knows_32 rfl rfl (Nat.le_of_ble_eq_true rfl) (fun v w9 hq9 h09 => by obtain ⟨rfl, rfl⟩ := hq9; exact ⟨h09, rfl⟩) (by decide) (by decide) (fun _ _ hx => hx) (fun v9 w9 hq9 => ?_)
    obtain ⟨rfl, rfl⟩ := hq9
    show AW G _ d _ _ 35 [some (.ref 101), some (.int x1), some (.int x2)] [.int (kb t2)] (sh, I3, R, L, g) 0 0
    exact AW.zret dX11_knows_35 rfl (kb_nar _) (by decide) (by decide) (by cases h; exact ⟨rfl, rfl⟩)
  · replace h := g_pos (kb_1.mp hc10) h
    refine AW.aload_n dX11_knows_13 rfl ?_
    refine AW.iload_n dX11_knows_14 rfl ?_
    refine AW.callV (b := 101) (As := [.int x2]) hG.2.2 (vX11_389 hG) (hm.1 0 _ rfl) (g_X11_isPerson hK (d := 1) (Nat.le_refl _) hm) (by omega) dX11_knows_15 rfl rfl (Nat.le_of_ble_eq_true rfl) (fun v w9 hq9 h09 => by obtain ⟨rfl, rfl⟩ := hq9; exact ⟨h09, rfl⟩) (by decide) (by decide) (fun _ _ hx => hx) (fun v9 w9 hq9 => ?_)
    obtain ⟨rfl, rfl⟩ := hq9
    show AW G _ d _ _ 18 [some (.ref 101), some (.int x1), some (.int x2)] [.int (kb (b_X11_isPerson I1 x2))] (sh, I1, R, L, g) 0 0
    refine AW.if_eq 30 dX11_knows_18 (by decide) (fun hc18 => ?_) (fun hc18 => ?_)
    · replace h := g_neg (g_kb0 hc18) h
      refine AW.aload_n dX11_knows_30 rfl ?_
      refine AW.iconst 1 dX11_knows_31 (by decide) ?_
      obtain ⟨t5, I6, hx7, h⟩ := g_bind2E h
      refine AW.callV (b := 101) (As := [.int 1]) hG.2.2 (vX11_398 hG) (hm.1 0 _ rfl) (g_X11_failing hK (d := 0) (Nat.le_refl _) hm hx7) (by omega) dX11_knows_32 rfl rfl (Nat.le_of_ble_eq_true rfl) (fun v w9 hq9 h09 => by obtain ⟨rfl, rfl⟩ := hq9; exact ⟨h09, rfl⟩) (by decide) (by decide) (fun _ _ hx => hx) (fun v9 w9 hq9 => ?_)
      obtain ⟨rfl, rfl⟩ := hq9
      show AW G _ d _ _ 35 [some (.ref 101), some (.int x1), some (.int x2)] [.int (kb t5)] (sh, I6, R, L, g) 0 0
      exact AW.zret dX11_knows_35 rfl (kb_nar _) (by decide) (by decide) (by cases h; exact ⟨rfl, rfl⟩)
    · replace h := g_pos (kb_1.mp hc18) h
      refine AW.aload_n dX11_knows_21 rfl ?_
      refine AW.iload_n dX11_knows_22 rfl ?_
      refine AW.iload_n dX11_knows_23 rfl ?_
      obtain ⟨t8, hx10, h⟩ := g_bindE h
      refine AW.callV (b := 101) (As := [.int x1, .int x2]) hG.2.2 (vX11_349 hG) (hm.1 0 _ rfl) (g_X11_isKnown hK (d := 2) (Nat.le_refl _) hm hx10) (by omega) dX11_knows_24 rfl rfl (Nat.le_of_ble_eq_true rfl) (fun v w9 hq9 h09 => by obtain ⟨rfl, rfl⟩ := hq9; exact ⟨h09, rfl⟩) (by decide) (by decide) (fun _ _ hx => hx) (fun v9 w9 hq9 => ?_)
      obtain ⟨rfl, rfl⟩ := hq9
      show AW G _ d _ _ 27 [some (.ref 101), some (.int x1), some (.int x2)] [.int (kb t8)] (sh, I1, R, L, g) 0 0
      refine AW.goto 35 dX11_knows_27 (by decide) ?_
      exact AW.zret dX11_knows_35 rfl (kb_nar _) (by decide) (by decide) (by cases h; exact ⟨rfl, rfl⟩)
theorem dX11_may_0 : decode cX11_may 0 = .ok (.aload_n 0, 1) := by decide +kernel
theorem dX11_may_1 : decode cX11_may 1 = .ok (.iconst 0, 1) := by decide +kernel
theorem dX11_may_2 : decode cX11_may 2 = .ok (.putfield 159, 3) := by decide +kernel
theorem dX11_may_5 : decode cX11_may 5 = .ok (.aload_n 0, 1) := by decide +kernel
theorem dX11_may_6 : decode cX11_may 6 = .ok (.iload_n 1, 1) := by decide +kernel
theorem dX11_may_7 : decode cX11_may 7 = .ok (.invokevirtual 389, 3) := by decide +kernel
theorem dX11_may_10 : decode cX11_may 10 = .ok (.ifCond .eq 20, 3) := by decide +kernel
theorem dX11_may_13 : decode cX11_may 13 = .ok (.aload_n 0, 1) := by decide +kernel
theorem dX11_may_14 : decode cX11_may 14 = .ok (.iload_n 2, 1) := by decide +kernel
theorem dX11_may_15 : decode cX11_may 15 = .ok (.invokevirtual 392, 3) := by decide +kernel
theorem dX11_may_18 : decode cX11_may 18 = .ok (.ifCond .eq 12, 3) := by decide +kernel
theorem dX11_may_21 : decode cX11_may 21 = .ok (.aload_n 0, 1) := by decide +kernel
theorem dX11_may_22 : decode cX11_may 22 = .ok (.iload_n 1, 1) := by decide +kernel
theorem dX11_may_23 : decode cX11_may 23 = .ok (.iload_n 2, 1) := by decide +kernel
theorem dX11_may_24 : decode cX11_may 24 = .ok (.invokevirtual 361, 3) := by decide +kernel
theorem dX11_may_27 : decode cX11_may 27 = .ok (.goto 8, 3) := by decide +kernel
theorem dX11_may_30 : decode cX11_may 30 = .ok (.aload_n 0, 1) := by decide +kernel
theorem dX11_may_31 : decode cX11_may 31 = .ok (.iconst 1, 1) := by decide +kernel
theorem dX11_may_32 : decode cX11_may 32 = .ok (.invokevirtual 307, 3) := by decide +kernel
theorem dX11_may_35 : decode cX11_may 35 = .ok (.ireturn, 1) := by decide +kernel
def b_X11_may (I : g_I) (x1 : Int32) (x2 : Int32) : Option (Int32 × g_I) :=
  g_let (am_up I 101 2 0) fun I1 => if b_X11_isPerson I1 x1 = true then if b_X11_isLoaf I1 x2 = true then g_bind (b_X11_mayNow I1 x1 x2) fun a8 => some (a8, I1) else g_bind2 (b_X11_fail I1 1) fun a5 I6 => some (a5, I6) else g_bind2 (b_X11_fail I1 1) fun a2 I3 => some (a2, I3)
set_option maxRecDepth 100000 in
set_option maxHeartbeats 4000000 in
theorem g_X11_may {G : am_G} (hK : k_OK G) {d : Nat} (hd : 5 ≤ d) {sh : List (Nat ⊕ (Nat × Nat))} {I : g_I} {R : Nat → Nat → Option Nat} {L : Nat → Nat → Int64} {g : Nat} (hm : k_Mod sh R) {x1 : Int32} {x2 : Int32} {r : Int32 × g_I} (h : b_X11_may I x1 x2 = some r) : AM G mX11_may d [.ref 101, .int x1, .int x2] (sh, I, R, L, g) (fun v w => v = some (.int r.1) ∧ w = (sh, r.2, R, L, g)) (fun _ _ => False) := by
  have hG := hK.1
  refine AM.of (n := 0) (by decide +kernel) (Nat.le_of_ble_eq_true rfl) ?_
  show AW G mX11_may d (fun v w => v = some (.int r.1) ∧ w = (sh, r.2, R, L, g)) (fun _ _ => False) 0 [some (.ref 101), some (.int x1), some (.int x2)] [] (sh, I, R, L, g) 0 0
  unfold b_X11_may at h
  refine AW.aload_n dX11_may_0 rfl ?_
  refine AW.iconst 0 dX11_may_1 (by decide) ?_
  refine AW.putI (fX11_159 hG) rfl (vp_nar_int _) rfl (hm.1 0 _ rfl) dX11_may_2 ?_
  obtain ⟨I1, eI1, h⟩ := g_letE h
  refine AW.namIE eI1 ?_
  refine AW.aload_n dX11_may_5 rfl ?_
  refine AW.iload_n dX11_may_6 rfl ?_
  refine AW.callV (b := 101) (As := [.int x1]) hG.2.2 (vX11_389 hG) (hm.1 0 _ rfl) (g_X11_isPerson hK (d := 1) (Nat.le_refl _) hm) (by omega) dX11_may_7 rfl rfl (Nat.le_of_ble_eq_true rfl) (fun v w9 hq9 h09 => by obtain ⟨rfl, rfl⟩ := hq9; exact ⟨h09, rfl⟩) (by decide) (by decide) (fun _ _ hx => hx) (fun v9 w9 hq9 => ?_)
  obtain ⟨rfl, rfl⟩ := hq9
  show AW G _ d _ _ 10 [some (.ref 101), some (.int x1), some (.int x2)] [.int (kb (b_X11_isPerson I1 x1))] (sh, I1, R, L, g) 0 0
  refine AW.if_eq 30 dX11_may_10 (by decide) (fun hc10 => ?_) (fun hc10 => ?_)
  · replace h := g_neg (g_kb0 hc10) h
    refine AW.aload_n dX11_may_30 rfl ?_
    refine AW.iconst 1 dX11_may_31 (by decide) ?_
    obtain ⟨a2, I3, hx4, h⟩ := g_bind2E h
    refine AW.callV (b := 101) (As := [.int 1]) hG.2.2 (vX11_307 hG) (hm.1 0 _ rfl) (g_X11_fail hK (d := 0) (Nat.le_refl _) hm hx4) (by omega) dX11_may_32 rfl rfl (Nat.le_of_ble_eq_true rfl) (fun v w9 hq9 h09 => by obtain ⟨rfl, rfl⟩ := hq9; exact ⟨h09, rfl⟩) (by decide) (by decide) (fun _ _ hx => hx) (fun v9 w9 hq9 => ?_)
    obtain ⟨rfl, rfl⟩ := hq9
    show AW G _ d _ _ 35 [some (.ref 101), some (.int x1), some (.int x2)] [.int a2] (sh, I3, R, L, g) 0 0
    exact AW.iret dX11_may_35 rfl (by decide) (by decide) (by cases h; exact ⟨rfl, rfl⟩)
  · replace h := g_pos (kb_1.mp hc10) h
    refine AW.aload_n dX11_may_13 rfl ?_
    refine AW.iload_n dX11_may_14 rfl ?_
    refine AW.callV (b := 101) (As := [.int x2]) hG.2.2 (vX11_392 hG) (hm.1 0 _ rfl) (g_X11_isLoaf hK (d := 1) (Nat.le_refl _) hm) (by omega) dX11_may_15 rfl rfl (Nat.le_of_ble_eq_true rfl) (fun v w9 hq9 h09 => by obtain ⟨rfl, rfl⟩ := hq9; exact ⟨h09, rfl⟩) (by decide) (by decide) (fun _ _ hx => hx) (fun v9 w9 hq9 => ?_)
    obtain ⟨rfl, rfl⟩ := hq9
    show AW G _ d _ _ 18 [some (.ref 101), some (.int x1), some (.int x2)] [.int (kb (b_X11_isLoaf I1 x2))] (sh, I1, R, L, g) 0 0
    refine AW.if_eq 30 dX11_may_18 (by decide) (fun hc18 => ?_) (fun hc18 => ?_)
    · replace h := g_neg (g_kb0 hc18) h
      refine AW.aload_n dX11_may_30 rfl ?_
      refine AW.iconst 1 dX11_may_31 (by decide) ?_
      obtain ⟨a5, I6, hx7, h⟩ := g_bind2E h
      refine AW.callV (b := 101) (As := [.int 1]) hG.2.2 (vX11_307 hG) (hm.1 0 _ rfl) (g_X11_fail hK (d := 0) (Nat.le_refl _) hm hx7) (by omega) dX11_may_32 rfl rfl (Nat.le_of_ble_eq_true rfl) (fun v w9 hq9 h09 => by obtain ⟨rfl, rfl⟩ := hq9; exact ⟨h09, rfl⟩) (by decide) (by decide) (fun _ _ hx => hx) (fun v9 w9 hq9 => ?_)
      obtain ⟨rfl, rfl⟩ := hq9
      show AW G _ d _ _ 35 [some (.ref 101), some (.int x1), some (.int x2)] [.int a5] (sh, I6, R, L, g) 0 0
      exact AW.iret dX11_may_35 rfl (by decide) (by decide) (by cases h; exact ⟨rfl, rfl⟩)
    · replace h := g_pos (kb_1.mp hc18) h
      refine AW.aload_n dX11_may_21 rfl ?_
      refine AW.iload_n dX11_may_22 rfl ?_
      refine AW.iload_n dX11_may_23 rfl ?_
      obtain ⟨a8, hx10, h⟩ := g_bindE h
      refine AW.callV (b := 101) (As := [.int x1, .int x2]) hG.2.2 (vX11_361 hG) (hm.1 0 _ rfl) (g_X11_mayNow hK (d := 4) (Nat.le_refl _) hm hx10) (by omega) dX11_may_24 rfl rfl (Nat.le_of_ble_eq_true rfl) (fun v w9 hq9 h09 => by obtain ⟨rfl, rfl⟩ := hq9; exact ⟨h09, rfl⟩) (by decide) (by decide) (fun _ _ hx => hx) (fun v9 w9 hq9 => ?_)
      obtain ⟨rfl, rfl⟩ := hq9
      show AW G _ d _ _ 27 [some (.ref 101), some (.int x1), some (.int x2)] [.int a8] (sh, I1, R, L, g) 0 0
      refine AW.goto 35 dX11_may_27 (by decide) ?_
      exact AW.iret dX11_may_35 rfl (by decide) (by decide) (by cases h; exact ⟨rfl, rfl⟩)
theorem dX11_slice_0 : decode cX11_slice 0 = .ok (.aload_n 0, 1) := by decide +kernel
theorem dX11_slice_1 : decode cX11_slice 1 = .ok (.iconst 0, 1) := by decide +kernel
theorem dX11_slice_2 : decode cX11_slice 2 = .ok (.putfield 159, 3) := by decide +kernel
theorem dX11_slice_5 : decode cX11_slice 5 = .ok (.aload_n 0, 1) := by decide +kernel
theorem dX11_slice_6 : decode cX11_slice 6 = .ok (.iload_n 1, 1) := by decide +kernel
theorem dX11_slice_7 : decode cX11_slice 7 = .ok (.invokevirtual 389, 3) := by decide +kernel
theorem dX11_slice_10 : decode cX11_slice 10 = .ok (.ifCond .eq 31, 3) := by decide +kernel
theorem dX11_slice_13 : decode cX11_slice 13 = .ok (.aload_n 0, 1) := by decide +kernel
theorem dX11_slice_14 : decode cX11_slice 14 = .ok (.iload_n 2, 1) := by decide +kernel
theorem dX11_slice_15 : decode cX11_slice 15 = .ok (.invokevirtual 392, 3) := by decide +kernel
theorem dX11_slice_18 : decode cX11_slice 18 = .ok (.ifCond .eq 23, 3) := by decide +kernel
theorem dX11_slice_21 : decode cX11_slice 21 = .ok (.iload_n 3, 1) := by decide +kernel
theorem dX11_slice_22 : decode cX11_slice 22 = .ok (.i2l, 1) := by decide +kernel
theorem dX11_slice_23 : decode cX11_slice 23 = .ok (.ldc2_w 401, 3) := by decide +kernel
theorem dX11_slice_26 : decode cX11_slice 26 = .ok (.aload_n 0, 1) := by decide +kernel
theorem dX11_slice_27 : decode cX11_slice 27 = .ok (.getfield 61, 3) := by decide +kernel
theorem dX11_slice_30 : decode cX11_slice 30 = .ok (.iload_n 2, 1) := by decide +kernel
theorem dX11_slice_31 : decode cX11_slice 31 = .ok (.iaload, 1) := by decide +kernel
theorem dX11_slice_32 : decode cX11_slice 32 = .ok (.iconst 1, 1) := by decide +kernel
theorem dX11_slice_33 : decode cX11_slice 33 = .ok (.isub, 1) := by decide +kernel
theorem dX11_slice_34 : decode cX11_slice 34 = .ok (.i2l, 1) := by decide +kernel
theorem dX11_slice_35 : decode cX11_slice 35 = .ok (.invokestatic 162, 3) := by decide +kernel
theorem dX11_slice_38 : decode cX11_slice 38 = .ok (.ifCond .ne 9, 3) := by decide +kernel
theorem dX11_slice_41 : decode cX11_slice 41 = .ok (.aload_n 0, 1) := by decide +kernel
theorem dX11_slice_42 : decode cX11_slice 42 = .ok (.iconst 1, 1) := by decide +kernel
theorem dX11_slice_43 : decode cX11_slice 43 = .ok (.invokevirtual 307, 3) := by decide +kernel
theorem dX11_slice_46 : decode cX11_slice 46 = .ok (.ireturn, 1) := by decide +kernel
theorem dX11_slice_47 : decode cX11_slice 47 = .ok (.aload_n 0, 1) := by decide +kernel
theorem dX11_slice_48 : decode cX11_slice 48 = .ok (.iload_n 1, 1) := by decide +kernel
theorem dX11_slice_49 : decode cX11_slice 49 = .ok (.iload_n 2, 1) := by decide +kernel
theorem dX11_slice_50 : decode cX11_slice 50 = .ok (.invokevirtual 403, 3) := by decide +kernel
theorem dX11_slice_53 : decode cX11_slice 53 = .ok (.iload_n 3, 1) := by decide +kernel
theorem dX11_slice_54 : decode cX11_slice 54 = .ok (.iconst (-1), 1) := by decide +kernel
theorem dX11_slice_55 : decode cX11_slice 55 = .ok (.if_icmp .ne 10, 3) := by decide +kernel
theorem dX11_slice_58 : decode cX11_slice 58 = .ok (.aload_n 0, 1) := by decide +kernel
theorem dX11_slice_59 : decode cX11_slice 59 = .ok (.getfield 383, 3) := by decide +kernel
theorem dX11_slice_62 : decode cX11_slice 62 = .ok (.goto 9, 3) := by decide +kernel
theorem dX11_slice_65 : decode cX11_slice 65 = .ok (.aload_n 0, 1) := by decide +kernel
theorem dX11_slice_66 : decode cX11_slice 66 = .ok (.getfield 102, 3) := by decide +kernel
theorem dX11_slice_69 : decode cX11_slice 69 = .ok (.iload_n 3, 1) := by decide +kernel
theorem dX11_slice_70 : decode cX11_slice 70 = .ok (.iaload, 1) := by decide +kernel
theorem dX11_slice_71 : decode cX11_slice 71 = .ok (.ireturn, 1) := by decide +kernel
def b_X11_slice (I : g_I) (x1 : Int32) (x2 : Int32) (x3 : Int32) : Option (Int32 × g_I) :=
  g_let (am_up I 101 2 0) fun I1 => if b_X11_isPerson I1 x1 = true then if b_X11_isLoaf I1 x2 = true then if g_in x2 12 = true then if b_X11_isIn (x3.toInt64) (-1) (((I1 112 x2.toNatClampNeg) - 1).toInt64) = true then g_bind (b_X11_tellSlices I1 x1 x2) fun I9 => if x3 = (-1) then some (I9 101 41, I9) else if g_in x3 6 = true then some (I9 125 x3.toNatClampNeg, I9) else none else g_bind2 (b_X11_fail I1 1) fun a11 I12 => some (a11, I12) else none else g_bind2 (b_X11_fail I1 1) fun a5 I6 => some (a5, I6) else g_bind2 (b_X11_fail I1 1) fun a2 I3 => some (a2, I3)
set_option maxRecDepth 100000 in
set_option maxHeartbeats 4000000 in
theorem g_X11_slice {G : am_G} (hK : k_OK G) {d : Nat} (hd : 4 ≤ d) {sh : List (Nat ⊕ (Nat × Nat))} {I : g_I} {R : Nat → Nat → Option Nat} {L : Nat → Nat → Int64} {g : Nat} (hm : k_Mod sh R) {x1 : Int32} {x2 : Int32} {x3 : Int32} {r : Int32 × g_I} (h : b_X11_slice I x1 x2 x3 = some r) : AM G mX11_slice d [.ref 101, .int x1, .int x2, .int x3] (sh, I, R, L, g) (fun v w => v = some (.int r.1) ∧ w = (sh, r.2, R, L, g)) (fun _ _ => False) := by
  have hG := hK.1
  refine AM.of (n := 0) (by decide +kernel) (Nat.le_of_ble_eq_true rfl) ?_
  show AW G mX11_slice d (fun v w => v = some (.int r.1) ∧ w = (sh, r.2, R, L, g)) (fun _ _ => False) 0 [some (.ref 101), some (.int x1), some (.int x2), some (.int x3)] [] (sh, I, R, L, g) 0 0
  unfold b_X11_slice at h
  refine AW.aload_n dX11_slice_0 rfl ?_
  refine AW.iconst 0 dX11_slice_1 (by decide) ?_
  refine AW.putI (fX11_159 hG) rfl (vp_nar_int _) rfl (hm.1 0 _ rfl) dX11_slice_2 ?_
  obtain ⟨I1, eI1, h⟩ := g_letE h
  refine AW.namIE eI1 ?_
  refine AW.aload_n dX11_slice_5 rfl ?_
  refine AW.iload_n dX11_slice_6 rfl ?_
  refine AW.callV (b := 101) (As := [.int x1]) hG.2.2 (vX11_389 hG) (hm.1 0 _ rfl) (g_X11_isPerson hK (d := 1) (Nat.le_refl _) hm) (by omega) dX11_slice_7 rfl rfl (Nat.le_of_ble_eq_true rfl) (fun v w9 hq9 h09 => by obtain ⟨rfl, rfl⟩ := hq9; exact ⟨h09, rfl⟩) (by decide) (by decide) (fun _ _ hx => hx) (fun v9 w9 hq9 => ?_)
  obtain ⟨rfl, rfl⟩ := hq9
  show AW G _ d _ _ 10 [some (.ref 101), some (.int x1), some (.int x2), some (.int x3)] [.int (kb (b_X11_isPerson I1 x1))] (sh, I1, R, L, g) 0 0
  refine AW.if_eq 41 dX11_slice_10 (by decide) (fun hc10 => ?_) (fun hc10 => ?_)
  · replace h := g_neg (g_kb0 hc10) h
    refine AW.aload_n dX11_slice_41 rfl ?_
    refine AW.iconst 1 dX11_slice_42 (by decide) ?_
    obtain ⟨a2, I3, hx4, h⟩ := g_bind2E h
    refine AW.callV (b := 101) (As := [.int 1]) hG.2.2 (vX11_307 hG) (hm.1 0 _ rfl) (g_X11_fail hK (d := 0) (Nat.le_refl _) hm hx4) (by omega) dX11_slice_43 rfl rfl (Nat.le_of_ble_eq_true rfl) (fun v w9 hq9 h09 => by obtain ⟨rfl, rfl⟩ := hq9; exact ⟨h09, rfl⟩) (by decide) (by decide) (fun _ _ hx => hx) (fun v9 w9 hq9 => ?_)
    obtain ⟨rfl, rfl⟩ := hq9
    show AW G _ d _ _ 46 [some (.ref 101), some (.int x1), some (.int x2), some (.int x3)] [.int a2] (sh, I3, R, L, g) 0 0
    exact AW.iret dX11_slice_46 rfl (by decide) (by decide) (by cases h; exact ⟨rfl, rfl⟩)
  · replace h := g_pos (kb_1.mp hc10) h
    refine AW.aload_n dX11_slice_13 rfl ?_
    refine AW.iload_n dX11_slice_14 rfl ?_
    refine AW.callV (b := 101) (As := [.int x2]) hG.2.2 (vX11_392 hG) (hm.1 0 _ rfl) (g_X11_isLoaf hK (d := 1) (Nat.le_refl _) hm) (by omega) dX11_slice_15 rfl rfl (Nat.le_of_ble_eq_true rfl) (fun v w9 hq9 h09 => by obtain ⟨rfl, rfl⟩ := hq9; exact ⟨h09, rfl⟩) (by decide) (by decide) (fun _ _ hx => hx) (fun v9 w9 hq9 => ?_)
    obtain ⟨rfl, rfl⟩ := hq9
    show AW G _ d _ _ 18 [some (.ref 101), some (.int x1), some (.int x2), some (.int x3)] [.int (kb (b_X11_isLoaf I1 x2))] (sh, I1, R, L, g) 0 0
    refine AW.if_eq 41 dX11_slice_18 (by decide) (fun hc18 => ?_) (fun hc18 => ?_)
    · replace h := g_neg (g_kb0 hc18) h
      refine AW.aload_n dX11_slice_41 rfl ?_
      refine AW.iconst 1 dX11_slice_42 (by decide) ?_
      obtain ⟨a5, I6, hx7, h⟩ := g_bind2E h
      refine AW.callV (b := 101) (As := [.int 1]) hG.2.2 (vX11_307 hG) (hm.1 0 _ rfl) (g_X11_fail hK (d := 0) (Nat.le_refl _) hm hx7) (by omega) dX11_slice_43 rfl rfl (Nat.le_of_ble_eq_true rfl) (fun v w9 hq9 h09 => by obtain ⟨rfl, rfl⟩ := hq9; exact ⟨h09, rfl⟩) (by decide) (by decide) (fun _ _ hx => hx) (fun v9 w9 hq9 => ?_)
      obtain ⟨rfl, rfl⟩ := hq9
      show AW G _ d _ _ 46 [some (.ref 101), some (.int x1), some (.int x2), some (.int x3)] [.int a5] (sh, I6, R, L, g) 0 0
      exact AW.iret dX11_slice_46 rfl (by decide) (by decide) (by cases h; exact ⟨rfl, rfl⟩)
    · replace h := g_pos (kb_1.mp hc18) h
      refine AW.iload_n dX11_slice_21 rfl ?_
      refine AW.i2l dX11_slice_22 ?_
      refine AW.ldc2 (-1) dX11_slice_23 (k_c hG 1907 (by decide +kernel) (by decide +kernel)) ?_
      refine AW.aload_n dX11_slice_26 rfl ?_
      refine AW.getR (c' := 112) (fX11_61 hG).r rfl (hm.1 0 _ rfl) (hm.2 (0, 11, 11) (by decide)) dX11_slice_27 ?_
      refine AW.iload_n dX11_slice_30 rfl ?_
      obtain ⟨hb, h⟩ := g_ifE h
      refine AW.iald (hm.1 11 _ rfl) (g_in_iff.mp hb) dX11_slice_31 ?_
      refine AW.iconst 1 dX11_slice_32 (by decide) ?_
      refine AW.isub dX11_slice_33 ?_
      refine AW.i2l dX11_slice_34 ?_
      refine AW.callS (As := [.long (x3.toInt64), .long (-1), .long (((I1 112 x2.toNatClampNeg) - 1).toInt64)]) hG.2.2 (vX11_162 hG) (g_X11_isIn hK (d := 0) (Nat.le_refl _) (x3.toInt64) (-1) (((I1 112 x2.toNatClampNeg) - 1).toInt64)) (by omega) dX11_slice_35 rfl rfl (Nat.le_of_ble_eq_true rfl) (fun v w9 hq9 h09 => by obtain ⟨rfl, rfl⟩ := hq9; exact ⟨h09, rfl⟩) (by decide) (by decide) (fun _ _ hx => hx) (fun v9 w9 hq9 => ?_)
      obtain ⟨rfl, rfl⟩ := hq9
      show AW G _ d _ _ 38 [some (.ref 101), some (.int x1), some (.int x2), some (.int x3)] [.int (kb (b_X11_isIn (x3.toInt64) (-1) (((I1 112 x2.toNatClampNeg) - 1).toInt64)))] (sh, I1, R, L, g) 0 0
      refine AW.if_ne 47 dX11_slice_38 (by decide) (fun hc38 => ?_) (fun hc38 => ?_)
      · replace h := g_pos (kb_1.mp hc38) h
        refine AW.aload_n dX11_slice_47 rfl ?_
        refine AW.iload_n dX11_slice_48 rfl ?_
        refine AW.iload_n dX11_slice_49 rfl ?_
        obtain ⟨I9, hx10, h⟩ := g_bindE h
        refine AW.callV (b := 101) (As := [.int x1, .int x2]) hG.2.2 (vX11_403 hG) (hm.1 0 _ rfl) (g_X11_tellSlices hK (d := 3) (Nat.le_refl _) hm hx10) (by omega) dX11_slice_50 rfl rfl (Nat.le_of_ble_eq_true rfl) (fun v w9 hq9 h09 => by obtain ⟨rfl, rfl⟩ := hq9; exact ⟨h09, rfl⟩) (by decide) (by decide) (fun _ _ hx => hx) (fun v9 w9 hq9 => ?_)
        obtain ⟨rfl, rfl⟩ := hq9
        show AW G _ d _ _ 53 [some (.ref 101), some (.int x1), some (.int x2), some (.int x3)] [] (sh, I9, R, L, g) 0 0
        refine AW.iload_n dX11_slice_53 rfl ?_
        refine AW.iconst (-1) dX11_slice_54 (by decide) ?_
        refine AW.icmp_ne 65 dX11_slice_55 (by decide) (fun hc55 => ?_) (fun hc55 => ?_)
        · replace h := g_neg hc55 h
          refine AW.aload_n dX11_slice_65 rfl ?_
          refine AW.getR (c' := 125) (fX11_102 hG).r rfl (hm.1 0 _ rfl) (hm.2 (0, 39, 24) (by decide)) dX11_slice_66 ?_
          refine AW.iload_n dX11_slice_69 rfl ?_
          obtain ⟨hb, h⟩ := g_ifE h
          refine AW.iald (hm.1 24 _ rfl) (g_in_iff.mp hb) dX11_slice_70 ?_
          exact AW.iret dX11_slice_71 rfl (by decide) (by decide) (by cases h; exact ⟨rfl, rfl⟩)
        · replace h := g_pos hc55 h
          refine AW.aload_n dX11_slice_58 rfl ?_
          refine AW.getI (fX11_383 hG).r rfl (hm.1 0 _ rfl) dX11_slice_59 ?_
          refine AW.goto 71 dX11_slice_62 (by decide) ?_
          exact AW.iret dX11_slice_71 rfl (by decide) (by decide) (by cases h; exact ⟨rfl, rfl⟩)
      · replace h := g_neg (g_kb0 hc38) h
        refine AW.aload_n dX11_slice_41 rfl ?_
        refine AW.iconst 1 dX11_slice_42 (by decide) ?_
        obtain ⟨a11, I12, hx13, h⟩ := g_bind2E h
        refine AW.callV (b := 101) (As := [.int 1]) hG.2.2 (vX11_307 hG) (hm.1 0 _ rfl) (g_X11_fail hK (d := 0) (Nat.le_refl _) hm hx13) (by omega) dX11_slice_43 rfl rfl (Nat.le_of_ble_eq_true rfl) (fun v w9 hq9 h09 => by obtain ⟨rfl, rfl⟩ := hq9; exact ⟨h09, rfl⟩) (by decide) (by decide) (fun _ _ hx => hx) (fun v9 w9 hq9 => ?_)
        obtain ⟨rfl, rfl⟩ := hq9
        show AW G _ d _ _ 46 [some (.ref 101), some (.int x1), some (.int x2), some (.int x3)] [.int a11] (sh, I12, R, L, g) 0 0
        exact AW.iret dX11_slice_46 rfl (by decide) (by decide) (by cases h; exact ⟨rfl, rfl⟩)
theorem dX11_refuse_0 : decode cX11_refuse 0 = .ok (.aload_n 0, 1) := by decide +kernel
theorem dX11_refuse_1 : decode cX11_refuse 1 = .ok (.getfield 73, 3) := by decide +kernel
theorem dX11_refuse_4 : decode cX11_refuse 4 = .ok (.iload_n 1, 1) := by decide +kernel
theorem dX11_refuse_5 : decode cX11_refuse 5 = .ok (.dup2, 1) := by decide +kernel
theorem dX11_refuse_6 : decode cX11_refuse 6 = .ok (.iaload, 1) := by decide +kernel
theorem dX11_refuse_7 : decode cX11_refuse 7 = .ok (.iconst 1, 1) := by decide +kernel
theorem dX11_refuse_8 : decode cX11_refuse 8 = .ok (.iadd, 1) := by decide +kernel
theorem dX11_refuse_9 : decode cX11_refuse 9 = .ok (.iastore, 1) := by decide +kernel
theorem dX11_refuse_10 : decode cX11_refuse 10 = .ok (.iconst (-1), 1) := by decide +kernel
theorem dX11_refuse_11 : decode cX11_refuse 11 = .ok (.ireturn, 1) := by decide +kernel
def b_X11_refuse (I : g_I) (x1 : Int32) : Option (Int32 × g_I) :=
  if g_in x1 3 = true then if g_in x1 3 = true then g_let (am_up I 116 x1.toNatClampNeg ((I 116 x1.toNatClampNeg) + 1)) fun I1 => some ((-1), I1) else none else none
set_option maxRecDepth 100000 in
set_option maxHeartbeats 4000000 in
theorem g_X11_refuse {G : am_G} (hK : k_OK G) {d : Nat} (hd : 0 ≤ d) {sh : List (Nat ⊕ (Nat × Nat))} {I : g_I} {R : Nat → Nat → Option Nat} {L : Nat → Nat → Int64} {g : Nat} (hm : k_Mod sh R) {x1 : Int32} {r : Int32 × g_I} (h : b_X11_refuse I x1 = some r) : AM G mX11_refuse d [.ref 101, .int x1] (sh, I, R, L, g) (fun v w => v = some (.int r.1) ∧ w = (sh, r.2, R, L, g)) (fun _ _ => False) := by
  have hG := hK.1
  refine AM.of (n := 0) (by decide +kernel) (Nat.le_of_ble_eq_true rfl) ?_
  show AW G mX11_refuse d (fun v w => v = some (.int r.1) ∧ w = (sh, r.2, R, L, g)) (fun _ _ => False) 0 [some (.ref 101), some (.int x1)] [] (sh, I, R, L, g) 0 0
  unfold b_X11_refuse at h
  refine AW.aload_n dX11_refuse_0 rfl ?_
  refine AW.getR (c' := 116) (fX11_73 hG).r rfl (hm.1 0 _ rfl) (hm.2 (0, 15, 15) (by decide)) dX11_refuse_1 ?_
  refine AW.iload_n dX11_refuse_4 rfl ?_
  refine AW.dup2 dX11_refuse_5 rfl rfl ?_
  obtain ⟨hb, h⟩ := g_ifE h
  refine AW.iald (hm.1 15 _ rfl) (g_in_iff.mp hb) dX11_refuse_6 ?_
  refine AW.iconst 1 dX11_refuse_7 (by decide) ?_
  refine AW.iadd dX11_refuse_8 ?_
  obtain ⟨hb, h⟩ := g_ifE h
  refine AW.iast (hm.1 15 _ rfl) (g_in_iff.mp hb) dX11_refuse_9 ?_
  obtain ⟨I1, eI1, h⟩ := g_letE h
  refine AW.namIE eI1 ?_
  refine AW.iconst (-1) dX11_refuse_10 (by decide) ?_
  exact AW.iret dX11_refuse_11 rfl (by decide) (by decide) (by cases h; exact ⟨rfl, rfl⟩)
theorem dX11_keep_0 : decode cX11_keep 0 = .ok (.aload_n 0, 1) := by decide +kernel
theorem dX11_keep_1 : decode cX11_keep 1 = .ok (.getfield 327, 3) := by decide +kernel
theorem dX11_keep_4 : decode cX11_keep 4 = .ok (.bipush 40, 2) := by decide +kernel
theorem dX11_keep_6 : decode cX11_keep 6 = .ok (.if_icmp .ne 46, 3) := by decide +kernel
theorem dX11_keep_9 : decode cX11_keep 9 = .ok (.bipush 80, 2) := by decide +kernel
theorem dX11_keep_11 : decode cX11_keep 11 = .ok (.istore_n 1, 1) := by decide +kernel
theorem dX11_keep_12 : decode cX11_keep 12 = .ok (.iload_n 1, 1) := by decide +kernel
theorem dX11_keep_13 : decode cX11_keep 13 = .ok (.aload_n 0, 1) := by decide +kernel
theorem dX11_keep_14 : decode cX11_keep 14 = .ok (.getfield 88, 3) := by decide +kernel
theorem dX11_keep_17 : decode cX11_keep 17 = .ok (.arraylength, 1) := by decide +kernel
theorem dX11_keep_18 : decode cX11_keep 18 = .ok (.if_icmp .ge 24, 3) := by decide +kernel
theorem dX11_keep_21 : decode cX11_keep 21 = .ok (.aload_n 0, 1) := by decide +kernel
theorem dX11_keep_22 : decode cX11_keep 22 = .ok (.getfield 88, 3) := by decide +kernel
theorem dX11_keep_25 : decode cX11_keep 25 = .ok (.iload_n 1, 1) := by decide +kernel
theorem dX11_keep_26 : decode cX11_keep 26 = .ok (.bipush 80, 2) := by decide +kernel
theorem dX11_keep_28 : decode cX11_keep 28 = .ok (.isub, 1) := by decide +kernel
theorem dX11_keep_29 : decode cX11_keep 29 = .ok (.aload_n 0, 1) := by decide +kernel
theorem dX11_keep_30 : decode cX11_keep 30 = .ok (.getfield 88, 3) := by decide +kernel
theorem dX11_keep_33 : decode cX11_keep 33 = .ok (.iload_n 1, 1) := by decide +kernel
theorem dX11_keep_34 : decode cX11_keep 34 = .ok (.iaload, 1) := by decide +kernel
theorem dX11_keep_35 : decode cX11_keep 35 = .ok (.iastore, 1) := by decide +kernel
theorem dX11_keep_36 : decode cX11_keep 36 = .ok (.iinc 1 1, 3) := by decide +kernel
theorem dX11_keep_39 : decode cX11_keep 39 = .ok (.goto (-27), 3) := by decide +kernel
theorem dX11_keep_42 : decode cX11_keep 42 = .ok (.aload_n 0, 1) := by decide +kernel
theorem dX11_keep_43 : decode cX11_keep 43 = .ok (.dup, 1) := by decide +kernel
theorem dX11_keep_44 : decode cX11_keep 44 = .ok (.getfield 327, 3) := by decide +kernel
theorem dX11_keep_47 : decode cX11_keep 47 = .ok (.iconst 1, 1) := by decide +kernel
theorem dX11_keep_48 : decode cX11_keep 48 = .ok (.isub, 1) := by decide +kernel
theorem dX11_keep_49 : decode cX11_keep 49 = .ok (.putfield 327, 3) := by decide +kernel
theorem dX11_keep_52 : decode cX11_keep 52 = .ok (.aload_n 0, 1) := by decide +kernel
theorem dX11_keep_53 : decode cX11_keep 53 = .ok (.aload_n 0, 1) := by decide +kernel
theorem dX11_keep_54 : decode cX11_keep 54 = .ok (.getfield 88, 3) := by decide +kernel
theorem dX11_keep_57 : decode cX11_keep 57 = .ok (.bipush 80, 2) := by decide +kernel
theorem dX11_keep_59 : decode cX11_keep 59 = .ok (.aload_n 0, 1) := by decide +kernel
theorem dX11_keep_60 : decode cX11_keep 60 = .ok (.getfield 327, 3) := by decide +kernel
theorem dX11_keep_63 : decode cX11_keep 63 = .ok (.imul, 1) := by decide +kernel
theorem dX11_keep_64 : decode cX11_keep 64 = .ok (.invokevirtual 407, 3) := by decide +kernel
theorem dX11_keep_67 : decode cX11_keep 67 = .ok (.aload_n 0, 1) := by decide +kernel
theorem dX11_keep_68 : decode cX11_keep 68 = .ok (.dup, 1) := by decide +kernel
theorem dX11_keep_69 : decode cX11_keep 69 = .ok (.getfield 327, 3) := by decide +kernel
theorem dX11_keep_72 : decode cX11_keep 72 = .ok (.iconst 1, 1) := by decide +kernel
theorem dX11_keep_73 : decode cX11_keep 73 = .ok (.iadd, 1) := by decide +kernel
theorem dX11_keep_74 : decode cX11_keep 74 = .ok (.putfield 327, 3) := by decide +kernel
theorem dX11_keep_77 : decode cX11_keep 77 = .ok (.return_, 1) := by decide +kernel
def b_X11_keep_L12 (K : g_I → Option (g_I)) : Nat → Int32 → g_I → Option (g_I)
  | 0, _, _ => none
  | f + 1, x1, I => if 3200 ≤ x1 then K I else if g_in x1 3200 = true then if g_in (x1 - 80) 3200 = true then g_let (am_up I 120 (x1 - 80).toNatClampNeg (I 120 x1.toNatClampNeg)) fun I5 => b_X11_keep_L12 K f (x1 + 1) I5 else none else none
def b_X11_keep (I : g_I) : Option (g_I) :=
  g_let (fun (I52j : g_I) => g_bind (b_X11_pack I52j 120 3200 ((80 : Int32) * (I52j 101 32))) fun I2 => g_let (am_up I2 101 32 ((I2 101 32) + 1)) fun I4 => some I4) fun J52 => if (I 101 32) = 40 then b_X11_keep_L12 (fun (I6 : g_I) => g_let (am_up I6 101 32 ((I6 101 32) - 1)) fun I7 => J52 I7) fu 80 I else J52 I
set_option maxRecDepth 100000 in
set_option maxHeartbeats 4000000 in
theorem gL_X11_keep_12 {G : am_G} (hK : k_OK G) {d : Nat} (hd : 1 ≤ d) {sh : List (Nat ⊕ (Nat × Nat))} {I : g_I} {R : Nat → Nat → Option Nat} {L : Nat → Nat → Int64} {g : Nat} (hm : k_Mod sh R) {K : g_I → Option (g_I)} {x1 : Int32} {f : Nat} {r : g_I} (h : b_X11_keep_L12 K f x1 I = some r) (hk : ∀ (J : g_I), K J = some r → AW G mX11_keep d (fun v w => v = none ∧ w = (sh, r, R, L, g)) (fun _ _ => False) 42 [some (.ref 101), none] [] (sh, J, R, L, g) 0 0) : AW G mX11_keep d (fun v w => v = none ∧ w = (sh, r, R, L, g)) (fun _ _ => False) 12 [some (.ref 101), some (.int x1)] [] (sh, I, R, L, g) 0 0 := by
  have hG := hK.1
  induction f generalizing x1 I with
  | zero => rw [b_X11_keep_L12] at h; cases h
  | succ f ih =>
    rw [b_X11_keep_L12] at h
    refine AW.iload_n dX11_keep_12 rfl ?_
    refine AW.aload_n dX11_keep_13 rfl ?_
    refine AW.getR (c' := 120) (fX11_88 hG).r rfl (hm.1 0 _ rfl) (hm.2 (0, 29, 19) (by decide)) dX11_keep_14 ?_
    refine AW.alen (v := 3200) (hm.1 19 _ rfl) (by decide) (by decide) dX11_keep_17 ?_
    refine AW.icmp_ge 42 dX11_keep_18 (by decide) (fun hc18 => ?_) (fun hc18 => ?_)
    · replace h := g_pos hc18 h
      refine AW.mask [1] [some (.ref 101), none] rfl ?_
      exact hk _ h
    · replace h := g_neg hc18 h
      refine AW.aload_n dX11_keep_21 rfl ?_
      refine AW.getR (c' := 120) (fX11_88 hG).r rfl (hm.1 0 _ rfl) (hm.2 (0, 29, 19) (by decide)) dX11_keep_22 ?_
      refine AW.iload_n dX11_keep_25 rfl ?_
      refine AW.bipush 80 dX11_keep_26 (by decide) ?_
      refine AW.isub dX11_keep_28 ?_
      refine AW.aload_n dX11_keep_29 rfl ?_
      refine AW.getR (c' := 120) (fX11_88 hG).r rfl (hm.1 0 _ rfl) (hm.2 (0, 29, 19) (by decide)) dX11_keep_30 ?_
      refine AW.iload_n dX11_keep_33 rfl ?_
      obtain ⟨hb, h⟩ := g_ifE h
      refine AW.iald (hm.1 19 _ rfl) (g_in_iff.mp hb) dX11_keep_34 ?_
      obtain ⟨hb, h⟩ := g_ifE h
      refine AW.iast (hm.1 19 _ rfl) (g_in_iff.mp hb) dX11_keep_35 ?_
      obtain ⟨I5, eI5, h⟩ := g_letE h
      refine AW.namIE eI5 ?_
      refine AW.incE 1 (by decide) [some (.ref 101), some (.int (x1 + 1))] dX11_keep_36 rfl (by decide) rfl rfl ?_
      refine AW.goto 12 dX11_keep_39 (by decide) ?_
      exact ih h
set_option maxRecDepth 100000 in
set_option maxHeartbeats 4000000 in
theorem g_X11_keep {G : am_G} (hK : k_OK G) {d : Nat} (hd : 1 ≤ d) {sh : List (Nat ⊕ (Nat × Nat))} {I : g_I} {R : Nat → Nat → Option Nat} {L : Nat → Nat → Int64} {g : Nat} (hm : k_Mod sh R) {r : g_I} (h : b_X11_keep I = some r) : AM G mX11_keep d [.ref 101] (sh, I, R, L, g) (fun v w => v = none ∧ w = (sh, r, R, L, g)) (fun _ _ => False) := by
  have hG := hK.1
  refine AM.of (n := 1) (by decide +kernel) (Nat.le_of_ble_eq_true rfl) ?_
  show AW G mX11_keep d (fun v w => v = none ∧ w = (sh, r, R, L, g)) (fun _ _ => False) 0 [some (.ref 101), none] [] (sh, I, R, L, g) 0 0
  unfold b_X11_keep at h
  obtain ⟨J52, eJ52, h⟩ := g_letE h
  have H52 : ∀ (I52j : g_I), J52 I52j = some r → AW G mX11_keep d (fun v w => v = none ∧ w = (sh, r, R, L, g)) (fun _ _ => False) 52 [some (.ref 101), none] [] (sh, I52j, R, L, g) 0 0 := by
    intro I52j h
    rw [eJ52] at h
    refine AW.aload_n dX11_keep_52 rfl ?_
    refine AW.aload_n dX11_keep_53 rfl ?_
    refine AW.getR (c' := 120) (fX11_88 hG).r rfl (hm.1 0 _ rfl) (hm.2 (0, 29, 19) (by decide)) dX11_keep_54 ?_
    refine AW.bipush 80 dX11_keep_57 (by decide) ?_
    refine AW.aload_n dX11_keep_59 rfl ?_
    refine AW.getI (fX11_327 hG).r rfl (hm.1 0 _ rfl) dX11_keep_60 ?_
    refine AW.imul dX11_keep_63 ?_
    obtain ⟨I2, hx3, h⟩ := g_bindE h
    refine AW.callV (b := 101) (As := [.ref 120, .int ((80 : Int32) * (I52j 101 32))]) hG.2.2 (vX11_407 hG) (hm.1 0 _ rfl) (g_X11_pack hK (d := 0) (Nat.le_refl _) hm (hm.1 19 _ rfl) hx3) (by omega) dX11_keep_64 rfl rfl (Nat.le_of_ble_eq_true rfl) (fun v w9 hq9 h09 => by obtain ⟨rfl, rfl⟩ := hq9; exact ⟨h09, rfl⟩) (by decide) (by decide) (fun _ _ hx => hx) (fun v9 w9 hq9 => ?_)
    obtain ⟨rfl, rfl⟩ := hq9
    show AW G _ d _ _ 67 [some (.ref 101), none] [] (sh, I2, R, L, g) 0 0
    refine AW.aload_n dX11_keep_67 rfl ?_
    refine AW.dup dX11_keep_68 rfl ?_
    refine AW.getI (fX11_327 hG).r rfl (hm.1 0 _ rfl) dX11_keep_69 ?_
    refine AW.iconst 1 dX11_keep_72 (by decide) ?_
    refine AW.iadd dX11_keep_73 ?_
    refine AW.putI (fX11_327 hG) rfl (vp_nar_int _) rfl (hm.1 0 _ rfl) dX11_keep_74 ?_
    obtain ⟨I4, eI4, h⟩ := g_letE h
    refine AW.namIE eI4 ?_
    exact AW.vret dX11_keep_77 rfl (by decide) (by decide) (by cases h; exact ⟨rfl, rfl⟩)
  refine AW.aload_n dX11_keep_0 rfl ?_
  refine AW.getI (fX11_327 hG).r rfl (hm.1 0 _ rfl) dX11_keep_1 ?_
  refine AW.bipush 40 dX11_keep_4 (by decide) ?_
  refine AW.icmp_ne 52 dX11_keep_6 (by decide) (fun hc6 => ?_) (fun hc6 => ?_)
  · replace h := g_neg hc6 h
    exact H52 _ h
  · replace h := g_pos hc6 h
    refine AW.bipush 80 dX11_keep_9 (by decide) ?_
    refine AW.is_n [some (.ref 101), some (.int 80)] dX11_keep_11 (by decide) rfl rfl ?_
    refine gL_X11_keep_12 hK hd hm h (fun I6 h => ?_)
    refine AW.aload_n dX11_keep_42 rfl ?_
    refine AW.dup dX11_keep_43 rfl ?_
    refine AW.getI (fX11_327 hG).r rfl (hm.1 0 _ rfl) dX11_keep_44 ?_
    refine AW.iconst 1 dX11_keep_47 (by decide) ?_
    refine AW.isub dX11_keep_48 ?_
    refine AW.putI (fX11_327 hG) rfl (vp_nar_int _) rfl (hm.1 0 _ rfl) dX11_keep_49 ?_
    obtain ⟨I7, eI7, h⟩ := g_letE h
    refine AW.namIE eI7 ?_
    exact H52 _ h
theorem dX11_cut_0 : decode cX11_cut 0 = .ok (.aload_n 0, 1) := by decide +kernel
theorem dX11_cut_1 : decode cX11_cut 1 = .ok (.iconst 0, 1) := by decide +kernel
theorem dX11_cut_2 : decode cX11_cut 2 = .ok (.putfield 159, 3) := by decide +kernel
theorem dX11_cut_5 : decode cX11_cut 5 = .ok (.aload_n 0, 1) := by decide +kernel
theorem dX11_cut_6 : decode cX11_cut 6 = .ok (.iload_n 1, 1) := by decide +kernel
theorem dX11_cut_7 : decode cX11_cut 7 = .ok (.invokevirtual 389, 3) := by decide +kernel
theorem dX11_cut_10 : decode cX11_cut 10 = .ok (.ifCond .eq 11, 3) := by decide +kernel
theorem dX11_cut_13 : decode cX11_cut 13 = .ok (.aload_n 0, 1) := by decide +kernel
theorem dX11_cut_14 : decode cX11_cut 14 = .ok (.iload_n 2, 1) := by decide +kernel
theorem dX11_cut_15 : decode cX11_cut 15 = .ok (.invokevirtual 392, 3) := by decide +kernel
theorem dX11_cut_18 : decode cX11_cut 18 = .ok (.ifCond .ne 9, 3) := by decide +kernel
theorem dX11_cut_21 : decode cX11_cut 21 = .ok (.aload_n 0, 1) := by decide +kernel
theorem dX11_cut_22 : decode cX11_cut 22 = .ok (.iconst 1, 1) := by decide +kernel
theorem dX11_cut_23 : decode cX11_cut 23 = .ok (.invokevirtual 398, 3) := by decide +kernel
theorem dX11_cut_26 : decode cX11_cut 26 = .ok (.ireturn, 1) := by decide +kernel
theorem dX11_cut_27 : decode cX11_cut 27 = .ok (.aload_n 0, 1) := by decide +kernel
theorem dX11_cut_28 : decode cX11_cut 28 = .ok (.iload_n 1, 1) := by decide +kernel
theorem dX11_cut_29 : decode cX11_cut 29 = .ok (.iload_n 2, 1) := by decide +kernel
theorem dX11_cut_30 : decode cX11_cut 30 = .ok (.invokevirtual 361, 3) := by decide +kernel
theorem dX11_cut_33 : decode cX11_cut 33 = .ok (.ifCond .eq 15, 3) := by decide +kernel
theorem dX11_cut_36 : decode cX11_cut 36 = .ok (.aload_n 0, 1) := by decide +kernel
theorem dX11_cut_37 : decode cX11_cut 37 = .ok (.getfield 73, 3) := by decide +kernel
theorem dX11_cut_40 : decode cX11_cut 40 = .ok (.iconst 1, 1) := by decide +kernel
theorem dX11_cut_41 : decode cX11_cut 41 = .ok (.dup2, 1) := by decide +kernel
theorem dX11_cut_42 : decode cX11_cut 42 = .ok (.iaload, 1) := by decide +kernel
theorem dX11_cut_43 : decode cX11_cut 43 = .ok (.iconst 1, 1) := by decide +kernel
theorem dX11_cut_44 : decode cX11_cut 44 = .ok (.iadd, 1) := by decide +kernel
theorem dX11_cut_45 : decode cX11_cut 45 = .ok (.iastore, 1) := by decide +kernel
theorem dX11_cut_46 : decode cX11_cut 46 = .ok (.iconst 0, 1) := by decide +kernel
theorem dX11_cut_47 : decode cX11_cut 47 = .ok (.ireturn, 1) := by decide +kernel
theorem dX11_cut_48 : decode cX11_cut 48 = .ok (.aload_n 0, 1) := by decide +kernel
theorem dX11_cut_49 : decode cX11_cut 49 = .ok (.invokevirtual 411, 3) := by decide +kernel
theorem dX11_cut_52 : decode cX11_cut 52 = .ok (.aload_n 0, 1) := by decide +kernel
theorem dX11_cut_53 : decode cX11_cut 53 = .ok (.getfield 83, 3) := by decide +kernel
theorem dX11_cut_56 : decode cX11_cut 56 = .ok (.iload_n 2, 1) := by decide +kernel
theorem dX11_cut_57 : decode cX11_cut 57 = .ok (.iload_n 1, 1) := by decide +kernel
theorem dX11_cut_58 : decode cX11_cut 58 = .ok (.iastore, 1) := by decide +kernel
theorem dX11_cut_59 : decode cX11_cut 59 = .ok (.iconst 1, 1) := by decide +kernel
theorem dX11_cut_60 : decode cX11_cut 60 = .ok (.ireturn, 1) := by decide +kernel
def b_X11_cut (I : g_I) (x1 : Int32) (x2 : Int32) : Option (Bool × g_I) :=
  g_let (am_up I 101 2 0) fun I1 => if b_X11_isPerson I1 x1 = true then if b_X11_isLoaf I1 x2 = true then g_bind (b_X11_mayNow I1 x1 x2) fun a5 => if a5 = 0 then g_bind (b_X11_keep I1) fun I9 => if g_in x2 6 = true then g_let (am_up I9 118 x2.toNatClampNeg x1) fun I11 => some (true, I11) else none else g_let (am_up I1 116 1 ((I1 116 1) + 1)) fun I12 => some (false, I12) else g_bind2 (b_X11_failing I1 1) fun t13 I14 => some (t13, I14) else g_bind2 (b_X11_failing I1 1) fun t2 I3 => some (t2, I3)
set_option maxRecDepth 100000 in
set_option maxHeartbeats 4000000 in
theorem g_X11_cut {G : am_G} (hK : k_OK G) {d : Nat} (hd : 5 ≤ d) {sh : List (Nat ⊕ (Nat × Nat))} {I : g_I} {R : Nat → Nat → Option Nat} {L : Nat → Nat → Int64} {g : Nat} (hm : k_Mod sh R) {x1 : Int32} {x2 : Int32} {r : Bool × g_I} (h : b_X11_cut I x1 x2 = some r) : AM G mX11_cut d [.ref 101, .int x1, .int x2] (sh, I, R, L, g) (fun v w => v = some (.int (kb r.1)) ∧ w = (sh, r.2, R, L, g)) (fun _ _ => False) := by
  have hG := hK.1
  refine AM.of (n := 0) (by decide +kernel) (Nat.le_of_ble_eq_true rfl) ?_
  show AW G mX11_cut d (fun v w => v = some (.int (kb r.1)) ∧ w = (sh, r.2, R, L, g)) (fun _ _ => False) 0 [some (.ref 101), some (.int x1), some (.int x2)] [] (sh, I, R, L, g) 0 0
  unfold b_X11_cut at h
  refine AW.aload_n dX11_cut_0 rfl ?_
  refine AW.iconst 0 dX11_cut_1 (by decide) ?_
  refine AW.putI (fX11_159 hG) rfl (vp_nar_int _) rfl (hm.1 0 _ rfl) dX11_cut_2 ?_
  obtain ⟨I1, eI1, h⟩ := g_letE h
  refine AW.namIE eI1 ?_
  refine AW.aload_n dX11_cut_5 rfl ?_
  refine AW.iload_n dX11_cut_6 rfl ?_
  refine AW.callV (b := 101) (As := [.int x1]) hG.2.2 (vX11_389 hG) (hm.1 0 _ rfl) (g_X11_isPerson hK (d := 1) (Nat.le_refl _) hm) (by omega) dX11_cut_7 rfl rfl (Nat.le_of_ble_eq_true rfl) (fun v w9 hq9 h09 => by obtain ⟨rfl, rfl⟩ := hq9; exact ⟨h09, rfl⟩) (by decide) (by decide) (fun _ _ hx => hx) (fun v9 w9 hq9 => ?_)
  obtain ⟨rfl, rfl⟩ := hq9
  show AW G _ d _ _ 10 [some (.ref 101), some (.int x1), some (.int x2)] [.int (kb (b_X11_isPerson I1 x1))] (sh, I1, R, L, g) 0 0
  refine AW.if_eq 21 dX11_cut_10 (by decide) (fun hc10 => ?_) (fun hc10 => ?_)
  · replace h := g_neg (g_kb0 hc10) h
    refine AW.aload_n dX11_cut_21 rfl ?_
    refine AW.iconst 1 dX11_cut_22 (by decide) ?_
    obtain ⟨t2, I3, hx4, h⟩ := g_bind2E h
    refine AW.callV (b := 101) (As := [.int 1]) hG.2.2 (vX11_398 hG) (hm.1 0 _ rfl) (g_X11_failing hK (d := 0) (Nat.le_refl _) hm hx4) (by omega) dX11_cut_23 rfl rfl (Nat.le_of_ble_eq_true rfl) (fun v w9 hq9 h09 => by obtain ⟨rfl, rfl⟩ := hq9; exact ⟨h09, rfl⟩) (by decide) (by decide) (fun _ _ hx => hx) (fun v9 w9 hq9 => ?_)
    obtain ⟨rfl, rfl⟩ := hq9
    show AW G _ d _ _ 26 [some (.ref 101), some (.int x1), some (.int x2)] [.int (kb t2)] (sh, I3, R, L, g) 0 0
    exact AW.zret dX11_cut_26 rfl (kb_nar _) (by decide) (by decide) (by cases h; exact ⟨rfl, rfl⟩)
  · replace h := g_pos (kb_1.mp hc10) h
    refine AW.aload_n dX11_cut_13 rfl ?_
    refine AW.iload_n dX11_cut_14 rfl ?_
    refine AW.callV (b := 101) (As := [.int x2]) hG.2.2 (vX11_392 hG) (hm.1 0 _ rfl) (g_X11_isLoaf hK (d := 1) (Nat.le_refl _) hm) (by omega) dX11_cut_15 rfl rfl (Nat.le_of_ble_eq_true rfl) (fun v w9 hq9 h09 => by obtain ⟨rfl, rfl⟩ := hq9; exact ⟨h09, rfl⟩) (by decide) (by decide) (fun _ _ hx => hx) (fun v9 w9 hq9 => ?_)
    obtain ⟨rfl, rfl⟩ := hq9
    show AW G _ d _ _ 18 [some (.ref 101), some (.int x1), some (.int x2)] [.int (kb (b_X11_isLoaf I1 x2))] (sh, I1, R, L, g) 0 0
    refine AW.if_ne 27 dX11_cut_18 (by decide) (fun hc18 => ?_) (fun hc18 => ?_)
    · replace h := g_pos (kb_1.mp hc18) h
      refine AW.aload_n dX11_cut_27 rfl ?_
      refine AW.iload_n dX11_cut_28 rfl ?_
      refine AW.iload_n dX11_cut_29 rfl ?_
      obtain ⟨a5, hx7, h⟩ := g_bindE h
      refine AW.callV (b := 101) (As := [.int x1, .int x2]) hG.2.2 (vX11_361 hG) (hm.1 0 _ rfl) (g_X11_mayNow hK (d := 4) (Nat.le_refl _) hm hx7) (by omega) dX11_cut_30 rfl rfl (Nat.le_of_ble_eq_true rfl) (fun v w9 hq9 h09 => by obtain ⟨rfl, rfl⟩ := hq9; exact ⟨h09, rfl⟩) (by decide) (by decide) (fun _ _ hx => hx) (fun v9 w9 hq9 => ?_)
      obtain ⟨rfl, rfl⟩ := hq9
      show AW G _ d _ _ 33 [some (.ref 101), some (.int x1), some (.int x2)] [.int a5] (sh, I1, R, L, g) 0 0
      refine AW.if_eq 48 dX11_cut_33 (by decide) (fun hc33 => ?_) (fun hc33 => ?_)
      · replace h := g_pos hc33 h
        refine AW.aload_n dX11_cut_48 rfl ?_
        obtain ⟨I9, hx10, h⟩ := g_bindE h
        refine AW.callV (b := 101) (As := []) hG.2.2 (vX11_411 hG) (hm.1 0 _ rfl) (g_X11_keep hK (d := 1) (Nat.le_refl _) hm hx10) (by omega) dX11_cut_49 rfl rfl (Nat.le_of_ble_eq_true rfl) (fun v w9 hq9 h09 => by obtain ⟨rfl, rfl⟩ := hq9; exact ⟨h09, rfl⟩) (by decide) (by decide) (fun _ _ hx => hx) (fun v9 w9 hq9 => ?_)
        obtain ⟨rfl, rfl⟩ := hq9
        show AW G _ d _ _ 52 [some (.ref 101), some (.int x1), some (.int x2)] [] (sh, I9, R, L, g) 0 0
        refine AW.aload_n dX11_cut_52 rfl ?_
        refine AW.getR (c' := 118) (fX11_83 hG).r rfl (hm.1 0 _ rfl) (hm.2 (0, 27, 17) (by decide)) dX11_cut_53 ?_
        refine AW.iload_n dX11_cut_56 rfl ?_
        refine AW.iload_n dX11_cut_57 rfl ?_
        obtain ⟨hb, h⟩ := g_ifE h
        refine AW.iast (hm.1 17 _ rfl) (g_in_iff.mp hb) dX11_cut_58 ?_
        obtain ⟨I11, eI11, h⟩ := g_letE h
        refine AW.namIE eI11 ?_
        refine AW.iconst 1 dX11_cut_59 (by decide) ?_
        exact AW.zret dX11_cut_60 rfl (by decide) (by decide) (by decide) (by cases h; exact ⟨rfl, rfl⟩)
      · replace h := g_neg hc33 h
        refine AW.aload_n dX11_cut_36 rfl ?_
        refine AW.getR (c' := 116) (fX11_73 hG).r rfl (hm.1 0 _ rfl) (hm.2 (0, 15, 15) (by decide)) dX11_cut_37 ?_
        refine AW.iconst 1 dX11_cut_40 (by decide) ?_
        refine AW.dup2 dX11_cut_41 rfl rfl ?_
        refine AW.iald (hm.1 15 _ rfl) (by unfold vp_in; decide) dX11_cut_42 ?_
        show AW G _ d _ _ 43 [some (.ref 101), some (.int x1), some (.int x2)] [.int (I1 116 1), .int 1, .ref 116] (sh, I1, R, L, g) 0 0
        refine AW.iconst 1 dX11_cut_43 (by decide) ?_
        refine AW.iadd dX11_cut_44 ?_
        refine AW.iast (hm.1 15 _ rfl) (by unfold vp_in; decide) dX11_cut_45 ?_
        show AW G _ d _ _ 46 [some (.ref 101), some (.int x1), some (.int x2)] [] (sh, am_up I1 116 1 ((I1 116 1) + 1), R, L, g) 0 0
        obtain ⟨I12, eI12, h⟩ := g_letE h
        refine AW.namIE eI12 ?_
        refine AW.iconst 0 dX11_cut_46 (by decide) ?_
        exact AW.zret dX11_cut_47 rfl (by decide) (by decide) (by decide) (by cases h; exact ⟨rfl, rfl⟩)
    · replace h := g_neg (g_kb0 hc18) h
      refine AW.aload_n dX11_cut_21 rfl ?_
      refine AW.iconst 1 dX11_cut_22 (by decide) ?_
      obtain ⟨t13, I14, hx15, h⟩ := g_bind2E h
      refine AW.callV (b := 101) (As := [.int 1]) hG.2.2 (vX11_398 hG) (hm.1 0 _ rfl) (g_X11_failing hK (d := 0) (Nat.le_refl _) hm hx15) (by omega) dX11_cut_23 rfl rfl (Nat.le_of_ble_eq_true rfl) (fun v w9 hq9 h09 => by obtain ⟨rfl, rfl⟩ := hq9; exact ⟨h09, rfl⟩) (by decide) (by decide) (fun _ _ hx => hx) (fun v9 w9 hq9 => ?_)
      obtain ⟨rfl, rfl⟩ := hq9
      show AW G _ d _ _ 26 [some (.ref 101), some (.int x1), some (.int x2)] [.int (kb t13)] (sh, I14, R, L, g) 0 0
      exact AW.zret dX11_cut_26 rfl (kb_nar _) (by decide) (by decide) (by cases h; exact ⟨rfl, rfl⟩)
theorem dX11_thank_0 : decode cX11_thank 0 = .ok (.aload_n 0, 1) := by decide +kernel
theorem dX11_thank_1 : decode cX11_thank 1 = .ok (.iconst 0, 1) := by decide +kernel
theorem dX11_thank_2 : decode cX11_thank 2 = .ok (.putfield 159, 3) := by decide +kernel
theorem dX11_thank_5 : decode cX11_thank 5 = .ok (.aload_n 0, 1) := by decide +kernel
theorem dX11_thank_6 : decode cX11_thank 6 = .ok (.iload_n 1, 1) := by decide +kernel
theorem dX11_thank_7 : decode cX11_thank 7 = .ok (.invokevirtual 389, 3) := by decide +kernel
theorem dX11_thank_10 : decode cX11_thank 10 = .ok (.ifCond .eq 11, 3) := by decide +kernel
theorem dX11_thank_13 : decode cX11_thank 13 = .ok (.aload_n 0, 1) := by decide +kernel
theorem dX11_thank_14 : decode cX11_thank 14 = .ok (.iload_n 2, 1) := by decide +kernel
theorem dX11_thank_15 : decode cX11_thank 15 = .ok (.invokevirtual 389, 3) := by decide +kernel
theorem dX11_thank_18 : decode cX11_thank 18 = .ok (.ifCond .ne 9, 3) := by decide +kernel
theorem dX11_thank_21 : decode cX11_thank 21 = .ok (.aload_n 0, 1) := by decide +kernel
theorem dX11_thank_22 : decode cX11_thank 22 = .ok (.iconst 1, 1) := by decide +kernel
theorem dX11_thank_23 : decode cX11_thank 23 = .ok (.invokevirtual 307, 3) := by decide +kernel
theorem dX11_thank_26 : decode cX11_thank 26 = .ok (.ireturn, 1) := by decide +kernel
theorem dX11_thank_27 : decode cX11_thank 27 = .ok (.iload_n 1, 1) := by decide +kernel
theorem dX11_thank_28 : decode cX11_thank 28 = .ok (.iload_n 2, 1) := by decide +kernel
theorem dX11_thank_29 : decode cX11_thank 29 = .ok (.if_icmp .ne 9, 3) := by decide +kernel
theorem dX11_thank_32 : decode cX11_thank 32 = .ok (.aload_n 0, 1) := by decide +kernel
theorem dX11_thank_33 : decode cX11_thank 33 = .ok (.iconst 1, 1) := by decide +kernel
theorem dX11_thank_34 : decode cX11_thank 34 = .ok (.invokevirtual 414, 3) := by decide +kernel
theorem dX11_thank_37 : decode cX11_thank 37 = .ok (.ireturn, 1) := by decide +kernel
theorem dX11_thank_38 : decode cX11_thank 38 = .ok (.aload_n 0, 1) := by decide +kernel
theorem dX11_thank_39 : decode cX11_thank 39 = .ok (.invokevirtual 411, 3) := by decide +kernel
theorem dX11_thank_42 : decode cX11_thank 42 = .ok (.aload_n 0, 1) := by decide +kernel
theorem dX11_thank_43 : decode cX11_thank 43 = .ok (.iload_n 1, 1) := by decide +kernel
theorem dX11_thank_44 : decode cX11_thank 44 = .ok (.iload_n 2, 1) := by decide +kernel
theorem dX11_thank_45 : decode cX11_thank 45 = .ok (.aload_n 0, 1) := by decide +kernel
theorem dX11_thank_46 : decode cX11_thank 46 = .ok (.getfield 321, 3) := by decide +kernel
theorem dX11_thank_49 : decode cX11_thank 49 = .ok (.invokevirtual 417, 3) := by decide +kernel
theorem dX11_thank_52 : decode cX11_thank 52 = .ok (.aload_n 0, 1) := by decide +kernel
theorem dX11_thank_53 : decode cX11_thank 53 = .ok (.getfield 86, 3) := by decide +kernel
theorem dX11_thank_56 : decode cX11_thank 56 = .ok (.iload_n 2, 1) := by decide +kernel
theorem dX11_thank_57 : decode cX11_thank 57 = .ok (.dup2, 1) := by decide +kernel
theorem dX11_thank_58 : decode cX11_thank 58 = .ok (.iaload, 1) := by decide +kernel
theorem dX11_thank_59 : decode cX11_thank 59 = .ok (.iconst 1, 1) := by decide +kernel
theorem dX11_thank_60 : decode cX11_thank 60 = .ok (.iadd, 1) := by decide +kernel
theorem dX11_thank_61 : decode cX11_thank 61 = .ok (.iastore, 1) := by decide +kernel
theorem dX11_thank_62 : decode cX11_thank 62 = .ok (.aload_n 0, 1) := by decide +kernel
theorem dX11_thank_63 : decode cX11_thank 63 = .ok (.getfield 86, 3) := by decide +kernel
theorem dX11_thank_66 : decode cX11_thank 66 = .ok (.iload_n 2, 1) := by decide +kernel
theorem dX11_thank_67 : decode cX11_thank 67 = .ok (.iaload, 1) := by decide +kernel
theorem dX11_thank_68 : decode cX11_thank 68 = .ok (.ireturn, 1) := by decide +kernel
def b_X11_thank (I : g_I) (x1 : Int32) (x2 : Int32) : Option (Int32 × g_I) :=
  g_let (am_up I 101 2 0) fun I1 => if b_X11_isPerson I1 x1 = true then if b_X11_isPerson I1 x2 = true then if x1 = x2 then g_bind2 (b_X11_refuse I1 1) fun a12 I13 => some (a12, I13) else g_bind (b_X11_keep I1) fun I6 => g_bind (b_X11_meet I6 x1 x2 (I6 101 30)) fun I9 => if g_in x2 8 = true then if g_in x2 8 = true then g_let (am_up I9 119 x2.toNatClampNeg ((I9 119 x2.toNatClampNeg) + 1)) fun I11 => if g_in x2 8 = true then some (I11 119 x2.toNatClampNeg, I11) else none else none else none else g_bind2 (b_X11_fail I1 1) fun a15 I16 => some (a15, I16) else g_bind2 (b_X11_fail I1 1) fun a2 I3 => some (a2, I3)
set_option maxRecDepth 100000 in
set_option maxHeartbeats 4000000 in
theorem g_X11_thank {G : am_G} (hK : k_OK G) {d : Nat} (hd : 2 ≤ d) {sh : List (Nat ⊕ (Nat × Nat))} {I : g_I} {R : Nat → Nat → Option Nat} {L : Nat → Nat → Int64} {g : Nat} (hm : k_Mod sh R) {x1 : Int32} {x2 : Int32} {r : Int32 × g_I} (h : b_X11_thank I x1 x2 = some r) : AM G mX11_thank d [.ref 101, .int x1, .int x2] (sh, I, R, L, g) (fun v w => v = some (.int r.1) ∧ w = (sh, r.2, R, L, g)) (fun _ _ => False) := by
  have hG := hK.1
  refine AM.of (n := 0) (by decide +kernel) (Nat.le_of_ble_eq_true rfl) ?_
  show AW G mX11_thank d (fun v w => v = some (.int r.1) ∧ w = (sh, r.2, R, L, g)) (fun _ _ => False) 0 [some (.ref 101), some (.int x1), some (.int x2)] [] (sh, I, R, L, g) 0 0
  unfold b_X11_thank at h
  refine AW.aload_n dX11_thank_0 rfl ?_
  refine AW.iconst 0 dX11_thank_1 (by decide) ?_
  refine AW.putI (fX11_159 hG) rfl (vp_nar_int _) rfl (hm.1 0 _ rfl) dX11_thank_2 ?_
  obtain ⟨I1, eI1, h⟩ := g_letE h
  refine AW.namIE eI1 ?_
  refine AW.aload_n dX11_thank_5 rfl ?_
  refine AW.iload_n dX11_thank_6 rfl ?_
  refine AW.callV (b := 101) (As := [.int x1]) hG.2.2 (vX11_389 hG) (hm.1 0 _ rfl) (g_X11_isPerson hK (d := 1) (Nat.le_refl _) hm) (by omega) dX11_thank_7 rfl rfl (Nat.le_of_ble_eq_true rfl) (fun v w9 hq9 h09 => by obtain ⟨rfl, rfl⟩ := hq9; exact ⟨h09, rfl⟩) (by decide) (by decide) (fun _ _ hx => hx) (fun v9 w9 hq9 => ?_)
  obtain ⟨rfl, rfl⟩ := hq9
  show AW G _ d _ _ 10 [some (.ref 101), some (.int x1), some (.int x2)] [.int (kb (b_X11_isPerson I1 x1))] (sh, I1, R, L, g) 0 0
  refine AW.if_eq 21 dX11_thank_10 (by decide) (fun hc10 => ?_) (fun hc10 => ?_)
  · replace h := g_neg (g_kb0 hc10) h
    refine AW.aload_n dX11_thank_21 rfl ?_
    refine AW.iconst 1 dX11_thank_22 (by decide) ?_
    obtain ⟨a2, I3, hx4, h⟩ := g_bind2E h
    refine AW.callV (b := 101) (As := [.int 1]) hG.2.2 (vX11_307 hG) (hm.1 0 _ rfl) (g_X11_fail hK (d := 0) (Nat.le_refl _) hm hx4) (by omega) dX11_thank_23 rfl rfl (Nat.le_of_ble_eq_true rfl) (fun v w9 hq9 h09 => by obtain ⟨rfl, rfl⟩ := hq9; exact ⟨h09, rfl⟩) (by decide) (by decide) (fun _ _ hx => hx) (fun v9 w9 hq9 => ?_)
    obtain ⟨rfl, rfl⟩ := hq9
    show AW G _ d _ _ 26 [some (.ref 101), some (.int x1), some (.int x2)] [.int a2] (sh, I3, R, L, g) 0 0
    exact AW.iret dX11_thank_26 rfl (by decide) (by decide) (by cases h; exact ⟨rfl, rfl⟩)
  · replace h := g_pos (kb_1.mp hc10) h
    refine AW.aload_n dX11_thank_13 rfl ?_
    refine AW.iload_n dX11_thank_14 rfl ?_
    refine AW.callV (b := 101) (As := [.int x2]) hG.2.2 (vX11_389 hG) (hm.1 0 _ rfl) (g_X11_isPerson hK (d := 1) (Nat.le_refl _) hm) (by omega) dX11_thank_15 rfl rfl (Nat.le_of_ble_eq_true rfl) (fun v w9 hq9 h09 => by obtain ⟨rfl, rfl⟩ := hq9; exact ⟨h09, rfl⟩) (by decide) (by decide) (fun _ _ hx => hx) (fun v9 w9 hq9 => ?_)
    obtain ⟨rfl, rfl⟩ := hq9
    show AW G _ d _ _ 18 [some (.ref 101), some (.int x1), some (.int x2)] [.int (kb (b_X11_isPerson I1 x2))] (sh, I1, R, L, g) 0 0
    refine AW.if_ne 27 dX11_thank_18 (by decide) (fun hc18 => ?_) (fun hc18 => ?_)
    · replace h := g_pos (kb_1.mp hc18) h
      refine AW.iload_n dX11_thank_27 rfl ?_
      refine AW.iload_n dX11_thank_28 rfl ?_
      refine AW.icmp_ne 38 dX11_thank_29 (by decide) (fun hc29 => ?_) (fun hc29 => ?_)
      · replace h := g_neg hc29 h
        refine AW.aload_n dX11_thank_38 rfl ?_
        obtain ⟨I6, hx7, h⟩ := g_bindE h
        refine AW.callV (b := 101) (As := []) hG.2.2 (vX11_411 hG) (hm.1 0 _ rfl) (g_X11_keep hK (d := 1) (Nat.le_refl _) hm hx7) (by omega) dX11_thank_39 rfl rfl (Nat.le_of_ble_eq_true rfl) (fun v w9 hq9 h09 => by obtain ⟨rfl, rfl⟩ := hq9; exact ⟨h09, rfl⟩) (by decide) (by decide) (fun _ _ hx => hx) (fun v9 w9 hq9 => ?_)
        obtain ⟨rfl, rfl⟩ := hq9
        show AW G _ d _ _ 42 [some (.ref 101), some (.int x1), some (.int x2)] [] (sh, I6, R, L, g) 0 0
        refine AW.aload_n dX11_thank_42 rfl ?_
        refine AW.iload_n dX11_thank_43 rfl ?_
        refine AW.iload_n dX11_thank_44 rfl ?_
        refine AW.aload_n dX11_thank_45 rfl ?_
        refine AW.getI (fX11_321 hG).r rfl (hm.1 0 _ rfl) dX11_thank_46 ?_
        obtain ⟨I9, hx10, h⟩ := g_bindE h
        refine AW.callV (b := 101) (As := [.int x1, .int x2, .int (I6 101 30)]) hG.2.2 (vX11_417 hG) (hm.1 0 _ rfl) (g_X11_meet hK (d := 1) (Nat.le_refl _) hm hx10) (by omega) dX11_thank_49 rfl rfl (Nat.le_of_ble_eq_true rfl) (fun v w9 hq9 h09 => by obtain ⟨rfl, rfl⟩ := hq9; exact ⟨h09, rfl⟩) (by decide) (by decide) (fun _ _ hx => hx) (fun v9 w9 hq9 => ?_)
        obtain ⟨rfl, rfl⟩ := hq9
        show AW G _ d _ _ 52 [some (.ref 101), some (.int x1), some (.int x2)] [] (sh, I9, R, L, g) 0 0
        refine AW.aload_n dX11_thank_52 rfl ?_
        refine AW.getR (c' := 119) (fX11_86 hG).r rfl (hm.1 0 _ rfl) (hm.2 (0, 28, 18) (by decide)) dX11_thank_53 ?_
        refine AW.iload_n dX11_thank_56 rfl ?_
        refine AW.dup2 dX11_thank_57 rfl rfl ?_
        obtain ⟨hb, h⟩ := g_ifE h
        refine AW.iald (hm.1 18 _ rfl) (g_in_iff.mp hb) dX11_thank_58 ?_
        refine AW.iconst 1 dX11_thank_59 (by decide) ?_
        refine AW.iadd dX11_thank_60 ?_
        obtain ⟨hb, h⟩ := g_ifE h
        refine AW.iast (hm.1 18 _ rfl) (g_in_iff.mp hb) dX11_thank_61 ?_
        obtain ⟨I11, eI11, h⟩ := g_letE h
        refine AW.namIE eI11 ?_
        refine AW.aload_n dX11_thank_62 rfl ?_
        refine AW.getR (c' := 119) (fX11_86 hG).r rfl (hm.1 0 _ rfl) (hm.2 (0, 28, 18) (by decide)) dX11_thank_63 ?_
        refine AW.iload_n dX11_thank_66 rfl ?_
        obtain ⟨hb, h⟩ := g_ifE h
        refine AW.iald (hm.1 18 _ rfl) (g_in_iff.mp hb) dX11_thank_67 ?_
        exact AW.iret dX11_thank_68 rfl (by decide) (by decide) (by cases h; exact ⟨rfl, rfl⟩)
      · replace h := g_pos hc29 h
        refine AW.aload_n dX11_thank_32 rfl ?_
        refine AW.iconst 1 dX11_thank_33 (by decide) ?_
        obtain ⟨a12, I13, hx14, h⟩ := g_bind2E h
        refine AW.callV (b := 101) (As := [.int 1]) hG.2.2 (vX11_414 hG) (hm.1 0 _ rfl) (g_X11_refuse hK (d := 0) (Nat.le_refl _) hm hx14) (by omega) dX11_thank_34 rfl rfl (Nat.le_of_ble_eq_true rfl) (fun v w9 hq9 h09 => by obtain ⟨rfl, rfl⟩ := hq9; exact ⟨h09, rfl⟩) (by decide) (by decide) (fun _ _ hx => hx) (fun v9 w9 hq9 => ?_)
        obtain ⟨rfl, rfl⟩ := hq9
        show AW G _ d _ _ 37 [some (.ref 101), some (.int x1), some (.int x2)] [.int a12] (sh, I13, R, L, g) 0 0
        exact AW.iret dX11_thank_37 rfl (by decide) (by decide) (by cases h; exact ⟨rfl, rfl⟩)
    · replace h := g_neg (g_kb0 hc18) h
      refine AW.aload_n dX11_thank_21 rfl ?_
      refine AW.iconst 1 dX11_thank_22 (by decide) ?_
      obtain ⟨a15, I16, hx17, h⟩ := g_bind2E h
      refine AW.callV (b := 101) (As := [.int 1]) hG.2.2 (vX11_307 hG) (hm.1 0 _ rfl) (g_X11_fail hK (d := 0) (Nat.le_refl _) hm hx17) (by omega) dX11_thank_23 rfl rfl (Nat.le_of_ble_eq_true rfl) (fun v w9 hq9 h09 => by obtain ⟨rfl, rfl⟩ := hq9; exact ⟨h09, rfl⟩) (by decide) (by decide) (fun _ _ hx => hx) (fun v9 w9 hq9 => ?_)
      obtain ⟨rfl, rfl⟩ := hq9
      show AW G _ d _ _ 26 [some (.ref 101), some (.int x1), some (.int x2)] [.int a15] (sh, I16, R, L, g) 0 0
      exact AW.iret dX11_thank_26 rfl (by decide) (by decide) (by cases h; exact ⟨rfl, rfl⟩)
theorem dX11_fairOf_0 : decode cX11_fairOf 0 = .ok (.iconst 0, 1) := by decide +kernel
theorem dX11_fairOf_1 : decode cX11_fairOf 1 = .ok (.istore_n 2, 1) := by decide +kernel
theorem dX11_fairOf_2 : decode cX11_fairOf 2 = .ok (.iload_n 2, 1) := by decide +kernel
theorem dX11_fairOf_3 : decode cX11_fairOf 3 = .ok (.aload_n 0, 1) := by decide +kernel
theorem dX11_fairOf_4 : decode cX11_fairOf 4 = .ok (.getfield 38, 3) := by decide +kernel
theorem dX11_fairOf_7 : decode cX11_fairOf 7 = .ok (.iconst 0, 1) := by decide +kernel
theorem dX11_fairOf_8 : decode cX11_fairOf 8 = .ok (.iaload, 1) := by decide +kernel
theorem dX11_fairOf_9 : decode cX11_fairOf 9 = .ok (.if_icmp .ge 55, 3) := by decide +kernel
theorem dX11_fairOf_12 : decode cX11_fairOf 12 = .ok (.iload_n 2, 1) := by decide +kernel
theorem dX11_fairOf_13 : decode cX11_fairOf 13 = .ok (.iconst 1, 1) := by decide +kernel
theorem dX11_fairOf_14 : decode cX11_fairOf 14 = .ok (.iadd, 1) := by decide +kernel
theorem dX11_fairOf_15 : decode cX11_fairOf 15 = .ok (.istore_n 3, 1) := by decide +kernel
theorem dX11_fairOf_16 : decode cX11_fairOf 16 = .ok (.iload_n 3, 1) := by decide +kernel
theorem dX11_fairOf_17 : decode cX11_fairOf 17 = .ok (.aload_n 0, 1) := by decide +kernel
theorem dX11_fairOf_18 : decode cX11_fairOf 18 = .ok (.getfield 38, 3) := by decide +kernel
theorem dX11_fairOf_21 : decode cX11_fairOf 21 = .ok (.iconst 0, 1) := by decide +kernel
theorem dX11_fairOf_22 : decode cX11_fairOf 22 = .ok (.iaload, 1) := by decide +kernel
theorem dX11_fairOf_23 : decode cX11_fairOf 23 = .ok (.if_icmp .ge 35, 3) := by decide +kernel
theorem dX11_fairOf_26 : decode cX11_fairOf 26 = .ok (.iload_n 1, 1) := by decide +kernel
theorem dX11_fairOf_27 : decode cX11_fairOf 27 = .ok (.iload_n 2, 1) := by decide +kernel
theorem dX11_fairOf_28 : decode cX11_fairOf 28 = .ok (.invokestatic 278, 3) := by decide +kernel
theorem dX11_fairOf_31 : decode cX11_fairOf 31 = .ok (.ifCond .eq 21, 3) := by decide +kernel
theorem dX11_fairOf_34 : decode cX11_fairOf 34 = .ok (.iload_n 1, 1) := by decide +kernel
theorem dX11_fairOf_35 : decode cX11_fairOf 35 = .ok (.iload_n 3, 1) := by decide +kernel
theorem dX11_fairOf_36 : decode cX11_fairOf 36 = .ok (.invokestatic 278, 3) := by decide +kernel
theorem dX11_fairOf_39 : decode cX11_fairOf 39 = .ok (.ifCond .eq 13, 3) := by decide +kernel
theorem dX11_fairOf_42 : decode cX11_fairOf 42 = .ok (.aload_n 0, 1) := by decide +kernel
theorem dX11_fairOf_43 : decode cX11_fairOf 43 = .ok (.iload_n 2, 1) := by decide +kernel
theorem dX11_fairOf_44 : decode cX11_fairOf 44 = .ok (.iload_n 3, 1) := by decide +kernel
theorem dX11_fairOf_45 : decode cX11_fairOf 45 = .ok (.aload_n 0, 1) := by decide +kernel
theorem dX11_fairOf_46 : decode cX11_fairOf 46 = .ok (.getfield 321, 3) := by decide +kernel
theorem dX11_fairOf_49 : decode cX11_fairOf 49 = .ok (.invokevirtual 417, 3) := by decide +kernel
theorem dX11_fairOf_52 : decode cX11_fairOf 52 = .ok (.iinc 3 1, 3) := by decide +kernel
theorem dX11_fairOf_55 : decode cX11_fairOf 55 = .ok (.goto (-39), 3) := by decide +kernel
theorem dX11_fairOf_58 : decode cX11_fairOf 58 = .ok (.iinc 2 1, 3) := by decide +kernel
theorem dX11_fairOf_61 : decode cX11_fairOf 61 = .ok (.goto (-59), 3) := by decide +kernel
theorem dX11_fairOf_64 : decode cX11_fairOf 64 = .ok (.return_, 1) := by decide +kernel
def b_X11_fairOf_L16 (y1 : Int32) (y2 : Int32) (K : g_I → Option (g_I)) : Nat → Int32 → g_I → Option (g_I)
  | 0, _, _ => none
  | f + 1, x3, I => if (I 104 0) ≤ x3 then K I else if b_X11_isOf y1 y2 = true then if b_X11_isOf y1 x3 = true then g_bind (b_X11_meet I y2 x3 (I 101 30)) fun I3 => b_X11_fairOf_L16 y1 y2 K f (x3 + 1) I3 else b_X11_fairOf_L16 y1 y2 K f (x3 + 1) I else b_X11_fairOf_L16 y1 y2 K f (x3 + 1) I
def b_X11_fairOf_L2 (y1 : Int32) (K : g_I → Option (g_I)) : Nat → Int32 → g_I → Option (g_I)
  | 0, _, _ => none
  | f + 1, x2, I => if (I 104 0) ≤ x2 then K I else g_let (x2 + 1) fun a1 => b_X11_fairOf_L16 y1 x2 (fun (I5 : g_I) => b_X11_fairOf_L2 y1 K f (x2 + 1) I5) fu a1 I
def b_X11_fairOf (I : g_I) (x1 : Int32) : Option (g_I) :=
  b_X11_fairOf_L2 x1 (fun (I6 : g_I) => some I6) fu 0 I
set_option maxRecDepth 100000 in
set_option maxHeartbeats 4000000 in
theorem gL_X11_fairOf_16 {G : am_G} (hK : k_OK G) {d : Nat} (hd : 2 ≤ d) {sh : List (Nat ⊕ (Nat × Nat))} {I : g_I} {R : Nat → Nat → Option Nat} {L : Nat → Nat → Int64} {g : Nat} (hm : k_Mod sh R) {y1 : Int32} {y2 : Int32} {K : g_I → Option (g_I)} {x3 : Int32} {f : Nat} {r : g_I} (h : b_X11_fairOf_L16 y1 y2 K f x3 I = some r) (hk : ∀ (J : g_I), K J = some r → AW G mX11_fairOf d (fun v w => v = none ∧ w = (sh, r, R, L, g)) (fun _ _ => False) 58 [some (.ref 101), some (.int y1), some (.int y2), none] [] (sh, J, R, L, g) 0 0) : AW G mX11_fairOf d (fun v w => v = none ∧ w = (sh, r, R, L, g)) (fun _ _ => False) 16 [some (.ref 101), some (.int y1), some (.int y2), some (.int x3)] [] (sh, I, R, L, g) 0 0 := by
  have hG := hK.1
  induction f generalizing x3 I with
  | zero => rw [b_X11_fairOf_L16] at h; cases h
  | succ f ih =>
    rw [b_X11_fairOf_L16] at h
    refine AW.iload_n dX11_fairOf_16 rfl ?_
    refine AW.aload_n dX11_fairOf_17 rfl ?_
    refine AW.getR (c' := 104) (fX11_38 hG).r rfl (hm.1 0 _ rfl) (hm.2 (0, 3, 3) (by decide)) dX11_fairOf_18 ?_
    refine AW.iconst 0 dX11_fairOf_21 (by decide) ?_
    refine AW.iald (hm.1 3 _ rfl) (by unfold vp_in; decide) dX11_fairOf_22 ?_
    show AW G _ d _ _ 23 [some (.ref 101), some (.int y1), some (.int y2), some (.int x3)] [.int (I 104 0), .int x3] (sh, I, R, L, g) 0 0
    refine AW.icmp_ge 58 dX11_fairOf_23 (by decide) (fun hc23 => ?_) (fun hc23 => ?_)
    · replace h := g_pos hc23 h
      refine AW.mask [3] [some (.ref 101), some (.int y1), some (.int y2), none] rfl ?_
      exact hk _ h
    · replace h := g_neg hc23 h
      refine AW.iload_n dX11_fairOf_26 rfl ?_
      refine AW.iload_n dX11_fairOf_27 rfl ?_
      refine AW.callS (As := [.int y1, .int y2]) hG.2.2 (vX11_278 hG) (g_X11_isOf hK (d := 0) (Nat.le_refl _)) (by omega) dX11_fairOf_28 rfl rfl (Nat.le_of_ble_eq_true rfl) (fun v w9 hq9 h09 => by obtain ⟨rfl, rfl⟩ := hq9; exact ⟨h09, rfl⟩) (by decide) (by decide) (fun _ _ hx => hx) (fun v9 w9 hq9 => ?_)
      obtain ⟨rfl, rfl⟩ := hq9
      show AW G _ d _ _ 31 [some (.ref 101), some (.int y1), some (.int y2), some (.int x3)] [.int (kb (b_X11_isOf y1 y2))] (sh, I, R, L, g) 0 0
      refine AW.if_eq 52 dX11_fairOf_31 (by decide) (fun hc31 => ?_) (fun hc31 => ?_)
      · replace h := g_neg (g_kb0 hc31) h
        refine AW.incE 1 (by decide) [some (.ref 101), some (.int y1), some (.int y2), some (.int (x3 + 1))] dX11_fairOf_52 rfl (by decide) rfl rfl ?_
        refine AW.goto 16 dX11_fairOf_55 (by decide) ?_
        exact ih h
      · replace h := g_pos (kb_1.mp hc31) h
        refine AW.iload_n dX11_fairOf_34 rfl ?_
        refine AW.iload_n dX11_fairOf_35 rfl ?_
        refine AW.callS (As := [.int y1, .int x3]) hG.2.2 (vX11_278 hG) (g_X11_isOf hK (d := 0) (Nat.le_refl _)) (by omega) dX11_fairOf_36 rfl rfl (Nat.le_of_ble_eq_true rfl) (fun v w9 hq9 h09 => by obtain ⟨rfl, rfl⟩ := hq9; exact ⟨h09, rfl⟩) (by decide) (by decide) (fun _ _ hx => hx) (fun v9 w9 hq9 => ?_)
        obtain ⟨rfl, rfl⟩ := hq9
        show AW G _ d _ _ 39 [some (.ref 101), some (.int y1), some (.int y2), some (.int x3)] [.int (kb (b_X11_isOf y1 x3))] (sh, I, R, L, g) 0 0
        refine AW.if_eq 52 dX11_fairOf_39 (by decide) (fun hc39 => ?_) (fun hc39 => ?_)
        · replace h := g_neg (g_kb0 hc39) h
          refine AW.incE 1 (by decide) [some (.ref 101), some (.int y1), some (.int y2), some (.int (x3 + 1))] dX11_fairOf_52 rfl (by decide) rfl rfl ?_
          refine AW.goto 16 dX11_fairOf_55 (by decide) ?_
          exact ih h
        · replace h := g_pos (kb_1.mp hc39) h
          refine AW.aload_n dX11_fairOf_42 rfl ?_
          refine AW.iload_n dX11_fairOf_43 rfl ?_
          refine AW.iload_n dX11_fairOf_44 rfl ?_
          refine AW.aload_n dX11_fairOf_45 rfl ?_
          refine AW.getI (fX11_321 hG).r rfl (hm.1 0 _ rfl) dX11_fairOf_46 ?_
          obtain ⟨I3, hx4, h⟩ := g_bindE h
          refine AW.callV (b := 101) (As := [.int y2, .int x3, .int (I 101 30)]) hG.2.2 (vX11_417 hG) (hm.1 0 _ rfl) (g_X11_meet hK (d := 1) (Nat.le_refl _) hm hx4) (by omega) dX11_fairOf_49 rfl rfl (Nat.le_of_ble_eq_true rfl) (fun v w9 hq9 h09 => by obtain ⟨rfl, rfl⟩ := hq9; exact ⟨h09, rfl⟩) (by decide) (by decide) (fun _ _ hx => hx) (fun v9 w9 hq9 => ?_)
          obtain ⟨rfl, rfl⟩ := hq9
          show AW G _ d _ _ 52 [some (.ref 101), some (.int y1), some (.int y2), some (.int x3)] [] (sh, I3, R, L, g) 0 0
          refine AW.incE 1 (by decide) [some (.ref 101), some (.int y1), some (.int y2), some (.int (x3 + 1))] dX11_fairOf_52 rfl (by decide) rfl rfl ?_
          refine AW.goto 16 dX11_fairOf_55 (by decide) ?_
          exact ih h
set_option maxRecDepth 100000 in
set_option maxHeartbeats 4000000 in
theorem gL_X11_fairOf_2 {G : am_G} (hK : k_OK G) {d : Nat} (hd : 2 ≤ d) {sh : List (Nat ⊕ (Nat × Nat))} {I : g_I} {R : Nat → Nat → Option Nat} {L : Nat → Nat → Int64} {g : Nat} (hm : k_Mod sh R) {y1 : Int32} {K : g_I → Option (g_I)} {x2 : Int32} {f : Nat} {r : g_I} (h : b_X11_fairOf_L2 y1 K f x2 I = some r) (hk : ∀ (J : g_I), K J = some r → AW G mX11_fairOf d (fun v w => v = none ∧ w = (sh, r, R, L, g)) (fun _ _ => False) 64 [none, none, none, none] [] (sh, J, R, L, g) 0 0) : AW G mX11_fairOf d (fun v w => v = none ∧ w = (sh, r, R, L, g)) (fun _ _ => False) 2 [some (.ref 101), some (.int y1), some (.int x2), none] [] (sh, I, R, L, g) 0 0 := by
  have hG := hK.1
  induction f generalizing x2 I with
  | zero => rw [b_X11_fairOf_L2] at h; cases h
  | succ f ih =>
    rw [b_X11_fairOf_L2] at h
    refine AW.iload_n dX11_fairOf_2 rfl ?_
    refine AW.aload_n dX11_fairOf_3 rfl ?_
    refine AW.getR (c' := 104) (fX11_38 hG).r rfl (hm.1 0 _ rfl) (hm.2 (0, 3, 3) (by decide)) dX11_fairOf_4 ?_
    refine AW.iconst 0 dX11_fairOf_7 (by decide) ?_
    refine AW.iald (hm.1 3 _ rfl) (by unfold vp_in; decide) dX11_fairOf_8 ?_
    show AW G _ d _ _ 9 [some (.ref 101), some (.int y1), some (.int x2), none] [.int (I 104 0), .int x2] (sh, I, R, L, g) 0 0
    refine AW.icmp_ge 64 dX11_fairOf_9 (by decide) (fun hc9 => ?_) (fun hc9 => ?_)
    · replace h := g_pos hc9 h
      refine AW.mask [0, 1, 2] [none, none, none, none] rfl ?_
      exact hk _ h
    · replace h := g_neg hc9 h
      refine AW.iload_n dX11_fairOf_12 rfl ?_
      refine AW.iconst 1 dX11_fairOf_13 (by decide) ?_
      refine AW.iadd dX11_fairOf_14 ?_
      obtain ⟨a1, ea1, h⟩ := g_letE h
      refine AW.namE ea1 ?_
      refine AW.is_n [some (.ref 101), some (.int y1), some (.int x2), some (.int a1)] dX11_fairOf_15 (by decide) rfl rfl ?_
      refine gL_X11_fairOf_16 hK hd hm h (fun I5 h => ?_)
      refine AW.incE 1 (by decide) [some (.ref 101), some (.int y1), some (.int (x2 + 1)), none] dX11_fairOf_58 rfl (by decide) rfl rfl ?_
      refine AW.goto 2 dX11_fairOf_61 (by decide) ?_
      exact ih h
set_option maxRecDepth 100000 in
set_option maxHeartbeats 4000000 in
theorem g_X11_fairOf {G : am_G} (hK : k_OK G) {d : Nat} (hd : 2 ≤ d) {sh : List (Nat ⊕ (Nat × Nat))} {I : g_I} {R : Nat → Nat → Option Nat} {L : Nat → Nat → Int64} {g : Nat} (hm : k_Mod sh R) {x1 : Int32} {r : g_I} (h : b_X11_fairOf I x1 = some r) : AM G mX11_fairOf d [.ref 101, .int x1] (sh, I, R, L, g) (fun v w => v = none ∧ w = (sh, r, R, L, g)) (fun _ _ => False) := by
  have hG := hK.1
  refine AM.of (n := 2) (by decide +kernel) (Nat.le_of_ble_eq_true rfl) ?_
  show AW G mX11_fairOf d (fun v w => v = none ∧ w = (sh, r, R, L, g)) (fun _ _ => False) 0 [some (.ref 101), some (.int x1), none, none] [] (sh, I, R, L, g) 0 0
  unfold b_X11_fairOf at h
  refine AW.iconst 0 dX11_fairOf_0 (by decide) ?_
  refine AW.is_n [some (.ref 101), some (.int x1), some (.int 0), none] dX11_fairOf_1 (by decide) rfl rfl ?_
  refine gL_X11_fairOf_2 hK hd hm h (fun I6 h => ?_)
  exact AW.vret dX11_fairOf_64 rfl (by decide) (by decide) (by cases h; exact ⟨rfl, rfl⟩)
theorem dX11_fair_0 : decode cX11_fair 0 = .ok (.aload_n 0, 1) := by decide +kernel
theorem dX11_fair_1 : decode cX11_fair 1 = .ok (.iconst 0, 1) := by decide +kernel
theorem dX11_fair_2 : decode cX11_fair 2 = .ok (.putfield 159, 3) := by decide +kernel
theorem dX11_fair_5 : decode cX11_fair 5 = .ok (.iload_n 1, 1) := by decide +kernel
theorem dX11_fair_6 : decode cX11_fair 6 = .ok (.i2l, 1) := by decide +kernel
theorem dX11_fair_7 : decode cX11_fair 7 = .ok (.lconst 0, 1) := by decide +kernel
theorem dX11_fair_8 : decode cX11_fair 8 = .ok (.iconst 1, 1) := by decide +kernel
theorem dX11_fair_9 : decode cX11_fair 9 = .ok (.aload_n 0, 1) := by decide +kernel
theorem dX11_fair_10 : decode cX11_fair 10 = .ok (.getfield 38, 3) := by decide +kernel
theorem dX11_fair_13 : decode cX11_fair 13 = .ok (.iconst 0, 1) := by decide +kernel
theorem dX11_fair_14 : decode cX11_fair 14 = .ok (.iaload, 1) := by decide +kernel
theorem dX11_fair_15 : decode cX11_fair 15 = .ok (.ishl, 1) := by decide +kernel
theorem dX11_fair_16 : decode cX11_fair 16 = .ok (.iconst 1, 1) := by decide +kernel
theorem dX11_fair_17 : decode cX11_fair 17 = .ok (.isub, 1) := by decide +kernel
theorem dX11_fair_18 : decode cX11_fair 18 = .ok (.i2l, 1) := by decide +kernel
theorem dX11_fair_19 : decode cX11_fair 19 = .ok (.invokestatic 162, 3) := by decide +kernel
theorem dX11_fair_22 : decode cX11_fair 22 = .ok (.ifCond .eq 11, 3) := by decide +kernel
theorem dX11_fair_25 : decode cX11_fair 25 = .ok (.iload_n 1, 1) := by decide +kernel
theorem dX11_fair_26 : decode cX11_fair 26 = .ok (.invokestatic 421, 3) := by decide +kernel
theorem dX11_fair_29 : decode cX11_fair 29 = .ok (.iconst 2, 1) := by decide +kernel
theorem dX11_fair_30 : decode cX11_fair 30 = .ok (.if_icmp .ge 9, 3) := by decide +kernel
theorem dX11_fair_33 : decode cX11_fair 33 = .ok (.aload_n 0, 1) := by decide +kernel
theorem dX11_fair_34 : decode cX11_fair 34 = .ok (.iconst 1, 1) := by decide +kernel
theorem dX11_fair_35 : decode cX11_fair 35 = .ok (.invokevirtual 414, 3) := by decide +kernel
theorem dX11_fair_38 : decode cX11_fair 38 = .ok (.ireturn, 1) := by decide +kernel
theorem dX11_fair_39 : decode cX11_fair 39 = .ok (.aload_n 0, 1) := by decide +kernel
theorem dX11_fair_40 : decode cX11_fair 40 = .ok (.invokevirtual 411, 3) := by decide +kernel
theorem dX11_fair_43 : decode cX11_fair 43 = .ok (.aload_n 0, 1) := by decide +kernel
theorem dX11_fair_44 : decode cX11_fair 44 = .ok (.iload_n 1, 1) := by decide +kernel
theorem dX11_fair_45 : decode cX11_fair 45 = .ok (.invokevirtual 424, 3) := by decide +kernel
theorem dX11_fair_48 : decode cX11_fair 48 = .ok (.iload_n 1, 1) := by decide +kernel
theorem dX11_fair_49 : decode cX11_fair 49 = .ok (.invokestatic 421, 3) := by decide +kernel
theorem dX11_fair_52 : decode cX11_fair 52 = .ok (.ireturn, 1) := by decide +kernel
def b_X11_fair (I : g_I) (x1 : Int32) : Option (Int32 × g_I) :=
  g_let (am_up I 101 2 0) fun I1 => if b_X11_isIn (x1.toInt64) 0 ((((1 : Int32) <<< ((I1 104 0) &&& 31)) - 1).toInt64) = true then g_bind (b_X11_bitsOf x1) fun a5 => if 2 ≤ a5 then g_bind (b_X11_keep I1) fun I9 => g_bind (b_X11_fairOf I9 x1) fun I12 => g_bind (b_X11_bitsOf x1) fun a14 => some (a14, I12) else g_bind2 (b_X11_refuse I1 1) fun a17 I18 => some (a17, I18) else g_bind2 (b_X11_refuse I1 1) fun a2 I3 => some (a2, I3)
set_option maxRecDepth 100000 in
set_option maxHeartbeats 4000000 in
theorem g_X11_fair {G : am_G} (hK : k_OK G) {d : Nat} (hd : 3 ≤ d) {sh : List (Nat ⊕ (Nat × Nat))} {I : g_I} {R : Nat → Nat → Option Nat} {L : Nat → Nat → Int64} {g : Nat} (hm : k_Mod sh R) {x1 : Int32} {r : Int32 × g_I} (h : b_X11_fair I x1 = some r) : AM G mX11_fair d [.ref 101, .int x1] (sh, I, R, L, g) (fun v w => v = some (.int r.1) ∧ w = (sh, r.2, R, L, g)) (fun _ _ => False) := by
  have hG := hK.1
  refine AM.of (n := 0) (by decide +kernel) (Nat.le_of_ble_eq_true rfl) ?_
  show AW G mX11_fair d (fun v w => v = some (.int r.1) ∧ w = (sh, r.2, R, L, g)) (fun _ _ => False) 0 [some (.ref 101), some (.int x1)] [] (sh, I, R, L, g) 0 0
  unfold b_X11_fair at h
  refine AW.aload_n dX11_fair_0 rfl ?_
  refine AW.iconst 0 dX11_fair_1 (by decide) ?_
  refine AW.putI (fX11_159 hG) rfl (vp_nar_int _) rfl (hm.1 0 _ rfl) dX11_fair_2 ?_
  obtain ⟨I1, eI1, h⟩ := g_letE h
  refine AW.namIE eI1 ?_
  refine AW.iload_n dX11_fair_5 rfl ?_
  refine AW.i2l dX11_fair_6 ?_
  refine AW.lconst 0 dX11_fair_7 (by decide) ?_
  refine AW.iconst 1 dX11_fair_8 (by decide) ?_
  refine AW.aload_n dX11_fair_9 rfl ?_
  refine AW.getR (c' := 104) (fX11_38 hG).r rfl (hm.1 0 _ rfl) (hm.2 (0, 3, 3) (by decide)) dX11_fair_10 ?_
  refine AW.iconst 0 dX11_fair_13 (by decide) ?_
  refine AW.iald (hm.1 3 _ rfl) (by unfold vp_in; decide) dX11_fair_14 ?_
  show AW G _ d _ _ 15 [some (.ref 101), some (.int x1)] [.int (I1 104 0), .int 1, .long 0, .long (x1.toInt64)] (sh, I1, R, L, g) 0 0
  refine AW.ishl dX11_fair_15 ?_
  refine AW.iconst 1 dX11_fair_16 (by decide) ?_
  refine AW.isub dX11_fair_17 ?_
  refine AW.i2l dX11_fair_18 ?_
  refine AW.callS (As := [.long (x1.toInt64), .long 0, .long ((((1 : Int32) <<< ((I1 104 0) &&& 31)) - 1).toInt64)]) hG.2.2 (vX11_162 hG) (g_X11_isIn hK (d := 0) (Nat.le_refl _) (x1.toInt64) 0 ((((1 : Int32) <<< ((I1 104 0) &&& 31)) - 1).toInt64)) (by omega) dX11_fair_19 rfl rfl (Nat.le_of_ble_eq_true rfl) (fun v w9 hq9 h09 => by obtain ⟨rfl, rfl⟩ := hq9; exact ⟨h09, rfl⟩) (by decide) (by decide) (fun _ _ hx => hx) (fun v9 w9 hq9 => ?_)
  obtain ⟨rfl, rfl⟩ := hq9
  show AW G _ d _ _ 22 [some (.ref 101), some (.int x1)] [.int (kb (b_X11_isIn (x1.toInt64) 0 ((((1 : Int32) <<< ((I1 104 0) &&& 31)) - 1).toInt64)))] (sh, I1, R, L, g) 0 0
  refine AW.if_eq 33 dX11_fair_22 (by decide) (fun hc22 => ?_) (fun hc22 => ?_)
  · replace h := g_neg (g_kb0 hc22) h
    refine AW.aload_n dX11_fair_33 rfl ?_
    refine AW.iconst 1 dX11_fair_34 (by decide) ?_
    obtain ⟨a2, I3, hx4, h⟩ := g_bind2E h
    refine AW.callV (b := 101) (As := [.int 1]) hG.2.2 (vX11_414 hG) (hm.1 0 _ rfl) (g_X11_refuse hK (d := 0) (Nat.le_refl _) hm hx4) (by omega) dX11_fair_35 rfl rfl (Nat.le_of_ble_eq_true rfl) (fun v w9 hq9 h09 => by obtain ⟨rfl, rfl⟩ := hq9; exact ⟨h09, rfl⟩) (by decide) (by decide) (fun _ _ hx => hx) (fun v9 w9 hq9 => ?_)
    obtain ⟨rfl, rfl⟩ := hq9
    show AW G _ d _ _ 38 [some (.ref 101), some (.int x1)] [.int a2] (sh, I3, R, L, g) 0 0
    exact AW.iret dX11_fair_38 rfl (by decide) (by decide) (by cases h; exact ⟨rfl, rfl⟩)
  · replace h := g_pos (kb_1.mp hc22) h
    refine AW.iload_n dX11_fair_25 rfl ?_
    obtain ⟨a5, hx7, h⟩ := g_bindE h
    refine AW.callS (As := [.int x1]) hG.2.2 (vX11_421 hG) (g_X11_bitsOf hK (d := 0) (Nat.le_refl _) hx7) (by omega) dX11_fair_26 rfl rfl (Nat.le_of_ble_eq_true rfl) (fun v w9 hq9 h09 => by obtain ⟨rfl, rfl⟩ := hq9; exact ⟨h09, rfl⟩) (by decide) (by decide) (fun _ _ hx => hx) (fun v9 w9 hq9 => ?_)
    obtain ⟨rfl, rfl⟩ := hq9
    show AW G _ d _ _ 29 [some (.ref 101), some (.int x1)] [.int a5] (sh, I1, R, L, g) 0 0
    refine AW.iconst 2 dX11_fair_29 (by decide) ?_
    refine AW.icmp_ge 39 dX11_fair_30 (by decide) (fun hc30 => ?_) (fun hc30 => ?_)
    · replace h := g_pos hc30 h
      refine AW.aload_n dX11_fair_39 rfl ?_
      obtain ⟨I9, hx10, h⟩ := g_bindE h
      refine AW.callV (b := 101) (As := []) hG.2.2 (vX11_411 hG) (hm.1 0 _ rfl) (g_X11_keep hK (d := 1) (Nat.le_refl _) hm hx10) (by omega) dX11_fair_40 rfl rfl (Nat.le_of_ble_eq_true rfl) (fun v w9 hq9 h09 => by obtain ⟨rfl, rfl⟩ := hq9; exact ⟨h09, rfl⟩) (by decide) (by decide) (fun _ _ hx => hx) (fun v9 w9 hq9 => ?_)
      obtain ⟨rfl, rfl⟩ := hq9
      show AW G _ d _ _ 43 [some (.ref 101), some (.int x1)] [] (sh, I9, R, L, g) 0 0
      refine AW.aload_n dX11_fair_43 rfl ?_
      refine AW.iload_n dX11_fair_44 rfl ?_
      obtain ⟨I12, hx13, h⟩ := g_bindE h
      refine AW.callV (b := 101) (As := [.int x1]) hG.2.2 (vX11_424 hG) (hm.1 0 _ rfl) (g_X11_fairOf hK (d := 2) (Nat.le_refl _) hm hx13) (by omega) dX11_fair_45 rfl rfl (Nat.le_of_ble_eq_true rfl) (fun v w9 hq9 h09 => by obtain ⟨rfl, rfl⟩ := hq9; exact ⟨h09, rfl⟩) (by decide) (by decide) (fun _ _ hx => hx) (fun v9 w9 hq9 => ?_)
      obtain ⟨rfl, rfl⟩ := hq9
      show AW G _ d _ _ 48 [some (.ref 101), some (.int x1)] [] (sh, I12, R, L, g) 0 0
      refine AW.iload_n dX11_fair_48 rfl ?_
      obtain ⟨a14, hx16, h⟩ := g_bindE h
      refine AW.callS (As := [.int x1]) hG.2.2 (vX11_421 hG) (g_X11_bitsOf hK (d := 0) (Nat.le_refl _) hx16) (by omega) dX11_fair_49 rfl rfl (Nat.le_of_ble_eq_true rfl) (fun v w9 hq9 h09 => by obtain ⟨rfl, rfl⟩ := hq9; exact ⟨h09, rfl⟩) (by decide) (by decide) (fun _ _ hx => hx) (fun v9 w9 hq9 => ?_)
      obtain ⟨rfl, rfl⟩ := hq9
      show AW G _ d _ _ 52 [some (.ref 101), some (.int x1)] [.int a14] (sh, I12, R, L, g) 0 0
      exact AW.iret dX11_fair_52 rfl (by decide) (by decide) (by cases h; exact ⟨rfl, rfl⟩)
    · replace h := g_neg hc30 h
      refine AW.aload_n dX11_fair_33 rfl ?_
      refine AW.iconst 1 dX11_fair_34 (by decide) ?_
      obtain ⟨a17, I18, hx19, h⟩ := g_bind2E h
      refine AW.callV (b := 101) (As := [.int 1]) hG.2.2 (vX11_414 hG) (hm.1 0 _ rfl) (g_X11_refuse hK (d := 0) (Nat.le_refl _) hm hx19) (by omega) dX11_fair_35 rfl rfl (Nat.le_of_ble_eq_true rfl) (fun v w9 hq9 h09 => by obtain ⟨rfl, rfl⟩ := hq9; exact ⟨h09, rfl⟩) (by decide) (by decide) (fun _ _ hx => hx) (fun v9 w9 hq9 => ?_)
      obtain ⟨rfl, rfl⟩ := hq9
      show AW G _ d _ _ 38 [some (.ref 101), some (.int x1)] [.int a17] (sh, I18, R, L, g) 0 0
      exact AW.iret dX11_fair_38 rfl (by decide) (by decide) (by cases h; exact ⟨rfl, rfl⟩)
theorem dX11_hours_0 : decode cX11_hours 0 = .ok (.aload_n 0, 1) := by decide +kernel
theorem dX11_hours_1 : decode cX11_hours 1 = .ok (.iconst 0, 1) := by decide +kernel
theorem dX11_hours_2 : decode cX11_hours 2 = .ok (.putfield 159, 3) := by decide +kernel
theorem dX11_hours_5 : decode cX11_hours 5 = .ok (.iload_n 1, 1) := by decide +kernel
theorem dX11_hours_6 : decode cX11_hours 6 = .ok (.i2l, 1) := by decide +kernel
theorem dX11_hours_7 : decode cX11_hours 7 = .ok (.lconst 1, 1) := by decide +kernel
theorem dX11_hours_8 : decode cX11_hours 8 = .ok (.ldc2_w 427, 3) := by decide +kernel
theorem dX11_hours_11 : decode cX11_hours 11 = .ok (.invokestatic 162, 3) := by decide +kernel
theorem dX11_hours_14 : decode cX11_hours 14 = .ok (.ifCond .eq 23, 3) := by decide +kernel
theorem dX11_hours_17 : decode cX11_hours 17 = .ok (.aload_n 0, 1) := by decide +kernel
theorem dX11_hours_18 : decode cX11_hours 18 = .ok (.getfield 321, 3) := by decide +kernel
theorem dX11_hours_21 : decode cX11_hours 21 = .ok (.aload_n 0, 1) := by decide +kernel
theorem dX11_hours_22 : decode cX11_hours 22 = .ok (.getfield 324, 3) := by decide +kernel
theorem dX11_hours_25 : decode cX11_hours 25 = .ok (.iload_n 1, 1) := by decide +kernel
theorem dX11_hours_26 : decode cX11_hours 26 = .ok (.iadd, 1) := by decide +kernel
theorem dX11_hours_27 : decode cX11_hours 27 = .ok (.bipush 24, 2) := by decide +kernel
theorem dX11_hours_29 : decode cX11_hours 29 = .ok (.idiv, 1) := by decide +kernel
theorem dX11_hours_30 : decode cX11_hours 30 = .ok (.iadd, 1) := by decide +kernel
theorem dX11_hours_31 : decode cX11_hours 31 = .ok (.sipush 999, 3) := by decide +kernel
theorem dX11_hours_34 : decode cX11_hours 34 = .ok (.if_icmp .le 9, 3) := by decide +kernel
theorem dX11_hours_37 : decode cX11_hours 37 = .ok (.aload_n 0, 1) := by decide +kernel
theorem dX11_hours_38 : decode cX11_hours 38 = .ok (.iconst 1, 1) := by decide +kernel
theorem dX11_hours_39 : decode cX11_hours 39 = .ok (.invokevirtual 414, 3) := by decide +kernel
theorem dX11_hours_42 : decode cX11_hours 42 = .ok (.ireturn, 1) := by decide +kernel
theorem dX11_hours_43 : decode cX11_hours 43 = .ok (.aload_n 0, 1) := by decide +kernel
theorem dX11_hours_44 : decode cX11_hours 44 = .ok (.invokevirtual 411, 3) := by decide +kernel
theorem dX11_hours_47 : decode cX11_hours 47 = .ok (.aload_n 0, 1) := by decide +kernel
theorem dX11_hours_48 : decode cX11_hours 48 = .ok (.dup, 1) := by decide +kernel
theorem dX11_hours_49 : decode cX11_hours 49 = .ok (.getfield 321, 3) := by decide +kernel
theorem dX11_hours_52 : decode cX11_hours 52 = .ok (.aload_n 0, 1) := by decide +kernel
theorem dX11_hours_53 : decode cX11_hours 53 = .ok (.getfield 324, 3) := by decide +kernel
theorem dX11_hours_56 : decode cX11_hours 56 = .ok (.iload_n 1, 1) := by decide +kernel
theorem dX11_hours_57 : decode cX11_hours 57 = .ok (.iadd, 1) := by decide +kernel
theorem dX11_hours_58 : decode cX11_hours 58 = .ok (.bipush 24, 2) := by decide +kernel
theorem dX11_hours_60 : decode cX11_hours 60 = .ok (.idiv, 1) := by decide +kernel
theorem dX11_hours_61 : decode cX11_hours 61 = .ok (.iadd, 1) := by decide +kernel
theorem dX11_hours_62 : decode cX11_hours 62 = .ok (.putfield 321, 3) := by decide +kernel
theorem dX11_hours_65 : decode cX11_hours 65 = .ok (.aload_n 0, 1) := by decide +kernel
theorem dX11_hours_66 : decode cX11_hours 66 = .ok (.aload_n 0, 1) := by decide +kernel
theorem dX11_hours_67 : decode cX11_hours 67 = .ok (.getfield 324, 3) := by decide +kernel
theorem dX11_hours_70 : decode cX11_hours 70 = .ok (.iload_n 1, 1) := by decide +kernel
theorem dX11_hours_71 : decode cX11_hours 71 = .ok (.iadd, 1) := by decide +kernel
theorem dX11_hours_72 : decode cX11_hours 72 = .ok (.bipush 24, 2) := by decide +kernel
theorem dX11_hours_74 : decode cX11_hours 74 = .ok (.irem, 1) := by decide +kernel
theorem dX11_hours_75 : decode cX11_hours 75 = .ok (.putfield 324, 3) := by decide +kernel
theorem dX11_hours_78 : decode cX11_hours 78 = .ok (.aload_n 0, 1) := by decide +kernel
theorem dX11_hours_79 : decode cX11_hours 79 = .ok (.getfield 324, 3) := by decide +kernel
theorem dX11_hours_82 : decode cX11_hours 82 = .ok (.ireturn, 1) := by decide +kernel
def b_X11_hours (I : g_I) (x1 : Int32) : Option (Int32 × g_I) :=
  g_let (am_up I 101 2 0) fun I1 => if b_X11_isIn (x1.toInt64) 1 99 = true then if ((I1 101 30) + (((I1 101 31) + x1) / 24)) ≤ 999 then g_bind (b_X11_keep I1) fun I6 => g_let (am_up I6 101 30 ((I6 101 30) + (((I6 101 31) + x1) / 24))) fun I8 => g_let (am_up I8 101 31 (((I8 101 31) + x1) - ((I8 101 31) + x1) / 24 * 24)) fun I9 => some (I9 101 31, I9) else g_bind2 (b_X11_refuse I1 1) fun a10 I11 => some (a10, I11) else g_bind2 (b_X11_refuse I1 1) fun a2 I3 => some (a2, I3)
set_option maxRecDepth 100000 in
set_option maxHeartbeats 4000000 in
theorem g_X11_hours {G : am_G} (hK : k_OK G) {d : Nat} (hd : 2 ≤ d) {sh : List (Nat ⊕ (Nat × Nat))} {I : g_I} {R : Nat → Nat → Option Nat} {L : Nat → Nat → Int64} {g : Nat} (hm : k_Mod sh R) {x1 : Int32} {r : Int32 × g_I} (h : b_X11_hours I x1 = some r) : AM G mX11_hours d [.ref 101, .int x1] (sh, I, R, L, g) (fun v w => v = some (.int r.1) ∧ w = (sh, r.2, R, L, g)) (fun _ _ => False) := by
  have hG := hK.1
  refine AM.of (n := 0) (by decide +kernel) (Nat.le_of_ble_eq_true rfl) ?_
  show AW G mX11_hours d (fun v w => v = some (.int r.1) ∧ w = (sh, r.2, R, L, g)) (fun _ _ => False) 0 [some (.ref 101), some (.int x1)] [] (sh, I, R, L, g) 0 0
  unfold b_X11_hours at h
  refine AW.aload_n dX11_hours_0 rfl ?_
  refine AW.iconst 0 dX11_hours_1 (by decide) ?_
  refine AW.putI (fX11_159 hG) rfl (vp_nar_int _) rfl (hm.1 0 _ rfl) dX11_hours_2 ?_
  obtain ⟨I1, eI1, h⟩ := g_letE h
  refine AW.namIE eI1 ?_
  refine AW.iload_n dX11_hours_5 rfl ?_
  refine AW.i2l dX11_hours_6 ?_
  refine AW.lconst 1 dX11_hours_7 (by decide) ?_
  refine AW.ldc2 99 dX11_hours_8 (k_c hG 1962 (by decide +kernel) (by decide +kernel)) ?_
  refine AW.callS (As := [.long (x1.toInt64), .long 1, .long 99]) hG.2.2 (vX11_162 hG) (g_X11_isIn hK (d := 0) (Nat.le_refl _) (x1.toInt64) 1 99) (by omega) dX11_hours_11 rfl rfl (Nat.le_of_ble_eq_true rfl) (fun v w9 hq9 h09 => by obtain ⟨rfl, rfl⟩ := hq9; exact ⟨h09, rfl⟩) (by decide) (by decide) (fun _ _ hx => hx) (fun v9 w9 hq9 => ?_)
  obtain ⟨rfl, rfl⟩ := hq9
  show AW G _ d _ _ 14 [some (.ref 101), some (.int x1)] [.int (kb (b_X11_isIn (x1.toInt64) 1 99))] (sh, I1, R, L, g) 0 0
  refine AW.if_eq 37 dX11_hours_14 (by decide) (fun hc14 => ?_) (fun hc14 => ?_)
  · replace h := g_neg (g_kb0 hc14) h
    refine AW.aload_n dX11_hours_37 rfl ?_
    refine AW.iconst 1 dX11_hours_38 (by decide) ?_
    obtain ⟨a2, I3, hx4, h⟩ := g_bind2E h
    refine AW.callV (b := 101) (As := [.int 1]) hG.2.2 (vX11_414 hG) (hm.1 0 _ rfl) (g_X11_refuse hK (d := 0) (Nat.le_refl _) hm hx4) (by omega) dX11_hours_39 rfl rfl (Nat.le_of_ble_eq_true rfl) (fun v w9 hq9 h09 => by obtain ⟨rfl, rfl⟩ := hq9; exact ⟨h09, rfl⟩) (by decide) (by decide) (fun _ _ hx => hx) (fun v9 w9 hq9 => ?_)
    obtain ⟨rfl, rfl⟩ := hq9
    show AW G _ d _ _ 42 [some (.ref 101), some (.int x1)] [.int a2] (sh, I3, R, L, g) 0 0
    exact AW.iret dX11_hours_42 rfl (by decide) (by decide) (by cases h; exact ⟨rfl, rfl⟩)
  · replace h := g_pos (kb_1.mp hc14) h
    refine AW.aload_n dX11_hours_17 rfl ?_
    refine AW.getI (fX11_321 hG).r rfl (hm.1 0 _ rfl) dX11_hours_18 ?_
    refine AW.aload_n dX11_hours_21 rfl ?_
    refine AW.getI (fX11_324 hG).r rfl (hm.1 0 _ rfl) dX11_hours_22 ?_
    refine AW.iload_n dX11_hours_25 rfl ?_
    refine AW.iadd dX11_hours_26 ?_
    refine AW.bipush 24 dX11_hours_27 (by decide) ?_
    refine AW.idiv dX11_hours_29 (by decide) ?_
    refine AW.iadd dX11_hours_30 ?_
    refine AW.sipush 999 dX11_hours_31 (by decide) ?_
    refine AW.icmp_le 43 dX11_hours_34 (by decide) (fun hc34 => ?_) (fun hc34 => ?_)
    · replace h := g_pos hc34 h
      refine AW.aload_n dX11_hours_43 rfl ?_
      obtain ⟨I6, hx7, h⟩ := g_bindE h
      refine AW.callV (b := 101) (As := []) hG.2.2 (vX11_411 hG) (hm.1 0 _ rfl) (g_X11_keep hK (d := 1) (Nat.le_refl _) hm hx7) (by omega) dX11_hours_44 rfl rfl (Nat.le_of_ble_eq_true rfl) (fun v w9 hq9 h09 => by obtain ⟨rfl, rfl⟩ := hq9; exact ⟨h09, rfl⟩) (by decide) (by decide) (fun _ _ hx => hx) (fun v9 w9 hq9 => ?_)
      obtain ⟨rfl, rfl⟩ := hq9
      show AW G _ d _ _ 47 [some (.ref 101), some (.int x1)] [] (sh, I6, R, L, g) 0 0
      refine AW.aload_n dX11_hours_47 rfl ?_
      refine AW.dup dX11_hours_48 rfl ?_
      refine AW.getI (fX11_321 hG).r rfl (hm.1 0 _ rfl) dX11_hours_49 ?_
      refine AW.aload_n dX11_hours_52 rfl ?_
      refine AW.getI (fX11_324 hG).r rfl (hm.1 0 _ rfl) dX11_hours_53 ?_
      refine AW.iload_n dX11_hours_56 rfl ?_
      refine AW.iadd dX11_hours_57 ?_
      refine AW.bipush 24 dX11_hours_58 (by decide) ?_
      refine AW.idiv dX11_hours_60 (by decide) ?_
      refine AW.iadd dX11_hours_61 ?_
      refine AW.putI (fX11_321 hG) rfl (vp_nar_int _) rfl (hm.1 0 _ rfl) dX11_hours_62 ?_
      obtain ⟨I8, eI8, h⟩ := g_letE h
      refine AW.namIE eI8 ?_
      refine AW.aload_n dX11_hours_65 rfl ?_
      refine AW.aload_n dX11_hours_66 rfl ?_
      refine AW.getI (fX11_324 hG).r rfl (hm.1 0 _ rfl) dX11_hours_67 ?_
      refine AW.iload_n dX11_hours_70 rfl ?_
      refine AW.iadd dX11_hours_71 ?_
      refine AW.bipush 24 dX11_hours_72 (by decide) ?_
      refine AW.irem dX11_hours_74 (by decide) ?_
      refine AW.putI (fX11_324 hG) rfl (vp_nar_int _) rfl (hm.1 0 _ rfl) dX11_hours_75 ?_
      obtain ⟨I9, eI9, h⟩ := g_letE h
      refine AW.namIE eI9 ?_
      refine AW.aload_n dX11_hours_78 rfl ?_
      refine AW.getI (fX11_324 hG).r rfl (hm.1 0 _ rfl) dX11_hours_79 ?_
      exact AW.iret dX11_hours_82 rfl (by decide) (by decide) (by cases h; exact ⟨rfl, rfl⟩)
    · replace h := g_neg hc34 h
      refine AW.aload_n dX11_hours_37 rfl ?_
      refine AW.iconst 1 dX11_hours_38 (by decide) ?_
      obtain ⟨a10, I11, hx12, h⟩ := g_bind2E h
      refine AW.callV (b := 101) (As := [.int 1]) hG.2.2 (vX11_414 hG) (hm.1 0 _ rfl) (g_X11_refuse hK (d := 0) (Nat.le_refl _) hm hx12) (by omega) dX11_hours_39 rfl rfl (Nat.le_of_ble_eq_true rfl) (fun v w9 hq9 h09 => by obtain ⟨rfl, rfl⟩ := hq9; exact ⟨h09, rfl⟩) (by decide) (by decide) (fun _ _ hx => hx) (fun v9 w9 hq9 => ?_)
      obtain ⟨rfl, rfl⟩ := hq9
      show AW G _ d _ _ 42 [some (.ref 101), some (.int x1)] [.int a10] (sh, I11, R, L, g) 0 0
      exact AW.iret dX11_hours_42 rfl (by decide) (by decide) (by cases h; exact ⟨rfl, rfl⟩)
theorem dX11_undo_0 : decode cX11_undo 0 = .ok (.aload_n 0, 1) := by decide +kernel
theorem dX11_undo_1 : decode cX11_undo 1 = .ok (.iconst 0, 1) := by decide +kernel
theorem dX11_undo_2 : decode cX11_undo 2 = .ok (.putfield 159, 3) := by decide +kernel
theorem dX11_undo_5 : decode cX11_undo 5 = .ok (.aload_n 0, 1) := by decide +kernel
theorem dX11_undo_6 : decode cX11_undo 6 = .ok (.getfield 327, 3) := by decide +kernel
theorem dX11_undo_9 : decode cX11_undo 9 = .ok (.ifCond .ne 5, 3) := by decide +kernel
theorem dX11_undo_12 : decode cX11_undo 12 = .ok (.iconst (-1), 1) := by decide +kernel
theorem dX11_undo_13 : decode cX11_undo 13 = .ok (.ireturn, 1) := by decide +kernel
theorem dX11_undo_14 : decode cX11_undo 14 = .ok (.aload_n 0, 1) := by decide +kernel
theorem dX11_undo_15 : decode cX11_undo 15 = .ok (.dup, 1) := by decide +kernel
theorem dX11_undo_16 : decode cX11_undo 16 = .ok (.getfield 327, 3) := by decide +kernel
theorem dX11_undo_19 : decode cX11_undo 19 = .ok (.iconst 1, 1) := by decide +kernel
theorem dX11_undo_20 : decode cX11_undo 20 = .ok (.isub, 1) := by decide +kernel
theorem dX11_undo_21 : decode cX11_undo 21 = .ok (.putfield 327, 3) := by decide +kernel
theorem dX11_undo_24 : decode cX11_undo 24 = .ok (.aload_n 0, 1) := by decide +kernel
theorem dX11_undo_25 : decode cX11_undo 25 = .ok (.aload_n 0, 1) := by decide +kernel
theorem dX11_undo_26 : decode cX11_undo 26 = .ok (.getfield 88, 3) := by decide +kernel
theorem dX11_undo_29 : decode cX11_undo 29 = .ok (.bipush 80, 2) := by decide +kernel
theorem dX11_undo_31 : decode cX11_undo 31 = .ok (.aload_n 0, 1) := by decide +kernel
theorem dX11_undo_32 : decode cX11_undo 32 = .ok (.getfield 327, 3) := by decide +kernel
theorem dX11_undo_35 : decode cX11_undo 35 = .ok (.imul, 1) := by decide +kernel
theorem dX11_undo_36 : decode cX11_undo 36 = .ok (.invokevirtual 429, 3) := by decide +kernel
theorem dX11_undo_39 : decode cX11_undo 39 = .ok (.aload_n 0, 1) := by decide +kernel
theorem dX11_undo_40 : decode cX11_undo 40 = .ok (.getfield 327, 3) := by decide +kernel
theorem dX11_undo_43 : decode cX11_undo 43 = .ok (.ireturn, 1) := by decide +kernel
def b_X11_undo (I : g_I) : Option (Int32 × g_I) :=
  g_let (am_up I 101 2 0) fun I1 => if (I1 101 32) = 0 then some ((-1), I1) else g_let (am_up I1 101 32 ((I1 101 32) - 1)) fun I2 => g_bind (b_X11_unpack I2 120 3200 ((80 : Int32) * (I2 101 32))) fun I4 => some (I4 101 32, I4)
set_option maxRecDepth 100000 in
set_option maxHeartbeats 4000000 in
theorem g_X11_undo {G : am_G} (hK : k_OK G) {d : Nat} (hd : 1 ≤ d) {sh : List (Nat ⊕ (Nat × Nat))} {I : g_I} {R : Nat → Nat → Option Nat} {L : Nat → Nat → Int64} {g : Nat} (hm : k_Mod sh R) {r : Int32 × g_I} (h : b_X11_undo I = some r) : AM G mX11_undo d [.ref 101] (sh, I, R, L, g) (fun v w => v = some (.int r.1) ∧ w = (sh, r.2, R, L, g)) (fun _ _ => False) := by
  have hG := hK.1
  refine AM.of (n := 0) (by decide +kernel) (Nat.le_of_ble_eq_true rfl) ?_
  show AW G mX11_undo d (fun v w => v = some (.int r.1) ∧ w = (sh, r.2, R, L, g)) (fun _ _ => False) 0 [some (.ref 101)] [] (sh, I, R, L, g) 0 0
  unfold b_X11_undo at h
  refine AW.aload_n dX11_undo_0 rfl ?_
  refine AW.iconst 0 dX11_undo_1 (by decide) ?_
  refine AW.putI (fX11_159 hG) rfl (vp_nar_int _) rfl (hm.1 0 _ rfl) dX11_undo_2 ?_
  obtain ⟨I1, eI1, h⟩ := g_letE h
  refine AW.namIE eI1 ?_
  refine AW.aload_n dX11_undo_5 rfl ?_
  refine AW.getI (fX11_327 hG).r rfl (hm.1 0 _ rfl) dX11_undo_6 ?_
  refine AW.if_ne 14 dX11_undo_9 (by decide) (fun hc9 => ?_) (fun hc9 => ?_)
  · replace h := g_neg hc9 h
    refine AW.aload_n dX11_undo_14 rfl ?_
    refine AW.dup dX11_undo_15 rfl ?_
    refine AW.getI (fX11_327 hG).r rfl (hm.1 0 _ rfl) dX11_undo_16 ?_
    refine AW.iconst 1 dX11_undo_19 (by decide) ?_
    refine AW.isub dX11_undo_20 ?_
    refine AW.putI (fX11_327 hG) rfl (vp_nar_int _) rfl (hm.1 0 _ rfl) dX11_undo_21 ?_
    obtain ⟨I2, eI2, h⟩ := g_letE h
    refine AW.namIE eI2 ?_
    refine AW.aload_n dX11_undo_24 rfl ?_
    refine AW.aload_n dX11_undo_25 rfl ?_
    refine AW.getR (c' := 120) (fX11_88 hG).r rfl (hm.1 0 _ rfl) (hm.2 (0, 29, 19) (by decide)) dX11_undo_26 ?_
    refine AW.bipush 80 dX11_undo_29 (by decide) ?_
    refine AW.aload_n dX11_undo_31 rfl ?_
    refine AW.getI (fX11_327 hG).r rfl (hm.1 0 _ rfl) dX11_undo_32 ?_
    refine AW.imul dX11_undo_35 ?_
    obtain ⟨I4, hx5, h⟩ := g_bindE h
    refine AW.callV (b := 101) (As := [.ref 120, .int ((80 : Int32) * (I2 101 32))]) hG.2.2 (vX11_429 hG) (hm.1 0 _ rfl) (g_X11_unpack hK (d := 0) (Nat.le_refl _) hm (hm.1 19 _ rfl) hx5) (by omega) dX11_undo_36 rfl rfl (Nat.le_of_ble_eq_true rfl) (fun v w9 hq9 h09 => by obtain ⟨rfl, rfl⟩ := hq9; exact ⟨h09, rfl⟩) (by decide) (by decide) (fun _ _ hx => hx) (fun v9 w9 hq9 => ?_)
    obtain ⟨rfl, rfl⟩ := hq9
    show AW G _ d _ _ 39 [some (.ref 101)] [] (sh, I4, R, L, g) 0 0
    refine AW.aload_n dX11_undo_39 rfl ?_
    refine AW.getI (fX11_327 hG).r rfl (hm.1 0 _ rfl) dX11_undo_40 ?_
    exact AW.iret dX11_undo_43 rfl (by decide) (by decide) (by cases h; exact ⟨rfl, rfl⟩)
  · replace h := g_pos hc9 h
    refine AW.iconst (-1) dX11_undo_12 (by decide) ?_
    exact AW.iret dX11_undo_13 rfl (by decide) (by decide) (by cases h; exact ⟨rfl, rfl⟩)
