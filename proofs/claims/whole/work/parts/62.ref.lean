/-! 62.ref (printed by s52.py) -/
theorem dX11_be_0 : decode cX11_be 0 = .ok (.iconst 0, 1) := by decide +kernel
theorem dX11_be_1 : decode cX11_be 1 = .ok (.istore_n 2, 1) := by decide +kernel
theorem dX11_be_2 : decode cX11_be 2 = .ok (.iload_n 2, 1) := by decide +kernel
theorem dX11_be_3 : decode cX11_be 3 = .ok (.aload_n 0, 1) := by decide +kernel
theorem dX11_be_4 : decode cX11_be 4 = .ok (.arraylength, 1) := by decide +kernel
theorem dX11_be_5 : decode cX11_be 5 = .ok (.if_icmp .ge 15, 3) := by decide +kernel
theorem dX11_be_8 : decode cX11_be 8 = .ok (.aload_n 0, 1) := by decide +kernel
theorem dX11_be_9 : decode cX11_be 9 = .ok (.iload_n 2, 1) := by decide +kernel
theorem dX11_be_10 : decode cX11_be 10 = .ok (.aload_n 1, 1) := by decide +kernel
theorem dX11_be_11 : decode cX11_be 11 = .ok (.iload_n 2, 1) := by decide +kernel
theorem dX11_be_12 : decode cX11_be 12 = .ok (.iaload, 1) := by decide +kernel
theorem dX11_be_13 : decode cX11_be 13 = .ok (.iastore, 1) := by decide +kernel
theorem dX11_be_14 : decode cX11_be 14 = .ok (.iinc 2 1, 3) := by decide +kernel
theorem dX11_be_17 : decode cX11_be 17 = .ok (.goto (-15), 3) := by decide +kernel
theorem dX11_be_20 : decode cX11_be 20 = .ok (.return_, 1) := by decide +kernel
def b_X11_be_L2 (c0 n0 : Nat) (c1 n1 : Nat) (K : g_I → Option (g_I)) : Nat → Int32 → g_I → Option (g_I)
  | 0, _, _ => none
  | f + 1, x2, I => if (nI n0) ≤ x2 then K I else if g_in x2 n1 = true then if g_in x2 n0 = true then g_let (am_up I c0 x2.toNatClampNeg (I c1 x2.toNatClampNeg)) fun I1 => b_X11_be_L2 c0 n0 c1 n1 K f (x2 + 1) I1 else none else none
def b_X11_be (I : g_I) (c0 : Nat) (n0 : Nat) (c1 : Nat) (n1 : Nat) : Option (g_I) :=
  b_X11_be_L2 c0 n0 c1 n1 (fun (I2 : g_I) => some I2) fu 0 I
set_option maxRecDepth 100000 in
set_option maxHeartbeats 4000000 in
theorem gL_X11_be_2 {G : am_G} (hK : k_OK G) {c0 n0 : Nat} {c1 n1 : Nat} {d : Nat} (hd : 0 ≤ d) {sh : List (Nat ⊕ (Nat × Nat))} {I : g_I} {R : Nat → Nat → Option Nat} {L : Nat → Nat → Int64} {g : Nat} (hc0 : sh[c0]? = some (.inr (0, n0))) (hc1 : sh[c1]? = some (.inr (0, n1))) {K : g_I → Option (g_I)} {x2 : Int32} {f : Nat} {r : g_I} (h : b_X11_be_L2 c0 n0 c1 n1 K f x2 I = some r) (hk : ∀ (J : g_I), K J = some r → AW G mX11_be d (fun v w => v = none ∧ w = (sh, r, R, L, g)) (fun _ _ => False) 20 [none, none, none] [] (sh, J, R, L, g) 0 0) : AW G mX11_be d (fun v w => v = none ∧ w = (sh, r, R, L, g)) (fun _ _ => False) 2 [some (.ref c0), some (.ref c1), some (.int x2)] [] (sh, I, R, L, g) 0 0 := by
  have hG := hK.1
  induction f generalizing x2 I with
  | zero => rw [b_X11_be_L2] at h; cases h
  | succ f ih =>
    rw [b_X11_be_L2] at h
    refine AW.iload_n dX11_be_2 rfl ?_
    refine AW.aload_n dX11_be_3 rfl ?_
    refine AW.alen (v := nI n0) hc0 (by decide) rfl dX11_be_4 ?_
    refine AW.icmp_ge 20 dX11_be_5 (by decide) (fun hc5 => ?_) (fun hc5 => ?_)
    · replace h := g_pos hc5 h
      refine AW.mask [0, 1, 2] [none, none, none] rfl ?_
      exact hk _ h
    · replace h := g_neg hc5 h
      refine AW.aload_n dX11_be_8 rfl ?_
      refine AW.iload_n dX11_be_9 rfl ?_
      refine AW.aload_n dX11_be_10 rfl ?_
      refine AW.iload_n dX11_be_11 rfl ?_
      obtain ⟨hb, h⟩ := g_ifE h
      refine AW.iald hc1 (g_in_iff.mp hb) dX11_be_12 ?_
      obtain ⟨hb, h⟩ := g_ifE h
      refine AW.iast hc0 (g_in_iff.mp hb) dX11_be_13 ?_
      obtain ⟨I1, eI1, h⟩ := g_letE h
      refine AW.namIE eI1 ?_
      refine AW.incE 1 (by decide) [some (.ref c0), some (.ref c1), some (.int (x2 + 1))] dX11_be_14 rfl (by decide) rfl rfl ?_
      refine AW.goto 2 dX11_be_17 (by decide) ?_
      exact ih h
set_option maxRecDepth 100000 in
set_option maxHeartbeats 4000000 in
theorem g_X11_be {G : am_G} (hK : k_OK G) {d : Nat} (hd : 0 ≤ d) {sh : List (Nat ⊕ (Nat × Nat))} {I : g_I} {R : Nat → Nat → Option Nat} {L : Nat → Nat → Int64} {g : Nat} {c0 n0 : Nat} {c1 n1 : Nat} (hc0 : sh[c0]? = some (.inr (0, n0))) (hc1 : sh[c1]? = some (.inr (0, n1))) {r : g_I} (h : b_X11_be I c0 n0 c1 n1 = some r) : AM G mX11_be d [.ref c0, .ref c1] (sh, I, R, L, g) (fun v w => v = none ∧ w = (sh, r, R, L, g)) (fun _ _ => False) := by
  have hG := hK.1
  refine AM.of (n := 1) (by decide +kernel) (Nat.le_of_ble_eq_true rfl) ?_
  show AW G mX11_be d (fun v w => v = none ∧ w = (sh, r, R, L, g)) (fun _ _ => False) 0 [some (.ref c0), some (.ref c1), none] [] (sh, I, R, L, g) 0 0
  unfold b_X11_be at h
  refine AW.iconst 0 dX11_be_0 (by decide) ?_
  refine AW.is_n [some (.ref c0), some (.ref c1), some (.int 0)] dX11_be_1 (by decide) rfl rfl ?_
  refine gL_X11_be_2 hK hd hc0 hc1 h (fun I2 h => ?_)
  exact AW.vret dX11_be_20 rfl (by decide) (by decide) (by cases h; exact ⟨rfl, rfl⟩)
theorem dX11_image_0 : decode cX11_image 0 = .ok (.aload_n 0, 1) := by decide +kernel
theorem dX11_image_1 : decode cX11_image 1 = .ok (.iconst 0, 1) := by decide +kernel
theorem dX11_image_2 : decode cX11_image 2 = .ok (.putfield 159, 3) := by decide +kernel
theorem dX11_image_5 : decode cX11_image 5 = .ok (.aload_n 0, 1) := by decide +kernel
theorem dX11_image_6 : decode cX11_image 6 = .ok (.iconst 1, 1) := by decide +kernel
theorem dX11_image_7 : decode cX11_image 7 = .ok (.putfield 340, 3) := by decide +kernel
theorem dX11_image_10 : decode cX11_image 10 = .ok (.aload_n 0, 1) := by decide +kernel
theorem dX11_image_11 : decode cX11_image 11 = .ok (.aload_n 0, 1) := by decide +kernel
theorem dX11_image_12 : decode cX11_image 12 = .ok (.getfield 327, 3) := by decide +kernel
theorem dX11_image_15 : decode cX11_image 15 = .ok (.putfield 497, 3) := by decide +kernel
theorem dX11_image_18 : decode cX11_image 18 = .ok (.aload_n 0, 1) := by decide +kernel
theorem dX11_image_19 : decode cX11_image 19 = .ok (.aload_n 0, 1) := by decide +kernel
theorem dX11_image_20 : decode cX11_image 20 = .ok (.getfield 330, 3) := by decide +kernel
theorem dX11_image_23 : decode cX11_image 23 = .ok (.putfield 500, 3) := by decide +kernel
theorem dX11_image_26 : decode cX11_image 26 = .ok (.aload_n 0, 1) := by decide +kernel
theorem dX11_image_27 : decode cX11_image 27 = .ok (.aload_n 0, 1) := by decide +kernel
theorem dX11_image_28 : decode cX11_image 28 = .ok (.getfield 333, 3) := by decide +kernel
theorem dX11_image_31 : decode cX11_image 31 = .ok (.putfield 503, 3) := by decide +kernel
theorem dX11_image_34 : decode cX11_image 34 = .ok (.aload_n 0, 1) := by decide +kernel
theorem dX11_image_35 : decode cX11_image 35 = .ok (.aload_n 0, 1) := by decide +kernel
theorem dX11_image_36 : decode cX11_image 36 = .ok (.getfield 135, 3) := by decide +kernel
theorem dX11_image_39 : decode cX11_image 39 = .ok (.iconst 0, 1) := by decide +kernel
theorem dX11_image_40 : decode cX11_image 40 = .ok (.invokevirtual 407, 3) := by decide +kernel
theorem dX11_image_43 : decode cX11_image 43 = .ok (.aload_n 0, 1) := by decide +kernel
theorem dX11_image_44 : decode cX11_image 44 = .ok (.getfield 138, 3) := by decide +kernel
theorem dX11_image_47 : decode cX11_image 47 = .ok (.aload_n 0, 1) := by decide +kernel
theorem dX11_image_48 : decode cX11_image 48 = .ok (.getfield 88, 3) := by decide +kernel
theorem dX11_image_51 : decode cX11_image 51 = .ok (.invokestatic 506, 3) := by decide +kernel
theorem dX11_image_54 : decode cX11_image 54 = .ok (.aload_n 0, 1) := by decide +kernel
theorem dX11_image_55 : decode cX11_image 55 = .ok (.getfield 141, 3) := by decide +kernel
theorem dX11_image_58 : decode cX11_image 58 = .ok (.aload_n 0, 1) := by decide +kernel
theorem dX11_image_59 : decode cX11_image 59 = .ok (.getfield 120, 3) := by decide +kernel
theorem dX11_image_62 : decode cX11_image 62 = .ok (.invokestatic 506, 3) := by decide +kernel
theorem dX11_image_65 : decode cX11_image 65 = .ok (.aload_n 0, 1) := by decide +kernel
theorem dX11_image_66 : decode cX11_image 66 = .ok (.getfield 144, 3) := by decide +kernel
theorem dX11_image_69 : decode cX11_image 69 = .ok (.aload_n 0, 1) := by decide +kernel
theorem dX11_image_70 : decode cX11_image 70 = .ok (.getfield 123, 3) := by decide +kernel
theorem dX11_image_73 : decode cX11_image 73 = .ok (.invokestatic 506, 3) := by decide +kernel
theorem dX11_image_76 : decode cX11_image 76 = .ok (.aload_n 0, 1) := by decide +kernel
theorem dX11_image_77 : decode cX11_image 77 = .ok (.getfield 147, 3) := by decide +kernel
theorem dX11_image_80 : decode cX11_image 80 = .ok (.aload_n 0, 1) := by decide +kernel
theorem dX11_image_81 : decode cX11_image 81 = .ok (.getfield 126, 3) := by decide +kernel
theorem dX11_image_84 : decode cX11_image 84 = .ok (.invokestatic 506, 3) := by decide +kernel
theorem dX11_image_87 : decode cX11_image 87 = .ok (.aload_n 0, 1) := by decide +kernel
theorem dX11_image_88 : decode cX11_image 88 = .ok (.getfield 150, 3) := by decide +kernel
theorem dX11_image_91 : decode cX11_image 91 = .ok (.aload_n 0, 1) := by decide +kernel
theorem dX11_image_92 : decode cX11_image 92 = .ok (.getfield 129, 3) := by decide +kernel
theorem dX11_image_95 : decode cX11_image 95 = .ok (.invokestatic 506, 3) := by decide +kernel
theorem dX11_image_98 : decode cX11_image 98 = .ok (.aload_n 0, 1) := by decide +kernel
theorem dX11_image_99 : decode cX11_image 99 = .ok (.getfield 153, 3) := by decide +kernel
theorem dX11_image_102 : decode cX11_image 102 = .ok (.aload_n 0, 1) := by decide +kernel
theorem dX11_image_103 : decode cX11_image 103 = .ok (.getfield 132, 3) := by decide +kernel
theorem dX11_image_106 : decode cX11_image 106 = .ok (.invokestatic 506, 3) := by decide +kernel
theorem dX11_image_109 : decode cX11_image 109 = .ok (.aload_n 0, 1) := by decide +kernel
theorem dX11_image_110 : decode cX11_image 110 = .ok (.getfield 156, 3) := by decide +kernel
theorem dX11_image_113 : decode cX11_image 113 = .ok (.aload_n 0, 1) := by decide +kernel
theorem dX11_image_114 : decode cX11_image 114 = .ok (.getfield 73, 3) := by decide +kernel
theorem dX11_image_117 : decode cX11_image 117 = .ok (.invokestatic 506, 3) := by decide +kernel
theorem dX11_image_120 : decode cX11_image 120 = .ok (.return_, 1) := by decide +kernel
def b_X11_image (I : g_I) : Option (g_I) :=
  g_let (am_up I 101 2 0) fun I1 => g_let (am_up I1 101 57 1) fun I2 => g_let (am_up I2 101 58 (I2 101 32)) fun I3 => g_let (am_up I3 101 59 (I3 101 33)) fun I4 => g_let (am_up I4 101 60 (I4 101 34)) fun I5 => g_bind (b_X11_pack I5 136 80 0) fun I7 => g_bind (b_X11_be I7 137 3200 120 3200) fun I10 => g_bind (b_X11_be I10 138 6 131 6) fun I13 => g_bind (b_X11_be I13 139 6 132 6) fun I16 => g_bind (b_X11_be I16 140 6 133 6) fun I19 => g_bind (b_X11_be I19 141 4 134 4) fun I22 => g_bind (b_X11_be I22 142 4 135 4) fun I25 => g_bind (b_X11_be I25 143 3 116 3) fun I28 => some I28
set_option maxRecDepth 100000 in
set_option maxHeartbeats 4000000 in
theorem g_X11_image {G : am_G} (hK : k_OK G) {d : Nat} (hd : 1 ≤ d) {sh : List (Nat ⊕ (Nat × Nat))} {I : g_I} {R : Nat → Nat → Option Nat} {L : Nat → Nat → Int64} {g : Nat} (hm : k_Mod sh R) {r : g_I} (h : b_X11_image I = some r) : AM G mX11_image d [.ref 101] (sh, I, R, L, g) (fun v w => v = none ∧ w = (sh, r, R, L, g)) (fun _ _ => False) := by
  have hG := hK.1
  refine AM.of (n := 0) (by decide +kernel) (Nat.le_of_ble_eq_true rfl) ?_
  show AW G mX11_image d (fun v w => v = none ∧ w = (sh, r, R, L, g)) (fun _ _ => False) 0 [some (.ref 101)] [] (sh, I, R, L, g) 0 0
  unfold b_X11_image at h
  refine AW.aload_n dX11_image_0 rfl ?_
  refine AW.iconst 0 dX11_image_1 (by decide) ?_
  refine AW.putI (fX11_159 hG) rfl (vp_nar_int _) rfl (hm.1 0 _ rfl) dX11_image_2 ?_
  obtain ⟨I1, eI1, h⟩ := g_letE h
  refine AW.namIE eI1 ?_
  refine AW.aload_n dX11_image_5 rfl ?_
  refine AW.iconst 1 dX11_image_6 (by decide) ?_
  refine AW.putI (fX11_340 hG) rfl (by decide) (by decide) (hm.1 0 _ rfl) dX11_image_7 ?_
  obtain ⟨I2, eI2, h⟩ := g_letE h
  refine AW.namIE eI2 ?_
  refine AW.aload_n dX11_image_10 rfl ?_
  refine AW.aload_n dX11_image_11 rfl ?_
  refine AW.getI (fX11_327 hG).r rfl (hm.1 0 _ rfl) dX11_image_12 ?_
  refine AW.putI (fX11_497 hG) rfl (vp_nar_int _) rfl (hm.1 0 _ rfl) dX11_image_15 ?_
  obtain ⟨I3, eI3, h⟩ := g_letE h
  refine AW.namIE eI3 ?_
  refine AW.aload_n dX11_image_18 rfl ?_
  refine AW.aload_n dX11_image_19 rfl ?_
  refine AW.getI (fX11_330 hG).r rfl (hm.1 0 _ rfl) dX11_image_20 ?_
  refine AW.putI (fX11_500 hG) rfl (vp_nar_int _) rfl (hm.1 0 _ rfl) dX11_image_23 ?_
  obtain ⟨I4, eI4, h⟩ := g_letE h
  refine AW.namIE eI4 ?_
  refine AW.aload_n dX11_image_26 rfl ?_
  refine AW.aload_n dX11_image_27 rfl ?_
  refine AW.getI (fX11_333 hG).r rfl (hm.1 0 _ rfl) dX11_image_28 ?_
  refine AW.putI (fX11_503 hG) rfl (vp_nar_int _) rfl (hm.1 0 _ rfl) dX11_image_31 ?_
  obtain ⟨I5, eI5, h⟩ := g_letE h
  refine AW.namIE eI5 ?_
  refine AW.aload_n dX11_image_34 rfl ?_
  refine AW.aload_n dX11_image_35 rfl ?_
  refine AW.getR (c' := 136) (fX11_135 hG).r rfl (hm.1 0 _ rfl) (hm.2 (0, 61, 35) (by decide)) dX11_image_36 ?_
  refine AW.iconst 0 dX11_image_39 (by decide) ?_
  obtain ⟨I7, hx8, h⟩ := g_bindE h
  refine AW.callV (b := 101) (As := [.ref 136, .int 0]) hG.2.2 (vX11_407 hG) (hm.1 0 _ rfl) (g_X11_pack hK (d := 0) (Nat.le_refl _) hm (hm.1 35 _ rfl) hx8) (by omega) dX11_image_40 rfl rfl (Nat.le_of_ble_eq_true rfl) (fun v w9 hq9 h09 => by obtain ⟨rfl, rfl⟩ := hq9; exact ⟨h09, rfl⟩) (by decide) (by decide) (fun _ _ hx => hx) (fun v9 w9 hq9 => ?_)
  obtain ⟨rfl, rfl⟩ := hq9
  show AW G _ d _ _ 43 [some (.ref 101)] [] (sh, I7, R, L, g) 0 0
  refine AW.aload_n dX11_image_43 rfl ?_
  refine AW.getR (c' := 137) (fX11_138 hG).r rfl (hm.1 0 _ rfl) (hm.2 (0, 62, 36) (by decide)) dX11_image_44 ?_
  refine AW.aload_n dX11_image_47 rfl ?_
  refine AW.getR (c' := 120) (fX11_88 hG).r rfl (hm.1 0 _ rfl) (hm.2 (0, 29, 19) (by decide)) dX11_image_48 ?_
  obtain ⟨I10, hx11, h⟩ := g_bindE h
  refine AW.callS (As := [.ref 137, .ref 120]) hG.2.2 (vX11_506 hG) (g_X11_be hK (d := 0) (Nat.le_refl _) (hm.1 36 _ rfl) (hm.1 19 _ rfl) hx11) (by omega) dX11_image_51 rfl rfl (Nat.le_of_ble_eq_true rfl) (fun v w9 hq9 h09 => by obtain ⟨rfl, rfl⟩ := hq9; exact ⟨h09, rfl⟩) (by decide) (by decide) (fun _ _ hx => hx) (fun v9 w9 hq9 => ?_)
  obtain ⟨rfl, rfl⟩ := hq9
  show AW G _ d _ _ 54 [some (.ref 101)] [] (sh, I10, R, L, g) 0 0
  refine AW.aload_n dX11_image_54 rfl ?_
  refine AW.getR (c' := 138) (fX11_141 hG).r rfl (hm.1 0 _ rfl) (hm.2 (0, 63, 37) (by decide)) dX11_image_55 ?_
  refine AW.aload_n dX11_image_58 rfl ?_
  refine AW.getR (c' := 131) (fX11_120 hG).r rfl (hm.1 0 _ rfl) (hm.2 (0, 51, 30) (by decide)) dX11_image_59 ?_
  obtain ⟨I13, hx14, h⟩ := g_bindE h
  refine AW.callS (As := [.ref 138, .ref 131]) hG.2.2 (vX11_506 hG) (g_X11_be hK (d := 0) (Nat.le_refl _) (hm.1 37 _ rfl) (hm.1 30 _ rfl) hx14) (by omega) dX11_image_62 rfl rfl (Nat.le_of_ble_eq_true rfl) (fun v w9 hq9 h09 => by obtain ⟨rfl, rfl⟩ := hq9; exact ⟨h09, rfl⟩) (by decide) (by decide) (fun _ _ hx => hx) (fun v9 w9 hq9 => ?_)
  obtain ⟨rfl, rfl⟩ := hq9
  show AW G _ d _ _ 65 [some (.ref 101)] [] (sh, I13, R, L, g) 0 0
  refine AW.aload_n dX11_image_65 rfl ?_
  refine AW.getR (c' := 139) (fX11_144 hG).r rfl (hm.1 0 _ rfl) (hm.2 (0, 64, 38) (by decide)) dX11_image_66 ?_
  refine AW.aload_n dX11_image_69 rfl ?_
  refine AW.getR (c' := 132) (fX11_123 hG).r rfl (hm.1 0 _ rfl) (hm.2 (0, 52, 31) (by decide)) dX11_image_70 ?_
  obtain ⟨I16, hx17, h⟩ := g_bindE h
  refine AW.callS (As := [.ref 139, .ref 132]) hG.2.2 (vX11_506 hG) (g_X11_be hK (d := 0) (Nat.le_refl _) (hm.1 38 _ rfl) (hm.1 31 _ rfl) hx17) (by omega) dX11_image_73 rfl rfl (Nat.le_of_ble_eq_true rfl) (fun v w9 hq9 h09 => by obtain ⟨rfl, rfl⟩ := hq9; exact ⟨h09, rfl⟩) (by decide) (by decide) (fun _ _ hx => hx) (fun v9 w9 hq9 => ?_)
  obtain ⟨rfl, rfl⟩ := hq9
  show AW G _ d _ _ 76 [some (.ref 101)] [] (sh, I16, R, L, g) 0 0
  refine AW.aload_n dX11_image_76 rfl ?_
  refine AW.getR (c' := 140) (fX11_147 hG).r rfl (hm.1 0 _ rfl) (hm.2 (0, 65, 39) (by decide)) dX11_image_77 ?_
  refine AW.aload_n dX11_image_80 rfl ?_
  refine AW.getR (c' := 133) (fX11_126 hG).r rfl (hm.1 0 _ rfl) (hm.2 (0, 53, 32) (by decide)) dX11_image_81 ?_
  obtain ⟨I19, hx20, h⟩ := g_bindE h
  refine AW.callS (As := [.ref 140, .ref 133]) hG.2.2 (vX11_506 hG) (g_X11_be hK (d := 0) (Nat.le_refl _) (hm.1 39 _ rfl) (hm.1 32 _ rfl) hx20) (by omega) dX11_image_84 rfl rfl (Nat.le_of_ble_eq_true rfl) (fun v w9 hq9 h09 => by obtain ⟨rfl, rfl⟩ := hq9; exact ⟨h09, rfl⟩) (by decide) (by decide) (fun _ _ hx => hx) (fun v9 w9 hq9 => ?_)
  obtain ⟨rfl, rfl⟩ := hq9
  show AW G _ d _ _ 87 [some (.ref 101)] [] (sh, I19, R, L, g) 0 0
  refine AW.aload_n dX11_image_87 rfl ?_
  refine AW.getR (c' := 141) (fX11_150 hG).r rfl (hm.1 0 _ rfl) (hm.2 (0, 66, 40) (by decide)) dX11_image_88 ?_
  refine AW.aload_n dX11_image_91 rfl ?_
  refine AW.getR (c' := 134) (fX11_129 hG).r rfl (hm.1 0 _ rfl) (hm.2 (0, 54, 33) (by decide)) dX11_image_92 ?_
  obtain ⟨I22, hx23, h⟩ := g_bindE h
  refine AW.callS (As := [.ref 141, .ref 134]) hG.2.2 (vX11_506 hG) (g_X11_be hK (d := 0) (Nat.le_refl _) (hm.1 40 _ rfl) (hm.1 33 _ rfl) hx23) (by omega) dX11_image_95 rfl rfl (Nat.le_of_ble_eq_true rfl) (fun v w9 hq9 h09 => by obtain ⟨rfl, rfl⟩ := hq9; exact ⟨h09, rfl⟩) (by decide) (by decide) (fun _ _ hx => hx) (fun v9 w9 hq9 => ?_)
  obtain ⟨rfl, rfl⟩ := hq9
  show AW G _ d _ _ 98 [some (.ref 101)] [] (sh, I22, R, L, g) 0 0
  refine AW.aload_n dX11_image_98 rfl ?_
  refine AW.getR (c' := 142) (fX11_153 hG).r rfl (hm.1 0 _ rfl) (hm.2 (0, 67, 41) (by decide)) dX11_image_99 ?_
  refine AW.aload_n dX11_image_102 rfl ?_
  refine AW.getR (c' := 135) (fX11_132 hG).r rfl (hm.1 0 _ rfl) (hm.2 (0, 55, 34) (by decide)) dX11_image_103 ?_
  obtain ⟨I25, hx26, h⟩ := g_bindE h
  refine AW.callS (As := [.ref 142, .ref 135]) hG.2.2 (vX11_506 hG) (g_X11_be hK (d := 0) (Nat.le_refl _) (hm.1 41 _ rfl) (hm.1 34 _ rfl) hx26) (by omega) dX11_image_106 rfl rfl (Nat.le_of_ble_eq_true rfl) (fun v w9 hq9 h09 => by obtain ⟨rfl, rfl⟩ := hq9; exact ⟨h09, rfl⟩) (by decide) (by decide) (fun _ _ hx => hx) (fun v9 w9 hq9 => ?_)
  obtain ⟨rfl, rfl⟩ := hq9
  show AW G _ d _ _ 109 [some (.ref 101)] [] (sh, I25, R, L, g) 0 0
  refine AW.aload_n dX11_image_109 rfl ?_
  refine AW.getR (c' := 143) (fX11_156 hG).r rfl (hm.1 0 _ rfl) (hm.2 (0, 68, 42) (by decide)) dX11_image_110 ?_
  refine AW.aload_n dX11_image_113 rfl ?_
  refine AW.getR (c' := 116) (fX11_73 hG).r rfl (hm.1 0 _ rfl) (hm.2 (0, 15, 15) (by decide)) dX11_image_114 ?_
  obtain ⟨I28, hx29, h⟩ := g_bindE h
  refine AW.callS (As := [.ref 143, .ref 116]) hG.2.2 (vX11_506 hG) (g_X11_be hK (d := 0) (Nat.le_refl _) (hm.1 42 _ rfl) (hm.1 15 _ rfl) hx29) (by omega) dX11_image_117 rfl rfl (Nat.le_of_ble_eq_true rfl) (fun v w9 hq9 h09 => by obtain ⟨rfl, rfl⟩ := hq9; exact ⟨h09, rfl⟩) (by decide) (by decide) (fun _ _ hx => hx) (fun v9 w9 hq9 => ?_)
  obtain ⟨rfl, rfl⟩ := hq9
  show AW G _ d _ _ 120 [some (.ref 101)] [] (sh, I28, R, L, g) 0 0
  exact AW.vret dX11_image_120 rfl (by decide) (by decide) (by cases h; exact ⟨rfl, rfl⟩)
theorem dX11_restore_0 : decode cX11_restore 0 = .ok (.aload_n 0, 1) := by decide +kernel
theorem dX11_restore_1 : decode cX11_restore 1 = .ok (.iconst 0, 1) := by decide +kernel
theorem dX11_restore_2 : decode cX11_restore 2 = .ok (.putfield 159, 3) := by decide +kernel
theorem dX11_restore_5 : decode cX11_restore 5 = .ok (.aload_n 0, 1) := by decide +kernel
theorem dX11_restore_6 : decode cX11_restore 6 = .ok (.getfield 340, 3) := by decide +kernel
theorem dX11_restore_9 : decode cX11_restore 9 = .ok (.ifCond .ne 5, 3) := by decide +kernel
theorem dX11_restore_12 : decode cX11_restore 12 = .ok (.iconst 0, 1) := by decide +kernel
theorem dX11_restore_13 : decode cX11_restore 13 = .ok (.ireturn, 1) := by decide +kernel
theorem dX11_restore_14 : decode cX11_restore 14 = .ok (.aload_n 0, 1) := by decide +kernel
theorem dX11_restore_15 : decode cX11_restore 15 = .ok (.aload_n 0, 1) := by decide +kernel
theorem dX11_restore_16 : decode cX11_restore 16 = .ok (.getfield 497, 3) := by decide +kernel
theorem dX11_restore_19 : decode cX11_restore 19 = .ok (.putfield 327, 3) := by decide +kernel
theorem dX11_restore_22 : decode cX11_restore 22 = .ok (.aload_n 0, 1) := by decide +kernel
theorem dX11_restore_23 : decode cX11_restore 23 = .ok (.aload_n 0, 1) := by decide +kernel
theorem dX11_restore_24 : decode cX11_restore 24 = .ok (.getfield 500, 3) := by decide +kernel
theorem dX11_restore_27 : decode cX11_restore 27 = .ok (.putfield 330, 3) := by decide +kernel
theorem dX11_restore_30 : decode cX11_restore 30 = .ok (.aload_n 0, 1) := by decide +kernel
theorem dX11_restore_31 : decode cX11_restore 31 = .ok (.aload_n 0, 1) := by decide +kernel
theorem dX11_restore_32 : decode cX11_restore 32 = .ok (.getfield 503, 3) := by decide +kernel
theorem dX11_restore_35 : decode cX11_restore 35 = .ok (.putfield 333, 3) := by decide +kernel
theorem dX11_restore_38 : decode cX11_restore 38 = .ok (.aload_n 0, 1) := by decide +kernel
theorem dX11_restore_39 : decode cX11_restore 39 = .ok (.aload_n 0, 1) := by decide +kernel
theorem dX11_restore_40 : decode cX11_restore 40 = .ok (.getfield 135, 3) := by decide +kernel
theorem dX11_restore_43 : decode cX11_restore 43 = .ok (.iconst 0, 1) := by decide +kernel
theorem dX11_restore_44 : decode cX11_restore 44 = .ok (.invokevirtual 429, 3) := by decide +kernel
theorem dX11_restore_47 : decode cX11_restore 47 = .ok (.aload_n 0, 1) := by decide +kernel
theorem dX11_restore_48 : decode cX11_restore 48 = .ok (.getfield 88, 3) := by decide +kernel
theorem dX11_restore_51 : decode cX11_restore 51 = .ok (.aload_n 0, 1) := by decide +kernel
theorem dX11_restore_52 : decode cX11_restore 52 = .ok (.getfield 138, 3) := by decide +kernel
theorem dX11_restore_55 : decode cX11_restore 55 = .ok (.invokestatic 506, 3) := by decide +kernel
theorem dX11_restore_58 : decode cX11_restore 58 = .ok (.aload_n 0, 1) := by decide +kernel
theorem dX11_restore_59 : decode cX11_restore 59 = .ok (.getfield 120, 3) := by decide +kernel
theorem dX11_restore_62 : decode cX11_restore 62 = .ok (.aload_n 0, 1) := by decide +kernel
theorem dX11_restore_63 : decode cX11_restore 63 = .ok (.getfield 141, 3) := by decide +kernel
theorem dX11_restore_66 : decode cX11_restore 66 = .ok (.invokestatic 506, 3) := by decide +kernel
theorem dX11_restore_69 : decode cX11_restore 69 = .ok (.aload_n 0, 1) := by decide +kernel
theorem dX11_restore_70 : decode cX11_restore 70 = .ok (.getfield 123, 3) := by decide +kernel
theorem dX11_restore_73 : decode cX11_restore 73 = .ok (.aload_n 0, 1) := by decide +kernel
theorem dX11_restore_74 : decode cX11_restore 74 = .ok (.getfield 144, 3) := by decide +kernel
theorem dX11_restore_77 : decode cX11_restore 77 = .ok (.invokestatic 506, 3) := by decide +kernel
theorem dX11_restore_80 : decode cX11_restore 80 = .ok (.aload_n 0, 1) := by decide +kernel
theorem dX11_restore_81 : decode cX11_restore 81 = .ok (.getfield 126, 3) := by decide +kernel
theorem dX11_restore_84 : decode cX11_restore 84 = .ok (.aload_n 0, 1) := by decide +kernel
theorem dX11_restore_85 : decode cX11_restore 85 = .ok (.getfield 147, 3) := by decide +kernel
theorem dX11_restore_88 : decode cX11_restore 88 = .ok (.invokestatic 506, 3) := by decide +kernel
theorem dX11_restore_91 : decode cX11_restore 91 = .ok (.aload_n 0, 1) := by decide +kernel
theorem dX11_restore_92 : decode cX11_restore 92 = .ok (.getfield 129, 3) := by decide +kernel
theorem dX11_restore_95 : decode cX11_restore 95 = .ok (.aload_n 0, 1) := by decide +kernel
theorem dX11_restore_96 : decode cX11_restore 96 = .ok (.getfield 150, 3) := by decide +kernel
theorem dX11_restore_99 : decode cX11_restore 99 = .ok (.invokestatic 506, 3) := by decide +kernel
theorem dX11_restore_102 : decode cX11_restore 102 = .ok (.aload_n 0, 1) := by decide +kernel
theorem dX11_restore_103 : decode cX11_restore 103 = .ok (.getfield 132, 3) := by decide +kernel
theorem dX11_restore_106 : decode cX11_restore 106 = .ok (.aload_n 0, 1) := by decide +kernel
theorem dX11_restore_107 : decode cX11_restore 107 = .ok (.getfield 153, 3) := by decide +kernel
theorem dX11_restore_110 : decode cX11_restore 110 = .ok (.invokestatic 506, 3) := by decide +kernel
theorem dX11_restore_113 : decode cX11_restore 113 = .ok (.aload_n 0, 1) := by decide +kernel
theorem dX11_restore_114 : decode cX11_restore 114 = .ok (.getfield 73, 3) := by decide +kernel
theorem dX11_restore_117 : decode cX11_restore 117 = .ok (.aload_n 0, 1) := by decide +kernel
theorem dX11_restore_118 : decode cX11_restore 118 = .ok (.getfield 156, 3) := by decide +kernel
theorem dX11_restore_121 : decode cX11_restore 121 = .ok (.invokestatic 506, 3) := by decide +kernel
theorem dX11_restore_124 : decode cX11_restore 124 = .ok (.iconst 1, 1) := by decide +kernel
theorem dX11_restore_125 : decode cX11_restore 125 = .ok (.ireturn, 1) := by decide +kernel
def b_X11_restore (I : g_I) : Option (Bool × g_I) :=
  g_let (am_up I 101 2 0) fun I1 => if (I1 101 57) = 0 then some (false, I1) else g_let (am_up I1 101 32 (I1 101 58)) fun I2 => g_let (am_up I2 101 33 (I2 101 59)) fun I3 => g_let (am_up I3 101 34 (I3 101 60)) fun I4 => g_bind (b_X11_unpack I4 136 80 0) fun I6 => g_bind (b_X11_be I6 120 3200 137 3200) fun I9 => g_bind (b_X11_be I9 131 6 138 6) fun I12 => g_bind (b_X11_be I12 132 6 139 6) fun I15 => g_bind (b_X11_be I15 133 6 140 6) fun I18 => g_bind (b_X11_be I18 134 4 141 4) fun I21 => g_bind (b_X11_be I21 135 4 142 4) fun I24 => g_bind (b_X11_be I24 116 3 143 3) fun I27 => some (true, I27)
set_option maxRecDepth 100000 in
set_option maxHeartbeats 4000000 in
theorem g_X11_restore {G : am_G} (hK : k_OK G) {d : Nat} (hd : 1 ≤ d) {sh : List (Nat ⊕ (Nat × Nat))} {I : g_I} {R : Nat → Nat → Option Nat} {L : Nat → Nat → Int64} {g : Nat} (hm : k_Mod sh R) {r : Bool × g_I} (h : b_X11_restore I = some r) : AM G mX11_restore d [.ref 101] (sh, I, R, L, g) (fun v w => v = some (.int (kb r.1)) ∧ w = (sh, r.2, R, L, g)) (fun _ _ => False) := by
  have hG := hK.1
  refine AM.of (n := 0) (by decide +kernel) (Nat.le_of_ble_eq_true rfl) ?_
  show AW G mX11_restore d (fun v w => v = some (.int (kb r.1)) ∧ w = (sh, r.2, R, L, g)) (fun _ _ => False) 0 [some (.ref 101)] [] (sh, I, R, L, g) 0 0
  unfold b_X11_restore at h
  refine AW.aload_n dX11_restore_0 rfl ?_
  refine AW.iconst 0 dX11_restore_1 (by decide) ?_
  refine AW.putI (fX11_159 hG) rfl (vp_nar_int _) rfl (hm.1 0 _ rfl) dX11_restore_2 ?_
  obtain ⟨I1, eI1, h⟩ := g_letE h
  refine AW.namIE eI1 ?_
  refine AW.aload_n dX11_restore_5 rfl ?_
  refine AW.getI (fX11_340 hG).r rfl (hm.1 0 _ rfl) dX11_restore_6 ?_
  refine AW.if_ne 14 dX11_restore_9 (by decide) (fun hc9 => ?_) (fun hc9 => ?_)
  · replace h := g_neg hc9 h
    refine AW.aload_n dX11_restore_14 rfl ?_
    refine AW.aload_n dX11_restore_15 rfl ?_
    refine AW.getI (fX11_497 hG).r rfl (hm.1 0 _ rfl) dX11_restore_16 ?_
    refine AW.putI (fX11_327 hG) rfl (vp_nar_int _) rfl (hm.1 0 _ rfl) dX11_restore_19 ?_
    obtain ⟨I2, eI2, h⟩ := g_letE h
    refine AW.namIE eI2 ?_
    refine AW.aload_n dX11_restore_22 rfl ?_
    refine AW.aload_n dX11_restore_23 rfl ?_
    refine AW.getI (fX11_500 hG).r rfl (hm.1 0 _ rfl) dX11_restore_24 ?_
    refine AW.putI (fX11_330 hG) rfl (vp_nar_int _) rfl (hm.1 0 _ rfl) dX11_restore_27 ?_
    obtain ⟨I3, eI3, h⟩ := g_letE h
    refine AW.namIE eI3 ?_
    refine AW.aload_n dX11_restore_30 rfl ?_
    refine AW.aload_n dX11_restore_31 rfl ?_
    refine AW.getI (fX11_503 hG).r rfl (hm.1 0 _ rfl) dX11_restore_32 ?_
    refine AW.putI (fX11_333 hG) rfl (vp_nar_int _) rfl (hm.1 0 _ rfl) dX11_restore_35 ?_
    obtain ⟨I4, eI4, h⟩ := g_letE h
    refine AW.namIE eI4 ?_
    refine AW.aload_n dX11_restore_38 rfl ?_
    refine AW.aload_n dX11_restore_39 rfl ?_
    refine AW.getR (c' := 136) (fX11_135 hG).r rfl (hm.1 0 _ rfl) (hm.2 (0, 61, 35) (by decide)) dX11_restore_40 ?_
    refine AW.iconst 0 dX11_restore_43 (by decide) ?_
    obtain ⟨I6, hx7, h⟩ := g_bindE h
    refine AW.callV (b := 101) (As := [.ref 136, .int 0]) hG.2.2 (vX11_429 hG) (hm.1 0 _ rfl) (g_X11_unpack hK (d := 0) (Nat.le_refl _) hm (hm.1 35 _ rfl) hx7) (by omega) dX11_restore_44 rfl rfl (Nat.le_of_ble_eq_true rfl) (fun v w9 hq9 h09 => by obtain ⟨rfl, rfl⟩ := hq9; exact ⟨h09, rfl⟩) (by decide) (by decide) (fun _ _ hx => hx) (fun v9 w9 hq9 => ?_)
    obtain ⟨rfl, rfl⟩ := hq9
    show AW G _ d _ _ 47 [some (.ref 101)] [] (sh, I6, R, L, g) 0 0
    refine AW.aload_n dX11_restore_47 rfl ?_
    refine AW.getR (c' := 120) (fX11_88 hG).r rfl (hm.1 0 _ rfl) (hm.2 (0, 29, 19) (by decide)) dX11_restore_48 ?_
    refine AW.aload_n dX11_restore_51 rfl ?_
    refine AW.getR (c' := 137) (fX11_138 hG).r rfl (hm.1 0 _ rfl) (hm.2 (0, 62, 36) (by decide)) dX11_restore_52 ?_
    obtain ⟨I9, hx10, h⟩ := g_bindE h
    refine AW.callS (As := [.ref 120, .ref 137]) hG.2.2 (vX11_506 hG) (g_X11_be hK (d := 0) (Nat.le_refl _) (hm.1 19 _ rfl) (hm.1 36 _ rfl) hx10) (by omega) dX11_restore_55 rfl rfl (Nat.le_of_ble_eq_true rfl) (fun v w9 hq9 h09 => by obtain ⟨rfl, rfl⟩ := hq9; exact ⟨h09, rfl⟩) (by decide) (by decide) (fun _ _ hx => hx) (fun v9 w9 hq9 => ?_)
    obtain ⟨rfl, rfl⟩ := hq9
    show AW G _ d _ _ 58 [some (.ref 101)] [] (sh, I9, R, L, g) 0 0
    refine AW.aload_n dX11_restore_58 rfl ?_
    refine AW.getR (c' := 131) (fX11_120 hG).r rfl (hm.1 0 _ rfl) (hm.2 (0, 51, 30) (by decide)) dX11_restore_59 ?_
    refine AW.aload_n dX11_restore_62 rfl ?_
    refine AW.getR (c' := 138) (fX11_141 hG).r rfl (hm.1 0 _ rfl) (hm.2 (0, 63, 37) (by decide)) dX11_restore_63 ?_
    obtain ⟨I12, hx13, h⟩ := g_bindE h
    refine AW.callS (As := [.ref 131, .ref 138]) hG.2.2 (vX11_506 hG) (g_X11_be hK (d := 0) (Nat.le_refl _) (hm.1 30 _ rfl) (hm.1 37 _ rfl) hx13) (by omega) dX11_restore_66 rfl rfl (Nat.le_of_ble_eq_true rfl) (fun v w9 hq9 h09 => by obtain ⟨rfl, rfl⟩ := hq9; exact ⟨h09, rfl⟩) (by decide) (by decide) (fun _ _ hx => hx) (fun v9 w9 hq9 => ?_)
    obtain ⟨rfl, rfl⟩ := hq9
    show AW G _ d _ _ 69 [some (.ref 101)] [] (sh, I12, R, L, g) 0 0
    refine AW.aload_n dX11_restore_69 rfl ?_
    refine AW.getR (c' := 132) (fX11_123 hG).r rfl (hm.1 0 _ rfl) (hm.2 (0, 52, 31) (by decide)) dX11_restore_70 ?_
    refine AW.aload_n dX11_restore_73 rfl ?_
    refine AW.getR (c' := 139) (fX11_144 hG).r rfl (hm.1 0 _ rfl) (hm.2 (0, 64, 38) (by decide)) dX11_restore_74 ?_
    obtain ⟨I15, hx16, h⟩ := g_bindE h
    refine AW.callS (As := [.ref 132, .ref 139]) hG.2.2 (vX11_506 hG) (g_X11_be hK (d := 0) (Nat.le_refl _) (hm.1 31 _ rfl) (hm.1 38 _ rfl) hx16) (by omega) dX11_restore_77 rfl rfl (Nat.le_of_ble_eq_true rfl) (fun v w9 hq9 h09 => by obtain ⟨rfl, rfl⟩ := hq9; exact ⟨h09, rfl⟩) (by decide) (by decide) (fun _ _ hx => hx) (fun v9 w9 hq9 => ?_)
    obtain ⟨rfl, rfl⟩ := hq9
    show AW G _ d _ _ 80 [some (.ref 101)] [] (sh, I15, R, L, g) 0 0
    refine AW.aload_n dX11_restore_80 rfl ?_
    refine AW.getR (c' := 133) (fX11_126 hG).r rfl (hm.1 0 _ rfl) (hm.2 (0, 53, 32) (by decide)) dX11_restore_81 ?_
    refine AW.aload_n dX11_restore_84 rfl ?_
    refine AW.getR (c' := 140) (fX11_147 hG).r rfl (hm.1 0 _ rfl) (hm.2 (0, 65, 39) (by decide)) dX11_restore_85 ?_
    obtain ⟨I18, hx19, h⟩ := g_bindE h
    refine AW.callS (As := [.ref 133, .ref 140]) hG.2.2 (vX11_506 hG) (g_X11_be hK (d := 0) (Nat.le_refl _) (hm.1 32 _ rfl) (hm.1 39 _ rfl) hx19) (by omega) dX11_restore_88 rfl rfl (Nat.le_of_ble_eq_true rfl) (fun v w9 hq9 h09 => by obtain ⟨rfl, rfl⟩ := hq9; exact ⟨h09, rfl⟩) (by decide) (by decide) (fun _ _ hx => hx) (fun v9 w9 hq9 => ?_)
    obtain ⟨rfl, rfl⟩ := hq9
    show AW G _ d _ _ 91 [some (.ref 101)] [] (sh, I18, R, L, g) 0 0
    refine AW.aload_n dX11_restore_91 rfl ?_
    refine AW.getR (c' := 134) (fX11_129 hG).r rfl (hm.1 0 _ rfl) (hm.2 (0, 54, 33) (by decide)) dX11_restore_92 ?_
    refine AW.aload_n dX11_restore_95 rfl ?_
    refine AW.getR (c' := 141) (fX11_150 hG).r rfl (hm.1 0 _ rfl) (hm.2 (0, 66, 40) (by decide)) dX11_restore_96 ?_
    obtain ⟨I21, hx22, h⟩ := g_bindE h
    refine AW.callS (As := [.ref 134, .ref 141]) hG.2.2 (vX11_506 hG) (g_X11_be hK (d := 0) (Nat.le_refl _) (hm.1 33 _ rfl) (hm.1 40 _ rfl) hx22) (by omega) dX11_restore_99 rfl rfl (Nat.le_of_ble_eq_true rfl) (fun v w9 hq9 h09 => by obtain ⟨rfl, rfl⟩ := hq9; exact ⟨h09, rfl⟩) (by decide) (by decide) (fun _ _ hx => hx) (fun v9 w9 hq9 => ?_)
    obtain ⟨rfl, rfl⟩ := hq9
    show AW G _ d _ _ 102 [some (.ref 101)] [] (sh, I21, R, L, g) 0 0
    refine AW.aload_n dX11_restore_102 rfl ?_
    refine AW.getR (c' := 135) (fX11_132 hG).r rfl (hm.1 0 _ rfl) (hm.2 (0, 55, 34) (by decide)) dX11_restore_103 ?_
    refine AW.aload_n dX11_restore_106 rfl ?_
    refine AW.getR (c' := 142) (fX11_153 hG).r rfl (hm.1 0 _ rfl) (hm.2 (0, 67, 41) (by decide)) dX11_restore_107 ?_
    obtain ⟨I24, hx25, h⟩ := g_bindE h
    refine AW.callS (As := [.ref 135, .ref 142]) hG.2.2 (vX11_506 hG) (g_X11_be hK (d := 0) (Nat.le_refl _) (hm.1 34 _ rfl) (hm.1 41 _ rfl) hx25) (by omega) dX11_restore_110 rfl rfl (Nat.le_of_ble_eq_true rfl) (fun v w9 hq9 h09 => by obtain ⟨rfl, rfl⟩ := hq9; exact ⟨h09, rfl⟩) (by decide) (by decide) (fun _ _ hx => hx) (fun v9 w9 hq9 => ?_)
    obtain ⟨rfl, rfl⟩ := hq9
    show AW G _ d _ _ 113 [some (.ref 101)] [] (sh, I24, R, L, g) 0 0
    refine AW.aload_n dX11_restore_113 rfl ?_
    refine AW.getR (c' := 116) (fX11_73 hG).r rfl (hm.1 0 _ rfl) (hm.2 (0, 15, 15) (by decide)) dX11_restore_114 ?_
    refine AW.aload_n dX11_restore_117 rfl ?_
    refine AW.getR (c' := 143) (fX11_156 hG).r rfl (hm.1 0 _ rfl) (hm.2 (0, 68, 42) (by decide)) dX11_restore_118 ?_
    obtain ⟨I27, hx28, h⟩ := g_bindE h
    refine AW.callS (As := [.ref 116, .ref 143]) hG.2.2 (vX11_506 hG) (g_X11_be hK (d := 0) (Nat.le_refl _) (hm.1 15 _ rfl) (hm.1 42 _ rfl) hx28) (by omega) dX11_restore_121 rfl rfl (Nat.le_of_ble_eq_true rfl) (fun v w9 hq9 h09 => by obtain ⟨rfl, rfl⟩ := hq9; exact ⟨h09, rfl⟩) (by decide) (by decide) (fun _ _ hx => hx) (fun v9 w9 hq9 => ?_)
    obtain ⟨rfl, rfl⟩ := hq9
    show AW G _ d _ _ 124 [some (.ref 101)] [] (sh, I27, R, L, g) 0 0
    refine AW.iconst 1 dX11_restore_124 (by decide) ?_
    exact AW.zret dX11_restore_125 rfl (by decide) (by decide) (by decide) (by cases h; exact ⟨rfl, rfl⟩)
  · replace h := g_pos hc9 h
    refine AW.iconst 0 dX11_restore_12 (by decide) ?_
    exact AW.zret dX11_restore_13 rfl (by decide) (by decide) (by decide) (by cases h; exact ⟨rfl, rfl⟩)
