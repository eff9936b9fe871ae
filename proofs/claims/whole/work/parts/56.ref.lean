/-! 56.ref (printed by s52.py) -/
theorem dX11_unpack_0 : decode cX11_unpack 0 = .ok (.aload_n 0, 1) := by decide +kernel
theorem dX11_unpack_1 : decode cX11_unpack 1 = .ok (.aload_n 1, 1) := by decide +kernel
theorem dX11_unpack_2 : decode cX11_unpack 2 = .ok (.iload_n 2, 1) := by decide +kernel
theorem dX11_unpack_3 : decode cX11_unpack 3 = .ok (.iaload, 1) := by decide +kernel
theorem dX11_unpack_4 : decode cX11_unpack 4 = .ok (.putfield 321, 3) := by decide +kernel
theorem dX11_unpack_7 : decode cX11_unpack 7 = .ok (.aload_n 0, 1) := by decide +kernel
theorem dX11_unpack_8 : decode cX11_unpack 8 = .ok (.aload_n 1, 1) := by decide +kernel
theorem dX11_unpack_9 : decode cX11_unpack 9 = .ok (.iload_n 2, 1) := by decide +kernel
theorem dX11_unpack_10 : decode cX11_unpack 10 = .ok (.iconst 1, 1) := by decide +kernel
theorem dX11_unpack_11 : decode cX11_unpack 11 = .ok (.iadd, 1) := by decide +kernel
theorem dX11_unpack_12 : decode cX11_unpack 12 = .ok (.iaload, 1) := by decide +kernel
theorem dX11_unpack_13 : decode cX11_unpack 13 = .ok (.putfield 324, 3) := by decide +kernel
theorem dX11_unpack_16 : decode cX11_unpack 16 = .ok (.iload_n 2, 1) := by decide +kernel
theorem dX11_unpack_17 : decode cX11_unpack 17 = .ok (.iconst 2, 1) := by decide +kernel
theorem dX11_unpack_18 : decode cX11_unpack 18 = .ok (.iadd, 1) := by decide +kernel
theorem dX11_unpack_19 : decode cX11_unpack 19 = .ok (.istore_n 3, 1) := by decide +kernel
theorem dX11_unpack_20 : decode cX11_unpack 20 = .ok (.iconst 0, 1) := by decide +kernel
theorem dX11_unpack_21 : decode cX11_unpack 21 = .ok (.istore 4, 2) := by decide +kernel
theorem dX11_unpack_23 : decode cX11_unpack 23 = .ok (.iload 4, 2) := by decide +kernel
theorem dX11_unpack_25 : decode cX11_unpack 25 = .ok (.bipush 64, 2) := by decide +kernel
theorem dX11_unpack_27 : decode cX11_unpack 27 = .ok (.if_icmp .ge 22, 3) := by decide +kernel
theorem dX11_unpack_30 : decode cX11_unpack 30 = .ok (.aload_n 0, 1) := by decide +kernel
theorem dX11_unpack_31 : decode cX11_unpack 31 = .ok (.getfield 67, 3) := by decide +kernel
theorem dX11_unpack_34 : decode cX11_unpack 34 = .ok (.iload 4, 2) := by decide +kernel
theorem dX11_unpack_36 : decode cX11_unpack 36 = .ok (.aload_n 1, 1) := by decide +kernel
theorem dX11_unpack_37 : decode cX11_unpack 37 = .ok (.iload_n 3, 1) := by decide +kernel
theorem dX11_unpack_38 : decode cX11_unpack 38 = .ok (.iload 4, 2) := by decide +kernel
theorem dX11_unpack_40 : decode cX11_unpack 40 = .ok (.iadd, 1) := by decide +kernel
theorem dX11_unpack_41 : decode cX11_unpack 41 = .ok (.iaload, 1) := by decide +kernel
theorem dX11_unpack_42 : decode cX11_unpack 42 = .ok (.iastore, 1) := by decide +kernel
theorem dX11_unpack_43 : decode cX11_unpack 43 = .ok (.iinc 4 1, 3) := by decide +kernel
theorem dX11_unpack_46 : decode cX11_unpack 46 = .ok (.goto (-23), 3) := by decide +kernel
theorem dX11_unpack_49 : decode cX11_unpack 49 = .ok (.iinc 3 64, 3) := by decide +kernel
theorem dX11_unpack_52 : decode cX11_unpack 52 = .ok (.iconst 0, 1) := by decide +kernel
theorem dX11_unpack_53 : decode cX11_unpack 53 = .ok (.istore 4, 2) := by decide +kernel
theorem dX11_unpack_55 : decode cX11_unpack 55 = .ok (.iload 4, 2) := by decide +kernel
theorem dX11_unpack_57 : decode cX11_unpack 57 = .ok (.bipush 6, 2) := by decide +kernel
theorem dX11_unpack_59 : decode cX11_unpack 59 = .ok (.if_icmp .ge 22, 3) := by decide +kernel
theorem dX11_unpack_62 : decode cX11_unpack 62 = .ok (.aload_n 0, 1) := by decide +kernel
theorem dX11_unpack_63 : decode cX11_unpack 63 = .ok (.getfield 83, 3) := by decide +kernel
theorem dX11_unpack_66 : decode cX11_unpack 66 = .ok (.iload 4, 2) := by decide +kernel
theorem dX11_unpack_68 : decode cX11_unpack 68 = .ok (.aload_n 1, 1) := by decide +kernel
theorem dX11_unpack_69 : decode cX11_unpack 69 = .ok (.iload_n 3, 1) := by decide +kernel
theorem dX11_unpack_70 : decode cX11_unpack 70 = .ok (.iload 4, 2) := by decide +kernel
theorem dX11_unpack_72 : decode cX11_unpack 72 = .ok (.iadd, 1) := by decide +kernel
theorem dX11_unpack_73 : decode cX11_unpack 73 = .ok (.iaload, 1) := by decide +kernel
theorem dX11_unpack_74 : decode cX11_unpack 74 = .ok (.iastore, 1) := by decide +kernel
theorem dX11_unpack_75 : decode cX11_unpack 75 = .ok (.iinc 4 1, 3) := by decide +kernel
theorem dX11_unpack_78 : decode cX11_unpack 78 = .ok (.goto (-23), 3) := by decide +kernel
theorem dX11_unpack_81 : decode cX11_unpack 81 = .ok (.iconst 0, 1) := by decide +kernel
theorem dX11_unpack_82 : decode cX11_unpack 82 = .ok (.istore 4, 2) := by decide +kernel
theorem dX11_unpack_84 : decode cX11_unpack 84 = .ok (.iload 4, 2) := by decide +kernel
theorem dX11_unpack_86 : decode cX11_unpack 86 = .ok (.bipush 8, 2) := by decide +kernel
theorem dX11_unpack_88 : decode cX11_unpack 88 = .ok (.if_icmp .ge 25, 3) := by decide +kernel
theorem dX11_unpack_91 : decode cX11_unpack 91 = .ok (.aload_n 0, 1) := by decide +kernel
theorem dX11_unpack_92 : decode cX11_unpack 92 = .ok (.getfield 86, 3) := by decide +kernel
theorem dX11_unpack_95 : decode cX11_unpack 95 = .ok (.iload 4, 2) := by decide +kernel
theorem dX11_unpack_97 : decode cX11_unpack 97 = .ok (.aload_n 1, 1) := by decide +kernel
theorem dX11_unpack_98 : decode cX11_unpack 98 = .ok (.iload_n 3, 1) := by decide +kernel
theorem dX11_unpack_99 : decode cX11_unpack 99 = .ok (.bipush 6, 2) := by decide +kernel
theorem dX11_unpack_101 : decode cX11_unpack 101 = .ok (.iadd, 1) := by decide +kernel
theorem dX11_unpack_102 : decode cX11_unpack 102 = .ok (.iload 4, 2) := by decide +kernel
theorem dX11_unpack_104 : decode cX11_unpack 104 = .ok (.iadd, 1) := by decide +kernel
theorem dX11_unpack_105 : decode cX11_unpack 105 = .ok (.iaload, 1) := by decide +kernel
theorem dX11_unpack_106 : decode cX11_unpack 106 = .ok (.iastore, 1) := by decide +kernel
theorem dX11_unpack_107 : decode cX11_unpack 107 = .ok (.iinc 4 1, 3) := by decide +kernel
theorem dX11_unpack_110 : decode cX11_unpack 110 = .ok (.goto (-26), 3) := by decide +kernel
theorem dX11_unpack_113 : decode cX11_unpack 113 = .ok (.return_, 1) := by decide +kernel
def b_X11_unpack_L23 (c1 n1 : Nat) (y3 : Int32) (K : g_I → Option (g_I)) : Nat → Int32 → g_I → Option (g_I)
  | 0, _, _ => none
  | f + 1, x4, I => if 64 ≤ x4 then K I else if g_in (y3 + x4) n1 = true then if g_in x4 128 = true then g_let (am_up I 114 x4.toNatClampNeg (I c1 (y3 + x4).toNatClampNeg)) fun I4 => b_X11_unpack_L23 c1 n1 y3 K f (x4 + 1) I4 else none else none
def b_X11_unpack_L55 (c1 n1 : Nat) (y3 : Int32) (K : g_I → Option (g_I)) : Nat → Int32 → g_I → Option (g_I)
  | 0, _, _ => none
  | f + 1, x4, I => if 6 ≤ x4 then K I else if g_in (y3 + x4) n1 = true then if g_in x4 6 = true then g_let (am_up I 118 x4.toNatClampNeg (I c1 (y3 + x4).toNatClampNeg)) fun I6 => b_X11_unpack_L55 c1 n1 y3 K f (x4 + 1) I6 else none else none
def b_X11_unpack_L84 (c1 n1 : Nat) (y3 : Int32) (K : g_I → Option (g_I)) : Nat → Int32 → g_I → Option (g_I)
  | 0, _, _ => none
  | f + 1, x4, I => if 8 ≤ x4 then K I else if g_in ((y3 + 6) + x4) n1 = true then if g_in x4 8 = true then g_let (am_up I 119 x4.toNatClampNeg (I c1 ((y3 + 6) + x4).toNatClampNeg)) fun I8 => b_X11_unpack_L84 c1 n1 y3 K f (x4 + 1) I8 else none else none
def b_X11_unpack (I : g_I) (c1 : Nat) (n1 : Nat) (x2 : Int32) : Option (g_I) :=
  if g_in x2 n1 = true then g_let (am_up I 101 30 (I c1 x2.toNatClampNeg)) fun I1 => if g_in (x2 + 1) n1 = true then g_let (am_up I1 101 31 (I1 c1 (x2 + 1).toNatClampNeg)) fun I2 => g_let (x2 + 2) fun a3 => b_X11_unpack_L23 c1 n1 a3 (fun (I5 : g_I) => b_X11_unpack_L55 c1 n1 (a3 + 64) (fun (I7 : g_I) => b_X11_unpack_L84 c1 n1 (a3 + 64) (fun (I9 : g_I) => some I9) fu 0 I7) fu 0 I5) fu 0 I2 else none else none
set_option maxRecDepth 100000 in
set_option maxHeartbeats 4000000 in
theorem gL_X11_unpack_23 {G : am_G} (hK : k_OK G) {c1 n1 : Nat} {d : Nat} (hd : 0 ≤ d) {sh : List (Nat ⊕ (Nat × Nat))} {I : g_I} {R : Nat → Nat → Option Nat} {L : Nat → Nat → Int64} {g : Nat} (hm : k_Mod sh R) (hc1 : sh[c1]? = some (.inr (0, n1))) {y3 : Int32} {K : g_I → Option (g_I)} {x4 : Int32} {f : Nat} {r : g_I} (h : b_X11_unpack_L23 c1 n1 y3 K f x4 I = some r) (hk : ∀ (J : g_I), K J = some r → AW G mX11_unpack d (fun v w => v = none ∧ w = (sh, r, R, L, g)) (fun _ _ => False) 49 [some (.ref 101), some (.ref c1), none, some (.int y3), none] [] (sh, J, R, L, g) 0 0) : AW G mX11_unpack d (fun v w => v = none ∧ w = (sh, r, R, L, g)) (fun _ _ => False) 23 [some (.ref 101), some (.ref c1), none, some (.int y3), some (.int x4)] [] (sh, I, R, L, g) 0 0 := by
  have hG := hK.1
  induction f generalizing x4 I with
  | zero => rw [b_X11_unpack_L23] at h; cases h
  | succ f ih =>
    rw [b_X11_unpack_L23] at h
    refine AW.iload dX11_unpack_23 rfl ?_
    refine AW.bipush 64 dX11_unpack_25 (by decide) ?_
    refine AW.icmp_ge 49 dX11_unpack_27 (by decide) (fun hc27 => ?_) (fun hc27 => ?_)
    · replace h := g_pos hc27 h
      refine AW.mask [4] [some (.ref 101), some (.ref c1), none, some (.int y3), none] rfl ?_
      exact hk _ h
    · replace h := g_neg hc27 h
      refine AW.aload_n dX11_unpack_30 rfl ?_
      refine AW.getR (c' := 114) (fX11_67 hG).r rfl (hm.1 0 _ rfl) (hm.2 (0, 13, 13) (by decide)) dX11_unpack_31 ?_
      refine AW.iload dX11_unpack_34 rfl ?_
      refine AW.aload_n dX11_unpack_36 rfl ?_
      refine AW.iload_n dX11_unpack_37 rfl ?_
      refine AW.iload dX11_unpack_38 rfl ?_
      refine AW.iadd dX11_unpack_40 ?_
      obtain ⟨hb, h⟩ := g_ifE h
      refine AW.iald hc1 (g_in_iff.mp hb) dX11_unpack_41 ?_
      obtain ⟨hb, h⟩ := g_ifE h
      refine AW.iast (hm.1 13 _ rfl) (g_in_iff.mp hb) dX11_unpack_42 ?_
      obtain ⟨I4, eI4, h⟩ := g_letE h
      refine AW.namIE eI4 ?_
      refine AW.incE 1 (by decide) [some (.ref 101), some (.ref c1), none, some (.int y3), some (.int (x4 + 1))] dX11_unpack_43 rfl (by decide) rfl rfl ?_
      refine AW.goto 23 dX11_unpack_46 (by decide) ?_
      exact ih h
set_option maxRecDepth 100000 in
set_option maxHeartbeats 4000000 in
theorem gL_X11_unpack_55 {G : am_G} (hK : k_OK G) {c1 n1 : Nat} {d : Nat} (hd : 0 ≤ d) {sh : List (Nat ⊕ (Nat × Nat))} {I : g_I} {R : Nat → Nat → Option Nat} {L : Nat → Nat → Int64} {g : Nat} (hm : k_Mod sh R) (hc1 : sh[c1]? = some (.inr (0, n1))) {y3 : Int32} {K : g_I → Option (g_I)} {x4 : Int32} {f : Nat} {r : g_I} (h : b_X11_unpack_L55 c1 n1 y3 K f x4 I = some r) (hk : ∀ (J : g_I), K J = some r → AW G mX11_unpack d (fun v w => v = none ∧ w = (sh, r, R, L, g)) (fun _ _ => False) 81 [some (.ref 101), some (.ref c1), none, some (.int y3), none] [] (sh, J, R, L, g) 0 0) : AW G mX11_unpack d (fun v w => v = none ∧ w = (sh, r, R, L, g)) (fun _ _ => False) 55 [some (.ref 101), some (.ref c1), none, some (.int y3), some (.int x4)] [] (sh, I, R, L, g) 0 0 := by
  have hG := hK.1
  induction f generalizing x4 I with
  | zero => rw [b_X11_unpack_L55] at h; cases h
  | succ f ih =>
    rw [b_X11_unpack_L55] at h
    refine AW.iload dX11_unpack_55 rfl ?_
    refine AW.bipush 6 dX11_unpack_57 (by decide) ?_
    refine AW.icmp_ge 81 dX11_unpack_59 (by decide) (fun hc59 => ?_) (fun hc59 => ?_)
    · replace h := g_pos hc59 h
      refine AW.mask [4] [some (.ref 101), some (.ref c1), none, some (.int y3), none] rfl ?_
      exact hk _ h
    · replace h := g_neg hc59 h
      refine AW.aload_n dX11_unpack_62 rfl ?_
      refine AW.getR (c' := 118) (fX11_83 hG).r rfl (hm.1 0 _ rfl) (hm.2 (0, 27, 17) (by decide)) dX11_unpack_63 ?_
      refine AW.iload dX11_unpack_66 rfl ?_
      refine AW.aload_n dX11_unpack_68 rfl ?_
      refine AW.iload_n dX11_unpack_69 rfl ?_
      refine AW.iload dX11_unpack_70 rfl ?_
      refine AW.iadd dX11_unpack_72 ?_
      obtain ⟨hb, h⟩ := g_ifE h
      refine AW.iald hc1 (g_in_iff.mp hb) dX11_unpack_73 ?_
      obtain ⟨hb, h⟩ := g_ifE h
      refine AW.iast (hm.1 17 _ rfl) (g_in_iff.mp hb) dX11_unpack_74 ?_
      obtain ⟨I6, eI6, h⟩ := g_letE h
      refine AW.namIE eI6 ?_
      refine AW.incE 1 (by decide) [some (.ref 101), some (.ref c1), none, some (.int y3), some (.int (x4 + 1))] dX11_unpack_75 rfl (by decide) rfl rfl ?_
      refine AW.goto 55 dX11_unpack_78 (by decide) ?_
      exact ih h
set_option maxRecDepth 100000 in
set_option maxHeartbeats 4000000 in
theorem gL_X11_unpack_84 {G : am_G} (hK : k_OK G) {c1 n1 : Nat} {d : Nat} (hd : 0 ≤ d) {sh : List (Nat ⊕ (Nat × Nat))} {I : g_I} {R : Nat → Nat → Option Nat} {L : Nat → Nat → Int64} {g : Nat} (hm : k_Mod sh R) (hc1 : sh[c1]? = some (.inr (0, n1))) {y3 : Int32} {K : g_I → Option (g_I)} {x4 : Int32} {f : Nat} {r : g_I} (h : b_X11_unpack_L84 c1 n1 y3 K f x4 I = some r) (hk : ∀ (J : g_I), K J = some r → AW G mX11_unpack d (fun v w => v = none ∧ w = (sh, r, R, L, g)) (fun _ _ => False) 113 [none, none, none, none, none] [] (sh, J, R, L, g) 0 0) : AW G mX11_unpack d (fun v w => v = none ∧ w = (sh, r, R, L, g)) (fun _ _ => False) 84 [some (.ref 101), some (.ref c1), none, some (.int y3), some (.int x4)] [] (sh, I, R, L, g) 0 0 := by
  have hG := hK.1
  induction f generalizing x4 I with
  | zero => rw [b_X11_unpack_L84] at h; cases h
  | succ f ih =>
    rw [b_X11_unpack_L84] at h
    refine AW.iload dX11_unpack_84 rfl ?_
    refine AW.bipush 8 dX11_unpack_86 (by decide) ?_
    refine AW.icmp_ge 113 dX11_unpack_88 (by decide) (fun hc88 => ?_) (fun hc88 => ?_)
    · replace h := g_pos hc88 h
      refine AW.mask [0, 1, 3, 4] [none, none, none, none, none] rfl ?_
      exact hk _ h
    · replace h := g_neg hc88 h
      refine AW.aload_n dX11_unpack_91 rfl ?_
      refine AW.getR (c' := 119) (fX11_86 hG).r rfl (hm.1 0 _ rfl) (hm.2 (0, 28, 18) (by decide)) dX11_unpack_92 ?_
      refine AW.iload dX11_unpack_95 rfl ?_
      refine AW.aload_n dX11_unpack_97 rfl ?_
      refine AW.iload_n dX11_unpack_98 rfl ?_
      refine AW.bipush 6 dX11_unpack_99 (by decide) ?_
      refine AW.iadd dX11_unpack_101 ?_
      refine AW.iload dX11_unpack_102 rfl ?_
      refine AW.iadd dX11_unpack_104 ?_
      obtain ⟨hb, h⟩ := g_ifE h
      refine AW.iald hc1 (g_in_iff.mp hb) dX11_unpack_105 ?_
      obtain ⟨hb, h⟩ := g_ifE h
      refine AW.iast (hm.1 18 _ rfl) (g_in_iff.mp hb) dX11_unpack_106 ?_
      obtain ⟨I8, eI8, h⟩ := g_letE h
      refine AW.namIE eI8 ?_
      refine AW.incE 1 (by decide) [some (.ref 101), some (.ref c1), none, some (.int y3), some (.int (x4 + 1))] dX11_unpack_107 rfl (by decide) rfl rfl ?_
      refine AW.goto 84 dX11_unpack_110 (by decide) ?_
      exact ih h
set_option maxRecDepth 100000 in
set_option maxHeartbeats 4000000 in
theorem g_X11_unpack {G : am_G} (hK : k_OK G) {d : Nat} (hd : 0 ≤ d) {sh : List (Nat ⊕ (Nat × Nat))} {I : g_I} {R : Nat → Nat → Option Nat} {L : Nat → Nat → Int64} {g : Nat} (hm : k_Mod sh R) {c1 n1 : Nat} {x2 : Int32} (hc1 : sh[c1]? = some (.inr (0, n1))) {r : g_I} (h : b_X11_unpack I c1 n1 x2 = some r) : AM G mX11_unpack d [.ref 101, .ref c1, .int x2] (sh, I, R, L, g) (fun v w => v = none ∧ w = (sh, r, R, L, g)) (fun _ _ => False) := by
  have hG := hK.1
  refine AM.of (n := 2) (by decide +kernel) (Nat.le_of_ble_eq_true rfl) ?_
  show AW G mX11_unpack d (fun v w => v = none ∧ w = (sh, r, R, L, g)) (fun _ _ => False) 0 [some (.ref 101), some (.ref c1), some (.int x2), none, none] [] (sh, I, R, L, g) 0 0
  unfold b_X11_unpack at h
  refine AW.aload_n dX11_unpack_0 rfl ?_
  refine AW.aload_n dX11_unpack_1 rfl ?_
  refine AW.iload_n dX11_unpack_2 rfl ?_
  obtain ⟨hb, h⟩ := g_ifE h
  refine AW.iald hc1 (g_in_iff.mp hb) dX11_unpack_3 ?_
  refine AW.putI (fX11_321 hG) rfl (vp_nar_int _) rfl (hm.1 0 _ rfl) dX11_unpack_4 ?_
  obtain ⟨I1, eI1, h⟩ := g_letE h
  refine AW.namIE eI1 ?_
  refine AW.aload_n dX11_unpack_7 rfl ?_
  refine AW.aload_n dX11_unpack_8 rfl ?_
  refine AW.iload_n dX11_unpack_9 rfl ?_
  refine AW.iconst 1 dX11_unpack_10 (by decide) ?_
  refine AW.iadd dX11_unpack_11 ?_
  obtain ⟨hb, h⟩ := g_ifE h
  refine AW.iald hc1 (g_in_iff.mp hb) dX11_unpack_12 ?_
  refine AW.putI (fX11_324 hG) rfl (vp_nar_int _) rfl (hm.1 0 _ rfl) dX11_unpack_13 ?_
  obtain ⟨I2, eI2, h⟩ := g_letE h
  refine AW.namIE eI2 ?_
  refine AW.iload_n dX11_unpack_16 rfl ?_
  refine AW.iconst 2 dX11_unpack_17 (by decide) ?_
  refine AW.iadd dX11_unpack_18 ?_
  obtain ⟨a3, ea3, h⟩ := g_letE h
  refine AW.namE ea3 ?_
  refine AW.is_n [some (.ref 101), some (.ref c1), some (.int x2), some (.int a3), none] dX11_unpack_19 (by decide) rfl rfl ?_
  refine AW.iconst 0 dX11_unpack_20 (by decide) ?_
  refine AW.is [some (.ref 101), some (.ref c1), some (.int x2), some (.int a3), some (.int 0)] dX11_unpack_21 (by decide) rfl rfl ?_
  refine AW.mask [2] [some (.ref 101), some (.ref c1), none, some (.int a3), some (.int 0)] rfl ?_
  refine gL_X11_unpack_23 hK hd hm hc1 h (fun I5 h => ?_)
  refine AW.incE 64 (by decide) [some (.ref 101), some (.ref c1), none, some (.int (a3 + 64)), none] dX11_unpack_49 rfl (by decide) rfl rfl ?_
  refine AW.iconst 0 dX11_unpack_52 (by decide) ?_
  refine AW.is [some (.ref 101), some (.ref c1), none, some (.int (a3 + 64)), some (.int 0)] dX11_unpack_53 (by decide) rfl rfl ?_
  refine gL_X11_unpack_55 hK hd hm hc1 h (fun I7 h => ?_)
  refine AW.iconst 0 dX11_unpack_81 (by decide) ?_
  refine AW.is [some (.ref 101), some (.ref c1), none, some (.int (a3 + 64)), some (.int 0)] dX11_unpack_82 (by decide) rfl rfl ?_
  refine gL_X11_unpack_84 hK hd hm hc1 h (fun I9 h => ?_)
  exact AW.vret dX11_unpack_113 rfl (by decide) (by decide) (by cases h; exact ⟨rfl, rfl⟩)
theorem dX11_twinOf_0 : decode cX11_twinOf 0 = .ok (.aload_n 0, 1) := by decide +kernel
theorem dX11_twinOf_1 : decode cX11_twinOf 1 = .ok (.getfield 42, 3) := by decide +kernel
theorem dX11_twinOf_4 : decode cX11_twinOf 4 = .ok (.iload_n 1, 1) := by decide +kernel
theorem dX11_twinOf_5 : decode cX11_twinOf 5 = .ok (.iaload, 1) := by decide +kernel
theorem dX11_twinOf_6 : decode cX11_twinOf 6 = .ok (.iconst 3, 1) := by decide +kernel
theorem dX11_twinOf_7 : decode cX11_twinOf 7 = .ok (.if_icmp .ne 7, 3) := by decide +kernel
theorem dX11_twinOf_10 : decode cX11_twinOf 10 = .ok (.iload_n 1, 1) := by decide +kernel
theorem dX11_twinOf_11 : decode cX11_twinOf 11 = .ok (.iconst 1, 1) := by decide +kernel
theorem dX11_twinOf_12 : decode cX11_twinOf 12 = .ok (.isub, 1) := by decide +kernel
theorem dX11_twinOf_13 : decode cX11_twinOf 13 = .ok (.ireturn, 1) := by decide +kernel
theorem dX11_twinOf_14 : decode cX11_twinOf 14 = .ok (.iload_n 1, 1) := by decide +kernel
theorem dX11_twinOf_15 : decode cX11_twinOf 15 = .ok (.iconst 1, 1) := by decide +kernel
theorem dX11_twinOf_16 : decode cX11_twinOf 16 = .ok (.iadd, 1) := by decide +kernel
theorem dX11_twinOf_17 : decode cX11_twinOf 17 = .ok (.aload_n 0, 1) := by decide +kernel
theorem dX11_twinOf_18 : decode cX11_twinOf 18 = .ok (.getfield 38, 3) := by decide +kernel
theorem dX11_twinOf_21 : decode cX11_twinOf 21 = .ok (.iconst 0, 1) := by decide +kernel
theorem dX11_twinOf_22 : decode cX11_twinOf 22 = .ok (.iaload, 1) := by decide +kernel
theorem dX11_twinOf_23 : decode cX11_twinOf 23 = .ok (.if_icmp .ge 21, 3) := by decide +kernel
theorem dX11_twinOf_26 : decode cX11_twinOf 26 = .ok (.aload_n 0, 1) := by decide +kernel
theorem dX11_twinOf_27 : decode cX11_twinOf 27 = .ok (.getfield 42, 3) := by decide +kernel
theorem dX11_twinOf_30 : decode cX11_twinOf 30 = .ok (.iload_n 1, 1) := by decide +kernel
theorem dX11_twinOf_31 : decode cX11_twinOf 31 = .ok (.iconst 1, 1) := by decide +kernel
theorem dX11_twinOf_32 : decode cX11_twinOf 32 = .ok (.iadd, 1) := by decide +kernel
theorem dX11_twinOf_33 : decode cX11_twinOf 33 = .ok (.iaload, 1) := by decide +kernel
theorem dX11_twinOf_34 : decode cX11_twinOf 34 = .ok (.iconst 3, 1) := by decide +kernel
theorem dX11_twinOf_35 : decode cX11_twinOf 35 = .ok (.if_icmp .ne 9, 3) := by decide +kernel
theorem dX11_twinOf_38 : decode cX11_twinOf 38 = .ok (.iload_n 1, 1) := by decide +kernel
theorem dX11_twinOf_39 : decode cX11_twinOf 39 = .ok (.iconst 1, 1) := by decide +kernel
theorem dX11_twinOf_40 : decode cX11_twinOf 40 = .ok (.iadd, 1) := by decide +kernel
theorem dX11_twinOf_41 : decode cX11_twinOf 41 = .ok (.goto 4, 3) := by decide +kernel
theorem dX11_twinOf_44 : decode cX11_twinOf 44 = .ok (.iconst (-1), 1) := by decide +kernel
theorem dX11_twinOf_45 : decode cX11_twinOf 45 = .ok (.ireturn, 1) := by decide +kernel
def b_X11_twinOf (I : g_I) (x1 : Int32) : Option (Int32) :=
  if g_in x1 16 = true then if (I 105 x1.toNatClampNeg) = 3 then some (x1 - 1) else if (I 104 0) ≤ (x1 + 1) then some (-1) else if g_in (x1 + 1) 16 = true then if (I 105 (x1 + 1).toNatClampNeg) = 3 then some (x1 + 1) else some (-1) else none else none
set_option maxRecDepth 100000 in
set_option maxHeartbeats 4000000 in
theorem g_X11_twinOf {G : am_G} (hK : k_OK G) {d : Nat} (hd : 0 ≤ d) {sh : List (Nat ⊕ (Nat × Nat))} {I : g_I} {R : Nat → Nat → Option Nat} {L : Nat → Nat → Int64} {g : Nat} (hm : k_Mod sh R) {x1 : Int32} {r : Int32} (h : b_X11_twinOf I x1 = some r) : AM G mX11_twinOf d [.ref 101, .int x1] (sh, I, R, L, g) (fun v w => v = some (.int r) ∧ w = (sh, I, R, L, g)) (fun _ _ => False) := by
  have hG := hK.1
  refine AM.of (n := 0) (by decide +kernel) (Nat.le_of_ble_eq_true rfl) ?_
  show AW G mX11_twinOf d (fun v w => v = some (.int r) ∧ w = (sh, I, R, L, g)) (fun _ _ => False) 0 [some (.ref 101), some (.int x1)] [] (sh, I, R, L, g) 0 0
  unfold b_X11_twinOf at h
  refine AW.aload_n dX11_twinOf_0 rfl ?_
  refine AW.getR (c' := 105) (fX11_42 hG).r rfl (hm.1 0 _ rfl) (hm.2 (0, 4, 4) (by decide)) dX11_twinOf_1 ?_
  refine AW.iload_n dX11_twinOf_4 rfl ?_
  obtain ⟨hb, h⟩ := g_ifE h
  refine AW.iald (hm.1 4 _ rfl) (g_in_iff.mp hb) dX11_twinOf_5 ?_
  refine AW.iconst 3 dX11_twinOf_6 (by decide) ?_
  refine AW.icmp_ne 14 dX11_twinOf_7 (by decide) (fun hc7 => ?_) (fun hc7 => ?_)
  · replace h := g_neg hc7 h
    refine AW.iload_n dX11_twinOf_14 rfl ?_
    refine AW.iconst 1 dX11_twinOf_15 (by decide) ?_
    refine AW.iadd dX11_twinOf_16 ?_
    refine AW.aload_n dX11_twinOf_17 rfl ?_
    refine AW.getR (c' := 104) (fX11_38 hG).r rfl (hm.1 0 _ rfl) (hm.2 (0, 3, 3) (by decide)) dX11_twinOf_18 ?_
    refine AW.iconst 0 dX11_twinOf_21 (by decide) ?_
    refine AW.iald (hm.1 3 _ rfl) (by unfold vp_in; decide) dX11_twinOf_22 ?_
    show AW G _ d _ _ 23 [some (.ref 101), some (.int x1)] [.int (I 104 0), .int (x1 + 1)] (sh, I, R, L, g) 0 0
    refine AW.icmp_ge 44 dX11_twinOf_23 (by decide) (fun hc23 => ?_) (fun hc23 => ?_)
    · replace h := g_pos hc23 h
      refine AW.iconst (-1) dX11_twinOf_44 (by decide) ?_
      exact AW.iret dX11_twinOf_45 rfl (by decide) (by decide) (by cases h; exact ⟨rfl, rfl⟩)
    · replace h := g_neg hc23 h
      refine AW.aload_n dX11_twinOf_26 rfl ?_
      refine AW.getR (c' := 105) (fX11_42 hG).r rfl (hm.1 0 _ rfl) (hm.2 (0, 4, 4) (by decide)) dX11_twinOf_27 ?_
      refine AW.iload_n dX11_twinOf_30 rfl ?_
      refine AW.iconst 1 dX11_twinOf_31 (by decide) ?_
      refine AW.iadd dX11_twinOf_32 ?_
      obtain ⟨hb, h⟩ := g_ifE h
      refine AW.iald (hm.1 4 _ rfl) (g_in_iff.mp hb) dX11_twinOf_33 ?_
      refine AW.iconst 3 dX11_twinOf_34 (by decide) ?_
      refine AW.icmp_ne 44 dX11_twinOf_35 (by decide) (fun hc35 => ?_) (fun hc35 => ?_)
      · replace h := g_neg hc35 h
        refine AW.iconst (-1) dX11_twinOf_44 (by decide) ?_
        exact AW.iret dX11_twinOf_45 rfl (by decide) (by decide) (by cases h; exact ⟨rfl, rfl⟩)
      · replace h := g_pos hc35 h
        refine AW.iload_n dX11_twinOf_38 rfl ?_
        refine AW.iconst 1 dX11_twinOf_39 (by decide) ?_
        refine AW.iadd dX11_twinOf_40 ?_
        refine AW.goto 45 dX11_twinOf_41 (by decide) ?_
        exact AW.iret dX11_twinOf_45 rfl (by decide) (by decide) (by cases h; exact ⟨rfl, rfl⟩)
  · replace h := g_pos hc7 h
    refine AW.iload_n dX11_twinOf_10 rfl ?_
    refine AW.iconst 1 dX11_twinOf_11 (by decide) ?_
    refine AW.isub dX11_twinOf_12 ?_
    exact AW.iret dX11_twinOf_13 rfl (by decide) (by decide) (by cases h; exact ⟨rfl, rfl⟩)
theorem dX11_lastDay_0 : decode cX11_lastDay 0 = .ok (.aload_n 0, 1) := by decide +kernel
theorem dX11_lastDay_1 : decode cX11_lastDay 1 = .ok (.getfield 67, 3) := by decide +kernel
theorem dX11_lastDay_4 : decode cX11_lastDay 4 = .ok (.iload_n 1, 1) := by decide +kernel
theorem dX11_lastDay_5 : decode cX11_lastDay 5 = .ok (.iload_n 2, 1) := by decide +kernel
theorem dX11_lastDay_6 : decode cX11_lastDay 6 = .ok (.invokestatic 282, 3) := by decide +kernel
theorem dX11_lastDay_9 : decode cX11_lastDay 9 = .ok (.iaload, 1) := by decide +kernel
theorem dX11_lastDay_10 : decode cX11_lastDay 10 = .ok (.istore_n 3, 1) := by decide +kernel
theorem dX11_lastDay_11 : decode cX11_lastDay 11 = .ok (.aload_n 0, 1) := by decide +kernel
theorem dX11_lastDay_12 : decode cX11_lastDay 12 = .ok (.iload_n 1, 1) := by decide +kernel
theorem dX11_lastDay_13 : decode cX11_lastDay 13 = .ok (.invokevirtual 343, 3) := by decide +kernel
theorem dX11_lastDay_16 : decode cX11_lastDay 16 = .ok (.istore 4, 2) := by decide +kernel
theorem dX11_lastDay_18 : decode cX11_lastDay 18 = .ok (.aload_n 0, 1) := by decide +kernel
theorem dX11_lastDay_19 : decode cX11_lastDay 19 = .ok (.iload_n 2, 1) := by decide +kernel
theorem dX11_lastDay_20 : decode cX11_lastDay 20 = .ok (.invokevirtual 343, 3) := by decide +kernel
theorem dX11_lastDay_23 : decode cX11_lastDay 23 = .ok (.istore 5, 2) := by decide +kernel
theorem dX11_lastDay_25 : decode cX11_lastDay 25 = .ok (.iload 4, 2) := by decide +kernel
theorem dX11_lastDay_27 : decode cX11_lastDay 27 = .ok (.iload_n 2, 1) := by decide +kernel
theorem dX11_lastDay_28 : decode cX11_lastDay 28 = .ok (.if_icmp .ne 7, 3) := by decide +kernel
theorem dX11_lastDay_31 : decode cX11_lastDay 31 = .ok (.ldc_w 310, 3) := by decide +kernel
theorem dX11_lastDay_34 : decode cX11_lastDay 34 = .ok (.ireturn, 1) := by decide +kernel
theorem dX11_lastDay_35 : decode cX11_lastDay 35 = .ok (.iload 4, 2) := by decide +kernel
theorem dX11_lastDay_37 : decode cX11_lastDay 37 = .ok (.iconst (-1), 1) := by decide +kernel
theorem dX11_lastDay_38 : decode cX11_lastDay 38 = .ok (.if_icmp .eq 19, 3) := by decide +kernel
theorem dX11_lastDay_41 : decode cX11_lastDay 41 = .ok (.iload_n 3, 1) := by decide +kernel
theorem dX11_lastDay_42 : decode cX11_lastDay 42 = .ok (.aload_n 0, 1) := by decide +kernel
theorem dX11_lastDay_43 : decode cX11_lastDay 43 = .ok (.getfield 67, 3) := by decide +kernel
theorem dX11_lastDay_46 : decode cX11_lastDay 46 = .ok (.iload 4, 2) := by decide +kernel
theorem dX11_lastDay_48 : decode cX11_lastDay 48 = .ok (.iload_n 2, 1) := by decide +kernel
theorem dX11_lastDay_49 : decode cX11_lastDay 49 = .ok (.invokestatic 282, 3) := by decide +kernel
theorem dX11_lastDay_52 : decode cX11_lastDay 52 = .ok (.iaload, 1) := by decide +kernel
theorem dX11_lastDay_53 : decode cX11_lastDay 53 = .ok (.invokestatic 285, 3) := by decide +kernel
theorem dX11_lastDay_56 : decode cX11_lastDay 56 = .ok (.istore_n 3, 1) := by decide +kernel
theorem dX11_lastDay_57 : decode cX11_lastDay 57 = .ok (.iload 5, 2) := by decide +kernel
theorem dX11_lastDay_59 : decode cX11_lastDay 59 = .ok (.iconst (-1), 1) := by decide +kernel
theorem dX11_lastDay_60 : decode cX11_lastDay 60 = .ok (.if_icmp .eq 19, 3) := by decide +kernel
theorem dX11_lastDay_63 : decode cX11_lastDay 63 = .ok (.iload_n 3, 1) := by decide +kernel
theorem dX11_lastDay_64 : decode cX11_lastDay 64 = .ok (.aload_n 0, 1) := by decide +kernel
theorem dX11_lastDay_65 : decode cX11_lastDay 65 = .ok (.getfield 67, 3) := by decide +kernel
theorem dX11_lastDay_68 : decode cX11_lastDay 68 = .ok (.iload_n 1, 1) := by decide +kernel
theorem dX11_lastDay_69 : decode cX11_lastDay 69 = .ok (.iload 5, 2) := by decide +kernel
theorem dX11_lastDay_71 : decode cX11_lastDay 71 = .ok (.invokestatic 282, 3) := by decide +kernel
theorem dX11_lastDay_74 : decode cX11_lastDay 74 = .ok (.iaload, 1) := by decide +kernel
theorem dX11_lastDay_75 : decode cX11_lastDay 75 = .ok (.invokestatic 285, 3) := by decide +kernel
theorem dX11_lastDay_78 : decode cX11_lastDay 78 = .ok (.istore_n 3, 1) := by decide +kernel
theorem dX11_lastDay_79 : decode cX11_lastDay 79 = .ok (.iload 4, 2) := by decide +kernel
theorem dX11_lastDay_81 : decode cX11_lastDay 81 = .ok (.iconst (-1), 1) := by decide +kernel
theorem dX11_lastDay_82 : decode cX11_lastDay 82 = .ok (.if_icmp .eq 26, 3) := by decide +kernel
theorem dX11_lastDay_85 : decode cX11_lastDay 85 = .ok (.iload 5, 2) := by decide +kernel
theorem dX11_lastDay_87 : decode cX11_lastDay 87 = .ok (.iconst (-1), 1) := by decide +kernel
theorem dX11_lastDay_88 : decode cX11_lastDay 88 = .ok (.if_icmp .eq 20, 3) := by decide +kernel
theorem dX11_lastDay_91 : decode cX11_lastDay 91 = .ok (.iload_n 3, 1) := by decide +kernel
theorem dX11_lastDay_92 : decode cX11_lastDay 92 = .ok (.aload_n 0, 1) := by decide +kernel
theorem dX11_lastDay_93 : decode cX11_lastDay 93 = .ok (.getfield 67, 3) := by decide +kernel
theorem dX11_lastDay_96 : decode cX11_lastDay 96 = .ok (.iload 4, 2) := by decide +kernel
theorem dX11_lastDay_98 : decode cX11_lastDay 98 = .ok (.iload 5, 2) := by decide +kernel
theorem dX11_lastDay_100 : decode cX11_lastDay 100 = .ok (.invokestatic 282, 3) := by decide +kernel
theorem dX11_lastDay_103 : decode cX11_lastDay 103 = .ok (.iaload, 1) := by decide +kernel
theorem dX11_lastDay_104 : decode cX11_lastDay 104 = .ok (.invokestatic 285, 3) := by decide +kernel
theorem dX11_lastDay_107 : decode cX11_lastDay 107 = .ok (.istore_n 3, 1) := by decide +kernel
theorem dX11_lastDay_108 : decode cX11_lastDay 108 = .ok (.iload_n 3, 1) := by decide +kernel
theorem dX11_lastDay_109 : decode cX11_lastDay 109 = .ok (.ireturn, 1) := by decide +kernel
def b_X11_lastDay (I : g_I) (x1 : Int32) (x2 : Int32) : Option (Int32) :=
  g_let (fun (z3 : Int32) (z4 : Int32) (z5 : Int32) => if z4 = (-1) then some z3 else if z5 = (-1) then some z3 else if g_in (b_X11_couple z4 z5) 128 = true then g_let (g_max z3 (I 114 (b_X11_couple z4 z5).toNatClampNeg)) fun a1 => some a1 else none) fun J79 => if g_in (b_X11_couple x1 x2) 128 = true then g_let (I 114 (b_X11_couple x1 x2).toNatClampNeg) fun a2 => g_bind (b_X11_twinOf I x1) fun a3 => g_bind (b_X11_twinOf I x2) fun a6 => if a3 = x2 then some (-100000) else if a3 = (-1) then if a6 = (-1) then J79 a2 a3 a6 else if g_in (b_X11_couple x1 a6) 128 = true then g_let (g_max a2 (I 114 (b_X11_couple x1 a6).toNatClampNeg)) fun a9 => J79 a9 a3 a6 else none else if g_in (b_X11_couple a3 x2) 128 = true then g_let (g_max a2 (I 114 (b_X11_couple a3 x2).toNatClampNeg)) fun a10 => if a6 = (-1) then J79 a10 a3 a6 else if g_in (b_X11_couple x1 a6) 128 = true then g_let (g_max a10 (I 114 (b_X11_couple x1 a6).toNatClampNeg)) fun a11 => J79 a11 a3 a6 else none else none else none
set_option maxRecDepth 100000 in
set_option maxHeartbeats 4000000 in
theorem g_X11_lastDay {G : am_G} (hK : k_OK G) {d : Nat} (hd : 1 ≤ d) {sh : List (Nat ⊕ (Nat × Nat))} {I : g_I} {R : Nat → Nat → Option Nat} {L : Nat → Nat → Int64} {g : Nat} (hm : k_Mod sh R) {x1 : Int32} {x2 : Int32} {r : Int32} (h : b_X11_lastDay I x1 x2 = some r) : AM G mX11_lastDay d [.ref 101, .int x1, .int x2] (sh, I, R, L, g) (fun v w => v = some (.int r) ∧ w = (sh, I, R, L, g)) (fun _ _ => False) := by
  have hG := hK.1
  refine AM.of (n := 3) (by decide +kernel) (Nat.le_of_ble_eq_true rfl) ?_
  show AW G mX11_lastDay d (fun v w => v = some (.int r) ∧ w = (sh, I, R, L, g)) (fun _ _ => False) 0 [some (.ref 101), some (.int x1), some (.int x2), none, none, none] [] (sh, I, R, L, g) 0 0
  unfold b_X11_lastDay at h
  obtain ⟨J79, eJ79, h⟩ := g_letE h
  have H79 : ∀ (z3 : Int32) (z4 : Int32) (z5 : Int32), J79 z3 z4 z5 = some r → AW G mX11_lastDay d (fun v w => v = some (.int r) ∧ w = (sh, I, R, L, g)) (fun _ _ => False) 79 [some (.ref 101), none, none, some (.int z3), some (.int z4), some (.int z5)] [] (sh, I, R, L, g) 0 0 := by
    intro z3 z4 z5 h
    rw [eJ79] at h
    refine AW.iload dX11_lastDay_79 rfl ?_
    refine AW.iconst (-1) dX11_lastDay_81 (by decide) ?_
    refine AW.icmp_eq 108 dX11_lastDay_82 (by decide) (fun hc82 => ?_) (fun hc82 => ?_)
    · replace h := g_pos hc82 h
      refine AW.iload_n dX11_lastDay_108 rfl ?_
      exact AW.iret dX11_lastDay_109 rfl (by decide) (by decide) (by cases h; exact ⟨rfl, rfl⟩)
    · replace h := g_neg hc82 h
      refine AW.iload dX11_lastDay_85 rfl ?_
      refine AW.iconst (-1) dX11_lastDay_87 (by decide) ?_
      refine AW.icmp_eq 108 dX11_lastDay_88 (by decide) (fun hc88 => ?_) (fun hc88 => ?_)
      · replace h := g_pos hc88 h
        refine AW.iload_n dX11_lastDay_108 rfl ?_
        exact AW.iret dX11_lastDay_109 rfl (by decide) (by decide) (by cases h; exact ⟨rfl, rfl⟩)
      · replace h := g_neg hc88 h
        refine AW.iload_n dX11_lastDay_91 rfl ?_
        refine AW.aload_n dX11_lastDay_92 rfl ?_
        refine AW.getR (c' := 114) (fX11_67 hG).r rfl (hm.1 0 _ rfl) (hm.2 (0, 13, 13) (by decide)) dX11_lastDay_93 ?_
        refine AW.iload dX11_lastDay_96 rfl ?_
        refine AW.iload dX11_lastDay_98 rfl ?_
        refine AW.callS (As := [.int z4, .int z5]) hG.2.2 (vX11_282 hG) (g_X11_couple hK (d := 0) (Nat.le_refl _)) (by omega) dX11_lastDay_100 rfl rfl (Nat.le_of_ble_eq_true rfl) (fun v w9 hq9 h09 => by obtain ⟨rfl, rfl⟩ := hq9; exact ⟨h09, rfl⟩) (by decide) (by decide) (fun _ _ hx => hx) (fun v9 w9 hq9 => ?_)
        obtain ⟨rfl, rfl⟩ := hq9
        show AW G _ d _ _ 103 [some (.ref 101), none, none, some (.int z3), some (.int z4), some (.int z5)] [.int (b_X11_couple z4 z5), .ref 114, .int z3] (sh, I, R, L, g) 0 0
        obtain ⟨hb, h⟩ := g_ifE h
        refine AW.iald (hm.1 13 _ rfl) (g_in_iff.mp hb) dX11_lastDay_103 ?_
        refine AW.mmax (k_c hG 1812 (by decide +kernel) (by decide +kernel)) (k_mmax hG) dX11_lastDay_104 (by omega) (Nat.le_of_ble_eq_true rfl) (by decide) (by decide) ?_
        show AW G _ d _ _ 107 [some (.ref 101), none, none, some (.int z3), some (.int z4), some (.int z5)] [.int (g_max z3 (I 114 (b_X11_couple z4 z5).toNatClampNeg))] (sh, I, R, L, g) 0 0
        obtain ⟨a1, ea1, h⟩ := g_letE h
        refine AW.namE ea1 ?_
        refine AW.is_n [some (.ref 101), none, none, some (.int a1), some (.int z4), some (.int z5)] dX11_lastDay_107 (by decide) rfl rfl ?_
        refine AW.iload_n dX11_lastDay_108 rfl ?_
        exact AW.iret dX11_lastDay_109 rfl (by decide) (by decide) (by cases h; exact ⟨rfl, rfl⟩)
  refine AW.aload_n dX11_lastDay_0 rfl ?_
  refine AW.getR (c' := 114) (fX11_67 hG).r rfl (hm.1 0 _ rfl) (hm.2 (0, 13, 13) (by decide)) dX11_lastDay_1 ?_
  refine AW.iload_n dX11_lastDay_4 rfl ?_
  refine AW.iload_n dX11_lastDay_5 rfl ?_
  refine AW.callS (As := [.int x1, .int x2]) hG.2.2 (vX11_282 hG) (g_X11_couple hK (d := 0) (Nat.le_refl _)) (by omega) dX11_lastDay_6 rfl rfl (Nat.le_of_ble_eq_true rfl) (fun v w9 hq9 h09 => by obtain ⟨rfl, rfl⟩ := hq9; exact ⟨h09, rfl⟩) (by decide) (by decide) (fun _ _ hx => hx) (fun v9 w9 hq9 => ?_)
  obtain ⟨rfl, rfl⟩ := hq9
  show AW G _ d _ _ 9 [some (.ref 101), some (.int x1), some (.int x2), none, none, none] [.int (b_X11_couple x1 x2), .ref 114] (sh, I, R, L, g) 0 0
  obtain ⟨hb, h⟩ := g_ifE h
  refine AW.iald (hm.1 13 _ rfl) (g_in_iff.mp hb) dX11_lastDay_9 ?_
  obtain ⟨a2, ea2, h⟩ := g_letE h
  refine AW.namE ea2 ?_
  refine AW.is_n [some (.ref 101), some (.int x1), some (.int x2), some (.int a2), none, none] dX11_lastDay_10 (by decide) rfl rfl ?_
  refine AW.aload_n dX11_lastDay_11 rfl ?_
  refine AW.iload_n dX11_lastDay_12 rfl ?_
  obtain ⟨a3, hx5, h⟩ := g_bindE h
  refine AW.callV (b := 101) (As := [.int x1]) hG.2.2 (vX11_343 hG) (hm.1 0 _ rfl) (g_X11_twinOf hK (d := 0) (Nat.le_refl _) hm hx5) (by omega) dX11_lastDay_13 rfl rfl (Nat.le_of_ble_eq_true rfl) (fun v w9 hq9 h09 => by obtain ⟨rfl, rfl⟩ := hq9; exact ⟨h09, rfl⟩) (by decide) (by decide) (fun _ _ hx => hx) (fun v9 w9 hq9 => ?_)
  obtain ⟨rfl, rfl⟩ := hq9
  show AW G _ d _ _ 16 [some (.ref 101), some (.int x1), some (.int x2), some (.int a2), none, none] [.int a3] (sh, I, R, L, g) 0 0
  refine AW.is [some (.ref 101), some (.int x1), some (.int x2), some (.int a2), some (.int a3), none] dX11_lastDay_16 (by decide) rfl rfl ?_
  refine AW.aload_n dX11_lastDay_18 rfl ?_
  refine AW.iload_n dX11_lastDay_19 rfl ?_
  obtain ⟨a6, hx8, h⟩ := g_bindE h
  refine AW.callV (b := 101) (As := [.int x2]) hG.2.2 (vX11_343 hG) (hm.1 0 _ rfl) (g_X11_twinOf hK (d := 0) (Nat.le_refl _) hm hx8) (by omega) dX11_lastDay_20 rfl rfl (Nat.le_of_ble_eq_true rfl) (fun v w9 hq9 h09 => by obtain ⟨rfl, rfl⟩ := hq9; exact ⟨h09, rfl⟩) (by decide) (by decide) (fun _ _ hx => hx) (fun v9 w9 hq9 => ?_)
  obtain ⟨rfl, rfl⟩ := hq9
  show AW G _ d _ _ 23 [some (.ref 101), some (.int x1), some (.int x2), some (.int a2), some (.int a3), none] [.int a6] (sh, I, R, L, g) 0 0
  refine AW.is [some (.ref 101), some (.int x1), some (.int x2), some (.int a2), some (.int a3), some (.int a6)] dX11_lastDay_23 (by decide) rfl rfl ?_
  refine AW.iload dX11_lastDay_25 rfl ?_
  refine AW.iload_n dX11_lastDay_27 rfl ?_
  refine AW.icmp_ne 35 dX11_lastDay_28 (by decide) (fun hc28 => ?_) (fun hc28 => ?_)
  · replace h := g_neg hc28 h
    refine AW.iload dX11_lastDay_35 rfl ?_
    refine AW.iconst (-1) dX11_lastDay_37 (by decide) ?_
    refine AW.icmp_eq 57 dX11_lastDay_38 (by decide) (fun hc38 => ?_) (fun hc38 => ?_)
    · replace h := g_pos hc38 h
      refine AW.iload dX11_lastDay_57 rfl ?_
      refine AW.iconst (-1) dX11_lastDay_59 (by decide) ?_
      refine AW.icmp_eq 79 dX11_lastDay_60 (by decide) (fun hc60 => ?_) (fun hc60 => ?_)
      · replace h := g_pos hc60 h
        refine AW.mask [1, 2] [some (.ref 101), none, none, some (.int a2), some (.int a3), some (.int a6)] rfl ?_
        exact H79 _ _ _ h
      · replace h := g_neg hc60 h
        refine AW.iload_n dX11_lastDay_63 rfl ?_
        refine AW.aload_n dX11_lastDay_64 rfl ?_
        refine AW.getR (c' := 114) (fX11_67 hG).r rfl (hm.1 0 _ rfl) (hm.2 (0, 13, 13) (by decide)) dX11_lastDay_65 ?_
        refine AW.iload_n dX11_lastDay_68 rfl ?_
        refine AW.iload dX11_lastDay_69 rfl ?_
        refine AW.callS (As := [.int x1, .int a6]) hG.2.2 (vX11_282 hG) (g_X11_couple hK (d := 0) (Nat.le_refl _)) (by omega) dX11_lastDay_71 rfl rfl (Nat.le_of_ble_eq_true rfl) (fun v w9 hq9 h09 => by obtain ⟨rfl, rfl⟩ := hq9; exact ⟨h09, rfl⟩) (by decide) (by decide) (fun _ _ hx => hx) (fun v9 w9 hq9 => ?_)
        obtain ⟨rfl, rfl⟩ := hq9
        show AW G _ d _ _ 74 [some (.ref 101), some (.int x1), some (.int x2), some (.int a2), some (.int a3), some (.int a6)] [.int (b_X11_couple x1 a6), .ref 114, .int a2] (sh, I, R, L, g) 0 0
        obtain ⟨hb, h⟩ := g_ifE h
        refine AW.iald (hm.1 13 _ rfl) (g_in_iff.mp hb) dX11_lastDay_74 ?_
        refine AW.mmax (k_c hG 1812 (by decide +kernel) (by decide +kernel)) (k_mmax hG) dX11_lastDay_75 (by omega) (Nat.le_of_ble_eq_true rfl) (by decide) (by decide) ?_
        show AW G _ d _ _ 78 [some (.ref 101), some (.int x1), some (.int x2), some (.int a2), some (.int a3), some (.int a6)] [.int (g_max a2 (I 114 (b_X11_couple x1 a6).toNatClampNeg))] (sh, I, R, L, g) 0 0
        obtain ⟨a9, ea9, h⟩ := g_letE h
        refine AW.namE ea9 ?_
        refine AW.is_n [some (.ref 101), some (.int x1), some (.int x2), some (.int a9), some (.int a3), some (.int a6)] dX11_lastDay_78 (by decide) rfl rfl ?_
        refine AW.mask [1, 2] [some (.ref 101), none, none, some (.int a9), some (.int a3), some (.int a6)] rfl ?_
        exact H79 _ _ _ h
    · replace h := g_neg hc38 h
      refine AW.iload_n dX11_lastDay_41 rfl ?_
      refine AW.aload_n dX11_lastDay_42 rfl ?_
      refine AW.getR (c' := 114) (fX11_67 hG).r rfl (hm.1 0 _ rfl) (hm.2 (0, 13, 13) (by decide)) dX11_lastDay_43 ?_
      refine AW.iload dX11_lastDay_46 rfl ?_
      refine AW.iload_n dX11_lastDay_48 rfl ?_
      refine AW.callS (As := [.int a3, .int x2]) hG.2.2 (vX11_282 hG) (g_X11_couple hK (d := 0) (Nat.le_refl _)) (by omega) dX11_lastDay_49 rfl rfl (Nat.le_of_ble_eq_true rfl) (fun v w9 hq9 h09 => by obtain ⟨rfl, rfl⟩ := hq9; exact ⟨h09, rfl⟩) (by decide) (by decide) (fun _ _ hx => hx) (fun v9 w9 hq9 => ?_)
      obtain ⟨rfl, rfl⟩ := hq9
      show AW G _ d _ _ 52 [some (.ref 101), some (.int x1), some (.int x2), some (.int a2), some (.int a3), some (.int a6)] [.int (b_X11_couple a3 x2), .ref 114, .int a2] (sh, I, R, L, g) 0 0
      obtain ⟨hb, h⟩ := g_ifE h
      refine AW.iald (hm.1 13 _ rfl) (g_in_iff.mp hb) dX11_lastDay_52 ?_
      refine AW.mmax (k_c hG 1812 (by decide +kernel) (by decide +kernel)) (k_mmax hG) dX11_lastDay_53 (by omega) (Nat.le_of_ble_eq_true rfl) (by decide) (by decide) ?_
      show AW G _ d _ _ 56 [some (.ref 101), some (.int x1), some (.int x2), some (.int a2), some (.int a3), some (.int a6)] [.int (g_max a2 (I 114 (b_X11_couple a3 x2).toNatClampNeg))] (sh, I, R, L, g) 0 0
      obtain ⟨a10, ea10, h⟩ := g_letE h
      refine AW.namE ea10 ?_
      refine AW.is_n [some (.ref 101), some (.int x1), some (.int x2), some (.int a10), some (.int a3), some (.int a6)] dX11_lastDay_56 (by decide) rfl rfl ?_
      refine AW.iload dX11_lastDay_57 rfl ?_
      refine AW.iconst (-1) dX11_lastDay_59 (by decide) ?_
      refine AW.icmp_eq 79 dX11_lastDay_60 (by decide) (fun hc60 => ?_) (fun hc60 => ?_)
      · replace h := g_pos hc60 h
        refine AW.mask [1, 2] [some (.ref 101), none, none, some (.int a10), some (.int a3), some (.int a6)] rfl ?_
        exact H79 _ _ _ h
      · replace h := g_neg hc60 h
        refine AW.iload_n dX11_lastDay_63 rfl ?_
        refine AW.aload_n dX11_lastDay_64 rfl ?_
        refine AW.getR (c' := 114) (fX11_67 hG).r rfl (hm.1 0 _ rfl) (hm.2 (0, 13, 13) (by decide)) dX11_lastDay_65 ?_
        refine AW.iload_n dX11_lastDay_68 rfl ?_
        refine AW.iload dX11_lastDay_69 rfl ?_
        refine AW.callS (As := [.int x1, .int a6]) hG.2.2 (vX11_282 hG) (g_X11_couple hK (d := 0) (Nat.le_refl _)) (by omega) dX11_lastDay_71 rfl rfl (Nat.le_of_ble_eq_true rfl) (fun v w9 hq9 h09 => by obtain ⟨rfl, rfl⟩ := hq9; exact ⟨h09, rfl⟩) (by decide) (by decide) (fun _ _ hx => hx) (fun v9 w9 hq9 => ?_)
        obtain ⟨rfl, rfl⟩ := hq9
        show AW G _ d _ _ 74 [some (.ref 101), some (.int x1), some (.int x2), some (.int a10), some (.int a3), some (.int a6)] [.int (b_X11_couple x1 a6), .ref 114, .int a10] (sh, I, R, L, g) 0 0
        obtain ⟨hb, h⟩ := g_ifE h
        refine AW.iald (hm.1 13 _ rfl) (g_in_iff.mp hb) dX11_lastDay_74 ?_
        refine AW.mmax (k_c hG 1812 (by decide +kernel) (by decide +kernel)) (k_mmax hG) dX11_lastDay_75 (by omega) (Nat.le_of_ble_eq_true rfl) (by decide) (by decide) ?_
        show AW G _ d _ _ 78 [some (.ref 101), some (.int x1), some (.int x2), some (.int a10), some (.int a3), some (.int a6)] [.int (g_max a10 (I 114 (b_X11_couple x1 a6).toNatClampNeg))] (sh, I, R, L, g) 0 0
        obtain ⟨a11, ea11, h⟩ := g_letE h
        refine AW.namE ea11 ?_
        refine AW.is_n [some (.ref 101), some (.int x1), some (.int x2), some (.int a11), some (.int a3), some (.int a6)] dX11_lastDay_78 (by decide) rfl rfl ?_
        refine AW.mask [1, 2] [some (.ref 101), none, none, some (.int a11), some (.int a3), some (.int a6)] rfl ?_
        exact H79 _ _ _ h
  · replace h := g_pos hc28 h
    refine AW.ldc_w (-100000) dX11_lastDay_31 (k_c hG 1700 (by decide +kernel) (by decide +kernel)) ?_
    exact AW.iret dX11_lastDay_34 rfl (by decide) (by decide) (by cases h; exact ⟨rfl, rfl⟩)
theorem dX11_isKnown_0 : decode cX11_isKnown 0 = .ok (.iload_n 1, 1) := by decide +kernel
theorem dX11_isKnown_1 : decode cX11_isKnown 1 = .ok (.iload_n 2, 1) := by decide +kernel
theorem dX11_isKnown_2 : decode cX11_isKnown 2 = .ok (.if_icmp .eq 27, 3) := by decide +kernel
theorem dX11_isKnown_5 : decode cX11_isKnown 5 = .ok (.aload_n 0, 1) := by decide +kernel
theorem dX11_isKnown_6 : decode cX11_isKnown 6 = .ok (.getfield 44, 3) := by decide +kernel
theorem dX11_isKnown_9 : decode cX11_isKnown 9 = .ok (.iload_n 1, 1) := by decide +kernel
theorem dX11_isKnown_10 : decode cX11_isKnown 10 = .ok (.iaload, 1) := by decide +kernel
theorem dX11_isKnown_11 : decode cX11_isKnown 11 = .ok (.aload_n 0, 1) := by decide +kernel
theorem dX11_isKnown_12 : decode cX11_isKnown 12 = .ok (.getfield 44, 3) := by decide +kernel
theorem dX11_isKnown_15 : decode cX11_isKnown 15 = .ok (.iload_n 2, 1) := by decide +kernel
theorem dX11_isKnown_16 : decode cX11_isKnown 16 = .ok (.iaload, 1) := by decide +kernel
theorem dX11_isKnown_17 : decode cX11_isKnown 17 = .ok (.if_icmp .eq 12, 3) := by decide +kernel
theorem dX11_isKnown_20 : decode cX11_isKnown 20 = .ok (.aload_n 0, 1) := by decide +kernel
theorem dX11_isKnown_21 : decode cX11_isKnown 21 = .ok (.iload_n 1, 1) := by decide +kernel
theorem dX11_isKnown_22 : decode cX11_isKnown 22 = .ok (.invokevirtual 343, 3) := by decide +kernel
theorem dX11_isKnown_25 : decode cX11_isKnown 25 = .ok (.iload_n 2, 1) := by decide +kernel
theorem dX11_isKnown_26 : decode cX11_isKnown 26 = .ok (.if_icmp .ne 5, 3) := by decide +kernel
theorem dX11_isKnown_29 : decode cX11_isKnown 29 = .ok (.iconst 1, 1) := by decide +kernel
theorem dX11_isKnown_30 : decode cX11_isKnown 30 = .ok (.ireturn, 1) := by decide +kernel
theorem dX11_isKnown_31 : decode cX11_isKnown 31 = .ok (.aload_n 0, 1) := by decide +kernel
theorem dX11_isKnown_32 : decode cX11_isKnown 32 = .ok (.getfield 42, 3) := by decide +kernel
theorem dX11_isKnown_35 : decode cX11_isKnown 35 = .ok (.iload_n 1, 1) := by decide +kernel
theorem dX11_isKnown_36 : decode cX11_isKnown 36 = .ok (.iaload, 1) := by decide +kernel
theorem dX11_isKnown_37 : decode cX11_isKnown 37 = .ok (.iconst 2, 1) := by decide +kernel
theorem dX11_isKnown_38 : decode cX11_isKnown 38 = .ok (.if_icmp .eq 39, 3) := by decide +kernel
theorem dX11_isKnown_41 : decode cX11_isKnown 41 = .ok (.aload_n 0, 1) := by decide +kernel
theorem dX11_isKnown_42 : decode cX11_isKnown 42 = .ok (.iload_n 1, 1) := by decide +kernel
theorem dX11_isKnown_43 : decode cX11_isKnown 43 = .ok (.iload_n 2, 1) := by decide +kernel
theorem dX11_isKnown_44 : decode cX11_isKnown 44 = .ok (.invokevirtual 346, 3) := by decide +kernel
theorem dX11_isKnown_47 : decode cX11_isKnown 47 = .ok (.ldc_w 310, 3) := by decide +kernel
theorem dX11_isKnown_50 : decode cX11_isKnown 50 = .ok (.if_icmp .eq 27, 3) := by decide +kernel
theorem dX11_isKnown_53 : decode cX11_isKnown 53 = .ok (.aload_n 0, 1) := by decide +kernel
theorem dX11_isKnown_54 : decode cX11_isKnown 54 = .ok (.getfield 321, 3) := by decide +kernel
theorem dX11_isKnown_57 : decode cX11_isKnown 57 = .ok (.aload_n 0, 1) := by decide +kernel
theorem dX11_isKnown_58 : decode cX11_isKnown 58 = .ok (.iload_n 1, 1) := by decide +kernel
theorem dX11_isKnown_59 : decode cX11_isKnown 59 = .ok (.iload_n 2, 1) := by decide +kernel
theorem dX11_isKnown_60 : decode cX11_isKnown 60 = .ok (.invokevirtual 346, 3) := by decide +kernel
theorem dX11_isKnown_63 : decode cX11_isKnown 63 = .ok (.isub, 1) := by decide +kernel
theorem dX11_isKnown_64 : decode cX11_isKnown 64 = .ok (.aload_n 0, 1) := by decide +kernel
theorem dX11_isKnown_65 : decode cX11_isKnown 65 = .ok (.getfield 38, 3) := by decide +kernel
theorem dX11_isKnown_68 : decode cX11_isKnown 68 = .ok (.iconst 3, 1) := by decide +kernel
theorem dX11_isKnown_69 : decode cX11_isKnown 69 = .ok (.iaload, 1) := by decide +kernel
theorem dX11_isKnown_70 : decode cX11_isKnown 70 = .ok (.if_icmp .gt 7, 3) := by decide +kernel
theorem dX11_isKnown_73 : decode cX11_isKnown 73 = .ok (.iconst 1, 1) := by decide +kernel
theorem dX11_isKnown_74 : decode cX11_isKnown 74 = .ok (.goto 4, 3) := by decide +kernel
theorem dX11_isKnown_77 : decode cX11_isKnown 77 = .ok (.iconst 0, 1) := by decide +kernel
theorem dX11_isKnown_78 : decode cX11_isKnown 78 = .ok (.ireturn, 1) := by decide +kernel
def b_X11_isKnown (I : g_I) (x1 : Int32) (x2 : Int32) : Option (Bool) :=
  if x1 = x2 then some true else if g_in x1 16 = true then if g_in x2 16 = true then if (I 106 x1.toNatClampNeg) = (I 106 x2.toNatClampNeg) then some true else g_bind (b_X11_twinOf I x1) fun a1 => if a1 = x2 then some true else if g_in x1 16 = true then if (I 105 x1.toNatClampNeg) = 2 then some false else g_bind (b_X11_lastDay I x1 x2) fun a4 => if a4 = (-100000) then some false else g_bind (b_X11_lastDay I x1 x2) fun a7 => if (I 104 3) < ((I 101 30) - a7) then some false else some true else none else none else none
set_option maxRecDepth 100000 in
set_option maxHeartbeats 4000000 in
theorem g_X11_isKnown {G : am_G} (hK : k_OK G) {d : Nat} (hd : 2 ≤ d) {sh : List (Nat ⊕ (Nat × Nat))} {I : g_I} {R : Nat → Nat → Option Nat} {L : Nat → Nat → Int64} {g : Nat} (hm : k_Mod sh R) {x1 : Int32} {x2 : Int32} {r : Bool} (h : b_X11_isKnown I x1 x2 = some r) : AM G mX11_isKnown d [.ref 101, .int x1, .int x2] (sh, I, R, L, g) (fun v w => v = some (.int (kb r)) ∧ w = (sh, I, R, L, g)) (fun _ _ => False) := by
  have hG := hK.1
  refine AM.of (n := 0) (by decide +kernel) (Nat.le_of_ble_eq_true rfl) ?_
  show AW G mX11_isKnown d (fun v w => v = some (.int (kb r)) ∧ w = (sh, I, R, L, g)) (fun _ _ => False) 0 [some (.ref 101), some (.int x1), some (.int x2)] [] (sh, I, R, L, g) 0 0
  unfold b_X11_isKnown at h
  refine AW.iload_n dX11_isKnown_0 rfl ?_
  refine AW.iload_n dX11_isKnown_1 rfl ?_
  refine AW.icmp_eq 29 dX11_isKnown_2 (by decide) (fun hc2 => ?_) (fun hc2 => ?_)
  · replace h := g_pos hc2 h
    refine AW.iconst 1 dX11_isKnown_29 (by decide) ?_
    exact AW.zret dX11_isKnown_30 rfl (by decide) (by decide) (by decide) (by cases h; exact ⟨rfl, rfl⟩)
  · replace h := g_neg hc2 h
    refine AW.aload_n dX11_isKnown_5 rfl ?_
    refine AW.getR (c' := 106) (fX11_44 hG).r rfl (hm.1 0 _ rfl) (hm.2 (0, 5, 5) (by decide)) dX11_isKnown_6 ?_
    refine AW.iload_n dX11_isKnown_9 rfl ?_
    obtain ⟨hb, h⟩ := g_ifE h
    refine AW.iald (hm.1 5 _ rfl) (g_in_iff.mp hb) dX11_isKnown_10 ?_
    refine AW.aload_n dX11_isKnown_11 rfl ?_
    refine AW.getR (c' := 106) (fX11_44 hG).r rfl (hm.1 0 _ rfl) (hm.2 (0, 5, 5) (by decide)) dX11_isKnown_12 ?_
    refine AW.iload_n dX11_isKnown_15 rfl ?_
    obtain ⟨hb, h⟩ := g_ifE h
    refine AW.iald (hm.1 5 _ rfl) (g_in_iff.mp hb) dX11_isKnown_16 ?_
    refine AW.icmp_eq 29 dX11_isKnown_17 (by decide) (fun hc17 => ?_) (fun hc17 => ?_)
    · replace h := g_pos hc17 h
      refine AW.iconst 1 dX11_isKnown_29 (by decide) ?_
      exact AW.zret dX11_isKnown_30 rfl (by decide) (by decide) (by decide) (by cases h; exact ⟨rfl, rfl⟩)
    · replace h := g_neg hc17 h
      refine AW.aload_n dX11_isKnown_20 rfl ?_
      refine AW.iload_n dX11_isKnown_21 rfl ?_
      obtain ⟨a1, hx3, h⟩ := g_bindE h
      refine AW.callV (b := 101) (As := [.int x1]) hG.2.2 (vX11_343 hG) (hm.1 0 _ rfl) (g_X11_twinOf hK (d := 0) (Nat.le_refl _) hm hx3) (by omega) dX11_isKnown_22 rfl rfl (Nat.le_of_ble_eq_true rfl) (fun v w9 hq9 h09 => by obtain ⟨rfl, rfl⟩ := hq9; exact ⟨h09, rfl⟩) (by decide) (by decide) (fun _ _ hx => hx) (fun v9 w9 hq9 => ?_)
      obtain ⟨rfl, rfl⟩ := hq9
      show AW G _ d _ _ 25 [some (.ref 101), some (.int x1), some (.int x2)] [.int a1] (sh, I, R, L, g) 0 0
      refine AW.iload_n dX11_isKnown_25 rfl ?_
      refine AW.icmp_ne 31 dX11_isKnown_26 (by decide) (fun hc26 => ?_) (fun hc26 => ?_)
      · replace h := g_neg hc26 h
        refine AW.aload_n dX11_isKnown_31 rfl ?_
        refine AW.getR (c' := 105) (fX11_42 hG).r rfl (hm.1 0 _ rfl) (hm.2 (0, 4, 4) (by decide)) dX11_isKnown_32 ?_
        refine AW.iload_n dX11_isKnown_35 rfl ?_
        obtain ⟨hb, h⟩ := g_ifE h
        refine AW.iald (hm.1 4 _ rfl) (g_in_iff.mp hb) dX11_isKnown_36 ?_
        refine AW.iconst 2 dX11_isKnown_37 (by decide) ?_
        refine AW.icmp_eq 77 dX11_isKnown_38 (by decide) (fun hc38 => ?_) (fun hc38 => ?_)
        · replace h := g_pos hc38 h
          refine AW.iconst 0 dX11_isKnown_77 (by decide) ?_
          exact AW.zret dX11_isKnown_78 rfl (by decide) (by decide) (by decide) (by cases h; exact ⟨rfl, rfl⟩)
        · replace h := g_neg hc38 h
          refine AW.aload_n dX11_isKnown_41 rfl ?_
          refine AW.iload_n dX11_isKnown_42 rfl ?_
          refine AW.iload_n dX11_isKnown_43 rfl ?_
          obtain ⟨a4, hx6, h⟩ := g_bindE h
          refine AW.callV (b := 101) (As := [.int x1, .int x2]) hG.2.2 (vX11_346 hG) (hm.1 0 _ rfl) (g_X11_lastDay hK (d := 1) (Nat.le_refl _) hm hx6) (by omega) dX11_isKnown_44 rfl rfl (Nat.le_of_ble_eq_true rfl) (fun v w9 hq9 h09 => by obtain ⟨rfl, rfl⟩ := hq9; exact ⟨h09, rfl⟩) (by decide) (by decide) (fun _ _ hx => hx) (fun v9 w9 hq9 => ?_)
          obtain ⟨rfl, rfl⟩ := hq9
          show AW G _ d _ _ 47 [some (.ref 101), some (.int x1), some (.int x2)] [.int a4] (sh, I, R, L, g) 0 0
          refine AW.ldc_w (-100000) dX11_isKnown_47 (k_c hG 1700 (by decide +kernel) (by decide +kernel)) ?_
          refine AW.icmp_eq 77 dX11_isKnown_50 (by decide) (fun hc50 => ?_) (fun hc50 => ?_)
          · replace h := g_pos hc50 h
            refine AW.iconst 0 dX11_isKnown_77 (by decide) ?_
            exact AW.zret dX11_isKnown_78 rfl (by decide) (by decide) (by decide) (by cases h; exact ⟨rfl, rfl⟩)
          · replace h := g_neg hc50 h
            refine AW.aload_n dX11_isKnown_53 rfl ?_
            refine AW.getI (fX11_321 hG).r rfl (hm.1 0 _ rfl) dX11_isKnown_54 ?_
            refine AW.aload_n dX11_isKnown_57 rfl ?_
            refine AW.iload_n dX11_isKnown_58 rfl ?_
            refine AW.iload_n dX11_isKnown_59 rfl ?_
            obtain ⟨a7, hx9, h⟩ := g_bindE h
            refine AW.callV (b := 101) (As := [.int x1, .int x2]) hG.2.2 (vX11_346 hG) (hm.1 0 _ rfl) (g_X11_lastDay hK (d := 1) (Nat.le_refl _) hm hx9) (by omega) dX11_isKnown_60 rfl rfl (Nat.le_of_ble_eq_true rfl) (fun v w9 hq9 h09 => by obtain ⟨rfl, rfl⟩ := hq9; exact ⟨h09, rfl⟩) (by decide) (by decide) (fun _ _ hx => hx) (fun v9 w9 hq9 => ?_)
            obtain ⟨rfl, rfl⟩ := hq9
            show AW G _ d _ _ 63 [some (.ref 101), some (.int x1), some (.int x2)] [.int a7, .int (I 101 30)] (sh, I, R, L, g) 0 0
            refine AW.isub dX11_isKnown_63 ?_
            refine AW.aload_n dX11_isKnown_64 rfl ?_
            refine AW.getR (c' := 104) (fX11_38 hG).r rfl (hm.1 0 _ rfl) (hm.2 (0, 3, 3) (by decide)) dX11_isKnown_65 ?_
            refine AW.iconst 3 dX11_isKnown_68 (by decide) ?_
            refine AW.iald (hm.1 3 _ rfl) (by unfold vp_in; decide) dX11_isKnown_69 ?_
            show AW G _ d _ _ 70 [some (.ref 101), some (.int x1), some (.int x2)] [.int (I 104 3), .int ((I 101 30) - a7)] (sh, I, R, L, g) 0 0
            refine AW.icmp_gt 77 dX11_isKnown_70 (by decide) (fun hc70 => ?_) (fun hc70 => ?_)
            · replace h := g_pos hc70 h
              refine AW.iconst 0 dX11_isKnown_77 (by decide) ?_
              exact AW.zret dX11_isKnown_78 rfl (by decide) (by decide) (by decide) (by cases h; exact ⟨rfl, rfl⟩)
            · replace h := g_neg hc70 h
              refine AW.iconst 1 dX11_isKnown_73 (by decide) ?_
              refine AW.goto 78 dX11_isKnown_74 (by decide) ?_
              exact AW.zret dX11_isKnown_78 rfl (by decide) (by decide) (by decide) (by cases h; exact ⟨rfl, rfl⟩)
      · replace h := g_pos hc26 h
        refine AW.iconst 1 dX11_isKnown_29 (by decide) ?_
        exact AW.zret dX11_isKnown_30 rfl (by decide) (by decide) (by decide) (by cases h; exact ⟨rfl, rfl⟩)
theorem dX11_meet_0 : decode cX11_meet 0 = .ok (.aload_n 0, 1) := by decide +kernel
theorem dX11_meet_1 : decode cX11_meet 1 = .ok (.getfield 67, 3) := by decide +kernel
theorem dX11_meet_4 : decode cX11_meet 4 = .ok (.iload_n 1, 1) := by decide +kernel
theorem dX11_meet_5 : decode cX11_meet 5 = .ok (.iload_n 2, 1) := by decide +kernel
theorem dX11_meet_6 : decode cX11_meet 6 = .ok (.invokestatic 282, 3) := by decide +kernel
theorem dX11_meet_9 : decode cX11_meet 9 = .ok (.iload_n 3, 1) := by decide +kernel
theorem dX11_meet_10 : decode cX11_meet 10 = .ok (.iastore, 1) := by decide +kernel
theorem dX11_meet_11 : decode cX11_meet 11 = .ok (.aload_n 0, 1) := by decide +kernel
theorem dX11_meet_12 : decode cX11_meet 12 = .ok (.getfield 67, 3) := by decide +kernel
theorem dX11_meet_15 : decode cX11_meet 15 = .ok (.iload_n 2, 1) := by decide +kernel
theorem dX11_meet_16 : decode cX11_meet 16 = .ok (.iload_n 1, 1) := by decide +kernel
theorem dX11_meet_17 : decode cX11_meet 17 = .ok (.invokestatic 282, 3) := by decide +kernel
theorem dX11_meet_20 : decode cX11_meet 20 = .ok (.iload_n 3, 1) := by decide +kernel
theorem dX11_meet_21 : decode cX11_meet 21 = .ok (.iastore, 1) := by decide +kernel
theorem dX11_meet_22 : decode cX11_meet 22 = .ok (.return_, 1) := by decide +kernel
def b_X11_meet (I : g_I) (x1 : Int32) (x2 : Int32) (x3 : Int32) : Option (g_I) :=
  if g_in (b_X11_couple x1 x2) 128 = true then g_let (am_up I 114 (b_X11_couple x1 x2).toNatClampNeg x3) fun I1 => if g_in (b_X11_couple x2 x1) 128 = true then g_let (am_up I1 114 (b_X11_couple x2 x1).toNatClampNeg x3) fun I2 => some I2 else none else none
set_option maxRecDepth 100000 in
set_option maxHeartbeats 4000000 in
theorem g_X11_meet {G : am_G} (hK : k_OK G) {d : Nat} (hd : 1 ≤ d) {sh : List (Nat ⊕ (Nat × Nat))} {I : g_I} {R : Nat → Nat → Option Nat} {L : Nat → Nat → Int64} {g : Nat} (hm : k_Mod sh R) {x1 : Int32} {x2 : Int32} {x3 : Int32} {r : g_I} (h : b_X11_meet I x1 x2 x3 = some r) : AM G mX11_meet d [.ref 101, .int x1, .int x2, .int x3] (sh, I, R, L, g) (fun v w => v = none ∧ w = (sh, r, R, L, g)) (fun _ _ => False) := by
  have hG := hK.1
  refine AM.of (n := 0) (by decide +kernel) (Nat.le_of_ble_eq_true rfl) ?_
  show AW G mX11_meet d (fun v w => v = none ∧ w = (sh, r, R, L, g)) (fun _ _ => False) 0 [some (.ref 101), some (.int x1), some (.int x2), some (.int x3)] [] (sh, I, R, L, g) 0 0
  unfold b_X11_meet at h
  refine AW.aload_n dX11_meet_0 rfl ?_
  refine AW.getR (c' := 114) (fX11_67 hG).r rfl (hm.1 0 _ rfl) (hm.2 (0, 13, 13) (by decide)) dX11_meet_1 ?_
  refine AW.iload_n dX11_meet_4 rfl ?_
  refine AW.iload_n dX11_meet_5 rfl ?_
  refine AW.callS (As := [.int x1, .int x2]) hG.2.2 (vX11_282 hG) (g_X11_couple hK (d := 0) (Nat.le_refl _)) (by omega) dX11_meet_6 rfl rfl (Nat.le_of_ble_eq_true rfl) (fun v w9 hq9 h09 => by obtain ⟨rfl, rfl⟩ := hq9; exact ⟨h09, rfl⟩) (by decide) (by decide) (fun _ _ hx => hx) (fun v9 w9 hq9 => ?_)
  obtain ⟨rfl, rfl⟩ := hq9
  show AW G _ d _ _ 9 [some (.ref 101), some (.int x1), some (.int x2), some (.int x3)] [.int (b_X11_couple x1 x2), .ref 114] (sh, I, R, L, g) 0 0
  refine AW.iload_n dX11_meet_9 rfl ?_
  obtain ⟨hb, h⟩ := g_ifE h
  refine AW.iast (hm.1 13 _ rfl) (g_in_iff.mp hb) dX11_meet_10 ?_
  obtain ⟨I1, eI1, h⟩ := g_letE h
  refine AW.namIE eI1 ?_
  refine AW.aload_n dX11_meet_11 rfl ?_
  refine AW.getR (c' := 114) (fX11_67 hG).r rfl (hm.1 0 _ rfl) (hm.2 (0, 13, 13) (by decide)) dX11_meet_12 ?_
  refine AW.iload_n dX11_meet_15 rfl ?_
  refine AW.iload_n dX11_meet_16 rfl ?_
  refine AW.callS (As := [.int x2, .int x1]) hG.2.2 (vX11_282 hG) (g_X11_couple hK (d := 0) (Nat.le_refl _)) (by omega) dX11_meet_17 rfl rfl (Nat.le_of_ble_eq_true rfl) (fun v w9 hq9 h09 => by obtain ⟨rfl, rfl⟩ := hq9; exact ⟨h09, rfl⟩) (by decide) (by decide) (fun _ _ hx => hx) (fun v9 w9 hq9 => ?_)
  obtain ⟨rfl, rfl⟩ := hq9
  show AW G _ d _ _ 20 [some (.ref 101), some (.int x1), some (.int x2), some (.int x3)] [.int (b_X11_couple x2 x1), .ref 114] (sh, I1, R, L, g) 0 0
  refine AW.iload_n dX11_meet_20 rfl ?_
  obtain ⟨hb, h⟩ := g_ifE h
  refine AW.iast (hm.1 13 _ rfl) (g_in_iff.mp hb) dX11_meet_21 ?_
  obtain ⟨I2, eI2, h⟩ := g_letE h
  refine AW.namIE eI2 ?_
  exact AW.vret dX11_meet_22 rfl (by decide) (by decide) (by cases h; exact ⟨rfl, rfl⟩)
theorem dX11_knownBoth_0 : decode cX11_knownBoth 0 = .ok (.iconst 0, 1) := by decide +kernel
theorem dX11_knownBoth_1 : decode cX11_knownBoth 1 = .ok (.istore_n 1, 1) := by decide +kernel
theorem dX11_knownBoth_2 : decode cX11_knownBoth 2 = .ok (.iconst 0, 1) := by decide +kernel
theorem dX11_knownBoth_3 : decode cX11_knownBoth 3 = .ok (.istore_n 2, 1) := by decide +kernel
theorem dX11_knownBoth_4 : decode cX11_knownBoth 4 = .ok (.iload_n 2, 1) := by decide +kernel
theorem dX11_knownBoth_5 : decode cX11_knownBoth 5 = .ok (.aload_n 0, 1) := by decide +kernel
theorem dX11_knownBoth_6 : decode cX11_knownBoth 6 = .ok (.getfield 38, 3) := by decide +kernel
theorem dX11_knownBoth_9 : decode cX11_knownBoth 9 = .ok (.iconst 0, 1) := by decide +kernel
theorem dX11_knownBoth_10 : decode cX11_knownBoth 10 = .ok (.iaload, 1) := by decide +kernel
theorem dX11_knownBoth_11 : decode cX11_knownBoth 11 = .ok (.if_icmp .ge 55, 3) := by decide +kernel
theorem dX11_knownBoth_14 : decode cX11_knownBoth 14 = .ok (.iload_n 2, 1) := by decide +kernel
theorem dX11_knownBoth_15 : decode cX11_knownBoth 15 = .ok (.iconst 1, 1) := by decide +kernel
theorem dX11_knownBoth_16 : decode cX11_knownBoth 16 = .ok (.iadd, 1) := by decide +kernel
theorem dX11_knownBoth_17 : decode cX11_knownBoth 17 = .ok (.istore_n 3, 1) := by decide +kernel
theorem dX11_knownBoth_18 : decode cX11_knownBoth 18 = .ok (.iload_n 3, 1) := by decide +kernel
theorem dX11_knownBoth_19 : decode cX11_knownBoth 19 = .ok (.aload_n 0, 1) := by decide +kernel
theorem dX11_knownBoth_20 : decode cX11_knownBoth 20 = .ok (.getfield 38, 3) := by decide +kernel
theorem dX11_knownBoth_23 : decode cX11_knownBoth 23 = .ok (.iconst 0, 1) := by decide +kernel
theorem dX11_knownBoth_24 : decode cX11_knownBoth 24 = .ok (.iaload, 1) := by decide +kernel
theorem dX11_knownBoth_25 : decode cX11_knownBoth 25 = .ok (.if_icmp .ge 35, 3) := by decide +kernel
theorem dX11_knownBoth_28 : decode cX11_knownBoth 28 = .ok (.iload_n 1, 1) := by decide +kernel
theorem dX11_knownBoth_29 : decode cX11_knownBoth 29 = .ok (.aload_n 0, 1) := by decide +kernel
theorem dX11_knownBoth_30 : decode cX11_knownBoth 30 = .ok (.iload_n 2, 1) := by decide +kernel
theorem dX11_knownBoth_31 : decode cX11_knownBoth 31 = .ok (.iload_n 3, 1) := by decide +kernel
theorem dX11_knownBoth_32 : decode cX11_knownBoth 32 = .ok (.invokevirtual 349, 3) := by decide +kernel
theorem dX11_knownBoth_35 : decode cX11_knownBoth 35 = .ok (.ifCond .eq 16, 3) := by decide +kernel
theorem dX11_knownBoth_38 : decode cX11_knownBoth 38 = .ok (.aload_n 0, 1) := by decide +kernel
theorem dX11_knownBoth_39 : decode cX11_knownBoth 39 = .ok (.iload_n 3, 1) := by decide +kernel
theorem dX11_knownBoth_40 : decode cX11_knownBoth 40 = .ok (.iload_n 2, 1) := by decide +kernel
theorem dX11_knownBoth_41 : decode cX11_knownBoth 41 = .ok (.invokevirtual 349, 3) := by decide +kernel
theorem dX11_knownBoth_44 : decode cX11_knownBoth 44 = .ok (.ifCond .eq 7, 3) := by decide +kernel
theorem dX11_knownBoth_47 : decode cX11_knownBoth 47 = .ok (.iconst 1, 1) := by decide +kernel
theorem dX11_knownBoth_48 : decode cX11_knownBoth 48 = .ok (.goto 4, 3) := by decide +kernel
theorem dX11_knownBoth_51 : decode cX11_knownBoth 51 = .ok (.iconst 0, 1) := by decide +kernel
theorem dX11_knownBoth_52 : decode cX11_knownBoth 52 = .ok (.iadd, 1) := by decide +kernel
theorem dX11_knownBoth_53 : decode cX11_knownBoth 53 = .ok (.istore_n 1, 1) := by decide +kernel
theorem dX11_knownBoth_54 : decode cX11_knownBoth 54 = .ok (.iinc 3 1, 3) := by decide +kernel
theorem dX11_knownBoth_57 : decode cX11_knownBoth 57 = .ok (.goto (-39), 3) := by decide +kernel
theorem dX11_knownBoth_60 : decode cX11_knownBoth 60 = .ok (.iinc 2 1, 3) := by decide +kernel
theorem dX11_knownBoth_63 : decode cX11_knownBoth 63 = .ok (.goto (-59), 3) := by decide +kernel
theorem dX11_knownBoth_66 : decode cX11_knownBoth 66 = .ok (.iload_n 1, 1) := by decide +kernel
theorem dX11_knownBoth_67 : decode cX11_knownBoth 67 = .ok (.ireturn, 1) := by decide +kernel
def b_X11_knownBoth_L18 (I : g_I) (y2 : Int32) (K : Int32 → Option (Int32)) : Nat → Int32 → Int32 → Option (Int32)
  | 0, _, _ => none
  | f + 1, x1, x3 => if (I 104 0) ≤ x3 then K x1 else g_bind (b_X11_isKnown I y2 x3) fun t2 => if t2 = true then g_bind (b_X11_isKnown I x3 y2) fun t6 => if t6 = true then g_let (x1 + 1) fun a10 => b_X11_knownBoth_L18 I y2 K f a10 (x3 + 1) else g_let (x1 + 0) fun a9 => b_X11_knownBoth_L18 I y2 K f a9 (x3 + 1) else g_let (x1 + 0) fun a5 => b_X11_knownBoth_L18 I y2 K f a5 (x3 + 1)
def b_X11_knownBoth_L4 (I : g_I) (K : Int32 → Option (Int32)) : Nat → Int32 → Int32 → Option (Int32)
  | 0, _, _ => none
  | f + 1, x1, x2 => if (I 104 0) ≤ x2 then K x1 else g_let (x2 + 1) fun a1 => b_X11_knownBoth_L18 I x2 (fun (a11 : Int32) => b_X11_knownBoth_L4 I K f a11 (x2 + 1)) fu x1 a1
def b_X11_knownBoth (I : g_I) : Option (Int32) :=
  b_X11_knownBoth_L4 I (fun (a12 : Int32) => some a12) fu 0 0
set_option maxRecDepth 100000 in
set_option maxHeartbeats 4000000 in
theorem gL_X11_knownBoth_18 {G : am_G} (hK : k_OK G) {d : Nat} (hd : 3 ≤ d) {sh : List (Nat ⊕ (Nat × Nat))} {I : g_I} {R : Nat → Nat → Option Nat} {L : Nat → Nat → Int64} {g : Nat} (hm : k_Mod sh R) {y2 : Int32} {K : Int32 → Option (Int32)} {x1 : Int32} {x3 : Int32} {f : Nat} {r : Int32} (h : b_X11_knownBoth_L18 I y2 K f x1 x3 = some r) (hk : ∀ (u1 : Int32), K u1 = some r → AW G mX11_knownBoth d (fun v w => v = some (.int r) ∧ w = (sh, I, R, L, g)) (fun _ _ => False) 60 [some (.ref 101), some (.int u1), some (.int y2), none] [] (sh, I, R, L, g) 0 0) : AW G mX11_knownBoth d (fun v w => v = some (.int r) ∧ w = (sh, I, R, L, g)) (fun _ _ => False) 18 [some (.ref 101), some (.int x1), some (.int y2), some (.int x3)] [] (sh, I, R, L, g) 0 0 := by
  have hG := hK.1
  induction f generalizing x1 x3 with
  | zero => rw [b_X11_knownBoth_L18] at h; cases h
  | succ f ih =>
    rw [b_X11_knownBoth_L18] at h
    refine AW.iload_n dX11_knownBoth_18 rfl ?_
    refine AW.aload_n dX11_knownBoth_19 rfl ?_
    refine AW.getR (c' := 104) (fX11_38 hG).r rfl (hm.1 0 _ rfl) (hm.2 (0, 3, 3) (by decide)) dX11_knownBoth_20 ?_
    refine AW.iconst 0 dX11_knownBoth_23 (by decide) ?_
    refine AW.iald (hm.1 3 _ rfl) (by unfold vp_in; decide) dX11_knownBoth_24 ?_
    show AW G _ d _ _ 25 [some (.ref 101), some (.int x1), some (.int y2), some (.int x3)] [.int (I 104 0), .int x3] (sh, I, R, L, g) 0 0
    refine AW.icmp_ge 60 dX11_knownBoth_25 (by decide) (fun hc25 => ?_) (fun hc25 => ?_)
    · replace h := g_pos hc25 h
      refine AW.mask [3] [some (.ref 101), some (.int x1), some (.int y2), none] rfl ?_
      exact hk _ h
    · replace h := g_neg hc25 h
      refine AW.iload_n dX11_knownBoth_28 rfl ?_
      refine AW.aload_n dX11_knownBoth_29 rfl ?_
      refine AW.iload_n dX11_knownBoth_30 rfl ?_
      refine AW.iload_n dX11_knownBoth_31 rfl ?_
      obtain ⟨t2, hx4, h⟩ := g_bindE h
      refine AW.callV (b := 101) (As := [.int y2, .int x3]) hG.2.2 (vX11_349 hG) (hm.1 0 _ rfl) (g_X11_isKnown hK (d := 2) (Nat.le_refl _) hm hx4) (by omega) dX11_knownBoth_32 rfl rfl (Nat.le_of_ble_eq_true rfl) (fun v w9 hq9 h09 => by obtain ⟨rfl, rfl⟩ := hq9; exact ⟨h09, rfl⟩) (by decide) (by decide) (fun _ _ hx => hx) (fun v9 w9 hq9 => ?_)
      obtain ⟨rfl, rfl⟩ := hq9
      show AW G _ d _ _ 35 [some (.ref 101), some (.int x1), some (.int y2), some (.int x3)] [.int (kb t2), .int x1] (sh, I, R, L, g) 0 0
      refine AW.if_eq 51 dX11_knownBoth_35 (by decide) (fun hc35 => ?_) (fun hc35 => ?_)
      · replace h := g_neg (g_kb0 hc35) h
        refine AW.iconst 0 dX11_knownBoth_51 (by decide) ?_
        refine AW.iadd dX11_knownBoth_52 ?_
        obtain ⟨a5, ea5, h⟩ := g_letE h
        refine AW.namE ea5 ?_
        refine AW.is_n [some (.ref 101), some (.int a5), some (.int y2), some (.int x3)] dX11_knownBoth_53 (by decide) rfl rfl ?_
        refine AW.incE 1 (by decide) [some (.ref 101), some (.int a5), some (.int y2), some (.int (x3 + 1))] dX11_knownBoth_54 rfl (by decide) rfl rfl ?_
        refine AW.goto 18 dX11_knownBoth_57 (by decide) ?_
        exact ih h
      · replace h := g_pos (kb_1.mp hc35) h
        refine AW.aload_n dX11_knownBoth_38 rfl ?_
        refine AW.iload_n dX11_knownBoth_39 rfl ?_
        refine AW.iload_n dX11_knownBoth_40 rfl ?_
        obtain ⟨t6, hx8, h⟩ := g_bindE h
        refine AW.callV (b := 101) (As := [.int x3, .int y2]) hG.2.2 (vX11_349 hG) (hm.1 0 _ rfl) (g_X11_isKnown hK (d := 2) (Nat.le_refl _) hm hx8) (by omega) dX11_knownBoth_41 rfl rfl (Nat.le_of_ble_eq_true rfl) (fun v w9 hq9 h09 => by obtain ⟨rfl, rfl⟩ := hq9; exact ⟨h09, rfl⟩) (by decide) (by decide) (fun _ _ hx => hx) (fun v9 w9 hq9 => ?_)
        obtain ⟨rfl, rfl⟩ := hq9
        show AW G _ d _ _ 44 [some (.ref 101), some (.int x1), some (.int y2), some (.int x3)] [.int (kb t6), .int x1] (sh, I, R, L, g) 0 0
        refine AW.if_eq 51 dX11_knownBoth_44 (by decide) (fun hc44 => ?_) (fun hc44 => ?_)
        · replace h := g_neg (g_kb0 hc44) h
          refine AW.iconst 0 dX11_knownBoth_51 (by decide) ?_
          refine AW.iadd dX11_knownBoth_52 ?_
          obtain ⟨a9, ea9, h⟩ := g_letE h
          refine AW.namE ea9 ?_
          refine AW.is_n [some (.ref 101), some (.int a9), some (.int y2), some (.int x3)] dX11_knownBoth_53 (by decide) rfl rfl ?_
          refine AW.incE 1 (by decide) [some (.ref 101), some (.int a9), some (.int y2), some (.int (x3 + 1))] dX11_knownBoth_54 rfl (by decide) rfl rfl ?_
          refine AW.goto 18 dX11_knownBoth_57 (by decide) ?_
          exact ih h
        · replace h := g_pos (kb_1.mp hc44) h
          refine AW.iconst 1 dX11_knownBoth_47 (by decide) ?_
          refine AW.goto 52 dX11_knownBoth_48 (by decide) ?_
          refine AW.iadd dX11_knownBoth_52 ?_
          obtain ⟨a10, ea10, h⟩ := g_letE h
          refine AW.namE ea10 ?_
          refine AW.is_n [some (.ref 101), some (.int a10), some (.int y2), some (.int x3)] dX11_knownBoth_53 (by decide) rfl rfl ?_
          refine AW.incE 1 (by decide) [some (.ref 101), some (.int a10), some (.int y2), some (.int (x3 + 1))] dX11_knownBoth_54 rfl (by decide) rfl rfl ?_
          refine AW.goto 18 dX11_knownBoth_57 (by decide) ?_
          exact ih h
set_option maxRecDepth 100000 in
set_option maxHeartbeats 4000000 in
theorem gL_X11_knownBoth_4 {G : am_G} (hK : k_OK G) {d : Nat} (hd : 3 ≤ d) {sh : List (Nat ⊕ (Nat × Nat))} {I : g_I} {R : Nat → Nat → Option Nat} {L : Nat → Nat → Int64} {g : Nat} (hm : k_Mod sh R) {K : Int32 → Option (Int32)} {x1 : Int32} {x2 : Int32} {f : Nat} {r : Int32} (h : b_X11_knownBoth_L4 I K f x1 x2 = some r) (hk : ∀ (u1 : Int32), K u1 = some r → AW G mX11_knownBoth d (fun v w => v = some (.int r) ∧ w = (sh, I, R, L, g)) (fun _ _ => False) 66 [none, some (.int u1), none, none] [] (sh, I, R, L, g) 0 0) : AW G mX11_knownBoth d (fun v w => v = some (.int r) ∧ w = (sh, I, R, L, g)) (fun _ _ => False) 4 [some (.ref 101), some (.int x1), some (.int x2), none] [] (sh, I, R, L, g) 0 0 := by
  have hG := hK.1
  induction f generalizing x1 x2 with
  | zero => rw [b_X11_knownBoth_L4] at h; cases h
  | succ f ih =>
    rw [b_X11_knownBoth_L4] at h
    refine AW.iload_n dX11_knownBoth_4 rfl ?_
    refine AW.aload_n dX11_knownBoth_5 rfl ?_
    refine AW.getR (c' := 104) (fX11_38 hG).r rfl (hm.1 0 _ rfl) (hm.2 (0, 3, 3) (by decide)) dX11_knownBoth_6 ?_
    refine AW.iconst 0 dX11_knownBoth_9 (by decide) ?_
    refine AW.iald (hm.1 3 _ rfl) (by unfold vp_in; decide) dX11_knownBoth_10 ?_
    show AW G _ d _ _ 11 [some (.ref 101), some (.int x1), some (.int x2), none] [.int (I 104 0), .int x2] (sh, I, R, L, g) 0 0
    refine AW.icmp_ge 66 dX11_knownBoth_11 (by decide) (fun hc11 => ?_) (fun hc11 => ?_)
    · replace h := g_pos hc11 h
      refine AW.mask [0, 2] [none, some (.int x1), none, none] rfl ?_
      exact hk _ h
    · replace h := g_neg hc11 h
      refine AW.iload_n dX11_knownBoth_14 rfl ?_
      refine AW.iconst 1 dX11_knownBoth_15 (by decide) ?_
      refine AW.iadd dX11_knownBoth_16 ?_
      obtain ⟨a1, ea1, h⟩ := g_letE h
      refine AW.namE ea1 ?_
      refine AW.is_n [some (.ref 101), some (.int x1), some (.int x2), some (.int a1)] dX11_knownBoth_17 (by decide) rfl rfl ?_
      refine gL_X11_knownBoth_18 hK hd hm h (fun a11 h => ?_)
      refine AW.incE 1 (by decide) [some (.ref 101), some (.int a11), some (.int (x2 + 1)), none] dX11_knownBoth_60 rfl (by decide) rfl rfl ?_
      refine AW.goto 4 dX11_knownBoth_63 (by decide) ?_
      exact ih h
set_option maxRecDepth 100000 in
set_option maxHeartbeats 4000000 in
theorem g_X11_knownBoth {G : am_G} (hK : k_OK G) {d : Nat} (hd : 3 ≤ d) {sh : List (Nat ⊕ (Nat × Nat))} {I : g_I} {R : Nat → Nat → Option Nat} {L : Nat → Nat → Int64} {g : Nat} (hm : k_Mod sh R) {r : Int32} (h : b_X11_knownBoth I = some r) : AM G mX11_knownBoth d [.ref 101] (sh, I, R, L, g) (fun v w => v = some (.int r) ∧ w = (sh, I, R, L, g)) (fun _ _ => False) := by
  have hG := hK.1
  refine AM.of (n := 3) (by decide +kernel) (Nat.le_of_ble_eq_true rfl) ?_
  show AW G mX11_knownBoth d (fun v w => v = some (.int r) ∧ w = (sh, I, R, L, g)) (fun _ _ => False) 0 [some (.ref 101), none, none, none] [] (sh, I, R, L, g) 0 0
  unfold b_X11_knownBoth at h
  refine AW.iconst 0 dX11_knownBoth_0 (by decide) ?_
  refine AW.is_n [some (.ref 101), some (.int 0), none, none] dX11_knownBoth_1 (by decide) rfl rfl ?_
  refine AW.iconst 0 dX11_knownBoth_2 (by decide) ?_
  refine AW.is_n [some (.ref 101), some (.int 0), some (.int 0), none] dX11_knownBoth_3 (by decide) rfl rfl ?_
  refine gL_X11_knownBoth_4 hK hd hm h (fun a12 h => ?_)
  refine AW.iload_n dX11_knownBoth_66 rfl ?_
  exact AW.iret dX11_knownBoth_67 rfl (by decide) (by decide) (by cases h; exact ⟨rfl, rfl⟩)
theorem dX11_eatersOf_0 : decode cX11_eatersOf 0 = .ok (.iconst 0, 1) := by decide +kernel
theorem dX11_eatersOf_1 : decode cX11_eatersOf 1 = .ok (.istore_n 2, 1) := by decide +kernel
theorem dX11_eatersOf_2 : decode cX11_eatersOf 2 = .ok (.iconst 0, 1) := by decide +kernel
theorem dX11_eatersOf_3 : decode cX11_eatersOf 3 = .ok (.istore_n 3, 1) := by decide +kernel
theorem dX11_eatersOf_4 : decode cX11_eatersOf 4 = .ok (.iload_n 3, 1) := by decide +kernel
theorem dX11_eatersOf_5 : decode cX11_eatersOf 5 = .ok (.aload_n 0, 1) := by decide +kernel
theorem dX11_eatersOf_6 : decode cX11_eatersOf 6 = .ok (.getfield 61, 3) := by decide +kernel
theorem dX11_eatersOf_9 : decode cX11_eatersOf 9 = .ok (.iload_n 1, 1) := by decide +kernel
theorem dX11_eatersOf_10 : decode cX11_eatersOf 10 = .ok (.iaload, 1) := by decide +kernel
theorem dX11_eatersOf_11 : decode cX11_eatersOf 11 = .ok (.if_icmp .ge 25, 3) := by decide +kernel
theorem dX11_eatersOf_14 : decode cX11_eatersOf 14 = .ok (.iload_n 2, 1) := by decide +kernel
theorem dX11_eatersOf_15 : decode cX11_eatersOf 15 = .ok (.iconst 1, 1) := by decide +kernel
theorem dX11_eatersOf_16 : decode cX11_eatersOf 16 = .ok (.aload_n 0, 1) := by decide +kernel
theorem dX11_eatersOf_17 : decode cX11_eatersOf 17 = .ok (.getfield 64, 3) := by decide +kernel
theorem dX11_eatersOf_20 : decode cX11_eatersOf 20 = .ok (.bipush 6, 2) := by decide +kernel
theorem dX11_eatersOf_22 : decode cX11_eatersOf 22 = .ok (.iload_n 1, 1) := by decide +kernel
theorem dX11_eatersOf_23 : decode cX11_eatersOf 23 = .ok (.imul, 1) := by decide +kernel
theorem dX11_eatersOf_24 : decode cX11_eatersOf 24 = .ok (.iload_n 3, 1) := by decide +kernel
theorem dX11_eatersOf_25 : decode cX11_eatersOf 25 = .ok (.iadd, 1) := by decide +kernel
theorem dX11_eatersOf_26 : decode cX11_eatersOf 26 = .ok (.iaload, 1) := by decide +kernel
theorem dX11_eatersOf_27 : decode cX11_eatersOf 27 = .ok (.ishl, 1) := by decide +kernel
theorem dX11_eatersOf_28 : decode cX11_eatersOf 28 = .ok (.ior, 1) := by decide +kernel
theorem dX11_eatersOf_29 : decode cX11_eatersOf 29 = .ok (.istore_n 2, 1) := by decide +kernel
theorem dX11_eatersOf_30 : decode cX11_eatersOf 30 = .ok (.iinc 3 1, 3) := by decide +kernel
theorem dX11_eatersOf_33 : decode cX11_eatersOf 33 = .ok (.goto (-29), 3) := by decide +kernel
theorem dX11_eatersOf_36 : decode cX11_eatersOf 36 = .ok (.iload_n 2, 1) := by decide +kernel
theorem dX11_eatersOf_37 : decode cX11_eatersOf 37 = .ok (.ireturn, 1) := by decide +kernel
def b_X11_eatersOf_L4 (I : g_I) (y1 : Int32) (K : Int32 → Option (Int32)) : Nat → Int32 → Int32 → Option (Int32)
  | 0, _, _ => none
  | f + 1, x2, x3 => if g_in y1 12 = true then if (I 112 y1.toNatClampNeg) ≤ x3 then K x2 else if g_in (((6 : Int32) * y1) + x3) 72 = true then g_let (x2 ||| ((1 : Int32) <<< ((I 113 (((6 : Int32) * y1) + x3).toNatClampNeg) &&& 31))) fun a1 => b_X11_eatersOf_L4 I y1 K f a1 (x3 + 1) else none else none
def b_X11_eatersOf (I : g_I) (x1 : Int32) : Option (Int32) :=
  b_X11_eatersOf_L4 I x1 (fun (a2 : Int32) => some a2) fu 0 0
set_option maxRecDepth 100000 in
set_option maxHeartbeats 4000000 in
theorem gL_X11_eatersOf_4 {G : am_G} (hK : k_OK G) {d : Nat} (hd : 0 ≤ d) {sh : List (Nat ⊕ (Nat × Nat))} {I : g_I} {R : Nat → Nat → Option Nat} {L : Nat → Nat → Int64} {g : Nat} (hm : k_Mod sh R) {y1 : Int32} {K : Int32 → Option (Int32)} {x2 : Int32} {x3 : Int32} {f : Nat} {r : Int32} (h : b_X11_eatersOf_L4 I y1 K f x2 x3 = some r) (hk : ∀ (u2 : Int32), K u2 = some r → AW G mX11_eatersOf d (fun v w => v = some (.int r) ∧ w = (sh, I, R, L, g)) (fun _ _ => False) 36 [none, none, some (.int u2), none] [] (sh, I, R, L, g) 0 0) : AW G mX11_eatersOf d (fun v w => v = some (.int r) ∧ w = (sh, I, R, L, g)) (fun _ _ => False) 4 [some (.ref 101), some (.int y1), some (.int x2), some (.int x3)] [] (sh, I, R, L, g) 0 0 := by
  have hG := hK.1
  induction f generalizing x2 x3 with
  | zero => rw [b_X11_eatersOf_L4] at h; cases h
  | succ f ih =>
    rw [b_X11_eatersOf_L4] at h
    refine AW.iload_n dX11_eatersOf_4 rfl ?_
    refine AW.aload_n dX11_eatersOf_5 rfl ?_
    refine AW.getR (c' := 112) (fX11_61 hG).r rfl (hm.1 0 _ rfl) (hm.2 (0, 11, 11) (by decide)) dX11_eatersOf_6 ?_
    refine AW.iload_n dX11_eatersOf_9 rfl ?_
    obtain ⟨hb, h⟩ := g_ifE h
    refine AW.iald (hm.1 11 _ rfl) (g_in_iff.mp hb) dX11_eatersOf_10 ?_
    refine AW.icmp_ge 36 dX11_eatersOf_11 (by decide) (fun hc11 => ?_) (fun hc11 => ?_)
    · replace h := g_pos hc11 h
      refine AW.mask [0, 1, 3] [none, none, some (.int x2), none] rfl ?_
      exact hk _ h
    · replace h := g_neg hc11 h
      refine AW.iload_n dX11_eatersOf_14 rfl ?_
      refine AW.iconst 1 dX11_eatersOf_15 (by decide) ?_
      refine AW.aload_n dX11_eatersOf_16 rfl ?_
      refine AW.getR (c' := 113) (fX11_64 hG).r rfl (hm.1 0 _ rfl) (hm.2 (0, 12, 12) (by decide)) dX11_eatersOf_17 ?_
      refine AW.bipush 6 dX11_eatersOf_20 (by decide) ?_
      refine AW.iload_n dX11_eatersOf_22 rfl ?_
      refine AW.imul dX11_eatersOf_23 ?_
      refine AW.iload_n dX11_eatersOf_24 rfl ?_
      refine AW.iadd dX11_eatersOf_25 ?_
      obtain ⟨hb, h⟩ := g_ifE h
      refine AW.iald (hm.1 12 _ rfl) (g_in_iff.mp hb) dX11_eatersOf_26 ?_
      refine AW.ishl dX11_eatersOf_27 ?_
      refine AW.ior dX11_eatersOf_28 ?_
      obtain ⟨a1, ea1, h⟩ := g_letE h
      refine AW.namE ea1 ?_
      refine AW.is_n [some (.ref 101), some (.int y1), some (.int a1), some (.int x3)] dX11_eatersOf_29 (by decide) rfl rfl ?_
      refine AW.incE 1 (by decide) [some (.ref 101), some (.int y1), some (.int a1), some (.int (x3 + 1))] dX11_eatersOf_30 rfl (by decide) rfl rfl ?_
      refine AW.goto 4 dX11_eatersOf_33 (by decide) ?_
      exact ih h
set_option maxRecDepth 100000 in
set_option maxHeartbeats 4000000 in
theorem g_X11_eatersOf {G : am_G} (hK : k_OK G) {d : Nat} (hd : 0 ≤ d) {sh : List (Nat ⊕ (Nat × Nat))} {I : g_I} {R : Nat → Nat → Option Nat} {L : Nat → Nat → Int64} {g : Nat} (hm : k_Mod sh R) {x1 : Int32} {r : Int32} (h : b_X11_eatersOf I x1 = some r) : AM G mX11_eatersOf d [.ref 101, .int x1] (sh, I, R, L, g) (fun v w => v = some (.int r) ∧ w = (sh, I, R, L, g)) (fun _ _ => False) := by
  have hG := hK.1
  refine AM.of (n := 2) (by decide +kernel) (Nat.le_of_ble_eq_true rfl) ?_
  show AW G mX11_eatersOf d (fun v w => v = some (.int r) ∧ w = (sh, I, R, L, g)) (fun _ _ => False) 0 [some (.ref 101), some (.int x1), none, none] [] (sh, I, R, L, g) 0 0
  unfold b_X11_eatersOf at h
  refine AW.iconst 0 dX11_eatersOf_0 (by decide) ?_
  refine AW.is_n [some (.ref 101), some (.int x1), some (.int 0), none] dX11_eatersOf_1 (by decide) rfl rfl ?_
  refine AW.iconst 0 dX11_eatersOf_2 (by decide) ?_
  refine AW.is_n [some (.ref 101), some (.int x1), some (.int 0), some (.int 0)] dX11_eatersOf_3 (by decide) rfl rfl ?_
  refine gL_X11_eatersOf_4 hK hd hm h (fun a2 h => ?_)
  refine AW.iload_n dX11_eatersOf_36 rfl ?_
  exact AW.iret dX11_eatersOf_37 rfl (by decide) (by decide) (by cases h; exact ⟨rfl, rfl⟩)
theorem dX11_eats_0 : decode cX11_eats 0 = .ok (.aload_n 0, 1) := by decide +kernel
theorem dX11_eats_1 : decode cX11_eats 1 = .ok (.iload_n 2, 1) := by decide +kernel
theorem dX11_eats_2 : decode cX11_eats 2 = .ok (.invokevirtual 352, 3) := by decide +kernel
theorem dX11_eats_5 : decode cX11_eats 5 = .ok (.istore_n 3, 1) := by decide +kernel
theorem dX11_eats_6 : decode cX11_eats 6 = .ok (.iload_n 3, 1) := by decide +kernel
theorem dX11_eats_7 : decode cX11_eats 7 = .ok (.iload_n 1, 1) := by decide +kernel
theorem dX11_eats_8 : decode cX11_eats 8 = .ok (.invokestatic 278, 3) := by decide +kernel
theorem dX11_eats_11 : decode cX11_eats 11 = .ok (.ifCond .ne 24, 3) := by decide +kernel
theorem dX11_eats_14 : decode cX11_eats 14 = .ok (.aload_n 0, 1) := by decide +kernel
theorem dX11_eats_15 : decode cX11_eats 15 = .ok (.iload_n 1, 1) := by decide +kernel
theorem dX11_eats_16 : decode cX11_eats 16 = .ok (.invokevirtual 343, 3) := by decide +kernel
theorem dX11_eats_19 : decode cX11_eats 19 = .ok (.iconst (-1), 1) := by decide +kernel
theorem dX11_eats_20 : decode cX11_eats 20 = .ok (.if_icmp .eq 19, 3) := by decide +kernel
theorem dX11_eats_23 : decode cX11_eats 23 = .ok (.iload_n 3, 1) := by decide +kernel
theorem dX11_eats_24 : decode cX11_eats 24 = .ok (.aload_n 0, 1) := by decide +kernel
theorem dX11_eats_25 : decode cX11_eats 25 = .ok (.iload_n 1, 1) := by decide +kernel
theorem dX11_eats_26 : decode cX11_eats 26 = .ok (.invokevirtual 343, 3) := by decide +kernel
theorem dX11_eats_29 : decode cX11_eats 29 = .ok (.invokestatic 278, 3) := by decide +kernel
theorem dX11_eats_32 : decode cX11_eats 32 = .ok (.ifCond .eq 7, 3) := by decide +kernel
theorem dX11_eats_35 : decode cX11_eats 35 = .ok (.iconst 1, 1) := by decide +kernel
theorem dX11_eats_36 : decode cX11_eats 36 = .ok (.goto 4, 3) := by decide +kernel
theorem dX11_eats_39 : decode cX11_eats 39 = .ok (.iconst 0, 1) := by decide +kernel
theorem dX11_eats_40 : decode cX11_eats 40 = .ok (.ireturn, 1) := by decide +kernel
def b_X11_eats (I : g_I) (x1 : Int32) (x2 : Int32) : Option (Bool) :=
  g_bind (b_X11_eatersOf I x2) fun a1 => if b_X11_isOf a1 x1 = true then some true else g_bind (b_X11_twinOf I x1) fun a4 => if a4 = (-1) then some false else g_bind (b_X11_twinOf I x1) fun a7 => if b_X11_isOf a1 a7 = true then some true else some false
set_option maxRecDepth 100000 in
set_option maxHeartbeats 4000000 in
theorem g_X11_eats {G : am_G} (hK : k_OK G) {d : Nat} (hd : 1 ≤ d) {sh : List (Nat ⊕ (Nat × Nat))} {I : g_I} {R : Nat → Nat → Option Nat} {L : Nat → Nat → Int64} {g : Nat} (hm : k_Mod sh R) {x1 : Int32} {x2 : Int32} {r : Bool} (h : b_X11_eats I x1 x2 = some r) : AM G mX11_eats d [.ref 101, .int x1, .int x2] (sh, I, R, L, g) (fun v w => v = some (.int (kb r)) ∧ w = (sh, I, R, L, g)) (fun _ _ => False) := by
  have hG := hK.1
  refine AM.of (n := 1) (by decide +kernel) (Nat.le_of_ble_eq_true rfl) ?_
  show AW G mX11_eats d (fun v w => v = some (.int (kb r)) ∧ w = (sh, I, R, L, g)) (fun _ _ => False) 0 [some (.ref 101), some (.int x1), some (.int x2), none] [] (sh, I, R, L, g) 0 0
  unfold b_X11_eats at h
  refine AW.aload_n dX11_eats_0 rfl ?_
  refine AW.iload_n dX11_eats_1 rfl ?_
  obtain ⟨a1, hx3, h⟩ := g_bindE h
  refine AW.callV (b := 101) (As := [.int x2]) hG.2.2 (vX11_352 hG) (hm.1 0 _ rfl) (g_X11_eatersOf hK (d := 0) (Nat.le_refl _) hm hx3) (by omega) dX11_eats_2 rfl rfl (Nat.le_of_ble_eq_true rfl) (fun v w9 hq9 h09 => by obtain ⟨rfl, rfl⟩ := hq9; exact ⟨h09, rfl⟩) (by decide) (by decide) (fun _ _ hx => hx) (fun v9 w9 hq9 => ?_)
  obtain ⟨rfl, rfl⟩ := hq9
  show AW G _ d _ _ 5 [some (.ref 101), some (.int x1), some (.int x2), none] [.int a1] (sh, I, R, L, g) 0 0
  refine AW.is_n [some (.ref 101), some (.int x1), some (.int x2), some (.int a1)] dX11_eats_5 (by decide) rfl rfl ?_
  refine AW.iload_n dX11_eats_6 rfl ?_
  refine AW.iload_n dX11_eats_7 rfl ?_
  refine AW.callS (As := [.int a1, .int x1]) hG.2.2 (vX11_278 hG) (g_X11_isOf hK (d := 0) (Nat.le_refl _)) (by omega) dX11_eats_8 rfl rfl (Nat.le_of_ble_eq_true rfl) (fun v w9 hq9 h09 => by obtain ⟨rfl, rfl⟩ := hq9; exact ⟨h09, rfl⟩) (by decide) (by decide) (fun _ _ hx => hx) (fun v9 w9 hq9 => ?_)
  obtain ⟨rfl, rfl⟩ := hq9
  show AW G _ d _ _ 11 [some (.ref 101), some (.int x1), some (.int x2), some (.int a1)] [.int (kb (b_X11_isOf a1 x1))] (sh, I, R, L, g) 0 0
  refine AW.if_ne 35 dX11_eats_11 (by decide) (fun hc11 => ?_) (fun hc11 => ?_)
  · replace h := g_pos (kb_1.mp hc11) h
    refine AW.iconst 1 dX11_eats_35 (by decide) ?_
    refine AW.goto 40 dX11_eats_36 (by decide) ?_
    exact AW.zret dX11_eats_40 rfl (by decide) (by decide) (by decide) (by cases h; exact ⟨rfl, rfl⟩)
  · replace h := g_neg (g_kb0 hc11) h
    refine AW.aload_n dX11_eats_14 rfl ?_
    refine AW.iload_n dX11_eats_15 rfl ?_
    obtain ⟨a4, hx6, h⟩ := g_bindE h
    refine AW.callV (b := 101) (As := [.int x1]) hG.2.2 (vX11_343 hG) (hm.1 0 _ rfl) (g_X11_twinOf hK (d := 0) (Nat.le_refl _) hm hx6) (by omega) dX11_eats_16 rfl rfl (Nat.le_of_ble_eq_true rfl) (fun v w9 hq9 h09 => by obtain ⟨rfl, rfl⟩ := hq9; exact ⟨h09, rfl⟩) (by decide) (by decide) (fun _ _ hx => hx) (fun v9 w9 hq9 => ?_)
    obtain ⟨rfl, rfl⟩ := hq9
    show AW G _ d _ _ 19 [some (.ref 101), some (.int x1), some (.int x2), some (.int a1)] [.int a4] (sh, I, R, L, g) 0 0
    refine AW.iconst (-1) dX11_eats_19 (by decide) ?_
    refine AW.icmp_eq 39 dX11_eats_20 (by decide) (fun hc20 => ?_) (fun hc20 => ?_)
    · replace h := g_pos hc20 h
      refine AW.iconst 0 dX11_eats_39 (by decide) ?_
      exact AW.zret dX11_eats_40 rfl (by decide) (by decide) (by decide) (by cases h; exact ⟨rfl, rfl⟩)
    · replace h := g_neg hc20 h
      refine AW.iload_n dX11_eats_23 rfl ?_
      refine AW.aload_n dX11_eats_24 rfl ?_
      refine AW.iload_n dX11_eats_25 rfl ?_
      obtain ⟨a7, hx9, h⟩ := g_bindE h
      refine AW.callV (b := 101) (As := [.int x1]) hG.2.2 (vX11_343 hG) (hm.1 0 _ rfl) (g_X11_twinOf hK (d := 0) (Nat.le_refl _) hm hx9) (by omega) dX11_eats_26 rfl rfl (Nat.le_of_ble_eq_true rfl) (fun v w9 hq9 h09 => by obtain ⟨rfl, rfl⟩ := hq9; exact ⟨h09, rfl⟩) (by decide) (by decide) (fun _ _ hx => hx) (fun v9 w9 hq9 => ?_)
      obtain ⟨rfl, rfl⟩ := hq9
      show AW G _ d _ _ 29 [some (.ref 101), some (.int x1), some (.int x2), some (.int a1)] [.int a7, .int a1] (sh, I, R, L, g) 0 0
      refine AW.callS (As := [.int a1, .int a7]) hG.2.2 (vX11_278 hG) (g_X11_isOf hK (d := 0) (Nat.le_refl _)) (by omega) dX11_eats_29 rfl rfl (Nat.le_of_ble_eq_true rfl) (fun v w9 hq9 h09 => by obtain ⟨rfl, rfl⟩ := hq9; exact ⟨h09, rfl⟩) (by decide) (by decide) (fun _ _ hx => hx) (fun v9 w9 hq9 => ?_)
      obtain ⟨rfl, rfl⟩ := hq9
      show AW G _ d _ _ 32 [some (.ref 101), some (.int x1), some (.int x2), some (.int a1)] [.int (kb (b_X11_isOf a1 a7))] (sh, I, R, L, g) 0 0
      refine AW.if_eq 39 dX11_eats_32 (by decide) (fun hc32 => ?_) (fun hc32 => ?_)
      · replace h := g_neg (g_kb0 hc32) h
        refine AW.iconst 0 dX11_eats_39 (by decide) ?_
        exact AW.zret dX11_eats_40 rfl (by decide) (by decide) (by decide) (by cases h; exact ⟨rfl, rfl⟩)
      · replace h := g_pos (kb_1.mp hc32) h
        refine AW.iconst 1 dX11_eats_35 (by decide) ?_
        refine AW.goto 40 dX11_eats_36 (by decide) ?_
        exact AW.zret dX11_eats_40 rfl (by decide) (by decide) (by decide) (by cases h; exact ⟨rfl, rfl⟩)
theorem dX11_knowsEater_0 : decode cX11_knowsEater 0 = .ok (.iconst 0, 1) := by decide +kernel
theorem dX11_knowsEater_1 : decode cX11_knowsEater 1 = .ok (.istore_n 3, 1) := by decide +kernel
theorem dX11_knowsEater_2 : decode cX11_knowsEater 2 = .ok (.iload_n 3, 1) := by decide +kernel
theorem dX11_knowsEater_3 : decode cX11_knowsEater 3 = .ok (.aload_n 0, 1) := by decide +kernel
theorem dX11_knowsEater_4 : decode cX11_knowsEater 4 = .ok (.getfield 61, 3) := by decide +kernel
theorem dX11_knowsEater_7 : decode cX11_knowsEater 7 = .ok (.iload_n 2, 1) := by decide +kernel
theorem dX11_knowsEater_8 : decode cX11_knowsEater 8 = .ok (.iaload, 1) := by decide +kernel
theorem dX11_knowsEater_9 : decode cX11_knowsEater 9 = .ok (.if_icmp .ge 40, 3) := by decide +kernel
theorem dX11_knowsEater_12 : decode cX11_knowsEater 12 = .ok (.aload_n 0, 1) := by decide +kernel
theorem dX11_knowsEater_13 : decode cX11_knowsEater 13 = .ok (.getfield 64, 3) := by decide +kernel
theorem dX11_knowsEater_16 : decode cX11_knowsEater 16 = .ok (.bipush 6, 2) := by decide +kernel
theorem dX11_knowsEater_18 : decode cX11_knowsEater 18 = .ok (.iload_n 2, 1) := by decide +kernel
theorem dX11_knowsEater_19 : decode cX11_knowsEater 19 = .ok (.imul, 1) := by decide +kernel
theorem dX11_knowsEater_20 : decode cX11_knowsEater 20 = .ok (.iload_n 3, 1) := by decide +kernel
theorem dX11_knowsEater_21 : decode cX11_knowsEater 21 = .ok (.iadd, 1) := by decide +kernel
theorem dX11_knowsEater_22 : decode cX11_knowsEater 22 = .ok (.iaload, 1) := by decide +kernel
theorem dX11_knowsEater_23 : decode cX11_knowsEater 23 = .ok (.istore 4, 2) := by decide +kernel
theorem dX11_knowsEater_25 : decode cX11_knowsEater 25 = .ok (.iload 4, 2) := by decide +kernel
theorem dX11_knowsEater_27 : decode cX11_knowsEater 27 = .ok (.iload_n 1, 1) := by decide +kernel
theorem dX11_knowsEater_28 : decode cX11_knowsEater 28 = .ok (.if_icmp .eq 15, 3) := by decide +kernel
theorem dX11_knowsEater_31 : decode cX11_knowsEater 31 = .ok (.aload_n 0, 1) := by decide +kernel
theorem dX11_knowsEater_32 : decode cX11_knowsEater 32 = .ok (.iload_n 1, 1) := by decide +kernel
theorem dX11_knowsEater_33 : decode cX11_knowsEater 33 = .ok (.iload 4, 2) := by decide +kernel
theorem dX11_knowsEater_35 : decode cX11_knowsEater 35 = .ok (.invokevirtual 349, 3) := by decide +kernel
theorem dX11_knowsEater_38 : decode cX11_knowsEater 38 = .ok (.ifCond .eq 5, 3) := by decide +kernel
theorem dX11_knowsEater_41 : decode cX11_knowsEater 41 = .ok (.iconst 1, 1) := by decide +kernel
theorem dX11_knowsEater_42 : decode cX11_knowsEater 42 = .ok (.ireturn, 1) := by decide +kernel
theorem dX11_knowsEater_43 : decode cX11_knowsEater 43 = .ok (.iinc 3 1, 3) := by decide +kernel
theorem dX11_knowsEater_46 : decode cX11_knowsEater 46 = .ok (.goto (-44), 3) := by decide +kernel
theorem dX11_knowsEater_49 : decode cX11_knowsEater 49 = .ok (.iconst 0, 1) := by decide +kernel
theorem dX11_knowsEater_50 : decode cX11_knowsEater 50 = .ok (.ireturn, 1) := by decide +kernel
def b_X11_knowsEater_L2 (I : g_I) (y1 : Int32) (y2 : Int32) (K : Unit → Option (Bool)) : Nat → Int32 → Option (Bool)
  | 0, _ => none
  | f + 1, x3 => if g_in y2 12 = true then if (I 112 y2.toNatClampNeg) ≤ x3 then K () else if g_in (((6 : Int32) * y2) + x3) 72 = true then g_let (I 113 (((6 : Int32) * y2) + x3).toNatClampNeg) fun a1 => if a1 = y1 then b_X11_knowsEater_L2 I y1 y2 K f (x3 + 1) else g_bind (b_X11_isKnown I y1 a1) fun t2 => if t2 = true then some true else b_X11_knowsEater_L2 I y1 y2 K f (x3 + 1) else none else none
def b_X11_knowsEater (I : g_I) (x1 : Int32) (x2 : Int32) : Option (Bool) :=
  b_X11_knowsEater_L2 I x1 x2 (fun (_ : Unit) => some false) fu 0
set_option maxRecDepth 100000 in
set_option maxHeartbeats 4000000 in
theorem gL_X11_knowsEater_2 {G : am_G} (hK : k_OK G) {d : Nat} (hd : 3 ≤ d) {sh : List (Nat ⊕ (Nat × Nat))} {I : g_I} {R : Nat → Nat → Option Nat} {L : Nat → Nat → Int64} {g : Nat} (hm : k_Mod sh R) {y1 : Int32} {y2 : Int32} {K : Unit → Option (Bool)} {x3 : Int32} {f : Nat} {r : Bool} (h : b_X11_knowsEater_L2 I y1 y2 K f x3 = some r) (hk : ∀ (_ : Unit), K () = some r → AW G mX11_knowsEater d (fun v w => v = some (.int (kb r)) ∧ w = (sh, I, R, L, g)) (fun _ _ => False) 49 [none, none, none, none, none] [] (sh, I, R, L, g) 0 0) : AW G mX11_knowsEater d (fun v w => v = some (.int (kb r)) ∧ w = (sh, I, R, L, g)) (fun _ _ => False) 2 [some (.ref 101), some (.int y1), some (.int y2), some (.int x3), none] [] (sh, I, R, L, g) 0 0 := by
  have hG := hK.1
  induction f generalizing x3 with
  | zero => rw [b_X11_knowsEater_L2] at h; cases h
  | succ f ih =>
    rw [b_X11_knowsEater_L2] at h
    refine AW.iload_n dX11_knowsEater_2 rfl ?_
    refine AW.aload_n dX11_knowsEater_3 rfl ?_
    refine AW.getR (c' := 112) (fX11_61 hG).r rfl (hm.1 0 _ rfl) (hm.2 (0, 11, 11) (by decide)) dX11_knowsEater_4 ?_
    refine AW.iload_n dX11_knowsEater_7 rfl ?_
    obtain ⟨hb, h⟩ := g_ifE h
    refine AW.iald (hm.1 11 _ rfl) (g_in_iff.mp hb) dX11_knowsEater_8 ?_
    refine AW.icmp_ge 49 dX11_knowsEater_9 (by decide) (fun hc9 => ?_) (fun hc9 => ?_)
    · replace h := g_pos hc9 h
      refine AW.mask [0, 1, 2, 3] [none, none, none, none, none] rfl ?_
      exact hk () h
    · replace h := g_neg hc9 h
      refine AW.aload_n dX11_knowsEater_12 rfl ?_
      refine AW.getR (c' := 113) (fX11_64 hG).r rfl (hm.1 0 _ rfl) (hm.2 (0, 12, 12) (by decide)) dX11_knowsEater_13 ?_
      refine AW.bipush 6 dX11_knowsEater_16 (by decide) ?_
      refine AW.iload_n dX11_knowsEater_18 rfl ?_
      refine AW.imul dX11_knowsEater_19 ?_
      refine AW.iload_n dX11_knowsEater_20 rfl ?_
      refine AW.iadd dX11_knowsEater_21 ?_
      obtain ⟨hb, h⟩ := g_ifE h
      refine AW.iald (hm.1 12 _ rfl) (g_in_iff.mp hb) dX11_knowsEater_22 ?_
      obtain ⟨a1, ea1, h⟩ := g_letE h
      refine AW.namE ea1 ?_
      refine AW.is [some (.ref 101), some (.int y1), some (.int y2), some (.int x3), some (.int a1)] dX11_knowsEater_23 (by decide) rfl rfl ?_
      refine AW.iload dX11_knowsEater_25 rfl ?_
      refine AW.iload_n dX11_knowsEater_27 rfl ?_
      refine AW.icmp_eq 43 dX11_knowsEater_28 (by decide) (fun hc28 => ?_) (fun hc28 => ?_)
      · replace h := g_pos hc28 h
        refine AW.incE 1 (by decide) [some (.ref 101), some (.int y1), some (.int y2), some (.int (x3 + 1)), some (.int a1)] dX11_knowsEater_43 rfl (by decide) rfl rfl ?_
        refine AW.goto 2 dX11_knowsEater_46 (by decide) ?_
        refine AW.mask [4] [some (.ref 101), some (.int y1), some (.int y2), some (.int (x3 + 1)), none] rfl ?_
        exact ih h
      · replace h := g_neg hc28 h
        refine AW.aload_n dX11_knowsEater_31 rfl ?_
        refine AW.iload_n dX11_knowsEater_32 rfl ?_
        refine AW.iload dX11_knowsEater_33 rfl ?_
        obtain ⟨t2, hx4, h⟩ := g_bindE h
        refine AW.callV (b := 101) (As := [.int y1, .int a1]) hG.2.2 (vX11_349 hG) (hm.1 0 _ rfl) (g_X11_isKnown hK (d := 2) (Nat.le_refl _) hm hx4) (by omega) dX11_knowsEater_35 rfl rfl (Nat.le_of_ble_eq_true rfl) (fun v w9 hq9 h09 => by obtain ⟨rfl, rfl⟩ := hq9; exact ⟨h09, rfl⟩) (by decide) (by decide) (fun _ _ hx => hx) (fun v9 w9 hq9 => ?_)
        obtain ⟨rfl, rfl⟩ := hq9
        show AW G _ d _ _ 38 [some (.ref 101), some (.int y1), some (.int y2), some (.int x3), some (.int a1)] [.int (kb t2)] (sh, I, R, L, g) 0 0
        refine AW.if_eq 43 dX11_knowsEater_38 (by decide) (fun hc38 => ?_) (fun hc38 => ?_)
        · replace h := g_neg (g_kb0 hc38) h
          refine AW.incE 1 (by decide) [some (.ref 101), some (.int y1), some (.int y2), some (.int (x3 + 1)), some (.int a1)] dX11_knowsEater_43 rfl (by decide) rfl rfl ?_
          refine AW.goto 2 dX11_knowsEater_46 (by decide) ?_
          refine AW.mask [4] [some (.ref 101), some (.int y1), some (.int y2), some (.int (x3 + 1)), none] rfl ?_
          exact ih h
        · replace h := g_pos (kb_1.mp hc38) h
          refine AW.iconst 1 dX11_knowsEater_41 (by decide) ?_
          exact AW.zret dX11_knowsEater_42 rfl (by decide) (by decide) (by decide) (by cases h; exact ⟨rfl, rfl⟩)
set_option maxRecDepth 100000 in
set_option maxHeartbeats 4000000 in
theorem g_X11_knowsEater {G : am_G} (hK : k_OK G) {d : Nat} (hd : 3 ≤ d) {sh : List (Nat ⊕ (Nat × Nat))} {I : g_I} {R : Nat → Nat → Option Nat} {L : Nat → Nat → Int64} {g : Nat} (hm : k_Mod sh R) {x1 : Int32} {x2 : Int32} {r : Bool} (h : b_X11_knowsEater I x1 x2 = some r) : AM G mX11_knowsEater d [.ref 101, .int x1, .int x2] (sh, I, R, L, g) (fun v w => v = some (.int (kb r)) ∧ w = (sh, I, R, L, g)) (fun _ _ => False) := by
  have hG := hK.1
  refine AM.of (n := 2) (by decide +kernel) (Nat.le_of_ble_eq_true rfl) ?_
  show AW G mX11_knowsEater d (fun v w => v = some (.int (kb r)) ∧ w = (sh, I, R, L, g)) (fun _ _ => False) 0 [some (.ref 101), some (.int x1), some (.int x2), none, none] [] (sh, I, R, L, g) 0 0
  unfold b_X11_knowsEater at h
  refine AW.iconst 0 dX11_knowsEater_0 (by decide) ?_
  refine AW.is_n [some (.ref 101), some (.int x1), some (.int x2), some (.int 0), none] dX11_knowsEater_1 (by decide) rfl rfl ?_
  refine gL_X11_knowsEater_2 hK hd hm h (fun _ h => ?_)
  refine AW.iconst 0 dX11_knowsEater_49 (by decide) ?_
  exact AW.zret dX11_knowsEater_50 rfl (by decide) (by decide) (by decide) (by cases h; exact ⟨rfl, rfl⟩)
theorem dX11_mayNow_0 : decode cX11_mayNow 0 = .ok (.aload_n 0, 1) := by decide +kernel
theorem dX11_mayNow_1 : decode cX11_mayNow 1 = .ok (.iload_n 1, 1) := by decide +kernel
theorem dX11_mayNow_2 : decode cX11_mayNow 2 = .ok (.iload_n 2, 1) := by decide +kernel
theorem dX11_mayNow_3 : decode cX11_mayNow 3 = .ok (.invokevirtual 355, 3) := by decide +kernel
theorem dX11_mayNow_6 : decode cX11_mayNow 6 = .ok (.ifCond .eq 5, 3) := by decide +kernel
theorem dX11_mayNow_9 : decode cX11_mayNow 9 = .ok (.iconst 1, 1) := by decide +kernel
theorem dX11_mayNow_10 : decode cX11_mayNow 10 = .ok (.ireturn, 1) := by decide +kernel
theorem dX11_mayNow_11 : decode cX11_mayNow 11 = .ok (.iconst 0, 1) := by decide +kernel
theorem dX11_mayNow_12 : decode cX11_mayNow 12 = .ok (.istore_n 3, 1) := by decide +kernel
theorem dX11_mayNow_13 : decode cX11_mayNow 13 = .ok (.iload_n 3, 1) := by decide +kernel
theorem dX11_mayNow_14 : decode cX11_mayNow 14 = .ok (.aload_n 0, 1) := by decide +kernel
theorem dX11_mayNow_15 : decode cX11_mayNow 15 = .ok (.getfield 61, 3) := by decide +kernel
theorem dX11_mayNow_18 : decode cX11_mayNow 18 = .ok (.iload_n 2, 1) := by decide +kernel
theorem dX11_mayNow_19 : decode cX11_mayNow 19 = .ok (.iaload, 1) := by decide +kernel
theorem dX11_mayNow_20 : decode cX11_mayNow 20 = .ok (.if_icmp .ge 36, 3) := by decide +kernel
theorem dX11_mayNow_23 : decode cX11_mayNow 23 = .ok (.aload_n 0, 1) := by decide +kernel
theorem dX11_mayNow_24 : decode cX11_mayNow 24 = .ok (.getfield 44, 3) := by decide +kernel
theorem dX11_mayNow_27 : decode cX11_mayNow 27 = .ok (.aload_n 0, 1) := by decide +kernel
theorem dX11_mayNow_28 : decode cX11_mayNow 28 = .ok (.getfield 64, 3) := by decide +kernel
theorem dX11_mayNow_31 : decode cX11_mayNow 31 = .ok (.bipush 6, 2) := by decide +kernel
theorem dX11_mayNow_33 : decode cX11_mayNow 33 = .ok (.iload_n 2, 1) := by decide +kernel
theorem dX11_mayNow_34 : decode cX11_mayNow 34 = .ok (.imul, 1) := by decide +kernel
theorem dX11_mayNow_35 : decode cX11_mayNow 35 = .ok (.iload_n 3, 1) := by decide +kernel
theorem dX11_mayNow_36 : decode cX11_mayNow 36 = .ok (.iadd, 1) := by decide +kernel
theorem dX11_mayNow_37 : decode cX11_mayNow 37 = .ok (.iaload, 1) := by decide +kernel
theorem dX11_mayNow_38 : decode cX11_mayNow 38 = .ok (.iaload, 1) := by decide +kernel
theorem dX11_mayNow_39 : decode cX11_mayNow 39 = .ok (.aload_n 0, 1) := by decide +kernel
theorem dX11_mayNow_40 : decode cX11_mayNow 40 = .ok (.getfield 44, 3) := by decide +kernel
theorem dX11_mayNow_43 : decode cX11_mayNow 43 = .ok (.iload_n 1, 1) := by decide +kernel
theorem dX11_mayNow_44 : decode cX11_mayNow 44 = .ok (.iaload, 1) := by decide +kernel
theorem dX11_mayNow_45 : decode cX11_mayNow 45 = .ok (.if_icmp .ne 5, 3) := by decide +kernel
theorem dX11_mayNow_48 : decode cX11_mayNow 48 = .ok (.iconst 2, 1) := by decide +kernel
theorem dX11_mayNow_49 : decode cX11_mayNow 49 = .ok (.ireturn, 1) := by decide +kernel
theorem dX11_mayNow_50 : decode cX11_mayNow 50 = .ok (.iinc 3 1, 3) := by decide +kernel
theorem dX11_mayNow_53 : decode cX11_mayNow 53 = .ok (.goto (-40), 3) := by decide +kernel
theorem dX11_mayNow_56 : decode cX11_mayNow 56 = .ok (.aload_n 0, 1) := by decide +kernel
theorem dX11_mayNow_57 : decode cX11_mayNow 57 = .ok (.iload_n 1, 1) := by decide +kernel
theorem dX11_mayNow_58 : decode cX11_mayNow 58 = .ok (.iload_n 2, 1) := by decide +kernel
theorem dX11_mayNow_59 : decode cX11_mayNow 59 = .ok (.invokevirtual 358, 3) := by decide +kernel
theorem dX11_mayNow_62 : decode cX11_mayNow 62 = .ok (.ifCond .eq 5, 3) := by decide +kernel
theorem dX11_mayNow_65 : decode cX11_mayNow 65 = .ok (.iconst 3, 1) := by decide +kernel
theorem dX11_mayNow_66 : decode cX11_mayNow 66 = .ok (.ireturn, 1) := by decide +kernel
theorem dX11_mayNow_67 : decode cX11_mayNow 67 = .ok (.aload_n 0, 1) := by decide +kernel
theorem dX11_mayNow_68 : decode cX11_mayNow 68 = .ok (.getfield 321, 3) := by decide +kernel
theorem dX11_mayNow_71 : decode cX11_mayNow 71 = .ok (.ifCond .ne 18, 3) := by decide +kernel
theorem dX11_mayNow_74 : decode cX11_mayNow 74 = .ok (.aload_n 0, 1) := by decide +kernel
theorem dX11_mayNow_75 : decode cX11_mayNow 75 = .ok (.getfield 324, 3) := by decide +kernel
theorem dX11_mayNow_78 : decode cX11_mayNow 78 = .ok (.aload_n 0, 1) := by decide +kernel
theorem dX11_mayNow_79 : decode cX11_mayNow 79 = .ok (.getfield 55, 3) := by decide +kernel
theorem dX11_mayNow_82 : decode cX11_mayNow 82 = .ok (.iload_n 2, 1) := by decide +kernel
theorem dX11_mayNow_83 : decode cX11_mayNow 83 = .ok (.iaload, 1) := by decide +kernel
theorem dX11_mayNow_84 : decode cX11_mayNow 84 = .ok (.if_icmp .ge 5, 3) := by decide +kernel
theorem dX11_mayNow_87 : decode cX11_mayNow 87 = .ok (.iconst 4, 1) := by decide +kernel
theorem dX11_mayNow_88 : decode cX11_mayNow 88 = .ok (.ireturn, 1) := by decide +kernel
theorem dX11_mayNow_89 : decode cX11_mayNow 89 = .ok (.aload_n 0, 1) := by decide +kernel
theorem dX11_mayNow_90 : decode cX11_mayNow 90 = .ok (.getfield 321, 3) := by decide +kernel
theorem dX11_mayNow_93 : decode cX11_mayNow 93 = .ok (.ifCond .gt 23, 3) := by decide +kernel
theorem dX11_mayNow_96 : decode cX11_mayNow 96 = .ok (.aload_n 0, 1) := by decide +kernel
theorem dX11_mayNow_97 : decode cX11_mayNow 97 = .ok (.getfield 324, 3) := by decide +kernel
theorem dX11_mayNow_100 : decode cX11_mayNow 100 = .ok (.aload_n 0, 1) := by decide +kernel
theorem dX11_mayNow_101 : decode cX11_mayNow 101 = .ok (.getfield 55, 3) := by decide +kernel
theorem dX11_mayNow_104 : decode cX11_mayNow 104 = .ok (.iload_n 2, 1) := by decide +kernel
theorem dX11_mayNow_105 : decode cX11_mayNow 105 = .ok (.iaload, 1) := by decide +kernel
theorem dX11_mayNow_106 : decode cX11_mayNow 106 = .ok (.aload_n 0, 1) := by decide +kernel
theorem dX11_mayNow_107 : decode cX11_mayNow 107 = .ok (.getfield 58, 3) := by decide +kernel
theorem dX11_mayNow_110 : decode cX11_mayNow 110 = .ok (.iload_n 2, 1) := by decide +kernel
theorem dX11_mayNow_111 : decode cX11_mayNow 111 = .ok (.iaload, 1) := by decide +kernel
theorem dX11_mayNow_112 : decode cX11_mayNow 112 = .ok (.iadd, 1) := by decide +kernel
theorem dX11_mayNow_113 : decode cX11_mayNow 113 = .ok (.if_icmp .le 5, 3) := by decide +kernel
theorem dX11_mayNow_116 : decode cX11_mayNow 116 = .ok (.iconst 5, 1) := by decide +kernel
theorem dX11_mayNow_117 : decode cX11_mayNow 117 = .ok (.ireturn, 1) := by decide +kernel
theorem dX11_mayNow_118 : decode cX11_mayNow 118 = .ok (.aload_n 0, 1) := by decide +kernel
theorem dX11_mayNow_119 : decode cX11_mayNow 119 = .ok (.getfield 83, 3) := by decide +kernel
theorem dX11_mayNow_122 : decode cX11_mayNow 122 = .ok (.iload_n 2, 1) := by decide +kernel
theorem dX11_mayNow_123 : decode cX11_mayNow 123 = .ok (.iaload, 1) := by decide +kernel
theorem dX11_mayNow_124 : decode cX11_mayNow 124 = .ok (.iconst (-1), 1) := by decide +kernel
theorem dX11_mayNow_125 : decode cX11_mayNow 125 = .ok (.if_icmp .ne 7, 3) := by decide +kernel
theorem dX11_mayNow_128 : decode cX11_mayNow 128 = .ok (.iconst 0, 1) := by decide +kernel
theorem dX11_mayNow_129 : decode cX11_mayNow 129 = .ok (.goto 5, 3) := by decide +kernel
theorem dX11_mayNow_132 : decode cX11_mayNow 132 = .ok (.bipush 6, 2) := by decide +kernel
theorem dX11_mayNow_134 : decode cX11_mayNow 134 = .ok (.ireturn, 1) := by decide +kernel
def b_X11_mayNow_L13 (I : g_I) (y1 : Int32) (y2 : Int32) (K : Unit → Option (Int32)) : Nat → Int32 → Option (Int32)
  | 0, _ => none
  | f + 1, x3 => if g_in y2 12 = true then if (I 112 y2.toNatClampNeg) ≤ x3 then K () else if g_in (((6 : Int32) * y2) + x3) 72 = true then if g_in (I 113 (((6 : Int32) * y2) + x3).toNatClampNeg) 16 = true then if g_in y1 16 = true then if (I 106 (I 113 (((6 : Int32) * y2) + x3).toNatClampNeg).toNatClampNeg) = (I 106 y1.toNatClampNeg) then some 2 else b_X11_mayNow_L13 I y1 y2 K f (x3 + 1) else none else none else none else none
def b_X11_mayNow (I : g_I) (x1 : Int32) (x2 : Int32) : Option (Int32) :=
  g_let (fun (_ : Unit) => if 0 < (I 101 30) then some 5 else if g_in x2 12 = true then if g_in x2 12 = true then if (I 101 31) ≤ ((I 110 x2.toNatClampNeg) + (I 111 x2.toNatClampNeg)) then if g_in x2 6 = true then if (I 118 x2.toNatClampNeg) = (-1) then some 0 else some 6 else none else some 5 else none else none) fun J89 => g_bind (b_X11_eats I x1 x2) fun t1 => if t1 = true then some 1 else b_X11_mayNow_L13 I x1 x2 (fun (_ : Unit) => g_bind (b_X11_knowsEater I x1 x2) fun t4 => if t4 = true then some 3 else if (I 101 30) = 0 then if g_in x2 12 = true then if (I 110 x2.toNatClampNeg) ≤ (I 101 31) then J89 () else some 4 else none else J89 ()) fu 0
set_option maxRecDepth 100000 in
set_option maxHeartbeats 4000000 in
theorem gL_X11_mayNow_13 {G : am_G} (hK : k_OK G) {d : Nat} (hd : 4 ≤ d) {sh : List (Nat ⊕ (Nat × Nat))} {I : g_I} {R : Nat → Nat → Option Nat} {L : Nat → Nat → Int64} {g : Nat} (hm : k_Mod sh R) {y1 : Int32} {y2 : Int32} {K : Unit → Option (Int32)} {x3 : Int32} {f : Nat} {r : Int32} (h : b_X11_mayNow_L13 I y1 y2 K f x3 = some r) (hk : ∀ (_ : Unit), K () = some r → AW G mX11_mayNow d (fun v w => v = some (.int r) ∧ w = (sh, I, R, L, g)) (fun _ _ => False) 56 [some (.ref 101), some (.int y1), some (.int y2), none] [] (sh, I, R, L, g) 0 0) : AW G mX11_mayNow d (fun v w => v = some (.int r) ∧ w = (sh, I, R, L, g)) (fun _ _ => False) 13 [some (.ref 101), some (.int y1), some (.int y2), some (.int x3)] [] (sh, I, R, L, g) 0 0 := by
  have hG := hK.1
  induction f generalizing x3 with
  | zero => rw [b_X11_mayNow_L13] at h; cases h
  | succ f ih =>
    rw [b_X11_mayNow_L13] at h
    refine AW.iload_n dX11_mayNow_13 rfl ?_
    refine AW.aload_n dX11_mayNow_14 rfl ?_
    refine AW.getR (c' := 112) (fX11_61 hG).r rfl (hm.1 0 _ rfl) (hm.2 (0, 11, 11) (by decide)) dX11_mayNow_15 ?_
    refine AW.iload_n dX11_mayNow_18 rfl ?_
    obtain ⟨hb, h⟩ := g_ifE h
    refine AW.iald (hm.1 11 _ rfl) (g_in_iff.mp hb) dX11_mayNow_19 ?_
    refine AW.icmp_ge 56 dX11_mayNow_20 (by decide) (fun hc20 => ?_) (fun hc20 => ?_)
    · replace h := g_pos hc20 h
      refine AW.mask [3] [some (.ref 101), some (.int y1), some (.int y2), none] rfl ?_
      exact hk () h
    · replace h := g_neg hc20 h
      refine AW.aload_n dX11_mayNow_23 rfl ?_
      refine AW.getR (c' := 106) (fX11_44 hG).r rfl (hm.1 0 _ rfl) (hm.2 (0, 5, 5) (by decide)) dX11_mayNow_24 ?_
      refine AW.aload_n dX11_mayNow_27 rfl ?_
      refine AW.getR (c' := 113) (fX11_64 hG).r rfl (hm.1 0 _ rfl) (hm.2 (0, 12, 12) (by decide)) dX11_mayNow_28 ?_
      refine AW.bipush 6 dX11_mayNow_31 (by decide) ?_
      refine AW.iload_n dX11_mayNow_33 rfl ?_
      refine AW.imul dX11_mayNow_34 ?_
      refine AW.iload_n dX11_mayNow_35 rfl ?_
      refine AW.iadd dX11_mayNow_36 ?_
      obtain ⟨hb, h⟩ := g_ifE h
      refine AW.iald (hm.1 12 _ rfl) (g_in_iff.mp hb) dX11_mayNow_37 ?_
      obtain ⟨hb, h⟩ := g_ifE h
      refine AW.iald (hm.1 5 _ rfl) (g_in_iff.mp hb) dX11_mayNow_38 ?_
      refine AW.aload_n dX11_mayNow_39 rfl ?_
      refine AW.getR (c' := 106) (fX11_44 hG).r rfl (hm.1 0 _ rfl) (hm.2 (0, 5, 5) (by decide)) dX11_mayNow_40 ?_
      refine AW.iload_n dX11_mayNow_43 rfl ?_
      obtain ⟨hb, h⟩ := g_ifE h
      refine AW.iald (hm.1 5 _ rfl) (g_in_iff.mp hb) dX11_mayNow_44 ?_
      refine AW.icmp_ne 50 dX11_mayNow_45 (by decide) (fun hc45 => ?_) (fun hc45 => ?_)
      · replace h := g_neg hc45 h
        refine AW.incE 1 (by decide) [some (.ref 101), some (.int y1), some (.int y2), some (.int (x3 + 1))] dX11_mayNow_50 rfl (by decide) rfl rfl ?_
        refine AW.goto 13 dX11_mayNow_53 (by decide) ?_
        exact ih h
      · replace h := g_pos hc45 h
        refine AW.iconst 2 dX11_mayNow_48 (by decide) ?_
        exact AW.iret dX11_mayNow_49 rfl (by decide) (by decide) (by cases h; exact ⟨rfl, rfl⟩)
set_option maxRecDepth 100000 in
set_option maxHeartbeats 4000000 in
theorem g_X11_mayNow {G : am_G} (hK : k_OK G) {d : Nat} (hd : 4 ≤ d) {sh : List (Nat ⊕ (Nat × Nat))} {I : g_I} {R : Nat → Nat → Option Nat} {L : Nat → Nat → Int64} {g : Nat} (hm : k_Mod sh R) {x1 : Int32} {x2 : Int32} {r : Int32} (h : b_X11_mayNow I x1 x2 = some r) : AM G mX11_mayNow d [.ref 101, .int x1, .int x2] (sh, I, R, L, g) (fun v w => v = some (.int r) ∧ w = (sh, I, R, L, g)) (fun _ _ => False) := by
  have hG := hK.1
  refine AM.of (n := 1) (by decide +kernel) (Nat.le_of_ble_eq_true rfl) ?_
  show AW G mX11_mayNow d (fun v w => v = some (.int r) ∧ w = (sh, I, R, L, g)) (fun _ _ => False) 0 [some (.ref 101), some (.int x1), some (.int x2), none] [] (sh, I, R, L, g) 0 0
  unfold b_X11_mayNow at h
  obtain ⟨J89, eJ89, h⟩ := g_letE h
  have H89 : J89 () = some r → AW G mX11_mayNow d (fun v w => v = some (.int r) ∧ w = (sh, I, R, L, g)) (fun _ _ => False) 89 [some (.ref 101), none, some (.int x2), none] [] (sh, I, R, L, g) 0 0 := by
    intro  h
    rw [eJ89] at h
    refine AW.aload_n dX11_mayNow_89 rfl ?_
    refine AW.getI (fX11_321 hG).r rfl (hm.1 0 _ rfl) dX11_mayNow_90 ?_
    refine AW.if_gt 116 dX11_mayNow_93 (by decide) (fun hc93 => ?_) (fun hc93 => ?_)
    · replace h := g_pos hc93 h
      refine AW.iconst 5 dX11_mayNow_116 (by decide) ?_
      exact AW.iret dX11_mayNow_117 rfl (by decide) (by decide) (by cases h; exact ⟨rfl, rfl⟩)
    · replace h := g_neg hc93 h
      refine AW.aload_n dX11_mayNow_96 rfl ?_
      refine AW.getI (fX11_324 hG).r rfl (hm.1 0 _ rfl) dX11_mayNow_97 ?_
      refine AW.aload_n dX11_mayNow_100 rfl ?_
      refine AW.getR (c' := 110) (fX11_55 hG).r rfl (hm.1 0 _ rfl) (hm.2 (0, 9, 9) (by decide)) dX11_mayNow_101 ?_
      refine AW.iload_n dX11_mayNow_104 rfl ?_
      obtain ⟨hb, h⟩ := g_ifE h
      refine AW.iald (hm.1 9 _ rfl) (g_in_iff.mp hb) dX11_mayNow_105 ?_
      refine AW.aload_n dX11_mayNow_106 rfl ?_
      refine AW.getR (c' := 111) (fX11_58 hG).r rfl (hm.1 0 _ rfl) (hm.2 (0, 10, 10) (by decide)) dX11_mayNow_107 ?_
      refine AW.iload_n dX11_mayNow_110 rfl ?_
      obtain ⟨hb, h⟩ := g_ifE h
      refine AW.iald (hm.1 10 _ rfl) (g_in_iff.mp hb) dX11_mayNow_111 ?_
      refine AW.iadd dX11_mayNow_112 ?_
      refine AW.icmp_le 118 dX11_mayNow_113 (by decide) (fun hc113 => ?_) (fun hc113 => ?_)
      · replace h := g_pos hc113 h
        refine AW.aload_n dX11_mayNow_118 rfl ?_
        refine AW.getR (c' := 118) (fX11_83 hG).r rfl (hm.1 0 _ rfl) (hm.2 (0, 27, 17) (by decide)) dX11_mayNow_119 ?_
        refine AW.iload_n dX11_mayNow_122 rfl ?_
        obtain ⟨hb, h⟩ := g_ifE h
        refine AW.iald (hm.1 17 _ rfl) (g_in_iff.mp hb) dX11_mayNow_123 ?_
        refine AW.iconst (-1) dX11_mayNow_124 (by decide) ?_
        refine AW.icmp_ne 132 dX11_mayNow_125 (by decide) (fun hc125 => ?_) (fun hc125 => ?_)
        · replace h := g_neg hc125 h
          refine AW.bipush 6 dX11_mayNow_132 (by decide) ?_
          exact AW.iret dX11_mayNow_134 rfl (by decide) (by decide) (by cases h; exact ⟨rfl, rfl⟩)
        · replace h := g_pos hc125 h
          refine AW.iconst 0 dX11_mayNow_128 (by decide) ?_
          refine AW.goto 134 dX11_mayNow_129 (by decide) ?_
          exact AW.iret dX11_mayNow_134 rfl (by decide) (by decide) (by cases h; exact ⟨rfl, rfl⟩)
      · replace h := g_neg hc113 h
        refine AW.iconst 5 dX11_mayNow_116 (by decide) ?_
        exact AW.iret dX11_mayNow_117 rfl (by decide) (by decide) (by cases h; exact ⟨rfl, rfl⟩)
  refine AW.aload_n dX11_mayNow_0 rfl ?_
  refine AW.iload_n dX11_mayNow_1 rfl ?_
  refine AW.iload_n dX11_mayNow_2 rfl ?_
  obtain ⟨t1, hx3, h⟩ := g_bindE h
  refine AW.callV (b := 101) (As := [.int x1, .int x2]) hG.2.2 (vX11_355 hG) (hm.1 0 _ rfl) (g_X11_eats hK (d := 1) (Nat.le_refl _) hm hx3) (by omega) dX11_mayNow_3 rfl rfl (Nat.le_of_ble_eq_true rfl) (fun v w9 hq9 h09 => by obtain ⟨rfl, rfl⟩ := hq9; exact ⟨h09, rfl⟩) (by decide) (by decide) (fun _ _ hx => hx) (fun v9 w9 hq9 => ?_)
  obtain ⟨rfl, rfl⟩ := hq9
  show AW G _ d _ _ 6 [some (.ref 101), some (.int x1), some (.int x2), none] [.int (kb t1)] (sh, I, R, L, g) 0 0
  refine AW.if_eq 11 dX11_mayNow_6 (by decide) (fun hc6 => ?_) (fun hc6 => ?_)
  · replace h := g_neg (g_kb0 hc6) h
    refine AW.iconst 0 dX11_mayNow_11 (by decide) ?_
    refine AW.is_n [some (.ref 101), some (.int x1), some (.int x2), some (.int 0)] dX11_mayNow_12 (by decide) rfl rfl ?_
    refine gL_X11_mayNow_13 hK hd hm h (fun _ h => ?_)
    refine AW.aload_n dX11_mayNow_56 rfl ?_
    refine AW.iload_n dX11_mayNow_57 rfl ?_
    refine AW.iload_n dX11_mayNow_58 rfl ?_
    obtain ⟨t4, hx6, h⟩ := g_bindE h
    refine AW.callV (b := 101) (As := [.int x1, .int x2]) hG.2.2 (vX11_358 hG) (hm.1 0 _ rfl) (g_X11_knowsEater hK (d := 3) (Nat.le_refl _) hm hx6) (by omega) dX11_mayNow_59 rfl rfl (Nat.le_of_ble_eq_true rfl) (fun v w9 hq9 h09 => by obtain ⟨rfl, rfl⟩ := hq9; exact ⟨h09, rfl⟩) (by decide) (by decide) (fun _ _ hx => hx) (fun v9 w9 hq9 => ?_)
    obtain ⟨rfl, rfl⟩ := hq9
    show AW G _ d _ _ 62 [some (.ref 101), some (.int x1), some (.int x2), none] [.int (kb t4)] (sh, I, R, L, g) 0 0
    refine AW.if_eq 67 dX11_mayNow_62 (by decide) (fun hc62 => ?_) (fun hc62 => ?_)
    · replace h := g_neg (g_kb0 hc62) h
      refine AW.aload_n dX11_mayNow_67 rfl ?_
      refine AW.getI (fX11_321 hG).r rfl (hm.1 0 _ rfl) dX11_mayNow_68 ?_
      refine AW.if_ne 89 dX11_mayNow_71 (by decide) (fun hc71 => ?_) (fun hc71 => ?_)
      · replace h := g_neg hc71 h
        refine AW.mask [1] [some (.ref 101), none, some (.int x2), none] rfl ?_
        exact H89  h
      · replace h := g_pos hc71 h
        refine AW.aload_n dX11_mayNow_74 rfl ?_
        refine AW.getI (fX11_324 hG).r rfl (hm.1 0 _ rfl) dX11_mayNow_75 ?_
        refine AW.aload_n dX11_mayNow_78 rfl ?_
        refine AW.getR (c' := 110) (fX11_55 hG).r rfl (hm.1 0 _ rfl) (hm.2 (0, 9, 9) (by decide)) dX11_mayNow_79 ?_
        refine AW.iload_n dX11_mayNow_82 rfl ?_
        obtain ⟨hb, h⟩ := g_ifE h
        refine AW.iald (hm.1 9 _ rfl) (g_in_iff.mp hb) dX11_mayNow_83 ?_
        refine AW.icmp_ge 89 dX11_mayNow_84 (by decide) (fun hc84 => ?_) (fun hc84 => ?_)
        · replace h := g_pos hc84 h
          refine AW.mask [1] [some (.ref 101), none, some (.int x2), none] rfl ?_
          exact H89  h
        · replace h := g_neg hc84 h
          refine AW.iconst 4 dX11_mayNow_87 (by decide) ?_
          exact AW.iret dX11_mayNow_88 rfl (by decide) (by decide) (by cases h; exact ⟨rfl, rfl⟩)
    · replace h := g_pos (kb_1.mp hc62) h
      refine AW.iconst 3 dX11_mayNow_65 (by decide) ?_
      exact AW.iret dX11_mayNow_66 rfl (by decide) (by decide) (by cases h; exact ⟨rfl, rfl⟩)
  · replace h := g_pos (kb_1.mp hc6) h
    refine AW.iconst 1 dX11_mayNow_9 (by decide) ?_
    exact AW.iret dX11_mayNow_10 rfl (by decide) (by decide) (by cases h; exact ⟨rfl, rfl⟩)
theorem dX11_canCut_0 : decode cX11_canCut 0 = .ok (.aload_n 0, 1) := by decide +kernel
theorem dX11_canCut_1 : decode cX11_canCut 1 = .ok (.iload_n 1, 1) := by decide +kernel
theorem dX11_canCut_2 : decode cX11_canCut 2 = .ok (.iload_n 2, 1) := by decide +kernel
theorem dX11_canCut_3 : decode cX11_canCut 3 = .ok (.invokevirtual 361, 3) := by decide +kernel
theorem dX11_canCut_6 : decode cX11_canCut 6 = .ok (.istore_n 3, 1) := by decide +kernel
theorem dX11_canCut_7 : decode cX11_canCut 7 = .ok (.iload_n 3, 1) := by decide +kernel
theorem dX11_canCut_8 : decode cX11_canCut 8 = .ok (.ifCond .eq 8, 3) := by decide +kernel
theorem dX11_canCut_11 : decode cX11_canCut 11 = .ok (.iload_n 3, 1) := by decide +kernel
theorem dX11_canCut_12 : decode cX11_canCut 12 = .ok (.iconst 3, 1) := by decide +kernel
theorem dX11_canCut_13 : decode cX11_canCut 13 = .ok (.if_icmp .le 7, 3) := by decide +kernel
theorem dX11_canCut_16 : decode cX11_canCut 16 = .ok (.iconst 1, 1) := by decide +kernel
theorem dX11_canCut_17 : decode cX11_canCut 17 = .ok (.goto 4, 3) := by decide +kernel
theorem dX11_canCut_20 : decode cX11_canCut 20 = .ok (.iconst 0, 1) := by decide +kernel
theorem dX11_canCut_21 : decode cX11_canCut 21 = .ok (.ireturn, 1) := by decide +kernel
def b_X11_canCut (I : g_I) (x1 : Int32) (x2 : Int32) : Option (Bool) :=
  g_bind (b_X11_mayNow I x1 x2) fun a1 => if a1 = 0 then some true else if a1 ≤ 3 then some false else some true
set_option maxRecDepth 100000 in
set_option maxHeartbeats 4000000 in
theorem g_X11_canCut {G : am_G} (hK : k_OK G) {d : Nat} (hd : 5 ≤ d) {sh : List (Nat ⊕ (Nat × Nat))} {I : g_I} {R : Nat → Nat → Option Nat} {L : Nat → Nat → Int64} {g : Nat} (hm : k_Mod sh R) {x1 : Int32} {x2 : Int32} {r : Bool} (h : b_X11_canCut I x1 x2 = some r) : AM G mX11_canCut d [.ref 101, .int x1, .int x2] (sh, I, R, L, g) (fun v w => v = some (.int (kb r)) ∧ w = (sh, I, R, L, g)) (fun _ _ => False) := by
  have hG := hK.1
  refine AM.of (n := 1) (by decide +kernel) (Nat.le_of_ble_eq_true rfl) ?_
  show AW G mX11_canCut d (fun v w => v = some (.int (kb r)) ∧ w = (sh, I, R, L, g)) (fun _ _ => False) 0 [some (.ref 101), some (.int x1), some (.int x2), none] [] (sh, I, R, L, g) 0 0
  unfold b_X11_canCut at h
  refine AW.aload_n dX11_canCut_0 rfl ?_
  refine AW.iload_n dX11_canCut_1 rfl ?_
  refine AW.iload_n dX11_canCut_2 rfl ?_
  obtain ⟨a1, hx3, h⟩ := g_bindE h
  refine AW.callV (b := 101) (As := [.int x1, .int x2]) hG.2.2 (vX11_361 hG) (hm.1 0 _ rfl) (g_X11_mayNow hK (d := 4) (Nat.le_refl _) hm hx3) (by omega) dX11_canCut_3 rfl rfl (Nat.le_of_ble_eq_true rfl) (fun v w9 hq9 h09 => by obtain ⟨rfl, rfl⟩ := hq9; exact ⟨h09, rfl⟩) (by decide) (by decide) (fun _ _ hx => hx) (fun v9 w9 hq9 => ?_)
  obtain ⟨rfl, rfl⟩ := hq9
  show AW G _ d _ _ 6 [some (.ref 101), some (.int x1), some (.int x2), none] [.int a1] (sh, I, R, L, g) 0 0
  refine AW.is_n [some (.ref 101), some (.int x1), some (.int x2), some (.int a1)] dX11_canCut_6 (by decide) rfl rfl ?_
  refine AW.iload_n dX11_canCut_7 rfl ?_
  refine AW.if_eq 16 dX11_canCut_8 (by decide) (fun hc8 => ?_) (fun hc8 => ?_)
  · replace h := g_pos hc8 h
    refine AW.iconst 1 dX11_canCut_16 (by decide) ?_
    refine AW.goto 21 dX11_canCut_17 (by decide) ?_
    exact AW.zret dX11_canCut_21 rfl (by decide) (by decide) (by decide) (by cases h; exact ⟨rfl, rfl⟩)
  · replace h := g_neg hc8 h
    refine AW.iload_n dX11_canCut_11 rfl ?_
    refine AW.iconst 3 dX11_canCut_12 (by decide) ?_
    refine AW.icmp_le 20 dX11_canCut_13 (by decide) (fun hc13 => ?_) (fun hc13 => ?_)
    · replace h := g_pos hc13 h
      refine AW.iconst 0 dX11_canCut_20 (by decide) ?_
      exact AW.zret dX11_canCut_21 rfl (by decide) (by decide) (by decide) (by cases h; exact ⟨rfl, rfl⟩)
    · replace h := g_neg hc13 h
      refine AW.iconst 1 dX11_canCut_16 (by decide) ?_
      refine AW.goto 21 dX11_canCut_17 (by decide) ?_
      exact AW.zret dX11_canCut_21 rfl (by decide) (by decide) (by decide) (by cases h; exact ⟨rfl, rfl⟩)
theorem dX11_cutters_0 : decode cX11_cutters 0 = .ok (.iconst 0, 1) := by decide +kernel
theorem dX11_cutters_1 : decode cX11_cutters 1 = .ok (.istore_n 2, 1) := by decide +kernel
theorem dX11_cutters_2 : decode cX11_cutters 2 = .ok (.iconst 0, 1) := by decide +kernel
theorem dX11_cutters_3 : decode cX11_cutters 3 = .ok (.istore_n 3, 1) := by decide +kernel
theorem dX11_cutters_4 : decode cX11_cutters 4 = .ok (.iload_n 3, 1) := by decide +kernel
theorem dX11_cutters_5 : decode cX11_cutters 5 = .ok (.aload_n 0, 1) := by decide +kernel
theorem dX11_cutters_6 : decode cX11_cutters 6 = .ok (.getfield 38, 3) := by decide +kernel
theorem dX11_cutters_9 : decode cX11_cutters 9 = .ok (.iconst 0, 1) := by decide +kernel
theorem dX11_cutters_10 : decode cX11_cutters 10 = .ok (.iaload, 1) := by decide +kernel
theorem dX11_cutters_11 : decode cX11_cutters 11 = .ok (.if_icmp .ge 24, 3) := by decide +kernel
theorem dX11_cutters_14 : decode cX11_cutters 14 = .ok (.aload_n 0, 1) := by decide +kernel
theorem dX11_cutters_15 : decode cX11_cutters 15 = .ok (.iload_n 3, 1) := by decide +kernel
theorem dX11_cutters_16 : decode cX11_cutters 16 = .ok (.iload_n 1, 1) := by decide +kernel
theorem dX11_cutters_17 : decode cX11_cutters 17 = .ok (.invokevirtual 364, 3) := by decide +kernel
theorem dX11_cutters_20 : decode cX11_cutters 20 = .ok (.ifCond .eq 9, 3) := by decide +kernel
theorem dX11_cutters_23 : decode cX11_cutters 23 = .ok (.iload_n 2, 1) := by decide +kernel
theorem dX11_cutters_24 : decode cX11_cutters 24 = .ok (.iconst 1, 1) := by decide +kernel
theorem dX11_cutters_25 : decode cX11_cutters 25 = .ok (.iload_n 3, 1) := by decide +kernel
theorem dX11_cutters_26 : decode cX11_cutters 26 = .ok (.ishl, 1) := by decide +kernel
theorem dX11_cutters_27 : decode cX11_cutters 27 = .ok (.ior, 1) := by decide +kernel
theorem dX11_cutters_28 : decode cX11_cutters 28 = .ok (.istore_n 2, 1) := by decide +kernel
theorem dX11_cutters_29 : decode cX11_cutters 29 = .ok (.iinc 3 1, 3) := by decide +kernel
theorem dX11_cutters_32 : decode cX11_cutters 32 = .ok (.goto (-28), 3) := by decide +kernel
theorem dX11_cutters_35 : decode cX11_cutters 35 = .ok (.iload_n 2, 1) := by decide +kernel
theorem dX11_cutters_36 : decode cX11_cutters 36 = .ok (.ireturn, 1) := by decide +kernel
def b_X11_cutters_L4 (I : g_I) (y1 : Int32) (K : Int32 → Option (Int32)) : Nat → Int32 → Int32 → Option (Int32)
  | 0, _, _ => none
  | f + 1, x2, x3 => if (I 104 0) ≤ x3 then K x2 else g_bind (b_X11_canCut I x3 y1) fun t1 => if t1 = true then g_let (x2 ||| ((1 : Int32) <<< (x3 &&& 31))) fun a4 => b_X11_cutters_L4 I y1 K f a4 (x3 + 1) else b_X11_cutters_L4 I y1 K f x2 (x3 + 1)
def b_X11_cutters (I : g_I) (x1 : Int32) : Option (Int32) :=
  b_X11_cutters_L4 I x1 (fun (a5 : Int32) => some a5) fu 0 0
set_option maxRecDepth 100000 in
set_option maxHeartbeats 4000000 in
theorem gL_X11_cutters_4 {G : am_G} (hK : k_OK G) {d : Nat} (hd : 6 ≤ d) {sh : List (Nat ⊕ (Nat × Nat))} {I : g_I} {R : Nat → Nat → Option Nat} {L : Nat → Nat → Int64} {g : Nat} (hm : k_Mod sh R) {y1 : Int32} {K : Int32 → Option (Int32)} {x2 : Int32} {x3 : Int32} {f : Nat} {r : Int32} (h : b_X11_cutters_L4 I y1 K f x2 x3 = some r) (hk : ∀ (u2 : Int32), K u2 = some r → AW G mX11_cutters d (fun v w => v = some (.int r) ∧ w = (sh, I, R, L, g)) (fun _ _ => False) 35 [none, none, some (.int u2), none] [] (sh, I, R, L, g) 0 0) : AW G mX11_cutters d (fun v w => v = some (.int r) ∧ w = (sh, I, R, L, g)) (fun _ _ => False) 4 [some (.ref 101), some (.int y1), some (.int x2), some (.int x3)] [] (sh, I, R, L, g) 0 0 := by
  have hG := hK.1
  induction f generalizing x2 x3 with
  | zero => rw [b_X11_cutters_L4] at h; cases h
  | succ f ih =>
    rw [b_X11_cutters_L4] at h
    refine AW.iload_n dX11_cutters_4 rfl ?_
    refine AW.aload_n dX11_cutters_5 rfl ?_
    refine AW.getR (c' := 104) (fX11_38 hG).r rfl (hm.1 0 _ rfl) (hm.2 (0, 3, 3) (by decide)) dX11_cutters_6 ?_
    refine AW.iconst 0 dX11_cutters_9 (by decide) ?_
    refine AW.iald (hm.1 3 _ rfl) (by unfold vp_in; decide) dX11_cutters_10 ?_
    show AW G _ d _ _ 11 [some (.ref 101), some (.int y1), some (.int x2), some (.int x3)] [.int (I 104 0), .int x3] (sh, I, R, L, g) 0 0
    refine AW.icmp_ge 35 dX11_cutters_11 (by decide) (fun hc11 => ?_) (fun hc11 => ?_)
    · replace h := g_pos hc11 h
      refine AW.mask [0, 1, 3] [none, none, some (.int x2), none] rfl ?_
      exact hk _ h
    · replace h := g_neg hc11 h
      refine AW.aload_n dX11_cutters_14 rfl ?_
      refine AW.iload_n dX11_cutters_15 rfl ?_
      refine AW.iload_n dX11_cutters_16 rfl ?_
      obtain ⟨t1, hx3, h⟩ := g_bindE h
      refine AW.callV (b := 101) (As := [.int x3, .int y1]) hG.2.2 (vX11_364 hG) (hm.1 0 _ rfl) (g_X11_canCut hK (d := 5) (Nat.le_refl _) hm hx3) (by omega) dX11_cutters_17 rfl rfl (Nat.le_of_ble_eq_true rfl) (fun v w9 hq9 h09 => by obtain ⟨rfl, rfl⟩ := hq9; exact ⟨h09, rfl⟩) (by decide) (by decide) (fun _ _ hx => hx) (fun v9 w9 hq9 => ?_)
      obtain ⟨rfl, rfl⟩ := hq9
      show AW G _ d _ _ 20 [some (.ref 101), some (.int y1), some (.int x2), some (.int x3)] [.int (kb t1)] (sh, I, R, L, g) 0 0
      refine AW.if_eq 29 dX11_cutters_20 (by decide) (fun hc20 => ?_) (fun hc20 => ?_)
      · replace h := g_neg (g_kb0 hc20) h
        refine AW.incE 1 (by decide) [some (.ref 101), some (.int y1), some (.int x2), some (.int (x3 + 1))] dX11_cutters_29 rfl (by decide) rfl rfl ?_
        refine AW.goto 4 dX11_cutters_32 (by decide) ?_
        exact ih h
      · replace h := g_pos (kb_1.mp hc20) h
        refine AW.iload_n dX11_cutters_23 rfl ?_
        refine AW.iconst 1 dX11_cutters_24 (by decide) ?_
        refine AW.iload_n dX11_cutters_25 rfl ?_
        refine AW.ishl dX11_cutters_26 ?_
        refine AW.ior dX11_cutters_27 ?_
        obtain ⟨a4, ea4, h⟩ := g_letE h
        refine AW.namE ea4 ?_
        refine AW.is_n [some (.ref 101), some (.int y1), some (.int a4), some (.int x3)] dX11_cutters_28 (by decide) rfl rfl ?_
        refine AW.incE 1 (by decide) [some (.ref 101), some (.int y1), some (.int a4), some (.int (x3 + 1))] dX11_cutters_29 rfl (by decide) rfl rfl ?_
        refine AW.goto 4 dX11_cutters_32 (by decide) ?_
        exact ih h
set_option maxRecDepth 100000 in
set_option maxHeartbeats 4000000 in
theorem g_X11_cutters {G : am_G} (hK : k_OK G) {d : Nat} (hd : 6 ≤ d) {sh : List (Nat ⊕ (Nat × Nat))} {I : g_I} {R : Nat → Nat → Option Nat} {L : Nat → Nat → Int64} {g : Nat} (hm : k_Mod sh R) {x1 : Int32} {r : Int32} (h : b_X11_cutters I x1 = some r) : AM G mX11_cutters d [.ref 101, .int x1] (sh, I, R, L, g) (fun v w => v = some (.int r) ∧ w = (sh, I, R, L, g)) (fun _ _ => False) := by
  have hG := hK.1
  refine AM.of (n := 2) (by decide +kernel) (Nat.le_of_ble_eq_true rfl) ?_
  show AW G mX11_cutters d (fun v w => v = some (.int r) ∧ w = (sh, I, R, L, g)) (fun _ _ => False) 0 [some (.ref 101), some (.int x1), none, none] [] (sh, I, R, L, g) 0 0
  unfold b_X11_cutters at h
  refine AW.iconst 0 dX11_cutters_0 (by decide) ?_
  refine AW.is_n [some (.ref 101), some (.int x1), some (.int 0), none] dX11_cutters_1 (by decide) rfl rfl ?_
  refine AW.iconst 0 dX11_cutters_2 (by decide) ?_
  refine AW.is_n [some (.ref 101), some (.int x1), some (.int 0), some (.int 0)] dX11_cutters_3 (by decide) rfl rfl ?_
  refine gL_X11_cutters_4 hK hd hm h (fun a5 h => ?_)
  refine AW.iload_n dX11_cutters_35 rfl ?_
  exact AW.iret dX11_cutters_36 rfl (by decide) (by decide) (by cases h; exact ⟨rfl, rfl⟩)
theorem dX11_reckon_0 : decode cX11_reckon 0 = .ok (.iload_n 0, 1) := by decide +kernel
theorem dX11_reckon_1 : decode cX11_reckon 1 = .ok (.tableswitch 103 (-26) (-20) #[89, 78, 67, 55, 51, 47, 43], 43) := by decide +kernel
theorem dX11_reckon_44 : decode cX11_reckon 44 = .ok (.iload_n 1, 1) := by decide +kernel
theorem dX11_reckon_45 : decode cX11_reckon 45 = .ok (.iload_n 2, 1) := by decide +kernel
theorem dX11_reckon_46 : decode cX11_reckon 46 = .ok (.iadd, 1) := by decide +kernel
theorem dX11_reckon_47 : decode cX11_reckon 47 = .ok (.ireturn, 1) := by decide +kernel
theorem dX11_reckon_48 : decode cX11_reckon 48 = .ok (.iload_n 1, 1) := by decide +kernel
theorem dX11_reckon_49 : decode cX11_reckon 49 = .ok (.iload_n 2, 1) := by decide +kernel
theorem dX11_reckon_50 : decode cX11_reckon 50 = .ok (.isub, 1) := by decide +kernel
theorem dX11_reckon_51 : decode cX11_reckon 51 = .ok (.ireturn, 1) := by decide +kernel
theorem dX11_reckon_52 : decode cX11_reckon 52 = .ok (.iload_n 1, 1) := by decide +kernel
theorem dX11_reckon_53 : decode cX11_reckon 53 = .ok (.iload_n 2, 1) := by decide +kernel
theorem dX11_reckon_54 : decode cX11_reckon 54 = .ok (.imul, 1) := by decide +kernel
theorem dX11_reckon_55 : decode cX11_reckon 55 = .ok (.ireturn, 1) := by decide +kernel
theorem dX11_reckon_56 : decode cX11_reckon 56 = .ok (.iload_n 2, 1) := by decide +kernel
theorem dX11_reckon_57 : decode cX11_reckon 57 = .ok (.ifCond .ne 7, 3) := by decide +kernel
theorem dX11_reckon_60 : decode cX11_reckon 60 = .ok (.iconst 0, 1) := by decide +kernel
theorem dX11_reckon_61 : decode cX11_reckon 61 = .ok (.goto 6, 3) := by decide +kernel
theorem dX11_reckon_64 : decode cX11_reckon 64 = .ok (.iload_n 1, 1) := by decide +kernel
theorem dX11_reckon_65 : decode cX11_reckon 65 = .ok (.iload_n 2, 1) := by decide +kernel
theorem dX11_reckon_66 : decode cX11_reckon 66 = .ok (.idiv, 1) := by decide +kernel
theorem dX11_reckon_67 : decode cX11_reckon 67 = .ok (.ireturn, 1) := by decide +kernel
theorem dX11_reckon_68 : decode cX11_reckon 68 = .ok (.iload_n 1, 1) := by decide +kernel
theorem dX11_reckon_69 : decode cX11_reckon 69 = .ok (.iload_n 2, 1) := by decide +kernel
theorem dX11_reckon_70 : decode cX11_reckon 70 = .ok (.if_icmp .ge 7, 3) := by decide +kernel
theorem dX11_reckon_73 : decode cX11_reckon 73 = .ok (.iconst 1, 1) := by decide +kernel
theorem dX11_reckon_74 : decode cX11_reckon 74 = .ok (.goto 4, 3) := by decide +kernel
theorem dX11_reckon_77 : decode cX11_reckon 77 = .ok (.iconst 0, 1) := by decide +kernel
theorem dX11_reckon_78 : decode cX11_reckon 78 = .ok (.ireturn, 1) := by decide +kernel
theorem dX11_reckon_79 : decode cX11_reckon 79 = .ok (.iload_n 1, 1) := by decide +kernel
theorem dX11_reckon_80 : decode cX11_reckon 80 = .ok (.iload_n 2, 1) := by decide +kernel
theorem dX11_reckon_81 : decode cX11_reckon 81 = .ok (.if_icmp .ne 7, 3) := by decide +kernel
theorem dX11_reckon_84 : decode cX11_reckon 84 = .ok (.iconst 1, 1) := by decide +kernel
theorem dX11_reckon_85 : decode cX11_reckon 85 = .ok (.goto 4, 3) := by decide +kernel
theorem dX11_reckon_88 : decode cX11_reckon 88 = .ok (.iconst 0, 1) := by decide +kernel
theorem dX11_reckon_89 : decode cX11_reckon 89 = .ok (.ireturn, 1) := by decide +kernel
theorem dX11_reckon_90 : decode cX11_reckon 90 = .ok (.iload_n 1, 1) := by decide +kernel
theorem dX11_reckon_91 : decode cX11_reckon 91 = .ok (.ifCond .eq 11, 3) := by decide +kernel
theorem dX11_reckon_94 : decode cX11_reckon 94 = .ok (.iload_n 2, 1) := by decide +kernel
theorem dX11_reckon_95 : decode cX11_reckon 95 = .ok (.ifCond .eq 7, 3) := by decide +kernel
theorem dX11_reckon_98 : decode cX11_reckon 98 = .ok (.iconst 1, 1) := by decide +kernel
theorem dX11_reckon_99 : decode cX11_reckon 99 = .ok (.goto 4, 3) := by decide +kernel
theorem dX11_reckon_102 : decode cX11_reckon 102 = .ok (.iconst 0, 1) := by decide +kernel
theorem dX11_reckon_103 : decode cX11_reckon 103 = .ok (.ireturn, 1) := by decide +kernel
theorem dX11_reckon_104 : decode cX11_reckon 104 = .ok (.iload_n 1, 1) := by decide +kernel
theorem dX11_reckon_105 : decode cX11_reckon 105 = .ok (.ifCond .ne 7, 3) := by decide +kernel
theorem dX11_reckon_108 : decode cX11_reckon 108 = .ok (.iload_n 2, 1) := by decide +kernel
theorem dX11_reckon_109 : decode cX11_reckon 109 = .ok (.ifCond .eq 7, 3) := by decide +kernel
theorem dX11_reckon_112 : decode cX11_reckon 112 = .ok (.iconst 1, 1) := by decide +kernel
theorem dX11_reckon_113 : decode cX11_reckon 113 = .ok (.goto 4, 3) := by decide +kernel
theorem dX11_reckon_116 : decode cX11_reckon 116 = .ok (.iconst 0, 1) := by decide +kernel
theorem dX11_reckon_117 : decode cX11_reckon 117 = .ok (.ireturn, 1) := by decide +kernel
def b_X11_reckon (x0 : Int32) (x1 : Int32) (x2 : Int32) : Int32 :=
  if x0 = (-26) then if x1 = 0 then 0 else if x2 = 0 then 0 else 1 else if x0 = (-25) then if x1 = x2 then 1 else 0 else if x0 = (-24) then if x2 ≤ x1 then 0 else 1 else if x0 = (-23) then if x2 = 0 then 0 else x1 / x2 else if x0 = (-22) then x1 * x2 else if x0 = (-21) then x1 - x2 else if x0 = (-20) then x1 + x2 else if x1 = 0 then if x2 = 0 then 0 else 1 else 1
set_option maxRecDepth 100000 in
set_option maxHeartbeats 4000000 in
theorem g_X11_reckon {G : am_G} (hK : k_OK G) {d : Nat} (hd : 0 ≤ d) {sh : List (Nat ⊕ (Nat × Nat))} {I : g_I} {R : Nat → Nat → Option Nat} {L : Nat → Nat → Int64} {g : Nat} {x0 : Int32} {x1 : Int32} {x2 : Int32} : AM G mX11_reckon d [.int x0, .int x1, .int x2] (sh, I, R, L, g) (fun v w => v = some (.int (b_X11_reckon x0 x1 x2)) ∧ w = (sh, I, R, L, g)) (fun _ _ => False) := by
  have hG := hK.1
  refine AM.of (n := 0) (by decide +kernel) (Nat.le_of_ble_eq_true rfl) ?_
  show AW G mX11_reckon d (fun v w => v = some (.int (b_X11_reckon x0 x1 x2)) ∧ w = (sh, I, R, L, g)) (fun _ _ => False) 0 [some (.int x0), some (.int x1), some (.int x2)] [] (sh, I, R, L, g) 0 0
  unfold b_X11_reckon
  refine AW.iload_n dX11_reckon_0 rfl ?_
  by_cases hs1_0 : x0 = (-26)
  · rw [if_pos hs1_0]
    refine AW.tabIn 90 dX11_reckon_1 (by rw [hs1_0]; decide) (by rw [hs1_0]; decide) (by rw [hs1_0]; rfl) (by decide) ?_
    refine AW.iload_n dX11_reckon_90 rfl ?_
    refine AW.if_eq 102 dX11_reckon_91 (by decide) (fun hc91 => ?_) (fun hc91 => ?_)
    · rw [if_pos hc91]
      refine AW.iconst 0 dX11_reckon_102 (by decide) ?_
      exact AW.iret dX11_reckon_103 rfl (by decide) (by decide) ⟨rfl, rfl⟩
    · rw [if_neg hc91]
      refine AW.iload_n dX11_reckon_94 rfl ?_
      refine AW.if_eq 102 dX11_reckon_95 (by decide) (fun hc95 => ?_) (fun hc95 => ?_)
      · rw [if_pos hc95]
        refine AW.iconst 0 dX11_reckon_102 (by decide) ?_
        exact AW.iret dX11_reckon_103 rfl (by decide) (by decide) ⟨rfl, rfl⟩
      · rw [if_neg hc95]
        refine AW.iconst 1 dX11_reckon_98 (by decide) ?_
        refine AW.goto 103 dX11_reckon_99 (by decide) ?_
        exact AW.iret dX11_reckon_103 rfl (by decide) (by decide) ⟨rfl, rfl⟩
  rw [if_neg hs1_0]
  by_cases hs1_1 : x0 = (-25)
  · rw [if_pos hs1_1]
    refine AW.tabIn 79 dX11_reckon_1 (by rw [hs1_1]; decide) (by rw [hs1_1]; decide) (by rw [hs1_1]; rfl) (by decide) ?_
    refine AW.iload_n dX11_reckon_79 rfl ?_
    refine AW.iload_n dX11_reckon_80 rfl ?_
    refine AW.icmp_ne 88 dX11_reckon_81 (by decide) (fun hc81 => ?_) (fun hc81 => ?_)
    · rw [if_neg hc81]
      refine AW.iconst 0 dX11_reckon_88 (by decide) ?_
      exact AW.iret dX11_reckon_89 rfl (by decide) (by decide) ⟨rfl, rfl⟩
    · rw [if_pos hc81]
      refine AW.iconst 1 dX11_reckon_84 (by decide) ?_
      refine AW.goto 89 dX11_reckon_85 (by decide) ?_
      exact AW.iret dX11_reckon_89 rfl (by decide) (by decide) ⟨rfl, rfl⟩
  rw [if_neg hs1_1]
  by_cases hs1_2 : x0 = (-24)
  · rw [if_pos hs1_2]
    refine AW.tabIn 68 dX11_reckon_1 (by rw [hs1_2]; decide) (by rw [hs1_2]; decide) (by rw [hs1_2]; rfl) (by decide) ?_
    refine AW.iload_n dX11_reckon_68 rfl ?_
    refine AW.iload_n dX11_reckon_69 rfl ?_
    refine AW.icmp_ge 77 dX11_reckon_70 (by decide) (fun hc70 => ?_) (fun hc70 => ?_)
    · rw [if_pos hc70]
      refine AW.iconst 0 dX11_reckon_77 (by decide) ?_
      exact AW.iret dX11_reckon_78 rfl (by decide) (by decide) ⟨rfl, rfl⟩
    · rw [if_neg hc70]
      refine AW.iconst 1 dX11_reckon_73 (by decide) ?_
      refine AW.goto 78 dX11_reckon_74 (by decide) ?_
      exact AW.iret dX11_reckon_78 rfl (by decide) (by decide) ⟨rfl, rfl⟩
  rw [if_neg hs1_2]
  by_cases hs1_3 : x0 = (-23)
  · rw [if_pos hs1_3]
    refine AW.tabIn 56 dX11_reckon_1 (by rw [hs1_3]; decide) (by rw [hs1_3]; decide) (by rw [hs1_3]; rfl) (by decide) ?_
    refine AW.iload_n dX11_reckon_56 rfl ?_
    refine AW.if_ne 64 dX11_reckon_57 (by decide) (fun hc57 => ?_) (fun hc57 => ?_)
    · rw [if_neg hc57]
      refine AW.iload_n dX11_reckon_64 rfl ?_
      refine AW.iload_n dX11_reckon_65 rfl ?_
      refine AW.idiv dX11_reckon_66 (by assumption) ?_
      exact AW.iret dX11_reckon_67 rfl (by decide) (by decide) ⟨rfl, rfl⟩
    · rw [if_pos hc57]
      refine AW.iconst 0 dX11_reckon_60 (by decide) ?_
      refine AW.goto 67 dX11_reckon_61 (by decide) ?_
      exact AW.iret dX11_reckon_67 rfl (by decide) (by decide) ⟨rfl, rfl⟩
  rw [if_neg hs1_3]
  by_cases hs1_4 : x0 = (-22)
  · rw [if_pos hs1_4]
    refine AW.tabIn 52 dX11_reckon_1 (by rw [hs1_4]; decide) (by rw [hs1_4]; decide) (by rw [hs1_4]; rfl) (by decide) ?_
    refine AW.iload_n dX11_reckon_52 rfl ?_
    refine AW.iload_n dX11_reckon_53 rfl ?_
    refine AW.imul dX11_reckon_54 ?_
    exact AW.iret dX11_reckon_55 rfl (by decide) (by decide) ⟨rfl, rfl⟩
  rw [if_neg hs1_4]
  by_cases hs1_5 : x0 = (-21)
  · rw [if_pos hs1_5]
    refine AW.tabIn 48 dX11_reckon_1 (by rw [hs1_5]; decide) (by rw [hs1_5]; decide) (by rw [hs1_5]; rfl) (by decide) ?_
    refine AW.iload_n dX11_reckon_48 rfl ?_
    refine AW.iload_n dX11_reckon_49 rfl ?_
    refine AW.isub dX11_reckon_50 ?_
    exact AW.iret dX11_reckon_51 rfl (by decide) (by decide) ⟨rfl, rfl⟩
  rw [if_neg hs1_5]
  by_cases hs1_6 : x0 = (-20)
  · rw [if_pos hs1_6]
    refine AW.tabIn 44 dX11_reckon_1 (by rw [hs1_6]; decide) (by rw [hs1_6]; decide) (by rw [hs1_6]; rfl) (by decide) ?_
    refine AW.iload_n dX11_reckon_44 rfl ?_
    refine AW.iload_n dX11_reckon_45 rfl ?_
    refine AW.iadd dX11_reckon_46 ?_
    exact AW.iret dX11_reckon_47 rfl (by decide) (by decide) ⟨rfl, rfl⟩
  rw [if_neg hs1_6]
  have ht1 : x0.toInt < -26 ∨ -20 < x0.toInt := by
    have h90 : ¬ x0.toInt = -26 := fun h => hs1_0 (Int32.toInt_inj.mp (h.trans (by decide)))
    have h91 : ¬ x0.toInt = -25 := fun h => hs1_1 (Int32.toInt_inj.mp (h.trans (by decide)))
    have h92 : ¬ x0.toInt = -24 := fun h => hs1_2 (Int32.toInt_inj.mp (h.trans (by decide)))
    have h93 : ¬ x0.toInt = -23 := fun h => hs1_3 (Int32.toInt_inj.mp (h.trans (by decide)))
    have h94 : ¬ x0.toInt = -22 := fun h => hs1_4 (Int32.toInt_inj.mp (h.trans (by decide)))
    have h95 : ¬ x0.toInt = -21 := fun h => hs1_5 (Int32.toInt_inj.mp (h.trans (by decide)))
    have h96 : ¬ x0.toInt = -20 := fun h => hs1_6 (Int32.toInt_inj.mp (h.trans (by decide)))
    omega
  refine AW.tabOut 104 dX11_reckon_1 ht1 (by decide) ?_
  refine AW.iload_n dX11_reckon_104 rfl ?_
  refine AW.if_ne 112 dX11_reckon_105 (by decide) (fun hc105 => ?_) (fun hc105 => ?_)
  · rw [if_neg hc105]
    refine AW.iconst 1 dX11_reckon_112 (by decide) ?_
    refine AW.goto 117 dX11_reckon_113 (by decide) ?_
    exact AW.iret dX11_reckon_117 rfl (by decide) (by decide) ⟨rfl, rfl⟩
  · rw [if_pos hc105]
    refine AW.iload_n dX11_reckon_108 rfl ?_
    refine AW.if_eq 116 dX11_reckon_109 (by decide) (fun hc109 => ?_) (fun hc109 => ?_)
    · rw [if_pos hc109]
      refine AW.iconst 0 dX11_reckon_116 (by decide) ?_
      exact AW.iret dX11_reckon_117 rfl (by decide) (by decide) ⟨rfl, rfl⟩
    · rw [if_neg hc109]
      refine AW.iconst 1 dX11_reckon_112 (by decide) ?_
      refine AW.goto 117 dX11_reckon_113 (by decide) ?_
      exact AW.iret dX11_reckon_117 rfl (by decide) (by decide) ⟨rfl, rfl⟩
