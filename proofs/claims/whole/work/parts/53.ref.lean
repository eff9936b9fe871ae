/-! 53.ref (printed by s52.py) -/
theorem dX11_thrown_0 : decode cX11_thrown 0 = .ok (.aload_n 0, 1) := by decide +kernel
theorem dX11_thrown_1 : decode cX11_thrown 1 = .ok (.getfield 159, 3) := by decide +kernel
theorem dX11_thrown_4 : decode cX11_thrown 4 = .ok (.ireturn, 1) := by decide +kernel
def b_X11_thrown (I : g_I) : Int32 :=
  I 101 2
set_option maxRecDepth 100000 in
set_option maxHeartbeats 4000000 in
theorem g_X11_thrown {G : am_G} (hK : k_OK G) {d : Nat} (hd : 0 ≤ d) {sh : List (Nat ⊕ (Nat × Nat))} {I : g_I} {R : Nat → Nat → Option Nat} {L : Nat → Nat → Int64} {g : Nat} (hm : k_Mod sh R) : AM G mX11_thrown d [.ref 101] (sh, I, R, L, g) (fun v w => v = some (.int (b_X11_thrown I)) ∧ w = (sh, I, R, L, g)) (fun _ _ => False) := by
  have hG := hK.1
  refine AM.of (n := 0) (by decide +kernel) (Nat.le_of_ble_eq_true rfl) ?_
  show AW G mX11_thrown d (fun v w => v = some (.int (b_X11_thrown I)) ∧ w = (sh, I, R, L, g)) (fun _ _ => False) 0 [some (.ref 101)] [] (sh, I, R, L, g) 0 0
  unfold b_X11_thrown
  refine AW.aload_n dX11_thrown_0 rfl ?_
  refine AW.getI (fX11_159 hG).r rfl (hm.1 0 _ rfl) dX11_thrown_1 ?_
  exact AW.iret dX11_thrown_4 rfl (by decide) (by decide) ⟨rfl, rfl⟩
theorem dX11_fail_0 : decode cX11_fail 0 = .ok (.aload_n 0, 1) := by decide +kernel
theorem dX11_fail_1 : decode cX11_fail 1 = .ok (.iload_n 1, 1) := by decide +kernel
theorem dX11_fail_2 : decode cX11_fail 2 = .ok (.putfield 159, 3) := by decide +kernel
theorem dX11_fail_5 : decode cX11_fail 5 = .ok (.iconst 0, 1) := by decide +kernel
theorem dX11_fail_6 : decode cX11_fail 6 = .ok (.ireturn, 1) := by decide +kernel
def b_X11_fail (I : g_I) (x1 : Int32) : Option (Int32 × g_I) :=
  g_let (am_up I 101 2 x1) fun I1 => some (0, I1)
set_option maxRecDepth 100000 in
set_option maxHeartbeats 4000000 in
theorem g_X11_fail {G : am_G} (hK : k_OK G) {d : Nat} (hd : 0 ≤ d) {sh : List (Nat ⊕ (Nat × Nat))} {I : g_I} {R : Nat → Nat → Option Nat} {L : Nat → Nat → Int64} {g : Nat} (hm : k_Mod sh R) {x1 : Int32} {r : Int32 × g_I} (h : b_X11_fail I x1 = some r) : AM G mX11_fail d [.ref 101, .int x1] (sh, I, R, L, g) (fun v w => v = some (.int r.1) ∧ w = (sh, r.2, R, L, g)) (fun _ _ => False) := by
  have hG := hK.1
  refine AM.of (n := 0) (by decide +kernel) (Nat.le_of_ble_eq_true rfl) ?_
  show AW G mX11_fail d (fun v w => v = some (.int r.1) ∧ w = (sh, r.2, R, L, g)) (fun _ _ => False) 0 [some (.ref 101), some (.int x1)] [] (sh, I, R, L, g) 0 0
  unfold b_X11_fail at h
  refine AW.aload_n dX11_fail_0 rfl ?_
  refine AW.iload_n dX11_fail_1 rfl ?_
  refine AW.putI (fX11_159 hG) rfl (vp_nar_int _) rfl (hm.1 0 _ rfl) dX11_fail_2 ?_
  obtain ⟨I1, eI1, h⟩ := g_letE h
  refine AW.namIE eI1 ?_
  refine AW.iconst 0 dX11_fail_5 (by decide) ?_
  exact AW.iret dX11_fail_6 rfl (by decide) (by decide) (by cases h; exact ⟨rfl, rfl⟩)
theorem dX11_failing_0 : decode cX11_failing 0 = .ok (.aload_n 0, 1) := by decide +kernel
theorem dX11_failing_1 : decode cX11_failing 1 = .ok (.iload_n 1, 1) := by decide +kernel
theorem dX11_failing_2 : decode cX11_failing 2 = .ok (.putfield 159, 3) := by decide +kernel
theorem dX11_failing_5 : decode cX11_failing 5 = .ok (.iconst 0, 1) := by decide +kernel
theorem dX11_failing_6 : decode cX11_failing 6 = .ok (.ireturn, 1) := by decide +kernel
def b_X11_failing (I : g_I) (x1 : Int32) : Option (Bool × g_I) :=
  g_let (am_up I 101 2 x1) fun I1 => some (false, I1)
set_option maxRecDepth 100000 in
set_option maxHeartbeats 4000000 in
theorem g_X11_failing {G : am_G} (hK : k_OK G) {d : Nat} (hd : 0 ≤ d) {sh : List (Nat ⊕ (Nat × Nat))} {I : g_I} {R : Nat → Nat → Option Nat} {L : Nat → Nat → Int64} {g : Nat} (hm : k_Mod sh R) {x1 : Int32} {r : Bool × g_I} (h : b_X11_failing I x1 = some r) : AM G mX11_failing d [.ref 101, .int x1] (sh, I, R, L, g) (fun v w => v = some (.int (kb r.1)) ∧ w = (sh, r.2, R, L, g)) (fun _ _ => False) := by
  have hG := hK.1
  refine AM.of (n := 0) (by decide +kernel) (Nat.le_of_ble_eq_true rfl) ?_
  show AW G mX11_failing d (fun v w => v = some (.int (kb r.1)) ∧ w = (sh, r.2, R, L, g)) (fun _ _ => False) 0 [some (.ref 101), some (.int x1)] [] (sh, I, R, L, g) 0 0
  unfold b_X11_failing at h
  refine AW.aload_n dX11_failing_0 rfl ?_
  refine AW.iload_n dX11_failing_1 rfl ?_
  refine AW.putI (fX11_159 hG) rfl (vp_nar_int _) rfl (hm.1 0 _ rfl) dX11_failing_2 ?_
  obtain ⟨I1, eI1, h⟩ := g_letE h
  refine AW.namIE eI1 ?_
  refine AW.iconst 0 dX11_failing_5 (by decide) ?_
  exact AW.zret dX11_failing_6 rfl (by decide) (by decide) (by decide) (by cases h; exact ⟨rfl, rfl⟩)
theorem dX11_isOf_0 : decode cX11_isOf 0 = .ok (.iload_n 0, 1) := by decide +kernel
theorem dX11_isOf_1 : decode cX11_isOf 1 = .ok (.iload_n 1, 1) := by decide +kernel
theorem dX11_isOf_2 : decode cX11_isOf 2 = .ok (.ishr, 1) := by decide +kernel
theorem dX11_isOf_3 : decode cX11_isOf 3 = .ok (.iconst 1, 1) := by decide +kernel
theorem dX11_isOf_4 : decode cX11_isOf 4 = .ok (.iand, 1) := by decide +kernel
theorem dX11_isOf_5 : decode cX11_isOf 5 = .ok (.iconst 1, 1) := by decide +kernel
theorem dX11_isOf_6 : decode cX11_isOf 6 = .ok (.if_icmp .ne 7, 3) := by decide +kernel
theorem dX11_isOf_9 : decode cX11_isOf 9 = .ok (.iconst 1, 1) := by decide +kernel
theorem dX11_isOf_10 : decode cX11_isOf 10 = .ok (.goto 4, 3) := by decide +kernel
theorem dX11_isOf_13 : decode cX11_isOf 13 = .ok (.iconst 0, 1) := by decide +kernel
theorem dX11_isOf_14 : decode cX11_isOf 14 = .ok (.ireturn, 1) := by decide +kernel
def b_X11_isOf (x0 : Int32) (x1 : Int32) : Bool :=
  if ((x0 >>> (x1 &&& 31)) &&& 1) = 1 then true else false
set_option maxRecDepth 100000 in
set_option maxHeartbeats 4000000 in
theorem g_X11_isOf {G : am_G} (hK : k_OK G) {d : Nat} (hd : 0 ≤ d) {sh : List (Nat ⊕ (Nat × Nat))} {I : g_I} {R : Nat → Nat → Option Nat} {L : Nat → Nat → Int64} {g : Nat} {x0 : Int32} {x1 : Int32} : AM G mX11_isOf d [.int x0, .int x1] (sh, I, R, L, g) (fun v w => v = some (.int (kb (b_X11_isOf x0 x1))) ∧ w = (sh, I, R, L, g)) (fun _ _ => False) := by
  have hG := hK.1
  refine AM.of (n := 0) (by decide +kernel) (Nat.le_of_ble_eq_true rfl) ?_
  show AW G mX11_isOf d (fun v w => v = some (.int (kb (b_X11_isOf x0 x1))) ∧ w = (sh, I, R, L, g)) (fun _ _ => False) 0 [some (.int x0), some (.int x1)] [] (sh, I, R, L, g) 0 0
  unfold b_X11_isOf
  refine AW.iload_n dX11_isOf_0 rfl ?_
  refine AW.iload_n dX11_isOf_1 rfl ?_
  refine AW.ishr dX11_isOf_2 ?_
  refine AW.iconst 1 dX11_isOf_3 (by decide) ?_
  refine AW.iand dX11_isOf_4 ?_
  refine AW.iconst 1 dX11_isOf_5 (by decide) ?_
  refine AW.icmp_ne 13 dX11_isOf_6 (by decide) (fun hc6 => ?_) (fun hc6 => ?_)
  · rw [if_neg hc6]
    refine AW.iconst 0 dX11_isOf_13 (by decide) ?_
    exact AW.zret dX11_isOf_14 rfl (by decide) (by decide) (by decide) ⟨rfl, rfl⟩
  · rw [if_pos hc6]
    refine AW.iconst 1 dX11_isOf_9 (by decide) ?_
    refine AW.goto 14 dX11_isOf_10 (by decide) ?_
    exact AW.zret dX11_isOf_14 rfl (by decide) (by decide) (by decide) ⟨rfl, rfl⟩
theorem dX11_isPerson_0 : decode cX11_isPerson 0 = .ok (.iload_n 1, 1) := by decide +kernel
theorem dX11_isPerson_1 : decode cX11_isPerson 1 = .ok (.i2l, 1) := by decide +kernel
theorem dX11_isPerson_2 : decode cX11_isPerson 2 = .ok (.lconst 0, 1) := by decide +kernel
theorem dX11_isPerson_3 : decode cX11_isPerson 3 = .ok (.aload_n 0, 1) := by decide +kernel
theorem dX11_isPerson_4 : decode cX11_isPerson 4 = .ok (.getfield 38, 3) := by decide +kernel
theorem dX11_isPerson_7 : decode cX11_isPerson 7 = .ok (.iconst 0, 1) := by decide +kernel
theorem dX11_isPerson_8 : decode cX11_isPerson 8 = .ok (.iaload, 1) := by decide +kernel
theorem dX11_isPerson_9 : decode cX11_isPerson 9 = .ok (.iconst 1, 1) := by decide +kernel
theorem dX11_isPerson_10 : decode cX11_isPerson 10 = .ok (.isub, 1) := by decide +kernel
theorem dX11_isPerson_11 : decode cX11_isPerson 11 = .ok (.i2l, 1) := by decide +kernel
theorem dX11_isPerson_12 : decode cX11_isPerson 12 = .ok (.invokestatic 162, 3) := by decide +kernel
theorem dX11_isPerson_15 : decode cX11_isPerson 15 = .ok (.ireturn, 1) := by decide +kernel
def b_X11_isPerson (I : g_I) (x1 : Int32) : Bool :=
  b_X11_isIn (x1.toInt64) 0 (((I 104 0) - 1).toInt64)
set_option maxRecDepth 100000 in
set_option maxHeartbeats 4000000 in
theorem g_X11_isPerson {G : am_G} (hK : k_OK G) {d : Nat} (hd : 1 ≤ d) {sh : List (Nat ⊕ (Nat × Nat))} {I : g_I} {R : Nat → Nat → Option Nat} {L : Nat → Nat → Int64} {g : Nat} (hm : k_Mod sh R) {x1 : Int32} : AM G mX11_isPerson d [.ref 101, .int x1] (sh, I, R, L, g) (fun v w => v = some (.int (kb (b_X11_isPerson I x1))) ∧ w = (sh, I, R, L, g)) (fun _ _ => False) := by
  have hG := hK.1
  refine AM.of (n := 0) (by decide +kernel) (Nat.le_of_ble_eq_true rfl) ?_
  show AW G mX11_isPerson d (fun v w => v = some (.int (kb (b_X11_isPerson I x1))) ∧ w = (sh, I, R, L, g)) (fun _ _ => False) 0 [some (.ref 101), some (.int x1)] [] (sh, I, R, L, g) 0 0
  unfold b_X11_isPerson
  refine AW.iload_n dX11_isPerson_0 rfl ?_
  refine AW.i2l dX11_isPerson_1 ?_
  refine AW.lconst 0 dX11_isPerson_2 (by decide) ?_
  refine AW.aload_n dX11_isPerson_3 rfl ?_
  refine AW.getR (c' := 104) (fX11_38 hG).r rfl (hm.1 0 _ rfl) (hm.2 (0, 3, 3) (by decide)) dX11_isPerson_4 ?_
  refine AW.iconst 0 dX11_isPerson_7 (by decide) ?_
  refine AW.iald (hm.1 3 _ rfl) (by unfold vp_in; decide) dX11_isPerson_8 ?_
  show AW G _ d _ _ 9 [some (.ref 101), some (.int x1)] [.int (I 104 0), .long 0, .long (x1.toInt64)] (sh, I, R, L, g) 0 0
  refine AW.iconst 1 dX11_isPerson_9 (by decide) ?_
  refine AW.isub dX11_isPerson_10 ?_
  refine AW.i2l dX11_isPerson_11 ?_
  refine AW.callS (As := [.long (x1.toInt64), .long 0, .long (((I 104 0) - 1).toInt64)]) hG.2.2 (vX11_162 hG) (g_X11_isIn hK (d := 0) (Nat.le_refl _) (x1.toInt64) 0 (((I 104 0) - 1).toInt64)) (by omega) dX11_isPerson_12 rfl rfl (Nat.le_of_ble_eq_true rfl) (fun v w9 hq9 h09 => by obtain ⟨rfl, rfl⟩ := hq9; exact ⟨h09, rfl⟩) (by decide) (by decide) (fun _ _ hx => hx) (fun v9 w9 hq9 => ?_)
  obtain ⟨rfl, rfl⟩ := hq9
  show AW G _ d _ _ 15 [some (.ref 101), some (.int x1)] [.int (kb (b_X11_isIn (x1.toInt64) 0 (((I 104 0) - 1).toInt64)))] (sh, I, R, L, g) 0 0
  exact AW.zret dX11_isPerson_15 rfl (kb_nar _) (by decide) (by decide) ⟨rfl, rfl⟩
theorem dX11_isLoaf_0 : decode cX11_isLoaf 0 = .ok (.iload_n 1, 1) := by decide +kernel
theorem dX11_isLoaf_1 : decode cX11_isLoaf 1 = .ok (.i2l, 1) := by decide +kernel
theorem dX11_isLoaf_2 : decode cX11_isLoaf 2 = .ok (.lconst 0, 1) := by decide +kernel
theorem dX11_isLoaf_3 : decode cX11_isLoaf 3 = .ok (.aload_n 0, 1) := by decide +kernel
theorem dX11_isLoaf_4 : decode cX11_isLoaf 4 = .ok (.getfield 38, 3) := by decide +kernel
theorem dX11_isLoaf_7 : decode cX11_isLoaf 7 = .ok (.iconst 1, 1) := by decide +kernel
theorem dX11_isLoaf_8 : decode cX11_isLoaf 8 = .ok (.iaload, 1) := by decide +kernel
theorem dX11_isLoaf_9 : decode cX11_isLoaf 9 = .ok (.iconst 1, 1) := by decide +kernel
theorem dX11_isLoaf_10 : decode cX11_isLoaf 10 = .ok (.isub, 1) := by decide +kernel
theorem dX11_isLoaf_11 : decode cX11_isLoaf 11 = .ok (.i2l, 1) := by decide +kernel
theorem dX11_isLoaf_12 : decode cX11_isLoaf 12 = .ok (.invokestatic 162, 3) := by decide +kernel
theorem dX11_isLoaf_15 : decode cX11_isLoaf 15 = .ok (.ireturn, 1) := by decide +kernel
def b_X11_isLoaf (I : g_I) (x1 : Int32) : Bool :=
  b_X11_isIn (x1.toInt64) 0 (((I 104 1) - 1).toInt64)
set_option maxRecDepth 100000 in
set_option maxHeartbeats 4000000 in
theorem g_X11_isLoaf {G : am_G} (hK : k_OK G) {d : Nat} (hd : 1 ≤ d) {sh : List (Nat ⊕ (Nat × Nat))} {I : g_I} {R : Nat → Nat → Option Nat} {L : Nat → Nat → Int64} {g : Nat} (hm : k_Mod sh R) {x1 : Int32} : AM G mX11_isLoaf d [.ref 101, .int x1] (sh, I, R, L, g) (fun v w => v = some (.int (kb (b_X11_isLoaf I x1))) ∧ w = (sh, I, R, L, g)) (fun _ _ => False) := by
  have hG := hK.1
  refine AM.of (n := 0) (by decide +kernel) (Nat.le_of_ble_eq_true rfl) ?_
  show AW G mX11_isLoaf d (fun v w => v = some (.int (kb (b_X11_isLoaf I x1))) ∧ w = (sh, I, R, L, g)) (fun _ _ => False) 0 [some (.ref 101), some (.int x1)] [] (sh, I, R, L, g) 0 0
  unfold b_X11_isLoaf
  refine AW.iload_n dX11_isLoaf_0 rfl ?_
  refine AW.i2l dX11_isLoaf_1 ?_
  refine AW.lconst 0 dX11_isLoaf_2 (by decide) ?_
  refine AW.aload_n dX11_isLoaf_3 rfl ?_
  refine AW.getR (c' := 104) (fX11_38 hG).r rfl (hm.1 0 _ rfl) (hm.2 (0, 3, 3) (by decide)) dX11_isLoaf_4 ?_
  refine AW.iconst 1 dX11_isLoaf_7 (by decide) ?_
  refine AW.iald (hm.1 3 _ rfl) (by unfold vp_in; decide) dX11_isLoaf_8 ?_
  show AW G _ d _ _ 9 [some (.ref 101), some (.int x1)] [.int (I 104 1), .long 0, .long (x1.toInt64)] (sh, I, R, L, g) 0 0
  refine AW.iconst 1 dX11_isLoaf_9 (by decide) ?_
  refine AW.isub dX11_isLoaf_10 ?_
  refine AW.i2l dX11_isLoaf_11 ?_
  refine AW.callS (As := [.long (x1.toInt64), .long 0, .long (((I 104 1) - 1).toInt64)]) hG.2.2 (vX11_162 hG) (g_X11_isIn hK (d := 0) (Nat.le_refl _) (x1.toInt64) 0 (((I 104 1) - 1).toInt64)) (by omega) dX11_isLoaf_12 rfl rfl (Nat.le_of_ble_eq_true rfl) (fun v w9 hq9 h09 => by obtain ⟨rfl, rfl⟩ := hq9; exact ⟨h09, rfl⟩) (by decide) (by decide) (fun _ _ hx => hx) (fun v9 w9 hq9 => ?_)
  obtain ⟨rfl, rfl⟩ := hq9
  show AW G _ d _ _ 15 [some (.ref 101), some (.int x1)] [.int (kb (b_X11_isIn (x1.toInt64) 0 (((I 104 1) - 1).toInt64)))] (sh, I, R, L, g) 0 0
  exact AW.zret dX11_isLoaf_15 rfl (kb_nar _) (by decide) (by decide) ⟨rfl, rfl⟩
theorem dX11_couple_0 : decode cX11_couple 0 = .ok (.bipush 8, 2) := by decide +kernel
theorem dX11_couple_2 : decode cX11_couple 2 = .ok (.iload_n 0, 1) := by decide +kernel
theorem dX11_couple_3 : decode cX11_couple 3 = .ok (.imul, 1) := by decide +kernel
theorem dX11_couple_4 : decode cX11_couple 4 = .ok (.iload_n 1, 1) := by decide +kernel
theorem dX11_couple_5 : decode cX11_couple 5 = .ok (.iadd, 1) := by decide +kernel
theorem dX11_couple_6 : decode cX11_couple 6 = .ok (.ireturn, 1) := by decide +kernel
def b_X11_couple (x0 : Int32) (x1 : Int32) : Int32 :=
  ((8 : Int32) * x0) + x1
set_option maxRecDepth 100000 in
set_option maxHeartbeats 4000000 in
theorem g_X11_couple {G : am_G} (hK : k_OK G) {d : Nat} (hd : 0 ≤ d) {sh : List (Nat ⊕ (Nat × Nat))} {I : g_I} {R : Nat → Nat → Option Nat} {L : Nat → Nat → Int64} {g : Nat} {x0 : Int32} {x1 : Int32} : AM G mX11_couple d [.int x0, .int x1] (sh, I, R, L, g) (fun v w => v = some (.int (b_X11_couple x0 x1)) ∧ w = (sh, I, R, L, g)) (fun _ _ => False) := by
  have hG := hK.1
  refine AM.of (n := 0) (by decide +kernel) (Nat.le_of_ble_eq_true rfl) ?_
  show AW G mX11_couple d (fun v w => v = some (.int (b_X11_couple x0 x1)) ∧ w = (sh, I, R, L, g)) (fun _ _ => False) 0 [some (.int x0), some (.int x1)] [] (sh, I, R, L, g) 0 0
  unfold b_X11_couple
  refine AW.bipush 8 dX11_couple_0 (by decide) ?_
  refine AW.iload_n dX11_couple_2 rfl ?_
  refine AW.imul dX11_couple_3 ?_
  refine AW.iload_n dX11_couple_4 rfl ?_
  refine AW.iadd dX11_couple_5 ?_
  exact AW.iret dX11_couple_6 rfl (by decide) (by decide) ⟨rfl, rfl⟩
theorem dX11_feed_0 : decode cX11_feed 0 = .ok (.aload_n 0, 1) := by decide +kernel
theorem dX11_feed_1 : decode cX11_feed 1 = .ok (.iconst 0, 1) := by decide +kernel
theorem dX11_feed_2 : decode cX11_feed 2 = .ok (.putfield 159, 3) := by decide +kernel
theorem dX11_feed_5 : decode cX11_feed 5 = .ok (.aload_n 0, 1) := by decide +kernel
theorem dX11_feed_6 : decode cX11_feed 6 = .ok (.getfield 166, 3) := by decide +kernel
theorem dX11_feed_9 : decode cX11_feed 9 = .ok (.bipush 20, 2) := by decide +kernel
theorem dX11_feed_11 : decode cX11_feed 11 = .ok (.iadd, 1) := by decide +kernel
theorem dX11_feed_12 : decode cX11_feed 12 = .ok (.sipush 600, 3) := by decide +kernel
theorem dX11_feed_15 : decode cX11_feed 15 = .ok (.if_icmp .le 5, 3) := by decide +kernel
theorem dX11_feed_18 : decode cX11_feed 18 = .ok (.iconst (-1), 1) := by decide +kernel
theorem dX11_feed_19 : decode cX11_feed 19 = .ok (.ireturn, 1) := by decide +kernel
theorem dX11_feed_20 : decode cX11_feed 20 = .ok (.iconst 0, 1) := by decide +kernel
theorem dX11_feed_21 : decode cX11_feed 21 = .ok (.istore 6, 2) := by decide +kernel
theorem dX11_feed_23 : decode cX11_feed 23 = .ok (.iload 6, 2) := by decide +kernel
theorem dX11_feed_25 : decode cX11_feed 25 = .ok (.bipush 20, 2) := by decide +kernel
theorem dX11_feed_27 : decode cX11_feed 27 = .ok (.if_icmp .ge 93, 3) := by decide +kernel
theorem dX11_feed_30 : decode cX11_feed 30 = .ok (.iload 6, 2) := by decide +kernel
theorem dX11_feed_32 : decode cX11_feed 32 = .ok (.iconst 4, 1) := by decide +kernel
theorem dX11_feed_33 : decode cX11_feed 33 = .ok (.if_icmp .ge 7, 3) := by decide +kernel
theorem dX11_feed_36 : decode cX11_feed 36 = .ok (.iload_n 1, 1) := by decide +kernel
theorem dX11_feed_37 : decode cX11_feed 37 = .ok (.goto 39, 3) := by decide +kernel
theorem dX11_feed_40 : decode cX11_feed 40 = .ok (.iload 6, 2) := by decide +kernel
theorem dX11_feed_42 : decode cX11_feed 42 = .ok (.bipush 8, 2) := by decide +kernel
theorem dX11_feed_44 : decode cX11_feed 44 = .ok (.if_icmp .ge 7, 3) := by decide +kernel
theorem dX11_feed_47 : decode cX11_feed 47 = .ok (.iload_n 2, 1) := by decide +kernel
theorem dX11_feed_48 : decode cX11_feed 48 = .ok (.goto 28, 3) := by decide +kernel
theorem dX11_feed_51 : decode cX11_feed 51 = .ok (.iload 6, 2) := by decide +kernel
theorem dX11_feed_53 : decode cX11_feed 53 = .ok (.bipush 12, 2) := by decide +kernel
theorem dX11_feed_55 : decode cX11_feed 55 = .ok (.if_icmp .ge 7, 3) := by decide +kernel
theorem dX11_feed_58 : decode cX11_feed 58 = .ok (.iload_n 3, 1) := by decide +kernel
theorem dX11_feed_59 : decode cX11_feed 59 = .ok (.goto 17, 3) := by decide +kernel
theorem dX11_feed_62 : decode cX11_feed 62 = .ok (.iload 6, 2) := by decide +kernel
theorem dX11_feed_64 : decode cX11_feed 64 = .ok (.bipush 16, 2) := by decide +kernel
theorem dX11_feed_66 : decode cX11_feed 66 = .ok (.if_icmp .ge 8, 3) := by decide +kernel
theorem dX11_feed_69 : decode cX11_feed 69 = .ok (.iload 4, 2) := by decide +kernel
theorem dX11_feed_71 : decode cX11_feed 71 = .ok (.goto 5, 3) := by decide +kernel
theorem dX11_feed_74 : decode cX11_feed 74 = .ok (.iload 5, 2) := by decide +kernel
theorem dX11_feed_76 : decode cX11_feed 76 = .ok (.istore 7, 2) := by decide +kernel
theorem dX11_feed_78 : decode cX11_feed 78 = .ok (.aload_n 0, 1) := by decide +kernel
theorem dX11_feed_79 : decode cX11_feed 79 = .ok (.getfield 76, 3) := by decide +kernel
theorem dX11_feed_82 : decode cX11_feed 82 = .ok (.aload_n 0, 1) := by decide +kernel
theorem dX11_feed_83 : decode cX11_feed 83 = .ok (.getfield 166, 3) := by decide +kernel
theorem dX11_feed_86 : decode cX11_feed 86 = .ok (.iload 7, 2) := by decide +kernel
theorem dX11_feed_88 : decode cX11_feed 88 = .ok (.bipush 24, 2) := by decide +kernel
theorem dX11_feed_90 : decode cX11_feed 90 = .ok (.bipush 8, 2) := by decide +kernel
theorem dX11_feed_92 : decode cX11_feed 92 = .ok (.iload 6, 2) := by decide +kernel
theorem dX11_feed_94 : decode cX11_feed 94 = .ok (.iconst 4, 1) := by decide +kernel
theorem dX11_feed_95 : decode cX11_feed 95 = .ok (.irem, 1) := by decide +kernel
theorem dX11_feed_96 : decode cX11_feed 96 = .ok (.imul, 1) := by decide +kernel
theorem dX11_feed_97 : decode cX11_feed 97 = .ok (.isub, 1) := by decide +kernel
theorem dX11_feed_98 : decode cX11_feed 98 = .ok (.ishr, 1) := by decide +kernel
theorem dX11_feed_99 : decode cX11_feed 99 = .ok (.sipush 255, 3) := by decide +kernel
theorem dX11_feed_102 : decode cX11_feed 102 = .ok (.iand, 1) := by decide +kernel
theorem dX11_feed_103 : decode cX11_feed 103 = .ok (.iastore, 1) := by decide +kernel
theorem dX11_feed_104 : decode cX11_feed 104 = .ok (.aload_n 0, 1) := by decide +kernel
theorem dX11_feed_105 : decode cX11_feed 105 = .ok (.dup, 1) := by decide +kernel
theorem dX11_feed_106 : decode cX11_feed 106 = .ok (.getfield 166, 3) := by decide +kernel
theorem dX11_feed_109 : decode cX11_feed 109 = .ok (.iconst 1, 1) := by decide +kernel
theorem dX11_feed_110 : decode cX11_feed 110 = .ok (.iadd, 1) := by decide +kernel
theorem dX11_feed_111 : decode cX11_feed 111 = .ok (.putfield 166, 3) := by decide +kernel
theorem dX11_feed_114 : decode cX11_feed 114 = .ok (.iinc 6 1, 3) := by decide +kernel
theorem dX11_feed_117 : decode cX11_feed 117 = .ok (.goto (-94), 3) := by decide +kernel
theorem dX11_feed_120 : decode cX11_feed 120 = .ok (.aload_n 0, 1) := by decide +kernel
theorem dX11_feed_121 : decode cX11_feed 121 = .ok (.getfield 166, 3) := by decide +kernel
theorem dX11_feed_124 : decode cX11_feed 124 = .ok (.ireturn, 1) := by decide +kernel
def b_X11_feed_L23 (y1 : Int32) (y2 : Int32) (y3 : Int32) (y4 : Int32) (y5 : Int32) (K : g_I → Option (Int32 × g_I)) : Nat → Int32 → g_I → Option (Int32 × g_I)
  | 0, _, _ => none
  | f + 1, x6, I => g_let (fun (z6 : Int32) (w0 : Int32) (I76j : g_I) => if g_in (I76j 101 17) 600 = true then g_let (am_up I76j 117 (I76j 101 17).toNatClampNeg ((w0 >>> (((24 : Int32) - ((8 : Int32) * (z6 - z6 / 4 * 4))) &&& 31)) &&& 255)) fun I2 => g_let (am_up I2 101 17 ((I2 101 17) + 1)) fun I3 => b_X11_feed_L23 y1 y2 y3 y4 y5 K f (z6 + 1) I3 else none) fun J76 => if 20 ≤ x6 then K I else if 4 ≤ x6 then if 8 ≤ x6 then if 12 ≤ x6 then if 16 ≤ x6 then J76 x6 y5 I else J76 x6 y4 I else J76 x6 y3 I else J76 x6 y2 I else J76 x6 y1 I
def b_X11_feed (I : g_I) (x1 : Int32) (x2 : Int32) (x3 : Int32) (x4 : Int32) (x5 : Int32) : Option (Int32 × g_I) :=
  g_let (am_up I 101 2 0) fun I1 => if ((I1 101 17) + 20) ≤ 600 then b_X11_feed_L23 x1 x2 x3 x4 x5 (fun (I4 : g_I) => some (I4 101 17, I4)) fu 0 I1 else some ((-1), I1)
set_option maxRecDepth 100000 in
set_option maxHeartbeats 4000000 in
theorem gL_X11_feed_23 {G : am_G} (hK : k_OK G) {d : Nat} (hd : 0 ≤ d) {sh : List (Nat ⊕ (Nat × Nat))} {I : g_I} {R : Nat → Nat → Option Nat} {L : Nat → Nat → Int64} {g : Nat} (hm : k_Mod sh R) {y1 : Int32} {y2 : Int32} {y3 : Int32} {y4 : Int32} {y5 : Int32} {K : g_I → Option (Int32 × g_I)} {x6 : Int32} {f : Nat} {r : Int32 × g_I} (h : b_X11_feed_L23 y1 y2 y3 y4 y5 K f x6 I = some r) (hk : ∀ (J : g_I), K J = some r → AW G mX11_feed d (fun v w => v = some (.int r.1) ∧ w = (sh, r.2, R, L, g)) (fun _ _ => False) 120 [some (.ref 101), none, none, none, none, none, none, none] [] (sh, J, R, L, g) 0 0) : AW G mX11_feed d (fun v w => v = some (.int r.1) ∧ w = (sh, r.2, R, L, g)) (fun _ _ => False) 23 [some (.ref 101), some (.int y1), some (.int y2), some (.int y3), some (.int y4), some (.int y5), some (.int x6), none] [] (sh, I, R, L, g) 0 0 := by
  have hG := hK.1
  induction f generalizing x6 I with
  | zero => rw [b_X11_feed_L23] at h; cases h
  | succ f ih =>
    rw [b_X11_feed_L23] at h
    obtain ⟨J76, eJ76, h⟩ := g_letE h
    have H76 : ∀ (z6 : Int32) (w0 : Int32) (I76j : g_I), J76 z6 w0 I76j = some r → AW G mX11_feed d (fun v w => v = some (.int r.1) ∧ w = (sh, r.2, R, L, g)) (fun _ _ => False) 76 [some (.ref 101), some (.int y1), some (.int y2), some (.int y3), some (.int y4), some (.int y5), some (.int z6), none] [.int w0] (sh, I76j, R, L, g) 0 0 := by
      intro z6 w0 I76j h
      rw [eJ76] at h
      refine AW.is [some (.ref 101), some (.int y1), some (.int y2), some (.int y3), some (.int y4), some (.int y5), some (.int z6), some (.int w0)] dX11_feed_76 (by decide) rfl rfl ?_
      refine AW.aload_n dX11_feed_78 rfl ?_
      refine AW.getR (c' := 117) (fX11_76 hG).r rfl (hm.1 0 _ rfl) (hm.2 (0, 16, 16) (by decide)) dX11_feed_79 ?_
      refine AW.aload_n dX11_feed_82 rfl ?_
      refine AW.getI (fX11_166 hG).r rfl (hm.1 0 _ rfl) dX11_feed_83 ?_
      refine AW.iload dX11_feed_86 rfl ?_
      refine AW.bipush 24 dX11_feed_88 (by decide) ?_
      refine AW.bipush 8 dX11_feed_90 (by decide) ?_
      refine AW.iload dX11_feed_92 rfl ?_
      refine AW.iconst 4 dX11_feed_94 (by decide) ?_
      refine AW.irem dX11_feed_95 (by decide) ?_
      refine AW.imul dX11_feed_96 ?_
      refine AW.isub dX11_feed_97 ?_
      refine AW.ishr dX11_feed_98 ?_
      refine AW.sipush 255 dX11_feed_99 (by decide) ?_
      refine AW.iand dX11_feed_102 ?_
      obtain ⟨hb, h⟩ := g_ifE h
      refine AW.iast (hm.1 16 _ rfl) (g_in_iff.mp hb) dX11_feed_103 ?_
      obtain ⟨I2, eI2, h⟩ := g_letE h
      refine AW.namIE eI2 ?_
      refine AW.aload_n dX11_feed_104 rfl ?_
      refine AW.dup dX11_feed_105 rfl ?_
      refine AW.getI (fX11_166 hG).r rfl (hm.1 0 _ rfl) dX11_feed_106 ?_
      refine AW.iconst 1 dX11_feed_109 (by decide) ?_
      refine AW.iadd dX11_feed_110 ?_
      refine AW.putI (fX11_166 hG) rfl (vp_nar_int _) rfl (hm.1 0 _ rfl) dX11_feed_111 ?_
      obtain ⟨I3, eI3, h⟩ := g_letE h
      refine AW.namIE eI3 ?_
      refine AW.incE 1 (by decide) [some (.ref 101), some (.int y1), some (.int y2), some (.int y3), some (.int y4), some (.int y5), some (.int (z6 + 1)), some (.int w0)] dX11_feed_114 rfl (by decide) rfl rfl ?_
      refine AW.goto 23 dX11_feed_117 (by decide) ?_
      refine AW.mask [7] [some (.ref 101), some (.int y1), some (.int y2), some (.int y3), some (.int y4), some (.int y5), some (.int (z6 + 1)), none] rfl ?_
      exact ih h
    refine AW.iload dX11_feed_23 rfl ?_
    refine AW.bipush 20 dX11_feed_25 (by decide) ?_
    refine AW.icmp_ge 120 dX11_feed_27 (by decide) (fun hc27 => ?_) (fun hc27 => ?_)
    · replace h := g_pos hc27 h
      refine AW.mask [1, 2, 3, 4, 5, 6] [some (.ref 101), none, none, none, none, none, none, none] rfl ?_
      exact hk _ h
    · replace h := g_neg hc27 h
      refine AW.iload dX11_feed_30 rfl ?_
      refine AW.iconst 4 dX11_feed_32 (by decide) ?_
      refine AW.icmp_ge 40 dX11_feed_33 (by decide) (fun hc33 => ?_) (fun hc33 => ?_)
      · replace h := g_pos hc33 h
        refine AW.iload dX11_feed_40 rfl ?_
        refine AW.bipush 8 dX11_feed_42 (by decide) ?_
        refine AW.icmp_ge 51 dX11_feed_44 (by decide) (fun hc44 => ?_) (fun hc44 => ?_)
        · replace h := g_pos hc44 h
          refine AW.iload dX11_feed_51 rfl ?_
          refine AW.bipush 12 dX11_feed_53 (by decide) ?_
          refine AW.icmp_ge 62 dX11_feed_55 (by decide) (fun hc55 => ?_) (fun hc55 => ?_)
          · replace h := g_pos hc55 h
            refine AW.iload dX11_feed_62 rfl ?_
            refine AW.bipush 16 dX11_feed_64 (by decide) ?_
            refine AW.icmp_ge 74 dX11_feed_66 (by decide) (fun hc66 => ?_) (fun hc66 => ?_)
            · replace h := g_pos hc66 h
              refine AW.iload dX11_feed_74 rfl ?_
              exact H76 _ _ _ h
            · replace h := g_neg hc66 h
              refine AW.iload dX11_feed_69 rfl ?_
              refine AW.goto 76 dX11_feed_71 (by decide) ?_
              exact H76 _ _ _ h
          · replace h := g_neg hc55 h
            refine AW.iload_n dX11_feed_58 rfl ?_
            refine AW.goto 76 dX11_feed_59 (by decide) ?_
            exact H76 _ _ _ h
        · replace h := g_neg hc44 h
          refine AW.iload_n dX11_feed_47 rfl ?_
          refine AW.goto 76 dX11_feed_48 (by decide) ?_
          exact H76 _ _ _ h
      · replace h := g_neg hc33 h
        refine AW.iload_n dX11_feed_36 rfl ?_
        refine AW.goto 76 dX11_feed_37 (by decide) ?_
        exact H76 _ _ _ h
set_option maxRecDepth 100000 in
set_option maxHeartbeats 4000000 in
theorem g_X11_feed {G : am_G} (hK : k_OK G) {d : Nat} (hd : 0 ≤ d) {sh : List (Nat ⊕ (Nat × Nat))} {I : g_I} {R : Nat → Nat → Option Nat} {L : Nat → Nat → Int64} {g : Nat} (hm : k_Mod sh R) {x1 : Int32} {x2 : Int32} {x3 : Int32} {x4 : Int32} {x5 : Int32} {r : Int32 × g_I} (h : b_X11_feed I x1 x2 x3 x4 x5 = some r) : AM G mX11_feed d [.ref 101, .int x1, .int x2, .int x3, .int x4, .int x5] (sh, I, R, L, g) (fun v w => v = some (.int r.1) ∧ w = (sh, r.2, R, L, g)) (fun _ _ => False) := by
  have hG := hK.1
  refine AM.of (n := 2) (by decide +kernel) (Nat.le_of_ble_eq_true rfl) ?_
  show AW G mX11_feed d (fun v w => v = some (.int r.1) ∧ w = (sh, r.2, R, L, g)) (fun _ _ => False) 0 [some (.ref 101), some (.int x1), some (.int x2), some (.int x3), some (.int x4), some (.int x5), none, none] [] (sh, I, R, L, g) 0 0
  unfold b_X11_feed at h
  refine AW.aload_n dX11_feed_0 rfl ?_
  refine AW.iconst 0 dX11_feed_1 (by decide) ?_
  refine AW.putI (fX11_159 hG) rfl (vp_nar_int _) rfl (hm.1 0 _ rfl) dX11_feed_2 ?_
  obtain ⟨I1, eI1, h⟩ := g_letE h
  refine AW.namIE eI1 ?_
  refine AW.aload_n dX11_feed_5 rfl ?_
  refine AW.getI (fX11_166 hG).r rfl (hm.1 0 _ rfl) dX11_feed_6 ?_
  refine AW.bipush 20 dX11_feed_9 (by decide) ?_
  refine AW.iadd dX11_feed_11 ?_
  refine AW.sipush 600 dX11_feed_12 (by decide) ?_
  refine AW.icmp_le 20 dX11_feed_15 (by decide) (fun hc15 => ?_) (fun hc15 => ?_)
  · replace h := g_pos hc15 h
    refine AW.iconst 0 dX11_feed_20 (by decide) ?_
    refine AW.is [some (.ref 101), some (.int x1), some (.int x2), some (.int x3), some (.int x4), some (.int x5), some (.int 0), none] dX11_feed_21 (by decide) rfl rfl ?_
    refine gL_X11_feed_23 hK hd hm h (fun I4 h => ?_)
    refine AW.aload_n dX11_feed_120 rfl ?_
    refine AW.getI (fX11_166 hG).r rfl (hm.1 0 _ rfl) dX11_feed_121 ?_
    exact AW.iret dX11_feed_124 rfl (by decide) (by decide) (by cases h; exact ⟨rfl, rfl⟩)
  · replace h := g_neg hc15 h
    refine AW.iconst (-1) dX11_feed_18 (by decide) ?_
    exact AW.iret dX11_feed_19 rfl (by decide) (by decide) (by cases h; exact ⟨rfl, rfl⟩)
theorem dX11_byteAt_0 : decode cX11_byteAt 0 = .ok (.iload_n 1, 1) := by decide +kernel
theorem dX11_byteAt_1 : decode cX11_byteAt 1 = .ok (.aload_n 0, 1) := by decide +kernel
theorem dX11_byteAt_2 : decode cX11_byteAt 2 = .ok (.getfield 169, 3) := by decide +kernel
theorem dX11_byteAt_5 : decode cX11_byteAt 5 = .ok (.if_icmp .ge 12, 3) := by decide +kernel
theorem dX11_byteAt_8 : decode cX11_byteAt 8 = .ok (.aload_n 0, 1) := by decide +kernel
theorem dX11_byteAt_9 : decode cX11_byteAt 9 = .ok (.getfield 76, 3) := by decide +kernel
theorem dX11_byteAt_12 : decode cX11_byteAt 12 = .ok (.iload_n 1, 1) := by decide +kernel
theorem dX11_byteAt_13 : decode cX11_byteAt 13 = .ok (.iaload, 1) := by decide +kernel
theorem dX11_byteAt_14 : decode cX11_byteAt 14 = .ok (.goto 4, 3) := by decide +kernel
theorem dX11_byteAt_17 : decode cX11_byteAt 17 = .ok (.iconst (-1), 1) := by decide +kernel
theorem dX11_byteAt_18 : decode cX11_byteAt 18 = .ok (.ireturn, 1) := by decide +kernel
def b_X11_byteAt (I : g_I) (x1 : Int32) : Option (Int32) :=
  if (I 101 19) ≤ x1 then some (-1) else if g_in x1 600 = true then some (I 117 x1.toNatClampNeg) else none
set_option maxRecDepth 100000 in
set_option maxHeartbeats 4000000 in
theorem g_X11_byteAt {G : am_G} (hK : k_OK G) {d : Nat} (hd : 0 ≤ d) {sh : List (Nat ⊕ (Nat × Nat))} {I : g_I} {R : Nat → Nat → Option Nat} {L : Nat → Nat → Int64} {g : Nat} (hm : k_Mod sh R) {x1 : Int32} {r : Int32} (h : b_X11_byteAt I x1 = some r) : AM G mX11_byteAt d [.ref 101, .int x1] (sh, I, R, L, g) (fun v w => v = some (.int r) ∧ w = (sh, I, R, L, g)) (fun _ _ => False) := by
  have hG := hK.1
  refine AM.of (n := 0) (by decide +kernel) (Nat.le_of_ble_eq_true rfl) ?_
  show AW G mX11_byteAt d (fun v w => v = some (.int r) ∧ w = (sh, I, R, L, g)) (fun _ _ => False) 0 [some (.ref 101), some (.int x1)] [] (sh, I, R, L, g) 0 0
  unfold b_X11_byteAt at h
  refine AW.iload_n dX11_byteAt_0 rfl ?_
  refine AW.aload_n dX11_byteAt_1 rfl ?_
  refine AW.getI (fX11_169 hG).r rfl (hm.1 0 _ rfl) dX11_byteAt_2 ?_
  refine AW.icmp_ge 17 dX11_byteAt_5 (by decide) (fun hc5 => ?_) (fun hc5 => ?_)
  · replace h := g_pos hc5 h
    refine AW.iconst (-1) dX11_byteAt_17 (by decide) ?_
    exact AW.iret dX11_byteAt_18 rfl (by decide) (by decide) (by cases h; exact ⟨rfl, rfl⟩)
  · replace h := g_neg hc5 h
    refine AW.aload_n dX11_byteAt_8 rfl ?_
    refine AW.getR (c' := 117) (fX11_76 hG).r rfl (hm.1 0 _ rfl) (hm.2 (0, 16, 16) (by decide)) dX11_byteAt_9 ?_
    refine AW.iload_n dX11_byteAt_12 rfl ?_
    obtain ⟨hb, h⟩ := g_ifE h
    refine AW.iald (hm.1 16 _ rfl) (g_in_iff.mp hb) dX11_byteAt_13 ?_
    refine AW.goto 18 dX11_byteAt_14 (by decide) ?_
    exact AW.iret dX11_byteAt_18 rfl (by decide) (by decide) (by cases h; exact ⟨rfl, rfl⟩)
theorem dX11_isLetter_0 : decode cX11_isLetter 0 = .ok (.iload_n 0, 1) := by decide +kernel
theorem dX11_isLetter_1 : decode cX11_isLetter 1 = .ok (.bipush 97, 2) := by decide +kernel
theorem dX11_isLetter_3 : decode cX11_isLetter 3 = .ok (.if_icmp .lt 13, 3) := by decide +kernel
theorem dX11_isLetter_6 : decode cX11_isLetter 6 = .ok (.iload_n 0, 1) := by decide +kernel
theorem dX11_isLetter_7 : decode cX11_isLetter 7 = .ok (.bipush 122, 2) := by decide +kernel
theorem dX11_isLetter_9 : decode cX11_isLetter 9 = .ok (.if_icmp .gt 7, 3) := by decide +kernel
theorem dX11_isLetter_12 : decode cX11_isLetter 12 = .ok (.iconst 1, 1) := by decide +kernel
theorem dX11_isLetter_13 : decode cX11_isLetter 13 = .ok (.goto 4, 3) := by decide +kernel
theorem dX11_isLetter_16 : decode cX11_isLetter 16 = .ok (.iconst 0, 1) := by decide +kernel
theorem dX11_isLetter_17 : decode cX11_isLetter 17 = .ok (.ireturn, 1) := by decide +kernel
def b_X11_isLetter (x0 : Int32) : Bool :=
  if x0 < 97 then false else if 122 < x0 then false else true
set_option maxRecDepth 100000 in
set_option maxHeartbeats 4000000 in
theorem g_X11_isLetter {G : am_G} (hK : k_OK G) {d : Nat} (hd : 0 ≤ d) {sh : List (Nat ⊕ (Nat × Nat))} {I : g_I} {R : Nat → Nat → Option Nat} {L : Nat → Nat → Int64} {g : Nat} {x0 : Int32} : AM G mX11_isLetter d [.int x0] (sh, I, R, L, g) (fun v w => v = some (.int (kb (b_X11_isLetter x0))) ∧ w = (sh, I, R, L, g)) (fun _ _ => False) := by
  have hG := hK.1
  refine AM.of (n := 0) (by decide +kernel) (Nat.le_of_ble_eq_true rfl) ?_
  show AW G mX11_isLetter d (fun v w => v = some (.int (kb (b_X11_isLetter x0))) ∧ w = (sh, I, R, L, g)) (fun _ _ => False) 0 [some (.int x0)] [] (sh, I, R, L, g) 0 0
  unfold b_X11_isLetter
  refine AW.iload_n dX11_isLetter_0 rfl ?_
  refine AW.bipush 97 dX11_isLetter_1 (by decide) ?_
  refine AW.icmp_lt 16 dX11_isLetter_3 (by decide) (fun hc3 => ?_) (fun hc3 => ?_)
  · rw [if_pos hc3]
    refine AW.iconst 0 dX11_isLetter_16 (by decide) ?_
    exact AW.zret dX11_isLetter_17 rfl (by decide) (by decide) (by decide) ⟨rfl, rfl⟩
  · rw [if_neg hc3]
    refine AW.iload_n dX11_isLetter_6 rfl ?_
    refine AW.bipush 122 dX11_isLetter_7 (by decide) ?_
    refine AW.icmp_gt 16 dX11_isLetter_9 (by decide) (fun hc9 => ?_) (fun hc9 => ?_)
    · rw [if_pos hc9]
      refine AW.iconst 0 dX11_isLetter_16 (by decide) ?_
      exact AW.zret dX11_isLetter_17 rfl (by decide) (by decide) (by decide) ⟨rfl, rfl⟩
    · rw [if_neg hc9]
      refine AW.iconst 1 dX11_isLetter_12 (by decide) ?_
      refine AW.goto 17 dX11_isLetter_13 (by decide) ?_
      exact AW.zret dX11_isLetter_17 rfl (by decide) (by decide) (by decide) ⟨rfl, rfl⟩
theorem dX11_isDigit_0 : decode cX11_isDigit 0 = .ok (.iload_n 0, 1) := by decide +kernel
theorem dX11_isDigit_1 : decode cX11_isDigit 1 = .ok (.bipush 48, 2) := by decide +kernel
theorem dX11_isDigit_3 : decode cX11_isDigit 3 = .ok (.if_icmp .lt 13, 3) := by decide +kernel
theorem dX11_isDigit_6 : decode cX11_isDigit 6 = .ok (.iload_n 0, 1) := by decide +kernel
theorem dX11_isDigit_7 : decode cX11_isDigit 7 = .ok (.bipush 57, 2) := by decide +kernel
theorem dX11_isDigit_9 : decode cX11_isDigit 9 = .ok (.if_icmp .gt 7, 3) := by decide +kernel
theorem dX11_isDigit_12 : decode cX11_isDigit 12 = .ok (.iconst 1, 1) := by decide +kernel
theorem dX11_isDigit_13 : decode cX11_isDigit 13 = .ok (.goto 4, 3) := by decide +kernel
theorem dX11_isDigit_16 : decode cX11_isDigit 16 = .ok (.iconst 0, 1) := by decide +kernel
theorem dX11_isDigit_17 : decode cX11_isDigit 17 = .ok (.ireturn, 1) := by decide +kernel
def b_X11_isDigit (x0 : Int32) : Bool :=
  if x0 < 48 then false else if 57 < x0 then false else true
set_option maxRecDepth 100000 in
set_option maxHeartbeats 4000000 in
theorem g_X11_isDigit {G : am_G} (hK : k_OK G) {d : Nat} (hd : 0 ≤ d) {sh : List (Nat ⊕ (Nat × Nat))} {I : g_I} {R : Nat → Nat → Option Nat} {L : Nat → Nat → Int64} {g : Nat} {x0 : Int32} : AM G mX11_isDigit d [.int x0] (sh, I, R, L, g) (fun v w => v = some (.int (kb (b_X11_isDigit x0))) ∧ w = (sh, I, R, L, g)) (fun _ _ => False) := by
  have hG := hK.1
  refine AM.of (n := 0) (by decide +kernel) (Nat.le_of_ble_eq_true rfl) ?_
  show AW G mX11_isDigit d (fun v w => v = some (.int (kb (b_X11_isDigit x0))) ∧ w = (sh, I, R, L, g)) (fun _ _ => False) 0 [some (.int x0)] [] (sh, I, R, L, g) 0 0
  unfold b_X11_isDigit
  refine AW.iload_n dX11_isDigit_0 rfl ?_
  refine AW.bipush 48 dX11_isDigit_1 (by decide) ?_
  refine AW.icmp_lt 16 dX11_isDigit_3 (by decide) (fun hc3 => ?_) (fun hc3 => ?_)
  · rw [if_pos hc3]
    refine AW.iconst 0 dX11_isDigit_16 (by decide) ?_
    exact AW.zret dX11_isDigit_17 rfl (by decide) (by decide) (by decide) ⟨rfl, rfl⟩
  · rw [if_neg hc3]
    refine AW.iload_n dX11_isDigit_6 rfl ?_
    refine AW.bipush 57 dX11_isDigit_7 (by decide) ?_
    refine AW.icmp_gt 16 dX11_isDigit_9 (by decide) (fun hc9 => ?_) (fun hc9 => ?_)
    · rw [if_pos hc9]
      refine AW.iconst 0 dX11_isDigit_16 (by decide) ?_
      exact AW.zret dX11_isDigit_17 rfl (by decide) (by decide) (by decide) ⟨rfl, rfl⟩
    · rw [if_neg hc9]
      refine AW.iconst 1 dX11_isDigit_12 (by decide) ?_
      refine AW.goto 17 dX11_isDigit_13 (by decide) ?_
      exact AW.zret dX11_isDigit_17 rfl (by decide) (by decide) (by decide) ⟨rfl, rfl⟩
theorem dX11_isMark_0 : decode cX11_isMark 0 = .ok (.iload_n 0, 1) := by decide +kernel
theorem dX11_isMark_1 : decode cX11_isMark 1 = .ok (.bipush 59, 2) := by decide +kernel
theorem dX11_isMark_3 : decode cX11_isMark 3 = .ok (.if_icmp .eq 51, 3) := by decide +kernel
theorem dX11_isMark_6 : decode cX11_isMark 6 = .ok (.iload_n 0, 1) := by decide +kernel
theorem dX11_isMark_7 : decode cX11_isMark 7 = .ok (.bipush 40, 2) := by decide +kernel
theorem dX11_isMark_9 : decode cX11_isMark 9 = .ok (.if_icmp .eq 45, 3) := by decide +kernel
theorem dX11_isMark_12 : decode cX11_isMark 12 = .ok (.iload_n 0, 1) := by decide +kernel
theorem dX11_isMark_13 : decode cX11_isMark 13 = .ok (.bipush 41, 2) := by decide +kernel
theorem dX11_isMark_15 : decode cX11_isMark 15 = .ok (.if_icmp .eq 39, 3) := by decide +kernel
theorem dX11_isMark_18 : decode cX11_isMark 18 = .ok (.iload_n 0, 1) := by decide +kernel
theorem dX11_isMark_19 : decode cX11_isMark 19 = .ok (.bipush 43, 2) := by decide +kernel
theorem dX11_isMark_21 : decode cX11_isMark 21 = .ok (.if_icmp .eq 33, 3) := by decide +kernel
theorem dX11_isMark_24 : decode cX11_isMark 24 = .ok (.iload_n 0, 1) := by decide +kernel
theorem dX11_isMark_25 : decode cX11_isMark 25 = .ok (.bipush 45, 2) := by decide +kernel
theorem dX11_isMark_27 : decode cX11_isMark 27 = .ok (.if_icmp .eq 27, 3) := by decide +kernel
theorem dX11_isMark_30 : decode cX11_isMark 30 = .ok (.iload_n 0, 1) := by decide +kernel
theorem dX11_isMark_31 : decode cX11_isMark 31 = .ok (.bipush 42, 2) := by decide +kernel
theorem dX11_isMark_33 : decode cX11_isMark 33 = .ok (.if_icmp .eq 21, 3) := by decide +kernel
theorem dX11_isMark_36 : decode cX11_isMark 36 = .ok (.iload_n 0, 1) := by decide +kernel
theorem dX11_isMark_37 : decode cX11_isMark 37 = .ok (.bipush 47, 2) := by decide +kernel
theorem dX11_isMark_39 : decode cX11_isMark 39 = .ok (.if_icmp .eq 15, 3) := by decide +kernel
theorem dX11_isMark_42 : decode cX11_isMark 42 = .ok (.iload_n 0, 1) := by decide +kernel
theorem dX11_isMark_43 : decode cX11_isMark 43 = .ok (.bipush 60, 2) := by decide +kernel
theorem dX11_isMark_45 : decode cX11_isMark 45 = .ok (.if_icmp .eq 9, 3) := by decide +kernel
theorem dX11_isMark_48 : decode cX11_isMark 48 = .ok (.iload_n 0, 1) := by decide +kernel
theorem dX11_isMark_49 : decode cX11_isMark 49 = .ok (.bipush 61, 2) := by decide +kernel
theorem dX11_isMark_51 : decode cX11_isMark 51 = .ok (.if_icmp .ne 7, 3) := by decide +kernel
theorem dX11_isMark_54 : decode cX11_isMark 54 = .ok (.iconst 1, 1) := by decide +kernel
theorem dX11_isMark_55 : decode cX11_isMark 55 = .ok (.goto 4, 3) := by decide +kernel
theorem dX11_isMark_58 : decode cX11_isMark 58 = .ok (.iconst 0, 1) := by decide +kernel
theorem dX11_isMark_59 : decode cX11_isMark 59 = .ok (.ireturn, 1) := by decide +kernel
def b_X11_isMark (x0 : Int32) : Bool :=
  if x0 = 59 then true else if x0 = 40 then true else if x0 = 41 then true else if x0 = 43 then true else if x0 = 45 then true else if x0 = 42 then true else if x0 = 47 then true else if x0 = 60 then true else if x0 = 61 then true else false
set_option maxRecDepth 100000 in
set_option maxHeartbeats 4000000 in
theorem g_X11_isMark {G : am_G} (hK : k_OK G) {d : Nat} (hd : 0 ≤ d) {sh : List (Nat ⊕ (Nat × Nat))} {I : g_I} {R : Nat → Nat → Option Nat} {L : Nat → Nat → Int64} {g : Nat} {x0 : Int32} : AM G mX11_isMark d [.int x0] (sh, I, R, L, g) (fun v w => v = some (.int (kb (b_X11_isMark x0))) ∧ w = (sh, I, R, L, g)) (fun _ _ => False) := by
  have hG := hK.1
  refine AM.of (n := 0) (by decide +kernel) (Nat.le_of_ble_eq_true rfl) ?_
  show AW G mX11_isMark d (fun v w => v = some (.int (kb (b_X11_isMark x0))) ∧ w = (sh, I, R, L, g)) (fun _ _ => False) 0 [some (.int x0)] [] (sh, I, R, L, g) 0 0
  unfold b_X11_isMark
  refine AW.iload_n dX11_isMark_0 rfl ?_
  refine AW.bipush 59 dX11_isMark_1 (by decide) ?_
  refine AW.icmp_eq 54 dX11_isMark_3 (by decide) (fun hc3 => ?_) (fun hc3 => ?_)
  · rw [if_pos hc3]
    refine AW.iconst 1 dX11_isMark_54 (by decide) ?_
    refine AW.goto 59 dX11_isMark_55 (by decide) ?_
    exact AW.zret dX11_isMark_59 rfl (by decide) (by decide) (by decide) ⟨rfl, rfl⟩
  · rw [if_neg hc3]
    refine AW.iload_n dX11_isMark_6 rfl ?_
    refine AW.bipush 40 dX11_isMark_7 (by decide) ?_
    refine AW.icmp_eq 54 dX11_isMark_9 (by decide) (fun hc9 => ?_) (fun hc9 => ?_)
    · rw [if_pos hc9]
      refine AW.iconst 1 dX11_isMark_54 (by decide) ?_
      refine AW.goto 59 dX11_isMark_55 (by decide) ?_
      exact AW.zret dX11_isMark_59 rfl (by decide) (by decide) (by decide) ⟨rfl, rfl⟩
    · rw [if_neg hc9]
      refine AW.iload_n dX11_isMark_12 rfl ?_
      refine AW.bipush 41 dX11_isMark_13 (by decide) ?_
      refine AW.icmp_eq 54 dX11_isMark_15 (by decide) (fun hc15 => ?_) (fun hc15 => ?_)
      · rw [if_pos hc15]
        refine AW.iconst 1 dX11_isMark_54 (by decide) ?_
        refine AW.goto 59 dX11_isMark_55 (by decide) ?_
        exact AW.zret dX11_isMark_59 rfl (by decide) (by decide) (by decide) ⟨rfl, rfl⟩
      · rw [if_neg hc15]
        refine AW.iload_n dX11_isMark_18 rfl ?_
        refine AW.bipush 43 dX11_isMark_19 (by decide) ?_
        refine AW.icmp_eq 54 dX11_isMark_21 (by decide) (fun hc21 => ?_) (fun hc21 => ?_)
        · rw [if_pos hc21]
          refine AW.iconst 1 dX11_isMark_54 (by decide) ?_
          refine AW.goto 59 dX11_isMark_55 (by decide) ?_
          exact AW.zret dX11_isMark_59 rfl (by decide) (by decide) (by decide) ⟨rfl, rfl⟩
        · rw [if_neg hc21]
          refine AW.iload_n dX11_isMark_24 rfl ?_
          refine AW.bipush 45 dX11_isMark_25 (by decide) ?_
          refine AW.icmp_eq 54 dX11_isMark_27 (by decide) (fun hc27 => ?_) (fun hc27 => ?_)
          · rw [if_pos hc27]
            refine AW.iconst 1 dX11_isMark_54 (by decide) ?_
            refine AW.goto 59 dX11_isMark_55 (by decide) ?_
            exact AW.zret dX11_isMark_59 rfl (by decide) (by decide) (by decide) ⟨rfl, rfl⟩
          · rw [if_neg hc27]
            refine AW.iload_n dX11_isMark_30 rfl ?_
            refine AW.bipush 42 dX11_isMark_31 (by decide) ?_
            refine AW.icmp_eq 54 dX11_isMark_33 (by decide) (fun hc33 => ?_) (fun hc33 => ?_)
            · rw [if_pos hc33]
              refine AW.iconst 1 dX11_isMark_54 (by decide) ?_
              refine AW.goto 59 dX11_isMark_55 (by decide) ?_
              exact AW.zret dX11_isMark_59 rfl (by decide) (by decide) (by decide) ⟨rfl, rfl⟩
            · rw [if_neg hc33]
              refine AW.iload_n dX11_isMark_36 rfl ?_
              refine AW.bipush 47 dX11_isMark_37 (by decide) ?_
              refine AW.icmp_eq 54 dX11_isMark_39 (by decide) (fun hc39 => ?_) (fun hc39 => ?_)
              · rw [if_pos hc39]
                refine AW.iconst 1 dX11_isMark_54 (by decide) ?_
                refine AW.goto 59 dX11_isMark_55 (by decide) ?_
                exact AW.zret dX11_isMark_59 rfl (by decide) (by decide) (by decide) ⟨rfl, rfl⟩
              · rw [if_neg hc39]
                refine AW.iload_n dX11_isMark_42 rfl ?_
                refine AW.bipush 60 dX11_isMark_43 (by decide) ?_
                refine AW.icmp_eq 54 dX11_isMark_45 (by decide) (fun hc45 => ?_) (fun hc45 => ?_)
                · rw [if_pos hc45]
                  refine AW.iconst 1 dX11_isMark_54 (by decide) ?_
                  refine AW.goto 59 dX11_isMark_55 (by decide) ?_
                  exact AW.zret dX11_isMark_59 rfl (by decide) (by decide) (by decide) ⟨rfl, rfl⟩
                · rw [if_neg hc45]
                  refine AW.iload_n dX11_isMark_48 rfl ?_
                  refine AW.bipush 61 dX11_isMark_49 (by decide) ?_
                  refine AW.icmp_ne 58 dX11_isMark_51 (by decide) (fun hc51 => ?_) (fun hc51 => ?_)
                  · rw [if_neg hc51]
                    refine AW.iconst 0 dX11_isMark_58 (by decide) ?_
                    exact AW.zret dX11_isMark_59 rfl (by decide) (by decide) (by decide) ⟨rfl, rfl⟩
                  · rw [if_pos hc51]
                    refine AW.iconst 1 dX11_isMark_54 (by decide) ?_
                    refine AW.goto 59 dX11_isMark_55 (by decide) ?_
                    exact AW.zret dX11_isMark_59 rfl (by decide) (by decide) (by decide) ⟨rfl, rfl⟩
theorem dX11_stepOn_0 : decode cX11_stepOn 0 = .ok (.aload_n 0, 1) := by decide +kernel
theorem dX11_stepOn_1 : decode cX11_stepOn 1 = .ok (.aload_n 0, 1) := by decide +kernel
theorem dX11_stepOn_2 : decode cX11_stepOn 2 = .ok (.getfield 171, 3) := by decide +kernel
theorem dX11_stepOn_5 : decode cX11_stepOn 5 = .ok (.invokevirtual 174, 3) := by decide +kernel
theorem dX11_stepOn_8 : decode cX11_stepOn 8 = .ok (.bipush 32, 2) := by decide +kernel
theorem dX11_stepOn_10 : decode cX11_stepOn 10 = .ok (.if_icmp .eq 16, 3) := by decide +kernel
theorem dX11_stepOn_13 : decode cX11_stepOn 13 = .ok (.aload_n 0, 1) := by decide +kernel
theorem dX11_stepOn_14 : decode cX11_stepOn 14 = .ok (.aload_n 0, 1) := by decide +kernel
theorem dX11_stepOn_15 : decode cX11_stepOn 15 = .ok (.getfield 171, 3) := by decide +kernel
theorem dX11_stepOn_18 : decode cX11_stepOn 18 = .ok (.invokevirtual 174, 3) := by decide +kernel
theorem dX11_stepOn_21 : decode cX11_stepOn 21 = .ok (.bipush 10, 2) := by decide +kernel
theorem dX11_stepOn_23 : decode cX11_stepOn 23 = .ok (.if_icmp .ne 16, 3) := by decide +kernel
theorem dX11_stepOn_26 : decode cX11_stepOn 26 = .ok (.aload_n 0, 1) := by decide +kernel
theorem dX11_stepOn_27 : decode cX11_stepOn 27 = .ok (.dup, 1) := by decide +kernel
theorem dX11_stepOn_28 : decode cX11_stepOn 28 = .ok (.getfield 171, 3) := by decide +kernel
theorem dX11_stepOn_31 : decode cX11_stepOn 31 = .ok (.iconst 1, 1) := by decide +kernel
theorem dX11_stepOn_32 : decode cX11_stepOn 32 = .ok (.iadd, 1) := by decide +kernel
theorem dX11_stepOn_33 : decode cX11_stepOn 33 = .ok (.putfield 171, 3) := by decide +kernel
theorem dX11_stepOn_36 : decode cX11_stepOn 36 = .ok (.goto (-36), 3) := by decide +kernel
theorem dX11_stepOn_39 : decode cX11_stepOn 39 = .ok (.aload_n 0, 1) := by decide +kernel
theorem dX11_stepOn_40 : decode cX11_stepOn 40 = .ok (.aload_n 0, 1) := by decide +kernel
theorem dX11_stepOn_41 : decode cX11_stepOn 41 = .ok (.getfield 171, 3) := by decide +kernel
theorem dX11_stepOn_44 : decode cX11_stepOn 44 = .ok (.putfield 178, 3) := by decide +kernel
theorem dX11_stepOn_47 : decode cX11_stepOn 47 = .ok (.aload_n 0, 1) := by decide +kernel
theorem dX11_stepOn_48 : decode cX11_stepOn 48 = .ok (.aload_n 0, 1) := by decide +kernel
theorem dX11_stepOn_49 : decode cX11_stepOn 49 = .ok (.getfield 171, 3) := by decide +kernel
theorem dX11_stepOn_52 : decode cX11_stepOn 52 = .ok (.invokevirtual 174, 3) := by decide +kernel
theorem dX11_stepOn_55 : decode cX11_stepOn 55 = .ok (.istore_n 1, 1) := by decide +kernel
theorem dX11_stepOn_56 : decode cX11_stepOn 56 = .ok (.iload_n 1, 1) := by decide +kernel
theorem dX11_stepOn_57 : decode cX11_stepOn 57 = .ok (.iconst (-1), 1) := by decide +kernel
theorem dX11_stepOn_58 : decode cX11_stepOn 58 = .ok (.if_icmp .ne 11, 3) := by decide +kernel
theorem dX11_stepOn_61 : decode cX11_stepOn 61 = .ok (.aload_n 0, 1) := by decide +kernel
theorem dX11_stepOn_62 : decode cX11_stepOn 62 = .ok (.iconst 0, 1) := by decide +kernel
theorem dX11_stepOn_63 : decode cX11_stepOn 63 = .ok (.putfield 181, 3) := by decide +kernel
theorem dX11_stepOn_66 : decode cX11_stepOn 66 = .ok (.goto 146, 3) := by decide +kernel
theorem dX11_stepOn_69 : decode cX11_stepOn 69 = .ok (.iload_n 1, 1) := by decide +kernel
theorem dX11_stepOn_70 : decode cX11_stepOn 70 = .ok (.invokestatic 184, 3) := by decide +kernel
theorem dX11_stepOn_73 : decode cX11_stepOn 73 = .ok (.ifCond .eq 38, 3) := by decide +kernel
theorem dX11_stepOn_76 : decode cX11_stepOn 76 = .ok (.aload_n 0, 1) := by decide +kernel
theorem dX11_stepOn_77 : decode cX11_stepOn 77 = .ok (.aload_n 0, 1) := by decide +kernel
theorem dX11_stepOn_78 : decode cX11_stepOn 78 = .ok (.getfield 171, 3) := by decide +kernel
theorem dX11_stepOn_81 : decode cX11_stepOn 81 = .ok (.invokevirtual 174, 3) := by decide +kernel
theorem dX11_stepOn_84 : decode cX11_stepOn 84 = .ok (.invokestatic 184, 3) := by decide +kernel
theorem dX11_stepOn_87 : decode cX11_stepOn 87 = .ok (.ifCond .eq 16, 3) := by decide +kernel
theorem dX11_stepOn_90 : decode cX11_stepOn 90 = .ok (.aload_n 0, 1) := by decide +kernel
theorem dX11_stepOn_91 : decode cX11_stepOn 91 = .ok (.dup, 1) := by decide +kernel
theorem dX11_stepOn_92 : decode cX11_stepOn 92 = .ok (.getfield 171, 3) := by decide +kernel
theorem dX11_stepOn_95 : decode cX11_stepOn 95 = .ok (.iconst 1, 1) := by decide +kernel
theorem dX11_stepOn_96 : decode cX11_stepOn 96 = .ok (.iadd, 1) := by decide +kernel
theorem dX11_stepOn_97 : decode cX11_stepOn 97 = .ok (.putfield 171, 3) := by decide +kernel
theorem dX11_stepOn_100 : decode cX11_stepOn 100 = .ok (.goto (-24), 3) := by decide +kernel
theorem dX11_stepOn_103 : decode cX11_stepOn 103 = .ok (.aload_n 0, 1) := by decide +kernel
theorem dX11_stepOn_104 : decode cX11_stepOn 104 = .ok (.iconst 1, 1) := by decide +kernel
theorem dX11_stepOn_105 : decode cX11_stepOn 105 = .ok (.putfield 181, 3) := by decide +kernel
theorem dX11_stepOn_108 : decode cX11_stepOn 108 = .ok (.goto 104, 3) := by decide +kernel
theorem dX11_stepOn_111 : decode cX11_stepOn 111 = .ok (.iload_n 1, 1) := by decide +kernel
theorem dX11_stepOn_112 : decode cX11_stepOn 112 = .ok (.invokestatic 188, 3) := by decide +kernel
theorem dX11_stepOn_115 : decode cX11_stepOn 115 = .ok (.ifCond .eq 71, 3) := by decide +kernel
theorem dX11_stepOn_118 : decode cX11_stepOn 118 = .ok (.aload_n 0, 1) := by decide +kernel
theorem dX11_stepOn_119 : decode cX11_stepOn 119 = .ok (.iconst 0, 1) := by decide +kernel
theorem dX11_stepOn_120 : decode cX11_stepOn 120 = .ok (.putfield 191, 3) := by decide +kernel
theorem dX11_stepOn_123 : decode cX11_stepOn 123 = .ok (.aload_n 0, 1) := by decide +kernel
theorem dX11_stepOn_124 : decode cX11_stepOn 124 = .ok (.aload_n 0, 1) := by decide +kernel
theorem dX11_stepOn_125 : decode cX11_stepOn 125 = .ok (.getfield 171, 3) := by decide +kernel
theorem dX11_stepOn_128 : decode cX11_stepOn 128 = .ok (.invokevirtual 174, 3) := by decide +kernel
theorem dX11_stepOn_131 : decode cX11_stepOn 131 = .ok (.invokestatic 188, 3) := by decide +kernel
theorem dX11_stepOn_134 : decode cX11_stepOn 134 = .ok (.ifCond .eq 44, 3) := by decide +kernel
theorem dX11_stepOn_137 : decode cX11_stepOn 137 = .ok (.aload_n 0, 1) := by decide +kernel
theorem dX11_stepOn_138 : decode cX11_stepOn 138 = .ok (.ldc 194, 2) := by decide +kernel
theorem dX11_stepOn_140 : decode cX11_stepOn 140 = .ok (.bipush 10, 2) := by decide +kernel
theorem dX11_stepOn_142 : decode cX11_stepOn 142 = .ok (.aload_n 0, 1) := by decide +kernel
theorem dX11_stepOn_143 : decode cX11_stepOn 143 = .ok (.getfield 191, 3) := by decide +kernel
theorem dX11_stepOn_146 : decode cX11_stepOn 146 = .ok (.imul, 1) := by decide +kernel
theorem dX11_stepOn_147 : decode cX11_stepOn 147 = .ok (.aload_n 0, 1) := by decide +kernel
theorem dX11_stepOn_148 : decode cX11_stepOn 148 = .ok (.aload_n 0, 1) := by decide +kernel
theorem dX11_stepOn_149 : decode cX11_stepOn 149 = .ok (.getfield 171, 3) := by decide +kernel
theorem dX11_stepOn_152 : decode cX11_stepOn 152 = .ok (.invokevirtual 174, 3) := by decide +kernel
theorem dX11_stepOn_155 : decode cX11_stepOn 155 = .ok (.iadd, 1) := by decide +kernel
theorem dX11_stepOn_156 : decode cX11_stepOn 156 = .ok (.bipush 48, 2) := by decide +kernel
theorem dX11_stepOn_158 : decode cX11_stepOn 158 = .ok (.isub, 1) := by decide +kernel
theorem dX11_stepOn_159 : decode cX11_stepOn 159 = .ok (.invokestatic 195, 3) := by decide +kernel
theorem dX11_stepOn_162 : decode cX11_stepOn 162 = .ok (.putfield 191, 3) := by decide +kernel
theorem dX11_stepOn_165 : decode cX11_stepOn 165 = .ok (.aload_n 0, 1) := by decide +kernel
theorem dX11_stepOn_166 : decode cX11_stepOn 166 = .ok (.dup, 1) := by decide +kernel
theorem dX11_stepOn_167 : decode cX11_stepOn 167 = .ok (.getfield 171, 3) := by decide +kernel
theorem dX11_stepOn_170 : decode cX11_stepOn 170 = .ok (.iconst 1, 1) := by decide +kernel
theorem dX11_stepOn_171 : decode cX11_stepOn 171 = .ok (.iadd, 1) := by decide +kernel
theorem dX11_stepOn_172 : decode cX11_stepOn 172 = .ok (.putfield 171, 3) := by decide +kernel
theorem dX11_stepOn_175 : decode cX11_stepOn 175 = .ok (.goto (-52), 3) := by decide +kernel
theorem dX11_stepOn_178 : decode cX11_stepOn 178 = .ok (.aload_n 0, 1) := by decide +kernel
theorem dX11_stepOn_179 : decode cX11_stepOn 179 = .ok (.iconst 2, 1) := by decide +kernel
theorem dX11_stepOn_180 : decode cX11_stepOn 180 = .ok (.putfield 181, 3) := by decide +kernel
theorem dX11_stepOn_183 : decode cX11_stepOn 183 = .ok (.goto 29, 3) := by decide +kernel
theorem dX11_stepOn_186 : decode cX11_stepOn 186 = .ok (.aload_n 0, 1) := by decide +kernel
theorem dX11_stepOn_187 : decode cX11_stepOn 187 = .ok (.dup, 1) := by decide +kernel
theorem dX11_stepOn_188 : decode cX11_stepOn 188 = .ok (.getfield 171, 3) := by decide +kernel
theorem dX11_stepOn_191 : decode cX11_stepOn 191 = .ok (.iconst 1, 1) := by decide +kernel
theorem dX11_stepOn_192 : decode cX11_stepOn 192 = .ok (.iadd, 1) := by decide +kernel
theorem dX11_stepOn_193 : decode cX11_stepOn 193 = .ok (.putfield 171, 3) := by decide +kernel
theorem dX11_stepOn_196 : decode cX11_stepOn 196 = .ok (.aload_n 0, 1) := by decide +kernel
theorem dX11_stepOn_197 : decode cX11_stepOn 197 = .ok (.iload_n 1, 1) := by decide +kernel
theorem dX11_stepOn_198 : decode cX11_stepOn 198 = .ok (.invokestatic 201, 3) := by decide +kernel
theorem dX11_stepOn_201 : decode cX11_stepOn 201 = .ok (.ifCond .eq 7, 3) := by decide +kernel
theorem dX11_stepOn_204 : decode cX11_stepOn 204 = .ok (.iconst 3, 1) := by decide +kernel
theorem dX11_stepOn_205 : decode cX11_stepOn 205 = .ok (.goto 4, 3) := by decide +kernel
theorem dX11_stepOn_208 : decode cX11_stepOn 208 = .ok (.iconst 4, 1) := by decide +kernel
theorem dX11_stepOn_209 : decode cX11_stepOn 209 = .ok (.putfield 181, 3) := by decide +kernel
theorem dX11_stepOn_212 : decode cX11_stepOn 212 = .ok (.aload_n 0, 1) := by decide +kernel
theorem dX11_stepOn_213 : decode cX11_stepOn 213 = .ok (.aload_n 0, 1) := by decide +kernel
theorem dX11_stepOn_214 : decode cX11_stepOn 214 = .ok (.getfield 171, 3) := by decide +kernel
theorem dX11_stepOn_217 : decode cX11_stepOn 217 = .ok (.putfield 204, 3) := by decide +kernel
theorem dX11_stepOn_220 : decode cX11_stepOn 220 = .ok (.return_, 1) := by decide +kernel
def b_X11_stepOn_L0 (K : g_I → Option (g_I)) : Nat → g_I → Option (g_I)
  | 0, _ => none
  | f + 1, I => g_bind (b_X11_byteAt I (I 101 18)) fun a2 => if a2 = 32 then g_let (am_up I 101 18 ((I 101 18) + 1)) fun I5 => b_X11_stepOn_L0 K f I5 else g_bind (b_X11_byteAt I (I 101 18)) fun a6 => if a6 = 10 then g_let (am_up I 101 18 ((I 101 18) + 1)) fun I9 => b_X11_stepOn_L0 K f I9 else K I
def b_X11_stepOn_L123 (K : g_I → Option (g_I)) : Nat → g_I → Option (g_I)
  | 0, _ => none
  | f + 1, I => g_bind (b_X11_byteAt I (I 101 18)) fun a19 => if b_X11_isDigit a19 = true then g_bind (b_X11_byteAt I (I 101 18)) fun a22 => g_let (am_up I 101 21 (g_min 100000 ((((10 : Int32) * (I 101 21)) + a22) - 48))) fun I25 => g_let (am_up I25 101 18 ((I25 101 18) + 1)) fun I26 => b_X11_stepOn_L123 K f I26 else K I
def b_X11_stepOn_L76 (K : g_I → Option (g_I)) : Nat → g_I → Option (g_I)
  | 0, _ => none
  | f + 1, I => g_bind (b_X11_byteAt I (I 101 18)) fun a29 => if b_X11_isLetter a29 = true then g_let (am_up I 101 18 ((I 101 18) + 1)) fun I32 => b_X11_stepOn_L76 K f I32 else K I
def b_X11_stepOn (I : g_I) : Option (g_I) :=
  g_let (fun (I212j : g_I) => g_let (am_up I212j 101 23 (I212j 101 18)) fun I1 => some I1) fun J212 => b_X11_stepOn_L0 (fun (I10 : g_I) => g_let (am_up I10 101 22 (I10 101 18)) fun I11 => g_bind (b_X11_byteAt I11 (I11 101 18)) fun a12 => if a12 = (-1) then g_let (am_up I11 101 20 0) fun I35 => J212 I35 else if b_X11_isLetter a12 = true then b_X11_stepOn_L76 (fun (I33 : g_I) => g_let (am_up I33 101 20 1) fun I34 => J212 I34) fu I11 else if b_X11_isDigit a12 = true then g_let (am_up I11 101 21 0) fun I18 => b_X11_stepOn_L123 (fun (I27 : g_I) => g_let (am_up I27 101 20 2) fun I28 => J212 I28) fu I18 else g_let (am_up I11 101 18 ((I11 101 18) + 1)) fun I15 => if b_X11_isMark a12 = true then g_let (am_up I15 101 20 3) fun I17 => J212 I17 else g_let (am_up I15 101 20 4) fun I16 => J212 I16) fu I
set_option maxRecDepth 100000 in
set_option maxHeartbeats 4000000 in
theorem gL_X11_stepOn_0 {G : am_G} (hK : k_OK G) {d : Nat} (hd : 1 ≤ d) {sh : List (Nat ⊕ (Nat × Nat))} {I : g_I} {R : Nat → Nat → Option Nat} {L : Nat → Nat → Int64} {g : Nat} (hm : k_Mod sh R) {K : g_I → Option (g_I)} {f : Nat} {r : g_I} (h : b_X11_stepOn_L0 K f I = some r) (hk : ∀ (J : g_I), K J = some r → AW G mX11_stepOn d (fun v w => v = none ∧ w = (sh, r, R, L, g)) (fun _ _ => False) 39 [some (.ref 101), none] [] (sh, J, R, L, g) 0 0) : AW G mX11_stepOn d (fun v w => v = none ∧ w = (sh, r, R, L, g)) (fun _ _ => False) 0 [some (.ref 101), none] [] (sh, I, R, L, g) 0 0 := by
  have hG := hK.1
  induction f generalizing I with
  | zero => rw [b_X11_stepOn_L0] at h; cases h
  | succ f ih =>
    rw [b_X11_stepOn_L0] at h
    refine AW.aload_n dX11_stepOn_0 rfl ?_
    refine AW.aload_n dX11_stepOn_1 rfl ?_
    refine AW.getI (fX11_171 hG).r rfl (hm.1 0 _ rfl) dX11_stepOn_2 ?_
    obtain ⟨a2, hx4, h⟩ := g_bindE h
    refine AW.callV (b := 101) (As := [.int (I 101 18)]) hG.2.2 (vX11_174 hG) (hm.1 0 _ rfl) (g_X11_byteAt hK (d := 0) (Nat.le_refl _) hm hx4) (by omega) dX11_stepOn_5 rfl rfl (Nat.le_of_ble_eq_true rfl) (fun v w9 hq9 h09 => by obtain ⟨rfl, rfl⟩ := hq9; exact ⟨h09, rfl⟩) (by decide) (by decide) (fun _ _ hx => hx) (fun v9 w9 hq9 => ?_)
    obtain ⟨rfl, rfl⟩ := hq9
    show AW G _ d _ _ 8 [some (.ref 101), none] [.int a2] (sh, I, R, L, g) 0 0
    refine AW.bipush 32 dX11_stepOn_8 (by decide) ?_
    refine AW.icmp_eq 26 dX11_stepOn_10 (by decide) (fun hc10 => ?_) (fun hc10 => ?_)
    · replace h := g_pos hc10 h
      refine AW.aload_n dX11_stepOn_26 rfl ?_
      refine AW.dup dX11_stepOn_27 rfl ?_
      refine AW.getI (fX11_171 hG).r rfl (hm.1 0 _ rfl) dX11_stepOn_28 ?_
      refine AW.iconst 1 dX11_stepOn_31 (by decide) ?_
      refine AW.iadd dX11_stepOn_32 ?_
      refine AW.putI (fX11_171 hG) rfl (vp_nar_int _) rfl (hm.1 0 _ rfl) dX11_stepOn_33 ?_
      obtain ⟨I5, eI5, h⟩ := g_letE h
      refine AW.namIE eI5 ?_
      refine AW.goto 0 dX11_stepOn_36 (by decide) ?_
      exact ih h
    · replace h := g_neg hc10 h
      refine AW.aload_n dX11_stepOn_13 rfl ?_
      refine AW.aload_n dX11_stepOn_14 rfl ?_
      refine AW.getI (fX11_171 hG).r rfl (hm.1 0 _ rfl) dX11_stepOn_15 ?_
      obtain ⟨a6, hx8, h⟩ := g_bindE h
      refine AW.callV (b := 101) (As := [.int (I 101 18)]) hG.2.2 (vX11_174 hG) (hm.1 0 _ rfl) (g_X11_byteAt hK (d := 0) (Nat.le_refl _) hm hx8) (by omega) dX11_stepOn_18 rfl rfl (Nat.le_of_ble_eq_true rfl) (fun v w9 hq9 h09 => by obtain ⟨rfl, rfl⟩ := hq9; exact ⟨h09, rfl⟩) (by decide) (by decide) (fun _ _ hx => hx) (fun v9 w9 hq9 => ?_)
      obtain ⟨rfl, rfl⟩ := hq9
      show AW G _ d _ _ 21 [some (.ref 101), none] [.int a6] (sh, I, R, L, g) 0 0
      refine AW.bipush 10 dX11_stepOn_21 (by decide) ?_
      refine AW.icmp_ne 39 dX11_stepOn_23 (by decide) (fun hc23 => ?_) (fun hc23 => ?_)
      · replace h := g_neg hc23 h
        exact hk _ h
      · replace h := g_pos hc23 h
        refine AW.aload_n dX11_stepOn_26 rfl ?_
        refine AW.dup dX11_stepOn_27 rfl ?_
        refine AW.getI (fX11_171 hG).r rfl (hm.1 0 _ rfl) dX11_stepOn_28 ?_
        refine AW.iconst 1 dX11_stepOn_31 (by decide) ?_
        refine AW.iadd dX11_stepOn_32 ?_
        refine AW.putI (fX11_171 hG) rfl (vp_nar_int _) rfl (hm.1 0 _ rfl) dX11_stepOn_33 ?_
        obtain ⟨I9, eI9, h⟩ := g_letE h
        refine AW.namIE eI9 ?_
        refine AW.goto 0 dX11_stepOn_36 (by decide) ?_
        exact ih h
set_option maxRecDepth 100000 in
set_option maxHeartbeats 4000000 in
theorem gL_X11_stepOn_123 {G : am_G} (hK : k_OK G) {d : Nat} (hd : 1 ≤ d) {sh : List (Nat ⊕ (Nat × Nat))} {I : g_I} {R : Nat → Nat → Option Nat} {L : Nat → Nat → Int64} {g : Nat} (hm : k_Mod sh R) {K : g_I → Option (g_I)} {f : Nat} {r : g_I} (h : b_X11_stepOn_L123 K f I = some r) (hk : ∀ (J : g_I), K J = some r → AW G mX11_stepOn d (fun v w => v = none ∧ w = (sh, r, R, L, g)) (fun _ _ => False) 178 [some (.ref 101), none] [] (sh, J, R, L, g) 0 0) : AW G mX11_stepOn d (fun v w => v = none ∧ w = (sh, r, R, L, g)) (fun _ _ => False) 123 [some (.ref 101), none] [] (sh, I, R, L, g) 0 0 := by
  have hG := hK.1
  induction f generalizing I with
  | zero => rw [b_X11_stepOn_L123] at h; cases h
  | succ f ih =>
    rw [b_X11_stepOn_L123] at h
    refine AW.aload_n dX11_stepOn_123 rfl ?_
    refine AW.aload_n dX11_stepOn_124 rfl ?_
    refine AW.getI (fX11_171 hG).r rfl (hm.1 0 _ rfl) dX11_stepOn_125 ?_
    obtain ⟨a19, hx21, h⟩ := g_bindE h
    refine AW.callV (b := 101) (As := [.int (I 101 18)]) hG.2.2 (vX11_174 hG) (hm.1 0 _ rfl) (g_X11_byteAt hK (d := 0) (Nat.le_refl _) hm hx21) (by omega) dX11_stepOn_128 rfl rfl (Nat.le_of_ble_eq_true rfl) (fun v w9 hq9 h09 => by obtain ⟨rfl, rfl⟩ := hq9; exact ⟨h09, rfl⟩) (by decide) (by decide) (fun _ _ hx => hx) (fun v9 w9 hq9 => ?_)
    obtain ⟨rfl, rfl⟩ := hq9
    show AW G _ d _ _ 131 [some (.ref 101), none] [.int a19] (sh, I, R, L, g) 0 0
    refine AW.callS (As := [.int a19]) hG.2.2 (vX11_188 hG) (g_X11_isDigit hK (d := 0) (Nat.le_refl _)) (by omega) dX11_stepOn_131 rfl rfl (Nat.le_of_ble_eq_true rfl) (fun v w9 hq9 h09 => by obtain ⟨rfl, rfl⟩ := hq9; exact ⟨h09, rfl⟩) (by decide) (by decide) (fun _ _ hx => hx) (fun v9 w9 hq9 => ?_)
    obtain ⟨rfl, rfl⟩ := hq9
    show AW G _ d _ _ 134 [some (.ref 101), none] [.int (kb (b_X11_isDigit a19))] (sh, I, R, L, g) 0 0
    refine AW.if_eq 178 dX11_stepOn_134 (by decide) (fun hc134 => ?_) (fun hc134 => ?_)
    · replace h := g_neg (g_kb0 hc134) h
      exact hk _ h
    · replace h := g_pos (kb_1.mp hc134) h
      refine AW.aload_n dX11_stepOn_137 rfl ?_
      refine AW.ldc 100000 dX11_stepOn_138 (k_c hG 1715 (by decide +kernel) (by decide +kernel)) ?_
      refine AW.bipush 10 dX11_stepOn_140 (by decide) ?_
      refine AW.aload_n dX11_stepOn_142 rfl ?_
      refine AW.getI (fX11_191 hG).r rfl (hm.1 0 _ rfl) dX11_stepOn_143 ?_
      refine AW.imul dX11_stepOn_146 ?_
      refine AW.aload_n dX11_stepOn_147 rfl ?_
      refine AW.aload_n dX11_stepOn_148 rfl ?_
      refine AW.getI (fX11_171 hG).r rfl (hm.1 0 _ rfl) dX11_stepOn_149 ?_
      obtain ⟨a22, hx24, h⟩ := g_bindE h
      refine AW.callV (b := 101) (As := [.int (I 101 18)]) hG.2.2 (vX11_174 hG) (hm.1 0 _ rfl) (g_X11_byteAt hK (d := 0) (Nat.le_refl _) hm hx24) (by omega) dX11_stepOn_152 rfl rfl (Nat.le_of_ble_eq_true rfl) (fun v w9 hq9 h09 => by obtain ⟨rfl, rfl⟩ := hq9; exact ⟨h09, rfl⟩) (by decide) (by decide) (fun _ _ hx => hx) (fun v9 w9 hq9 => ?_)
      obtain ⟨rfl, rfl⟩ := hq9
      show AW G _ d _ _ 155 [some (.ref 101), none] [.int a22, .int ((10 : Int32) * (I 101 21)), .int 100000, .ref 101] (sh, I, R, L, g) 0 0
      refine AW.iadd dX11_stepOn_155 ?_
      refine AW.bipush 48 dX11_stepOn_156 (by decide) ?_
      refine AW.isub dX11_stepOn_158 ?_
      refine AW.mmin (k_c hG 1716 (by decide +kernel) (by decide +kernel)) (k_mmin hG) dX11_stepOn_159 (by omega) (Nat.le_of_ble_eq_true rfl) (by decide) (by decide) ?_
      show AW G _ d _ _ 162 [some (.ref 101), none] [.int (g_min 100000 ((((10 : Int32) * (I 101 21)) + a22) - 48)), .ref 101] (sh, I, R, L, g) 0 0
      refine AW.putI (fX11_191 hG) rfl (vp_nar_int _) rfl (hm.1 0 _ rfl) dX11_stepOn_162 ?_
      obtain ⟨I25, eI25, h⟩ := g_letE h
      refine AW.namIE eI25 ?_
      refine AW.aload_n dX11_stepOn_165 rfl ?_
      refine AW.dup dX11_stepOn_166 rfl ?_
      refine AW.getI (fX11_171 hG).r rfl (hm.1 0 _ rfl) dX11_stepOn_167 ?_
      refine AW.iconst 1 dX11_stepOn_170 (by decide) ?_
      refine AW.iadd dX11_stepOn_171 ?_
      refine AW.putI (fX11_171 hG) rfl (vp_nar_int _) rfl (hm.1 0 _ rfl) dX11_stepOn_172 ?_
      obtain ⟨I26, eI26, h⟩ := g_letE h
      refine AW.namIE eI26 ?_
      refine AW.goto 123 dX11_stepOn_175 (by decide) ?_
      exact ih h
set_option maxRecDepth 100000 in
set_option maxHeartbeats 4000000 in
theorem gL_X11_stepOn_76 {G : am_G} (hK : k_OK G) {d : Nat} (hd : 1 ≤ d) {sh : List (Nat ⊕ (Nat × Nat))} {I : g_I} {R : Nat → Nat → Option Nat} {L : Nat → Nat → Int64} {g : Nat} (hm : k_Mod sh R) {K : g_I → Option (g_I)} {f : Nat} {r : g_I} (h : b_X11_stepOn_L76 K f I = some r) (hk : ∀ (J : g_I), K J = some r → AW G mX11_stepOn d (fun v w => v = none ∧ w = (sh, r, R, L, g)) (fun _ _ => False) 103 [some (.ref 101), none] [] (sh, J, R, L, g) 0 0) : AW G mX11_stepOn d (fun v w => v = none ∧ w = (sh, r, R, L, g)) (fun _ _ => False) 76 [some (.ref 101), none] [] (sh, I, R, L, g) 0 0 := by
  have hG := hK.1
  induction f generalizing I with
  | zero => rw [b_X11_stepOn_L76] at h; cases h
  | succ f ih =>
    rw [b_X11_stepOn_L76] at h
    refine AW.aload_n dX11_stepOn_76 rfl ?_
    refine AW.aload_n dX11_stepOn_77 rfl ?_
    refine AW.getI (fX11_171 hG).r rfl (hm.1 0 _ rfl) dX11_stepOn_78 ?_
    obtain ⟨a29, hx31, h⟩ := g_bindE h
    refine AW.callV (b := 101) (As := [.int (I 101 18)]) hG.2.2 (vX11_174 hG) (hm.1 0 _ rfl) (g_X11_byteAt hK (d := 0) (Nat.le_refl _) hm hx31) (by omega) dX11_stepOn_81 rfl rfl (Nat.le_of_ble_eq_true rfl) (fun v w9 hq9 h09 => by obtain ⟨rfl, rfl⟩ := hq9; exact ⟨h09, rfl⟩) (by decide) (by decide) (fun _ _ hx => hx) (fun v9 w9 hq9 => ?_)
    obtain ⟨rfl, rfl⟩ := hq9
    show AW G _ d _ _ 84 [some (.ref 101), none] [.int a29] (sh, I, R, L, g) 0 0
    refine AW.callS (As := [.int a29]) hG.2.2 (vX11_184 hG) (g_X11_isLetter hK (d := 0) (Nat.le_refl _)) (by omega) dX11_stepOn_84 rfl rfl (Nat.le_of_ble_eq_true rfl) (fun v w9 hq9 h09 => by obtain ⟨rfl, rfl⟩ := hq9; exact ⟨h09, rfl⟩) (by decide) (by decide) (fun _ _ hx => hx) (fun v9 w9 hq9 => ?_)
    obtain ⟨rfl, rfl⟩ := hq9
    show AW G _ d _ _ 87 [some (.ref 101), none] [.int (kb (b_X11_isLetter a29))] (sh, I, R, L, g) 0 0
    refine AW.if_eq 103 dX11_stepOn_87 (by decide) (fun hc87 => ?_) (fun hc87 => ?_)
    · replace h := g_neg (g_kb0 hc87) h
      exact hk _ h
    · replace h := g_pos (kb_1.mp hc87) h
      refine AW.aload_n dX11_stepOn_90 rfl ?_
      refine AW.dup dX11_stepOn_91 rfl ?_
      refine AW.getI (fX11_171 hG).r rfl (hm.1 0 _ rfl) dX11_stepOn_92 ?_
      refine AW.iconst 1 dX11_stepOn_95 (by decide) ?_
      refine AW.iadd dX11_stepOn_96 ?_
      refine AW.putI (fX11_171 hG) rfl (vp_nar_int _) rfl (hm.1 0 _ rfl) dX11_stepOn_97 ?_
      obtain ⟨I32, eI32, h⟩ := g_letE h
      refine AW.namIE eI32 ?_
      refine AW.goto 76 dX11_stepOn_100 (by decide) ?_
      exact ih h
set_option maxRecDepth 100000 in
set_option maxHeartbeats 4000000 in
theorem g_X11_stepOn {G : am_G} (hK : k_OK G) {d : Nat} (hd : 1 ≤ d) {sh : List (Nat ⊕ (Nat × Nat))} {I : g_I} {R : Nat → Nat → Option Nat} {L : Nat → Nat → Int64} {g : Nat} (hm : k_Mod sh R) {r : g_I} (h : b_X11_stepOn I = some r) : AM G mX11_stepOn d [.ref 101] (sh, I, R, L, g) (fun v w => v = none ∧ w = (sh, r, R, L, g)) (fun _ _ => False) := by
  have hG := hK.1
  refine AM.of (n := 1) (by decide +kernel) (Nat.le_of_ble_eq_true rfl) ?_
  show AW G mX11_stepOn d (fun v w => v = none ∧ w = (sh, r, R, L, g)) (fun _ _ => False) 0 [some (.ref 101), none] [] (sh, I, R, L, g) 0 0
  unfold b_X11_stepOn at h
  obtain ⟨J212, eJ212, h⟩ := g_letE h
  have H212 : ∀ (I212j : g_I), J212 I212j = some r → AW G mX11_stepOn d (fun v w => v = none ∧ w = (sh, r, R, L, g)) (fun _ _ => False) 212 [some (.ref 101), none] [] (sh, I212j, R, L, g) 0 0 := by
    intro I212j h
    rw [eJ212] at h
    refine AW.aload_n dX11_stepOn_212 rfl ?_
    refine AW.aload_n dX11_stepOn_213 rfl ?_
    refine AW.getI (fX11_171 hG).r rfl (hm.1 0 _ rfl) dX11_stepOn_214 ?_
    refine AW.putI (fX11_204 hG) rfl (vp_nar_int _) rfl (hm.1 0 _ rfl) dX11_stepOn_217 ?_
    obtain ⟨I1, eI1, h⟩ := g_letE h
    refine AW.namIE eI1 ?_
    exact AW.vret dX11_stepOn_220 rfl (by decide) (by decide) (by cases h; exact ⟨rfl, rfl⟩)
  refine gL_X11_stepOn_0 hK hd hm h (fun I10 h => ?_)
  refine AW.aload_n dX11_stepOn_39 rfl ?_
  refine AW.aload_n dX11_stepOn_40 rfl ?_
  refine AW.getI (fX11_171 hG).r rfl (hm.1 0 _ rfl) dX11_stepOn_41 ?_
  refine AW.putI (fX11_178 hG) rfl (vp_nar_int _) rfl (hm.1 0 _ rfl) dX11_stepOn_44 ?_
  obtain ⟨I11, eI11, h⟩ := g_letE h
  refine AW.namIE eI11 ?_
  refine AW.aload_n dX11_stepOn_47 rfl ?_
  refine AW.aload_n dX11_stepOn_48 rfl ?_
  refine AW.getI (fX11_171 hG).r rfl (hm.1 0 _ rfl) dX11_stepOn_49 ?_
  obtain ⟨a12, hx14, h⟩ := g_bindE h
  refine AW.callV (b := 101) (As := [.int (I11 101 18)]) hG.2.2 (vX11_174 hG) (hm.1 0 _ rfl) (g_X11_byteAt hK (d := 0) (Nat.le_refl _) hm hx14) (by omega) dX11_stepOn_52 rfl rfl (Nat.le_of_ble_eq_true rfl) (fun v w9 hq9 h09 => by obtain ⟨rfl, rfl⟩ := hq9; exact ⟨h09, rfl⟩) (by decide) (by decide) (fun _ _ hx => hx) (fun v9 w9 hq9 => ?_)
  obtain ⟨rfl, rfl⟩ := hq9
  show AW G _ d _ _ 55 [some (.ref 101), none] [.int a12] (sh, I11, R, L, g) 0 0
  refine AW.is_n [some (.ref 101), some (.int a12)] dX11_stepOn_55 (by decide) rfl rfl ?_
  refine AW.iload_n dX11_stepOn_56 rfl ?_
  refine AW.iconst (-1) dX11_stepOn_57 (by decide) ?_
  refine AW.icmp_ne 69 dX11_stepOn_58 (by decide) (fun hc58 => ?_) (fun hc58 => ?_)
  · replace h := g_neg hc58 h
    refine AW.iload_n dX11_stepOn_69 rfl ?_
    refine AW.callS (As := [.int a12]) hG.2.2 (vX11_184 hG) (g_X11_isLetter hK (d := 0) (Nat.le_refl _)) (by omega) dX11_stepOn_70 rfl rfl (Nat.le_of_ble_eq_true rfl) (fun v w9 hq9 h09 => by obtain ⟨rfl, rfl⟩ := hq9; exact ⟨h09, rfl⟩) (by decide) (by decide) (fun _ _ hx => hx) (fun v9 w9 hq9 => ?_)
    obtain ⟨rfl, rfl⟩ := hq9
    show AW G _ d _ _ 73 [some (.ref 101), some (.int a12)] [.int (kb (b_X11_isLetter a12))] (sh, I11, R, L, g) 0 0
    refine AW.if_eq 111 dX11_stepOn_73 (by decide) (fun hc73 => ?_) (fun hc73 => ?_)
    · replace h := g_neg (g_kb0 hc73) h
      refine AW.iload_n dX11_stepOn_111 rfl ?_
      refine AW.callS (As := [.int a12]) hG.2.2 (vX11_188 hG) (g_X11_isDigit hK (d := 0) (Nat.le_refl _)) (by omega) dX11_stepOn_112 rfl rfl (Nat.le_of_ble_eq_true rfl) (fun v w9 hq9 h09 => by obtain ⟨rfl, rfl⟩ := hq9; exact ⟨h09, rfl⟩) (by decide) (by decide) (fun _ _ hx => hx) (fun v9 w9 hq9 => ?_)
      obtain ⟨rfl, rfl⟩ := hq9
      show AW G _ d _ _ 115 [some (.ref 101), some (.int a12)] [.int (kb (b_X11_isDigit a12))] (sh, I11, R, L, g) 0 0
      refine AW.if_eq 186 dX11_stepOn_115 (by decide) (fun hc115 => ?_) (fun hc115 => ?_)
      · replace h := g_neg (g_kb0 hc115) h
        refine AW.aload_n dX11_stepOn_186 rfl ?_
        refine AW.dup dX11_stepOn_187 rfl ?_
        refine AW.getI (fX11_171 hG).r rfl (hm.1 0 _ rfl) dX11_stepOn_188 ?_
        refine AW.iconst 1 dX11_stepOn_191 (by decide) ?_
        refine AW.iadd dX11_stepOn_192 ?_
        refine AW.putI (fX11_171 hG) rfl (vp_nar_int _) rfl (hm.1 0 _ rfl) dX11_stepOn_193 ?_
        obtain ⟨I15, eI15, h⟩ := g_letE h
        refine AW.namIE eI15 ?_
        refine AW.aload_n dX11_stepOn_196 rfl ?_
        refine AW.iload_n dX11_stepOn_197 rfl ?_
        refine AW.callS (As := [.int a12]) hG.2.2 (vX11_201 hG) (g_X11_isMark hK (d := 0) (Nat.le_refl _)) (by omega) dX11_stepOn_198 rfl rfl (Nat.le_of_ble_eq_true rfl) (fun v w9 hq9 h09 => by obtain ⟨rfl, rfl⟩ := hq9; exact ⟨h09, rfl⟩) (by decide) (by decide) (fun _ _ hx => hx) (fun v9 w9 hq9 => ?_)
        obtain ⟨rfl, rfl⟩ := hq9
        show AW G _ d _ _ 201 [some (.ref 101), some (.int a12)] [.int (kb (b_X11_isMark a12)), .ref 101] (sh, I15, R, L, g) 0 0
        refine AW.if_eq 208 dX11_stepOn_201 (by decide) (fun hc201 => ?_) (fun hc201 => ?_)
        · replace h := g_neg (g_kb0 hc201) h
          refine AW.iconst 4 dX11_stepOn_208 (by decide) ?_
          refine AW.putI (fX11_181 hG) rfl (vp_nar_int _) rfl (hm.1 0 _ rfl) dX11_stepOn_209 ?_
          obtain ⟨I16, eI16, h⟩ := g_letE h
          refine AW.namIE eI16 ?_
          refine AW.mask [1] [some (.ref 101), none] rfl ?_
          exact H212 _ h
        · replace h := g_pos (kb_1.mp hc201) h
          refine AW.iconst 3 dX11_stepOn_204 (by decide) ?_
          refine AW.goto 209 dX11_stepOn_205 (by decide) ?_
          refine AW.putI (fX11_181 hG) rfl (vp_nar_int _) rfl (hm.1 0 _ rfl) dX11_stepOn_209 ?_
          obtain ⟨I17, eI17, h⟩ := g_letE h
          refine AW.namIE eI17 ?_
          refine AW.mask [1] [some (.ref 101), none] rfl ?_
          exact H212 _ h
      · replace h := g_pos (kb_1.mp hc115) h
        refine AW.aload_n dX11_stepOn_118 rfl ?_
        refine AW.iconst 0 dX11_stepOn_119 (by decide) ?_
        refine AW.putI (fX11_191 hG) rfl (vp_nar_int _) rfl (hm.1 0 _ rfl) dX11_stepOn_120 ?_
        obtain ⟨I18, eI18, h⟩ := g_letE h
        refine AW.namIE eI18 ?_
        refine AW.mask [1] [some (.ref 101), none] rfl ?_
        refine gL_X11_stepOn_123 hK hd hm h (fun I27 h => ?_)
        refine AW.aload_n dX11_stepOn_178 rfl ?_
        refine AW.iconst 2 dX11_stepOn_179 (by decide) ?_
        refine AW.putI (fX11_181 hG) rfl (vp_nar_int _) rfl (hm.1 0 _ rfl) dX11_stepOn_180 ?_
        obtain ⟨I28, eI28, h⟩ := g_letE h
        refine AW.namIE eI28 ?_
        refine AW.goto 212 dX11_stepOn_183 (by decide) ?_
        exact H212 _ h
    · replace h := g_pos (kb_1.mp hc73) h
      refine AW.mask [1] [some (.ref 101), none] rfl ?_
      refine gL_X11_stepOn_76 hK hd hm h (fun I33 h => ?_)
      refine AW.aload_n dX11_stepOn_103 rfl ?_
      refine AW.iconst 1 dX11_stepOn_104 (by decide) ?_
      refine AW.putI (fX11_181 hG) rfl (vp_nar_int _) rfl (hm.1 0 _ rfl) dX11_stepOn_105 ?_
      obtain ⟨I34, eI34, h⟩ := g_letE h
      refine AW.namIE eI34 ?_
      refine AW.goto 212 dX11_stepOn_108 (by decide) ?_
      exact H212 _ h
  · replace h := g_pos hc58 h
    refine AW.aload_n dX11_stepOn_61 rfl ?_
    refine AW.iconst 0 dX11_stepOn_62 (by decide) ?_
    refine AW.putI (fX11_181 hG) rfl (vp_nar_int _) rfl (hm.1 0 _ rfl) dX11_stepOn_63 ?_
    obtain ⟨I35, eI35, h⟩ := g_letE h
    refine AW.namIE eI35 ?_
    refine AW.goto 212 dX11_stepOn_66 (by decide) ?_
    refine AW.mask [1] [some (.ref 101), none] rfl ?_
    exact H212 _ h
theorem dX11_wrong_0 : decode cX11_wrong 0 = .ok (.aload_n 0, 1) := by decide +kernel
theorem dX11_wrong_1 : decode cX11_wrong 1 = .ok (.getfield 207, 3) := by decide +kernel
theorem dX11_wrong_4 : decode cX11_wrong 4 = .ok (.ifCond .eq 4, 3) := by decide +kernel
theorem dX11_wrong_7 : decode cX11_wrong 7 = .ok (.return_, 1) := by decide +kernel
theorem dX11_wrong_8 : decode cX11_wrong 8 = .ok (.aload_n 0, 1) := by decide +kernel
theorem dX11_wrong_9 : decode cX11_wrong 9 = .ok (.iload_n 1, 1) := by decide +kernel
theorem dX11_wrong_10 : decode cX11_wrong 10 = .ok (.putfield 207, 3) := by decide +kernel
theorem dX11_wrong_13 : decode cX11_wrong 13 = .ok (.aload_n 0, 1) := by decide +kernel
theorem dX11_wrong_14 : decode cX11_wrong 14 = .ok (.aload_n 0, 1) := by decide +kernel
theorem dX11_wrong_15 : decode cX11_wrong 15 = .ok (.getfield 178, 3) := by decide +kernel
theorem dX11_wrong_18 : decode cX11_wrong 18 = .ok (.putfield 210, 3) := by decide +kernel
theorem dX11_wrong_21 : decode cX11_wrong 21 = .ok (.return_, 1) := by decide +kernel
def b_X11_wrong (I : g_I) (x1 : Int32) : Option (g_I) :=
  if (I 101 24) = 0 then g_let (am_up I 101 24 x1) fun I1 => g_let (am_up I1 101 25 (I1 101 22)) fun I2 => some I2 else some I
set_option maxRecDepth 100000 in
set_option maxHeartbeats 4000000 in
theorem g_X11_wrong {G : am_G} (hK : k_OK G) {d : Nat} (hd : 0 ≤ d) {sh : List (Nat ⊕ (Nat × Nat))} {I : g_I} {R : Nat → Nat → Option Nat} {L : Nat → Nat → Int64} {g : Nat} (hm : k_Mod sh R) {x1 : Int32} {r : g_I} (h : b_X11_wrong I x1 = some r) : AM G mX11_wrong d [.ref 101, .int x1] (sh, I, R, L, g) (fun v w => v = none ∧ w = (sh, r, R, L, g)) (fun _ _ => False) := by
  have hG := hK.1
  refine AM.of (n := 0) (by decide +kernel) (Nat.le_of_ble_eq_true rfl) ?_
  show AW G mX11_wrong d (fun v w => v = none ∧ w = (sh, r, R, L, g)) (fun _ _ => False) 0 [some (.ref 101), some (.int x1)] [] (sh, I, R, L, g) 0 0
  unfold b_X11_wrong at h
  refine AW.aload_n dX11_wrong_0 rfl ?_
  refine AW.getI (fX11_207 hG).r rfl (hm.1 0 _ rfl) dX11_wrong_1 ?_
  refine AW.if_eq 8 dX11_wrong_4 (by decide) (fun hc4 => ?_) (fun hc4 => ?_)
  · replace h := g_pos hc4 h
    refine AW.aload_n dX11_wrong_8 rfl ?_
    refine AW.iload_n dX11_wrong_9 rfl ?_
    refine AW.putI (fX11_207 hG) rfl (vp_nar_int _) rfl (hm.1 0 _ rfl) dX11_wrong_10 ?_
    obtain ⟨I1, eI1, h⟩ := g_letE h
    refine AW.namIE eI1 ?_
    refine AW.aload_n dX11_wrong_13 rfl ?_
    refine AW.aload_n dX11_wrong_14 rfl ?_
    refine AW.getI (fX11_178 hG).r rfl (hm.1 0 _ rfl) dX11_wrong_15 ?_
    refine AW.putI (fX11_210 hG) rfl (vp_nar_int _) rfl (hm.1 0 _ rfl) dX11_wrong_18 ?_
    obtain ⟨I2, eI2, h⟩ := g_letE h
    refine AW.namIE eI2 ?_
    exact AW.vret dX11_wrong_21 rfl (by decide) (by decide) (by cases h; exact ⟨rfl, rfl⟩)
  · replace h := g_neg hc4 h
    exact AW.vret dX11_wrong_7 rfl (by decide) (by decide) (by cases h; exact ⟨rfl, rfl⟩)
theorem dX11_is_0 : decode cX11_is 0 = .ok (.aload_n 0, 1) := by decide +kernel
theorem dX11_is_1 : decode cX11_is 1 = .ok (.getfield 207, 3) := by decide +kernel
theorem dX11_is_4 : decode cX11_is 4 = .ok (.ifCond .ne 31, 3) := by decide +kernel
theorem dX11_is_7 : decode cX11_is 7 = .ok (.aload_n 0, 1) := by decide +kernel
theorem dX11_is_8 : decode cX11_is 8 = .ok (.getfield 181, 3) := by decide +kernel
theorem dX11_is_11 : decode cX11_is 11 = .ok (.iconst 1, 1) := by decide +kernel
theorem dX11_is_12 : decode cX11_is 12 = .ok (.if_icmp .ne 23, 3) := by decide +kernel
theorem dX11_is_15 : decode cX11_is 15 = .ok (.aload_n 1, 1) := by decide +kernel
theorem dX11_is_16 : decode cX11_is 16 = .ok (.invokevirtual 213, 3) := by decide +kernel
theorem dX11_is_19 : decode cX11_is 19 = .ok (.aload_n 0, 1) := by decide +kernel
theorem dX11_is_20 : decode cX11_is 20 = .ok (.getfield 204, 3) := by decide +kernel
theorem dX11_is_23 : decode cX11_is 23 = .ok (.aload_n 0, 1) := by decide +kernel
theorem dX11_is_24 : decode cX11_is 24 = .ok (.getfield 178, 3) := by decide +kernel
theorem dX11_is_27 : decode cX11_is 27 = .ok (.isub, 1) := by decide +kernel
theorem dX11_is_28 : decode cX11_is 28 = .ok (.if_icmp .ne 7, 3) := by decide +kernel
theorem dX11_is_31 : decode cX11_is 31 = .ok (.iconst 1, 1) := by decide +kernel
theorem dX11_is_32 : decode cX11_is 32 = .ok (.goto 4, 3) := by decide +kernel
theorem dX11_is_35 : decode cX11_is 35 = .ok (.iconst 0, 1) := by decide +kernel
theorem dX11_is_36 : decode cX11_is 36 = .ok (.istore_n 2, 1) := by decide +kernel
theorem dX11_is_37 : decode cX11_is 37 = .ok (.iconst 0, 1) := by decide +kernel
theorem dX11_is_38 : decode cX11_is 38 = .ok (.istore_n 3, 1) := by decide +kernel
theorem dX11_is_39 : decode cX11_is 39 = .ok (.iload_n 2, 1) := by decide +kernel
theorem dX11_is_40 : decode cX11_is 40 = .ok (.ifCond .eq 42, 3) := by decide +kernel
theorem dX11_is_43 : decode cX11_is 43 = .ok (.iload_n 3, 1) := by decide +kernel
theorem dX11_is_44 : decode cX11_is 44 = .ok (.aload_n 1, 1) := by decide +kernel
theorem dX11_is_45 : decode cX11_is 45 = .ok (.invokevirtual 213, 3) := by decide +kernel
theorem dX11_is_48 : decode cX11_is 48 = .ok (.if_icmp .ge 34, 3) := by decide +kernel
theorem dX11_is_51 : decode cX11_is 51 = .ok (.aload_n 1, 1) := by decide +kernel
theorem dX11_is_52 : decode cX11_is 52 = .ok (.iload_n 3, 1) := by decide +kernel
theorem dX11_is_53 : decode cX11_is 53 = .ok (.invokevirtual 217, 3) := by decide +kernel
theorem dX11_is_56 : decode cX11_is 56 = .ok (.aload_n 0, 1) := by decide +kernel
theorem dX11_is_57 : decode cX11_is 57 = .ok (.getfield 76, 3) := by decide +kernel
theorem dX11_is_60 : decode cX11_is 60 = .ok (.aload_n 0, 1) := by decide +kernel
theorem dX11_is_61 : decode cX11_is 61 = .ok (.getfield 178, 3) := by decide +kernel
theorem dX11_is_64 : decode cX11_is 64 = .ok (.iload_n 3, 1) := by decide +kernel
theorem dX11_is_65 : decode cX11_is 65 = .ok (.iadd, 1) := by decide +kernel
theorem dX11_is_66 : decode cX11_is 66 = .ok (.iaload, 1) := by decide +kernel
theorem dX11_is_67 : decode cX11_is 67 = .ok (.if_icmp .ne 7, 3) := by decide +kernel
theorem dX11_is_70 : decode cX11_is 70 = .ok (.iconst 1, 1) := by decide +kernel
theorem dX11_is_71 : decode cX11_is 71 = .ok (.goto 4, 3) := by decide +kernel
theorem dX11_is_74 : decode cX11_is 74 = .ok (.iconst 0, 1) := by decide +kernel
theorem dX11_is_75 : decode cX11_is 75 = .ok (.istore_n 2, 1) := by decide +kernel
theorem dX11_is_76 : decode cX11_is 76 = .ok (.iinc 3 1, 3) := by decide +kernel
theorem dX11_is_79 : decode cX11_is 79 = .ok (.goto (-40), 3) := by decide +kernel
theorem dX11_is_82 : decode cX11_is 82 = .ok (.iload_n 2, 1) := by decide +kernel
theorem dX11_is_83 : decode cX11_is 83 = .ok (.ireturn, 1) := by decide +kernel
def b_X11_is_L39 (bs1 : List Int32) (I : g_I) (K : Int32 → Option (Bool)) : Nat → Int32 → Int32 → Option (Bool)
  | 0, _, _ => none
  | f + 1, x2, x3 => if x2 = 0 then K x2 else if (nI bs1.length) ≤ x3 then K x2 else if g_in x3 bs1.length = true then if g_in ((I 101 22) + x3) 600 = true then if (bs1.getD x3.toNatClampNeg 0) = (I 117 ((I 101 22) + x3).toNatClampNeg) then b_X11_is_L39 bs1 I K f 1 (x3 + 1) else b_X11_is_L39 bs1 I K f 0 (x3 + 1) else none else none
def b_X11_is (I : g_I) (bs1 : List Int32) : Option (Bool) :=
  g_let (fun (_ : Unit) => b_X11_is_L39 bs1 I (fun (a1 : Int32) => g_bool a1 fun bz => some bz) fu 0 0) fun J35 => if (I 101 24) = 0 then if (I 101 20) = 1 then if (nI bs1.length) = ((I 101 23) - (I 101 22)) then b_X11_is_L39 bs1 I (fun (a2 : Int32) => g_bool a2 fun bz => some bz) fu 1 0 else J35 () else J35 () else J35 ()
set_option maxRecDepth 100000 in
set_option maxHeartbeats 4000000 in
theorem gL_X11_is_39 {G : am_G} (hK : k_OK G) {j1 : Nat} {bs1 : List Int32} {d : Nat} (hd : 4 ≤ d) {sh : List (Nat ⊕ (Nat × Nat))} {I : g_I} {R : Nat → Nat → Option Nat} {L : Nat → Nat → Int64} {g : Nat} (hm : k_Mod sh R) (hj1 : k_tx G j1 bs1) {K : Int32 → Option (Bool)} {x2 : Int32} {x3 : Int32} {f : Nat} {r : Bool} (h : b_X11_is_L39 bs1 I K f x2 x3 = some r) (hk : ∀ (u2 : Int32), K u2 = some r → AW G mX11_is d (fun v w => v = some (.int (kb r)) ∧ w = (sh, I, R, L, g)) (fun _ _ => False) 82 [none, none, some (.int u2), none] [] (sh, I, R, L, g) 0 0) : AW G mX11_is d (fun v w => v = some (.int (kb r)) ∧ w = (sh, I, R, L, g)) (fun _ _ => False) 39 [some (.ref 101), some (.ref (1000000 + j1)), some (.int x2), some (.int x3)] [] (sh, I, R, L, g) 0 0 := by
  have hG := hK.1
  induction f generalizing x2 x3 with
  | zero => rw [b_X11_is_L39] at h; cases h
  | succ f ih =>
    rw [b_X11_is_L39] at h
    refine AW.iload_n dX11_is_39 rfl ?_
    refine AW.if_eq 82 dX11_is_40 (by decide) (fun hc40 => ?_) (fun hc40 => ?_)
    · replace h := g_pos hc40 h
      refine AW.mask [0, 1, 3] [none, none, some (.int x2), none] rfl ?_
      exact hk _ h
    · replace h := g_neg hc40 h
      refine AW.iload_n dX11_is_43 rfl ?_
      refine AW.aload_n dX11_is_44 rfl ?_
      refine AW.callX (As := []) hG.2.2 (vX11_213 hG) hj1 (k_length hK (d := 1) (Nat.le_refl _) hj1) (by omega) dX11_is_45 rfl rfl (Nat.le_of_ble_eq_true rfl) (fun v w9 hq9 h09 => by obtain ⟨rfl, rfl⟩ := hq9; exact ⟨h09, rfl⟩) (by decide) (by decide) (fun _ _ hx => hx) (fun v9 w9 hq9 => ?_)
      obtain ⟨rfl, rfl⟩ := hq9
      show AW G _ d _ _ 48 [some (.ref 101), some (.ref (1000000 + j1)), some (.int x2), some (.int x3)] [.int (nI bs1.length), .int x3] (sh, I, R, L, g) 0 0
      refine AW.icmp_ge 82 dX11_is_48 (by decide) (fun hc48 => ?_) (fun hc48 => ?_)
      · replace h := g_pos hc48 h
        refine AW.mask [0, 1, 3] [none, none, some (.int x2), none] rfl ?_
        exact hk _ h
      · replace h := g_neg hc48 h
        refine AW.aload_n dX11_is_51 rfl ?_
        refine AW.iload_n dX11_is_52 rfl ?_
        obtain ⟨hb, h⟩ := g_ifE h
        refine AW.callX (As := [.int x3]) hG.2.2 (vX11_217 hG) hj1 (k_charAt hK (d := 3) (Nat.le_refl _) hj1 x3 (g_in_iff.mp hb)) (by omega) dX11_is_53 rfl rfl (Nat.le_of_ble_eq_true rfl) (fun v w9 hq9 h09 => by obtain ⟨rfl, rfl⟩ := hq9; exact ⟨h09, rfl⟩) (by decide) (by decide) (fun _ _ hx => hx) (fun v9 w9 hq9 => ?_)
        obtain ⟨rfl, rfl⟩ := hq9
        show AW G _ d _ _ 56 [some (.ref 101), some (.ref (1000000 + j1)), some (.int x2), some (.int x3)] [.int (bs1.getD x3.toNatClampNeg 0)] (sh, I, R, L, g) 0 0
        refine AW.aload_n dX11_is_56 rfl ?_
        refine AW.getR (c' := 117) (fX11_76 hG).r rfl (hm.1 0 _ rfl) (hm.2 (0, 16, 16) (by decide)) dX11_is_57 ?_
        refine AW.aload_n dX11_is_60 rfl ?_
        refine AW.getI (fX11_178 hG).r rfl (hm.1 0 _ rfl) dX11_is_61 ?_
        refine AW.iload_n dX11_is_64 rfl ?_
        refine AW.iadd dX11_is_65 ?_
        obtain ⟨hb, h⟩ := g_ifE h
        refine AW.iald (hm.1 16 _ rfl) (g_in_iff.mp hb) dX11_is_66 ?_
        refine AW.icmp_ne 74 dX11_is_67 (by decide) (fun hc67 => ?_) (fun hc67 => ?_)
        · replace h := g_neg hc67 h
          refine AW.iconst 0 dX11_is_74 (by decide) ?_
          refine AW.is_n [some (.ref 101), some (.ref (1000000 + j1)), some (.int 0), some (.int x3)] dX11_is_75 (by decide) rfl rfl ?_
          refine AW.incE 1 (by decide) [some (.ref 101), some (.ref (1000000 + j1)), some (.int 0), some (.int (x3 + 1))] dX11_is_76 rfl (by decide) rfl rfl ?_
          refine AW.goto 39 dX11_is_79 (by decide) ?_
          exact ih h
        · replace h := g_pos hc67 h
          refine AW.iconst 1 dX11_is_70 (by decide) ?_
          refine AW.goto 75 dX11_is_71 (by decide) ?_
          refine AW.is_n [some (.ref 101), some (.ref (1000000 + j1)), some (.int 1), some (.int x3)] dX11_is_75 (by decide) rfl rfl ?_
          refine AW.incE 1 (by decide) [some (.ref 101), some (.ref (1000000 + j1)), some (.int 1), some (.int (x3 + 1))] dX11_is_76 rfl (by decide) rfl rfl ?_
          refine AW.goto 39 dX11_is_79 (by decide) ?_
          exact ih h
set_option maxRecDepth 100000 in
set_option maxHeartbeats 4000000 in
theorem g_X11_is {G : am_G} (hK : k_OK G) {d : Nat} (hd : 4 ≤ d) {sh : List (Nat ⊕ (Nat × Nat))} {I : g_I} {R : Nat → Nat → Option Nat} {L : Nat → Nat → Int64} {g : Nat} (hm : k_Mod sh R) {j1 : Nat} {bs1 : List Int32} (hj1 : k_tx G j1 bs1) {r : Bool} (h : b_X11_is I bs1 = some r) : AM G mX11_is d [.ref 101, .ref (1000000 + j1)] (sh, I, R, L, g) (fun v w => v = some (.int (kb r)) ∧ w = (sh, I, R, L, g)) (fun _ _ => False) := by
  have hG := hK.1
  refine AM.of (n := 2) (by decide +kernel) (Nat.le_of_ble_eq_true rfl) ?_
  show AW G mX11_is d (fun v w => v = some (.int (kb r)) ∧ w = (sh, I, R, L, g)) (fun _ _ => False) 0 [some (.ref 101), some (.ref (1000000 + j1)), none, none] [] (sh, I, R, L, g) 0 0
  unfold b_X11_is at h
  obtain ⟨J35, eJ35, h⟩ := g_letE h
  have H35 : J35 () = some r → AW G mX11_is d (fun v w => v = some (.int (kb r)) ∧ w = (sh, I, R, L, g)) (fun _ _ => False) 35 [some (.ref 101), some (.ref (1000000 + j1)), none, none] [] (sh, I, R, L, g) 0 0 := by
    intro  h
    rw [eJ35] at h
    refine AW.iconst 0 dX11_is_35 (by decide) ?_
    refine AW.is_n [some (.ref 101), some (.ref (1000000 + j1)), some (.int 0), none] dX11_is_36 (by decide) rfl rfl ?_
    refine AW.iconst 0 dX11_is_37 (by decide) ?_
    refine AW.is_n [some (.ref 101), some (.ref (1000000 + j1)), some (.int 0), some (.int 0)] dX11_is_38 (by decide) rfl rfl ?_
    refine gL_X11_is_39 hK hd hm hj1 h (fun a1 h => ?_)
    refine AW.iload_n dX11_is_82 rfl ?_
    obtain ⟨bz, hbz, h⟩ := g_boolE h
    refine AW.namE hbz ?_
    exact AW.zret dX11_is_83 rfl (kb_nar _) (by decide) (by decide) (by cases h; exact ⟨rfl, rfl⟩)
  refine AW.aload_n dX11_is_0 rfl ?_
  refine AW.getI (fX11_207 hG).r rfl (hm.1 0 _ rfl) dX11_is_1 ?_
  refine AW.if_ne 35 dX11_is_4 (by decide) (fun hc4 => ?_) (fun hc4 => ?_)
  · replace h := g_neg hc4 h
    exact H35  h
  · replace h := g_pos hc4 h
    refine AW.aload_n dX11_is_7 rfl ?_
    refine AW.getI (fX11_181 hG).r rfl (hm.1 0 _ rfl) dX11_is_8 ?_
    refine AW.iconst 1 dX11_is_11 (by decide) ?_
    refine AW.icmp_ne 35 dX11_is_12 (by decide) (fun hc12 => ?_) (fun hc12 => ?_)
    · replace h := g_neg hc12 h
      exact H35  h
    · replace h := g_pos hc12 h
      refine AW.aload_n dX11_is_15 rfl ?_
      refine AW.callX (As := []) hG.2.2 (vX11_213 hG) hj1 (k_length hK (d := 1) (Nat.le_refl _) hj1) (by omega) dX11_is_16 rfl rfl (Nat.le_of_ble_eq_true rfl) (fun v w9 hq9 h09 => by obtain ⟨rfl, rfl⟩ := hq9; exact ⟨h09, rfl⟩) (by decide) (by decide) (fun _ _ hx => hx) (fun v9 w9 hq9 => ?_)
      obtain ⟨rfl, rfl⟩ := hq9
      show AW G _ d _ _ 19 [some (.ref 101), some (.ref (1000000 + j1)), none, none] [.int (nI bs1.length)] (sh, I, R, L, g) 0 0
      refine AW.aload_n dX11_is_19 rfl ?_
      refine AW.getI (fX11_204 hG).r rfl (hm.1 0 _ rfl) dX11_is_20 ?_
      refine AW.aload_n dX11_is_23 rfl ?_
      refine AW.getI (fX11_178 hG).r rfl (hm.1 0 _ rfl) dX11_is_24 ?_
      refine AW.isub dX11_is_27 ?_
      refine AW.icmp_ne 35 dX11_is_28 (by decide) (fun hc28 => ?_) (fun hc28 => ?_)
      · replace h := g_neg hc28 h
        exact H35  h
      · replace h := g_pos hc28 h
        refine AW.iconst 1 dX11_is_31 (by decide) ?_
        refine AW.goto 36 dX11_is_32 (by decide) ?_
        refine AW.is_n [some (.ref 101), some (.ref (1000000 + j1)), some (.int 1), none] dX11_is_36 (by decide) rfl rfl ?_
        refine AW.iconst 0 dX11_is_37 (by decide) ?_
        refine AW.is_n [some (.ref 101), some (.ref (1000000 + j1)), some (.int 1), some (.int 0)] dX11_is_38 (by decide) rfl rfl ?_
        refine gL_X11_is_39 hK hd hm hj1 h (fun a2 h => ?_)
        refine AW.iload_n dX11_is_82 rfl ?_
        obtain ⟨bz, hbz, h⟩ := g_boolE h
        refine AW.namE hbz ?_
        exact AW.zret dX11_is_83 rfl (kb_nar _) (by decide) (by decide) (by cases h; exact ⟨rfl, rfl⟩)
theorem dX11_which_0 : decode cX11_which 0 = .ok (.iconst 0, 1) := by decide +kernel
theorem dX11_which_1 : decode cX11_which 1 = .ok (.istore_n 2, 1) := by decide +kernel
theorem dX11_which_2 : decode cX11_which 2 = .ok (.iload_n 2, 1) := by decide +kernel
theorem dX11_which_3 : decode cX11_which 3 = .ok (.aload_n 1, 1) := by decide +kernel
theorem dX11_which_4 : decode cX11_which 4 = .ok (.arraylength, 1) := by decide +kernel
theorem dX11_which_5 : decode cX11_which 5 = .ok (.if_icmp .ge 21, 3) := by decide +kernel
theorem dX11_which_8 : decode cX11_which 8 = .ok (.aload_n 0, 1) := by decide +kernel
theorem dX11_which_9 : decode cX11_which 9 = .ok (.aload_n 1, 1) := by decide +kernel
theorem dX11_which_10 : decode cX11_which 10 = .ok (.iload_n 2, 1) := by decide +kernel
theorem dX11_which_11 : decode cX11_which 11 = .ok (.aaload, 1) := by decide +kernel
theorem dX11_which_12 : decode cX11_which 12 = .ok (.invokevirtual 221, 3) := by decide +kernel
theorem dX11_which_15 : decode cX11_which 15 = .ok (.ifCond .eq 5, 3) := by decide +kernel
theorem dX11_which_18 : decode cX11_which 18 = .ok (.iload_n 2, 1) := by decide +kernel
theorem dX11_which_19 : decode cX11_which 19 = .ok (.ireturn, 1) := by decide +kernel
theorem dX11_which_20 : decode cX11_which 20 = .ok (.iinc 2 1, 3) := by decide +kernel
theorem dX11_which_23 : decode cX11_which 23 = .ok (.goto (-21), 3) := by decide +kernel
theorem dX11_which_26 : decode cX11_which 26 = .ok (.iconst (-1), 1) := by decide +kernel
theorem dX11_which_27 : decode cX11_which 27 = .ok (.ireturn, 1) := by decide +kernel
def b_X11_which_L2 (W1 : List (List Int32)) (I : g_I) (K : Unit → Option (Int32)) : Nat → Int32 → Option (Int32)
  | 0, _ => none
  | f + 1, x2 => if (nI W1.length) ≤ x2 then K () else if g_in x2 W1.length = true then g_bind (b_X11_is I ((W1.getD x2.toNatClampNeg []))) fun t1 => if t1 = true then some x2 else b_X11_which_L2 W1 I K f (x2 + 1) else none
def b_X11_which (I : g_I) (W1 : List (List Int32)) : Option (Int32) :=
  b_X11_which_L2 W1 I (fun (_ : Unit) => some (-1)) fu 0
set_option maxRecDepth 100000 in
set_option maxHeartbeats 4000000 in
theorem gL_X11_which_2 {G : am_G} (hK : k_OK G) {c1 : Nat} {W1 : List (List Int32)} {d : Nat} (hd : 5 ≤ d) {sh : List (Nat ⊕ (Nat × Nat))} {I : g_I} {R : Nat → Nat → Option Nat} {L : Nat → Nat → Int64} {g : Nat} (hm : k_Mod sh R) (hc1 : sh[c1]? = some (.inr (3, W1.length))) (hl1 : W1.length < 100) (hW1 : ∀ k, k < W1.length → ∃ j, R c1 k = some (1000000 + j) ∧ k_tx G j (W1.getD k [])) {K : Unit → Option (Int32)} {x2 : Int32} {f : Nat} {r : Int32} (h : b_X11_which_L2 W1 I K f x2 = some r) (hk : ∀ (_ : Unit), K () = some r → AW G mX11_which d (fun v w => v = some (.int r) ∧ w = (sh, I, R, L, g)) (fun _ _ => False) 26 [none, none, none] [] (sh, I, R, L, g) 0 0) : AW G mX11_which d (fun v w => v = some (.int r) ∧ w = (sh, I, R, L, g)) (fun _ _ => False) 2 [some (.ref 101), some (.ref c1), some (.int x2)] [] (sh, I, R, L, g) 0 0 := by
  have hG := hK.1
  induction f generalizing x2 with
  | zero => rw [b_X11_which_L2] at h; cases h
  | succ f ih =>
    rw [b_X11_which_L2] at h
    refine AW.iload_n dX11_which_2 rfl ?_
    refine AW.aload_n dX11_which_3 rfl ?_
    refine AW.alen (v := nI W1.length) hc1 (by decide) rfl dX11_which_4 ?_
    refine AW.icmp_ge 26 dX11_which_5 (by decide) (fun hc5 => ?_) (fun hc5 => ?_)
    · replace h := g_pos hc5 h
      refine AW.mask [0, 1, 2] [none, none, none] rfl ?_
      exact hk () h
    · replace h := g_neg hc5 h
      refine AW.aload_n dX11_which_8 rfl ?_
      refine AW.aload_n dX11_which_9 rfl ?_
      refine AW.iload_n dX11_which_10 rfl ?_
      obtain ⟨hb, h⟩ := g_ifE h
      obtain ⟨j11, hR11, hj11⟩ := hW1 _ (g_in_lt hb)
      refine AW.aald hc1 (g_in_iff.mp hb) hR11 dX11_which_11 ?_
      obtain ⟨t1, hx3, h⟩ := g_bindE h
      refine AW.callV (b := 101) (As := [.ref (1000000 + j11)]) hG.2.2 (vX11_221 hG) (hm.1 0 _ rfl) (g_X11_is hK (d := 4) (Nat.le_refl _) hm hj11 hx3) (by omega) dX11_which_12 rfl rfl (Nat.le_of_ble_eq_true rfl) (fun v w9 hq9 h09 => by obtain ⟨rfl, rfl⟩ := hq9; exact ⟨h09, rfl⟩) (by decide) (by decide) (fun _ _ hx => hx) (fun v9 w9 hq9 => ?_)
      obtain ⟨rfl, rfl⟩ := hq9
      show AW G _ d _ _ 15 [some (.ref 101), some (.ref c1), some (.int x2)] [.int (kb t1)] (sh, I, R, L, g) 0 0
      refine AW.if_eq 20 dX11_which_15 (by decide) (fun hc15 => ?_) (fun hc15 => ?_)
      · replace h := g_neg (g_kb0 hc15) h
        refine AW.incE 1 (by decide) [some (.ref 101), some (.ref c1), some (.int (x2 + 1))] dX11_which_20 rfl (by decide) rfl rfl ?_
        refine AW.goto 2 dX11_which_23 (by decide) ?_
        exact ih h
      · replace h := g_pos (kb_1.mp hc15) h
        refine AW.iload_n dX11_which_18 rfl ?_
        exact AW.iret dX11_which_19 rfl (by decide) (by decide) (by cases h; exact ⟨rfl, rfl⟩)
set_option maxRecDepth 100000 in
set_option maxHeartbeats 4000000 in
theorem g_X11_which {G : am_G} (hK : k_OK G) {d : Nat} (hd : 5 ≤ d) {sh : List (Nat ⊕ (Nat × Nat))} {I : g_I} {R : Nat → Nat → Option Nat} {L : Nat → Nat → Int64} {g : Nat} (hm : k_Mod sh R) {c1 : Nat} {W1 : List (List Int32)} (hc1 : sh[c1]? = some (.inr (3, W1.length))) (hl1 : W1.length < 100) (hW1 : ∀ k, k < W1.length → ∃ j, R c1 k = some (1000000 + j) ∧ k_tx G j (W1.getD k [])) {r : Int32} (h : b_X11_which I W1 = some r) : AM G mX11_which d [.ref 101, .ref c1] (sh, I, R, L, g) (fun v w => v = some (.int r) ∧ w = (sh, I, R, L, g)) (fun _ _ => False) := by
  have hG := hK.1
  refine AM.of (n := 1) (by decide +kernel) (Nat.le_of_ble_eq_true rfl) ?_
  show AW G mX11_which d (fun v w => v = some (.int r) ∧ w = (sh, I, R, L, g)) (fun _ _ => False) 0 [some (.ref 101), some (.ref c1), none] [] (sh, I, R, L, g) 0 0
  unfold b_X11_which at h
  refine AW.iconst 0 dX11_which_0 (by decide) ?_
  refine AW.is_n [some (.ref 101), some (.ref c1), some (.int 0)] dX11_which_1 (by decide) rfl rfl ?_
  refine gL_X11_which_2 hK hd hm hc1 hl1 hW1 h (fun _ h => ?_)
  refine AW.iconst (-1) dX11_which_26 (by decide) ?_
  exact AW.iret dX11_which_27 rfl (by decide) (by decide) (by cases h; exact ⟨rfl, rfl⟩)
theorem dX11_isMarked_0 : decode cX11_isMarked 0 = .ok (.aload_n 0, 1) := by decide +kernel
theorem dX11_isMarked_1 : decode cX11_isMarked 1 = .ok (.getfield 207, 3) := by decide +kernel
theorem dX11_isMarked_4 : decode cX11_isMarked 4 = .ok (.ifCond .ne 28, 3) := by decide +kernel
theorem dX11_isMarked_7 : decode cX11_isMarked 7 = .ok (.aload_n 0, 1) := by decide +kernel
theorem dX11_isMarked_8 : decode cX11_isMarked 8 = .ok (.getfield 181, 3) := by decide +kernel
theorem dX11_isMarked_11 : decode cX11_isMarked 11 = .ok (.iconst 3, 1) := by decide +kernel
theorem dX11_isMarked_12 : decode cX11_isMarked 12 = .ok (.if_icmp .ne 20, 3) := by decide +kernel
theorem dX11_isMarked_15 : decode cX11_isMarked 15 = .ok (.aload_n 0, 1) := by decide +kernel
theorem dX11_isMarked_16 : decode cX11_isMarked 16 = .ok (.getfield 76, 3) := by decide +kernel
theorem dX11_isMarked_19 : decode cX11_isMarked 19 = .ok (.aload_n 0, 1) := by decide +kernel
theorem dX11_isMarked_20 : decode cX11_isMarked 20 = .ok (.getfield 178, 3) := by decide +kernel
theorem dX11_isMarked_23 : decode cX11_isMarked 23 = .ok (.iaload, 1) := by decide +kernel
theorem dX11_isMarked_24 : decode cX11_isMarked 24 = .ok (.iload_n 1, 1) := by decide +kernel
theorem dX11_isMarked_25 : decode cX11_isMarked 25 = .ok (.if_icmp .ne 7, 3) := by decide +kernel
theorem dX11_isMarked_28 : decode cX11_isMarked 28 = .ok (.iconst 1, 1) := by decide +kernel
theorem dX11_isMarked_29 : decode cX11_isMarked 29 = .ok (.goto 4, 3) := by decide +kernel
theorem dX11_isMarked_32 : decode cX11_isMarked 32 = .ok (.iconst 0, 1) := by decide +kernel
theorem dX11_isMarked_33 : decode cX11_isMarked 33 = .ok (.ireturn, 1) := by decide +kernel
def b_X11_isMarked (I : g_I) (x1 : Int32) : Option (Bool) :=
  if (I 101 24) = 0 then if (I 101 20) = 3 then if g_in (I 101 22) 600 = true then if (I 117 (I 101 22).toNatClampNeg) = x1 then some true else some false else none else some false else some false
set_option maxRecDepth 100000 in
set_option maxHeartbeats 4000000 in
theorem g_X11_isMarked {G : am_G} (hK : k_OK G) {d : Nat} (hd : 0 ≤ d) {sh : List (Nat ⊕ (Nat × Nat))} {I : g_I} {R : Nat → Nat → Option Nat} {L : Nat → Nat → Int64} {g : Nat} (hm : k_Mod sh R) {x1 : Int32} {r : Bool} (h : b_X11_isMarked I x1 = some r) : AM G mX11_isMarked d [.ref 101, .int x1] (sh, I, R, L, g) (fun v w => v = some (.int (kb r)) ∧ w = (sh, I, R, L, g)) (fun _ _ => False) := by
  have hG := hK.1
  refine AM.of (n := 0) (by decide +kernel) (Nat.le_of_ble_eq_true rfl) ?_
  show AW G mX11_isMarked d (fun v w => v = some (.int (kb r)) ∧ w = (sh, I, R, L, g)) (fun _ _ => False) 0 [some (.ref 101), some (.int x1)] [] (sh, I, R, L, g) 0 0
  unfold b_X11_isMarked at h
  refine AW.aload_n dX11_isMarked_0 rfl ?_
  refine AW.getI (fX11_207 hG).r rfl (hm.1 0 _ rfl) dX11_isMarked_1 ?_
  refine AW.if_ne 32 dX11_isMarked_4 (by decide) (fun hc4 => ?_) (fun hc4 => ?_)
  · replace h := g_neg hc4 h
    refine AW.iconst 0 dX11_isMarked_32 (by decide) ?_
    exact AW.zret dX11_isMarked_33 rfl (by decide) (by decide) (by decide) (by cases h; exact ⟨rfl, rfl⟩)
  · replace h := g_pos hc4 h
    refine AW.aload_n dX11_isMarked_7 rfl ?_
    refine AW.getI (fX11_181 hG).r rfl (hm.1 0 _ rfl) dX11_isMarked_8 ?_
    refine AW.iconst 3 dX11_isMarked_11 (by decide) ?_
    refine AW.icmp_ne 32 dX11_isMarked_12 (by decide) (fun hc12 => ?_) (fun hc12 => ?_)
    · replace h := g_neg hc12 h
      refine AW.iconst 0 dX11_isMarked_32 (by decide) ?_
      exact AW.zret dX11_isMarked_33 rfl (by decide) (by decide) (by decide) (by cases h; exact ⟨rfl, rfl⟩)
    · replace h := g_pos hc12 h
      refine AW.aload_n dX11_isMarked_15 rfl ?_
      refine AW.getR (c' := 117) (fX11_76 hG).r rfl (hm.1 0 _ rfl) (hm.2 (0, 16, 16) (by decide)) dX11_isMarked_16 ?_
      refine AW.aload_n dX11_isMarked_19 rfl ?_
      refine AW.getI (fX11_178 hG).r rfl (hm.1 0 _ rfl) dX11_isMarked_20 ?_
      obtain ⟨hb, h⟩ := g_ifE h
      refine AW.iald (hm.1 16 _ rfl) (g_in_iff.mp hb) dX11_isMarked_23 ?_
      refine AW.iload_n dX11_isMarked_24 rfl ?_
      refine AW.icmp_ne 32 dX11_isMarked_25 (by decide) (fun hc25 => ?_) (fun hc25 => ?_)
      · replace h := g_neg hc25 h
        refine AW.iconst 0 dX11_isMarked_32 (by decide) ?_
        exact AW.zret dX11_isMarked_33 rfl (by decide) (by decide) (by decide) (by cases h; exact ⟨rfl, rfl⟩)
      · replace h := g_pos hc25 h
        refine AW.iconst 1 dX11_isMarked_28 (by decide) ?_
        refine AW.goto 33 dX11_isMarked_29 (by decide) ?_
        exact AW.zret dX11_isMarked_33 rfl (by decide) (by decide) (by decide) (by cases h; exact ⟨rfl, rfl⟩)
theorem dX11_mark_0 : decode cX11_mark 0 = .ok (.aload_n 0, 1) := by decide +kernel
theorem dX11_mark_1 : decode cX11_mark 1 = .ok (.getfield 207, 3) := by decide +kernel
theorem dX11_mark_4 : decode cX11_mark 4 = .ok (.ifCond .ne 16, 3) := by decide +kernel
theorem dX11_mark_7 : decode cX11_mark 7 = .ok (.aload_n 0, 1) := by decide +kernel
theorem dX11_mark_8 : decode cX11_mark 8 = .ok (.iload_n 1, 1) := by decide +kernel
theorem dX11_mark_9 : decode cX11_mark 9 = .ok (.invokevirtual 225, 3) := by decide +kernel
theorem dX11_mark_12 : decode cX11_mark 12 = .ok (.ifCond .ne 8, 3) := by decide +kernel
theorem dX11_mark_15 : decode cX11_mark 15 = .ok (.aload_n 0, 1) := by decide +kernel
theorem dX11_mark_16 : decode cX11_mark 16 = .ok (.iconst 1, 1) := by decide +kernel
theorem dX11_mark_17 : decode cX11_mark 17 = .ok (.invokevirtual 228, 3) := by decide +kernel
theorem dX11_mark_20 : decode cX11_mark 20 = .ok (.aload_n 0, 1) := by decide +kernel
theorem dX11_mark_21 : decode cX11_mark 21 = .ok (.getfield 207, 3) := by decide +kernel
theorem dX11_mark_24 : decode cX11_mark 24 = .ok (.ifCond .ne 7, 3) := by decide +kernel
theorem dX11_mark_27 : decode cX11_mark 27 = .ok (.aload_n 0, 1) := by decide +kernel
theorem dX11_mark_28 : decode cX11_mark 28 = .ok (.invokevirtual 232, 3) := by decide +kernel
theorem dX11_mark_31 : decode cX11_mark 31 = .ok (.return_, 1) := by decide +kernel
def b_X11_mark (I : g_I) (x1 : Int32) : Option (g_I) :=
  if (I 101 24) = 0 then g_bind (b_X11_isMarked I x1) fun t4 => if t4 = true then if (I 101 24) = 0 then g_bind (b_X11_stepOn I) fun I8 => some I8 else some I else g_bind (b_X11_wrong I 1) fun I11 => if (I11 101 24) = 0 then g_bind (b_X11_stepOn I11) fun I14 => some I14 else some I11 else if (I 101 24) = 0 then g_bind (b_X11_stepOn I) fun I2 => some I2 else some I
set_option maxRecDepth 100000 in
set_option maxHeartbeats 4000000 in
theorem g_X11_mark {G : am_G} (hK : k_OK G) {d : Nat} (hd : 2 ≤ d) {sh : List (Nat ⊕ (Nat × Nat))} {I : g_I} {R : Nat → Nat → Option Nat} {L : Nat → Nat → Int64} {g : Nat} (hm : k_Mod sh R) {x1 : Int32} {r : g_I} (h : b_X11_mark I x1 = some r) : AM G mX11_mark d [.ref 101, .int x1] (sh, I, R, L, g) (fun v w => v = none ∧ w = (sh, r, R, L, g)) (fun _ _ => False) := by
  have hG := hK.1
  refine AM.of (n := 0) (by decide +kernel) (Nat.le_of_ble_eq_true rfl) ?_
  show AW G mX11_mark d (fun v w => v = none ∧ w = (sh, r, R, L, g)) (fun _ _ => False) 0 [some (.ref 101), some (.int x1)] [] (sh, I, R, L, g) 0 0
  unfold b_X11_mark at h
  refine AW.aload_n dX11_mark_0 rfl ?_
  refine AW.getI (fX11_207 hG).r rfl (hm.1 0 _ rfl) dX11_mark_1 ?_
  refine AW.if_ne 20 dX11_mark_4 (by decide) (fun hc4 => ?_) (fun hc4 => ?_)
  · replace h := g_neg hc4 h
    refine AW.aload_n dX11_mark_20 rfl ?_
    refine AW.getI (fX11_207 hG).r rfl (hm.1 0 _ rfl) dX11_mark_21 ?_
    refine AW.if_ne 31 dX11_mark_24 (by decide) (fun hc24 => ?_) (fun hc24 => ?_)
    · replace h := g_neg hc24 h
      exact AW.vret dX11_mark_31 rfl (by decide) (by decide) (by cases h; exact ⟨rfl, rfl⟩)
    · replace h := g_pos hc24 h
      refine AW.aload_n dX11_mark_27 rfl ?_
      obtain ⟨I2, hx3, h⟩ := g_bindE h
      refine AW.callV (b := 101) (As := []) hG.2.2 (vX11_232 hG) (hm.1 0 _ rfl) (g_X11_stepOn hK (d := 1) (Nat.le_refl _) hm hx3) (by omega) dX11_mark_28 rfl rfl (Nat.le_of_ble_eq_true rfl) (fun v w9 hq9 h09 => by obtain ⟨rfl, rfl⟩ := hq9; exact ⟨h09, rfl⟩) (by decide) (by decide) (fun _ _ hx => hx) (fun v9 w9 hq9 => ?_)
      obtain ⟨rfl, rfl⟩ := hq9
      show AW G _ d _ _ 31 [some (.ref 101), some (.int x1)] [] (sh, I2, R, L, g) 0 0
      exact AW.vret dX11_mark_31 rfl (by decide) (by decide) (by cases h; exact ⟨rfl, rfl⟩)
  · replace h := g_pos hc4 h
    refine AW.aload_n dX11_mark_7 rfl ?_
    refine AW.iload_n dX11_mark_8 rfl ?_
    obtain ⟨t4, hx6, h⟩ := g_bindE h
    refine AW.callV (b := 101) (As := [.int x1]) hG.2.2 (vX11_225 hG) (hm.1 0 _ rfl) (g_X11_isMarked hK (d := 0) (Nat.le_refl _) hm hx6) (by omega) dX11_mark_9 rfl rfl (Nat.le_of_ble_eq_true rfl) (fun v w9 hq9 h09 => by obtain ⟨rfl, rfl⟩ := hq9; exact ⟨h09, rfl⟩) (by decide) (by decide) (fun _ _ hx => hx) (fun v9 w9 hq9 => ?_)
    obtain ⟨rfl, rfl⟩ := hq9
    show AW G _ d _ _ 12 [some (.ref 101), some (.int x1)] [.int (kb t4)] (sh, I, R, L, g) 0 0
    refine AW.if_ne 20 dX11_mark_12 (by decide) (fun hc12 => ?_) (fun hc12 => ?_)
    · replace h := g_pos (kb_1.mp hc12) h
      refine AW.aload_n dX11_mark_20 rfl ?_
      refine AW.getI (fX11_207 hG).r rfl (hm.1 0 _ rfl) dX11_mark_21 ?_
      refine AW.if_ne 31 dX11_mark_24 (by decide) (fun hc24 => ?_) (fun hc24 => ?_)
      · replace h := g_neg hc24 h
        exact AW.vret dX11_mark_31 rfl (by decide) (by decide) (by cases h; exact ⟨rfl, rfl⟩)
      · replace h := g_pos hc24 h
        refine AW.aload_n dX11_mark_27 rfl ?_
        obtain ⟨I8, hx9, h⟩ := g_bindE h
        refine AW.callV (b := 101) (As := []) hG.2.2 (vX11_232 hG) (hm.1 0 _ rfl) (g_X11_stepOn hK (d := 1) (Nat.le_refl _) hm hx9) (by omega) dX11_mark_28 rfl rfl (Nat.le_of_ble_eq_true rfl) (fun v w9 hq9 h09 => by obtain ⟨rfl, rfl⟩ := hq9; exact ⟨h09, rfl⟩) (by decide) (by decide) (fun _ _ hx => hx) (fun v9 w9 hq9 => ?_)
        obtain ⟨rfl, rfl⟩ := hq9
        show AW G _ d _ _ 31 [some (.ref 101), some (.int x1)] [] (sh, I8, R, L, g) 0 0
        exact AW.vret dX11_mark_31 rfl (by decide) (by decide) (by cases h; exact ⟨rfl, rfl⟩)
    · replace h := g_neg (g_kb0 hc12) h
      refine AW.aload_n dX11_mark_15 rfl ?_
      refine AW.iconst 1 dX11_mark_16 (by decide) ?_
      obtain ⟨I11, hx12, h⟩ := g_bindE h
      refine AW.callV (b := 101) (As := [.int 1]) hG.2.2 (vX11_228 hG) (hm.1 0 _ rfl) (g_X11_wrong hK (d := 0) (Nat.le_refl _) hm hx12) (by omega) dX11_mark_17 rfl rfl (Nat.le_of_ble_eq_true rfl) (fun v w9 hq9 h09 => by obtain ⟨rfl, rfl⟩ := hq9; exact ⟨h09, rfl⟩) (by decide) (by decide) (fun _ _ hx => hx) (fun v9 w9 hq9 => ?_)
      obtain ⟨rfl, rfl⟩ := hq9
      show AW G _ d _ _ 20 [some (.ref 101), some (.int x1)] [] (sh, I11, R, L, g) 0 0
      refine AW.aload_n dX11_mark_20 rfl ?_
      refine AW.getI (fX11_207 hG).r rfl (hm.1 0 _ rfl) dX11_mark_21 ?_
      refine AW.if_ne 31 dX11_mark_24 (by decide) (fun hc24 => ?_) (fun hc24 => ?_)
      · replace h := g_neg hc24 h
        exact AW.vret dX11_mark_31 rfl (by decide) (by decide) (by cases h; exact ⟨rfl, rfl⟩)
      · replace h := g_pos hc24 h
        refine AW.aload_n dX11_mark_27 rfl ?_
        obtain ⟨I14, hx15, h⟩ := g_bindE h
        refine AW.callV (b := 101) (As := []) hG.2.2 (vX11_232 hG) (hm.1 0 _ rfl) (g_X11_stepOn hK (d := 1) (Nat.le_refl _) hm hx15) (by omega) dX11_mark_28 rfl rfl (Nat.le_of_ble_eq_true rfl) (fun v w9 hq9 h09 => by obtain ⟨rfl, rfl⟩ := hq9; exact ⟨h09, rfl⟩) (by decide) (by decide) (fun _ _ hx => hx) (fun v9 w9 hq9 => ?_)
        obtain ⟨rfl, rfl⟩ := hq9
        show AW G _ d _ _ 31 [some (.ref 101), some (.int x1)] [] (sh, I14, R, L, g) 0 0
        exact AW.vret dX11_mark_31 rfl (by decide) (by decide) (by cases h; exact ⟨rfl, rfl⟩)
theorem dX11_numberNow_0 : decode cX11_numberNow 0 = .ok (.aload_n 0, 1) := by decide +kernel
theorem dX11_numberNow_1 : decode cX11_numberNow 1 = .ok (.getfield 207, 3) := by decide +kernel
theorem dX11_numberNow_4 : decode cX11_numberNow 4 = .ok (.ifCond .eq 5, 3) := by decide +kernel
theorem dX11_numberNow_7 : decode cX11_numberNow 7 = .ok (.iconst 0, 1) := by decide +kernel
theorem dX11_numberNow_8 : decode cX11_numberNow 8 = .ok (.ireturn, 1) := by decide +kernel
theorem dX11_numberNow_9 : decode cX11_numberNow 9 = .ok (.aload_n 0, 1) := by decide +kernel
theorem dX11_numberNow_10 : decode cX11_numberNow 10 = .ok (.getfield 181, 3) := by decide +kernel
theorem dX11_numberNow_13 : decode cX11_numberNow 13 = .ok (.iconst 2, 1) := by decide +kernel
theorem dX11_numberNow_14 : decode cX11_numberNow 14 = .ok (.if_icmp .eq 11, 3) := by decide +kernel
theorem dX11_numberNow_17 : decode cX11_numberNow 17 = .ok (.aload_n 0, 1) := by decide +kernel
theorem dX11_numberNow_18 : decode cX11_numberNow 18 = .ok (.iconst 1, 1) := by decide +kernel
theorem dX11_numberNow_19 : decode cX11_numberNow 19 = .ok (.invokevirtual 228, 3) := by decide +kernel
theorem dX11_numberNow_22 : decode cX11_numberNow 22 = .ok (.goto 37, 3) := by decide +kernel
theorem dX11_numberNow_25 : decode cX11_numberNow 25 = .ok (.aload_n 0, 1) := by decide +kernel
theorem dX11_numberNow_26 : decode cX11_numberNow 26 = .ok (.getfield 204, 3) := by decide +kernel
theorem dX11_numberNow_29 : decode cX11_numberNow 29 = .ok (.aload_n 0, 1) := by decide +kernel
theorem dX11_numberNow_30 : decode cX11_numberNow 30 = .ok (.getfield 178, 3) := by decide +kernel
theorem dX11_numberNow_33 : decode cX11_numberNow 33 = .ok (.isub, 1) := by decide +kernel
theorem dX11_numberNow_34 : decode cX11_numberNow 34 = .ok (.iconst 4, 1) := by decide +kernel
theorem dX11_numberNow_35 : decode cX11_numberNow 35 = .ok (.if_icmp .gt 19, 3) := by decide +kernel
theorem dX11_numberNow_38 : decode cX11_numberNow 38 = .ok (.aload_n 0, 1) := by decide +kernel
theorem dX11_numberNow_39 : decode cX11_numberNow 39 = .ok (.getfield 191, 3) := by decide +kernel
theorem dX11_numberNow_42 : decode cX11_numberNow 42 = .ok (.iload_n 1, 1) := by decide +kernel
theorem dX11_numberNow_43 : decode cX11_numberNow 43 = .ok (.if_icmp .lt 11, 3) := by decide +kernel
theorem dX11_numberNow_46 : decode cX11_numberNow 46 = .ok (.aload_n 0, 1) := by decide +kernel
theorem dX11_numberNow_47 : decode cX11_numberNow 47 = .ok (.getfield 191, 3) := by decide +kernel
theorem dX11_numberNow_50 : decode cX11_numberNow 50 = .ok (.iload_n 2, 1) := by decide +kernel
theorem dX11_numberNow_51 : decode cX11_numberNow 51 = .ok (.if_icmp .le 8, 3) := by decide +kernel
theorem dX11_numberNow_54 : decode cX11_numberNow 54 = .ok (.aload_n 0, 1) := by decide +kernel
theorem dX11_numberNow_55 : decode cX11_numberNow 55 = .ok (.iconst 2, 1) := by decide +kernel
theorem dX11_numberNow_56 : decode cX11_numberNow 56 = .ok (.invokevirtual 228, 3) := by decide +kernel
theorem dX11_numberNow_59 : decode cX11_numberNow 59 = .ok (.aload_n 0, 1) := by decide +kernel
theorem dX11_numberNow_60 : decode cX11_numberNow 60 = .ok (.getfield 207, 3) := by decide +kernel
theorem dX11_numberNow_63 : decode cX11_numberNow 63 = .ok (.ifCond .ne 10, 3) := by decide +kernel
theorem dX11_numberNow_66 : decode cX11_numberNow 66 = .ok (.aload_n 0, 1) := by decide +kernel
theorem dX11_numberNow_67 : decode cX11_numberNow 67 = .ok (.getfield 191, 3) := by decide +kernel
theorem dX11_numberNow_70 : decode cX11_numberNow 70 = .ok (.goto 4, 3) := by decide +kernel
theorem dX11_numberNow_73 : decode cX11_numberNow 73 = .ok (.iconst 0, 1) := by decide +kernel
theorem dX11_numberNow_74 : decode cX11_numberNow 74 = .ok (.ireturn, 1) := by decide +kernel
def b_X11_numberNow (I : g_I) (x1 : Int32) (x2 : Int32) : Option (Int32 × g_I) :=
  g_let (fun (I59j : g_I) => if (I59j 101 24) = 0 then some (I59j 101 21, I59j) else some (0, I59j)) fun J59 => if (I 101 24) = 0 then if (I 101 20) = 2 then if 4 < ((I 101 23) - (I 101 22)) then g_bind (b_X11_wrong I 2) fun I2 => J59 I2 else if (I 101 21) < x1 then g_bind (b_X11_wrong I 2) fun I5 => J59 I5 else if (I 101 21) ≤ x2 then J59 I else g_bind (b_X11_wrong I 2) fun I8 => J59 I8 else g_bind (b_X11_wrong I 1) fun I11 => J59 I11 else some (0, I)
set_option maxRecDepth 100000 in
set_option maxHeartbeats 4000000 in
theorem g_X11_numberNow {G : am_G} (hK : k_OK G) {d : Nat} (hd : 1 ≤ d) {sh : List (Nat ⊕ (Nat × Nat))} {I : g_I} {R : Nat → Nat → Option Nat} {L : Nat → Nat → Int64} {g : Nat} (hm : k_Mod sh R) {x1 : Int32} {x2 : Int32} {r : Int32 × g_I} (h : b_X11_numberNow I x1 x2 = some r) : AM G mX11_numberNow d [.ref 101, .int x1, .int x2] (sh, I, R, L, g) (fun v w => v = some (.int r.1) ∧ w = (sh, r.2, R, L, g)) (fun _ _ => False) := by
  have hG := hK.1
  refine AM.of (n := 0) (by decide +kernel) (Nat.le_of_ble_eq_true rfl) ?_
  show AW G mX11_numberNow d (fun v w => v = some (.int r.1) ∧ w = (sh, r.2, R, L, g)) (fun _ _ => False) 0 [some (.ref 101), some (.int x1), some (.int x2)] [] (sh, I, R, L, g) 0 0
  unfold b_X11_numberNow at h
  obtain ⟨J59, eJ59, h⟩ := g_letE h
  have H59 : ∀ (I59j : g_I), J59 I59j = some r → AW G mX11_numberNow d (fun v w => v = some (.int r.1) ∧ w = (sh, r.2, R, L, g)) (fun _ _ => False) 59 [some (.ref 101), none, none] [] (sh, I59j, R, L, g) 0 0 := by
    intro I59j h
    rw [eJ59] at h
    refine AW.aload_n dX11_numberNow_59 rfl ?_
    refine AW.getI (fX11_207 hG).r rfl (hm.1 0 _ rfl) dX11_numberNow_60 ?_
    refine AW.if_ne 73 dX11_numberNow_63 (by decide) (fun hc63 => ?_) (fun hc63 => ?_)
    · replace h := g_neg hc63 h
      refine AW.iconst 0 dX11_numberNow_73 (by decide) ?_
      exact AW.iret dX11_numberNow_74 rfl (by decide) (by decide) (by cases h; exact ⟨rfl, rfl⟩)
    · replace h := g_pos hc63 h
      refine AW.aload_n dX11_numberNow_66 rfl ?_
      refine AW.getI (fX11_191 hG).r rfl (hm.1 0 _ rfl) dX11_numberNow_67 ?_
      refine AW.goto 74 dX11_numberNow_70 (by decide) ?_
      exact AW.iret dX11_numberNow_74 rfl (by decide) (by decide) (by cases h; exact ⟨rfl, rfl⟩)
  refine AW.aload_n dX11_numberNow_0 rfl ?_
  refine AW.getI (fX11_207 hG).r rfl (hm.1 0 _ rfl) dX11_numberNow_1 ?_
  refine AW.if_eq 9 dX11_numberNow_4 (by decide) (fun hc4 => ?_) (fun hc4 => ?_)
  · replace h := g_pos hc4 h
    refine AW.aload_n dX11_numberNow_9 rfl ?_
    refine AW.getI (fX11_181 hG).r rfl (hm.1 0 _ rfl) dX11_numberNow_10 ?_
    refine AW.iconst 2 dX11_numberNow_13 (by decide) ?_
    refine AW.icmp_eq 25 dX11_numberNow_14 (by decide) (fun hc14 => ?_) (fun hc14 => ?_)
    · replace h := g_pos hc14 h
      refine AW.aload_n dX11_numberNow_25 rfl ?_
      refine AW.getI (fX11_204 hG).r rfl (hm.1 0 _ rfl) dX11_numberNow_26 ?_
      refine AW.aload_n dX11_numberNow_29 rfl ?_
      refine AW.getI (fX11_178 hG).r rfl (hm.1 0 _ rfl) dX11_numberNow_30 ?_
      refine AW.isub dX11_numberNow_33 ?_
      refine AW.iconst 4 dX11_numberNow_34 (by decide) ?_
      refine AW.icmp_gt 54 dX11_numberNow_35 (by decide) (fun hc35 => ?_) (fun hc35 => ?_)
      · replace h := g_pos hc35 h
        refine AW.aload_n dX11_numberNow_54 rfl ?_
        refine AW.iconst 2 dX11_numberNow_55 (by decide) ?_
        obtain ⟨I2, hx3, h⟩ := g_bindE h
        refine AW.callV (b := 101) (As := [.int 2]) hG.2.2 (vX11_228 hG) (hm.1 0 _ rfl) (g_X11_wrong hK (d := 0) (Nat.le_refl _) hm hx3) (by omega) dX11_numberNow_56 rfl rfl (Nat.le_of_ble_eq_true rfl) (fun v w9 hq9 h09 => by obtain ⟨rfl, rfl⟩ := hq9; exact ⟨h09, rfl⟩) (by decide) (by decide) (fun _ _ hx => hx) (fun v9 w9 hq9 => ?_)
        obtain ⟨rfl, rfl⟩ := hq9
        show AW G _ d _ _ 59 [some (.ref 101), some (.int x1), some (.int x2)] [] (sh, I2, R, L, g) 0 0
        refine AW.mask [1, 2] [some (.ref 101), none, none] rfl ?_
        exact H59 _ h
      · replace h := g_neg hc35 h
        refine AW.aload_n dX11_numberNow_38 rfl ?_
        refine AW.getI (fX11_191 hG).r rfl (hm.1 0 _ rfl) dX11_numberNow_39 ?_
        refine AW.iload_n dX11_numberNow_42 rfl ?_
        refine AW.icmp_lt 54 dX11_numberNow_43 (by decide) (fun hc43 => ?_) (fun hc43 => ?_)
        · replace h := g_pos hc43 h
          refine AW.aload_n dX11_numberNow_54 rfl ?_
          refine AW.iconst 2 dX11_numberNow_55 (by decide) ?_
          obtain ⟨I5, hx6, h⟩ := g_bindE h
          refine AW.callV (b := 101) (As := [.int 2]) hG.2.2 (vX11_228 hG) (hm.1 0 _ rfl) (g_X11_wrong hK (d := 0) (Nat.le_refl _) hm hx6) (by omega) dX11_numberNow_56 rfl rfl (Nat.le_of_ble_eq_true rfl) (fun v w9 hq9 h09 => by obtain ⟨rfl, rfl⟩ := hq9; exact ⟨h09, rfl⟩) (by decide) (by decide) (fun _ _ hx => hx) (fun v9 w9 hq9 => ?_)
          obtain ⟨rfl, rfl⟩ := hq9
          show AW G _ d _ _ 59 [some (.ref 101), some (.int x1), some (.int x2)] [] (sh, I5, R, L, g) 0 0
          refine AW.mask [1, 2] [some (.ref 101), none, none] rfl ?_
          exact H59 _ h
        · replace h := g_neg hc43 h
          refine AW.aload_n dX11_numberNow_46 rfl ?_
          refine AW.getI (fX11_191 hG).r rfl (hm.1 0 _ rfl) dX11_numberNow_47 ?_
          refine AW.iload_n dX11_numberNow_50 rfl ?_
          refine AW.icmp_le 59 dX11_numberNow_51 (by decide) (fun hc51 => ?_) (fun hc51 => ?_)
          · replace h := g_pos hc51 h
            refine AW.mask [1, 2] [some (.ref 101), none, none] rfl ?_
            exact H59 _ h
          · replace h := g_neg hc51 h
            refine AW.aload_n dX11_numberNow_54 rfl ?_
            refine AW.iconst 2 dX11_numberNow_55 (by decide) ?_
            obtain ⟨I8, hx9, h⟩ := g_bindE h
            refine AW.callV (b := 101) (As := [.int 2]) hG.2.2 (vX11_228 hG) (hm.1 0 _ rfl) (g_X11_wrong hK (d := 0) (Nat.le_refl _) hm hx9) (by omega) dX11_numberNow_56 rfl rfl (Nat.le_of_ble_eq_true rfl) (fun v w9 hq9 h09 => by obtain ⟨rfl, rfl⟩ := hq9; exact ⟨h09, rfl⟩) (by decide) (by decide) (fun _ _ hx => hx) (fun v9 w9 hq9 => ?_)
            obtain ⟨rfl, rfl⟩ := hq9
            show AW G _ d _ _ 59 [some (.ref 101), some (.int x1), some (.int x2)] [] (sh, I8, R, L, g) 0 0
            refine AW.mask [1, 2] [some (.ref 101), none, none] rfl ?_
            exact H59 _ h
    · replace h := g_neg hc14 h
      refine AW.aload_n dX11_numberNow_17 rfl ?_
      refine AW.iconst 1 dX11_numberNow_18 (by decide) ?_
      obtain ⟨I11, hx12, h⟩ := g_bindE h
      refine AW.callV (b := 101) (As := [.int 1]) hG.2.2 (vX11_228 hG) (hm.1 0 _ rfl) (g_X11_wrong hK (d := 0) (Nat.le_refl _) hm hx12) (by omega) dX11_numberNow_19 rfl rfl (Nat.le_of_ble_eq_true rfl) (fun v w9 hq9 h09 => by obtain ⟨rfl, rfl⟩ := hq9; exact ⟨h09, rfl⟩) (by decide) (by decide) (fun _ _ hx => hx) (fun v9 w9 hq9 => ?_)
      obtain ⟨rfl, rfl⟩ := hq9
      show AW G _ d _ _ 22 [some (.ref 101), some (.int x1), some (.int x2)] [] (sh, I11, R, L, g) 0 0
      refine AW.goto 59 dX11_numberNow_22 (by decide) ?_
      refine AW.mask [1, 2] [some (.ref 101), none, none] rfl ?_
      exact H59 _ h
  · replace h := g_neg hc4 h
    refine AW.iconst 0 dX11_numberNow_7 (by decide) ?_
    exact AW.iret dX11_numberNow_8 rfl (by decide) (by decide) (by cases h; exact ⟨rfl, rfl⟩)
theorem dX11_readNumber_0 : decode cX11_readNumber 0 = .ok (.aload_n 0, 1) := by decide +kernel
theorem dX11_readNumber_1 : decode cX11_readNumber 1 = .ok (.iload_n 1, 1) := by decide +kernel
theorem dX11_readNumber_2 : decode cX11_readNumber 2 = .ok (.iload_n 2, 1) := by decide +kernel
theorem dX11_readNumber_3 : decode cX11_readNumber 3 = .ok (.invokevirtual 235, 3) := by decide +kernel
theorem dX11_readNumber_6 : decode cX11_readNumber 6 = .ok (.istore_n 3, 1) := by decide +kernel
theorem dX11_readNumber_7 : decode cX11_readNumber 7 = .ok (.aload_n 0, 1) := by decide +kernel
theorem dX11_readNumber_8 : decode cX11_readNumber 8 = .ok (.getfield 207, 3) := by decide +kernel
theorem dX11_readNumber_11 : decode cX11_readNumber 11 = .ok (.ifCond .ne 7, 3) := by decide +kernel
theorem dX11_readNumber_14 : decode cX11_readNumber 14 = .ok (.aload_n 0, 1) := by decide +kernel
theorem dX11_readNumber_15 : decode cX11_readNumber 15 = .ok (.invokevirtual 232, 3) := by decide +kernel
theorem dX11_readNumber_18 : decode cX11_readNumber 18 = .ok (.iload_n 3, 1) := by decide +kernel
theorem dX11_readNumber_19 : decode cX11_readNumber 19 = .ok (.ireturn, 1) := by decide +kernel
def b_X11_readNumber (I : g_I) (x1 : Int32) (x2 : Int32) : Option (Int32 × g_I) :=
  g_bind2 (b_X11_numberNow I x1 x2) fun a1 I2 => if (I2 101 24) = 0 then g_bind (b_X11_stepOn I2) fun I5 => some (a1, I5) else some (a1, I2)
set_option maxRecDepth 100000 in
set_option maxHeartbeats 4000000 in
theorem g_X11_readNumber {G : am_G} (hK : k_OK G) {d : Nat} (hd : 2 ≤ d) {sh : List (Nat ⊕ (Nat × Nat))} {I : g_I} {R : Nat → Nat → Option Nat} {L : Nat → Nat → Int64} {g : Nat} (hm : k_Mod sh R) {x1 : Int32} {x2 : Int32} {r : Int32 × g_I} (h : b_X11_readNumber I x1 x2 = some r) : AM G mX11_readNumber d [.ref 101, .int x1, .int x2] (sh, I, R, L, g) (fun v w => v = some (.int r.1) ∧ w = (sh, r.2, R, L, g)) (fun _ _ => False) := by
  have hG := hK.1
  refine AM.of (n := 1) (by decide +kernel) (Nat.le_of_ble_eq_true rfl) ?_
  show AW G mX11_readNumber d (fun v w => v = some (.int r.1) ∧ w = (sh, r.2, R, L, g)) (fun _ _ => False) 0 [some (.ref 101), some (.int x1), some (.int x2), none] [] (sh, I, R, L, g) 0 0
  unfold b_X11_readNumber at h
  refine AW.aload_n dX11_readNumber_0 rfl ?_
  refine AW.iload_n dX11_readNumber_1 rfl ?_
  refine AW.iload_n dX11_readNumber_2 rfl ?_
  obtain ⟨a1, I2, hx3, h⟩ := g_bind2E h
  refine AW.callV (b := 101) (As := [.int x1, .int x2]) hG.2.2 (vX11_235 hG) (hm.1 0 _ rfl) (g_X11_numberNow hK (d := 1) (Nat.le_refl _) hm hx3) (by omega) dX11_readNumber_3 rfl rfl (Nat.le_of_ble_eq_true rfl) (fun v w9 hq9 h09 => by obtain ⟨rfl, rfl⟩ := hq9; exact ⟨h09, rfl⟩) (by decide) (by decide) (fun _ _ hx => hx) (fun v9 w9 hq9 => ?_)
  obtain ⟨rfl, rfl⟩ := hq9
  show AW G _ d _ _ 6 [some (.ref 101), some (.int x1), some (.int x2), none] [.int a1] (sh, I2, R, L, g) 0 0
  refine AW.is_n [some (.ref 101), some (.int x1), some (.int x2), some (.int a1)] dX11_readNumber_6 (by decide) rfl rfl ?_
  refine AW.aload_n dX11_readNumber_7 rfl ?_
  refine AW.getI (fX11_207 hG).r rfl (hm.1 0 _ rfl) dX11_readNumber_8 ?_
  refine AW.if_ne 18 dX11_readNumber_11 (by decide) (fun hc11 => ?_) (fun hc11 => ?_)
  · replace h := g_neg hc11 h
    refine AW.iload_n dX11_readNumber_18 rfl ?_
    exact AW.iret dX11_readNumber_19 rfl (by decide) (by decide) (by cases h; exact ⟨rfl, rfl⟩)
  · replace h := g_pos hc11 h
    refine AW.aload_n dX11_readNumber_14 rfl ?_
    obtain ⟨I5, hx6, h⟩ := g_bindE h
    refine AW.callV (b := 101) (As := []) hG.2.2 (vX11_232 hG) (hm.1 0 _ rfl) (g_X11_stepOn hK (d := 1) (Nat.le_refl _) hm hx6) (by omega) dX11_readNumber_15 rfl rfl (Nat.le_of_ble_eq_true rfl) (fun v w9 hq9 h09 => by obtain ⟨rfl, rfl⟩ := hq9; exact ⟨h09, rfl⟩) (by decide) (by decide) (fun _ _ hx => hx) (fun v9 w9 hq9 => ?_)
    obtain ⟨rfl, rfl⟩ := hq9
    show AW G _ d _ _ 18 [some (.ref 101), some (.int x1), some (.int x2), some (.int a1)] [] (sh, I5, R, L, g) 0 0
    refine AW.iload_n dX11_readNumber_18 rfl ?_
    exact AW.iret dX11_readNumber_19 rfl (by decide) (by decide) (by cases h; exact ⟨rfl, rfl⟩)
