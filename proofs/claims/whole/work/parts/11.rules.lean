/-! THE RULES OF AW, AN INSTRUCTION EACH -/
section AMR
variable {G : am_G} {M : am_M} {d : Nat} {Rt : Option Value → am_w → Prop} {Th : String → am_w → Prop} {pc : Nat} {ls : List (Option Value)} {st : List Value} {w : am_w} {uc us : Nat}
theorem AW.iadd {x y : Int32} (hd : decode (am_b M) pc = .ok (.iadd, 1))  (k : AW G M d Rt Th (pc + 1) ls (.int (x + y) :: st) w uc us) : AW G M d Rt Th pc ls (.int y :: .int x :: st) w uc us := by
  intro p e s m args below meth c hC H locs la hH hL
  exact lv_iadd hC.1 hC.2.1 hd  (k p e s m args below meth c hC H locs la hH hL)
theorem AW.isub {x y : Int32} (hd : decode (am_b M) pc = .ok (.isub, 1))  (k : AW G M d Rt Th (pc + 1) ls (.int (x - y) :: st) w uc us) : AW G M d Rt Th pc ls (.int y :: .int x :: st) w uc us := by
  intro p e s m args below meth c hC H locs la hH hL
  exact lv_isub hC.1 hC.2.1 hd  (k p e s m args below meth c hC H locs la hH hL)
theorem AW.imul {x y : Int32} (hd : decode (am_b M) pc = .ok (.imul, 1))  (k : AW G M d Rt Th (pc + 1) ls (.int (x * y) :: st) w uc us) : AW G M d Rt Th pc ls (.int y :: .int x :: st) w uc us := by
  intro p e s m args below meth c hC H locs la hH hL
  exact lv_imul hC.1 hC.2.1 hd  (k p e s m args below meth c hC H locs la hH hL)
theorem AW.iand {x y : Int32} (hd : decode (am_b M) pc = .ok (.iand, 1))  (k : AW G M d Rt Th (pc + 1) ls (.int (x &&& y) :: st) w uc us) : AW G M d Rt Th pc ls (.int y :: .int x :: st) w uc us := by
  intro p e s m args below meth c hC H locs la hH hL
  exact lv_iand hC.1 hC.2.1 hd  (k p e s m args below meth c hC H locs la hH hL)
theorem AW.ior {x y : Int32} (hd : decode (am_b M) pc = .ok (.ior, 1))  (k : AW G M d Rt Th (pc + 1) ls (.int (x ||| y) :: st) w uc us) : AW G M d Rt Th pc ls (.int y :: .int x :: st) w uc us := by
  intro p e s m args below meth c hC H locs la hH hL
  exact lv_ior hC.1 hC.2.1 hd  (k p e s m args below meth c hC H locs la hH hL)
theorem AW.ixor {x y : Int32} (hd : decode (am_b M) pc = .ok (.ixor, 1))  (k : AW G M d Rt Th (pc + 1) ls (.int (x ^^^ y) :: st) w uc us) : AW G M d Rt Th pc ls (.int y :: .int x :: st) w uc us := by
  intro p e s m args below meth c hC H locs la hH hL
  exact lv_ixor hC.1 hC.2.1 hd  (k p e s m args below meth c hC H locs la hH hL)
theorem AW.ineg {x : Int32} (hd : decode (am_b M) pc = .ok (.ineg, 1))  (k : AW G M d Rt Th (pc + 1) ls (.int (-x) :: st) w uc us) : AW G M d Rt Th pc ls (.int x :: st) w uc us := by
  intro p e s m args below meth c hC H locs la hH hL
  exact lv_ineg hC.1 hC.2.1 hd  (k p e s m args below meth c hC H locs la hH hL)
theorem AW.idiv {x y : Int32} (hd : decode (am_b M) pc = .ok (.idiv, 1)) (hne : ¬ y = 0) (k : AW G M d Rt Th (pc + 1) ls (.int (x / y) :: st) w uc us) : AW G M d Rt Th pc ls (.int y :: .int x :: st) w uc us := by
  intro p e s m args below meth c hC H locs la hH hL
  exact lv_idiv hC.1 hC.2.1 hd hne (k p e s m args below meth c hC H locs la hH hL)
theorem AW.irem {x y : Int32} (hd : decode (am_b M) pc = .ok (.irem, 1)) (hne : ¬ y = 0) (k : AW G M d Rt Th (pc + 1) ls (.int (x - x / y * y) :: st) w uc us) : AW G M d Rt Th pc ls (.int y :: .int x :: st) w uc us := by
  intro p e s m args below meth c hC H locs la hH hL
  exact lv_irem hC.1 hC.2.1 hd hne (k p e s m args below meth c hC H locs la hH hL)
theorem AW.ishl {x y : Int32} (hd : decode (am_b M) pc = .ok (.ishl, 1))  (k : AW G M d Rt Th (pc + 1) ls (.int (x <<< (y &&& 31)) :: st) w uc us) : AW G M d Rt Th pc ls (.int y :: .int x :: st) w uc us := by
  intro p e s m args below meth c hC H locs la hH hL
  exact lv_ishl hC.1 hC.2.1 hd  (k p e s m args below meth c hC H locs la hH hL)
theorem AW.ishr {x y : Int32} (hd : decode (am_b M) pc = .ok (.ishr, 1))  (k : AW G M d Rt Th (pc + 1) ls (.int (x >>> (y &&& 31)) :: st) w uc us) : AW G M d Rt Th pc ls (.int y :: .int x :: st) w uc us := by
  intro p e s m args below meth c hC H locs la hH hL
  exact lv_ishr hC.1 hC.2.1 hd  (k p e s m args below meth c hC H locs la hH hL)
theorem AW.iushr {x y : Int32} (hd : decode (am_b M) pc = .ok (.iushr, 1))  (k : AW G M d Rt Th (pc + 1) ls (.int ((x.toUInt32 >>> (y.toUInt32 &&& Int32.toUInt32 31)).toInt32) :: st) w uc us) : AW G M d Rt Th pc ls (.int y :: .int x :: st) w uc us := by
  intro p e s m args below meth c hC H locs la hH hL
  exact lv_iushr hC.1 hC.2.1 hd rfl (k p e s m args below meth c hC H locs la hH hL)
theorem AW.i2l {x : Int32} (hd : decode (am_b M) pc = .ok (.i2l, 1))  (k : AW G M d Rt Th (pc + 1) ls (.long x.toInt64 :: st) w uc us) : AW G M d Rt Th pc ls (.int x :: st) w uc us := by
  intro p e s m args below meth c hC H locs la hH hL
  exact lv_i2l hC.1 hC.2.1 hd rfl (k p e s m args below meth c hC H locs la hH hL)
theorem AW.i2b {x : Int32} (hd : decode (am_b M) pc = .ok (.i2b, 1))  (k : AW G M d Rt Th (pc + 1) ls (.int x.toInt8.toInt32 :: st) w uc us) : AW G M d Rt Th pc ls (.int x :: st) w uc us := by
  intro p e s m args below meth c hC H locs la hH hL
  exact lv_i2b hC.1 hC.2.1 hd rfl (k p e s m args below meth c hC H locs la hH hL)
theorem AW.i2c {x : Int32} (hd : decode (am_b M) pc = .ok (.i2c, 1))  (k : AW G M d Rt Th (pc + 1) ls (.int (x.toUInt32 % 65536).toInt32 :: st) w uc us) : AW G M d Rt Th pc ls (.int x :: st) w uc us := by
  intro p e s m args below meth c hC H locs la hH hL
  exact lv_i2c hC.1 hC.2.1 hd rfl (k p e s m args below meth c hC H locs la hH hL)
theorem AW.dup {v : Value} (hd : decode (am_b M) pc = .ok (.dup, 1)) (hv : v.category = 1) (k : AW G M d Rt Th (pc + 1) ls (v :: v :: st) w uc us) : AW G M d Rt Th pc ls (v :: st) w uc us := by
  intro p e s m args below meth c hC H locs la hH hL
  exact lv_dup hC.1 hC.2.1 hd ((am_cat G v).trans hv) (k p e s m args below meth c hC H locs la hH hL)
theorem AW.pop {v : Value} (hd : decode (am_b M) pc = .ok (.pop, 1)) (hv : v.category = 1) (k : AW G M d Rt Th (pc + 1) ls (st) w uc us) : AW G M d Rt Th pc ls (v :: st) w uc us := by
  intro p e s m args below meth c hC H locs la hH hL
  exact lv_pop hC.1 hC.2.1 hd ((am_cat G v).trans hv) (k p e s m args below meth c hC H locs la hH hL)
theorem AW.dup2 {v u : Value} (hd : decode (am_b M) pc = .ok (.dup2, 1)) (hv : v.category = 1) (hu : u.category = 1) (k : AW G M d Rt Th (pc + 1) ls (v :: u :: v :: u :: st) w uc us) : AW G M d Rt Th pc ls (v :: u :: st) w uc us := by
  intro p e s m args below meth c hC H locs la hH hL
  exact lv_dup2_11 hC.1 hC.2.1 hd ((am_cat G v).trans hv) ((am_cat G u).trans hu) (k p e s m args below meth c hC H locs la hH hL)
theorem AW.dup_x1 {v u : Value} (hd : decode (am_b M) pc = .ok (.dup_x1, 1)) (hv : v.category = 1) (hu : u.category = 1) (k : AW G M d Rt Th (pc + 1) ls (v :: u :: v :: st) w uc us) : AW G M d Rt Th pc ls (v :: u :: st) w uc us := by
  intro p e s m args below meth c hC H locs la hH hL
  exact lv_dup_x1 hC.1 hC.2.1 hd ((am_cat G v).trans hv) ((am_cat G u).trans hu) (k p e s m args below meth c hC H locs la hH hL)
theorem AW.iconst {n : Int} (v : Int32) (hd : decode (am_b M) pc = .ok (.iconst n, 1)) (hv : Int32.ofInt n = v) (k : AW G M d Rt Th (pc + 1) ls (.int v :: st) w uc us) : AW G M d Rt Th pc ls st w uc us := by
  intro p e s m args below meth c hC H locs la hH hL
  exact lv_iconst hC.1 hC.2.1 hd hv (k p e s m args below meth c hC H locs la hH hL)
theorem AW.bipush {n : Int} (v : Int32) (hd : decode (am_b M) pc = .ok (.bipush n, 2)) (hv : (Int8.ofInt n).toInt32 = v) (k : AW G M d Rt Th (pc + 2) ls (.int v :: st) w uc us) : AW G M d Rt Th pc ls st w uc us := by
  intro p e s m args below meth c hC H locs la hH hL
  exact lv_bipush hC.1 hC.2.1 hd hv (k p e s m args below meth c hC H locs la hH hL)
theorem AW.sipush {n : Int} (v : Int32) (hd : decode (am_b M) pc = .ok (.sipush n, 3)) (hv : (Int16.ofInt n).toInt32 = v) (k : AW G M d Rt Th (pc + 3) ls (.int v :: st) w uc us) : AW G M d Rt Th pc ls st w uc us := by
  intro p e s m args below meth c hC H locs la hH hL
  exact lv_sipush hC.1 hC.2.1 hd hv (k p e s m args below meth c hC H locs la hH hL)
theorem AW.lconst {n : Fin 2} (v : Int64) (hd : decode (am_b M) pc = .ok (.lconst n, 1)) (hv : Int64.ofNat (n : Nat) = v) (k : AW G M d Rt Th (pc + 1) ls (.long v :: st) w uc us) : AW G M d Rt Th pc ls st w uc us := by
  intro p e s m args below meth c hC H locs la hH hL
  exact lv_lconst hC.1 hC.2.1 hd hv (k p e s m args below meth c hC H locs la hH hL)
theorem AW.ldc {idx : Nat} (v : Int32) (hd : decode (am_b M) pc = .ok (.ldc idx, 2)) (hc : Cond.constant (am_y M).cls idx v ∈ am_Ts G) (k : AW G M d Rt Th (pc + 2) ls (.int v :: st) w uc us) : AW G M d Rt Th pc ls st w uc us := by
  intro p e s m args below meth c hC H locs la hH hL
  exact lv_ldc hC.1 hC.2.1 hC.2.2.2.1 (hC.2.2.2.2.1 _ hc) hd (k p e s m args below meth c hC H locs la hH hL)
theorem AW.ldc_w {idx : Nat} (v : Int32) (hd : decode (am_b M) pc = .ok (.ldc_w idx, 3)) (hc : Cond.constant (am_y M).cls idx v ∈ am_Ts G) (k : AW G M d Rt Th (pc + 3) ls (.int v :: st) w uc us) : AW G M d Rt Th pc ls st w uc us := by
  intro p e s m args below meth c hC H locs la hH hL
  exact lv_ldcw hC.1 hC.2.1 hC.2.2.2.1 (hC.2.2.2.2.1 _ hc) hd (k p e s m args below meth c hC H locs la hH hL)
theorem AW.ldc2 {idx : Nat} (v : Int64) (hd : decode (am_b M) pc = .ok (.ldc2_w idx, 3)) (hc : Cond.constantLong (am_y M).cls idx v ∈ am_Ts G) (k : AW G M d Rt Th (pc + 3) ls (.long v :: st) w uc us) : AW G M d Rt Th pc ls st w uc us := by
  intro p e s m args below meth c hC H locs la hH hL
  exact lv_ldc2 hC.1 hC.2.1 hC.2.2.2.1 (hC.2.2.2.2.1 _ hc) hd (k p e s m args below meth c hC H locs la hH hL)
theorem AW.iload_n {i : Fin 4} {x : Int32} (hd : decode (am_b M) pc = .ok (.iload_n i, 1)) (hl : ls[(i : Nat)]? = some (some (.int x))) (k : AW G M d Rt Th (pc + 1) ls (.int x :: st) w uc us) : AW G M d Rt Th pc ls st w uc us := by
  intro p e s m args below meth c hC H locs la hH hL
  exact lv_iload_n hC.1 hC.2.1 hd rfl (hL.2.2 _ _ hl) (k p e s m args below meth c hC H locs la hH hL)
theorem AW.iload {i : Nat} {x : Int32} (hd : decode (am_b M) pc = .ok (.iload i, 2)) (hl : ls[i]? = some (some (.int x))) (k : AW G M d Rt Th (pc + 2) ls (.int x :: st) w uc us) : AW G M d Rt Th pc ls st w uc us := by
  intro p e s m args below meth c hC H locs la hH hL
  exact lv_iload hC.1 hC.2.1 hd (hL.2.2 _ _ hl) (k p e s m args below meth c hC H locs la hH hL)
theorem AW.aload_n {i : Fin 4} {x : Nat} (hd : decode (am_b M) pc = .ok (.aload_n i, 1)) (hl : ls[(i : Nat)]? = some (some (.ref x))) (k : AW G M d Rt Th (pc + 1) ls (.ref x :: st) w uc us) : AW G M d Rt Th pc ls st w uc us := by
  intro p e s m args below meth c hC H locs la hH hL
  exact lv_aload_n hC.1 hC.2.1 hd rfl (hL.2.2 _ _ hl) (k p e s m args below meth c hC H locs la hH hL)
theorem AW.aload {i : Nat} {x : Nat} (hd : decode (am_b M) pc = .ok (.aload i, 2)) (hl : ls[i]? = some (some (.ref x))) (k : AW G M d Rt Th (pc + 2) ls (.ref x :: st) w uc us) : AW G M d Rt Th pc ls st w uc us := by
  intro p e s m args below meth c hC H locs la hH hL
  exact lv_aload hC.1 hC.2.1 hd (hL.2.2 _ _ hl) (k p e s m args below meth c hC H locs la hH hL)
theorem AW.lload_n {i : Fin 4} {x : Int64} (hd : decode (am_b M) pc = .ok (.lload_n i, 1)) (hl : ls[(i : Nat)]? = some (some (.long x))) (k : AW G M d Rt Th (pc + 1) ls (.long x :: st) w uc us) : AW G M d Rt Th pc ls st w uc us := by
  intro p e s m args below meth c hC H locs la hH hL
  exact lv_lload_n hC.1 hC.2.1 hd rfl (hL.2.2 _ _ hl) (k p e s m args below meth c hC H locs la hH hL)
theorem AW.lload {i : Nat} {x : Int64} (hd : decode (am_b M) pc = .ok (.lload i, 2)) (hl : ls[i]? = some (some (.long x))) (k : AW G M d Rt Th (pc + 2) ls (.long x :: st) w uc us) : AW G M d Rt Th pc ls st w uc us := by
  intro p e s m args below meth c hC H locs la hH hL
  exact lv_lload hC.1 hC.2.1 hd (hL.2.2 _ _ hl) (k p e s m args below meth c hC H locs la hH hL)
theorem AW.istore_n {i : Fin 4} {x : Int32} (hd : decode (am_b M) pc = .ok (.istore_n i, 1)) (hn : (i : Nat) < am_n M) (hz : am_nl ls (i : Nat) = true) (k : AW G M d Rt Th (pc + 1) (ls.set (i : Nat) (some (.int x))) st w uc us) : AW G M d Rt Th pc ls (.int x :: st) w uc us := by
  intro p e s m args below meth c hC H locs la hH hL
  exact lv_istore_n hC.1 hC.2.1 hd rfl hL.has hn rfl (fun la2 hl2 => k p e s m args below meth c hC H locs la2 hH (am_Ls.set (v := .int x) hz hl2))
theorem AW.istore {i : Nat} {x : Int32} (hd : decode (am_b M) pc = .ok (.istore i, 2)) (hn : i < am_n M) (hz : am_nl ls i = true) (k : AW G M d Rt Th (pc + 2) (ls.set i (some (.int x))) st w uc us) : AW G M d Rt Th pc ls (.int x :: st) w uc us := by
  intro p e s m args below meth c hC H locs la hH hL
  exact lv_istore hC.1 hC.2.1 hd hL.has hn rfl (fun la2 hl2 => k p e s m args below meth c hC H locs la2 hH (am_Ls.set (v := .int x) hz hl2))
theorem AW.astore_n {i : Fin 4} {x : Nat} (hd : decode (am_b M) pc = .ok (.astore_n i, 1)) (hn : (i : Nat) < am_n M) (hz : am_nl ls (i : Nat) = true) (k : AW G M d Rt Th (pc + 1) (ls.set (i : Nat) (some (.ref x))) st w uc us) : AW G M d Rt Th pc ls (.ref x :: st) w uc us := by
  intro p e s m args below meth c hC H locs la hH hL
  exact lv_astore_n hC.1 hC.2.1 hd rfl hL.has hn rfl (fun la2 hl2 => k p e s m args below meth c hC H locs la2 hH (am_Ls.set (v := .ref x) hz hl2))
theorem AW.astore {i : Nat} {x : Nat} (hd : decode (am_b M) pc = .ok (.astore i, 2)) (hn : i < am_n M) (hz : am_nl ls i = true) (k : AW G M d Rt Th (pc + 2) (ls.set i (some (.ref x))) st w uc us) : AW G M d Rt Th pc ls (.ref x :: st) w uc us := by
  intro p e s m args below meth c hC H locs la hH hL
  exact lv_astore hC.1 hC.2.1 hd hL.has hn rfl (fun la2 hl2 => k p e s m args below meth c hC H locs la2 hH (am_Ls.set (v := .ref x) hz hl2))
theorem AW.iinc {i : Nat} {n : Int} {x : Int32} (hd : decode (am_b M) pc = .ok (.iinc i n, 3)) (hl : ls[i]? = some (some (.int x))) (hn : i < am_n M) (hz : am_nl ls i = true) (v : Int32) (hv : x + Int32.ofInt n = v) (k : AW G M d Rt Th (pc + 3) (ls.set i (some (.int v))) st w uc us) : AW G M d Rt Th pc ls st w uc us := by
  intro p e s m args below meth c hC H locs la hH hL
  obtain ⟨j, hj⟩ := List.getElem?_of_mem (am_prs_in (G := G) hl)
  exact lv_iinc hC.1 hC.2.1 hd hL.has (k := j) hj hv hn rfl (fun la2 hl2 => k p e s m args below meth c hC H locs la2 hH (am_Ls.set (v := .int v) hz hl2))
theorem AW.if_eq {x : Int32} {off : Int} (tgt : Nat) (hd : decode (am_b M) pc = .ok (.ifCond .eq off, 3)) (ht : (pc : Int) + off = (tgt : Int)) (k1 : x = 0 → AW G M d Rt Th tgt ls st w uc us) (k2 : ¬ (x = 0) → AW G M d Rt Th (pc + 3) ls st w uc us) : AW G M d Rt Th pc ls (.int x :: st) w uc us := by
  intro p e s m args below meth c hC H locs la hH hL
  exact lv_if_eq hC.1 hC.2.1 hd ht (fun h => k1 h p e s m args below meth c hC H locs la hH hL) (fun h => k2 h p e s m args below meth c hC H locs la hH hL)
theorem AW.icmp_eq {x y : Int32} {off : Int} (tgt : Nat) (hd : decode (am_b M) pc = .ok (.if_icmp .eq off, 3)) (ht : (pc : Int) + off = (tgt : Int)) (k1 : x = y → AW G M d Rt Th tgt ls st w uc us) (k2 : ¬ (x = y) → AW G M d Rt Th (pc + 3) ls st w uc us) : AW G M d Rt Th pc ls (.int y :: .int x :: st) w uc us := by
  intro p e s m args below meth c hC H locs la hH hL
  exact lv_icmp_eq hC.1 hC.2.1 hd ht (fun h => k1 h p e s m args below meth c hC H locs la hH hL) (fun h => k2 h p e s m args below meth c hC H locs la hH hL)
theorem AW.if_ne {x : Int32} {off : Int} (tgt : Nat) (hd : decode (am_b M) pc = .ok (.ifCond .ne off, 3)) (ht : (pc : Int) + off = (tgt : Int)) (k1 : ¬ x = 0 → AW G M d Rt Th tgt ls st w uc us) (k2 : x = 0 → AW G M d Rt Th (pc + 3) ls st w uc us) : AW G M d Rt Th pc ls (.int x :: st) w uc us := by
  intro p e s m args below meth c hC H locs la hH hL
  exact lv_if_ne hC.1 hC.2.1 hd ht (fun h => k1 h p e s m args below meth c hC H locs la hH hL) (fun h => k2 h p e s m args below meth c hC H locs la hH hL)
theorem AW.icmp_ne {x y : Int32} {off : Int} (tgt : Nat) (hd : decode (am_b M) pc = .ok (.if_icmp .ne off, 3)) (ht : (pc : Int) + off = (tgt : Int)) (k1 : ¬ x = y → AW G M d Rt Th tgt ls st w uc us) (k2 : x = y → AW G M d Rt Th (pc + 3) ls st w uc us) : AW G M d Rt Th pc ls (.int y :: .int x :: st) w uc us := by
  intro p e s m args below meth c hC H locs la hH hL
  exact lv_icmp_ne hC.1 hC.2.1 hd ht (fun h => k1 h p e s m args below meth c hC H locs la hH hL) (fun h => k2 h p e s m args below meth c hC H locs la hH hL)
theorem AW.if_lt {x : Int32} {off : Int} (tgt : Nat) (hd : decode (am_b M) pc = .ok (.ifCond .lt off, 3)) (ht : (pc : Int) + off = (tgt : Int)) (k1 : x < 0 → AW G M d Rt Th tgt ls st w uc us) (k2 : ¬ (x < 0) → AW G M d Rt Th (pc + 3) ls st w uc us) : AW G M d Rt Th pc ls (.int x :: st) w uc us := by
  intro p e s m args below meth c hC H locs la hH hL
  exact lv_if_lt hC.1 hC.2.1 hd ht (fun h => k1 h p e s m args below meth c hC H locs la hH hL) (fun h => k2 h p e s m args below meth c hC H locs la hH hL)
theorem AW.icmp_lt {x y : Int32} {off : Int} (tgt : Nat) (hd : decode (am_b M) pc = .ok (.if_icmp .lt off, 3)) (ht : (pc : Int) + off = (tgt : Int)) (k1 : x < y → AW G M d Rt Th tgt ls st w uc us) (k2 : ¬ (x < y) → AW G M d Rt Th (pc + 3) ls st w uc us) : AW G M d Rt Th pc ls (.int y :: .int x :: st) w uc us := by
  intro p e s m args below meth c hC H locs la hH hL
  exact lv_icmp_lt hC.1 hC.2.1 hd ht (fun h => k1 h p e s m args below meth c hC H locs la hH hL) (fun h => k2 h p e s m args below meth c hC H locs la hH hL)
theorem AW.if_ge {x : Int32} {off : Int} (tgt : Nat) (hd : decode (am_b M) pc = .ok (.ifCond .ge off, 3)) (ht : (pc : Int) + off = (tgt : Int)) (k1 : 0 ≤ x → AW G M d Rt Th tgt ls st w uc us) (k2 : ¬ (0 ≤ x) → AW G M d Rt Th (pc + 3) ls st w uc us) : AW G M d Rt Th pc ls (.int x :: st) w uc us := by
  intro p e s m args below meth c hC H locs la hH hL
  exact lv_if_ge hC.1 hC.2.1 hd ht (fun h => k1 h p e s m args below meth c hC H locs la hH hL) (fun h => k2 h p e s m args below meth c hC H locs la hH hL)
theorem AW.icmp_ge {x y : Int32} {off : Int} (tgt : Nat) (hd : decode (am_b M) pc = .ok (.if_icmp .ge off, 3)) (ht : (pc : Int) + off = (tgt : Int)) (k1 : y ≤ x → AW G M d Rt Th tgt ls st w uc us) (k2 : ¬ (y ≤ x) → AW G M d Rt Th (pc + 3) ls st w uc us) : AW G M d Rt Th pc ls (.int y :: .int x :: st) w uc us := by
  intro p e s m args below meth c hC H locs la hH hL
  exact lv_icmp_ge hC.1 hC.2.1 hd ht (fun h => k1 h p e s m args below meth c hC H locs la hH hL) (fun h => k2 h p e s m args below meth c hC H locs la hH hL)
theorem AW.if_gt {x : Int32} {off : Int} (tgt : Nat) (hd : decode (am_b M) pc = .ok (.ifCond .gt off, 3)) (ht : (pc : Int) + off = (tgt : Int)) (k1 : 0 < x → AW G M d Rt Th tgt ls st w uc us) (k2 : ¬ (0 < x) → AW G M d Rt Th (pc + 3) ls st w uc us) : AW G M d Rt Th pc ls (.int x :: st) w uc us := by
  intro p e s m args below meth c hC H locs la hH hL
  exact lv_if_gt hC.1 hC.2.1 hd ht (fun h => k1 h p e s m args below meth c hC H locs la hH hL) (fun h => k2 h p e s m args below meth c hC H locs la hH hL)
theorem AW.icmp_gt {x y : Int32} {off : Int} (tgt : Nat) (hd : decode (am_b M) pc = .ok (.if_icmp .gt off, 3)) (ht : (pc : Int) + off = (tgt : Int)) (k1 : y < x → AW G M d Rt Th tgt ls st w uc us) (k2 : ¬ (y < x) → AW G M d Rt Th (pc + 3) ls st w uc us) : AW G M d Rt Th pc ls (.int y :: .int x :: st) w uc us := by
  intro p e s m args below meth c hC H locs la hH hL
  exact lv_icmp_gt hC.1 hC.2.1 hd ht (fun h => k1 h p e s m args below meth c hC H locs la hH hL) (fun h => k2 h p e s m args below meth c hC H locs la hH hL)
theorem AW.if_le {x : Int32} {off : Int} (tgt : Nat) (hd : decode (am_b M) pc = .ok (.ifCond .le off, 3)) (ht : (pc : Int) + off = (tgt : Int)) (k1 : x ≤ 0 → AW G M d Rt Th tgt ls st w uc us) (k2 : ¬ (x ≤ 0) → AW G M d Rt Th (pc + 3) ls st w uc us) : AW G M d Rt Th pc ls (.int x :: st) w uc us := by
  intro p e s m args below meth c hC H locs la hH hL
  exact lv_if_le hC.1 hC.2.1 hd ht (fun h => k1 h p e s m args below meth c hC H locs la hH hL) (fun h => k2 h p e s m args below meth c hC H locs la hH hL)
theorem AW.icmp_le {x y : Int32} {off : Int} (tgt : Nat) (hd : decode (am_b M) pc = .ok (.if_icmp .le off, 3)) (ht : (pc : Int) + off = (tgt : Int)) (k1 : x ≤ y → AW G M d Rt Th tgt ls st w uc us) (k2 : ¬ (x ≤ y) → AW G M d Rt Th (pc + 3) ls st w uc us) : AW G M d Rt Th pc ls (.int y :: .int x :: st) w uc us := by
  intro p e s m args below meth c hC H locs la hH hL
  exact lv_icmp_le hC.1 hC.2.1 hd ht (fun h => k1 h p e s m args below meth c hC H locs la hH hL) (fun h => k2 h p e s m args below meth c hC H locs la hH hL)
theorem AW.goto {off : Int} (tgt : Nat) (hd : decode (am_b M) pc = .ok (.goto off, 3)) (ht : (pc : Int) + off = (tgt : Int)) (k : AW G M d Rt Th tgt ls st w uc us) : AW G M d Rt Th pc ls st w uc us := by
  intro p e s m args below meth c hC H locs la hH hL
  exact lv_goto hC.1 hC.2.1 hd ht (k p e s m args below meth c hC H locs la hH hL)
theorem AW.tabIn {x : Int32} {dflt lo hi : Int} {offs : Array Int} {len : Nat} {off : Int} (tgt : Nat) (hd : decode (am_b M) pc = .ok (.tableswitch dflt lo hi offs, len)) (h1 : ¬ x.toInt < lo) (h2 : ¬ hi < x.toInt) (ho : offs[(x.toInt - lo).toNat]? = some off) (ht : (pc : Int) + off = (tgt : Int)) (k : AW G M d Rt Th tgt ls st w uc us) : AW G M d Rt Th pc ls (.int x :: st) w uc us := by
  intro p e s m args below meth c hC H locs la hH hL
  exact lv_tableIn hC.1 hC.2.1 hd h1 h2 ho ht (k p e s m args below meth c hC H locs la hH hL)
theorem AW.tabOut {x : Int32} {dflt lo hi : Int} {offs : Array Int} {len : Nat} (tgt : Nat) (hd : decode (am_b M) pc = .ok (.tableswitch dflt lo hi offs, len)) (h : x.toInt < lo ∨ hi < x.toInt) (ht : (pc : Int) + dflt = (tgt : Int)) (k : AW G M d Rt Th tgt ls st w uc us) : AW G M d Rt Th pc ls (.int x :: st) w uc us := by
  intro p e s m args below meth c hC H locs la hH hL
  exact lv_tableOut hC.1 hC.2.1 hd h ht (k p e s m args below meth c hC H locs la hH hL)
theorem AW.iret {x : Int32} (hd : decode (am_b M) pc = .ok (.ireturn, 1)) (hr : am_t M = some .int) (hu : uc ≤ am_mc M) (hv : us ≤ am_ms M) (k : Rt (some (.int x)) w) : AW G M d Rt Th pc ls [.int x] w uc us := by
  intro p e s m args below meth c hC H locs la hH hL
  refine am_sized fun hz => W.widen hu hv (vx_ret ?_)
  exact W.iret hC.1 hC.2.1 (hC.2.2.2.2.2.1.trans hr) (fun t ht hW => ⟨⟨_, w, rfl, k, hH.W hC hz ht hW.alike⟩, hH.2.1.F ht⟩) hH.2.1.2.2 hd hC.2.2.2.2.2.2.1
theorem AW.zret {x : Int32} {ty : FieldType} (hd : decode (am_b M) pc = .ok (.ireturn, 1)) (hr : am_t M = some ty) (hn : narrow ty (.int x) = .int x) (hu : uc ≤ am_mc M) (hv : us ≤ am_ms M) (k : Rt (some (.int x)) w) : AW G M d Rt Th pc ls [.int x] w uc us := by
  intro p e s m args below meth c hC H locs la hH hL
  refine am_sized fun hz => W.widen hu hv (vx_ret ?_)
  exact W.zret hC.1 hC.2.1 (hC.2.2.2.2.2.1.trans hr) hn (fun t ht hW => ⟨⟨_, w, rfl, k, hH.W hC hz ht hW.alike⟩, hH.2.1.F ht⟩) hH.2.1.2.2 hd hC.2.2.2.2.2.2.1
theorem AW.vret  (hd : decode (am_b M) pc = .ok (.return_, 1)) (hr : am_t M = none) (hu : uc ≤ am_mc M) (hv : us ≤ am_ms M) (k : Rt none w) : AW G M d Rt Th pc ls [] w uc us := by
  intro p e s m args below meth c hC H locs la hH hL
  refine am_sized fun hz => W.widen hu hv (vx_ret ?_)
  exact W.vret hC.1 hC.2.1 (hC.2.2.2.2.2.1.trans hr) (fun t ht hW => ⟨⟨_, w, rfl, k, hH.W hC hz ht hW.alike⟩, hH.2.1.F ht⟩) hH.2.1.2.2 hd hC.2.2.2.2.2.2.1
end AMR
