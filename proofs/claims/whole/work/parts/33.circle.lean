/-! CIRCLE -/
def f_row (F f : Nat → Int32) (n : Nat) : Nat → Int32 := fun k => if k < n then F k else f k
theorem f_row_s (F f : Nat → Int32) (n : Nat) : upd (f_row F f n) n (F n) = f_row F f (n + 1) := by
  funext k
  unfold upd f_row
  by_cases h : k = n
  · subst h; rw [if_pos rfl, if_pos (Nat.lt_succ_self k)]
  · rw [if_neg h]
    by_cases h2 : k < n
    · rw [if_pos h2, if_pos (by omega)]
    · rw [if_neg h2, if_neg (by omega)]
theorem f_row_in {F f : Nat → Int32} {n k : Nat} (h : k < n) : f_row F f n k = F k := if_pos h
def f_rm (mt : Nat → Int32) (dy fg : Int32) (p n : Nat) : Int32 := lfold (fun q a => if ¬ mt (8 * p + q) = -1000000 ∧ ¬ fg < dy - mt (8 * p + q) then a ||| ((1 : Int32) <<< (nI q &&& 31)) else a) 0 n
def f_kn (kd hs tw mt : Nat → Int32) (dy fg : Int32) (n p : Nat) : Int32 := (if kd p = 2 then f_dw hs ((1 : Int32) <<< (hs p &&& 31)) n ||| f_pair tw (nI p) else (f_dw hs ((1 : Int32) <<< (hs p &&& 31)) n ||| f_pair tw (nI p)) ||| f_rm mt dy fg p n) &&& (((1 : Int32) <<< (nI p &&& 31)) ^^^ (-1))
def f_st (kn : Nat → Int32) (eb : Int32) (n : Nat) : Int32 := lfold (fun p a => if (kn p ||| ((1 : Int32) <<< (nI p &&& 31))) &&& eb = 0 then a ||| ((1 : Int32) <<< (nI p &&& 31)) else a) 0 n
theorem dX1_strangersTo_0 : decode cX1_strangersTo 0 = .ok (.iconst 0, 1) := by decide +kernel
theorem dX1_strangersTo_1 : decode cX1_strangersTo 1 = .ok (.istore_n 3, 1) := by decide +kernel
theorem dX1_strangersTo_2 : decode cX1_strangersTo 2 = .ok (.iconst 0, 1) := by decide +kernel
theorem dX1_strangersTo_3 : decode cX1_strangersTo 3 = .ok (.istore 4, 2) := by decide +kernel
theorem dX1_strangersTo_5 : decode cX1_strangersTo 5 = .ok (.iload 4, 2) := by decide +kernel
theorem dX1_strangersTo_7 : decode cX1_strangersTo 7 = .ok (.aload_n 1, 1) := by decide +kernel
theorem dX1_strangersTo_8 : decode cX1_strangersTo 8 = .ok (.getfield 18, 3) := by decide +kernel
theorem dX1_strangersTo_11 : decode cX1_strangersTo 11 = .ok (.if_icmp .ge 33, 3) := by decide +kernel
theorem dX1_strangersTo_14 : decode cX1_strangersTo 14 = .ok (.aload_n 0, 1) := by decide +kernel
theorem dX1_strangersTo_15 : decode cX1_strangersTo 15 = .ok (.getfield 9, 3) := by decide +kernel
theorem dX1_strangersTo_18 : decode cX1_strangersTo 18 = .ok (.iload 4, 2) := by decide +kernel
theorem dX1_strangersTo_20 : decode cX1_strangersTo 20 = .ok (.iaload, 1) := by decide +kernel
theorem dX1_strangersTo_21 : decode cX1_strangersTo 21 = .ok (.iconst 1, 1) := by decide +kernel
theorem dX1_strangersTo_22 : decode cX1_strangersTo 22 = .ok (.iload 4, 2) := by decide +kernel
theorem dX1_strangersTo_24 : decode cX1_strangersTo 24 = .ok (.ishl, 1) := by decide +kernel
theorem dX1_strangersTo_25 : decode cX1_strangersTo 25 = .ok (.ior, 1) := by decide +kernel
theorem dX1_strangersTo_26 : decode cX1_strangersTo 26 = .ok (.iload_n 2, 1) := by decide +kernel
theorem dX1_strangersTo_27 : decode cX1_strangersTo 27 = .ok (.iand, 1) := by decide +kernel
theorem dX1_strangersTo_28 : decode cX1_strangersTo 28 = .ok (.ifCond .ne 10, 3) := by decide +kernel
theorem dX1_strangersTo_31 : decode cX1_strangersTo 31 = .ok (.iload_n 3, 1) := by decide +kernel
theorem dX1_strangersTo_32 : decode cX1_strangersTo 32 = .ok (.iconst 1, 1) := by decide +kernel
theorem dX1_strangersTo_33 : decode cX1_strangersTo 33 = .ok (.iload 4, 2) := by decide +kernel
theorem dX1_strangersTo_35 : decode cX1_strangersTo 35 = .ok (.ishl, 1) := by decide +kernel
theorem dX1_strangersTo_36 : decode cX1_strangersTo 36 = .ok (.ior, 1) := by decide +kernel
theorem dX1_strangersTo_37 : decode cX1_strangersTo 37 = .ok (.istore_n 3, 1) := by decide +kernel
theorem dX1_strangersTo_38 : decode cX1_strangersTo 38 = .ok (.iinc 4 1, 3) := by decide +kernel
theorem dX1_strangersTo_41 : decode cX1_strangersTo 41 = .ok (.goto (-36), 3) := by decide +kernel
theorem dX1_strangersTo_44 : decode cX1_strangersTo 44 = .ok (.iload_n 3, 1) := by decide +kernel
theorem dX1_strangersTo_45 : decode cX1_strangersTo 45 = .ok (.ireturn, 1) := by decide +kernel
set_option maxRecDepth 100000 in
set_option maxHeartbeats 4000000 in
theorem k_X1_strangersTo {G : am_G} (hK : k_OK G) {d : Nat} (hd : 0 ≤ d) {sh : List (Nat ⊕ (Nat × Nat))} {I : Nat → Nat → Int32} {R : Nat → Nat → Option Nat} {L : Nat → Nat → Int64} {g : Nat} {c t n : Nat} (hc : k_Circle sh R c) (ht : k_Town sh R t) (hn : I t 0 = nI n) (hn8 : n ≤ 8) (eb : Int32) : AM G mX1_strangersTo d [.ref c, .ref t, .int eb] (sh, I, R, L, g) (fun v w => v = some (.int (f_st (I (c + 1)) eb n)) ∧ w = (sh, I, R, L, g)) (fun _ _ => False) := by
  have hG := hK.1
  refine AM.of (n := 2) (by decide +kernel) (Nat.le_of_ble_eq_true rfl) ?_
  show AW G mX1_strangersTo d (fun v w => v = some (.int (f_st (I (c + 1)) eb n)) ∧ w = (sh, I, R, L, g)) (fun _ _ => False) 0 [some (.ref c), some (.ref t), some (.int eb), none, none] [] (sh, I, R, L, g) 0 0
  refine AW.iconst 0 dX1_strangersTo_0 (by decide) ?_
  refine AW.is_n [some (.ref c), some (.ref t), some (.int eb), some (.int 0), none] dX1_strangersTo_1 (by decide) rfl rfl ?_
  refine AW.iconst 0 dX1_strangersTo_2 (by decide) ?_
  refine AW.is [some (.ref c), some (.ref t), some (.int eb), some (.int 0), some (.int 0)] dX1_strangersTo_3 (by decide) rfl rfl ?_
  have L5 : ∀ k5, k5 ≤ n → ∀ (a x : Int32), (x = nI k5 ∧ a = f_st (I (c + 1)) eb k5) → AW G mX1_strangersTo d (fun v w => v = some (.int (f_st (I (c + 1)) eb n)) ∧ w = (sh, I, R, L, g)) (fun _ _ => False) 5 [some (.ref c), some (.ref t), some (.int eb), some (.int a), some (.int x)] [] (sh, I, R, L, g) 0 0 := by
    refine am_rec n (fun k5 hk5 ih5 => ?_)
    intro a x hi5
    obtain ⟨hx, ha⟩ := hi5
    refine AW.iload dX1_strangersTo_5 rfl ?_
    refine AW.aload_n dX1_strangersTo_7 rfl ?_
    refine AW.getI (fX1_18 hG).r rfl (ht.1 0 _ rfl) dX1_strangersTo_8 ?_
    refine AW.icmp_ge 44 dX1_strangersTo_11 (by decide) (fun h11 => ?_) (fun h11 => ?_)
    · have hke := k_ge h11 hx hn hk5 (by omega)
      subst hke
      refine AW.iload_n dX1_strangersTo_44 rfl ?_
      exact AW.iret dX1_strangersTo_45 rfl (by decide) (by decide) (⟨by rw [ha], rfl⟩)
    · have hlt := k_lt h11 hx hn hk5 (by omega)
      have hbx : vp_in x 8 := by rw [hx]; exact vp_in_nI (by omega) (by decide)
      have hcx : x.toNatClampNeg = k5 := by rw [hx]; exact nI_clamp (by omega)
      refine AW.aload_n dX1_strangersTo_14 rfl ?_
      refine AW.getR (c' := (c + 1)) (fX1_9 hG).r rfl (hc.1 0 _ rfl) (hc.2 (0, 0, 1) (by decide)) dX1_strangersTo_15 ?_
      refine AW.iload dX1_strangersTo_18 rfl ?_
      refine AW.iald (hc.1 1 _ rfl) (by first | assumption | exact vp_in_nI (by omega) (by decide)) dX1_strangersTo_20 ?_
      refine AW.iconst 1 dX1_strangersTo_21 (by decide) ?_
      refine AW.iload dX1_strangersTo_22 rfl ?_
      refine AW.ishl dX1_strangersTo_24 ?_
      refine AW.ior dX1_strangersTo_25 ?_
      refine AW.iload_n dX1_strangersTo_26 rfl ?_
      refine AW.iand dX1_strangersTo_27 ?_
      refine AW.if_ne 38 dX1_strangersTo_28 (by decide) (fun h28 => ?_) (fun h28 => ?_)
      · rw [hcx, hx] at h28
        refine AW.inc (fun x38 => [some (.ref c), some (.ref t), some (.int eb), some (.int a), some (.int x38)]) dX1_strangersTo_38 rfl (by decide) rfl (fun _ => rfl) (fun x38 ex38 => ?_)
        refine AW.goto 5 dX1_strangersTo_41 (by decide) ?_
        exact ih5 (k5 + 1) (by omega) (by omega) _ _ (⟨k_inc (by assumption) hx, (show a = (if (I (c + 1) k5 ||| ((1 : Int32) <<< (nI k5 &&& 31))) &&& eb = 0 then _ else _) by rw [if_neg h28]; exact ha)⟩)
      · rw [hcx, hx] at h28
        refine AW.iload_n dX1_strangersTo_31 rfl ?_
        refine AW.iconst 1 dX1_strangersTo_32 (by decide) ?_
        refine AW.iload dX1_strangersTo_33 rfl ?_
        refine AW.ishl dX1_strangersTo_35 ?_
        refine AW.ior dX1_strangersTo_36 ?_
        refine AW.nam (fun x37 ex37 => ?_)
        refine AW.is_n [some (.ref c), some (.ref t), some (.int eb), some (.int x37), some (.int x)] dX1_strangersTo_37 (by decide) rfl rfl ?_
        refine AW.inc (fun x38 => [some (.ref c), some (.ref t), some (.int eb), some (.int x37), some (.int x38)]) dX1_strangersTo_38 rfl (by decide) rfl (fun _ => rfl) (fun x38 ex38 => ?_)
        refine AW.goto 5 dX1_strangersTo_41 (by decide) ?_
        exact ih5 (k5 + 1) (by omega) (by omega) _ _ (⟨k_inc (by assumption) hx, (show x37 = (if (I (c + 1) k5 ||| ((1 : Int32) <<< (nI k5 &&& 31))) &&& eb = 0 then _ else _) by rw [if_pos h28, ex37, hx, ha]; try rfl)⟩)
  exact L5 0 (by omega) _ _ (⟨nI_0.symm, rfl⟩)
theorem dX1_remembered_0 : decode cX1_remembered 0 = .ok (.iconst 0, 1) := by decide +kernel
theorem dX1_remembered_1 : decode cX1_remembered 1 = .ok (.istore_n 3, 1) := by decide +kernel
theorem dX1_remembered_2 : decode cX1_remembered 2 = .ok (.iconst 0, 1) := by decide +kernel
theorem dX1_remembered_3 : decode cX1_remembered 3 = .ok (.istore 4, 2) := by decide +kernel
theorem dX1_remembered_5 : decode cX1_remembered 5 = .ok (.iload 4, 2) := by decide +kernel
theorem dX1_remembered_7 : decode cX1_remembered 7 = .ok (.aload_n 0, 1) := by decide +kernel
theorem dX1_remembered_8 : decode cX1_remembered 8 = .ok (.getfield 18, 3) := by decide +kernel
theorem dX1_remembered_11 : decode cX1_remembered 11 = .ok (.if_icmp .ge 51, 3) := by decide +kernel
theorem dX1_remembered_14 : decode cX1_remembered 14 = .ok (.aload_n 1, 1) := by decide +kernel
theorem dX1_remembered_15 : decode cX1_remembered 15 = .ok (.getfield 57, 3) := by decide +kernel
theorem dX1_remembered_18 : decode cX1_remembered 18 = .ok (.iload_n 2, 1) := by decide +kernel
theorem dX1_remembered_19 : decode cX1_remembered 19 = .ok (.bipush 8, 2) := by decide +kernel
theorem dX1_remembered_21 : decode cX1_remembered 21 = .ok (.imul, 1) := by decide +kernel
theorem dX1_remembered_22 : decode cX1_remembered 22 = .ok (.iload 4, 2) := by decide +kernel
theorem dX1_remembered_24 : decode cX1_remembered 24 = .ok (.iadd, 1) := by decide +kernel
theorem dX1_remembered_25 : decode cX1_remembered 25 = .ok (.iaload, 1) := by decide +kernel
theorem dX1_remembered_26 : decode cX1_remembered 26 = .ok (.istore 5, 2) := by decide +kernel
theorem dX1_remembered_28 : decode cX1_remembered 28 = .ok (.iload 5, 2) := by decide +kernel
theorem dX1_remembered_30 : decode cX1_remembered 30 = .ok (.ldc 62, 2) := by decide +kernel
theorem dX1_remembered_32 : decode cX1_remembered 32 = .ok (.if_icmp .eq 24, 3) := by decide +kernel
theorem dX1_remembered_35 : decode cX1_remembered 35 = .ok (.aload_n 1, 1) := by decide +kernel
theorem dX1_remembered_36 : decode cX1_remembered 36 = .ok (.getfield 63, 3) := by decide +kernel
theorem dX1_remembered_39 : decode cX1_remembered 39 = .ok (.iload 5, 2) := by decide +kernel
theorem dX1_remembered_41 : decode cX1_remembered 41 = .ok (.isub, 1) := by decide +kernel
theorem dX1_remembered_42 : decode cX1_remembered 42 = .ok (.aload_n 0, 1) := by decide +kernel
theorem dX1_remembered_43 : decode cX1_remembered 43 = .ok (.getfield 66, 3) := by decide +kernel
theorem dX1_remembered_46 : decode cX1_remembered 46 = .ok (.if_icmp .gt 10, 3) := by decide +kernel
theorem dX1_remembered_49 : decode cX1_remembered 49 = .ok (.iload_n 3, 1) := by decide +kernel
theorem dX1_remembered_50 : decode cX1_remembered 50 = .ok (.iconst 1, 1) := by decide +kernel
theorem dX1_remembered_51 : decode cX1_remembered 51 = .ok (.iload 4, 2) := by decide +kernel
theorem dX1_remembered_53 : decode cX1_remembered 53 = .ok (.ishl, 1) := by decide +kernel
theorem dX1_remembered_54 : decode cX1_remembered 54 = .ok (.ior, 1) := by decide +kernel
theorem dX1_remembered_55 : decode cX1_remembered 55 = .ok (.istore_n 3, 1) := by decide +kernel
theorem dX1_remembered_56 : decode cX1_remembered 56 = .ok (.iinc 4 1, 3) := by decide +kernel
theorem dX1_remembered_59 : decode cX1_remembered 59 = .ok (.goto (-54), 3) := by decide +kernel
theorem dX1_remembered_62 : decode cX1_remembered 62 = .ok (.iload_n 3, 1) := by decide +kernel
theorem dX1_remembered_63 : decode cX1_remembered 63 = .ok (.ireturn, 1) := by decide +kernel
set_option maxRecDepth 100000 in
set_option maxHeartbeats 4000000 in
theorem k_X1_remembered {G : am_G} (hK : k_OK G) {d : Nat} (hd : 0 ≤ d) {sh : List (Nat ⊕ (Nat × Nat))} {I : Nat → Nat → Int32} {R : Nat → Nat → Option Nat} {L : Nat → Nat → Int64} {g : Nat} {t b n : Nat} (ht : k_Town sh R t) (hb : k_Days sh R b) (hn : I t 0 = nI n) (hn8 : n ≤ 8) (p : Int32) (j : Nat) (hp : p = nI j) (hj : j < 8) : AM G mX1_remembered d [.ref t, .ref b, .int p] (sh, I, R, L, g) (fun v w => v = some (.int (f_rm (I (b + 1)) (I b 0) (I t 2) j n)) ∧ w = (sh, I, R, L, g)) (fun _ _ => False) := by
  have hG := hK.1
  refine AM.of (n := 3) (by decide +kernel) (Nat.le_of_ble_eq_true rfl) ?_
  show AW G mX1_remembered d (fun v w => v = some (.int (f_rm (I (b + 1)) (I b 0) (I t 2) j n)) ∧ w = (sh, I, R, L, g)) (fun _ _ => False) 0 [some (.ref t), some (.ref b), some (.int p), none, none, none] [] (sh, I, R, L, g) 0 0
  refine AW.iconst 0 dX1_remembered_0 (by decide) ?_
  refine AW.is_n [some (.ref t), some (.ref b), some (.int p), some (.int 0), none, none] dX1_remembered_1 (by decide) rfl rfl ?_
  refine AW.iconst 0 dX1_remembered_2 (by decide) ?_
  refine AW.is [some (.ref t), some (.ref b), some (.int p), some (.int 0), some (.int 0), none] dX1_remembered_3 (by decide) rfl rfl ?_
  have L5 : ∀ k5, k5 ≤ n → ∀ (a x : Int32), (x = nI k5 ∧ a = f_rm (I (b + 1)) (I b 0) (I t 2) j k5) → AW G mX1_remembered d (fun v w => v = some (.int (f_rm (I (b + 1)) (I b 0) (I t 2) j n)) ∧ w = (sh, I, R, L, g)) (fun _ _ => False) 5 [some (.ref t), some (.ref b), some (.int p), some (.int a), some (.int x), none] [] (sh, I, R, L, g) 0 0 := by
    refine am_rec n (fun k5 hk5 ih5 => ?_)
    intro a x hi5
    obtain ⟨hx, ha⟩ := hi5
    refine AW.iload dX1_remembered_5 rfl ?_
    refine AW.aload_n dX1_remembered_7 rfl ?_
    refine AW.getI (fX1_18 hG).r rfl (ht.1 0 _ rfl) dX1_remembered_8 ?_
    refine AW.icmp_ge 62 dX1_remembered_11 (by decide) (fun h11 => ?_) (fun h11 => ?_)
    · have hke := k_ge h11 hx hn hk5 (by omega)
      subst hke
      refine AW.iload_n dX1_remembered_62 rfl ?_
      exact AW.iret dX1_remembered_63 rfl (by decide) (by decide) (⟨by rw [ha], rfl⟩)
    · have hlt := k_lt h11 hx hn hk5 (by omega)
      have hbx : vp_in x 8 := by rw [hx]; exact vp_in_nI (by omega) (by decide)
      have hcx : x.toNatClampNeg = k5 := by rw [hx]; exact nI_clamp (by omega)
      have hix : p * 8 + x = nI (8 * j + k5) := k_88 rfl hp hx
      have hbix : vp_in (p * 8 + x) 64 := by rw [hix]; exact vp_in_nI (by omega) (by decide)
      have hcix : (p * 8 + x).toNatClampNeg = 8 * j + k5 := k_lit hix (by omega)
      refine AW.aload_n dX1_remembered_14 rfl ?_
      refine AW.getR (c' := (b + 1)) (fX1_57 hG) rfl (hb.1 0 _ rfl) (hb.2 (0, 2, 1) (by decide)) dX1_remembered_15 ?_
      refine AW.iload_n dX1_remembered_18 rfl ?_
      refine AW.bipush 8 dX1_remembered_19 (by decide) ?_
      refine AW.imul dX1_remembered_21 ?_
      refine AW.iload dX1_remembered_22 rfl ?_
      refine AW.iadd dX1_remembered_24 ?_
      refine AW.iald (hb.1 1 _ rfl) (by first | assumption | exact vp_in_nI (by omega) (by decide)) dX1_remembered_25 ?_
      refine AW.nam (fun x26 ex26 => ?_)
      refine AW.is [some (.ref t), some (.ref b), some (.int p), some (.int a), some (.int x), some (.int x26)] dX1_remembered_26 (by decide) rfl rfl ?_
      refine AW.iload dX1_remembered_28 rfl ?_
      refine AW.ldc (-1000000) dX1_remembered_30 (k_c hG 738 (by decide +kernel) (by decide +kernel)) ?_
      refine AW.icmp_eq 56 dX1_remembered_32 (by decide) (fun h32 => ?_) (fun h32 => ?_)
      · rw [ex26, hcix] at h32
        refine AW.inc (fun x56 => [some (.ref t), some (.ref b), some (.int p), some (.int a), some (.int x56), some (.int x26)]) dX1_remembered_56 rfl (by decide) rfl (fun _ => rfl) (fun x56 ex56 => ?_)
        refine AW.goto 5 dX1_remembered_59 (by decide) ?_
        refine AW.mask [5] [some (.ref t), some (.ref b), some (.int p), some (.int a), some (.int x56), none] rfl ?_
        exact ih5 (k5 + 1) (by omega) (by omega) _ _ (⟨k_inc (by assumption) hx, (show _ = (if _ then _ else _) by rw [if_neg (fun hh => hh.1 h32)]; exact ha)⟩)
      · rw [ex26, hcix] at h32
        refine AW.aload_n dX1_remembered_35 rfl ?_
        refine AW.getI (fX1_63 hG).r rfl (hb.1 0 _ rfl) dX1_remembered_36 ?_
        refine AW.iload dX1_remembered_39 rfl ?_
        refine AW.isub dX1_remembered_41 ?_
        refine AW.aload_n dX1_remembered_42 rfl ?_
        refine AW.getI (fX1_66 hG).r rfl (ht.1 0 _ rfl) dX1_remembered_43 ?_
        refine AW.icmp_gt 56 dX1_remembered_46 (by decide) (fun h46 => ?_) (fun h46 => ?_)
        · rw [ex26, hcix] at h46
          refine AW.inc (fun x56 => [some (.ref t), some (.ref b), some (.int p), some (.int a), some (.int x56), some (.int x26)]) dX1_remembered_56 rfl (by decide) rfl (fun _ => rfl) (fun x56 ex56 => ?_)
          refine AW.goto 5 dX1_remembered_59 (by decide) ?_
          refine AW.mask [5] [some (.ref t), some (.ref b), some (.int p), some (.int a), some (.int x56), none] rfl ?_
          exact ih5 (k5 + 1) (by omega) (by omega) _ _ (⟨k_inc (by assumption) hx, (show _ = (if _ then _ else _) by rw [if_neg (fun hh => hh.2 h46)]; exact ha)⟩)
        · rw [ex26, hcix] at h46
          refine AW.iload_n dX1_remembered_49 rfl ?_
          refine AW.iconst 1 dX1_remembered_50 (by decide) ?_
          refine AW.iload dX1_remembered_51 rfl ?_
          refine AW.ishl dX1_remembered_53 ?_
          refine AW.ior dX1_remembered_54 ?_
          refine AW.nam (fun x55 ex55 => ?_)
          refine AW.is_n [some (.ref t), some (.ref b), some (.int p), some (.int x55), some (.int x), some (.int x26)] dX1_remembered_55 (by decide) rfl rfl ?_
          refine AW.inc (fun x56 => [some (.ref t), some (.ref b), some (.int p), some (.int x55), some (.int x56), some (.int x26)]) dX1_remembered_56 rfl (by decide) rfl (fun _ => rfl) (fun x56 ex56 => ?_)
          refine AW.goto 5 dX1_remembered_59 (by decide) ?_
          refine AW.mask [5] [some (.ref t), some (.ref b), some (.int p), some (.int x55), some (.int x56), none] rfl ?_
          exact ih5 (k5 + 1) (by omega) (by omega) _ _ (⟨k_inc (by assumption) hx, (show _ = (if _ then _ else _) by rw [if_pos ⟨h32, h46⟩, ex55, ha, hx]; rfl)⟩)
  exact L5 0 (by omega) _ _ (⟨nI_0.symm, rfl⟩)
theorem dX1_both_0 : decode cX1_both 0 = .ok (.aload_n 0, 1) := by decide +kernel
theorem dX1_both_1 : decode cX1_both 1 = .ok (.getfield 9, 3) := by decide +kernel
theorem dX1_both_4 : decode cX1_both 4 = .ok (.iload_n 1, 1) := by decide +kernel
theorem dX1_both_5 : decode cX1_both 5 = .ok (.iaload, 1) := by decide +kernel
theorem dX1_both_6 : decode cX1_both 6 = .ok (.iload_n 2, 1) := by decide +kernel
theorem dX1_both_7 : decode cX1_both 7 = .ok (.invokestatic 69, 3) := by decide +kernel
theorem dX1_both_10 : decode cX1_both 10 = .ok (.ifCond .eq 20, 3) := by decide +kernel
theorem dX1_both_13 : decode cX1_both 13 = .ok (.aload_n 0, 1) := by decide +kernel
theorem dX1_both_14 : decode cX1_both 14 = .ok (.getfield 9, 3) := by decide +kernel
theorem dX1_both_17 : decode cX1_both 17 = .ok (.iload_n 2, 1) := by decide +kernel
theorem dX1_both_18 : decode cX1_both 18 = .ok (.iaload, 1) := by decide +kernel
theorem dX1_both_19 : decode cX1_both 19 = .ok (.iload_n 1, 1) := by decide +kernel
theorem dX1_both_20 : decode cX1_both 20 = .ok (.invokestatic 69, 3) := by decide +kernel
theorem dX1_both_23 : decode cX1_both 23 = .ok (.ifCond .eq 7, 3) := by decide +kernel
theorem dX1_both_26 : decode cX1_both 26 = .ok (.iconst 1, 1) := by decide +kernel
theorem dX1_both_27 : decode cX1_both 27 = .ok (.goto 4, 3) := by decide +kernel
theorem dX1_both_30 : decode cX1_both 30 = .ok (.iconst 0, 1) := by decide +kernel
theorem dX1_both_31 : decode cX1_both 31 = .ok (.ireturn, 1) := by decide +kernel
set_option maxRecDepth 100000 in
set_option maxHeartbeats 4000000 in
theorem k_X1_both {G : am_G} (hK : k_OK G) {d : Nat} (hd : 1 ≤ d) {sh : List (Nat ⊕ (Nat × Nat))} {I : Nat → Nat → Int32} {R : Nat → Nat → Option Nat} {L : Nat → Nat → Int64} {g : Nat} {c : Nat} (hc : k_Circle sh R c) (x y : Int32) (hx : vp_in x 8) (hy : vp_in y 8) : AM G mX1_both d [.ref c, .int x, .int y] (sh, I, R, L, g) (fun v w => v = some (.int (kb (f_has (I (c + 1) x.toNatClampNeg) y && f_has (I (c + 1) y.toNatClampNeg) x))) ∧ w = (sh, I, R, L, g)) (fun _ _ => False) := by
  have hG := hK.1
  refine AM.of (n := 0) (by decide +kernel) (Nat.le_of_ble_eq_true rfl) ?_
  show AW G mX1_both d (fun v w => v = some (.int (kb (f_has (I (c + 1) x.toNatClampNeg) y && f_has (I (c + 1) y.toNatClampNeg) x))) ∧ w = (sh, I, R, L, g)) (fun _ _ => False) 0 [some (.ref c), some (.int x), some (.int y)] [] (sh, I, R, L, g) 0 0
  refine AW.aload_n dX1_both_0 rfl ?_
  refine AW.getR (c' := (c + 1)) (fX1_9 hG).r rfl (hc.1 0 _ rfl) (hc.2 (0, 0, 1) (by decide)) dX1_both_1 ?_
  refine AW.iload_n dX1_both_4 rfl ?_
  refine AW.iald (hc.1 1 _ rfl) (by first | assumption | exact vp_in_nI (by omega) (by decide)) dX1_both_5 ?_
  refine AW.iload_n dX1_both_6 rfl ?_
  refine AW.callSN (As := [.int (I (c + 1) x.toNatClampNeg), .int y]) hG.2.2 (vX1_69n hK) (kS_X10_has hG) (k_X10_has hK (d := 0) (Nat.le_refl _) (I (c + 1) x.toNatClampNeg) y) (by omega) dX1_both_7 rfl rfl (Nat.le_of_ble_eq_true rfl) (fun v w9 hq9 h09 => by obtain ⟨rfl, rfl⟩ := hq9; exact ⟨h09, rfl⟩) (by decide) (by decide) (fun v7 w7 hq7 => ?_)
  obtain ⟨rfl, rfl⟩ := hq7
  refine AW.nam (fun x7 ex7 => ?_)
  refine AW.if_eq 30 dX1_both_10 (by decide) (fun h10 => ?_) (fun h10 => ?_)
  · rw [ex7] at h10
    have q1 := kb_0.mp h10
    refine AW.iconst 0 dX1_both_30 (by decide) ?_
    exact AW.zret dX1_both_31 rfl (by decide) (by decide) (by decide) (⟨by first | (rw [q1]; rfl) | (rw [q1, q2]; rfl), rfl⟩)
  · rw [ex7] at h10
    have q1 := kb_1.mp h10
    refine AW.aload_n dX1_both_13 rfl ?_
    refine AW.getR (c' := (c + 1)) (fX1_9 hG).r rfl (hc.1 0 _ rfl) (hc.2 (0, 0, 1) (by decide)) dX1_both_14 ?_
    refine AW.iload_n dX1_both_17 rfl ?_
    refine AW.iald (hc.1 1 _ rfl) (by first | assumption | exact vp_in_nI (by omega) (by decide)) dX1_both_18 ?_
    refine AW.iload_n dX1_both_19 rfl ?_
    refine AW.callSN (As := [.int (I (c + 1) y.toNatClampNeg), .int x]) hG.2.2 (vX1_69n hK) (kS_X10_has hG) (k_X10_has hK (d := 0) (Nat.le_refl _) (I (c + 1) y.toNatClampNeg) x) (by omega) dX1_both_20 rfl rfl (Nat.le_of_ble_eq_true rfl) (fun v w9 hq9 h09 => by obtain ⟨rfl, rfl⟩ := hq9; exact ⟨h09, rfl⟩) (by decide) (by decide) (fun v20 w20 hq20 => ?_)
    obtain ⟨rfl, rfl⟩ := hq20
    refine AW.nam (fun x20 ex20 => ?_)
    refine AW.if_eq 30 dX1_both_23 (by decide) (fun h23 => ?_) (fun h23 => ?_)
    · rw [ex20] at h23
      have q2 := kb_0.mp h23
      refine AW.iconst 0 dX1_both_30 (by decide) ?_
      exact AW.zret dX1_both_31 rfl (by decide) (by decide) (by decide) (⟨by first | (rw [q1]; rfl) | (rw [q1, q2]; rfl), rfl⟩)
    · rw [ex20] at h23
      have q2 := kb_1.mp h23
      refine AW.iconst 1 dX1_both_26 (by decide) ?_
      refine AW.goto 31 dX1_both_27 (by decide) ?_
      exact AW.zret dX1_both_31 rfl (by decide) (by decide) (by decide) (⟨by rw [q1, q2]; rfl, rfl⟩)
def f_cu1 (kn : Nat → Int32) (p n : Nat) (a : Int32) : Int32 := lfold (fun q a => if f_has (kn p) (nI (p + 1 + q)) && f_has (kn (p + 1 + q)) (nI p) then a + 1 else a) a n
def f_cu (kn : Nat → Int32) (n k : Nat) : Int32 := lfold (fun p a => f_cu1 kn p (n - (p + 1)) a) 0 k
theorem dX1_couples_0 : decode cX1_couples 0 = .ok (.iconst 0, 1) := by decide +kernel
theorem dX1_couples_1 : decode cX1_couples 1 = .ok (.istore_n 2, 1) := by decide +kernel
theorem dX1_couples_2 : decode cX1_couples 2 = .ok (.iconst 0, 1) := by decide +kernel
theorem dX1_couples_3 : decode cX1_couples 3 = .ok (.istore_n 3, 1) := by decide +kernel
theorem dX1_couples_4 : decode cX1_couples 4 = .ok (.iload_n 3, 1) := by decide +kernel
theorem dX1_couples_5 : decode cX1_couples 5 = .ok (.aload_n 1, 1) := by decide +kernel
theorem dX1_couples_6 : decode cX1_couples 6 = .ok (.getfield 18, 3) := by decide +kernel
theorem dX1_couples_9 : decode cX1_couples 9 = .ok (.if_icmp .ge 42, 3) := by decide +kernel
theorem dX1_couples_12 : decode cX1_couples 12 = .ok (.iload_n 3, 1) := by decide +kernel
theorem dX1_couples_13 : decode cX1_couples 13 = .ok (.iconst 1, 1) := by decide +kernel
theorem dX1_couples_14 : decode cX1_couples 14 = .ok (.iadd, 1) := by decide +kernel
theorem dX1_couples_15 : decode cX1_couples 15 = .ok (.istore 4, 2) := by decide +kernel
theorem dX1_couples_17 : decode cX1_couples 17 = .ok (.iload 4, 2) := by decide +kernel
theorem dX1_couples_19 : decode cX1_couples 19 = .ok (.aload_n 1, 1) := by decide +kernel
theorem dX1_couples_20 : decode cX1_couples 20 = .ok (.getfield 18, 3) := by decide +kernel
theorem dX1_couples_23 : decode cX1_couples 23 = .ok (.if_icmp .ge 22, 3) := by decide +kernel
theorem dX1_couples_26 : decode cX1_couples 26 = .ok (.aload_n 0, 1) := by decide +kernel
theorem dX1_couples_27 : decode cX1_couples 27 = .ok (.iload_n 3, 1) := by decide +kernel
theorem dX1_couples_28 : decode cX1_couples 28 = .ok (.iload 4, 2) := by decide +kernel
theorem dX1_couples_30 : decode cX1_couples 30 = .ok (.invokevirtual 73, 3) := by decide +kernel
theorem dX1_couples_33 : decode cX1_couples 33 = .ok (.ifCond .eq 6, 3) := by decide +kernel
theorem dX1_couples_36 : decode cX1_couples 36 = .ok (.iinc 2 1, 3) := by decide +kernel
theorem dX1_couples_39 : decode cX1_couples 39 = .ok (.iinc 4 1, 3) := by decide +kernel
theorem dX1_couples_42 : decode cX1_couples 42 = .ok (.goto (-25), 3) := by decide +kernel
theorem dX1_couples_45 : decode cX1_couples 45 = .ok (.iinc 3 1, 3) := by decide +kernel
theorem dX1_couples_48 : decode cX1_couples 48 = .ok (.goto (-44), 3) := by decide +kernel
theorem dX1_couples_51 : decode cX1_couples 51 = .ok (.iload_n 2, 1) := by decide +kernel
theorem dX1_couples_52 : decode cX1_couples 52 = .ok (.ireturn, 1) := by decide +kernel
set_option maxRecDepth 100000 in
set_option maxHeartbeats 4000000 in
theorem k_X1_couples {G : am_G} (hK : k_OK G) {d : Nat} (hd : 2 ≤ d) {sh : List (Nat ⊕ (Nat × Nat))} {I : Nat → Nat → Int32} {R : Nat → Nat → Option Nat} {L : Nat → Nat → Int64} {g : Nat} {c t n : Nat} (hc : k_Circle sh R c) (ht : k_Town sh R t) (hn : I t 0 = nI n) (hn8 : n ≤ 8) : AM G mX1_couples d [.ref c, .ref t] (sh, I, R, L, g) (fun v w => v = some (.int (f_cu (I (c + 1)) n n)) ∧ w = (sh, I, R, L, g)) (fun _ _ => False) := by
  have hG := hK.1
  refine AM.of (n := 3) (by decide +kernel) (Nat.le_of_ble_eq_true rfl) ?_
  show AW G mX1_couples d (fun v w => v = some (.int (f_cu (I (c + 1)) n n)) ∧ w = (sh, I, R, L, g)) (fun _ _ => False) 0 [some (.ref c), some (.ref t), none, none, none] [] (sh, I, R, L, g) 0 0
  refine AW.iconst 0 dX1_couples_0 (by decide) ?_
  refine AW.is_n [some (.ref c), some (.ref t), some (.int 0), none, none] dX1_couples_1 (by decide) rfl rfl ?_
  refine AW.iconst 0 dX1_couples_2 (by decide) ?_
  refine AW.is_n [some (.ref c), some (.ref t), some (.int 0), some (.int 0), none] dX1_couples_3 (by decide) rfl rfl ?_
  have L4 : ∀ k4, k4 ≤ n → ∀ (a x : Int32), (x = nI k4 ∧ a = f_cu (I (c + 1)) n k4) → AW G mX1_couples d (fun v w => v = some (.int (f_cu (I (c + 1)) n n)) ∧ w = (sh, I, R, L, g)) (fun _ _ => False) 4 [some (.ref c), some (.ref t), some (.int a), some (.int x), none] [] (sh, I, R, L, g) 0 0 := by
    refine am_rec n (fun k4 hk4 ih4 => ?_)
    intro a x hi4
    obtain ⟨hx, ha⟩ := hi4
    refine AW.iload_n dX1_couples_4 rfl ?_
    refine AW.aload_n dX1_couples_5 rfl ?_
    refine AW.getI (fX1_18 hG).r rfl (ht.1 0 _ rfl) dX1_couples_6 ?_
    refine AW.icmp_ge 51 dX1_couples_9 (by decide) (fun h9 => ?_) (fun h9 => ?_)
    · have hke := k_ge h9 hx hn hk4 (by omega)
      subst hke
      refine AW.iload_n dX1_couples_51 rfl ?_
      exact AW.iret dX1_couples_52 rfl (by decide) (by decide) (⟨by rw [ha], rfl⟩)
    · have hlt := k_lt h9 hx hn hk4 (by omega)
      have hbx : vp_in x 8 := by rw [hx]; exact vp_in_nI (by omega) (by decide)
      have hcx : x.toNatClampNeg = k4 := by rw [hx]; exact nI_clamp (by omega)
      refine AW.iload_n dX1_couples_12 rfl ?_
      refine AW.iconst 1 dX1_couples_13 (by decide) ?_
      refine AW.iadd dX1_couples_14 ?_
      refine AW.nam (fun x15 ex15 => ?_)
      refine AW.is [some (.ref c), some (.ref t), some (.int a), some (.int x), some (.int x15)] dX1_couples_15 (by decide) rfl rfl ?_
      have L17 : ∀ k17, k17 ≤ n → ∀ (a2 y : Int32), (k4 < k17 ∧ y = nI k17 ∧ a2 = f_cu1 (I (c + 1)) k4 (k17 - (k4 + 1)) (f_cu (I (c + 1)) n k4)) → AW G mX1_couples d (fun v w => v = some (.int (f_cu (I (c + 1)) n n)) ∧ w = (sh, I, R, L, g)) (fun _ _ => False) 17 [some (.ref c), some (.ref t), some (.int a2), some (.int x), some (.int y)] [] (sh, I, R, L, g) 0 0 := by
        refine am_rec n (fun k17 hk17 ih17 => ?_)
        intro a2 y hi17
        obtain ⟨hkk, hy, ha2⟩ := hi17
        refine AW.iload dX1_couples_17 rfl ?_
        refine AW.aload_n dX1_couples_19 rfl ?_
        refine AW.getI (fX1_18 hG).r rfl (ht.1 0 _ rfl) dX1_couples_20 ?_
        refine AW.icmp_ge 45 dX1_couples_23 (by decide) (fun h23 => ?_) (fun h23 => ?_)
        · have hke := k_ge h23 hy hn hk17 (by omega)
          refine AW.inc (fun x45 => [some (.ref c), some (.ref t), some (.int a2), some (.int x45), some (.int y)]) dX1_couples_45 rfl (by decide) rfl (fun _ => rfl) (fun x45 ex45 => ?_)
          refine AW.goto 4 dX1_couples_48 (by decide) ?_
          refine AW.mask [4] [some (.ref c), some (.ref t), some (.int a2), some (.int x45), none] rfl ?_
          exact ih4 (k4 + 1) (by omega) (by omega) _ _ (⟨k_inc (by assumption) hx, by rw [ha2, hke]; rfl⟩)
        · have hlt2 := k_lt h23 hy hn hk17 (by omega)
          have hby : vp_in y 8 := by rw [hy]; exact vp_in_nI (by omega) (by decide)
          have hcy : y.toNatClampNeg = k17 := k_lit hy (by omega)
          refine AW.aload_n dX1_couples_26 rfl ?_
          refine AW.iload_n dX1_couples_27 rfl ?_
          refine AW.iload dX1_couples_28 rfl ?_
          refine AW.callV (b := c) (As := [.int x, .int y]) hG.2.2 (vX1_73 hG) (hc.1 0 _ rfl) (k_X1_both hK (d := 1) (Nat.le_refl _) hc x y (by assumption) (by assumption)) (by omega) dX1_couples_30 rfl rfl (Nat.le_of_ble_eq_true rfl) (fun v w9 hq9 h09 => by obtain ⟨rfl, rfl⟩ := hq9; exact ⟨h09, rfl⟩) (by decide) (by decide) (fun _ _ hx => hx) (fun v30 w30 hq30 => ?_)
          obtain ⟨rfl, rfl⟩ := hq30
          refine AW.nam (fun x30 ex30 => ?_)
          refine AW.if_eq 39 dX1_couples_33 (by decide) (fun h33 => ?_) (fun h33 => ?_)
          · rw [ex30, hcx, hcy, hx, hy] at h33
            have q1 := kb_0.mp h33
            refine AW.inc (fun x39 => [some (.ref c), some (.ref t), some (.int a2), some (.int x), some (.int x39)]) dX1_couples_39 rfl (by decide) rfl (fun _ => rfl) (fun x39 ex39 => ?_)
            refine AW.goto 17 dX1_couples_42 (by decide) ?_
            exact ih17 (k17 + 1) (by omega) (by omega) _ _ (⟨by omega, k_inc (by assumption) hy, (by rw [show k17 + 1 - (k4 + 1) = (k17 - (k4 + 1)) + 1 by omega]; show _ = (if _ then _ else _); rw [show k4 + 1 + (k17 - (k4 + 1)) = k17 by omega]; rw [if_neg (by rw [q1]; decide)]; exact ha2)⟩)
          · rw [ex30, hcx, hcy, hx, hy] at h33
            have q1 := kb_1.mp h33
            refine AW.inc (fun x36 => [some (.ref c), some (.ref t), some (.int x36), some (.int x), some (.int y)]) dX1_couples_36 rfl (by decide) rfl (fun _ => rfl) (fun x36 ex36 => ?_)
            refine AW.inc (fun x39 => [some (.ref c), some (.ref t), some (.int x36), some (.int x), some (.int x39)]) dX1_couples_39 rfl (by decide) rfl (fun _ => rfl) (fun x39 ex39 => ?_)
            refine AW.goto 17 dX1_couples_42 (by decide) ?_
            exact ih17 (k17 + 1) (by omega) (by omega) _ _ (⟨by omega, k_inc (by assumption) hy, (by rw [show k17 + 1 - (k4 + 1) = (k17 - (k4 + 1)) + 1 by omega]; show _ = (if _ then _ else _); rw [show k4 + 1 + (k17 - (k4 + 1)) = k17 by omega]; rw [if_pos q1, ex36, ha2]; rfl)⟩)
      exact L17 (k4 + 1) (by omega) _ _ (⟨by omega, by rw [ex15, hx]; exact nI_1 _, by rw [Nat.sub_self]; exact ha⟩)
  exact L4 0 (by omega) _ _ (⟨nI_0.symm, rfl⟩)
def f_as (kn : Nat → Int32) (s9 : Int32) (n : Nat) : Bool := lall (fun p => !(f_has s9 (nI p) && decide (¬ kn p &&& s9 = 0))) n
def f_ka (kd tw kn : Nat → Int32) (p c : Int32) : Int32 := kn p.toNatClampNeg ||| (if kd p.toNatClampNeg = 2 then 0 else f_mb tw p c)
theorem dX1_allStrangers_0 : decode cX1_allStrangers 0 = .ok (.iconst 0, 1) := by decide +kernel
theorem dX1_allStrangers_1 : decode cX1_allStrangers 1 = .ok (.istore_n 3, 1) := by decide +kernel
theorem dX1_allStrangers_2 : decode cX1_allStrangers 2 = .ok (.iload_n 3, 1) := by decide +kernel
theorem dX1_allStrangers_3 : decode cX1_allStrangers 3 = .ok (.aload_n 1, 1) := by decide +kernel
theorem dX1_allStrangers_4 : decode cX1_allStrangers 4 = .ok (.getfield 18, 3) := by decide +kernel
theorem dX1_allStrangers_7 : decode cX1_allStrangers 7 = .ok (.if_icmp .ge 30, 3) := by decide +kernel
theorem dX1_allStrangers_10 : decode cX1_allStrangers 10 = .ok (.iload_n 2, 1) := by decide +kernel
theorem dX1_allStrangers_11 : decode cX1_allStrangers 11 = .ok (.iload_n 3, 1) := by decide +kernel
theorem dX1_allStrangers_12 : decode cX1_allStrangers 12 = .ok (.invokestatic 69, 3) := by decide +kernel
theorem dX1_allStrangers_15 : decode cX1_allStrangers 15 = .ok (.ifCond .eq 16, 3) := by decide +kernel
theorem dX1_allStrangers_18 : decode cX1_allStrangers 18 = .ok (.aload_n 0, 1) := by decide +kernel
theorem dX1_allStrangers_19 : decode cX1_allStrangers 19 = .ok (.getfield 9, 3) := by decide +kernel
theorem dX1_allStrangers_22 : decode cX1_allStrangers 22 = .ok (.iload_n 3, 1) := by decide +kernel
theorem dX1_allStrangers_23 : decode cX1_allStrangers 23 = .ok (.iaload, 1) := by decide +kernel
theorem dX1_allStrangers_24 : decode cX1_allStrangers 24 = .ok (.iload_n 2, 1) := by decide +kernel
theorem dX1_allStrangers_25 : decode cX1_allStrangers 25 = .ok (.iand, 1) := by decide +kernel
theorem dX1_allStrangers_26 : decode cX1_allStrangers 26 = .ok (.ifCond .eq 5, 3) := by decide +kernel
theorem dX1_allStrangers_29 : decode cX1_allStrangers 29 = .ok (.iconst 0, 1) := by decide +kernel
theorem dX1_allStrangers_30 : decode cX1_allStrangers 30 = .ok (.ireturn, 1) := by decide +kernel
theorem dX1_allStrangers_31 : decode cX1_allStrangers 31 = .ok (.iinc 3 1, 3) := by decide +kernel
theorem dX1_allStrangers_34 : decode cX1_allStrangers 34 = .ok (.goto (-32), 3) := by decide +kernel
theorem dX1_allStrangers_37 : decode cX1_allStrangers 37 = .ok (.iconst 1, 1) := by decide +kernel
theorem dX1_allStrangers_38 : decode cX1_allStrangers 38 = .ok (.ireturn, 1) := by decide +kernel
set_option maxRecDepth 100000 in
set_option maxHeartbeats 4000000 in
theorem k_X1_allStrangers {G : am_G} (hK : k_OK G) {d : Nat} (hd : 1 ≤ d) {sh : List (Nat ⊕ (Nat × Nat))} {I : Nat → Nat → Int32} {R : Nat → Nat → Option Nat} {L : Nat → Nat → Int64} {g : Nat} {c t n : Nat} (hc : k_Circle sh R c) (ht : k_Town sh R t) (hn : I t 0 = nI n) (hn8 : n ≤ 8) (b : Int32) : AM G mX1_allStrangers d [.ref c, .ref t, .int b] (sh, I, R, L, g) (fun v w => v = some (.int (kb (f_as (I (c + 1)) b n))) ∧ w = (sh, I, R, L, g)) (fun _ _ => False) := by
  have hG := hK.1
  refine AM.of (n := 1) (by decide +kernel) (Nat.le_of_ble_eq_true rfl) ?_
  show AW G mX1_allStrangers d (fun v w => v = some (.int (kb (f_as (I (c + 1)) b n))) ∧ w = (sh, I, R, L, g)) (fun _ _ => False) 0 [some (.ref c), some (.ref t), some (.int b), none] [] (sh, I, R, L, g) 0 0
  refine AW.iconst 0 dX1_allStrangers_0 (by decide) ?_
  refine AW.is_n [some (.ref c), some (.ref t), some (.int b), some (.int 0)] dX1_allStrangers_1 (by decide) rfl rfl ?_
  have L2 : ∀ k2, k2 ≤ n → ∀ (x : Int32), (x = nI k2 ∧ f_as (I (c + 1)) b k2 = true) → AW G mX1_allStrangers d (fun v w => v = some (.int (kb (f_as (I (c + 1)) b n))) ∧ w = (sh, I, R, L, g)) (fun _ _ => False) 2 [some (.ref c), some (.ref t), some (.int b), some (.int x)] [] (sh, I, R, L, g) 0 0 := by
    refine am_rec n (fun k2 hk2 ih2 => ?_)
    intro x hi2
    obtain ⟨hx, ha⟩ := hi2
    refine AW.iload_n dX1_allStrangers_2 rfl ?_
    refine AW.aload_n dX1_allStrangers_3 rfl ?_
    refine AW.getI (fX1_18 hG).r rfl (ht.1 0 _ rfl) dX1_allStrangers_4 ?_
    refine AW.icmp_ge 37 dX1_allStrangers_7 (by decide) (fun h7 => ?_) (fun h7 => ?_)
    · have hke := k_ge h7 hx hn hk2 (by omega)
      subst hke
      refine AW.iconst 1 dX1_allStrangers_37 (by decide) ?_
      exact AW.zret dX1_allStrangers_38 rfl (by decide) (by decide) (by decide) (⟨by rw [ha]; rfl, rfl⟩)
    · have hlt := k_lt h7 hx hn hk2 (by omega)
      have hbx : vp_in x 8 := by rw [hx]; exact vp_in_nI (by omega) (by decide)
      have hcx : x.toNatClampNeg = k2 := by rw [hx]; exact nI_clamp (by omega)
      refine AW.iload_n dX1_allStrangers_10 rfl ?_
      refine AW.iload_n dX1_allStrangers_11 rfl ?_
      refine AW.callSN (As := [.int b, .int x]) hG.2.2 (vX1_69n hK) (kS_X10_has hG) (k_X10_has hK (d := 0) (Nat.le_refl _) b x) (by omega) dX1_allStrangers_12 rfl rfl (Nat.le_of_ble_eq_true rfl) (fun v w9 hq9 h09 => by obtain ⟨rfl, rfl⟩ := hq9; exact ⟨h09, rfl⟩) (by decide) (by decide) (fun v12 w12 hq12 => ?_)
      obtain ⟨rfl, rfl⟩ := hq12
      refine AW.nam (fun x12 ex12 => ?_)
      refine AW.if_eq 31 dX1_allStrangers_15 (by decide) (fun h15 => ?_) (fun h15 => ?_)
      · rw [ex12, hx] at h15
        have q1 := kb_0.mp h15
        refine AW.inc (fun x31 => [some (.ref c), some (.ref t), some (.int b), some (.int x31)]) dX1_allStrangers_31 rfl (by decide) rfl (fun _ => rfl) (fun x31 ex31 => ?_)
        refine AW.goto 2 dX1_allStrangers_34 (by decide) ?_
        exact ih2 (k2 + 1) (by omega) (by omega) _ (⟨k_inc (by assumption) hx, (show (f_as (I (c + 1)) b k2 && _) = true by rw [ha]; first | (simp [q1]; done) | (simp [q1, h26]; done))⟩)
      · rw [ex12, hx] at h15
        have q1 := kb_1.mp h15
        refine AW.aload_n dX1_allStrangers_18 rfl ?_
        refine AW.getR (c' := (c + 1)) (fX1_9 hG).r rfl (hc.1 0 _ rfl) (hc.2 (0, 0, 1) (by decide)) dX1_allStrangers_19 ?_
        refine AW.iload_n dX1_allStrangers_22 rfl ?_
        refine AW.iald (hc.1 1 _ rfl) (by first | assumption | exact vp_in_nI (by omega) (by decide)) dX1_allStrangers_23 ?_
        refine AW.iload_n dX1_allStrangers_24 rfl ?_
        refine AW.iand dX1_allStrangers_25 ?_
        refine AW.if_eq 31 dX1_allStrangers_26 (by decide) (fun h26 => ?_) (fun h26 => ?_)
        · rw [hcx] at h26
          refine AW.inc (fun x31 => [some (.ref c), some (.ref t), some (.int b), some (.int x31)]) dX1_allStrangers_31 rfl (by decide) rfl (fun _ => rfl) (fun x31 ex31 => ?_)
          refine AW.goto 2 dX1_allStrangers_34 (by decide) ?_
          exact ih2 (k2 + 1) (by omega) (by omega) _ (⟨k_inc (by assumption) hx, (show (f_as (I (c + 1)) b k2 && _) = true by rw [ha]; first | (simp [q1]; done) | (simp [q1, h26]; done))⟩)
        · rw [hcx] at h26
          refine AW.iconst 0 dX1_allStrangers_29 (by decide) ?_
          exact AW.zret dX1_allStrangers_30 rfl (by decide) (by decide) (by decide) (⟨by rw [kb_f (b := f_as (I (c + 1)) b n) (lall_no hlt (by simp [q1, h26]))], rfl⟩)
  exact L2 0 (by omega) _ (⟨nI_0.symm, rfl⟩)
theorem dX1_knownAfter_0 : decode cX1_knownAfter 0 = .ok (.aload_n 1, 1) := by decide +kernel
theorem dX1_knownAfter_1 : decode cX1_knownAfter 1 = .ok (.getfield 34, 3) := by decide +kernel
theorem dX1_knownAfter_4 : decode cX1_knownAfter 4 = .ok (.iload_n 2, 1) := by decide +kernel
theorem dX1_knownAfter_5 : decode cX1_knownAfter 5 = .ok (.iaload, 1) := by decide +kernel
theorem dX1_knownAfter_6 : decode cX1_knownAfter 6 = .ok (.iconst 2, 1) := by decide +kernel
theorem dX1_knownAfter_7 : decode cX1_knownAfter 7 = .ok (.if_icmp .ne 7, 3) := by decide +kernel
theorem dX1_knownAfter_10 : decode cX1_knownAfter 10 = .ok (.iconst 0, 1) := by decide +kernel
theorem dX1_knownAfter_11 : decode cX1_knownAfter 11 = .ok (.goto 9, 3) := by decide +kernel
theorem dX1_knownAfter_14 : decode cX1_knownAfter 14 = .ok (.aload_n 1, 1) := by decide +kernel
theorem dX1_knownAfter_15 : decode cX1_knownAfter 15 = .ok (.iload_n 2, 1) := by decide +kernel
theorem dX1_knownAfter_16 : decode cX1_knownAfter 16 = .ok (.iload_n 3, 1) := by decide +kernel
theorem dX1_knownAfter_17 : decode cX1_knownAfter 17 = .ok (.invokevirtual 76, 3) := by decide +kernel
theorem dX1_knownAfter_20 : decode cX1_knownAfter 20 = .ok (.istore 4, 2) := by decide +kernel
theorem dX1_knownAfter_22 : decode cX1_knownAfter 22 = .ok (.aload_n 0, 1) := by decide +kernel
theorem dX1_knownAfter_23 : decode cX1_knownAfter 23 = .ok (.getfield 9, 3) := by decide +kernel
theorem dX1_knownAfter_26 : decode cX1_knownAfter 26 = .ok (.iload_n 2, 1) := by decide +kernel
theorem dX1_knownAfter_27 : decode cX1_knownAfter 27 = .ok (.iaload, 1) := by decide +kernel
theorem dX1_knownAfter_28 : decode cX1_knownAfter 28 = .ok (.iload 4, 2) := by decide +kernel
theorem dX1_knownAfter_30 : decode cX1_knownAfter 30 = .ok (.ior, 1) := by decide +kernel
theorem dX1_knownAfter_31 : decode cX1_knownAfter 31 = .ok (.ireturn, 1) := by decide +kernel
set_option maxRecDepth 100000 in
set_option maxHeartbeats 4000000 in
theorem k_X1_knownAfter {G : am_G} (hK : k_OK G) {d : Nat} (hd : 2 ≤ d) {sh : List (Nat ⊕ (Nat × Nat))} {I : Nat → Nat → Int32} {R : Nat → Nat → Option Nat} {L : Nat → Nat → Int64} {g : Nat} {c t : Nat} (hc : k_Circle sh R c) (ht : k_Town sh R t) (p co : Int32) (hp : vp_in p 8) : AM G mX1_knownAfter d [.ref c, .ref t, .int p, .int co] (sh, I, R, L, g) (fun v w => v = some (.int (f_ka (I (t + 1)) (I (t + 4)) (I (c + 1)) p co)) ∧ w = (sh, I, R, L, g)) (fun _ _ => False) := by
  have hG := hK.1
  refine AM.of (n := 1) (by decide +kernel) (Nat.le_of_ble_eq_true rfl) ?_
  show AW G mX1_knownAfter d (fun v w => v = some (.int (f_ka (I (t + 1)) (I (t + 4)) (I (c + 1)) p co)) ∧ w = (sh, I, R, L, g)) (fun _ _ => False) 0 [some (.ref c), some (.ref t), some (.int p), some (.int co), none] [] (sh, I, R, L, g) 0 0
  refine AW.aload_n dX1_knownAfter_0 rfl ?_
  refine AW.getR (c' := (t + 1)) (fX1_34 hG) rfl (ht.1 0 _ rfl) (ht.2 (0, 4, 1) (by decide)) dX1_knownAfter_1 ?_
  refine AW.iload_n dX1_knownAfter_4 rfl ?_
  refine AW.iald (ht.1 1 _ rfl) (by first | assumption | exact vp_in_nI (by omega) (by decide)) dX1_knownAfter_5 ?_
  refine AW.iconst 2 dX1_knownAfter_6 (by decide) ?_
  refine AW.icmp_ne 14 dX1_knownAfter_7 (by decide) (fun h7 => ?_) (fun h7 => ?_)
  · refine AW.aload_n dX1_knownAfter_14 rfl ?_
    refine AW.iload_n dX1_knownAfter_15 rfl ?_
    refine AW.iload_n dX1_knownAfter_16 rfl ?_
    refine AW.callV (b := t) (As := [.int p, .int co]) hG.2.2 (vX1_76 hG) (ht.1 0 _ rfl) (k_X9_metBy hK (d := 1) (Nat.le_refl _) ht p co (by first | assumption | exact vp_in_nI (by omega) (by decide))) (by omega) dX1_knownAfter_17 rfl rfl (Nat.le_of_ble_eq_true rfl) (fun v w9 hq9 h09 => by obtain ⟨rfl, rfl⟩ := hq9; exact ⟨h09, rfl⟩) (by decide) (by decide) (fun _ _ hx => hx) (fun v17 w17 hq17 => ?_)
    obtain ⟨rfl, rfl⟩ := hq17
    refine AW.nam (fun x17 ex17 => ?_)
    refine AW.is [some (.ref c), some (.ref t), some (.int p), some (.int co), some (.int x17)] dX1_knownAfter_20 (by decide) rfl rfl ?_
    refine AW.aload_n dX1_knownAfter_22 rfl ?_
    refine AW.getR (c' := (c + 1)) (fX1_9 hG).r rfl (hc.1 0 _ rfl) (hc.2 (0, 0, 1) (by decide)) dX1_knownAfter_23 ?_
    refine AW.iload_n dX1_knownAfter_26 rfl ?_
    refine AW.iald (hc.1 1 _ rfl) (by first | assumption | exact vp_in_nI (by omega) (by decide)) dX1_knownAfter_27 ?_
    refine AW.iload dX1_knownAfter_28 rfl ?_
    refine AW.ior dX1_knownAfter_30 ?_
    exact AW.iret dX1_knownAfter_31 rfl (by decide) (by decide) (⟨by first | (rw [f_ka, if_neg h7, ex17]) | (rw [f_ka, if_pos h7]), rfl⟩)
  · refine AW.iconst 0 dX1_knownAfter_10 (by decide) ?_
    refine AW.goto 20 dX1_knownAfter_11 (by decide) ?_
    refine AW.is [some (.ref c), some (.ref t), some (.int p), some (.int co), some (.int 0)] dX1_knownAfter_20 (by decide) rfl rfl ?_
    refine AW.aload_n dX1_knownAfter_22 rfl ?_
    refine AW.getR (c' := (c + 1)) (fX1_9 hG).r rfl (hc.1 0 _ rfl) (hc.2 (0, 0, 1) (by decide)) dX1_knownAfter_23 ?_
    refine AW.iload_n dX1_knownAfter_26 rfl ?_
    refine AW.iald (hc.1 1 _ rfl) (by first | assumption | exact vp_in_nI (by omega) (by decide)) dX1_knownAfter_27 ?_
    refine AW.iload dX1_knownAfter_28 rfl ?_
    refine AW.ior dX1_knownAfter_30 ?_
    exact AW.iret dX1_knownAfter_31 rfl (by decide) (by decide) (⟨by first | (rw [f_ka, if_neg h7, ex17]) | (rw [f_ka, if_pos h7]), rfl⟩)
def f_kc (kd tw kn : Nat → Int32) (ct eb co : Int32) (n : Nat) : Bool := !lall (fun p => !(f_has ct (nI p) && decide (f_ka kd tw kn (nI p) co &&& eb = 0))) n
theorem dX1_keepsCutter_0 : decode cX1_keepsCutter 0 = .ok (.aload_n 1, 1) := by decide +kernel
theorem dX1_keepsCutter_1 : decode cX1_keepsCutter 1 = .ok (.getfield 41, 3) := by decide +kernel
theorem dX1_keepsCutter_4 : decode cX1_keepsCutter 4 = .ok (.getfield 50, 3) := by decide +kernel
theorem dX1_keepsCutter_7 : decode cX1_keepsCutter 7 = .ok (.iload_n 3, 1) := by decide +kernel
theorem dX1_keepsCutter_8 : decode cX1_keepsCutter 8 = .ok (.iaload, 1) := by decide +kernel
theorem dX1_keepsCutter_9 : decode cX1_keepsCutter 9 = .ok (.istore 4, 2) := by decide +kernel
theorem dX1_keepsCutter_11 : decode cX1_keepsCutter 11 = .ok (.iconst 0, 1) := by decide +kernel
theorem dX1_keepsCutter_12 : decode cX1_keepsCutter 12 = .ok (.istore 5, 2) := by decide +kernel
theorem dX1_keepsCutter_14 : decode cX1_keepsCutter 14 = .ok (.iload 5, 2) := by decide +kernel
theorem dX1_keepsCutter_16 : decode cX1_keepsCutter 16 = .ok (.aload_n 1, 1) := by decide +kernel
theorem dX1_keepsCutter_17 : decode cX1_keepsCutter 17 = .ok (.getfield 18, 3) := by decide +kernel
theorem dX1_keepsCutter_20 : decode cX1_keepsCutter 20 = .ok (.if_icmp .ge 39, 3) := by decide +kernel
theorem dX1_keepsCutter_23 : decode cX1_keepsCutter 23 = .ok (.aload_n 0, 1) := by decide +kernel
theorem dX1_keepsCutter_24 : decode cX1_keepsCutter 24 = .ok (.getfield 15, 3) := by decide +kernel
theorem dX1_keepsCutter_27 : decode cX1_keepsCutter 27 = .ok (.iload_n 3, 1) := by decide +kernel
theorem dX1_keepsCutter_28 : decode cX1_keepsCutter 28 = .ok (.iaload, 1) := by decide +kernel
theorem dX1_keepsCutter_29 : decode cX1_keepsCutter 29 = .ok (.iload 5, 2) := by decide +kernel
theorem dX1_keepsCutter_31 : decode cX1_keepsCutter 31 = .ok (.invokestatic 69, 3) := by decide +kernel
theorem dX1_keepsCutter_34 : decode cX1_keepsCutter 34 = .ok (.ifCond .eq 19, 3) := by decide +kernel
theorem dX1_keepsCutter_37 : decode cX1_keepsCutter 37 = .ok (.aload_n 0, 1) := by decide +kernel
theorem dX1_keepsCutter_38 : decode cX1_keepsCutter 38 = .ok (.aload_n 1, 1) := by decide +kernel
theorem dX1_keepsCutter_39 : decode cX1_keepsCutter 39 = .ok (.iload 5, 2) := by decide +kernel
theorem dX1_keepsCutter_41 : decode cX1_keepsCutter 41 = .ok (.iload_n 2, 1) := by decide +kernel
theorem dX1_keepsCutter_42 : decode cX1_keepsCutter 42 = .ok (.invokevirtual 80, 3) := by decide +kernel
theorem dX1_keepsCutter_45 : decode cX1_keepsCutter 45 = .ok (.iload 4, 2) := by decide +kernel
theorem dX1_keepsCutter_47 : decode cX1_keepsCutter 47 = .ok (.iand, 1) := by decide +kernel
theorem dX1_keepsCutter_48 : decode cX1_keepsCutter 48 = .ok (.ifCond .ne 5, 3) := by decide +kernel
theorem dX1_keepsCutter_51 : decode cX1_keepsCutter 51 = .ok (.iconst 1, 1) := by decide +kernel
theorem dX1_keepsCutter_52 : decode cX1_keepsCutter 52 = .ok (.ireturn, 1) := by decide +kernel
theorem dX1_keepsCutter_53 : decode cX1_keepsCutter 53 = .ok (.iinc 5 1, 3) := by decide +kernel
theorem dX1_keepsCutter_56 : decode cX1_keepsCutter 56 = .ok (.goto (-42), 3) := by decide +kernel
theorem dX1_keepsCutter_59 : decode cX1_keepsCutter 59 = .ok (.iconst 0, 1) := by decide +kernel
theorem dX1_keepsCutter_60 : decode cX1_keepsCutter 60 = .ok (.ireturn, 1) := by decide +kernel
set_option maxRecDepth 100000 in
set_option maxHeartbeats 4000000 in
theorem k_X1_keepsCutter {G : am_G} (hK : k_OK G) {d : Nat} (hd : 3 ≤ d) {sh : List (Nat ⊕ (Nat × Nat))} {I : Nat → Nat → Int32} {R : Nat → Nat → Option Nat} {L : Nat → Nat → Int64} {g : Nat} {c t n : Nat} (hc : k_Circle sh R c) (ht : k_Town sh R t) (hn : I t 0 = nI n) (hn8 : n ≤ 8) (co l : Int32) (hl : vp_in l 6) : AM G mX1_keepsCutter d [.ref c, .ref t, .int co, .int l] (sh, I, R, L, g) (fun v w => v = some (.int (kb (f_kc (I (t + 1)) (I (t + 4)) (I (c + 1)) (I (c + 2) l.toNatClampNeg) (I (t + 14) l.toNatClampNeg) co n))) ∧ w = (sh, I, R, L, g)) (fun _ _ => False) := by
  have hG := hK.1
  refine AM.of (n := 2) (by decide +kernel) (Nat.le_of_ble_eq_true rfl) ?_
  show AW G mX1_keepsCutter d (fun v w => v = some (.int (kb (f_kc (I (t + 1)) (I (t + 4)) (I (c + 1)) (I (c + 2) l.toNatClampNeg) (I (t + 14) l.toNatClampNeg) co n))) ∧ w = (sh, I, R, L, g)) (fun _ _ => False) 0 [some (.ref c), some (.ref t), some (.int co), some (.int l), none, none] [] (sh, I, R, L, g) 0 0
  refine AW.aload_n dX1_keepsCutter_0 rfl ?_
  refine AW.getR (c' := (t + 8)) (fX1_41 hG) rfl (ht.1 0 _ rfl) (ht.2 (0, 11, 8) (by decide)) dX1_keepsCutter_1 ?_
  refine AW.getR (c' := (t + 14)) (fX1_50 hG) rfl (ht.1 8 _ rfl) (ht.2 (8, 6, 14) (by decide)) dX1_keepsCutter_4 ?_
  refine AW.iload_n dX1_keepsCutter_7 rfl ?_
  refine AW.iald (ht.1 14 _ rfl) (by first | assumption | exact vp_in_nI (by omega) (by decide)) dX1_keepsCutter_8 ?_
  refine AW.nam (fun x9 ex9 => ?_)
  refine AW.is [some (.ref c), some (.ref t), some (.int co), some (.int l), some (.int x9), none] dX1_keepsCutter_9 (by decide) rfl rfl ?_
  refine AW.iconst 0 dX1_keepsCutter_11 (by decide) ?_
  refine AW.is [some (.ref c), some (.ref t), some (.int co), some (.int l), some (.int x9), some (.int 0)] dX1_keepsCutter_12 (by decide) rfl rfl ?_
  have L14 : ∀ k14, k14 ≤ n → ∀ (x : Int32), (x = nI k14 ∧ f_kc (I (t + 1)) (I (t + 4)) (I (c + 1)) (I (c + 2) l.toNatClampNeg) (I (t + 14) l.toNatClampNeg) co k14 = false) → AW G mX1_keepsCutter d (fun v w => v = some (.int (kb (f_kc (I (t + 1)) (I (t + 4)) (I (c + 1)) (I (c + 2) l.toNatClampNeg) (I (t + 14) l.toNatClampNeg) co n))) ∧ w = (sh, I, R, L, g)) (fun _ _ => False) 14 [some (.ref c), some (.ref t), some (.int co), some (.int l), some (.int x9), some (.int x)] [] (sh, I, R, L, g) 0 0 := by
    refine am_rec n (fun k14 hk14 ih14 => ?_)
    intro x hi14
    obtain ⟨hx, ha⟩ := hi14
    refine AW.iload dX1_keepsCutter_14 rfl ?_
    refine AW.aload_n dX1_keepsCutter_16 rfl ?_
    refine AW.getI (fX1_18 hG).r rfl (ht.1 0 _ rfl) dX1_keepsCutter_17 ?_
    refine AW.icmp_ge 59 dX1_keepsCutter_20 (by decide) (fun h20 => ?_) (fun h20 => ?_)
    · have hke := k_ge h20 hx hn hk14 (by omega)
      subst hke
      refine AW.iconst 0 dX1_keepsCutter_59 (by decide) ?_
      exact AW.zret dX1_keepsCutter_60 rfl (by decide) (by decide) (by decide) (⟨by rw [ha]; rfl, rfl⟩)
    · have hlt := k_lt h20 hx hn hk14 (by omega)
      have hbx : vp_in x 8 := by rw [hx]; exact vp_in_nI (by omega) (by decide)
      have hcx : x.toNatClampNeg = k14 := by rw [hx]; exact nI_clamp (by omega)
      refine AW.aload_n dX1_keepsCutter_23 rfl ?_
      refine AW.getR (c' := (c + 2)) (fX1_15 hG).r rfl (hc.1 0 _ rfl) (hc.2 (0, 1, 2) (by decide)) dX1_keepsCutter_24 ?_
      refine AW.iload_n dX1_keepsCutter_27 rfl ?_
      refine AW.iald (hc.1 2 _ rfl) (by first | assumption | exact vp_in_nI (by omega) (by decide)) dX1_keepsCutter_28 ?_
      refine AW.iload dX1_keepsCutter_29 rfl ?_
      refine AW.callSN (As := [.int (I (c + 2) l.toNatClampNeg), .int x]) hG.2.2 (vX1_69n hK) (kS_X10_has hG) (k_X10_has hK (d := 0) (Nat.le_refl _) (I (c + 2) l.toNatClampNeg) x) (by omega) dX1_keepsCutter_31 rfl rfl (Nat.le_of_ble_eq_true rfl) (fun v w9 hq9 h09 => by obtain ⟨rfl, rfl⟩ := hq9; exact ⟨h09, rfl⟩) (by decide) (by decide) (fun v31 w31 hq31 => ?_)
      obtain ⟨rfl, rfl⟩ := hq31
      refine AW.nam (fun x31 ex31 => ?_)
      refine AW.if_eq 53 dX1_keepsCutter_34 (by decide) (fun h34 => ?_) (fun h34 => ?_)
      · rw [ex31, hx] at h34
        have q1 := kb_0.mp h34
        refine AW.inc (fun x53 => [some (.ref c), some (.ref t), some (.int co), some (.int l), some (.int x9), some (.int x53)]) dX1_keepsCutter_53 rfl (by decide) rfl (fun _ => rfl) (fun x53 ex53 => ?_)
        refine AW.goto 14 dX1_keepsCutter_56 (by decide) ?_
        exact ih14 (k14 + 1) (by omega) (by omega) _ (⟨k_inc (by assumption) hx, by simp only [f_kc, lall, Bool.not_eq_false', Bool.and_eq_true] at ha ⊢; exact ⟨ha, by first | (simp [q1]; done) | (simp [q1, h48]; done)⟩⟩)
      · rw [ex31, hx] at h34
        have q1 := kb_1.mp h34
        refine AW.aload_n dX1_keepsCutter_37 rfl ?_
        refine AW.aload_n dX1_keepsCutter_38 rfl ?_
        refine AW.iload dX1_keepsCutter_39 rfl ?_
        refine AW.iload_n dX1_keepsCutter_41 rfl ?_
        refine AW.callV (b := c) (As := [.ref t, .int x, .int co]) hG.2.2 (vX1_80 hG) (hc.1 0 _ rfl) (k_X1_knownAfter hK (d := 2) (Nat.le_refl _) hc ht x co (by assumption)) (by omega) dX1_keepsCutter_42 rfl rfl (Nat.le_of_ble_eq_true rfl) (fun v w9 hq9 h09 => by obtain ⟨rfl, rfl⟩ := hq9; exact ⟨h09, rfl⟩) (by decide) (by decide) (fun _ _ hx => hx) (fun v42 w42 hq42 => ?_)
        obtain ⟨rfl, rfl⟩ := hq42
        refine AW.nam (fun x42 ex42 => ?_)
        refine AW.iload dX1_keepsCutter_45 rfl ?_
        refine AW.iand dX1_keepsCutter_47 ?_
        refine AW.if_ne 53 dX1_keepsCutter_48 (by decide) (fun h48 => ?_) (fun h48 => ?_)
        · rw [ex42, hx, ex9] at h48
          refine AW.inc (fun x53 => [some (.ref c), some (.ref t), some (.int co), some (.int l), some (.int x9), some (.int x53)]) dX1_keepsCutter_53 rfl (by decide) rfl (fun _ => rfl) (fun x53 ex53 => ?_)
          refine AW.goto 14 dX1_keepsCutter_56 (by decide) ?_
          exact ih14 (k14 + 1) (by omega) (by omega) _ (⟨k_inc (by assumption) hx, by simp only [f_kc, lall, Bool.not_eq_false', Bool.and_eq_true] at ha ⊢; exact ⟨ha, by first | (simp [q1]; done) | (simp [q1, h48]; done)⟩⟩)
        · rw [ex42, hx, ex9] at h48
          refine AW.iconst 1 dX1_keepsCutter_51 (by decide) ?_
          exact AW.zret dX1_keepsCutter_52 rfl (by decide) (by decide) (by decide) (⟨by rw [kb_t (by unfold f_kc; rw [lall_no hlt (by simp [q1, h48])]; rfl)], rfl⟩)
  exact L14 0 (by omega) _ (⟨nI_0.symm, rfl⟩)
/-- the circle at c looks at the town t on the days b -/
def f_knA (I : Nat → Nat → Int32) (t b n : Nat) : Nat → Int32 := fun p => f_kn (I (t + 1)) (I (t + 2)) (I (t + 4)) (I (b + 1)) (I b 0) (I t 2) n p
def f_knR (I : Nat → Nat → Int32) (c t b n k : Nat) : Nat → Int32 := f_row (f_knA I t b n) (I (c + 1)) k
def f_ctR (I : Nat → Nat → Int32) (c t b n k : Nat) : Nat → Int32 := f_row (fun l => f_st (f_knR I c t b n n) (I (t + 14) l) n) (I (c + 2)) k
def f_look (I : Nat → Nat → Int32) (c t b n m : Nat) : Nat → Nat → Int32 := am_uA (am_uA I (c + 1) (f_knR I c t b n n)) (c + 2) (f_ctR I c t b n m)
theorem f_look_o (I : Nat → Nat → Int32) (c t b n m : Nat) {a : Nat} (h : a < c + 1 ∨ c + 3 ≤ a) : f_look I c t b n m a = I a := by
  unfold f_look
  rw [am_uA_o _ _ _ (by omega), am_uA_o _ _ _ (by omega)]
theorem dX1_look_0 : decode cX1_look 0 = .ok (.iconst 0, 1) := by decide +kernel
theorem dX1_look_1 : decode cX1_look 1 = .ok (.istore_n 3, 1) := by decide +kernel
theorem dX1_look_2 : decode cX1_look 2 = .ok (.iload_n 3, 1) := by decide +kernel
theorem dX1_look_3 : decode cX1_look 3 = .ok (.aload_n 1, 1) := by decide +kernel
theorem dX1_look_4 : decode cX1_look 4 = .ok (.getfield 18, 3) := by decide +kernel
theorem dX1_look_7 : decode cX1_look 7 = .ok (.if_icmp .ge 64, 3) := by decide +kernel
theorem dX1_look_10 : decode cX1_look 10 = .ok (.aload_n 1, 1) := by decide +kernel
theorem dX1_look_11 : decode cX1_look 11 = .ok (.iconst 1, 1) := by decide +kernel
theorem dX1_look_12 : decode cX1_look 12 = .ok (.aload_n 1, 1) := by decide +kernel
theorem dX1_look_13 : decode cX1_look 13 = .ok (.getfield 24, 3) := by decide +kernel
theorem dX1_look_16 : decode cX1_look 16 = .ok (.iload_n 3, 1) := by decide +kernel
theorem dX1_look_17 : decode cX1_look 17 = .ok (.iaload, 1) := by decide +kernel
theorem dX1_look_18 : decode cX1_look 18 = .ok (.ishl, 1) := by decide +kernel
theorem dX1_look_19 : decode cX1_look 19 = .ok (.invokevirtual 27, 3) := by decide +kernel
theorem dX1_look_22 : decode cX1_look 22 = .ok (.aload_n 1, 1) := by decide +kernel
theorem dX1_look_23 : decode cX1_look 23 = .ok (.iload_n 3, 1) := by decide +kernel
theorem dX1_look_24 : decode cX1_look 24 = .ok (.invokevirtual 31, 3) := by decide +kernel
theorem dX1_look_27 : decode cX1_look 27 = .ok (.ior, 1) := by decide +kernel
theorem dX1_look_28 : decode cX1_look 28 = .ok (.istore 4, 2) := by decide +kernel
theorem dX1_look_30 : decode cX1_look 30 = .ok (.aload_n 1, 1) := by decide +kernel
theorem dX1_look_31 : decode cX1_look 31 = .ok (.getfield 34, 3) := by decide +kernel
theorem dX1_look_34 : decode cX1_look 34 = .ok (.iload_n 3, 1) := by decide +kernel
theorem dX1_look_35 : decode cX1_look 35 = .ok (.iaload, 1) := by decide +kernel
theorem dX1_look_36 : decode cX1_look 36 = .ok (.iconst 2, 1) := by decide +kernel
theorem dX1_look_37 : decode cX1_look 37 = .ok (.if_icmp .eq 14, 3) := by decide +kernel
theorem dX1_look_40 : decode cX1_look 40 = .ok (.iload 4, 2) := by decide +kernel
theorem dX1_look_42 : decode cX1_look 42 = .ok (.aload_n 1, 1) := by decide +kernel
theorem dX1_look_43 : decode cX1_look 43 = .ok (.aload_n 2, 1) := by decide +kernel
theorem dX1_look_44 : decode cX1_look 44 = .ok (.iload_n 3, 1) := by decide +kernel
theorem dX1_look_45 : decode cX1_look 45 = .ok (.invokestatic 37, 3) := by decide +kernel
theorem dX1_look_48 : decode cX1_look 48 = .ok (.ior, 1) := by decide +kernel
theorem dX1_look_49 : decode cX1_look 49 = .ok (.istore 4, 2) := by decide +kernel
theorem dX1_look_51 : decode cX1_look 51 = .ok (.aload_n 0, 1) := by decide +kernel
theorem dX1_look_52 : decode cX1_look 52 = .ok (.getfield 9, 3) := by decide +kernel
theorem dX1_look_55 : decode cX1_look 55 = .ok (.iload_n 3, 1) := by decide +kernel
theorem dX1_look_56 : decode cX1_look 56 = .ok (.iload 4, 2) := by decide +kernel
theorem dX1_look_58 : decode cX1_look 58 = .ok (.iconst 1, 1) := by decide +kernel
theorem dX1_look_59 : decode cX1_look 59 = .ok (.iload_n 3, 1) := by decide +kernel
theorem dX1_look_60 : decode cX1_look 60 = .ok (.ishl, 1) := by decide +kernel
theorem dX1_look_61 : decode cX1_look 61 = .ok (.iconst (-1), 1) := by decide +kernel
theorem dX1_look_62 : decode cX1_look 62 = .ok (.ixor, 1) := by decide +kernel
theorem dX1_look_63 : decode cX1_look 63 = .ok (.iand, 1) := by decide +kernel
theorem dX1_look_64 : decode cX1_look 64 = .ok (.iastore, 1) := by decide +kernel
theorem dX1_look_65 : decode cX1_look 65 = .ok (.iinc 3 1, 3) := by decide +kernel
theorem dX1_look_68 : decode cX1_look 68 = .ok (.goto (-66), 3) := by decide +kernel
theorem dX1_look_71 : decode cX1_look 71 = .ok (.iconst 0, 1) := by decide +kernel
theorem dX1_look_72 : decode cX1_look 72 = .ok (.istore_n 3, 1) := by decide +kernel
theorem dX1_look_73 : decode cX1_look 73 = .ok (.iload_n 3, 1) := by decide +kernel
theorem dX1_look_74 : decode cX1_look 74 = .ok (.aload_n 1, 1) := by decide +kernel
theorem dX1_look_75 : decode cX1_look 75 = .ok (.getfield 41, 3) := by decide +kernel
theorem dX1_look_78 : decode cX1_look 78 = .ok (.getfield 45, 3) := by decide +kernel
theorem dX1_look_81 : decode cX1_look 81 = .ok (.if_icmp .ge 29, 3) := by decide +kernel
theorem dX1_look_84 : decode cX1_look 84 = .ok (.aload_n 0, 1) := by decide +kernel
theorem dX1_look_85 : decode cX1_look 85 = .ok (.getfield 15, 3) := by decide +kernel
theorem dX1_look_88 : decode cX1_look 88 = .ok (.iload_n 3, 1) := by decide +kernel
theorem dX1_look_89 : decode cX1_look 89 = .ok (.aload_n 0, 1) := by decide +kernel
theorem dX1_look_90 : decode cX1_look 90 = .ok (.aload_n 1, 1) := by decide +kernel
theorem dX1_look_91 : decode cX1_look 91 = .ok (.aload_n 1, 1) := by decide +kernel
theorem dX1_look_92 : decode cX1_look 92 = .ok (.getfield 41, 3) := by decide +kernel
theorem dX1_look_95 : decode cX1_look 95 = .ok (.getfield 50, 3) := by decide +kernel
theorem dX1_look_98 : decode cX1_look 98 = .ok (.iload_n 3, 1) := by decide +kernel
theorem dX1_look_99 : decode cX1_look 99 = .ok (.iaload, 1) := by decide +kernel
theorem dX1_look_100 : decode cX1_look 100 = .ok (.invokevirtual 53, 3) := by decide +kernel
theorem dX1_look_103 : decode cX1_look 103 = .ok (.iastore, 1) := by decide +kernel
theorem dX1_look_104 : decode cX1_look 104 = .ok (.iinc 3 1, 3) := by decide +kernel
theorem dX1_look_107 : decode cX1_look 107 = .ok (.goto (-34), 3) := by decide +kernel
theorem dX1_look_110 : decode cX1_look 110 = .ok (.return_, 1) := by decide +kernel
set_option maxRecDepth 100000 in
set_option maxHeartbeats 4000000 in
theorem k_X1_look {G : am_G} (hK : k_OK G) {d : Nat} (hd : 2 ≤ d) {sh : List (Nat ⊕ (Nat × Nat))} {I : Nat → Nat → Int32} {R : Nat → Nat → Option Nat} {L : Nat → Nat → Int64} {g : Nat} {c t b n m : Nat} (hc : k_Circle sh R c) (ht : k_Town sh R t) (hb : k_Days sh R b) (hct : c + 3 ≤ t ∨ t + 19 ≤ c) (hcb : c + 3 ≤ b ∨ b + 4 ≤ c) (hn : I t 0 = nI n) (hn8 : n ≤ 8) (hm : I (t + 8) 0 = nI m) (hm6 : m ≤ 6) : AM G mX1_look d [.ref c, .ref t, .ref b] (sh, I, R, L, g) (fun v w => v = none ∧ w = (sh, f_look I c t b n m, R, L, g)) (fun _ _ => False) := by
  have hG := hK.1
  refine AM.of (n := 2) (by decide +kernel) (Nat.le_of_ble_eq_true rfl) ?_
  show AW G mX1_look d (fun v w => v = none ∧ w = (sh, f_look I c t b n m, R, L, g)) (fun _ _ => False) 0 [some (.ref c), some (.ref t), some (.ref b), none, none] [] (sh, I, R, L, g) 0 0
  refine AW.iconst 0 dX1_look_0 (by decide) ?_
  refine AW.is_n [some (.ref c), some (.ref t), some (.ref b), some (.int 0), none] dX1_look_1 (by decide) rfl rfl ?_
  have L2 : ∀ k2, k2 ≤ n → ∀ (x : Int32) (J : Nat → Nat → Int32), (x = nI k2 ∧ J = am_uA I (c + 1) (f_knR I c t b n k2)) → AW G mX1_look d (fun v w => v = none ∧ w = (sh, f_look I c t b n m, R, L, g)) (fun _ _ => False) 2 [some (.ref c), some (.ref t), some (.ref b), some (.int x), none] [] (sh, J, R, L, g) 0 0 := by
    refine am_rec n (fun k2 hk2 ih2 => ?_)
    intro x J hi2
    obtain ⟨hx, hJ⟩ := hi2
    have hJo : ∀ a, a ≠ c + 1 → J a = I a := fun a h => by rw [hJ, am_uA_o _ _ _ h]
    have hJn : J t 0 = nI n := by rw [hJo t (by omega)]; exact hn
    have q0 := hJo t (by omega)
    have q1 := hJo (t + 1) (by omega)
    have q2 := hJo (t + 2) (by omega)
    have q4 := hJo (t + 4) (by omega)
    have qb := hJo b (by omega)
    have qb1 := hJo (b + 1) (by omega)
    refine AW.iload_n dX1_look_2 rfl ?_
    refine AW.aload_n dX1_look_3 rfl ?_
    refine AW.getI (fX1_18 hG).r rfl (ht.1 0 _ rfl) dX1_look_4 ?_
    refine AW.icmp_ge 71 dX1_look_7 (by decide) (fun h7 => ?_) (fun h7 => ?_)
    · have hke := k_ge h7 hx hJn hk2 (by omega)
      rw [hke] at hJ
      refine AW.iconst 0 dX1_look_71 (by decide) ?_
      refine AW.is_n [some (.ref c), some (.ref t), some (.ref b), some (.int 0), none] dX1_look_72 (by decide) rfl rfl ?_
      have L73 : ∀ k73, k73 ≤ m → ∀ (y : Int32) (J2 : Nat → Nat → Int32), (y = nI k73 ∧ J2 = am_uA (am_uA I (c + 1) (f_knR I c t b n n)) (c + 2) (f_ctR I c t b n k73)) → AW G mX1_look d (fun v w => v = none ∧ w = (sh, f_look I c t b n m, R, L, g)) (fun _ _ => False) 73 [some (.ref c), some (.ref t), some (.ref b), some (.int y), none] [] (sh, J2, R, L, g) 0 0 := by
        refine am_rec m (fun k73 hk73 ih73 => ?_)
        intro y J2 hi73
        obtain ⟨hy, hJ2⟩ := hi73
        have hJo2 : ∀ a, a ≠ c + 1 → a ≠ c + 2 → J2 a = I a := fun a h h2 => by rw [hJ2, am_uA_o _ _ _ h2, am_uA_o _ _ _ h]
        have hJn2 : J2 t 0 = nI n := by rw [hJo2 t (by omega) (by omega)]; exact hn
        have hJm : J2 (t + 8) 0 = nI m := by rw [hJo2 (t + 8) (by omega) (by omega)]; exact hm
        have hJc : J2 (c + 1) = f_knR I c t b n n := by rw [hJ2, am_uA_o _ _ _ (by omega), am_uA_s]
        have q14 := hJo2 (t + 14) (by omega) (by omega)
        refine AW.iload_n dX1_look_73 rfl ?_
        refine AW.aload_n dX1_look_74 rfl ?_
        refine AW.getR (c' := (t + 8)) (fX1_41 hG) rfl (ht.1 0 _ rfl) (ht.2 (0, 11, 8) (by decide)) dX1_look_75 ?_
        refine AW.getI (fX1_45 hG).r rfl (ht.1 8 _ rfl) dX1_look_78 ?_
        refine AW.icmp_ge 110 dX1_look_81 (by decide) (fun h81 => ?_) (fun h81 => ?_)
        · have hke := k_ge h81 hy hJm hk73 (by omega)
          subst hke
          exact AW.vret dX1_look_110 rfl (by decide) (by decide) (⟨rfl, by rw [hJ2]; rfl⟩)
        · have hlt2 := k_lt h81 hy hJm hk73 (by omega)
          have hby : vp_in y 6 := by rw [hy]; exact vp_in_nI (by omega) (by decide)
          have hcy : y.toNatClampNeg = k73 := k_lit hy (by omega)
          refine AW.aload_n dX1_look_84 rfl ?_
          refine AW.getR (c' := (c + 2)) (fX1_15 hG).r rfl (hc.1 0 _ rfl) (hc.2 (0, 1, 2) (by decide)) dX1_look_85 ?_
          refine AW.iload_n dX1_look_88 rfl ?_
          refine AW.aload_n dX1_look_89 rfl ?_
          refine AW.aload_n dX1_look_90 rfl ?_
          refine AW.aload_n dX1_look_91 rfl ?_
          refine AW.getR (c' := (t + 8)) (fX1_41 hG) rfl (ht.1 0 _ rfl) (ht.2 (0, 11, 8) (by decide)) dX1_look_92 ?_
          refine AW.getR (c' := (t + 14)) (fX1_50 hG) rfl (ht.1 8 _ rfl) (ht.2 (8, 6, 14) (by decide)) dX1_look_95 ?_
          refine AW.iload_n dX1_look_98 rfl ?_
          refine AW.iald (ht.1 14 _ rfl) (by first | assumption | exact vp_in_nI (by omega) (by decide)) dX1_look_99 ?_
          refine AW.callV (b := c) (As := [.ref t, .int (J2 (t + 14) y.toNatClampNeg)]) hG.2.2 (vX1_53 hG) (hc.1 0 _ rfl) (k_X1_strangersTo hK (d := 0) (Nat.le_refl _) hc ht (by assumption) (by assumption) (J2 (t + 14) y.toNatClampNeg)) (by omega) dX1_look_100 rfl rfl (Nat.le_of_ble_eq_true rfl) (fun v w9 hq9 h09 => by obtain ⟨rfl, rfl⟩ := hq9; exact ⟨h09, rfl⟩) (by decide) (by decide) (fun _ _ hx => hx) (fun v100 w100 hq100 => ?_)
          obtain ⟨rfl, rfl⟩ := hq100
          refine AW.nam (fun x100 ex100 => ?_)
          refine AW.iast (hc.1 2 _ rfl) (by first | assumption | exact vp_in_nI (by omega) (by decide)) dX1_look_103 ?_
          refine AW.namI (fun I103 eI103 => ?_)
          refine AW.inc (fun x104 => [some (.ref c), some (.ref t), some (.ref b), some (.int x104), none]) dX1_look_104 rfl (by decide) rfl (fun _ => rfl) (fun x104 ex104 => ?_)
          refine AW.goto 73 dX1_look_107 (by decide) ?_
          refine AW.mask [4] [some (.ref c), some (.ref t), some (.ref b), some (.int x104), none] rfl ?_
          exact ih73 (k73 + 1) (by omega) (by omega) _ _ (⟨k_inc (by assumption) hy, by rw [eI103, hcy, ex100, hJc, q14, hcy, hJ2, am_up_uA, am_uA_s, am_uA_uA]; exact congrArg (am_uA _ (c + 2)) (f_row_s (fun l => f_st (f_knR I c t b n n) (I (t + 14) l) n) (I (c + 2)) k73)⟩)
      exact L73 0 (by omega) _ _ (⟨nI_0.symm, by rw [hJ]; exact (am_uA_id _ (c + 2)).symm.trans (congrArg (am_uA _ (c + 2)) (am_uA_o I (c + 1) _ (show c + 2 ≠ c + 1 by omega)))⟩)
    · have hlt := k_lt h7 hx hJn hk2 (by omega)
      have hbx : vp_in x 8 := by rw [hx]; exact vp_in_nI (by omega) (by decide)
      have hcx : x.toNatClampNeg = k2 := by rw [hx]; exact nI_clamp (by omega)
      refine AW.aload_n dX1_look_10 rfl ?_
      refine AW.iconst 1 dX1_look_11 (by decide) ?_
      refine AW.aload_n dX1_look_12 rfl ?_
      refine AW.getR (c' := (t + 2)) (fX1_24 hG) rfl (ht.1 0 _ rfl) (ht.2 (0, 5, 2) (by decide)) dX1_look_13 ?_
      refine AW.iload_n dX1_look_16 rfl ?_
      refine AW.iald (ht.1 2 _ rfl) (by first | assumption | exact vp_in_nI (by omega) (by decide)) dX1_look_17 ?_
      refine AW.ishl dX1_look_18 ?_
      refine AW.callV (b := t) (As := [.int (1 <<< ((J (t + 2) x.toNatClampNeg) &&& 31))]) hG.2.2 (vX1_27 hG) (ht.1 0 _ rfl) (k_X9_dwellers hK (d := 1) (Nat.le_refl _) ht (by assumption) (by assumption) (1 <<< ((J (t + 2) x.toNatClampNeg) &&& 31))) (by omega) dX1_look_19 rfl rfl (Nat.le_of_ble_eq_true rfl) (fun v w9 hq9 h09 => by obtain ⟨rfl, rfl⟩ := hq9; exact ⟨h09, rfl⟩) (by decide) (by decide) (fun _ _ hx => hx) (fun v19 w19 hq19 => ?_)
      obtain ⟨rfl, rfl⟩ := hq19
      refine AW.nam (fun x19 ex19 => ?_)
      refine AW.aload_n dX1_look_22 rfl ?_
      refine AW.iload_n dX1_look_23 rfl ?_
      refine AW.callV (b := t) (As := [.int x]) hG.2.2 (vX1_31 hG) (ht.1 0 _ rfl) (k_X9_pair hK (d := 0) (Nat.le_refl _) ht x (by first | assumption | exact vp_in_nI (by omega) (by decide))) (by omega) dX1_look_24 rfl rfl (Nat.le_of_ble_eq_true rfl) (fun v w9 hq9 h09 => by obtain ⟨rfl, rfl⟩ := hq9; exact ⟨h09, rfl⟩) (by decide) (by decide) (fun _ _ hx => hx) (fun v24 w24 hq24 => ?_)
      obtain ⟨rfl, rfl⟩ := hq24
      refine AW.nam (fun x24 ex24 => ?_)
      refine AW.ior dX1_look_27 ?_
      refine AW.nam (fun x28 ex28 => ?_)
      refine AW.is [some (.ref c), some (.ref t), some (.ref b), some (.int x), some (.int x28)] dX1_look_28 (by decide) rfl rfl ?_
      refine AW.aload_n dX1_look_30 rfl ?_
      refine AW.getR (c' := (t + 1)) (fX1_34 hG) rfl (ht.1 0 _ rfl) (ht.2 (0, 4, 1) (by decide)) dX1_look_31 ?_
      refine AW.iload_n dX1_look_34 rfl ?_
      refine AW.iald (ht.1 1 _ rfl) (by first | assumption | exact vp_in_nI (by omega) (by decide)) dX1_look_35 ?_
      refine AW.iconst 2 dX1_look_36 (by decide) ?_
      refine AW.icmp_eq 51 dX1_look_37 (by decide) (fun h37 => ?_) (fun h37 => ?_)
      · rw [q1, hcx] at h37
        refine AW.aload_n dX1_look_51 rfl ?_
        refine AW.getR (c' := (c + 1)) (fX1_9 hG).r rfl (hc.1 0 _ rfl) (hc.2 (0, 0, 1) (by decide)) dX1_look_52 ?_
        refine AW.iload_n dX1_look_55 rfl ?_
        refine AW.iload dX1_look_56 rfl ?_
        refine AW.iconst 1 dX1_look_58 (by decide) ?_
        refine AW.iload_n dX1_look_59 rfl ?_
        refine AW.ishl dX1_look_60 ?_
        refine AW.iconst (-1) dX1_look_61 (by decide) ?_
        refine AW.ixor dX1_look_62 ?_
        refine AW.iand dX1_look_63 ?_
        refine AW.iast (hc.1 1 _ rfl) (by first | assumption | exact vp_in_nI (by omega) (by decide)) dX1_look_64 ?_
        refine AW.namI (fun I64 eI64 => ?_)
        refine AW.inc (fun x65 => [some (.ref c), some (.ref t), some (.ref b), some (.int x65), some (.int x28)]) dX1_look_65 rfl (by decide) rfl (fun _ => rfl) (fun x65 ex65 => ?_)
        refine AW.goto 2 dX1_look_68 (by decide) ?_
        refine AW.mask [4] [some (.ref c), some (.ref t), some (.ref b), some (.int x65), none] rfl ?_
        exact ih2 (k2 + 1) (by omega) (by omega) _ _ (⟨k_inc (by assumption) hx, by rw [eI64, hcx, show x28 &&& (((1 : Int32) <<< (x &&& 31)) ^^^ (-1)) = f_knA I t b n k2 by rw [f_knA, f_kn, if_pos h37, ex28, ex19, ex24, q2, q4, hcx, hx], hJ, am_up_uA, am_uA_s, am_uA_uA, f_knR, f_row_s]; rfl⟩)
      · rw [q1, hcx] at h37
        refine AW.iload dX1_look_40 rfl ?_
        refine AW.aload_n dX1_look_42 rfl ?_
        refine AW.aload_n dX1_look_43 rfl ?_
        refine AW.iload_n dX1_look_44 rfl ?_
        refine AW.callS (As := [.ref t, .ref b, .int x]) hG.2.2 (vX1_37 hG) (k_X1_remembered hK (d := 0) (Nat.le_refl _) ht hb (by assumption) (by assumption) x _ hx (by omega)) (by omega) dX1_look_45 rfl rfl (Nat.le_of_ble_eq_true rfl) (fun v w9 hq9 h09 => by obtain ⟨rfl, rfl⟩ := hq9; exact ⟨h09, rfl⟩) (by decide) (by decide) (fun _ _ hx => hx) (fun v45 w45 hq45 => ?_)
        obtain ⟨rfl, rfl⟩ := hq45
        refine AW.nam (fun x45 ex45 => ?_)
        refine AW.ior dX1_look_48 ?_
        refine AW.nam (fun x49 ex49 => ?_)
        refine AW.is [some (.ref c), some (.ref t), some (.ref b), some (.int x), some (.int x49)] dX1_look_49 (by decide) rfl rfl ?_
        refine AW.aload_n dX1_look_51 rfl ?_
        refine AW.getR (c' := (c + 1)) (fX1_9 hG).r rfl (hc.1 0 _ rfl) (hc.2 (0, 0, 1) (by decide)) dX1_look_52 ?_
        refine AW.iload_n dX1_look_55 rfl ?_
        refine AW.iload dX1_look_56 rfl ?_
        refine AW.iconst 1 dX1_look_58 (by decide) ?_
        refine AW.iload_n dX1_look_59 rfl ?_
        refine AW.ishl dX1_look_60 ?_
        refine AW.iconst (-1) dX1_look_61 (by decide) ?_
        refine AW.ixor dX1_look_62 ?_
        refine AW.iand dX1_look_63 ?_
        refine AW.iast (hc.1 1 _ rfl) (by first | assumption | exact vp_in_nI (by omega) (by decide)) dX1_look_64 ?_
        refine AW.namI (fun I64 eI64 => ?_)
        refine AW.inc (fun x65 => [some (.ref c), some (.ref t), some (.ref b), some (.int x65), some (.int x49)]) dX1_look_65 rfl (by decide) rfl (fun _ => rfl) (fun x65 ex65 => ?_)
        refine AW.goto 2 dX1_look_68 (by decide) ?_
        refine AW.mask [4] [some (.ref c), some (.ref t), some (.ref b), some (.int x65), none] rfl ?_
        exact ih2 (k2 + 1) (by omega) (by omega) _ _ (⟨k_inc (by assumption) hx, by rw [eI64, hcx, show x49 &&& (((1 : Int32) <<< (x &&& 31)) ^^^ (-1)) = f_knA I t b n k2 by rw [f_knA, f_kn, if_neg h37, ex49, ex28, ex19, ex24, ex45, q2, q4, qb, qb1, q0, hcx, hx], hJ, am_up_uA, am_uA_s, am_uA_uA, f_knR, f_row_s]; rfl⟩)
  exact L2 0 (by omega) _ _ (⟨nI_0.symm, (am_uA_id _ _).symm⟩)
