/-! has; TOWN, READ -/
theorem dX10_has_0 : decode cX10_has 0 = .ok (.iload_n 0, 1) := by decide +kernel
theorem dX10_has_1 : decode cX10_has 1 = .ok (.iload_n 1, 1) := by decide +kernel
theorem dX10_has_2 : decode cX10_has 2 = .ok (.ishr, 1) := by decide +kernel
theorem dX10_has_3 : decode cX10_has 3 = .ok (.iconst 1, 1) := by decide +kernel
theorem dX10_has_4 : decode cX10_has 4 = .ok (.iand, 1) := by decide +kernel
theorem dX10_has_5 : decode cX10_has 5 = .ok (.ifCond .eq 7, 3) := by decide +kernel
theorem dX10_has_8 : decode cX10_has 8 = .ok (.iconst 1, 1) := by decide +kernel
theorem dX10_has_9 : decode cX10_has 9 = .ok (.goto 4, 3) := by decide +kernel
theorem dX10_has_12 : decode cX10_has 12 = .ok (.iconst 0, 1) := by decide +kernel
theorem dX10_has_13 : decode cX10_has 13 = .ok (.ireturn, 1) := by decide +kernel
set_option maxRecDepth 100000 in
set_option maxHeartbeats 4000000 in
theorem k_X10_has {G : am_G} (hK : k_OK G) {d : Nat} (hd : 0 ≤ d) {sh : List (Nat ⊕ (Nat × Nat))} {I : Nat → Nat → Int32} {R : Nat → Nat → Option Nat} {L : Nat → Nat → Int64} {g : Nat} (b i : Int32) : AM G mX10_has d [.int b, .int i] (sh, I, R, L, g) (fun v w => v = some (.int (kb (f_has b i))) ∧ w = (sh, I, R, L, g)) (fun _ _ => False) := by
  have hG := hK.1
  refine AM.of (n := 0) (by decide +kernel) (Nat.le_of_ble_eq_true rfl) ?_
  show AW G mX10_has d (fun v w => v = some (.int (kb (f_has b i))) ∧ w = (sh, I, R, L, g)) (fun _ _ => False) 0 [some (.int b), some (.int i)] [] (sh, I, R, L, g) 0 0
  refine AW.iload_n dX10_has_0 rfl ?_
  refine AW.iload_n dX10_has_1 rfl ?_
  refine AW.ishr dX10_has_2 ?_
  refine AW.iconst 1 dX10_has_3 (by decide) ?_
  refine AW.iand dX10_has_4 ?_
  refine AW.if_eq 12 dX10_has_5 (by decide) (fun h5 => ?_) (fun h5 => ?_)
  · refine AW.iconst 0 dX10_has_12 (by decide) ?_
    exact AW.zret dX10_has_13 rfl (by decide) (by decide) (by decide) (⟨by rw [kb_f (by simpa [f_has] using h5)], rfl⟩)
  · refine AW.iconst 1 dX10_has_8 (by decide) ?_
    refine AW.goto 13 dX10_has_9 (by decide) ?_
    exact AW.zret dX10_has_13 rfl (by decide) (by decide) (by decide) (⟨by rw [kb_t (by simpa [f_has] using h5)], rfl⟩)
def f_pair (tw : Nat → Int32) (p : Int32) : Int32 := ((1 : Int32) <<< (p &&& 31)) ||| (if tw p.toNatClampNeg = -1 then (0 : Int32) else (1 : Int32) <<< (tw p.toNatClampNeg &&& 31))
def f_dw (hs : Nat → Int32) (b : Int32) (n : Nat) : Int32 := lfold (fun k a => if f_has b (hs k) then a ||| ((1 : Int32) <<< (nI k &&& 31)) else a) 0 n
def f_wt (tw : Nat → Int32) (b : Int32) (n : Nat) : Int32 := lfold (fun k a => if f_has b (nI k) then a ||| f_pair tw (nI k) else a) 0 n
def f_mb (tw : Nat → Int32) (p c : Int32) : Int32 := if f_has c p then c &&& (f_pair tw p ^^^ (-1)) else 0
theorem dX9_pair_0 : decode cX9_pair 0 = .ok (.aload_n 0, 1) := by decide +kernel
theorem dX9_pair_1 : decode cX9_pair 1 = .ok (.getfield 21, 3) := by decide +kernel
theorem dX9_pair_4 : decode cX9_pair 4 = .ok (.iload_n 1, 1) := by decide +kernel
theorem dX9_pair_5 : decode cX9_pair 5 = .ok (.iaload, 1) := by decide +kernel
theorem dX9_pair_6 : decode cX9_pair 6 = .ok (.istore_n 2, 1) := by decide +kernel
theorem dX9_pair_7 : decode cX9_pair 7 = .ok (.iconst 1, 1) := by decide +kernel
theorem dX9_pair_8 : decode cX9_pair 8 = .ok (.iload_n 1, 1) := by decide +kernel
theorem dX9_pair_9 : decode cX9_pair 9 = .ok (.ishl, 1) := by decide +kernel
theorem dX9_pair_10 : decode cX9_pair 10 = .ok (.iload_n 2, 1) := by decide +kernel
theorem dX9_pair_11 : decode cX9_pair 11 = .ok (.iconst (-1), 1) := by decide +kernel
theorem dX9_pair_12 : decode cX9_pair 12 = .ok (.if_icmp .ne 7, 3) := by decide +kernel
theorem dX9_pair_15 : decode cX9_pair 15 = .ok (.iconst 0, 1) := by decide +kernel
theorem dX9_pair_16 : decode cX9_pair 16 = .ok (.goto 6, 3) := by decide +kernel
theorem dX9_pair_19 : decode cX9_pair 19 = .ok (.iconst 1, 1) := by decide +kernel
theorem dX9_pair_20 : decode cX9_pair 20 = .ok (.iload_n 2, 1) := by decide +kernel
theorem dX9_pair_21 : decode cX9_pair 21 = .ok (.ishl, 1) := by decide +kernel
theorem dX9_pair_22 : decode cX9_pair 22 = .ok (.ior, 1) := by decide +kernel
theorem dX9_pair_23 : decode cX9_pair 23 = .ok (.ireturn, 1) := by decide +kernel
set_option maxRecDepth 100000 in
set_option maxHeartbeats 4000000 in
theorem k_X9_pair {G : am_G} (hK : k_OK G) {d : Nat} (hd : 0 ≤ d) {sh : List (Nat ⊕ (Nat × Nat))} {I : Nat → Nat → Int32} {R : Nat → Nat → Option Nat} {L : Nat → Nat → Int64} {g : Nat} {t : Nat} (ht : k_Town sh R t) (p : Int32) (hp : vp_in p 8) : AM G mX9_pair d [.ref t, .int p] (sh, I, R, L, g) (fun v w => v = some (.int (f_pair (I (t + 4)) p)) ∧ w = (sh, I, R, L, g)) (fun _ _ => False) := by
  have hG := hK.1
  refine AM.of (n := 1) (by decide +kernel) (Nat.le_of_ble_eq_true rfl) ?_
  show AW G mX9_pair d (fun v w => v = some (.int (f_pair (I (t + 4)) p)) ∧ w = (sh, I, R, L, g)) (fun _ _ => False) 0 [some (.ref t), some (.int p), none] [] (sh, I, R, L, g) 0 0
  refine AW.aload_n dX9_pair_0 rfl ?_
  refine AW.getR (c' := (t + 4)) (fX9_21 hG).r rfl (ht.1 0 _ rfl) (ht.2 (0, 7, 4) (by decide)) dX9_pair_1 ?_
  refine AW.iload_n dX9_pair_4 rfl ?_
  refine AW.iald (ht.1 4 _ rfl) (by first | assumption | exact vp_in_nI (by omega) (by decide)) dX9_pair_5 ?_
  refine AW.nam (fun x6 ex6 => ?_)
  refine AW.is_n [some (.ref t), some (.int p), some (.int x6)] dX9_pair_6 (by decide) rfl rfl ?_
  refine AW.iconst 1 dX9_pair_7 (by decide) ?_
  refine AW.iload_n dX9_pair_8 rfl ?_
  refine AW.ishl dX9_pair_9 ?_
  refine AW.iload_n dX9_pair_10 rfl ?_
  refine AW.iconst (-1) dX9_pair_11 (by decide) ?_
  refine AW.icmp_ne 19 dX9_pair_12 (by decide) (fun h12 => ?_) (fun h12 => ?_)
  · refine AW.iconst 1 dX9_pair_19 (by decide) ?_
    refine AW.iload_n dX9_pair_20 rfl ?_
    refine AW.ishl dX9_pair_21 ?_
    refine AW.ior dX9_pair_22 ?_
    exact AW.iret dX9_pair_23 rfl (by decide) (by decide) (⟨by first | (rw [f_pair, if_neg (by rw [← ex6]; exact h12), ← ex6]) | (rw [f_pair, if_pos (by rw [← ex6]; exact h12)]), rfl⟩)
  · refine AW.iconst 0 dX9_pair_15 (by decide) ?_
    refine AW.goto 22 dX9_pair_16 (by decide) ?_
    refine AW.ior dX9_pair_22 ?_
    exact AW.iret dX9_pair_23 rfl (by decide) (by decide) (⟨by first | (rw [f_pair, if_neg (by rw [← ex6]; exact h12), ← ex6]) | (rw [f_pair, if_pos (by rw [← ex6]; exact h12)]), rfl⟩)
theorem dX9_eats_0 : decode cX9_eats 0 = .ok (.aload_n 0, 1) := by decide +kernel
theorem dX9_eats_1 : decode cX9_eats 1 = .ok (.iload_n 1, 1) := by decide +kernel
theorem dX9_eats_2 : decode cX9_eats 2 = .ok (.invokevirtual 66, 3) := by decide +kernel
theorem dX9_eats_5 : decode cX9_eats 5 = .ok (.aload_n 0, 1) := by decide +kernel
theorem dX9_eats_6 : decode cX9_eats 6 = .ok (.getfield 36, 3) := by decide +kernel
theorem dX9_eats_9 : decode cX9_eats 9 = .ok (.getfield 70, 3) := by decide +kernel
theorem dX9_eats_12 : decode cX9_eats 12 = .ok (.iload_n 2, 1) := by decide +kernel
theorem dX9_eats_13 : decode cX9_eats 13 = .ok (.iaload, 1) := by decide +kernel
theorem dX9_eats_14 : decode cX9_eats 14 = .ok (.iand, 1) := by decide +kernel
theorem dX9_eats_15 : decode cX9_eats 15 = .ok (.ifCond .eq 7, 3) := by decide +kernel
theorem dX9_eats_18 : decode cX9_eats 18 = .ok (.iconst 1, 1) := by decide +kernel
theorem dX9_eats_19 : decode cX9_eats 19 = .ok (.goto 4, 3) := by decide +kernel
theorem dX9_eats_22 : decode cX9_eats 22 = .ok (.iconst 0, 1) := by decide +kernel
theorem dX9_eats_23 : decode cX9_eats 23 = .ok (.ireturn, 1) := by decide +kernel
set_option maxRecDepth 100000 in
set_option maxHeartbeats 4000000 in
theorem k_X9_eats {G : am_G} (hK : k_OK G) {d : Nat} (hd : 1 ≤ d) {sh : List (Nat ⊕ (Nat × Nat))} {I : Nat → Nat → Int32} {R : Nat → Nat → Option Nat} {L : Nat → Nat → Int64} {g : Nat} {t : Nat} (ht : k_Town sh R t) (p l : Int32) (hp : vp_in p 8) (hl : vp_in l 6) : AM G mX9_eats d [.ref t, .int p, .int l] (sh, I, R, L, g) (fun v w => v = some (.int (kb (decide (¬ f_pair (I (t + 4)) p &&& I (t + 14) l.toNatClampNeg = 0)))) ∧ w = (sh, I, R, L, g)) (fun _ _ => False) := by
  have hG := hK.1
  refine AM.of (n := 0) (by decide +kernel) (Nat.le_of_ble_eq_true rfl) ?_
  show AW G mX9_eats d (fun v w => v = some (.int (kb (decide (¬ f_pair (I (t + 4)) p &&& I (t + 14) l.toNatClampNeg = 0)))) ∧ w = (sh, I, R, L, g)) (fun _ _ => False) 0 [some (.ref t), some (.int p), some (.int l)] [] (sh, I, R, L, g) 0 0
  refine AW.aload_n dX9_eats_0 rfl ?_
  refine AW.iload_n dX9_eats_1 rfl ?_
  refine AW.callV (b := t) (As := [.int p]) hG.2.2 (vX9_66 hG) (ht.1 0 _ rfl) (k_X9_pair hK (d := 0) (Nat.le_refl _) ht p (by first | assumption | exact vp_in_nI (by omega) (by decide))) (by omega) dX9_eats_2 rfl rfl (Nat.le_of_ble_eq_true rfl) (fun v w9 hq9 h09 => by obtain ⟨rfl, rfl⟩ := hq9; exact ⟨h09, rfl⟩) (by decide) (by decide) (fun _ _ hx => hx) (fun v2 w2 hq2 => ?_)
  obtain ⟨rfl, rfl⟩ := hq2
  refine AW.nam (fun x2 ex2 => ?_)
  refine AW.aload_n dX9_eats_5 rfl ?_
  refine AW.getR (c' := (t + 8)) (fX9_36 hG).r rfl (ht.1 0 _ rfl) (ht.2 (0, 11, 8) (by decide)) dX9_eats_6 ?_
  refine AW.getR (c' := (t + 14)) (fX9_70 hG) rfl (ht.1 8 _ rfl) (ht.2 (8, 6, 14) (by decide)) dX9_eats_9 ?_
  refine AW.iload_n dX9_eats_12 rfl ?_
  refine AW.iald (ht.1 14 _ rfl) (by first | assumption | exact vp_in_nI (by omega) (by decide)) dX9_eats_13 ?_
  refine AW.iand dX9_eats_14 ?_
  refine AW.if_eq 22 dX9_eats_15 (by decide) (fun h15 => ?_) (fun h15 => ?_)
  · refine AW.iconst 0 dX9_eats_22 (by decide) ?_
    exact AW.zret dX9_eats_23 rfl (by decide) (by decide) (by decide) (⟨by rw [kb_f (by rw [← ex2]; simpa using h15)], rfl⟩)
  · refine AW.iconst 1 dX9_eats_18 (by decide) ?_
    refine AW.goto 23 dX9_eats_19 (by decide) ?_
    exact AW.zret dX9_eats_23 rfl (by decide) (by decide) (by decide) (⟨by rw [kb_t (by rw [← ex2]; simpa using h15)], rfl⟩)
theorem dX9_dwellers_0 : decode cX9_dwellers 0 = .ok (.iconst 0, 1) := by decide +kernel
theorem dX9_dwellers_1 : decode cX9_dwellers 1 = .ok (.istore_n 2, 1) := by decide +kernel
theorem dX9_dwellers_2 : decode cX9_dwellers 2 = .ok (.iconst 0, 1) := by decide +kernel
theorem dX9_dwellers_3 : decode cX9_dwellers 3 = .ok (.istore_n 3, 1) := by decide +kernel
theorem dX9_dwellers_4 : decode cX9_dwellers 4 = .ok (.iload_n 3, 1) := by decide +kernel
theorem dX9_dwellers_5 : decode cX9_dwellers 5 = .ok (.aload_n 0, 1) := by decide +kernel
theorem dX9_dwellers_6 : decode cX9_dwellers 6 = .ok (.getfield 47, 3) := by decide +kernel
theorem dX9_dwellers_9 : decode cX9_dwellers 9 = .ok (.if_icmp .ge 28, 3) := by decide +kernel
theorem dX9_dwellers_12 : decode cX9_dwellers 12 = .ok (.iload_n 1, 1) := by decide +kernel
theorem dX9_dwellers_13 : decode cX9_dwellers 13 = .ok (.aload_n 0, 1) := by decide +kernel
theorem dX9_dwellers_14 : decode cX9_dwellers 14 = .ok (.getfield 15, 3) := by decide +kernel
theorem dX9_dwellers_17 : decode cX9_dwellers 17 = .ok (.iload_n 3, 1) := by decide +kernel
theorem dX9_dwellers_18 : decode cX9_dwellers 18 = .ok (.iaload, 1) := by decide +kernel
theorem dX9_dwellers_19 : decode cX9_dwellers 19 = .ok (.invokestatic 73, 3) := by decide +kernel
theorem dX9_dwellers_22 : decode cX9_dwellers 22 = .ok (.ifCond .eq 9, 3) := by decide +kernel
theorem dX9_dwellers_25 : decode cX9_dwellers 25 = .ok (.iload_n 2, 1) := by decide +kernel
theorem dX9_dwellers_26 : decode cX9_dwellers 26 = .ok (.iconst 1, 1) := by decide +kernel
theorem dX9_dwellers_27 : decode cX9_dwellers 27 = .ok (.iload_n 3, 1) := by decide +kernel
theorem dX9_dwellers_28 : decode cX9_dwellers 28 = .ok (.ishl, 1) := by decide +kernel
theorem dX9_dwellers_29 : decode cX9_dwellers 29 = .ok (.ior, 1) := by decide +kernel
theorem dX9_dwellers_30 : decode cX9_dwellers 30 = .ok (.istore_n 2, 1) := by decide +kernel
theorem dX9_dwellers_31 : decode cX9_dwellers 31 = .ok (.iinc 3 1, 3) := by decide +kernel
theorem dX9_dwellers_34 : decode cX9_dwellers 34 = .ok (.goto (-30), 3) := by decide +kernel
theorem dX9_dwellers_37 : decode cX9_dwellers 37 = .ok (.iload_n 2, 1) := by decide +kernel
theorem dX9_dwellers_38 : decode cX9_dwellers 38 = .ok (.ireturn, 1) := by decide +kernel
set_option maxRecDepth 100000 in
set_option maxHeartbeats 4000000 in
theorem k_X9_dwellers {G : am_G} (hK : k_OK G) {d : Nat} (hd : 1 ≤ d) {sh : List (Nat ⊕ (Nat × Nat))} {I : Nat → Nat → Int32} {R : Nat → Nat → Option Nat} {L : Nat → Nat → Int64} {g : Nat} {t n : Nat} (ht : k_Town sh R t) (hn : I t 0 = nI n) (hn8 : n ≤ 8) (b : Int32) : AM G mX9_dwellers d [.ref t, .int b] (sh, I, R, L, g) (fun v w => v = some (.int (f_dw (I (t + 2)) b n)) ∧ w = (sh, I, R, L, g)) (fun _ _ => False) := by
  have hG := hK.1
  refine AM.of (n := 2) (by decide +kernel) (Nat.le_of_ble_eq_true rfl) ?_
  show AW G mX9_dwellers d (fun v w => v = some (.int (f_dw (I (t + 2)) b n)) ∧ w = (sh, I, R, L, g)) (fun _ _ => False) 0 [some (.ref t), some (.int b), none, none] [] (sh, I, R, L, g) 0 0
  refine AW.iconst 0 dX9_dwellers_0 (by decide) ?_
  refine AW.is_n [some (.ref t), some (.int b), some (.int 0), none] dX9_dwellers_1 (by decide) rfl rfl ?_
  refine AW.iconst 0 dX9_dwellers_2 (by decide) ?_
  refine AW.is_n [some (.ref t), some (.int b), some (.int 0), some (.int 0)] dX9_dwellers_3 (by decide) rfl rfl ?_
  have L4 : ∀ k4, k4 ≤ n → ∀ (a x : Int32), (x = nI k4 ∧ a = f_dw (I (t + 2)) b k4) → AW G mX9_dwellers d (fun v w => v = some (.int (f_dw (I (t + 2)) b n)) ∧ w = (sh, I, R, L, g)) (fun _ _ => False) 4 [some (.ref t), some (.int b), some (.int a), some (.int x)] [] (sh, I, R, L, g) 0 0 := by
    refine am_rec n (fun k4 hk4 ih4 => ?_)
    intro a x hi4
    obtain ⟨hx, ha⟩ := hi4
    refine AW.iload_n dX9_dwellers_4 rfl ?_
    refine AW.aload_n dX9_dwellers_5 rfl ?_
    refine AW.getI (fX9_47 hG).r rfl (ht.1 0 _ rfl) dX9_dwellers_6 ?_
    refine AW.icmp_ge 37 dX9_dwellers_9 (by decide) (fun h9 => ?_) (fun h9 => ?_)
    · have hke := k_ge h9 hx hn hk4 (by omega)
      subst hke
      refine AW.iload_n dX9_dwellers_37 rfl ?_
      exact AW.iret dX9_dwellers_38 rfl (by decide) (by decide) (⟨by rw [ha], rfl⟩)
    · have hlt := k_lt h9 hx hn hk4 (by omega)
      have hbx : vp_in x 8 := by rw [hx]; exact vp_in_nI (by omega) (by decide)
      have hcx : x.toNatClampNeg = k4 := by rw [hx]; exact nI_clamp (by omega)
      refine AW.iload_n dX9_dwellers_12 rfl ?_
      refine AW.aload_n dX9_dwellers_13 rfl ?_
      refine AW.getR (c' := (t + 2)) (fX9_15 hG).r rfl (ht.1 0 _ rfl) (ht.2 (0, 5, 2) (by decide)) dX9_dwellers_14 ?_
      refine AW.iload_n dX9_dwellers_17 rfl ?_
      refine AW.iald (ht.1 2 _ rfl) (by first | assumption | exact vp_in_nI (by omega) (by decide)) dX9_dwellers_18 ?_
      refine AW.callSN (As := [.int b, .int (I (t + 2) x.toNatClampNeg)]) hG.2.2 (vX9_73n hK) (kS_X10_has hG) (k_X10_has hK (d := 0) (Nat.le_refl _) b (I (t + 2) x.toNatClampNeg)) (by omega) dX9_dwellers_19 rfl rfl (Nat.le_of_ble_eq_true rfl) (fun v w9 hq9 h09 => by obtain ⟨rfl, rfl⟩ := hq9; exact ⟨h09, rfl⟩) (by decide) (by decide) (fun v19 w19 hq19 => ?_)
      obtain ⟨rfl, rfl⟩ := hq19
      refine AW.nam (fun x19 ex19 => ?_)
      refine AW.if_eq 31 dX9_dwellers_22 (by decide) (fun h22 => ?_) (fun h22 => ?_)
      · rw [ex19, hcx] at h22
        have hc := kb_0.mp h22
        refine AW.inc (fun x31 => [some (.ref t), some (.int b), some (.int a), some (.int x31)]) dX9_dwellers_31 rfl (by decide) rfl (fun _ => rfl) (fun x31 ex31 => ?_)
        refine AW.goto 4 dX9_dwellers_34 (by decide) ?_
        exact ih4 (k4 + 1) (by omega) (by omega) _ _ (⟨k_inc (by assumption) hx, (show a = (if f_has b (I (t + 2) k4) = true then _ else _) by rw [if_neg (by rw [hc]; decide)]; exact ha)⟩)
      · rw [ex19, hcx] at h22
        have hc := kb_1.mp h22
        refine AW.iload_n dX9_dwellers_25 rfl ?_
        refine AW.iconst 1 dX9_dwellers_26 (by decide) ?_
        refine AW.iload_n dX9_dwellers_27 rfl ?_
        refine AW.ishl dX9_dwellers_28 ?_
        refine AW.ior dX9_dwellers_29 ?_
        refine AW.nam (fun x30 ex30 => ?_)
        refine AW.is_n [some (.ref t), some (.int b), some (.int x30), some (.int x)] dX9_dwellers_30 (by decide) rfl rfl ?_
        refine AW.inc (fun x31 => [some (.ref t), some (.int b), some (.int x30), some (.int x31)]) dX9_dwellers_31 rfl (by decide) rfl (fun _ => rfl) (fun x31 ex31 => ?_)
        refine AW.goto 4 dX9_dwellers_34 (by decide) ?_
        exact ih4 (k4 + 1) (by omega) (by omega) _ _ (⟨k_inc (by assumption) hx, (show x30 = (if f_has b (I (t + 2) k4) = true then _ else _) by rw [if_pos hc, ex30, hx, ha]; try rfl)⟩)
  exact L4 0 (by omega) _ _ (⟨nI_0.symm, rfl⟩)
theorem dX9_withTwins_0 : decode cX9_withTwins 0 = .ok (.iconst 0, 1) := by decide +kernel
theorem dX9_withTwins_1 : decode cX9_withTwins 1 = .ok (.istore_n 2, 1) := by decide +kernel
theorem dX9_withTwins_2 : decode cX9_withTwins 2 = .ok (.iconst 0, 1) := by decide +kernel
theorem dX9_withTwins_3 : decode cX9_withTwins 3 = .ok (.istore_n 3, 1) := by decide +kernel
theorem dX9_withTwins_4 : decode cX9_withTwins 4 = .ok (.iload_n 3, 1) := by decide +kernel
theorem dX9_withTwins_5 : decode cX9_withTwins 5 = .ok (.aload_n 0, 1) := by decide +kernel
theorem dX9_withTwins_6 : decode cX9_withTwins 6 = .ok (.getfield 47, 3) := by decide +kernel
theorem dX9_withTwins_9 : decode cX9_withTwins 9 = .ok (.if_icmp .ge 25, 3) := by decide +kernel
theorem dX9_withTwins_12 : decode cX9_withTwins 12 = .ok (.iload_n 1, 1) := by decide +kernel
theorem dX9_withTwins_13 : decode cX9_withTwins 13 = .ok (.iload_n 3, 1) := by decide +kernel
theorem dX9_withTwins_14 : decode cX9_withTwins 14 = .ok (.invokestatic 73, 3) := by decide +kernel
theorem dX9_withTwins_17 : decode cX9_withTwins 17 = .ok (.ifCond .eq 11, 3) := by decide +kernel
theorem dX9_withTwins_20 : decode cX9_withTwins 20 = .ok (.iload_n 2, 1) := by decide +kernel
theorem dX9_withTwins_21 : decode cX9_withTwins 21 = .ok (.aload_n 0, 1) := by decide +kernel
theorem dX9_withTwins_22 : decode cX9_withTwins 22 = .ok (.iload_n 3, 1) := by decide +kernel
theorem dX9_withTwins_23 : decode cX9_withTwins 23 = .ok (.invokevirtual 66, 3) := by decide +kernel
theorem dX9_withTwins_26 : decode cX9_withTwins 26 = .ok (.ior, 1) := by decide +kernel
theorem dX9_withTwins_27 : decode cX9_withTwins 27 = .ok (.istore_n 2, 1) := by decide +kernel
theorem dX9_withTwins_28 : decode cX9_withTwins 28 = .ok (.iinc 3 1, 3) := by decide +kernel
theorem dX9_withTwins_31 : decode cX9_withTwins 31 = .ok (.goto (-27), 3) := by decide +kernel
theorem dX9_withTwins_34 : decode cX9_withTwins 34 = .ok (.iload_n 2, 1) := by decide +kernel
theorem dX9_withTwins_35 : decode cX9_withTwins 35 = .ok (.ireturn, 1) := by decide +kernel
set_option maxRecDepth 100000 in
set_option maxHeartbeats 4000000 in
theorem k_X9_withTwins {G : am_G} (hK : k_OK G) {d : Nat} (hd : 1 ≤ d) {sh : List (Nat ⊕ (Nat × Nat))} {I : Nat → Nat → Int32} {R : Nat → Nat → Option Nat} {L : Nat → Nat → Int64} {g : Nat} {t n : Nat} (ht : k_Town sh R t) (hn : I t 0 = nI n) (hn8 : n ≤ 8) (b : Int32) : AM G mX9_withTwins d [.ref t, .int b] (sh, I, R, L, g) (fun v w => v = some (.int (f_wt (I (t + 4)) b n)) ∧ w = (sh, I, R, L, g)) (fun _ _ => False) := by
  have hG := hK.1
  refine AM.of (n := 2) (by decide +kernel) (Nat.le_of_ble_eq_true rfl) ?_
  show AW G mX9_withTwins d (fun v w => v = some (.int (f_wt (I (t + 4)) b n)) ∧ w = (sh, I, R, L, g)) (fun _ _ => False) 0 [some (.ref t), some (.int b), none, none] [] (sh, I, R, L, g) 0 0
  refine AW.iconst 0 dX9_withTwins_0 (by decide) ?_
  refine AW.is_n [some (.ref t), some (.int b), some (.int 0), none] dX9_withTwins_1 (by decide) rfl rfl ?_
  refine AW.iconst 0 dX9_withTwins_2 (by decide) ?_
  refine AW.is_n [some (.ref t), some (.int b), some (.int 0), some (.int 0)] dX9_withTwins_3 (by decide) rfl rfl ?_
  have L4 : ∀ k4, k4 ≤ n → ∀ (a x : Int32), (x = nI k4 ∧ a = f_wt (I (t + 4)) b k4) → AW G mX9_withTwins d (fun v w => v = some (.int (f_wt (I (t + 4)) b n)) ∧ w = (sh, I, R, L, g)) (fun _ _ => False) 4 [some (.ref t), some (.int b), some (.int a), some (.int x)] [] (sh, I, R, L, g) 0 0 := by
    refine am_rec n (fun k4 hk4 ih4 => ?_)
    intro a x hi4
    obtain ⟨hx, ha⟩ := hi4
    refine AW.iload_n dX9_withTwins_4 rfl ?_
    refine AW.aload_n dX9_withTwins_5 rfl ?_
    refine AW.getI (fX9_47 hG).r rfl (ht.1 0 _ rfl) dX9_withTwins_6 ?_
    refine AW.icmp_ge 34 dX9_withTwins_9 (by decide) (fun h9 => ?_) (fun h9 => ?_)
    · have hke := k_ge h9 hx hn hk4 (by omega)
      subst hke
      refine AW.iload_n dX9_withTwins_34 rfl ?_
      exact AW.iret dX9_withTwins_35 rfl (by decide) (by decide) (⟨by rw [ha], rfl⟩)
    · have hlt := k_lt h9 hx hn hk4 (by omega)
      have hbx : vp_in x 8 := by rw [hx]; exact vp_in_nI (by omega) (by decide)
      have hcx : x.toNatClampNeg = k4 := by rw [hx]; exact nI_clamp (by omega)
      refine AW.iload_n dX9_withTwins_12 rfl ?_
      refine AW.iload_n dX9_withTwins_13 rfl ?_
      refine AW.callSN (As := [.int b, .int x]) hG.2.2 (vX9_73n hK) (kS_X10_has hG) (k_X10_has hK (d := 0) (Nat.le_refl _) b x) (by omega) dX9_withTwins_14 rfl rfl (Nat.le_of_ble_eq_true rfl) (fun v w9 hq9 h09 => by obtain ⟨rfl, rfl⟩ := hq9; exact ⟨h09, rfl⟩) (by decide) (by decide) (fun v14 w14 hq14 => ?_)
      obtain ⟨rfl, rfl⟩ := hq14
      refine AW.nam (fun x14 ex14 => ?_)
      refine AW.if_eq 28 dX9_withTwins_17 (by decide) (fun h17 => ?_) (fun h17 => ?_)
      · rw [ex14, hx] at h17
        have hc := kb_0.mp h17
        refine AW.inc (fun x28 => [some (.ref t), some (.int b), some (.int a), some (.int x28)]) dX9_withTwins_28 rfl (by decide) rfl (fun _ => rfl) (fun x28 ex28 => ?_)
        refine AW.goto 4 dX9_withTwins_31 (by decide) ?_
        exact ih4 (k4 + 1) (by omega) (by omega) _ _ (⟨k_inc (by assumption) hx, (show a = (if f_has b (nI k4) = true then _ else _) by rw [if_neg (by rw [hc]; decide)]; exact ha)⟩)
      · rw [ex14, hx] at h17
        have hc := kb_1.mp h17
        refine AW.iload_n dX9_withTwins_20 rfl ?_
        refine AW.aload_n dX9_withTwins_21 rfl ?_
        refine AW.iload_n dX9_withTwins_22 rfl ?_
        refine AW.callV (b := t) (As := [.int x]) hG.2.2 (vX9_66 hG) (ht.1 0 _ rfl) (k_X9_pair hK (d := 0) (Nat.le_refl _) ht x (by first | assumption | exact vp_in_nI (by omega) (by decide))) (by omega) dX9_withTwins_23 rfl rfl (Nat.le_of_ble_eq_true rfl) (fun v w9 hq9 h09 => by obtain ⟨rfl, rfl⟩ := hq9; exact ⟨h09, rfl⟩) (by decide) (by decide) (fun _ _ hx => hx) (fun v23 w23 hq23 => ?_)
        obtain ⟨rfl, rfl⟩ := hq23
        refine AW.nam (fun x23 ex23 => ?_)
        refine AW.ior dX9_withTwins_26 ?_
        refine AW.nam (fun x27 ex27 => ?_)
        refine AW.is_n [some (.ref t), some (.int b), some (.int x27), some (.int x)] dX9_withTwins_27 (by decide) rfl rfl ?_
        refine AW.inc (fun x28 => [some (.ref t), some (.int b), some (.int x27), some (.int x28)]) dX9_withTwins_28 rfl (by decide) rfl (fun _ => rfl) (fun x28 ex28 => ?_)
        refine AW.goto 4 dX9_withTwins_31 (by decide) ?_
        exact ih4 (k4 + 1) (by omega) (by omega) _ _ (⟨k_inc (by assumption) hx, (show x27 = (if f_has b (nI k4) = true then _ else _) by rw [if_pos hc, ex27, ha, ex23, hx]; try rfl)⟩)
  exact L4 0 (by omega) _ _ (⟨nI_0.symm, rfl⟩)
theorem dX9_metBy_0 : decode cX9_metBy 0 = .ok (.iload_n 2, 1) := by decide +kernel
theorem dX9_metBy_1 : decode cX9_metBy 1 = .ok (.iload_n 1, 1) := by decide +kernel
theorem dX9_metBy_2 : decode cX9_metBy 2 = .ok (.invokestatic 73, 3) := by decide +kernel
theorem dX9_metBy_5 : decode cX9_metBy 5 = .ok (.ifCond .eq 15, 3) := by decide +kernel
theorem dX9_metBy_8 : decode cX9_metBy 8 = .ok (.iload_n 2, 1) := by decide +kernel
theorem dX9_metBy_9 : decode cX9_metBy 9 = .ok (.aload_n 0, 1) := by decide +kernel
theorem dX9_metBy_10 : decode cX9_metBy 10 = .ok (.iload_n 1, 1) := by decide +kernel
theorem dX9_metBy_11 : decode cX9_metBy 11 = .ok (.invokevirtual 66, 3) := by decide +kernel
theorem dX9_metBy_14 : decode cX9_metBy 14 = .ok (.iconst (-1), 1) := by decide +kernel
theorem dX9_metBy_15 : decode cX9_metBy 15 = .ok (.ixor, 1) := by decide +kernel
theorem dX9_metBy_16 : decode cX9_metBy 16 = .ok (.iand, 1) := by decide +kernel
theorem dX9_metBy_17 : decode cX9_metBy 17 = .ok (.goto 4, 3) := by decide +kernel
theorem dX9_metBy_20 : decode cX9_metBy 20 = .ok (.iconst 0, 1) := by decide +kernel
theorem dX9_metBy_21 : decode cX9_metBy 21 = .ok (.ireturn, 1) := by decide +kernel
set_option maxRecDepth 100000 in
set_option maxHeartbeats 4000000 in
theorem k_X9_metBy {G : am_G} (hK : k_OK G) {d : Nat} (hd : 1 ≤ d) {sh : List (Nat ⊕ (Nat × Nat))} {I : Nat → Nat → Int32} {R : Nat → Nat → Option Nat} {L : Nat → Nat → Int64} {g : Nat} {t : Nat} (ht : k_Town sh R t) (p c : Int32) (hp : vp_in p 8) : AM G mX9_metBy d [.ref t, .int p, .int c] (sh, I, R, L, g) (fun v w => v = some (.int (f_mb (I (t + 4)) p c)) ∧ w = (sh, I, R, L, g)) (fun _ _ => False) := by
  have hG := hK.1
  refine AM.of (n := 0) (by decide +kernel) (Nat.le_of_ble_eq_true rfl) ?_
  show AW G mX9_metBy d (fun v w => v = some (.int (f_mb (I (t + 4)) p c)) ∧ w = (sh, I, R, L, g)) (fun _ _ => False) 0 [some (.ref t), some (.int p), some (.int c)] [] (sh, I, R, L, g) 0 0
  refine AW.iload_n dX9_metBy_0 rfl ?_
  refine AW.iload_n dX9_metBy_1 rfl ?_
  refine AW.callSN (As := [.int c, .int p]) hG.2.2 (vX9_73n hK) (kS_X10_has hG) (k_X10_has hK (d := 0) (Nat.le_refl _) c p) (by omega) dX9_metBy_2 rfl rfl (Nat.le_of_ble_eq_true rfl) (fun v w9 hq9 h09 => by obtain ⟨rfl, rfl⟩ := hq9; exact ⟨h09, rfl⟩) (by decide) (by decide) (fun v2 w2 hq2 => ?_)
  obtain ⟨rfl, rfl⟩ := hq2
  refine AW.nam (fun x2 ex2 => ?_)
  refine AW.if_eq 20 dX9_metBy_5 (by decide) (fun h5 => ?_) (fun h5 => ?_)
  · rw [ex2] at h5
    have hc := kb_0.mp h5
    refine AW.iconst 0 dX9_metBy_20 (by decide) ?_
    exact AW.iret dX9_metBy_21 rfl (by decide) (by decide) (⟨by first | (rw [f_mb, if_neg (by rw [hc]; decide)]) | (rw [f_mb, if_pos hc, ex11]), rfl⟩)
  · rw [ex2] at h5
    have hc := kb_1.mp h5
    refine AW.iload_n dX9_metBy_8 rfl ?_
    refine AW.aload_n dX9_metBy_9 rfl ?_
    refine AW.iload_n dX9_metBy_10 rfl ?_
    refine AW.callV (b := t) (As := [.int p]) hG.2.2 (vX9_66 hG) (ht.1 0 _ rfl) (k_X9_pair hK (d := 0) (Nat.le_refl _) ht p (by first | assumption | exact vp_in_nI (by omega) (by decide))) (by omega) dX9_metBy_11 rfl rfl (Nat.le_of_ble_eq_true rfl) (fun v w9 hq9 h09 => by obtain ⟨rfl, rfl⟩ := hq9; exact ⟨h09, rfl⟩) (by decide) (by decide) (fun _ _ hx => hx) (fun v11 w11 hq11 => ?_)
    obtain ⟨rfl, rfl⟩ := hq11
    refine AW.nam (fun x11 ex11 => ?_)
    refine AW.iconst (-1) dX9_metBy_14 (by decide) ?_
    refine AW.ixor dX9_metBy_15 ?_
    refine AW.iand dX9_metBy_16 ?_
    refine AW.goto 21 dX9_metBy_17 (by decide) ?_
    exact AW.iret dX9_metBy_21 rfl (by decide) (by decide) (⟨by first | (rw [f_mb, if_neg (by rw [hc]; decide)]) | (rw [f_mb, if_pos hc, ex11]), rfl⟩)
theorem dX9_allPeople_0 : decode cX9_allPeople 0 = .ok (.iconst 1, 1) := by decide +kernel
theorem dX9_allPeople_1 : decode cX9_allPeople 1 = .ok (.aload_n 0, 1) := by decide +kernel
theorem dX9_allPeople_2 : decode cX9_allPeople 2 = .ok (.getfield 47, 3) := by decide +kernel
theorem dX9_allPeople_5 : decode cX9_allPeople 5 = .ok (.ishl, 1) := by decide +kernel
theorem dX9_allPeople_6 : decode cX9_allPeople 6 = .ok (.iconst 1, 1) := by decide +kernel
theorem dX9_allPeople_7 : decode cX9_allPeople 7 = .ok (.isub, 1) := by decide +kernel
theorem dX9_allPeople_8 : decode cX9_allPeople 8 = .ok (.ireturn, 1) := by decide +kernel
set_option maxRecDepth 100000 in
set_option maxHeartbeats 4000000 in
theorem k_X9_allPeople {G : am_G} (hK : k_OK G) {d : Nat} (hd : 0 ≤ d) {sh : List (Nat ⊕ (Nat × Nat))} {I : Nat → Nat → Int32} {R : Nat → Nat → Option Nat} {L : Nat → Nat → Int64} {g : Nat} {t : Nat} (ht : k_Town sh R t) : AM G mX9_allPeople d [.ref t] (sh, I, R, L, g) (fun v w => v = some (.int (((1 : Int32) <<< (I t 0 &&& 31)) - 1)) ∧ w = (sh, I, R, L, g)) (fun _ _ => False) := by
  have hG := hK.1
  refine AM.of (n := 0) (by decide +kernel) (Nat.le_of_ble_eq_true rfl) ?_
  show AW G mX9_allPeople d (fun v w => v = some (.int (((1 : Int32) <<< (I t 0 &&& 31)) - 1)) ∧ w = (sh, I, R, L, g)) (fun _ _ => False) 0 [some (.ref t)] [] (sh, I, R, L, g) 0 0
  refine AW.iconst 1 dX9_allPeople_0 (by decide) ?_
  refine AW.aload_n dX9_allPeople_1 rfl ?_
  refine AW.getI (fX9_47 hG).r rfl (ht.1 0 _ rfl) dX9_allPeople_2 ?_
  refine AW.ishl dX9_allPeople_5 ?_
  refine AW.iconst 1 dX9_allPeople_6 (by decide) ?_
  refine AW.isub dX9_allPeople_7 ?_
  exact AW.iret dX9_allPeople_8 rfl (by decide) (by decide) (⟨rfl, rfl⟩)
def f_tt (kd : Nat → Int32) (n : Nat) : Bool := decide (0 < n) && decide (¬ kd (n - 1) = 3)
def f_sc (tw : Nat → Int32) (b : Int32) (n : Nat) : Int32 := lfold (fun k a => if f_has b (nI k) && !(decide (¬ tw k = -1) && decide (tw k < nI k) && f_has b (tw k)) then a + 1 else a) 0 n
theorem dX9_takesTwin_0 : decode cX9_takesTwin 0 = .ok (.aload_n 0, 1) := by decide +kernel
theorem dX9_takesTwin_1 : decode cX9_takesTwin 1 = .ok (.getfield 47, 3) := by decide +kernel
theorem dX9_takesTwin_4 : decode cX9_takesTwin 4 = .ok (.ifCond .le 22, 3) := by decide +kernel
theorem dX9_takesTwin_7 : decode cX9_takesTwin 7 = .ok (.aload_n 0, 1) := by decide +kernel
theorem dX9_takesTwin_8 : decode cX9_takesTwin 8 = .ok (.getfield 9, 3) := by decide +kernel
theorem dX9_takesTwin_11 : decode cX9_takesTwin 11 = .ok (.aload_n 0, 1) := by decide +kernel
theorem dX9_takesTwin_12 : decode cX9_takesTwin 12 = .ok (.getfield 47, 3) := by decide +kernel
theorem dX9_takesTwin_15 : decode cX9_takesTwin 15 = .ok (.iconst 1, 1) := by decide +kernel
theorem dX9_takesTwin_16 : decode cX9_takesTwin 16 = .ok (.isub, 1) := by decide +kernel
theorem dX9_takesTwin_17 : decode cX9_takesTwin 17 = .ok (.iaload, 1) := by decide +kernel
theorem dX9_takesTwin_18 : decode cX9_takesTwin 18 = .ok (.iconst 3, 1) := by decide +kernel
theorem dX9_takesTwin_19 : decode cX9_takesTwin 19 = .ok (.if_icmp .eq 7, 3) := by decide +kernel
theorem dX9_takesTwin_22 : decode cX9_takesTwin 22 = .ok (.iconst 1, 1) := by decide +kernel
theorem dX9_takesTwin_23 : decode cX9_takesTwin 23 = .ok (.goto 4, 3) := by decide +kernel
theorem dX9_takesTwin_26 : decode cX9_takesTwin 26 = .ok (.iconst 0, 1) := by decide +kernel
theorem dX9_takesTwin_27 : decode cX9_takesTwin 27 = .ok (.ireturn, 1) := by decide +kernel
set_option maxRecDepth 100000 in
set_option maxHeartbeats 4000000 in
theorem k_X9_takesTwin {G : am_G} (hK : k_OK G) {d : Nat} (hd : 0 ≤ d) {sh : List (Nat ⊕ (Nat × Nat))} {I : Nat → Nat → Int32} {R : Nat → Nat → Option Nat} {L : Nat → Nat → Int64} {g : Nat} {t n : Nat} (ht : k_Town sh R t) (hn : I t 0 = nI n) (hn8 : n ≤ 8) : AM G mX9_takesTwin d [.ref t] (sh, I, R, L, g) (fun v w => v = some (.int (kb (f_tt (I (t + 1)) n))) ∧ w = (sh, I, R, L, g)) (fun _ _ => False) := by
  have hG := hK.1
  refine AM.of (n := 0) (by decide +kernel) (Nat.le_of_ble_eq_true rfl) ?_
  show AW G mX9_takesTwin d (fun v w => v = some (.int (kb (f_tt (I (t + 1)) n))) ∧ w = (sh, I, R, L, g)) (fun _ _ => False) 0 [some (.ref t)] [] (sh, I, R, L, g) 0 0
  refine AW.aload_n dX9_takesTwin_0 rfl ?_
  refine AW.getI (fX9_47 hG).r rfl (ht.1 0 _ rfl) dX9_takesTwin_1 ?_
  refine AW.if_le 26 dX9_takesTwin_4 (by decide) (fun h4 => ?_) (fun h4 => ?_)
  · have h0 : n = 0 := by
      rw [hn] at h4
      rcases Nat.eq_zero_or_pos n with h | h
      · exact h
      · exact absurd h4 (nI_nle h (by omega))
    subst h0
    refine AW.iconst 0 dX9_takesTwin_26 (by decide) ?_
    exact AW.zret dX9_takesTwin_27 rfl (by decide) (by decide) (by decide) (⟨by first | rfl | rw [kb_f (by simp [f_tt, h0, h19])], rfl⟩)
  · have h0 : 0 < n := by
      rcases Nat.eq_zero_or_pos n with h | h
      · rw [hn, h] at h4; exact absurd (by decide) h4
      · exact h
    have hm : I t 0 - 1 = nI (n - 1) := by rw [hn, show n = n - 1 + 1 by omega]; exact nI_pred _
    have hb : vp_in (I t 0 - 1) 8 := by rw [hm]; exact vp_in_nI (by omega) (by decide)
    have hc : (I t 0 - 1).toNatClampNeg = n - 1 := by rw [hm]; exact nI_clamp (by omega)
    refine AW.aload_n dX9_takesTwin_7 rfl ?_
    refine AW.getR (c' := (t + 1)) (fX9_9 hG).r rfl (ht.1 0 _ rfl) (ht.2 (0, 4, 1) (by decide)) dX9_takesTwin_8 ?_
    refine AW.aload_n dX9_takesTwin_11 rfl ?_
    refine AW.getI (fX9_47 hG).r rfl (ht.1 0 _ rfl) dX9_takesTwin_12 ?_
    refine AW.iconst 1 dX9_takesTwin_15 (by decide) ?_
    refine AW.isub dX9_takesTwin_16 ?_
    refine AW.iald (ht.1 1 _ rfl) (by first | assumption | exact vp_in_nI (by omega) (by decide)) dX9_takesTwin_17 ?_
    refine AW.iconst 3 dX9_takesTwin_18 (by decide) ?_
    refine AW.icmp_eq 26 dX9_takesTwin_19 (by decide) (fun h19 => ?_) (fun h19 => ?_)
    · rw [hc] at h19
      refine AW.iconst 0 dX9_takesTwin_26 (by decide) ?_
      exact AW.zret dX9_takesTwin_27 rfl (by decide) (by decide) (by decide) (⟨by first | rfl | rw [kb_f (by simp [f_tt, h0, h19])], rfl⟩)
    · rw [hc] at h19
      refine AW.iconst 1 dX9_takesTwin_22 (by decide) ?_
      refine AW.goto 27 dX9_takesTwin_23 (by decide) ?_
      exact AW.zret dX9_takesTwin_27 rfl (by decide) (by decide) (by decide) (⟨by rw [kb_t (by simp [f_tt, h0, h19])], rfl⟩)
theorem dX9_sliceCount_0 : decode cX9_sliceCount 0 = .ok (.aload_n 0, 1) := by decide +kernel
theorem dX9_sliceCount_1 : decode cX9_sliceCount 1 = .ok (.getfield 36, 3) := by decide +kernel
theorem dX9_sliceCount_4 : decode cX9_sliceCount 4 = .ok (.getfield 70, 3) := by decide +kernel
theorem dX9_sliceCount_7 : decode cX9_sliceCount 7 = .ok (.iload_n 1, 1) := by decide +kernel
theorem dX9_sliceCount_8 : decode cX9_sliceCount 8 = .ok (.iaload, 1) := by decide +kernel
theorem dX9_sliceCount_9 : decode cX9_sliceCount 9 = .ok (.istore_n 2, 1) := by decide +kernel
theorem dX9_sliceCount_10 : decode cX9_sliceCount 10 = .ok (.iconst 0, 1) := by decide +kernel
theorem dX9_sliceCount_11 : decode cX9_sliceCount 11 = .ok (.istore_n 3, 1) := by decide +kernel
theorem dX9_sliceCount_12 : decode cX9_sliceCount 12 = .ok (.iconst 0, 1) := by decide +kernel
theorem dX9_sliceCount_13 : decode cX9_sliceCount 13 = .ok (.istore 4, 2) := by decide +kernel
theorem dX9_sliceCount_15 : decode cX9_sliceCount 15 = .ok (.iload 4, 2) := by decide +kernel
theorem dX9_sliceCount_17 : decode cX9_sliceCount 17 = .ok (.aload_n 0, 1) := by decide +kernel
theorem dX9_sliceCount_18 : decode cX9_sliceCount 18 = .ok (.getfield 47, 3) := by decide +kernel
theorem dX9_sliceCount_21 : decode cX9_sliceCount 21 = .ok (.if_icmp .ge 64, 3) := by decide +kernel
theorem dX9_sliceCount_24 : decode cX9_sliceCount 24 = .ok (.aload_n 0, 1) := by decide +kernel
theorem dX9_sliceCount_25 : decode cX9_sliceCount 25 = .ok (.getfield 21, 3) := by decide +kernel
theorem dX9_sliceCount_28 : decode cX9_sliceCount 28 = .ok (.iload 4, 2) := by decide +kernel
theorem dX9_sliceCount_30 : decode cX9_sliceCount 30 = .ok (.iaload, 1) := by decide +kernel
theorem dX9_sliceCount_31 : decode cX9_sliceCount 31 = .ok (.istore 5, 2) := by decide +kernel
theorem dX9_sliceCount_33 : decode cX9_sliceCount 33 = .ok (.iload 5, 2) := by decide +kernel
theorem dX9_sliceCount_35 : decode cX9_sliceCount 35 = .ok (.iconst (-1), 1) := by decide +kernel
theorem dX9_sliceCount_36 : decode cX9_sliceCount 36 = .ok (.if_icmp .eq 23, 3) := by decide +kernel
theorem dX9_sliceCount_39 : decode cX9_sliceCount 39 = .ok (.iload 5, 2) := by decide +kernel
theorem dX9_sliceCount_41 : decode cX9_sliceCount 41 = .ok (.iload 4, 2) := by decide +kernel
theorem dX9_sliceCount_43 : decode cX9_sliceCount 43 = .ok (.if_icmp .ge 16, 3) := by decide +kernel
theorem dX9_sliceCount_46 : decode cX9_sliceCount 46 = .ok (.iload_n 2, 1) := by decide +kernel
theorem dX9_sliceCount_47 : decode cX9_sliceCount 47 = .ok (.iload 5, 2) := by decide +kernel
theorem dX9_sliceCount_49 : decode cX9_sliceCount 49 = .ok (.invokestatic 73, 3) := by decide +kernel
theorem dX9_sliceCount_52 : decode cX9_sliceCount 52 = .ok (.ifCond .eq 7, 3) := by decide +kernel
theorem dX9_sliceCount_55 : decode cX9_sliceCount 55 = .ok (.iconst 1, 1) := by decide +kernel
theorem dX9_sliceCount_56 : decode cX9_sliceCount 56 = .ok (.goto 4, 3) := by decide +kernel
theorem dX9_sliceCount_59 : decode cX9_sliceCount 59 = .ok (.iconst 0, 1) := by decide +kernel
theorem dX9_sliceCount_60 : decode cX9_sliceCount 60 = .ok (.istore 6, 2) := by decide +kernel
theorem dX9_sliceCount_62 : decode cX9_sliceCount 62 = .ok (.iload_n 2, 1) := by decide +kernel
theorem dX9_sliceCount_63 : decode cX9_sliceCount 63 = .ok (.iload 4, 2) := by decide +kernel
theorem dX9_sliceCount_65 : decode cX9_sliceCount 65 = .ok (.invokestatic 73, 3) := by decide +kernel
theorem dX9_sliceCount_68 : decode cX9_sliceCount 68 = .ok (.ifCond .eq 11, 3) := by decide +kernel
theorem dX9_sliceCount_71 : decode cX9_sliceCount 71 = .ok (.iload 6, 2) := by decide +kernel
theorem dX9_sliceCount_73 : decode cX9_sliceCount 73 = .ok (.ifCond .ne 6, 3) := by decide +kernel
theorem dX9_sliceCount_76 : decode cX9_sliceCount 76 = .ok (.iinc 3 1, 3) := by decide +kernel
theorem dX9_sliceCount_79 : decode cX9_sliceCount 79 = .ok (.iinc 4 1, 3) := by decide +kernel
theorem dX9_sliceCount_82 : decode cX9_sliceCount 82 = .ok (.goto (-67), 3) := by decide +kernel
theorem dX9_sliceCount_85 : decode cX9_sliceCount 85 = .ok (.iload_n 3, 1) := by decide +kernel
theorem dX9_sliceCount_86 : decode cX9_sliceCount 86 = .ok (.ireturn, 1) := by decide +kernel
set_option maxRecDepth 100000 in
set_option maxHeartbeats 4000000 in
theorem k_X9_sliceCount {G : am_G} (hK : k_OK G) {d : Nat} (hd : 1 ≤ d) {sh : List (Nat ⊕ (Nat × Nat))} {I : Nat → Nat → Int32} {R : Nat → Nat → Option Nat} {L : Nat → Nat → Int64} {g : Nat} {t n : Nat} (ht : k_Town sh R t) (hn : I t 0 = nI n) (hn8 : n ≤ 8) (l : Int32) (hl : vp_in l 6) : AM G mX9_sliceCount d [.ref t, .int l] (sh, I, R, L, g) (fun v w => v = some (.int (f_sc (I (t + 4)) (I (t + 14) l.toNatClampNeg) n)) ∧ w = (sh, I, R, L, g)) (fun _ _ => False) := by
  have hG := hK.1
  refine AM.of (n := 5) (by decide +kernel) (Nat.le_of_ble_eq_true rfl) ?_
  show AW G mX9_sliceCount d (fun v w => v = some (.int (f_sc (I (t + 4)) (I (t + 14) l.toNatClampNeg) n)) ∧ w = (sh, I, R, L, g)) (fun _ _ => False) 0 [some (.ref t), some (.int l), none, none, none, none, none] [] (sh, I, R, L, g) 0 0
  refine AW.aload_n dX9_sliceCount_0 rfl ?_
  refine AW.getR (c' := (t + 8)) (fX9_36 hG).r rfl (ht.1 0 _ rfl) (ht.2 (0, 11, 8) (by decide)) dX9_sliceCount_1 ?_
  refine AW.getR (c' := (t + 14)) (fX9_70 hG) rfl (ht.1 8 _ rfl) (ht.2 (8, 6, 14) (by decide)) dX9_sliceCount_4 ?_
  refine AW.iload_n dX9_sliceCount_7 rfl ?_
  refine AW.iald (ht.1 14 _ rfl) (by first | assumption | exact vp_in_nI (by omega) (by decide)) dX9_sliceCount_8 ?_
  refine AW.nam (fun x9 ex9 => ?_)
  refine AW.is_n [some (.ref t), some (.int l), some (.int x9), none, none, none, none] dX9_sliceCount_9 (by decide) rfl rfl ?_
  refine AW.iconst 0 dX9_sliceCount_10 (by decide) ?_
  refine AW.is_n [some (.ref t), some (.int l), some (.int x9), some (.int 0), none, none, none] dX9_sliceCount_11 (by decide) rfl rfl ?_
  refine AW.iconst 0 dX9_sliceCount_12 (by decide) ?_
  refine AW.is [some (.ref t), some (.int l), some (.int x9), some (.int 0), some (.int 0), none, none] dX9_sliceCount_13 (by decide) rfl rfl ?_
  have L15 : ∀ k15, k15 ≤ n → ∀ (a x : Int32), (x = nI k15 ∧ a = f_sc (I (t + 4)) (I (t + 14) l.toNatClampNeg) k15) → AW G mX9_sliceCount d (fun v w => v = some (.int (f_sc (I (t + 4)) (I (t + 14) l.toNatClampNeg) n)) ∧ w = (sh, I, R, L, g)) (fun _ _ => False) 15 [some (.ref t), some (.int l), some (.int x9), some (.int a), some (.int x), none, none] [] (sh, I, R, L, g) 0 0 := by
    refine am_rec n (fun k15 hk15 ih15 => ?_)
    intro a x hi15
    obtain ⟨hx, ha⟩ := hi15
    refine AW.iload dX9_sliceCount_15 rfl ?_
    refine AW.aload_n dX9_sliceCount_17 rfl ?_
    refine AW.getI (fX9_47 hG).r rfl (ht.1 0 _ rfl) dX9_sliceCount_18 ?_
    refine AW.icmp_ge 85 dX9_sliceCount_21 (by decide) (fun h21 => ?_) (fun h21 => ?_)
    · have hke := k_ge h21 hx hn hk15 (by omega)
      subst hke
      refine AW.iload_n dX9_sliceCount_85 rfl ?_
      exact AW.iret dX9_sliceCount_86 rfl (by decide) (by decide) (⟨by rw [ha], rfl⟩)
    · have hlt := k_lt h21 hx hn hk15 (by omega)
      have hbx : vp_in x 8 := by rw [hx]; exact vp_in_nI (by omega) (by decide)
      have hcx : x.toNatClampNeg = k15 := by rw [hx]; exact nI_clamp (by omega)
      refine AW.aload_n dX9_sliceCount_24 rfl ?_
      refine AW.getR (c' := (t + 4)) (fX9_21 hG).r rfl (ht.1 0 _ rfl) (ht.2 (0, 7, 4) (by decide)) dX9_sliceCount_25 ?_
      refine AW.iload dX9_sliceCount_28 rfl ?_
      refine AW.iald (ht.1 4 _ rfl) (by first | assumption | exact vp_in_nI (by omega) (by decide)) dX9_sliceCount_30 ?_
      refine AW.nam (fun x31 ex31 => ?_)
      refine AW.is [some (.ref t), some (.int l), some (.int x9), some (.int a), some (.int x), some (.int x31), none] dX9_sliceCount_31 (by decide) rfl rfl ?_
      refine AW.iload dX9_sliceCount_33 rfl ?_
      refine AW.iconst (-1) dX9_sliceCount_35 (by decide) ?_
      refine AW.icmp_eq 59 dX9_sliceCount_36 (by decide) (fun h36 => ?_) (fun h36 => ?_)
      · rw [ex31, hcx] at h36
        refine AW.iconst 0 dX9_sliceCount_59 (by decide) ?_
        refine AW.is [some (.ref t), some (.int l), some (.int x9), some (.int a), some (.int x), some (.int x31), some (.int 0)] dX9_sliceCount_60 (by decide) rfl rfl ?_
        refine AW.iload_n dX9_sliceCount_62 rfl ?_
        refine AW.iload dX9_sliceCount_63 rfl ?_
        refine AW.callSN (As := [.int x9, .int x]) hG.2.2 (vX9_73n hK) (kS_X10_has hG) (k_X10_has hK (d := 0) (Nat.le_refl _) x9 x) (by omega) dX9_sliceCount_65 rfl rfl (Nat.le_of_ble_eq_true rfl) (fun v w9 hq9 h09 => by obtain ⟨rfl, rfl⟩ := hq9; exact ⟨h09, rfl⟩) (by decide) (by decide) (fun v65 w65 hq65 => ?_)
        obtain ⟨rfl, rfl⟩ := hq65
        refine AW.nam (fun x65 ex65 => ?_)
        refine AW.if_eq 79 dX9_sliceCount_68 (by decide) (fun h68 => ?_) (fun h68 => ?_)
        · rw [ex65, hx, ex9] at h68
          have hc3 := kb_0.mp h68
          refine AW.inc (fun x79 => [some (.ref t), some (.int l), some (.int x9), some (.int a), some (.int x79), some (.int x31), some (.int 0)]) dX9_sliceCount_79 rfl (by decide) rfl (fun _ => rfl) (fun x79 ex79 => ?_)
          refine AW.goto 15 dX9_sliceCount_82 (by decide) ?_
          refine AW.mask [5, 6] [some (.ref t), some (.int l), some (.int x9), some (.int a), some (.int x79), none, none] rfl ?_
          exact ih15 (k15 + 1) (by omega) (by omega) _ _ (⟨k_inc (by assumption) hx, (show _ = (if _ then _ else _) by first | (rw [if_neg (by simp_all)]; exact ha) | (rw [if_pos (by simp_all), ex76, ha]; rfl))⟩)
        · rw [ex65, hx, ex9] at h68
          have hc3 := kb_1.mp h68
          refine AW.iload dX9_sliceCount_71 rfl ?_
          refine AW.if_ne 79 dX9_sliceCount_73 (by decide) (fun h73 => ?_) (fun h73 => ?_)
          · refine AW.inc (fun x79 => [some (.ref t), some (.int l), some (.int x9), some (.int a), some (.int x79), some (.int x31), some (.int 0)]) dX9_sliceCount_79 rfl (by decide) rfl (fun _ => rfl) (fun x79 ex79 => ?_)
            refine AW.goto 15 dX9_sliceCount_82 (by decide) ?_
            refine AW.mask [5, 6] [some (.ref t), some (.int l), some (.int x9), some (.int a), some (.int x79), none, none] rfl ?_
            exact ih15 (k15 + 1) (by omega) (by omega) _ _ (⟨k_inc (by assumption) hx, (show _ = (if _ then _ else _) by first | (rw [if_neg (by simp_all)]; exact ha) | (rw [if_pos (by simp_all), ex76, ha]; rfl))⟩)
          · refine AW.inc (fun x76 => [some (.ref t), some (.int l), some (.int x9), some (.int x76), some (.int x), some (.int x31), some (.int 0)]) dX9_sliceCount_76 rfl (by decide) rfl (fun _ => rfl) (fun x76 ex76 => ?_)
            refine AW.inc (fun x79 => [some (.ref t), some (.int l), some (.int x9), some (.int x76), some (.int x79), some (.int x31), some (.int 0)]) dX9_sliceCount_79 rfl (by decide) rfl (fun _ => rfl) (fun x79 ex79 => ?_)
            refine AW.goto 15 dX9_sliceCount_82 (by decide) ?_
            refine AW.mask [5, 6] [some (.ref t), some (.int l), some (.int x9), some (.int x76), some (.int x79), none, none] rfl ?_
            exact ih15 (k15 + 1) (by omega) (by omega) _ _ (⟨k_inc (by assumption) hx, (show _ = (if _ then _ else _) by first | (rw [if_neg (by simp_all)]; exact ha) | (rw [if_pos (by simp_all), ex76, ha]; rfl))⟩)
      · rw [ex31, hcx] at h36
        refine AW.iload dX9_sliceCount_39 rfl ?_
        refine AW.iload dX9_sliceCount_41 rfl ?_
        refine AW.icmp_ge 59 dX9_sliceCount_43 (by decide) (fun h43 => ?_) (fun h43 => ?_)
        · rw [ex31, hcx, hx] at h43
          refine AW.iconst 0 dX9_sliceCount_59 (by decide) ?_
          refine AW.is [some (.ref t), some (.int l), some (.int x9), some (.int a), some (.int x), some (.int x31), some (.int 0)] dX9_sliceCount_60 (by decide) rfl rfl ?_
          refine AW.iload_n dX9_sliceCount_62 rfl ?_
          refine AW.iload dX9_sliceCount_63 rfl ?_
          refine AW.callSN (As := [.int x9, .int x]) hG.2.2 (vX9_73n hK) (kS_X10_has hG) (k_X10_has hK (d := 0) (Nat.le_refl _) x9 x) (by omega) dX9_sliceCount_65 rfl rfl (Nat.le_of_ble_eq_true rfl) (fun v w9 hq9 h09 => by obtain ⟨rfl, rfl⟩ := hq9; exact ⟨h09, rfl⟩) (by decide) (by decide) (fun v65 w65 hq65 => ?_)
          obtain ⟨rfl, rfl⟩ := hq65
          refine AW.nam (fun x65 ex65 => ?_)
          refine AW.if_eq 79 dX9_sliceCount_68 (by decide) (fun h68 => ?_) (fun h68 => ?_)
          · rw [ex65, hx, ex9] at h68
            have hc3 := kb_0.mp h68
            refine AW.inc (fun x79 => [some (.ref t), some (.int l), some (.int x9), some (.int a), some (.int x79), some (.int x31), some (.int 0)]) dX9_sliceCount_79 rfl (by decide) rfl (fun _ => rfl) (fun x79 ex79 => ?_)
            refine AW.goto 15 dX9_sliceCount_82 (by decide) ?_
            refine AW.mask [5, 6] [some (.ref t), some (.int l), some (.int x9), some (.int a), some (.int x79), none, none] rfl ?_
            exact ih15 (k15 + 1) (by omega) (by omega) _ _ (⟨k_inc (by assumption) hx, (show _ = (if _ then _ else _) by first | (rw [if_neg (by simp_all)]; exact ha) | (rw [if_pos (by simp_all), ex76, ha]; rfl))⟩)
          · rw [ex65, hx, ex9] at h68
            have hc3 := kb_1.mp h68
            refine AW.iload dX9_sliceCount_71 rfl ?_
            refine AW.if_ne 79 dX9_sliceCount_73 (by decide) (fun h73 => ?_) (fun h73 => ?_)
            · refine AW.inc (fun x79 => [some (.ref t), some (.int l), some (.int x9), some (.int a), some (.int x79), some (.int x31), some (.int 0)]) dX9_sliceCount_79 rfl (by decide) rfl (fun _ => rfl) (fun x79 ex79 => ?_)
              refine AW.goto 15 dX9_sliceCount_82 (by decide) ?_
              refine AW.mask [5, 6] [some (.ref t), some (.int l), some (.int x9), some (.int a), some (.int x79), none, none] rfl ?_
              exact ih15 (k15 + 1) (by omega) (by omega) _ _ (⟨k_inc (by assumption) hx, (show _ = (if _ then _ else _) by first | (rw [if_neg (by simp_all)]; exact ha) | (rw [if_pos (by simp_all), ex76, ha]; rfl))⟩)
            · refine AW.inc (fun x76 => [some (.ref t), some (.int l), some (.int x9), some (.int x76), some (.int x), some (.int x31), some (.int 0)]) dX9_sliceCount_76 rfl (by decide) rfl (fun _ => rfl) (fun x76 ex76 => ?_)
              refine AW.inc (fun x79 => [some (.ref t), some (.int l), some (.int x9), some (.int x76), some (.int x79), some (.int x31), some (.int 0)]) dX9_sliceCount_79 rfl (by decide) rfl (fun _ => rfl) (fun x79 ex79 => ?_)
              refine AW.goto 15 dX9_sliceCount_82 (by decide) ?_
              refine AW.mask [5, 6] [some (.ref t), some (.int l), some (.int x9), some (.int x76), some (.int x79), none, none] rfl ?_
              exact ih15 (k15 + 1) (by omega) (by omega) _ _ (⟨k_inc (by assumption) hx, (show _ = (if _ then _ else _) by first | (rw [if_neg (by simp_all)]; exact ha) | (rw [if_pos (by simp_all), ex76, ha]; rfl))⟩)
        · rw [ex31, hcx, hx] at h43
          refine AW.iload_n dX9_sliceCount_46 rfl ?_
          refine AW.iload dX9_sliceCount_47 rfl ?_
          refine AW.callSN (As := [.int x9, .int x31]) hG.2.2 (vX9_73n hK) (kS_X10_has hG) (k_X10_has hK (d := 0) (Nat.le_refl _) x9 x31) (by omega) dX9_sliceCount_49 rfl rfl (Nat.le_of_ble_eq_true rfl) (fun v w9 hq9 h09 => by obtain ⟨rfl, rfl⟩ := hq9; exact ⟨h09, rfl⟩) (by decide) (by decide) (fun v49 w49 hq49 => ?_)
          obtain ⟨rfl, rfl⟩ := hq49
          refine AW.nam (fun x49 ex49 => ?_)
          refine AW.if_eq 59 dX9_sliceCount_52 (by decide) (fun h52 => ?_) (fun h52 => ?_)
          · rw [ex49, ex31, hcx, ex9] at h52
            have hc2 := kb_0.mp h52
            refine AW.iconst 0 dX9_sliceCount_59 (by decide) ?_
            refine AW.is [some (.ref t), some (.int l), some (.int x9), some (.int a), some (.int x), some (.int x31), some (.int 0)] dX9_sliceCount_60 (by decide) rfl rfl ?_
            refine AW.iload_n dX9_sliceCount_62 rfl ?_
            refine AW.iload dX9_sliceCount_63 rfl ?_
            refine AW.callSN (As := [.int x9, .int x]) hG.2.2 (vX9_73n hK) (kS_X10_has hG) (k_X10_has hK (d := 0) (Nat.le_refl _) x9 x) (by omega) dX9_sliceCount_65 rfl rfl (Nat.le_of_ble_eq_true rfl) (fun v w9 hq9 h09 => by obtain ⟨rfl, rfl⟩ := hq9; exact ⟨h09, rfl⟩) (by decide) (by decide) (fun v65 w65 hq65 => ?_)
            obtain ⟨rfl, rfl⟩ := hq65
            refine AW.nam (fun x65 ex65 => ?_)
            refine AW.if_eq 79 dX9_sliceCount_68 (by decide) (fun h68 => ?_) (fun h68 => ?_)
            · rw [ex65, hx, ex9] at h68
              have hc3 := kb_0.mp h68
              refine AW.inc (fun x79 => [some (.ref t), some (.int l), some (.int x9), some (.int a), some (.int x79), some (.int x31), some (.int 0)]) dX9_sliceCount_79 rfl (by decide) rfl (fun _ => rfl) (fun x79 ex79 => ?_)
              refine AW.goto 15 dX9_sliceCount_82 (by decide) ?_
              refine AW.mask [5, 6] [some (.ref t), some (.int l), some (.int x9), some (.int a), some (.int x79), none, none] rfl ?_
              exact ih15 (k15 + 1) (by omega) (by omega) _ _ (⟨k_inc (by assumption) hx, (show _ = (if _ then _ else _) by first | (rw [if_neg (by simp_all)]; exact ha) | (rw [if_pos (by simp_all), ex76, ha]; rfl))⟩)
            · rw [ex65, hx, ex9] at h68
              have hc3 := kb_1.mp h68
              refine AW.iload dX9_sliceCount_71 rfl ?_
              refine AW.if_ne 79 dX9_sliceCount_73 (by decide) (fun h73 => ?_) (fun h73 => ?_)
              · refine AW.inc (fun x79 => [some (.ref t), some (.int l), some (.int x9), some (.int a), some (.int x79), some (.int x31), some (.int 0)]) dX9_sliceCount_79 rfl (by decide) rfl (fun _ => rfl) (fun x79 ex79 => ?_)
                refine AW.goto 15 dX9_sliceCount_82 (by decide) ?_
                refine AW.mask [5, 6] [some (.ref t), some (.int l), some (.int x9), some (.int a), some (.int x79), none, none] rfl ?_
                exact ih15 (k15 + 1) (by omega) (by omega) _ _ (⟨k_inc (by assumption) hx, (show _ = (if _ then _ else _) by first | (rw [if_neg (by simp_all)]; exact ha) | (rw [if_pos (by simp_all), ex76, ha]; rfl))⟩)
              · refine AW.inc (fun x76 => [some (.ref t), some (.int l), some (.int x9), some (.int x76), some (.int x), some (.int x31), some (.int 0)]) dX9_sliceCount_76 rfl (by decide) rfl (fun _ => rfl) (fun x76 ex76 => ?_)
                refine AW.inc (fun x79 => [some (.ref t), some (.int l), some (.int x9), some (.int x76), some (.int x79), some (.int x31), some (.int 0)]) dX9_sliceCount_79 rfl (by decide) rfl (fun _ => rfl) (fun x79 ex79 => ?_)
                refine AW.goto 15 dX9_sliceCount_82 (by decide) ?_
                refine AW.mask [5, 6] [some (.ref t), some (.int l), some (.int x9), some (.int x76), some (.int x79), none, none] rfl ?_
                exact ih15 (k15 + 1) (by omega) (by omega) _ _ (⟨k_inc (by assumption) hx, (show _ = (if _ then _ else _) by first | (rw [if_neg (by simp_all)]; exact ha) | (rw [if_pos (by simp_all), ex76, ha]; rfl))⟩)
          · rw [ex49, ex31, hcx, ex9] at h52
            have hc2 := kb_1.mp h52
            refine AW.iconst 1 dX9_sliceCount_55 (by decide) ?_
            refine AW.goto 60 dX9_sliceCount_56 (by decide) ?_
            refine AW.is [some (.ref t), some (.int l), some (.int x9), some (.int a), some (.int x), some (.int x31), some (.int 1)] dX9_sliceCount_60 (by decide) rfl rfl ?_
            refine AW.iload_n dX9_sliceCount_62 rfl ?_
            refine AW.iload dX9_sliceCount_63 rfl ?_
            refine AW.callSN (As := [.int x9, .int x]) hG.2.2 (vX9_73n hK) (kS_X10_has hG) (k_X10_has hK (d := 0) (Nat.le_refl _) x9 x) (by omega) dX9_sliceCount_65 rfl rfl (Nat.le_of_ble_eq_true rfl) (fun v w9 hq9 h09 => by obtain ⟨rfl, rfl⟩ := hq9; exact ⟨h09, rfl⟩) (by decide) (by decide) (fun v65 w65 hq65 => ?_)
            obtain ⟨rfl, rfl⟩ := hq65
            refine AW.nam (fun x65 ex65 => ?_)
            refine AW.if_eq 79 dX9_sliceCount_68 (by decide) (fun h68 => ?_) (fun h68 => ?_)
            · rw [ex65, hx, ex9] at h68
              have hc3 := kb_0.mp h68
              refine AW.inc (fun x79 => [some (.ref t), some (.int l), some (.int x9), some (.int a), some (.int x79), some (.int x31), some (.int 1)]) dX9_sliceCount_79 rfl (by decide) rfl (fun _ => rfl) (fun x79 ex79 => ?_)
              refine AW.goto 15 dX9_sliceCount_82 (by decide) ?_
              refine AW.mask [5, 6] [some (.ref t), some (.int l), some (.int x9), some (.int a), some (.int x79), none, none] rfl ?_
              exact ih15 (k15 + 1) (by omega) (by omega) _ _ (⟨k_inc (by assumption) hx, (show _ = (if _ then _ else _) by first | (rw [if_neg (by simp_all)]; exact ha) | (rw [if_pos (by simp_all), ex76, ha]; rfl))⟩)
            · rw [ex65, hx, ex9] at h68
              have hc3 := kb_1.mp h68
              refine AW.iload dX9_sliceCount_71 rfl ?_
              refine AW.if_ne 79 dX9_sliceCount_73 (by decide) (fun h73 => ?_) (fun h73 => ?_)
              · refine AW.inc (fun x79 => [some (.ref t), some (.int l), some (.int x9), some (.int a), some (.int x79), some (.int x31), some (.int 1)]) dX9_sliceCount_79 rfl (by decide) rfl (fun _ => rfl) (fun x79 ex79 => ?_)
                refine AW.goto 15 dX9_sliceCount_82 (by decide) ?_
                refine AW.mask [5, 6] [some (.ref t), some (.int l), some (.int x9), some (.int a), some (.int x79), none, none] rfl ?_
                exact ih15 (k15 + 1) (by omega) (by omega) _ _ (⟨k_inc (by assumption) hx, (show _ = (if _ then _ else _) by first | (rw [if_neg (by simp_all)]; exact ha) | (rw [if_pos (by simp_all), ex76, ha]; rfl))⟩)
              · refine AW.inc (fun x76 => [some (.ref t), some (.int l), some (.int x9), some (.int x76), some (.int x), some (.int x31), some (.int 1)]) dX9_sliceCount_76 rfl (by decide) rfl (fun _ => rfl) (fun x76 ex76 => ?_)
                refine AW.inc (fun x79 => [some (.ref t), some (.int l), some (.int x9), some (.int x76), some (.int x79), some (.int x31), some (.int 1)]) dX9_sliceCount_79 rfl (by decide) rfl (fun _ => rfl) (fun x79 ex79 => ?_)
                refine AW.goto 15 dX9_sliceCount_82 (by decide) ?_
                refine AW.mask [5, 6] [some (.ref t), some (.int l), some (.int x9), some (.int x76), some (.int x79), none, none] rfl ?_
                exact ih15 (k15 + 1) (by omega) (by omega) _ _ (⟨k_inc (by assumption) hx, (show _ = (if _ then _ else _) by first | (rw [if_neg (by simp_all)]; exact ha) | (rw [if_pos (by simp_all), ex76, ha]; rfl))⟩)
  exact L15 0 (by omega) _ _ (⟨nI_0.symm, rfl⟩)
