/-! SETS OF PEOPLE, LOAVES, HOUSES; GAMES -/
theorem k_pow {n : Nat} (h : n ≤ 10) : (1 : Int32) <<< (nI n &&& 31) = nI (2 ^ n) := by
  rcases (show n = 0 ∨ n = 1 ∨ n = 2 ∨ n = 3 ∨ n = 4 ∨ n = 5 ∨ n = 6 ∨ n = 7 ∨ n = 8 ∨ n = 9 ∨ n = 10 by omega) with rfl | rfl | rfl | rfl | rfl | rfl | rfl | rfl | rfl | rfl | rfl <;> decide
theorem k_pow1 {n : Nat} (h : n ≤ 10) : 1 ≤ 2 ^ n ∧ 2 ^ n ≤ 1024 := by
  rcases (show n = 0 ∨ n = 1 ∨ n = 2 ∨ n = 3 ∨ n = 4 ∨ n = 5 ∨ n = 6 ∨ n = 7 ∨ n = 8 ∨ n = 9 ∨ n = 10 by omega) with rfl | rfl | rfl | rfl | rfl | rfl | rfl | rfl | rfl | rfl | rfl <;> decide
theorem k_all {n : Nat} (h : n ≤ 10) : (1 : Int32) <<< (nI n &&& 31) - 1 = nI (2 ^ n - 1) := by
  have h1 := (k_pow1 h).1
  rw [k_pow h, show 2 ^ n = 2 ^ n - 1 + 1 by omega, nI_pred]
  rfl
def f_cb (ct cu : Nat → Int32) (m : Nat) : Int32 := lfold (fun l a => if ct l = -1 ∧ ¬ cu l = 0 then a ||| ((1 : Int32) <<< (nI l &&& 31)) else a) 0 m
def f_ca (b : Int32) (cu : Nat → Int32) (m : Nat) : Int32 := lfold (fun l a => if f_has b (nI l) then a ||| cu l else a) 0 m
def f_lc (kd tw kn cu eb : Nat → Int32) (b c : Int32) (n m : Nat) : Bool := lall (fun l => !(f_has c (nI l) && !f_kc kd tw kn (cu l) (eb l) (f_wt tw b n) n)) m
def f_oa (hs cu : Nat → Int32) (h c : Int32) (n m : Nat) : Bool := lall (fun l => !(f_has c (nI l) && decide (cu l &&& f_dw hs h n = 0))) m
def f_fm (kn : Nat → Int32) (al : Int32) (n : Nat) : Int32 := lfold (fun p a => if kn p ||| ((1 : Int32) <<< (nI p &&& 31)) = al then a ||| ((1 : Int32) <<< (nI p &&& 31)) else a) 0 n
def f_rg (kn : Nat → Int32) (n k : Nat) : Int32 := lfold (fun s best => if s = 0 then best else if ¬ f_bc (nI s) ≤ f_bc best ∧ f_as kn (nI s) n = true then nI s else best) 0 k
def f_hp (uc : Int32) (cu : Nat → Int32) (m k : Nat) : Int32 := lfold (fun s a => if s = 0 then a else if nI s &&& (uc ^^^ (-1)) = 0 then f_mx a (f_bc (nI s) - f_bc (f_ca (nI s) cu m)) else a) 0 k
def f_dr (hs cu : Nat → Int32) (c : Int32) (n m k : Nat) : Int32 := lfold (fun s best => if ¬ f_bc best ≤ f_bc (nI s) ∧ f_oa hs cu (nI s) c n m = true then nI s else best) 1023 k
def f_gn (cu sz : Nat → Int32) (p a b : Nat) : Int32 := if ¬ nI a = nI b ∧ f_has (cu a) (nI p) = true then sz a else 0
def f_bs (cu sz : Nat → Int32) (p a b m : Nat) : Bool := lall (fun l => decide (f_gn cu sz p l b ≤ f_gn cu sz p a b)) m
theorem dX10_cuttableLoaves_0 : decode cX10_cuttableLoaves 0 = .ok (.iconst 0, 1) := by decide +kernel
theorem dX10_cuttableLoaves_1 : decode cX10_cuttableLoaves 1 = .ok (.istore_n 1, 1) := by decide +kernel
theorem dX10_cuttableLoaves_2 : decode cX10_cuttableLoaves 2 = .ok (.iconst 0, 1) := by decide +kernel
theorem dX10_cuttableLoaves_3 : decode cX10_cuttableLoaves 3 = .ok (.istore_n 2, 1) := by decide +kernel
theorem dX10_cuttableLoaves_4 : decode cX10_cuttableLoaves 4 = .ok (.iload_n 2, 1) := by decide +kernel
theorem dX10_cuttableLoaves_5 : decode cX10_cuttableLoaves 5 = .ok (.aload_n 0, 1) := by decide +kernel
theorem dX10_cuttableLoaves_6 : decode cX10_cuttableLoaves 6 = .ok (.getfield 19, 3) := by decide +kernel
theorem dX10_cuttableLoaves_9 : decode cX10_cuttableLoaves 9 = .ok (.getfield 122, 3) := by decide +kernel
theorem dX10_cuttableLoaves_12 : decode cX10_cuttableLoaves 12 = .ok (.getfield 126, 3) := by decide +kernel
theorem dX10_cuttableLoaves_15 : decode cX10_cuttableLoaves 15 = .ok (.if_icmp .ge 46, 3) := by decide +kernel
theorem dX10_cuttableLoaves_18 : decode cX10_cuttableLoaves 18 = .ok (.aload_n 0, 1) := by decide +kernel
theorem dX10_cuttableLoaves_19 : decode cX10_cuttableLoaves 19 = .ok (.getfield 33, 3) := by decide +kernel
theorem dX10_cuttableLoaves_22 : decode cX10_cuttableLoaves 22 = .ok (.getfield 110, 3) := by decide +kernel
theorem dX10_cuttableLoaves_25 : decode cX10_cuttableLoaves 25 = .ok (.getfield 114, 3) := by decide +kernel
theorem dX10_cuttableLoaves_28 : decode cX10_cuttableLoaves 28 = .ok (.getfield 211, 3) := by decide +kernel
theorem dX10_cuttableLoaves_31 : decode cX10_cuttableLoaves 31 = .ok (.iload_n 2, 1) := by decide +kernel
theorem dX10_cuttableLoaves_32 : decode cX10_cuttableLoaves 32 = .ok (.iaload, 1) := by decide +kernel
theorem dX10_cuttableLoaves_33 : decode cX10_cuttableLoaves 33 = .ok (.iconst (-1), 1) := by decide +kernel
theorem dX10_cuttableLoaves_34 : decode cX10_cuttableLoaves 34 = .ok (.if_icmp .ne 21, 3) := by decide +kernel
theorem dX10_cuttableLoaves_37 : decode cX10_cuttableLoaves 37 = .ok (.aload_n 0, 1) := by decide +kernel
theorem dX10_cuttableLoaves_38 : decode cX10_cuttableLoaves 38 = .ok (.getfield 54, 3) := by decide +kernel
theorem dX10_cuttableLoaves_41 : decode cX10_cuttableLoaves 41 = .ok (.getfield 307, 3) := by decide +kernel
theorem dX10_cuttableLoaves_44 : decode cX10_cuttableLoaves 44 = .ok (.iload_n 2, 1) := by decide +kernel
theorem dX10_cuttableLoaves_45 : decode cX10_cuttableLoaves 45 = .ok (.iaload, 1) := by decide +kernel
theorem dX10_cuttableLoaves_46 : decode cX10_cuttableLoaves 46 = .ok (.ifCond .eq 9, 3) := by decide +kernel
theorem dX10_cuttableLoaves_49 : decode cX10_cuttableLoaves 49 = .ok (.iload_n 1, 1) := by decide +kernel
theorem dX10_cuttableLoaves_50 : decode cX10_cuttableLoaves 50 = .ok (.iconst 1, 1) := by decide +kernel
theorem dX10_cuttableLoaves_51 : decode cX10_cuttableLoaves 51 = .ok (.iload_n 2, 1) := by decide +kernel
theorem dX10_cuttableLoaves_52 : decode cX10_cuttableLoaves 52 = .ok (.ishl, 1) := by decide +kernel
theorem dX10_cuttableLoaves_53 : decode cX10_cuttableLoaves 53 = .ok (.ior, 1) := by decide +kernel
theorem dX10_cuttableLoaves_54 : decode cX10_cuttableLoaves 54 = .ok (.istore_n 1, 1) := by decide +kernel
theorem dX10_cuttableLoaves_55 : decode cX10_cuttableLoaves 55 = .ok (.iinc 2 1, 3) := by decide +kernel
theorem dX10_cuttableLoaves_58 : decode cX10_cuttableLoaves 58 = .ok (.goto (-54), 3) := by decide +kernel
theorem dX10_cuttableLoaves_61 : decode cX10_cuttableLoaves 61 = .ok (.iload_n 1, 1) := by decide +kernel
theorem dX10_cuttableLoaves_62 : decode cX10_cuttableLoaves 62 = .ok (.ireturn, 1) := by decide +kernel
set_option maxRecDepth 100000 in
set_option maxHeartbeats 4000000 in
theorem k_X10_cuttableLoaves {G : am_G} (hK : k_OK G) {d : Nat} (hd : 0 ≤ d) {sh : List (Nat ⊕ (Nat × Nat))} {I : Nat → Nat → Int32} {R : Nat → Nat → Option Nat} {L : Nat → Nat → Int64} {g : Nat} (hXS : k_XS G) {t : Nat} (hM : k_Main sh R) (hRt : R 0 1 = some t) (ht3 : t = 3 ∨ t = 22) {m : Nat} (hm : I (t + 8) 0 = nI m) (hm6 : m ≤ 6) : AM G mX10_cuttableLoaves d [.ref 0] (sh, I, R, L, g) (fun v w => v = some (.int (f_cb (I 49) (I 92) m)) ∧ w = (sh, I, R, L, g)) (fun _ _ => False) := by
  have hG := hK.1
  have ht : k_Town sh R t := by rcases ht3 with rfl | rfl; exact kM_3 hM; exact kM_22 hM
  have o41 := kM_41 hM
  have o42 := kM_42 hM
  have o43 := kM_43 hM
  have o47 := kM_47 hM
  have o60 := kM_60 hM
  have o90 := kM_90 hM
  have o93 := kM_93 hM
  have o97 := kM_97 hM
  have o79 := kM_79 hM
  have o1 := kM_1 hM
  refine AM.of (n := 2) (by decide +kernel) (Nat.le_of_ble_eq_true rfl) ?_
  show AW G mX10_cuttableLoaves d (fun v w => v = some (.int (f_cb (I 49) (I 92) m)) ∧ w = (sh, I, R, L, g)) (fun _ _ => False) 0 [some (.ref 0), none, none] [] (sh, I, R, L, g) 0 0
  refine AW.iconst 0 dX10_cuttableLoaves_0 (by decide) ?_
  refine AW.is_n [some (.ref 0), some (.int 0), none] dX10_cuttableLoaves_1 (by decide) rfl rfl ?_
  refine AW.iconst 0 dX10_cuttableLoaves_2 (by decide) ?_
  refine AW.is_n [some (.ref 0), some (.int 0), some (.int 0)] dX10_cuttableLoaves_3 (by decide) rfl rfl ?_
  have L4 : ∀ k4, k4 ≤ m → ∀ (a x : Int32), (x = nI k4 ∧ a = f_cb (I 49) (I 92) k4) → AW G mX10_cuttableLoaves d (fun v w => v = some (.int (f_cb (I 49) (I 92) m)) ∧ w = (sh, I, R, L, g)) (fun _ _ => False) 4 [some (.ref 0), some (.int a), some (.int x)] [] (sh, I, R, L, g) 0 0 := by
    refine am_rec m (fun k4 hk4 ih4 => ?_)
    intro a x hi4
    obtain ⟨hx, ha⟩ := hi4
    refine AW.iload_n dX10_cuttableLoaves_4 rfl ?_
    refine AW.aload_n dX10_cuttableLoaves_5 rfl ?_
    refine AW.getR (fX10_19 hG).r rfl (hM.1 0 _ rfl) hRt dX10_cuttableLoaves_6 ?_
    refine AW.getR (c' := (t + 8)) (fX10_122 hG) rfl (ht.1 0 _ rfl) (ht.2 (0, 11, 8) (by decide)) dX10_cuttableLoaves_9 ?_
    refine AW.getI (fX10_126 hG).r rfl (ht.1 8 _ rfl) dX10_cuttableLoaves_12 ?_
    refine AW.icmp_ge 61 dX10_cuttableLoaves_15 (by decide) (fun h15 => ?_) (fun h15 => ?_)
    · have hke := k_ge h15 hx hm hk4 (by omega)
      subst hke
      refine AW.iload_n dX10_cuttableLoaves_61 rfl ?_
      exact AW.iret dX10_cuttableLoaves_62 rfl (by decide) (by decide) (⟨by rw [ha], rfl⟩)
    · have hlt := k_lt h15 hx hm hk4 (by omega)
      have hbx : vp_in x 6 := by rw [hx]; exact vp_in_nI (by omega) (by decide)
      have hcx : x.toNatClampNeg = k4 := by rw [hx]; exact nI_clamp (by omega)
      refine AW.aload_n dX10_cuttableLoaves_18 rfl ?_
      refine AW.getR (c' := 41) (fX10_33 hG).r rfl (hM.1 0 _ rfl) (hM.2 (0, 4, 41) (by decide)) dX10_cuttableLoaves_19 ?_
      refine AW.getR (c' := 42) (fX10_110 hG) rfl (o41.1 0 _ rfl) (o41.2 (0, 0, 1) (by decide)) dX10_cuttableLoaves_22 ?_
      refine AW.getR (c' := 47) (fX10_114 hG) rfl (o42.1 0 _ rfl) (o42.2 (0, 1, 5) (by decide)) dX10_cuttableLoaves_25 ?_
      refine AW.getR (c' := 49) (fX10_211 hG) rfl (o47.1 0 _ rfl) (o47.2 (0, 3, 2) (by decide)) dX10_cuttableLoaves_28 ?_
      refine AW.iload_n dX10_cuttableLoaves_31 rfl ?_
      refine AW.iald (o47.1 2 _ rfl) (by first | assumption | (unfold vp_in; decide) | exact vp_in_nI (by omega) (by decide)) dX10_cuttableLoaves_32 ?_
      refine AW.iconst (-1) dX10_cuttableLoaves_33 (by decide) ?_
      refine AW.icmp_ne 55 dX10_cuttableLoaves_34 (by decide) (fun h34 => ?_) (fun h34 => ?_)
      · rw [hcx] at h34
        refine AW.inc (fun x55 => [some (.ref 0), some (.int a), some (.int x55)]) dX10_cuttableLoaves_55 rfl (by decide) rfl (fun _ => rfl) (fun x55 ex55 => ?_)
        refine AW.goto 4 dX10_cuttableLoaves_58 (by decide) ?_
        exact ih4 (k4 + 1) (by omega) (by omega) _ _ (⟨k_inc (by assumption) hx, (show _ = (if _ then _ else _) by rw [if_neg (fun h => h34 h.1)]; exact ha)⟩)
      · rw [hcx] at h34
        refine AW.aload_n dX10_cuttableLoaves_37 rfl ?_
        refine AW.getR (c' := 90) (fX10_54 hG).r rfl (hM.1 0 _ rfl) (hM.2 (0, 10, 90) (by decide)) dX10_cuttableLoaves_38 ?_
        refine AW.getR (c' := 92) (fX10_307 hG) rfl (o90.1 0 _ rfl) (o90.2 (0, 1, 2) (by decide)) dX10_cuttableLoaves_41 ?_
        refine AW.iload_n dX10_cuttableLoaves_44 rfl ?_
        refine AW.iald (o90.1 2 _ rfl) (by first | assumption | (unfold vp_in; decide) | exact vp_in_nI (by omega) (by decide)) dX10_cuttableLoaves_45 ?_
        refine AW.if_eq 55 dX10_cuttableLoaves_46 (by decide) (fun h46 => ?_) (fun h46 => ?_)
        · rw [hcx] at h46
          refine AW.inc (fun x55 => [some (.ref 0), some (.int a), some (.int x55)]) dX10_cuttableLoaves_55 rfl (by decide) rfl (fun _ => rfl) (fun x55 ex55 => ?_)
          refine AW.goto 4 dX10_cuttableLoaves_58 (by decide) ?_
          exact ih4 (k4 + 1) (by omega) (by omega) _ _ (⟨k_inc (by assumption) hx, (show _ = (if _ then _ else _) by rw [if_neg (fun h => h.2 h46)]; exact ha)⟩)
        · rw [hcx] at h46
          refine AW.iload_n dX10_cuttableLoaves_49 rfl ?_
          refine AW.iconst 1 dX10_cuttableLoaves_50 (by decide) ?_
          refine AW.iload_n dX10_cuttableLoaves_51 rfl ?_
          refine AW.ishl dX10_cuttableLoaves_52 ?_
          refine AW.ior dX10_cuttableLoaves_53 ?_
          refine AW.nam (fun x54 ex54 => ?_)
          refine AW.is_n [some (.ref 0), some (.int x54), some (.int x)] dX10_cuttableLoaves_54 (by decide) rfl rfl ?_
          refine AW.inc (fun x55 => [some (.ref 0), some (.int x54), some (.int x55)]) dX10_cuttableLoaves_55 rfl (by decide) rfl (fun _ => rfl) (fun x55 ex55 => ?_)
          refine AW.goto 4 dX10_cuttableLoaves_58 (by decide) ?_
          exact ih4 (k4 + 1) (by omega) (by omega) _ _ (⟨k_inc (by assumption) hx, (show _ = (if _ then _ else _) by rw [if_pos ⟨h34, h46⟩, ex54, ha, hx]; rfl)⟩)
  exact L4 0 (by omega) _ _ (⟨nI_0.symm, rfl⟩)
theorem dX10_cuttersOfAny_0 : decode cX10_cuttersOfAny 0 = .ok (.iconst 0, 1) := by decide +kernel
theorem dX10_cuttersOfAny_1 : decode cX10_cuttersOfAny 1 = .ok (.istore_n 2, 1) := by decide +kernel
theorem dX10_cuttersOfAny_2 : decode cX10_cuttersOfAny 2 = .ok (.iconst 0, 1) := by decide +kernel
theorem dX10_cuttersOfAny_3 : decode cX10_cuttersOfAny 3 = .ok (.istore_n 3, 1) := by decide +kernel
theorem dX10_cuttersOfAny_4 : decode cX10_cuttersOfAny 4 = .ok (.iload_n 3, 1) := by decide +kernel
theorem dX10_cuttersOfAny_5 : decode cX10_cuttersOfAny 5 = .ok (.aload_n 0, 1) := by decide +kernel
theorem dX10_cuttersOfAny_6 : decode cX10_cuttersOfAny 6 = .ok (.getfield 19, 3) := by decide +kernel
theorem dX10_cuttersOfAny_9 : decode cX10_cuttersOfAny 9 = .ok (.getfield 122, 3) := by decide +kernel
theorem dX10_cuttersOfAny_12 : decode cX10_cuttersOfAny 12 = .ok (.getfield 126, 3) := by decide +kernel
theorem dX10_cuttersOfAny_15 : decode cX10_cuttersOfAny 15 = .ok (.if_icmp .ge 29, 3) := by decide +kernel
theorem dX10_cuttersOfAny_18 : decode cX10_cuttersOfAny 18 = .ok (.iload_n 1, 1) := by decide +kernel
theorem dX10_cuttersOfAny_19 : decode cX10_cuttersOfAny 19 = .ok (.iload_n 3, 1) := by decide +kernel
theorem dX10_cuttersOfAny_20 : decode cX10_cuttersOfAny 20 = .ok (.invokestatic 226, 3) := by decide +kernel
theorem dX10_cuttersOfAny_23 : decode cX10_cuttersOfAny 23 = .ok (.ifCond .eq 15, 3) := by decide +kernel
theorem dX10_cuttersOfAny_26 : decode cX10_cuttersOfAny 26 = .ok (.iload_n 2, 1) := by decide +kernel
theorem dX10_cuttersOfAny_27 : decode cX10_cuttersOfAny 27 = .ok (.aload_n 0, 1) := by decide +kernel
theorem dX10_cuttersOfAny_28 : decode cX10_cuttersOfAny 28 = .ok (.getfield 54, 3) := by decide +kernel
theorem dX10_cuttersOfAny_31 : decode cX10_cuttersOfAny 31 = .ok (.getfield 307, 3) := by decide +kernel
theorem dX10_cuttersOfAny_34 : decode cX10_cuttersOfAny 34 = .ok (.iload_n 3, 1) := by decide +kernel
theorem dX10_cuttersOfAny_35 : decode cX10_cuttersOfAny 35 = .ok (.iaload, 1) := by decide +kernel
theorem dX10_cuttersOfAny_36 : decode cX10_cuttersOfAny 36 = .ok (.ior, 1) := by decide +kernel
theorem dX10_cuttersOfAny_37 : decode cX10_cuttersOfAny 37 = .ok (.istore_n 2, 1) := by decide +kernel
theorem dX10_cuttersOfAny_38 : decode cX10_cuttersOfAny 38 = .ok (.iinc 3 1, 3) := by decide +kernel
theorem dX10_cuttersOfAny_41 : decode cX10_cuttersOfAny 41 = .ok (.goto (-37), 3) := by decide +kernel
theorem dX10_cuttersOfAny_44 : decode cX10_cuttersOfAny 44 = .ok (.iload_n 2, 1) := by decide +kernel
theorem dX10_cuttersOfAny_45 : decode cX10_cuttersOfAny 45 = .ok (.ireturn, 1) := by decide +kernel
set_option maxRecDepth 100000 in
set_option maxHeartbeats 4000000 in
theorem k_X10_cuttersOfAny {G : am_G} (hK : k_OK G) {d : Nat} (hd : 1 ≤ d) {sh : List (Nat ⊕ (Nat × Nat))} {I : Nat → Nat → Int32} {R : Nat → Nat → Option Nat} {L : Nat → Nat → Int64} {g : Nat} (hXS : k_XS G) {t : Nat} (hM : k_Main sh R) (hRt : R 0 1 = some t) (ht3 : t = 3 ∨ t = 22) {m : Nat} (hm : I (t + 8) 0 = nI m) (hm6 : m ≤ 6) (b : Int32) : AM G mX10_cuttersOfAny d [.ref 0, .int b] (sh, I, R, L, g) (fun v w => v = some (.int (f_ca b (I 92) m)) ∧ w = (sh, I, R, L, g)) (fun _ _ => False) := by
  have hG := hK.1
  have ht : k_Town sh R t := by rcases ht3 with rfl | rfl; exact kM_3 hM; exact kM_22 hM
  have o41 := kM_41 hM
  have o42 := kM_42 hM
  have o43 := kM_43 hM
  have o47 := kM_47 hM
  have o60 := kM_60 hM
  have o90 := kM_90 hM
  have o93 := kM_93 hM
  have o97 := kM_97 hM
  have o79 := kM_79 hM
  have o1 := kM_1 hM
  refine AM.of (n := 2) (by decide +kernel) (Nat.le_of_ble_eq_true rfl) ?_
  show AW G mX10_cuttersOfAny d (fun v w => v = some (.int (f_ca b (I 92) m)) ∧ w = (sh, I, R, L, g)) (fun _ _ => False) 0 [some (.ref 0), some (.int b), none, none] [] (sh, I, R, L, g) 0 0
  refine AW.iconst 0 dX10_cuttersOfAny_0 (by decide) ?_
  refine AW.is_n [some (.ref 0), some (.int b), some (.int 0), none] dX10_cuttersOfAny_1 (by decide) rfl rfl ?_
  refine AW.iconst 0 dX10_cuttersOfAny_2 (by decide) ?_
  refine AW.is_n [some (.ref 0), some (.int b), some (.int 0), some (.int 0)] dX10_cuttersOfAny_3 (by decide) rfl rfl ?_
  have L4 : ∀ k4, k4 ≤ m → ∀ (a x : Int32), (x = nI k4 ∧ a = f_ca b (I 92) k4) → AW G mX10_cuttersOfAny d (fun v w => v = some (.int (f_ca b (I 92) m)) ∧ w = (sh, I, R, L, g)) (fun _ _ => False) 4 [some (.ref 0), some (.int b), some (.int a), some (.int x)] [] (sh, I, R, L, g) 0 0 := by
    refine am_rec m (fun k4 hk4 ih4 => ?_)
    intro a x hi4
    obtain ⟨hx, ha⟩ := hi4
    refine AW.iload_n dX10_cuttersOfAny_4 rfl ?_
    refine AW.aload_n dX10_cuttersOfAny_5 rfl ?_
    refine AW.getR (fX10_19 hG).r rfl (hM.1 0 _ rfl) hRt dX10_cuttersOfAny_6 ?_
    refine AW.getR (c' := (t + 8)) (fX10_122 hG) rfl (ht.1 0 _ rfl) (ht.2 (0, 11, 8) (by decide)) dX10_cuttersOfAny_9 ?_
    refine AW.getI (fX10_126 hG).r rfl (ht.1 8 _ rfl) dX10_cuttersOfAny_12 ?_
    refine AW.icmp_ge 44 dX10_cuttersOfAny_15 (by decide) (fun h15 => ?_) (fun h15 => ?_)
    · have hke := k_ge h15 hx hm hk4 (by omega)
      subst hke
      refine AW.iload_n dX10_cuttersOfAny_44 rfl ?_
      exact AW.iret dX10_cuttersOfAny_45 rfl (by decide) (by decide) (⟨by rw [ha], rfl⟩)
    · have hlt := k_lt h15 hx hm hk4 (by omega)
      have hbx : vp_in x 6 := by rw [hx]; exact vp_in_nI (by omega) (by decide)
      have hcx : x.toNatClampNeg = k4 := by rw [hx]; exact nI_clamp (by omega)
      refine AW.iload_n dX10_cuttersOfAny_18 rfl ?_
      refine AW.iload_n dX10_cuttersOfAny_19 rfl ?_
      refine AW.callS (As := [.int b, .int x]) hG.2.2 (vX10_226 hG) (k_X10_has hK (d := 0) (Nat.le_refl _) b x) (by omega) dX10_cuttersOfAny_20 rfl rfl (Nat.le_of_ble_eq_true rfl) (fun v w9 hq9 h09 => by obtain ⟨rfl, rfl⟩ := hq9; exact ⟨h09, rfl⟩) (by decide) (by decide) (fun _ _ hx => hx) (fun v20 w20 hq20 => ?_)
      obtain ⟨rfl, rfl⟩ := hq20
      refine AW.nam (fun x20 ex20 => ?_)
      refine AW.if_eq 38 dX10_cuttersOfAny_23 (by decide) (fun h23 => ?_) (fun h23 => ?_)
      · rw [ex20, hx] at h23
        have hc := kb_0.mp h23
        refine AW.inc (fun x38 => [some (.ref 0), some (.int b), some (.int a), some (.int x38)]) dX10_cuttersOfAny_38 rfl (by decide) rfl (fun _ => rfl) (fun x38 ex38 => ?_)
        refine AW.goto 4 dX10_cuttersOfAny_41 (by decide) ?_
        exact ih4 (k4 + 1) (by omega) (by omega) _ _ (⟨k_inc (by assumption) hx, (show a = (if f_has b (nI k4) = true then _ else _) by rw [if_neg (by rw [hc]; decide)]; exact ha)⟩)
      · rw [ex20, hx] at h23
        have hc := kb_1.mp h23
        refine AW.iload_n dX10_cuttersOfAny_26 rfl ?_
        refine AW.aload_n dX10_cuttersOfAny_27 rfl ?_
        refine AW.getR (c' := 90) (fX10_54 hG).r rfl (hM.1 0 _ rfl) (hM.2 (0, 10, 90) (by decide)) dX10_cuttersOfAny_28 ?_
        refine AW.getR (c' := 92) (fX10_307 hG) rfl (o90.1 0 _ rfl) (o90.2 (0, 1, 2) (by decide)) dX10_cuttersOfAny_31 ?_
        refine AW.iload_n dX10_cuttersOfAny_34 rfl ?_
        refine AW.iald (o90.1 2 _ rfl) (by first | assumption | (unfold vp_in; decide) | exact vp_in_nI (by omega) (by decide)) dX10_cuttersOfAny_35 ?_
        refine AW.ior dX10_cuttersOfAny_36 ?_
        refine AW.nam (fun x37 ex37 => ?_)
        refine AW.is_n [some (.ref 0), some (.int b), some (.int x37), some (.int x)] dX10_cuttersOfAny_37 (by decide) rfl rfl ?_
        refine AW.inc (fun x38 => [some (.ref 0), some (.int b), some (.int x37), some (.int x38)]) dX10_cuttersOfAny_38 rfl (by decide) rfl (fun _ => rfl) (fun x38 ex38 => ?_)
        refine AW.goto 4 dX10_cuttersOfAny_41 (by decide) ?_
        exact ih4 (k4 + 1) (by omega) (by omega) _ _ (⟨k_inc (by assumption) hx, (show x37 = (if f_has b (nI k4) = true then _ else _) by rw [if_pos hc, ex37, hcx, ha]; try rfl)⟩)
  exact L4 0 (by omega) _ _ (⟨nI_0.symm, rfl⟩)
theorem dX10_leavesCuttable_0 : decode cX10_leavesCuttable 0 = .ok (.aload_n 0, 1) := by decide +kernel
theorem dX10_leavesCuttable_1 : decode cX10_leavesCuttable 1 = .ok (.getfield 19, 3) := by decide +kernel
theorem dX10_leavesCuttable_4 : decode cX10_leavesCuttable 4 = .ok (.iload_n 1, 1) := by decide +kernel
theorem dX10_leavesCuttable_5 : decode cX10_leavesCuttable 5 = .ok (.invokevirtual 300, 3) := by decide +kernel
theorem dX10_leavesCuttable_8 : decode cX10_leavesCuttable 8 = .ok (.istore_n 3, 1) := by decide +kernel
theorem dX10_leavesCuttable_9 : decode cX10_leavesCuttable 9 = .ok (.iconst 0, 1) := by decide +kernel
theorem dX10_leavesCuttable_10 : decode cX10_leavesCuttable 10 = .ok (.istore 4, 2) := by decide +kernel
theorem dX10_leavesCuttable_12 : decode cX10_leavesCuttable 12 = .ok (.iload 4, 2) := by decide +kernel
theorem dX10_leavesCuttable_14 : decode cX10_leavesCuttable 14 = .ok (.aload_n 0, 1) := by decide +kernel
theorem dX10_leavesCuttable_15 : decode cX10_leavesCuttable 15 = .ok (.getfield 19, 3) := by decide +kernel
theorem dX10_leavesCuttable_18 : decode cX10_leavesCuttable 18 = .ok (.getfield 122, 3) := by decide +kernel
theorem dX10_leavesCuttable_21 : decode cX10_leavesCuttable 21 = .ok (.getfield 126, 3) := by decide +kernel
theorem dX10_leavesCuttable_24 : decode cX10_leavesCuttable 24 = .ok (.if_icmp .ge 37, 3) := by decide +kernel
theorem dX10_leavesCuttable_27 : decode cX10_leavesCuttable 27 = .ok (.iload_n 2, 1) := by decide +kernel
theorem dX10_leavesCuttable_28 : decode cX10_leavesCuttable 28 = .ok (.iload 4, 2) := by decide +kernel
theorem dX10_leavesCuttable_30 : decode cX10_leavesCuttable 30 = .ok (.invokestatic 226, 3) := by decide +kernel
theorem dX10_leavesCuttable_33 : decode cX10_leavesCuttable 33 = .ok (.ifCond .eq 22, 3) := by decide +kernel
theorem dX10_leavesCuttable_36 : decode cX10_leavesCuttable 36 = .ok (.aload_n 0, 1) := by decide +kernel
theorem dX10_leavesCuttable_37 : decode cX10_leavesCuttable 37 = .ok (.getfield 54, 3) := by decide +kernel
theorem dX10_leavesCuttable_40 : decode cX10_leavesCuttable 40 = .ok (.aload_n 0, 1) := by decide +kernel
theorem dX10_leavesCuttable_41 : decode cX10_leavesCuttable 41 = .ok (.getfield 19, 3) := by decide +kernel
theorem dX10_leavesCuttable_44 : decode cX10_leavesCuttable 44 = .ok (.iload_n 3, 1) := by decide +kernel
theorem dX10_leavesCuttable_45 : decode cX10_leavesCuttable 45 = .ok (.iload 4, 2) := by decide +kernel
theorem dX10_leavesCuttable_47 : decode cX10_leavesCuttable 47 = .ok (.invokevirtual 303, 3) := by decide +kernel
theorem dX10_leavesCuttable_50 : decode cX10_leavesCuttable 50 = .ok (.ifCond .ne 5, 3) := by decide +kernel
theorem dX10_leavesCuttable_53 : decode cX10_leavesCuttable 53 = .ok (.iconst 0, 1) := by decide +kernel
theorem dX10_leavesCuttable_54 : decode cX10_leavesCuttable 54 = .ok (.ireturn, 1) := by decide +kernel
theorem dX10_leavesCuttable_55 : decode cX10_leavesCuttable 55 = .ok (.iinc 4 1, 3) := by decide +kernel
theorem dX10_leavesCuttable_58 : decode cX10_leavesCuttable 58 = .ok (.goto (-46), 3) := by decide +kernel
theorem dX10_leavesCuttable_61 : decode cX10_leavesCuttable 61 = .ok (.iconst 1, 1) := by decide +kernel
theorem dX10_leavesCuttable_62 : decode cX10_leavesCuttable 62 = .ok (.ireturn, 1) := by decide +kernel
set_option maxRecDepth 100000 in
set_option maxHeartbeats 4000000 in
theorem k_X10_leavesCuttable {G : am_G} (hK : k_OK G) {d : Nat} (hd : 4 ≤ d) {sh : List (Nat ⊕ (Nat × Nat))} {I : Nat → Nat → Int32} {R : Nat → Nat → Option Nat} {L : Nat → Nat → Int64} {g : Nat} (hXS : k_XS G) {t : Nat} (hM : k_Main sh R) (hRt : R 0 1 = some t) (ht3 : t = 3 ∨ t = 22) {n m : Nat} (hn : I t 0 = nI n) (hn8 : n ≤ 8) (hm : I (t + 8) 0 = nI m) (hm6 : m ≤ 6) (b c : Int32) : AM G mX10_leavesCuttable d [.ref 0, .int b, .int c] (sh, I, R, L, g) (fun v w => v = some (.int (kb (f_lc (I (t + 1)) (I (t + 4)) (I 91) (I 92) (I (t + 14)) b c n m))) ∧ w = (sh, I, R, L, g)) (fun _ _ => False) := by
  have hG := hK.1
  have ht : k_Town sh R t := by rcases ht3 with rfl | rfl; exact kM_3 hM; exact kM_22 hM
  have o41 := kM_41 hM
  have o42 := kM_42 hM
  have o43 := kM_43 hM
  have o47 := kM_47 hM
  have o60 := kM_60 hM
  have o90 := kM_90 hM
  have o93 := kM_93 hM
  have o97 := kM_97 hM
  have o79 := kM_79 hM
  have o1 := kM_1 hM
  refine AM.of (n := 2) (by decide +kernel) (Nat.le_of_ble_eq_true rfl) ?_
  show AW G mX10_leavesCuttable d (fun v w => v = some (.int (kb (f_lc (I (t + 1)) (I (t + 4)) (I 91) (I 92) (I (t + 14)) b c n m))) ∧ w = (sh, I, R, L, g)) (fun _ _ => False) 0 [some (.ref 0), some (.int b), some (.int c), none, none] [] (sh, I, R, L, g) 0 0
  refine AW.aload_n dX10_leavesCuttable_0 rfl ?_
  refine AW.getR (fX10_19 hG).r rfl (hM.1 0 _ rfl) hRt dX10_leavesCuttable_1 ?_
  refine AW.iload_n dX10_leavesCuttable_4 rfl ?_
  refine AW.callV (b := t) (As := [.int b]) hG.2.2 (vX10_300 hG) (ht.1 0 _ rfl) (k_X9_withTwins hK (d := 1) (Nat.le_refl _) ht (by assumption) (by assumption) b) (by omega) dX10_leavesCuttable_5 rfl rfl (Nat.le_of_ble_eq_true rfl) (fun v w9 hq9 h09 => by obtain ⟨rfl, rfl⟩ := hq9; exact ⟨h09, rfl⟩) (by decide) (by decide) (fun _ _ hx => hx) (fun v5 w5 hq5 => ?_)
  obtain ⟨rfl, rfl⟩ := hq5
  refine AW.nam (fun x5 ex5 => ?_)
  refine AW.is_n [some (.ref 0), some (.int b), some (.int c), some (.int x5), none] dX10_leavesCuttable_8 (by decide) rfl rfl ?_
  refine AW.iconst 0 dX10_leavesCuttable_9 (by decide) ?_
  refine AW.is [some (.ref 0), some (.int b), some (.int c), some (.int x5), some (.int 0)] dX10_leavesCuttable_10 (by decide) rfl rfl ?_
  have L12 : ∀ k12, k12 ≤ m → ∀ (x : Int32), (x = nI k12 ∧ f_lc (I (t + 1)) (I (t + 4)) (I 91) (I 92) (I (t + 14)) b c n k12 = true) → AW G mX10_leavesCuttable d (fun v w => v = some (.int (kb (f_lc (I (t + 1)) (I (t + 4)) (I 91) (I 92) (I (t + 14)) b c n m))) ∧ w = (sh, I, R, L, g)) (fun _ _ => False) 12 [some (.ref 0), some (.int b), some (.int c), some (.int x5), some (.int x)] [] (sh, I, R, L, g) 0 0 := by
    refine am_rec m (fun k12 hk12 ih12 => ?_)
    intro x hi12
    obtain ⟨hx, ha⟩ := hi12
    refine AW.iload dX10_leavesCuttable_12 rfl ?_
    refine AW.aload_n dX10_leavesCuttable_14 rfl ?_
    refine AW.getR (fX10_19 hG).r rfl (hM.1 0 _ rfl) hRt dX10_leavesCuttable_15 ?_
    refine AW.getR (c' := (t + 8)) (fX10_122 hG) rfl (ht.1 0 _ rfl) (ht.2 (0, 11, 8) (by decide)) dX10_leavesCuttable_18 ?_
    refine AW.getI (fX10_126 hG).r rfl (ht.1 8 _ rfl) dX10_leavesCuttable_21 ?_
    refine AW.icmp_ge 61 dX10_leavesCuttable_24 (by decide) (fun h24 => ?_) (fun h24 => ?_)
    · have hke := k_ge h24 hx hm hk12 (by omega)
      subst hke
      refine AW.iconst 1 dX10_leavesCuttable_61 (by decide) ?_
      exact AW.zret dX10_leavesCuttable_62 rfl (by decide) (by decide) (by decide) (⟨by rw [ha]; rfl, rfl⟩)
    · have hlt := k_lt h24 hx hm hk12 (by omega)
      have hbx : vp_in x 6 := by rw [hx]; exact vp_in_nI (by omega) (by decide)
      have hcx : x.toNatClampNeg = k12 := by rw [hx]; exact nI_clamp (by omega)
      refine AW.iload_n dX10_leavesCuttable_27 rfl ?_
      refine AW.iload dX10_leavesCuttable_28 rfl ?_
      refine AW.callS (As := [.int c, .int x]) hG.2.2 (vX10_226 hG) (k_X10_has hK (d := 0) (Nat.le_refl _) c x) (by omega) dX10_leavesCuttable_30 rfl rfl (Nat.le_of_ble_eq_true rfl) (fun v w9 hq9 h09 => by obtain ⟨rfl, rfl⟩ := hq9; exact ⟨h09, rfl⟩) (by decide) (by decide) (fun _ _ hx => hx) (fun v30 w30 hq30 => ?_)
      obtain ⟨rfl, rfl⟩ := hq30
      refine AW.nam (fun x30 ex30 => ?_)
      refine AW.if_eq 55 dX10_leavesCuttable_33 (by decide) (fun h33 => ?_) (fun h33 => ?_)
      · rw [ex30, hx] at h33
        have q1 := kb_0.mp h33
        refine AW.inc (fun x55 => [some (.ref 0), some (.int b), some (.int c), some (.int x5), some (.int x55)]) dX10_leavesCuttable_55 rfl (by decide) rfl (fun _ => rfl) (fun x55 ex55 => ?_)
        refine AW.goto 12 dX10_leavesCuttable_58 (by decide) ?_
        exact ih12 (k12 + 1) (by omega) (by omega) _ (⟨k_inc (by assumption) hx, (show (f_lc (I (t + 1)) (I (t + 4)) (I 91) (I 92) (I (t + 14)) b c n k12 && _) = true by rw [ha]; simp [q1])⟩)
      · rw [ex30, hx] at h33
        have q1 := kb_1.mp h33
        refine AW.aload_n dX10_leavesCuttable_36 rfl ?_
        refine AW.getR (c' := 90) (fX10_54 hG).r rfl (hM.1 0 _ rfl) (hM.2 (0, 10, 90) (by decide)) dX10_leavesCuttable_37 ?_
        refine AW.aload_n dX10_leavesCuttable_40 rfl ?_
        refine AW.getR (fX10_19 hG).r rfl (hM.1 0 _ rfl) hRt dX10_leavesCuttable_41 ?_
        refine AW.iload_n dX10_leavesCuttable_44 rfl ?_
        refine AW.iload dX10_leavesCuttable_45 rfl ?_
        refine AW.callV (b := 90) (As := [.ref t, .int x5, .int x]) hG.2.2 (vX10_303 hG) (o90.1 0 _ rfl) (k_X1_keepsCutter hK (d := 3) (Nat.le_refl _) o90 ht (by assumption) (by assumption) x5 x (by assumption)) (by omega) dX10_leavesCuttable_47 rfl rfl (Nat.le_of_ble_eq_true rfl) (fun v w9 hq9 h09 => by obtain ⟨rfl, rfl⟩ := hq9; exact ⟨h09, rfl⟩) (by decide) (by decide) (fun _ _ hx => hx) (fun v47 w47 hq47 => ?_)
        obtain ⟨rfl, rfl⟩ := hq47
        refine AW.nam (fun x47 ex47 => ?_)
        refine AW.if_ne 55 dX10_leavesCuttable_50 (by decide) (fun h50 => ?_) (fun h50 => ?_)
        · rw [ex47, hcx, ex5] at h50
          have q2 := kb_1.mp h50
          refine AW.inc (fun x55 => [some (.ref 0), some (.int b), some (.int c), some (.int x5), some (.int x55)]) dX10_leavesCuttable_55 rfl (by decide) rfl (fun _ => rfl) (fun x55 ex55 => ?_)
          refine AW.goto 12 dX10_leavesCuttable_58 (by decide) ?_
          exact ih12 (k12 + 1) (by omega) (by omega) _ (⟨k_inc (by assumption) hx, (show (f_lc (I (t + 1)) (I (t + 4)) (I 91) (I 92) (I (t + 14)) b c n k12 && _) = true by rw [ha]; simp [q1, q2])⟩)
        · rw [ex47, hcx, ex5] at h50
          have q2 := kb_0.mp h50
          refine AW.iconst 0 dX10_leavesCuttable_53 (by decide) ?_
          exact AW.zret dX10_leavesCuttable_54 rfl (by decide) (by decide) (by decide) (⟨by rw [kb_f (b := f_lc (I (t + 1)) (I (t + 4)) (I 91) (I 92) (I (t + 14)) b c n m) (lall_no hlt (by rw [q1, q2]; rfl))], rfl⟩)
  exact L12 0 (by omega) _ (⟨nI_0.symm, rfl⟩)
theorem dX10_opensAll_0 : decode cX10_opensAll 0 = .ok (.aload_n 0, 1) := by decide +kernel
theorem dX10_opensAll_1 : decode cX10_opensAll 1 = .ok (.getfield 19, 3) := by decide +kernel
theorem dX10_opensAll_4 : decode cX10_opensAll 4 = .ok (.iload_n 1, 1) := by decide +kernel
theorem dX10_opensAll_5 : decode cX10_opensAll 5 = .ok (.invokevirtual 324, 3) := by decide +kernel
theorem dX10_opensAll_8 : decode cX10_opensAll 8 = .ok (.istore_n 3, 1) := by decide +kernel
theorem dX10_opensAll_9 : decode cX10_opensAll 9 = .ok (.iconst 0, 1) := by decide +kernel
theorem dX10_opensAll_10 : decode cX10_opensAll 10 = .ok (.istore 4, 2) := by decide +kernel
theorem dX10_opensAll_12 : decode cX10_opensAll 12 = .ok (.iload 4, 2) := by decide +kernel
theorem dX10_opensAll_14 : decode cX10_opensAll 14 = .ok (.aload_n 0, 1) := by decide +kernel
theorem dX10_opensAll_15 : decode cX10_opensAll 15 = .ok (.getfield 19, 3) := by decide +kernel
theorem dX10_opensAll_18 : decode cX10_opensAll 18 = .ok (.getfield 122, 3) := by decide +kernel
theorem dX10_opensAll_21 : decode cX10_opensAll 21 = .ok (.getfield 126, 3) := by decide +kernel
theorem dX10_opensAll_24 : decode cX10_opensAll 24 = .ok (.if_icmp .ge 35, 3) := by decide +kernel
theorem dX10_opensAll_27 : decode cX10_opensAll 27 = .ok (.iload_n 2, 1) := by decide +kernel
theorem dX10_opensAll_28 : decode cX10_opensAll 28 = .ok (.iload 4, 2) := by decide +kernel
theorem dX10_opensAll_30 : decode cX10_opensAll 30 = .ok (.invokestatic 226, 3) := by decide +kernel
theorem dX10_opensAll_33 : decode cX10_opensAll 33 = .ok (.ifCond .eq 20, 3) := by decide +kernel
theorem dX10_opensAll_36 : decode cX10_opensAll 36 = .ok (.aload_n 0, 1) := by decide +kernel
theorem dX10_opensAll_37 : decode cX10_opensAll 37 = .ok (.getfield 54, 3) := by decide +kernel
theorem dX10_opensAll_40 : decode cX10_opensAll 40 = .ok (.getfield 307, 3) := by decide +kernel
theorem dX10_opensAll_43 : decode cX10_opensAll 43 = .ok (.iload 4, 2) := by decide +kernel
theorem dX10_opensAll_45 : decode cX10_opensAll 45 = .ok (.iaload, 1) := by decide +kernel
theorem dX10_opensAll_46 : decode cX10_opensAll 46 = .ok (.iload_n 3, 1) := by decide +kernel
theorem dX10_opensAll_47 : decode cX10_opensAll 47 = .ok (.iand, 1) := by decide +kernel
theorem dX10_opensAll_48 : decode cX10_opensAll 48 = .ok (.ifCond .ne 5, 3) := by decide +kernel
theorem dX10_opensAll_51 : decode cX10_opensAll 51 = .ok (.iconst 0, 1) := by decide +kernel
theorem dX10_opensAll_52 : decode cX10_opensAll 52 = .ok (.ireturn, 1) := by decide +kernel
theorem dX10_opensAll_53 : decode cX10_opensAll 53 = .ok (.iinc 4 1, 3) := by decide +kernel
theorem dX10_opensAll_56 : decode cX10_opensAll 56 = .ok (.goto (-44), 3) := by decide +kernel
theorem dX10_opensAll_59 : decode cX10_opensAll 59 = .ok (.iconst 1, 1) := by decide +kernel
theorem dX10_opensAll_60 : decode cX10_opensAll 60 = .ok (.ireturn, 1) := by decide +kernel
set_option maxRecDepth 100000 in
set_option maxHeartbeats 4000000 in
theorem k_X10_opensAll {G : am_G} (hK : k_OK G) {d : Nat} (hd : 2 ≤ d) {sh : List (Nat ⊕ (Nat × Nat))} {I : Nat → Nat → Int32} {R : Nat → Nat → Option Nat} {L : Nat → Nat → Int64} {g : Nat} (hXS : k_XS G) {t : Nat} (hM : k_Main sh R) (hRt : R 0 1 = some t) (ht3 : t = 3 ∨ t = 22) {n m : Nat} (hn : I t 0 = nI n) (hn8 : n ≤ 8) (hm : I (t + 8) 0 = nI m) (hm6 : m ≤ 6) (h c : Int32) : AM G mX10_opensAll d [.ref 0, .int h, .int c] (sh, I, R, L, g) (fun v w => v = some (.int (kb (f_oa (I (t + 2)) (I 92) h c n m))) ∧ w = (sh, I, R, L, g)) (fun _ _ => False) := by
  have hG := hK.1
  have ht : k_Town sh R t := by rcases ht3 with rfl | rfl; exact kM_3 hM; exact kM_22 hM
  have o41 := kM_41 hM
  have o42 := kM_42 hM
  have o43 := kM_43 hM
  have o47 := kM_47 hM
  have o60 := kM_60 hM
  have o90 := kM_90 hM
  have o93 := kM_93 hM
  have o97 := kM_97 hM
  have o79 := kM_79 hM
  have o1 := kM_1 hM
  refine AM.of (n := 2) (by decide +kernel) (Nat.le_of_ble_eq_true rfl) ?_
  show AW G mX10_opensAll d (fun v w => v = some (.int (kb (f_oa (I (t + 2)) (I 92) h c n m))) ∧ w = (sh, I, R, L, g)) (fun _ _ => False) 0 [some (.ref 0), some (.int h), some (.int c), none, none] [] (sh, I, R, L, g) 0 0
  refine AW.aload_n dX10_opensAll_0 rfl ?_
  refine AW.getR (fX10_19 hG).r rfl (hM.1 0 _ rfl) hRt dX10_opensAll_1 ?_
  refine AW.iload_n dX10_opensAll_4 rfl ?_
  refine AW.callV (b := t) (As := [.int h]) hG.2.2 (vX10_324 hG) (ht.1 0 _ rfl) (k_X9_dwellers hK (d := 1) (Nat.le_refl _) ht (by assumption) (by assumption) h) (by omega) dX10_opensAll_5 rfl rfl (Nat.le_of_ble_eq_true rfl) (fun v w9 hq9 h09 => by obtain ⟨rfl, rfl⟩ := hq9; exact ⟨h09, rfl⟩) (by decide) (by decide) (fun _ _ hx => hx) (fun v5 w5 hq5 => ?_)
  obtain ⟨rfl, rfl⟩ := hq5
  refine AW.nam (fun x5 ex5 => ?_)
  refine AW.is_n [some (.ref 0), some (.int h), some (.int c), some (.int x5), none] dX10_opensAll_8 (by decide) rfl rfl ?_
  refine AW.iconst 0 dX10_opensAll_9 (by decide) ?_
  refine AW.is [some (.ref 0), some (.int h), some (.int c), some (.int x5), some (.int 0)] dX10_opensAll_10 (by decide) rfl rfl ?_
  have L12 : ∀ k12, k12 ≤ m → ∀ (x : Int32), (x = nI k12 ∧ f_oa (I (t + 2)) (I 92) h c n k12 = true) → AW G mX10_opensAll d (fun v w => v = some (.int (kb (f_oa (I (t + 2)) (I 92) h c n m))) ∧ w = (sh, I, R, L, g)) (fun _ _ => False) 12 [some (.ref 0), some (.int h), some (.int c), some (.int x5), some (.int x)] [] (sh, I, R, L, g) 0 0 := by
    refine am_rec m (fun k12 hk12 ih12 => ?_)
    intro x hi12
    obtain ⟨hx, ha⟩ := hi12
    refine AW.iload dX10_opensAll_12 rfl ?_
    refine AW.aload_n dX10_opensAll_14 rfl ?_
    refine AW.getR (fX10_19 hG).r rfl (hM.1 0 _ rfl) hRt dX10_opensAll_15 ?_
    refine AW.getR (c' := (t + 8)) (fX10_122 hG) rfl (ht.1 0 _ rfl) (ht.2 (0, 11, 8) (by decide)) dX10_opensAll_18 ?_
    refine AW.getI (fX10_126 hG).r rfl (ht.1 8 _ rfl) dX10_opensAll_21 ?_
    refine AW.icmp_ge 59 dX10_opensAll_24 (by decide) (fun h24 => ?_) (fun h24 => ?_)
    · have hke := k_ge h24 hx hm hk12 (by omega)
      subst hke
      refine AW.iconst 1 dX10_opensAll_59 (by decide) ?_
      exact AW.zret dX10_opensAll_60 rfl (by decide) (by decide) (by decide) (⟨by rw [ha]; rfl, rfl⟩)
    · have hlt := k_lt h24 hx hm hk12 (by omega)
      have hbx : vp_in x 6 := by rw [hx]; exact vp_in_nI (by omega) (by decide)
      have hcx : x.toNatClampNeg = k12 := by rw [hx]; exact nI_clamp (by omega)
      refine AW.iload_n dX10_opensAll_27 rfl ?_
      refine AW.iload dX10_opensAll_28 rfl ?_
      refine AW.callS (As := [.int c, .int x]) hG.2.2 (vX10_226 hG) (k_X10_has hK (d := 0) (Nat.le_refl _) c x) (by omega) dX10_opensAll_30 rfl rfl (Nat.le_of_ble_eq_true rfl) (fun v w9 hq9 h09 => by obtain ⟨rfl, rfl⟩ := hq9; exact ⟨h09, rfl⟩) (by decide) (by decide) (fun _ _ hx => hx) (fun v30 w30 hq30 => ?_)
      obtain ⟨rfl, rfl⟩ := hq30
      refine AW.nam (fun x30 ex30 => ?_)
      refine AW.if_eq 53 dX10_opensAll_33 (by decide) (fun h33 => ?_) (fun h33 => ?_)
      · rw [ex30, hx] at h33
        have q1 := kb_0.mp h33
        refine AW.inc (fun x53 => [some (.ref 0), some (.int h), some (.int c), some (.int x5), some (.int x53)]) dX10_opensAll_53 rfl (by decide) rfl (fun _ => rfl) (fun x53 ex53 => ?_)
        refine AW.goto 12 dX10_opensAll_56 (by decide) ?_
        exact ih12 (k12 + 1) (by omega) (by omega) _ (⟨k_inc (by assumption) hx, (show (f_oa (I (t + 2)) (I 92) h c n k12 && _) = true by rw [ha]; simp [q1])⟩)
      · rw [ex30, hx] at h33
        have q1 := kb_1.mp h33
        refine AW.aload_n dX10_opensAll_36 rfl ?_
        refine AW.getR (c' := 90) (fX10_54 hG).r rfl (hM.1 0 _ rfl) (hM.2 (0, 10, 90) (by decide)) dX10_opensAll_37 ?_
        refine AW.getR (c' := 92) (fX10_307 hG) rfl (o90.1 0 _ rfl) (o90.2 (0, 1, 2) (by decide)) dX10_opensAll_40 ?_
        refine AW.iload dX10_opensAll_43 rfl ?_
        refine AW.iald (o90.1 2 _ rfl) (by first | assumption | (unfold vp_in; decide) | exact vp_in_nI (by omega) (by decide)) dX10_opensAll_45 ?_
        refine AW.iload_n dX10_opensAll_46 rfl ?_
        refine AW.iand dX10_opensAll_47 ?_
        refine AW.if_ne 53 dX10_opensAll_48 (by decide) (fun h48 => ?_) (fun h48 => ?_)
        · rw [hcx, ex5] at h48
          refine AW.inc (fun x53 => [some (.ref 0), some (.int h), some (.int c), some (.int x5), some (.int x53)]) dX10_opensAll_53 rfl (by decide) rfl (fun _ => rfl) (fun x53 ex53 => ?_)
          refine AW.goto 12 dX10_opensAll_56 (by decide) ?_
          exact ih12 (k12 + 1) (by omega) (by omega) _ (⟨k_inc (by assumption) hx, (show (f_oa (I (t + 2)) (I 92) h c n k12 && _) = true by rw [ha]; simp [q1, h48])⟩)
        · rw [hcx, ex5] at h48
          refine AW.iconst 0 dX10_opensAll_51 (by decide) ?_
          exact AW.zret dX10_opensAll_52 rfl (by decide) (by decide) (by decide) (⟨by rw [kb_f (b := f_oa (I (t + 2)) (I 92) h c n m) (lall_no hlt (by simp [q1, h48]))], rfl⟩)
  exact L12 0 (by omega) _ (⟨nI_0.symm, rfl⟩)
theorem dX10_familiar_0 : decode cX10_familiar 0 = .ok (.aload_n 0, 1) := by decide +kernel
theorem dX10_familiar_1 : decode cX10_familiar 1 = .ok (.invokevirtual 147, 3) := by decide +kernel
theorem dX10_familiar_4 : decode cX10_familiar 4 = .ok (.aload_n 0, 1) := by decide +kernel
theorem dX10_familiar_5 : decode cX10_familiar 5 = .ok (.getfield 19, 3) := by decide +kernel
theorem dX10_familiar_8 : decode cX10_familiar 8 = .ok (.invokevirtual 258, 3) := by decide +kernel
theorem dX10_familiar_11 : decode cX10_familiar 11 = .ok (.istore_n 1, 1) := by decide +kernel
theorem dX10_familiar_12 : decode cX10_familiar 12 = .ok (.iconst 0, 1) := by decide +kernel
theorem dX10_familiar_13 : decode cX10_familiar 13 = .ok (.istore_n 2, 1) := by decide +kernel
theorem dX10_familiar_14 : decode cX10_familiar 14 = .ok (.iconst 0, 1) := by decide +kernel
theorem dX10_familiar_15 : decode cX10_familiar 15 = .ok (.istore_n 3, 1) := by decide +kernel
theorem dX10_familiar_16 : decode cX10_familiar 16 = .ok (.iload_n 3, 1) := by decide +kernel
theorem dX10_familiar_17 : decode cX10_familiar 17 = .ok (.aload_n 0, 1) := by decide +kernel
theorem dX10_familiar_18 : decode cX10_familiar 18 = .ok (.getfield 19, 3) := by decide +kernel
theorem dX10_familiar_21 : decode cX10_familiar 21 = .ok (.getfield 119, 3) := by decide +kernel
theorem dX10_familiar_24 : decode cX10_familiar 24 = .ok (.if_icmp .ge 32, 3) := by decide +kernel
theorem dX10_familiar_27 : decode cX10_familiar 27 = .ok (.aload_n 0, 1) := by decide +kernel
theorem dX10_familiar_28 : decode cX10_familiar 28 = .ok (.getfield 54, 3) := by decide +kernel
theorem dX10_familiar_31 : decode cX10_familiar 31 = .ok (.getfield 186, 3) := by decide +kernel
theorem dX10_familiar_34 : decode cX10_familiar 34 = .ok (.iload_n 3, 1) := by decide +kernel
theorem dX10_familiar_35 : decode cX10_familiar 35 = .ok (.iaload, 1) := by decide +kernel
theorem dX10_familiar_36 : decode cX10_familiar 36 = .ok (.iconst 1, 1) := by decide +kernel
theorem dX10_familiar_37 : decode cX10_familiar 37 = .ok (.iload_n 3, 1) := by decide +kernel
theorem dX10_familiar_38 : decode cX10_familiar 38 = .ok (.ishl, 1) := by decide +kernel
theorem dX10_familiar_39 : decode cX10_familiar 39 = .ok (.ior, 1) := by decide +kernel
theorem dX10_familiar_40 : decode cX10_familiar 40 = .ok (.iload_n 1, 1) := by decide +kernel
theorem dX10_familiar_41 : decode cX10_familiar 41 = .ok (.if_icmp .ne 9, 3) := by decide +kernel
theorem dX10_familiar_44 : decode cX10_familiar 44 = .ok (.iload_n 2, 1) := by decide +kernel
theorem dX10_familiar_45 : decode cX10_familiar 45 = .ok (.iconst 1, 1) := by decide +kernel
theorem dX10_familiar_46 : decode cX10_familiar 46 = .ok (.iload_n 3, 1) := by decide +kernel
theorem dX10_familiar_47 : decode cX10_familiar 47 = .ok (.ishl, 1) := by decide +kernel
theorem dX10_familiar_48 : decode cX10_familiar 48 = .ok (.ior, 1) := by decide +kernel
theorem dX10_familiar_49 : decode cX10_familiar 49 = .ok (.istore_n 2, 1) := by decide +kernel
theorem dX10_familiar_50 : decode cX10_familiar 50 = .ok (.iinc 3 1, 3) := by decide +kernel
theorem dX10_familiar_53 : decode cX10_familiar 53 = .ok (.goto (-37), 3) := by decide +kernel
theorem dX10_familiar_56 : decode cX10_familiar 56 = .ok (.iload_n 2, 1) := by decide +kernel
theorem dX10_familiar_57 : decode cX10_familiar 57 = .ok (.ireturn, 1) := by decide +kernel
set_option maxRecDepth 100000 in
set_option maxHeartbeats 4000000 in
theorem k_X10_familiar {G : am_G} (hK : k_OK G) {d : Nat} (hd : 4 ≤ d) {sh : List (Nat ⊕ (Nat × Nat))} {I : Nat → Nat → Int32} {R : Nat → Nat → Option Nat} {L : Nat → Nat → Int64} {g : Nat} (hXS : k_XS G) {t : Nat} (hM : k_Main sh R) (hRt : R 0 1 = some t) (ht3 : t = 3 ∨ t = 22) {n m : Nat} (hn : I t 0 = nI n) (hn8 : n ≤ 8) (hm : I (t + 8) 0 = nI m) (hm6 : m ≤ 6) : AM G mX10_familiar d [.ref 0] (sh, I, R, L, g) (fun v w => v = some (.int (f_fm ((f_look I 90 t 47 n m) 91) (nI (2 ^ n - 1)) n)) ∧ w = (sh, f_look I 90 t 47 n m, R, L, g)) (fun _ _ => False) := by
  have hG := hK.1
  have ht : k_Town sh R t := by rcases ht3 with rfl | rfl; exact kM_3 hM; exact kM_22 hM
  have o41 := kM_41 hM
  have o42 := kM_42 hM
  have o43 := kM_43 hM
  have o47 := kM_47 hM
  have o60 := kM_60 hM
  have o90 := kM_90 hM
  have o93 := kM_93 hM
  have o97 := kM_97 hM
  have o79 := kM_79 hM
  have o1 := kM_1 hM
  refine AM.of (n := 3) (by decide +kernel) (Nat.le_of_ble_eq_true rfl) ?_
  show AW G mX10_familiar d (fun v w => v = some (.int (f_fm ((f_look I 90 t 47 n m) 91) (nI (2 ^ n - 1)) n)) ∧ w = (sh, f_look I 90 t 47 n m, R, L, g)) (fun _ _ => False) 0 [some (.ref 0), none, none, none] [] (sh, I, R, L, g) 0 0
  refine AW.aload_n dX10_familiar_0 rfl ?_
  refine AW.callV (b := 0) (As := []) hG.2.2 (vX10_147 hG) (hM.1 0 _ rfl) (k_X10_lookAround hK (d := 3) (Nat.le_refl _) hXS hM hRt ht3 (by assumption) (by assumption) (by assumption) (by assumption)) (by omega) dX10_familiar_1 rfl rfl (Nat.le_of_ble_eq_true rfl) (fun v w9 hq9 h09 => by obtain ⟨rfl, rfl⟩ := hq9; exact ⟨h09, rfl⟩) (by decide) (by decide) (fun _ _ hx => hx) (fun v1 w1 hq1 => ?_)
  obtain ⟨rfl, rfl⟩ := hq1
  refine AW.namI (fun I1 eI1 => ?_)
  show AW G mX10_familiar d (fun v w => v = some (.int (f_fm ((f_look I 90 t 47 n m) 91) (nI (2 ^ n - 1)) n)) ∧ w = (sh, f_look I 90 t 47 n m, R, L, g)) (fun _ _ => False) 4 [some (.ref 0), none, none, none] [] (sh, I1, R, L, g) 0 0
  have hJn : I1 t 0 = nI n := by rw [eI1, f_look_K _ _ _ _ (by omega) (by omega)]; exact hn
  have hJm : I1 (t + 8) 0 = nI m := by rw [eI1, f_look_K _ _ _ _ (by omega) (by omega)]; exact hm
  refine AW.aload_n dX10_familiar_4 rfl ?_
  refine AW.getR (fX10_19 hG).r rfl (hM.1 0 _ rfl) hRt dX10_familiar_5 ?_
  refine AW.callV (b := t) (As := []) hG.2.2 (vX10_258 hG) (ht.1 0 _ rfl) (k_X9_allPeople hK (d := 0) (Nat.le_refl _) ht) (by omega) dX10_familiar_8 rfl rfl (Nat.le_of_ble_eq_true rfl) (fun v w9 hq9 h09 => by obtain ⟨rfl, rfl⟩ := hq9; exact ⟨h09, rfl⟩) (by decide) (by decide) (fun _ _ hx => hx) (fun v8 w8 hq8 => ?_)
  obtain ⟨rfl, rfl⟩ := hq8
  refine AW.nam (fun x8 ex8 => ?_)
  have hal : x8 = nI (2 ^ n - 1) := by rw [ex8, hJn]; exact k_all (by omega)
  refine AW.is_n [some (.ref 0), some (.int x8), none, none] dX10_familiar_11 (by decide) rfl rfl ?_
  refine AW.iconst 0 dX10_familiar_12 (by decide) ?_
  refine AW.is_n [some (.ref 0), some (.int x8), some (.int 0), none] dX10_familiar_13 (by decide) rfl rfl ?_
  refine AW.iconst 0 dX10_familiar_14 (by decide) ?_
  refine AW.is_n [some (.ref 0), some (.int x8), some (.int 0), some (.int 0)] dX10_familiar_15 (by decide) rfl rfl ?_
  have L16 : ∀ k16, k16 ≤ n → ∀ (a x : Int32), (x = nI k16 ∧ a = f_fm (I1 91) (nI (2 ^ n - 1)) k16) → AW G mX10_familiar d (fun v w => v = some (.int (f_fm ((f_look I 90 t 47 n m) 91) (nI (2 ^ n - 1)) n)) ∧ w = (sh, f_look I 90 t 47 n m, R, L, g)) (fun _ _ => False) 16 [some (.ref 0), some (.int x8), some (.int a), some (.int x)] [] (sh, I1, R, L, g) 0 0 := by
    refine am_rec n (fun k16 hk16 ih16 => ?_)
    intro a x hi16
    obtain ⟨hx, ha⟩ := hi16
    refine AW.iload_n dX10_familiar_16 rfl ?_
    refine AW.aload_n dX10_familiar_17 rfl ?_
    refine AW.getR (fX10_19 hG).r rfl (hM.1 0 _ rfl) hRt dX10_familiar_18 ?_
    refine AW.getI (fX10_119 hG).r rfl (ht.1 0 _ rfl) dX10_familiar_21 ?_
    refine AW.icmp_ge 56 dX10_familiar_24 (by decide) (fun h24 => ?_) (fun h24 => ?_)
    · have hke := k_ge h24 hx hJn hk16 (by omega)
      rw [hke] at ha
      refine AW.iload_n dX10_familiar_56 rfl ?_
      exact AW.iret dX10_familiar_57 rfl (by decide) (by decide) (⟨by rw [ha, eI1], by rw [eI1]⟩)
    · have hlt := k_lt h24 hx hJn hk16 (by omega)
      have hbx : vp_in x 8 := by rw [hx]; exact vp_in_nI (by omega) (by decide)
      have hcx : x.toNatClampNeg = k16 := by rw [hx]; exact nI_clamp (by omega)
      refine AW.aload_n dX10_familiar_27 rfl ?_
      refine AW.getR (c' := 90) (fX10_54 hG).r rfl (hM.1 0 _ rfl) (hM.2 (0, 10, 90) (by decide)) dX10_familiar_28 ?_
      refine AW.getR (c' := 91) (fX10_186 hG) rfl (o90.1 0 _ rfl) (o90.2 (0, 0, 1) (by decide)) dX10_familiar_31 ?_
      refine AW.iload_n dX10_familiar_34 rfl ?_
      refine AW.iald (o90.1 1 _ rfl) (by first | assumption | (unfold vp_in; decide) | exact vp_in_nI (by omega) (by decide)) dX10_familiar_35 ?_
      refine AW.iconst 1 dX10_familiar_36 (by decide) ?_
      refine AW.iload_n dX10_familiar_37 rfl ?_
      refine AW.ishl dX10_familiar_38 ?_
      refine AW.ior dX10_familiar_39 ?_
      refine AW.iload_n dX10_familiar_40 rfl ?_
      refine AW.icmp_ne 50 dX10_familiar_41 (by decide) (fun h41 => ?_) (fun h41 => ?_)
      · rw [hcx, hx, hal] at h41
        refine AW.inc (fun x50 => [some (.ref 0), some (.int x8), some (.int a), some (.int x50)]) dX10_familiar_50 rfl (by decide) rfl (fun _ => rfl) (fun x50 ex50 => ?_)
        refine AW.goto 16 dX10_familiar_53 (by decide) ?_
        exact ih16 (k16 + 1) (by omega) (by omega) _ _ (⟨k_inc (by assumption) hx, (show a = (if I1 91 k16 ||| ((1 : Int32) <<< (nI k16 &&& 31)) = nI (2 ^ n - 1) then _ else _) by rw [if_neg h41]; exact ha)⟩)
      · rw [hcx, hx, hal] at h41
        refine AW.iload_n dX10_familiar_44 rfl ?_
        refine AW.iconst 1 dX10_familiar_45 (by decide) ?_
        refine AW.iload_n dX10_familiar_46 rfl ?_
        refine AW.ishl dX10_familiar_47 ?_
        refine AW.ior dX10_familiar_48 ?_
        refine AW.nam (fun x49 ex49 => ?_)
        refine AW.is_n [some (.ref 0), some (.int x8), some (.int x49), some (.int x)] dX10_familiar_49 (by decide) rfl rfl ?_
        refine AW.inc (fun x50 => [some (.ref 0), some (.int x8), some (.int x49), some (.int x50)]) dX10_familiar_50 rfl (by decide) rfl (fun _ => rfl) (fun x50 ex50 => ?_)
        refine AW.goto 16 dX10_familiar_53 (by decide) ?_
        exact ih16 (k16 + 1) (by omega) (by omega) _ _ (⟨k_inc (by assumption) hx, (show x49 = (if I1 91 k16 ||| ((1 : Int32) <<< (nI k16 &&& 31)) = nI (2 ^ n - 1) then _ else _) by rw [if_pos h41, ex49, hx, ha]; try rfl)⟩)
  exact L16 0 (by omega) _ _ (⟨nI_0.symm, rfl⟩)
theorem dX10_ring_0 : decode cX10_ring 0 = .ok (.aload_n 0, 1) := by decide +kernel
theorem dX10_ring_1 : decode cX10_ring 1 = .ok (.invokevirtual 147, 3) := by decide +kernel
theorem dX10_ring_4 : decode cX10_ring 4 = .ok (.iconst 0, 1) := by decide +kernel
theorem dX10_ring_5 : decode cX10_ring 5 = .ok (.istore_n 1, 1) := by decide +kernel
theorem dX10_ring_6 : decode cX10_ring 6 = .ok (.aload_n 0, 1) := by decide +kernel
theorem dX10_ring_7 : decode cX10_ring 7 = .ok (.getfield 19, 3) := by decide +kernel
theorem dX10_ring_10 : decode cX10_ring 10 = .ok (.invokevirtual 258, 3) := by decide +kernel
theorem dX10_ring_13 : decode cX10_ring 13 = .ok (.istore_n 2, 1) := by decide +kernel
theorem dX10_ring_14 : decode cX10_ring 14 = .ok (.iconst 1, 1) := by decide +kernel
theorem dX10_ring_15 : decode cX10_ring 15 = .ok (.istore_n 3, 1) := by decide +kernel
theorem dX10_ring_16 : decode cX10_ring 16 = .ok (.iload_n 3, 1) := by decide +kernel
theorem dX10_ring_17 : decode cX10_ring 17 = .ok (.iload_n 2, 1) := by decide +kernel
theorem dX10_ring_18 : decode cX10_ring 18 = .ok (.if_icmp .gt 37, 3) := by decide +kernel
theorem dX10_ring_21 : decode cX10_ring 21 = .ok (.iload_n 3, 1) := by decide +kernel
theorem dX10_ring_22 : decode cX10_ring 22 = .ok (.invokestatic 253, 3) := by decide +kernel
theorem dX10_ring_25 : decode cX10_ring 25 = .ok (.iload_n 1, 1) := by decide +kernel
theorem dX10_ring_26 : decode cX10_ring 26 = .ok (.invokestatic 253, 3) := by decide +kernel
theorem dX10_ring_29 : decode cX10_ring 29 = .ok (.if_icmp .le 20, 3) := by decide +kernel
theorem dX10_ring_32 : decode cX10_ring 32 = .ok (.aload_n 0, 1) := by decide +kernel
theorem dX10_ring_33 : decode cX10_ring 33 = .ok (.getfield 54, 3) := by decide +kernel
theorem dX10_ring_36 : decode cX10_ring 36 = .ok (.aload_n 0, 1) := by decide +kernel
theorem dX10_ring_37 : decode cX10_ring 37 = .ok (.getfield 19, 3) := by decide +kernel
theorem dX10_ring_40 : decode cX10_ring 40 = .ok (.iload_n 3, 1) := by decide +kernel
theorem dX10_ring_41 : decode cX10_ring 41 = .ok (.invokevirtual 290, 3) := by decide +kernel
theorem dX10_ring_44 : decode cX10_ring 44 = .ok (.ifCond .eq 5, 3) := by decide +kernel
theorem dX10_ring_47 : decode cX10_ring 47 = .ok (.iload_n 3, 1) := by decide +kernel
theorem dX10_ring_48 : decode cX10_ring 48 = .ok (.istore_n 1, 1) := by decide +kernel
theorem dX10_ring_49 : decode cX10_ring 49 = .ok (.iinc 3 1, 3) := by decide +kernel
theorem dX10_ring_52 : decode cX10_ring 52 = .ok (.goto (-36), 3) := by decide +kernel
theorem dX10_ring_55 : decode cX10_ring 55 = .ok (.iload_n 1, 1) := by decide +kernel
theorem dX10_ring_56 : decode cX10_ring 56 = .ok (.ireturn, 1) := by decide +kernel
set_option maxRecDepth 100000 in
set_option maxHeartbeats 4000000 in
theorem k_X10_ring {G : am_G} (hK : k_OK G) {d : Nat} (hd : 4 ≤ d) {sh : List (Nat ⊕ (Nat × Nat))} {I : Nat → Nat → Int32} {R : Nat → Nat → Option Nat} {L : Nat → Nat → Int64} {g : Nat} (hXS : k_XS G) {t : Nat} (hM : k_Main sh R) (hRt : R 0 1 = some t) (ht3 : t = 3 ∨ t = 22) {n m : Nat} (hn : I t 0 = nI n) (hn8 : n ≤ 8) (hm : I (t + 8) 0 = nI m) (hm6 : m ≤ 6) : AM G mX10_ring d [.ref 0] (sh, I, R, L, g) (fun v w => v = some (.int (f_rg ((f_look I 90 t 47 n m) 91) n (2 ^ n))) ∧ w = (sh, f_look I 90 t 47 n m, R, L, g)) (fun _ _ => False) := by
  have hG := hK.1
  have ht : k_Town sh R t := by rcases ht3 with rfl | rfl; exact kM_3 hM; exact kM_22 hM
  have o41 := kM_41 hM
  have o42 := kM_42 hM
  have o43 := kM_43 hM
  have o47 := kM_47 hM
  have o60 := kM_60 hM
  have o90 := kM_90 hM
  have o93 := kM_93 hM
  have o97 := kM_97 hM
  have o79 := kM_79 hM
  have o1 := kM_1 hM
  refine AM.of (n := 3) (by decide +kernel) (Nat.le_of_ble_eq_true rfl) ?_
  show AW G mX10_ring d (fun v w => v = some (.int (f_rg ((f_look I 90 t 47 n m) 91) n (2 ^ n))) ∧ w = (sh, f_look I 90 t 47 n m, R, L, g)) (fun _ _ => False) 0 [some (.ref 0), none, none, none] [] (sh, I, R, L, g) 0 0
  refine AW.aload_n dX10_ring_0 rfl ?_
  refine AW.callV (b := 0) (As := []) hG.2.2 (vX10_147 hG) (hM.1 0 _ rfl) (k_X10_lookAround hK (d := 3) (Nat.le_refl _) hXS hM hRt ht3 (by assumption) (by assumption) (by assumption) (by assumption)) (by omega) dX10_ring_1 rfl rfl (Nat.le_of_ble_eq_true rfl) (fun v w9 hq9 h09 => by obtain ⟨rfl, rfl⟩ := hq9; exact ⟨h09, rfl⟩) (by decide) (by decide) (fun _ _ hx => hx) (fun v1 w1 hq1 => ?_)
  obtain ⟨rfl, rfl⟩ := hq1
  refine AW.namI (fun I1 eI1 => ?_)
  show AW G mX10_ring d (fun v w => v = some (.int (f_rg ((f_look I 90 t 47 n m) 91) n (2 ^ n))) ∧ w = (sh, f_look I 90 t 47 n m, R, L, g)) (fun _ _ => False) 4 [some (.ref 0), none, none, none] [] (sh, I1, R, L, g) 0 0
  have hJn : I1 t 0 = nI n := by rw [eI1, f_look_K _ _ _ _ (by omega) (by omega)]; exact hn
  have hJm : I1 (t + 8) 0 = nI m := by rw [eI1, f_look_K _ _ _ _ (by omega) (by omega)]; exact hm
  refine AW.iconst 0 dX10_ring_4 (by decide) ?_
  refine AW.is_n [some (.ref 0), some (.int 0), none, none] dX10_ring_5 (by decide) rfl rfl ?_
  refine AW.aload_n dX10_ring_6 rfl ?_
  refine AW.getR (fX10_19 hG).r rfl (hM.1 0 _ rfl) hRt dX10_ring_7 ?_
  refine AW.callV (b := t) (As := []) hG.2.2 (vX10_258 hG) (ht.1 0 _ rfl) (k_X9_allPeople hK (d := 0) (Nat.le_refl _) ht) (by omega) dX10_ring_10 rfl rfl (Nat.le_of_ble_eq_true rfl) (fun v w9 hq9 h09 => by obtain ⟨rfl, rfl⟩ := hq9; exact ⟨h09, rfl⟩) (by decide) (by decide) (fun _ _ hx => hx) (fun v10 w10 hq10 => ?_)
  obtain ⟨rfl, rfl⟩ := hq10
  refine AW.nam (fun x10 ex10 => ?_)
  have hal : x10 = nI (2 ^ n - 1) := by rw [ex10, hJn]; exact k_all (by omega)
  have hpw := k_pow1 (n := n) (by omega)
  refine AW.is_n [some (.ref 0), some (.int 0), some (.int x10), none] dX10_ring_13 (by decide) rfl rfl ?_
  refine AW.iconst 1 dX10_ring_14 (by decide) ?_
  refine AW.is_n [some (.ref 0), some (.int 0), some (.int x10), some (.int 1)] dX10_ring_15 (by decide) rfl rfl ?_
  have L16 : ∀ k16, k16 ≤ (2 ^ n) → ∀ (a x : Int32), (1 ≤ k16 ∧ x = nI k16 ∧ a = f_rg (I1 91) n k16) → AW G mX10_ring d (fun v w => v = some (.int (f_rg ((f_look I 90 t 47 n m) 91) n (2 ^ n))) ∧ w = (sh, f_look I 90 t 47 n m, R, L, g)) (fun _ _ => False) 16 [some (.ref 0), some (.int a), some (.int x10), some (.int x)] [] (sh, I1, R, L, g) 0 0 := by
    refine am_rec ((2 ^ n)) (fun k16 hk16 ih16 => ?_)
    intro a x hi16
    obtain ⟨h1k, hx, ha⟩ := hi16
    refine AW.iload_n dX10_ring_16 rfl ?_
    refine AW.iload_n dX10_ring_17 rfl ?_
    refine AW.icmp_gt 55 dX10_ring_18 (by decide) (fun h18 => ?_) (fun h18 => ?_)
    · rw [hx, hal] at h18
      have hke : k16 = 2 ^ n := by have := (nI_ltI (by omega) (by omega)).mp h18; omega
      rw [hke] at ha
      refine AW.iload_n dX10_ring_55 rfl ?_
      exact AW.iret dX10_ring_56 rfl (by decide) (by decide) (⟨by rw [ha, eI1], by rw [eI1]⟩)
    · rw [hx, hal] at h18
      have hlt : k16 < 2 ^ n := by
        rcases Nat.lt_or_ge k16 (2 ^ n) with h | h
        · exact h
        · exact absurd ((nI_ltI (by omega) (by omega)).mpr (by omega)) h18
      refine AW.iload_n dX10_ring_21 rfl ?_
      refine AW.callS (As := [.int x]) hG.2.2 (vX10_253 hG) (k_bitCount hK (d := 0) (Nat.le_refl _) x) (by omega) dX10_ring_22 rfl rfl (Nat.le_of_ble_eq_true rfl) (fun v w9 hq9 h09 => by obtain ⟨rfl, rfl⟩ := hq9; exact ⟨h09, rfl⟩) (by decide) (by decide) (fun _ _ hx => hx) (fun v22 w22 hq22 => ?_)
      obtain ⟨rfl, rfl⟩ := hq22
      refine AW.nam (fun x22 ex22 => ?_)
      refine AW.iload_n dX10_ring_25 rfl ?_
      refine AW.callS (As := [.int a]) hG.2.2 (vX10_253 hG) (k_bitCount hK (d := 0) (Nat.le_refl _) a) (by omega) dX10_ring_26 rfl rfl (Nat.le_of_ble_eq_true rfl) (fun v w9 hq9 h09 => by obtain ⟨rfl, rfl⟩ := hq9; exact ⟨h09, rfl⟩) (by decide) (by decide) (fun _ _ hx => hx) (fun v26 w26 hq26 => ?_)
      obtain ⟨rfl, rfl⟩ := hq26
      refine AW.nam (fun x26 ex26 => ?_)
      refine AW.icmp_le 49 dX10_ring_29 (by decide) (fun h29 => ?_) (fun h29 => ?_)
      · rw [ex22, ex26, ha, hx] at h29
        refine AW.inc (fun x49 => [some (.ref 0), some (.int a), some (.int x10), some (.int x49)]) dX10_ring_49 rfl (by decide) rfl (fun _ => rfl) (fun x49 ex49 => ?_)
        refine AW.goto 16 dX10_ring_52 (by decide) ?_
        exact ih16 (k16 + 1) (by omega) (by omega) _ _ (⟨by omega, k_inc (by assumption) hx, (show _ = (if k16 = 0 then _ else if _ then _ else _) by rw [if_neg (by omega), if_neg (fun h => h.1 h29)]; exact ha)⟩)
      · rw [ex22, ex26, ha, hx] at h29
        refine AW.aload_n dX10_ring_32 rfl ?_
        refine AW.getR (c' := 90) (fX10_54 hG).r rfl (hM.1 0 _ rfl) (hM.2 (0, 10, 90) (by decide)) dX10_ring_33 ?_
        refine AW.aload_n dX10_ring_36 rfl ?_
        refine AW.getR (fX10_19 hG).r rfl (hM.1 0 _ rfl) hRt dX10_ring_37 ?_
        refine AW.iload_n dX10_ring_40 rfl ?_
        refine AW.callV (b := 90) (As := [.ref t, .int x]) hG.2.2 (vX10_290 hG) (o90.1 0 _ rfl) (k_X1_allStrangers hK (d := 1) (Nat.le_refl _) o90 ht (by assumption) (by assumption) x) (by omega) dX10_ring_41 rfl rfl (Nat.le_of_ble_eq_true rfl) (fun v w9 hq9 h09 => by obtain ⟨rfl, rfl⟩ := hq9; exact ⟨h09, rfl⟩) (by decide) (by decide) (fun _ _ hx => hx) (fun v41 w41 hq41 => ?_)
        obtain ⟨rfl, rfl⟩ := hq41
        refine AW.nam (fun x41 ex41 => ?_)
        refine AW.if_eq 49 dX10_ring_44 (by decide) (fun h44 => ?_) (fun h44 => ?_)
        · rw [ex41, hx] at h44
          have q1 := kb_0.mp h44
          refine AW.inc (fun x49 => [some (.ref 0), some (.int a), some (.int x10), some (.int x49)]) dX10_ring_49 rfl (by decide) rfl (fun _ => rfl) (fun x49 ex49 => ?_)
          refine AW.goto 16 dX10_ring_52 (by decide) ?_
          exact ih16 (k16 + 1) (by omega) (by omega) _ _ (⟨by omega, k_inc (by assumption) hx, (show _ = (if k16 = 0 then _ else if _ then _ else _) by rw [if_neg (by omega), if_neg (fun h => by rw [q1] at h; exact absurd h.2 (by decide))]; exact ha)⟩)
        · rw [ex41, hx] at h44
          have q1 := kb_1.mp h44
          refine AW.iload_n dX10_ring_47 rfl ?_
          refine AW.is_n [some (.ref 0), some (.int x), some (.int x10), some (.int x)] dX10_ring_48 (by decide) rfl rfl ?_
          refine AW.inc (fun x49 => [some (.ref 0), some (.int x), some (.int x10), some (.int x49)]) dX10_ring_49 rfl (by decide) rfl (fun _ => rfl) (fun x49 ex49 => ?_)
          refine AW.goto 16 dX10_ring_52 (by decide) ?_
          exact ih16 (k16 + 1) (by omega) (by omega) _ _ (⟨by omega, k_inc (by assumption) hx, (show _ = (if k16 = 0 then _ else if _ then _ else _) by rw [if_neg (by omega), if_pos ⟨h29, q1⟩]; exact hx)⟩)
  exact L16 1 (by omega) _ _ (⟨Nat.le_refl _, rfl, rfl⟩)
theorem dX10_help_0 : decode cX10_help 0 = .ok (.aload_n 0, 1) := by decide +kernel
theorem dX10_help_1 : decode cX10_help 1 = .ok (.invokevirtual 147, 3) := by decide +kernel
theorem dX10_help_4 : decode cX10_help 4 = .ok (.aload_n 0, 1) := by decide +kernel
theorem dX10_help_5 : decode cX10_help 5 = .ok (.getfield 33, 3) := by decide +kernel
theorem dX10_help_8 : decode cX10_help 8 = .ok (.getfield 110, 3) := by decide +kernel
theorem dX10_help_11 : decode cX10_help 11 = .ok (.getfield 114, 3) := by decide +kernel
theorem dX10_help_14 : decode cX10_help 14 = .ok (.aload_n 0, 1) := by decide +kernel
theorem dX10_help_15 : decode cX10_help 15 = .ok (.getfield 19, 3) := by decide +kernel
theorem dX10_help_18 : decode cX10_help 18 = .ok (.getfield 122, 3) := by decide +kernel
theorem dX10_help_21 : decode cX10_help 21 = .ok (.invokevirtual 310, 3) := by decide +kernel
theorem dX10_help_24 : decode cX10_help 24 = .ok (.istore_n 1, 1) := by decide +kernel
theorem dX10_help_25 : decode cX10_help 25 = .ok (.iconst 0, 1) := by decide +kernel
theorem dX10_help_26 : decode cX10_help 26 = .ok (.istore_n 2, 1) := by decide +kernel
theorem dX10_help_27 : decode cX10_help 27 = .ok (.iconst 1, 1) := by decide +kernel
theorem dX10_help_28 : decode cX10_help 28 = .ok (.istore_n 3, 1) := by decide +kernel
theorem dX10_help_29 : decode cX10_help 29 = .ok (.iload_n 3, 1) := by decide +kernel
theorem dX10_help_30 : decode cX10_help 30 = .ok (.iconst 1, 1) := by decide +kernel
theorem dX10_help_31 : decode cX10_help 31 = .ok (.aload_n 0, 1) := by decide +kernel
theorem dX10_help_32 : decode cX10_help 32 = .ok (.getfield 19, 3) := by decide +kernel
theorem dX10_help_35 : decode cX10_help 35 = .ok (.getfield 122, 3) := by decide +kernel
theorem dX10_help_38 : decode cX10_help 38 = .ok (.getfield 126, 3) := by decide +kernel
theorem dX10_help_41 : decode cX10_help 41 = .ok (.ishl, 1) := by decide +kernel
theorem dX10_help_42 : decode cX10_help 42 = .ok (.if_icmp .ge 39, 3) := by decide +kernel
theorem dX10_help_45 : decode cX10_help 45 = .ok (.iload_n 3, 1) := by decide +kernel
theorem dX10_help_46 : decode cX10_help 46 = .ok (.iload_n 1, 1) := by decide +kernel
theorem dX10_help_47 : decode cX10_help 47 = .ok (.iconst (-1), 1) := by decide +kernel
theorem dX10_help_48 : decode cX10_help 48 = .ok (.ixor, 1) := by decide +kernel
theorem dX10_help_49 : decode cX10_help 49 = .ok (.iand, 1) := by decide +kernel
theorem dX10_help_50 : decode cX10_help 50 = .ok (.ifCond .ne 25, 3) := by decide +kernel
theorem dX10_help_53 : decode cX10_help 53 = .ok (.iload_n 3, 1) := by decide +kernel
theorem dX10_help_54 : decode cX10_help 54 = .ok (.invokestatic 253, 3) := by decide +kernel
theorem dX10_help_57 : decode cX10_help 57 = .ok (.aload_n 0, 1) := by decide +kernel
theorem dX10_help_58 : decode cX10_help 58 = .ok (.iload_n 3, 1) := by decide +kernel
theorem dX10_help_59 : decode cX10_help 59 = .ok (.invokevirtual 313, 3) := by decide +kernel
theorem dX10_help_62 : decode cX10_help 62 = .ok (.invokestatic 253, 3) := by decide +kernel
theorem dX10_help_65 : decode cX10_help 65 = .ok (.isub, 1) := by decide +kernel
theorem dX10_help_66 : decode cX10_help 66 = .ok (.istore 4, 2) := by decide +kernel
theorem dX10_help_68 : decode cX10_help 68 = .ok (.iload_n 2, 1) := by decide +kernel
theorem dX10_help_69 : decode cX10_help 69 = .ok (.iload 4, 2) := by decide +kernel
theorem dX10_help_71 : decode cX10_help 71 = .ok (.invokestatic 316, 3) := by decide +kernel
theorem dX10_help_74 : decode cX10_help 74 = .ok (.istore_n 2, 1) := by decide +kernel
theorem dX10_help_75 : decode cX10_help 75 = .ok (.iinc 3 1, 3) := by decide +kernel
theorem dX10_help_78 : decode cX10_help 78 = .ok (.goto (-49), 3) := by decide +kernel
theorem dX10_help_81 : decode cX10_help 81 = .ok (.iload_n 2, 1) := by decide +kernel
theorem dX10_help_82 : decode cX10_help 82 = .ok (.ireturn, 1) := by decide +kernel
set_option maxRecDepth 100000 in
set_option maxHeartbeats 4000000 in
theorem k_X10_help {G : am_G} (hK : k_OK G) {d : Nat} (hd : 4 ≤ d) {sh : List (Nat ⊕ (Nat × Nat))} {I : Nat → Nat → Int32} {R : Nat → Nat → Option Nat} {L : Nat → Nat → Int64} {g : Nat} (hXS : k_XS G) {t : Nat} (hM : k_Main sh R) (hRt : R 0 1 = some t) (ht3 : t = 3 ∨ t = 22) {n m : Nat} (hn : I t 0 = nI n) (hn8 : n ≤ 8) (hm : I (t + 8) 0 = nI m) (hm6 : m ≤ 6) : AM G mX10_help d [.ref 0] (sh, I, R, L, g) (fun v w => v = some (.int (f_hp (f_ub (I 49) m) ((f_look I 90 t 47 n m) 92) m (2 ^ m))) ∧ w = (sh, f_look I 90 t 47 n m, R, L, g)) (fun _ _ => False) := by
  have hG := hK.1
  have ht : k_Town sh R t := by rcases ht3 with rfl | rfl; exact kM_3 hM; exact kM_22 hM
  have o41 := kM_41 hM
  have o42 := kM_42 hM
  have o43 := kM_43 hM
  have o47 := kM_47 hM
  have o60 := kM_60 hM
  have o90 := kM_90 hM
  have o93 := kM_93 hM
  have o97 := kM_97 hM
  have o79 := kM_79 hM
  have o1 := kM_1 hM
  refine AM.of (n := 4) (by decide +kernel) (Nat.le_of_ble_eq_true rfl) ?_
  show AW G mX10_help d (fun v w => v = some (.int (f_hp (f_ub (I 49) m) ((f_look I 90 t 47 n m) 92) m (2 ^ m))) ∧ w = (sh, f_look I 90 t 47 n m, R, L, g)) (fun _ _ => False) 0 [some (.ref 0), none, none, none, none] [] (sh, I, R, L, g) 0 0
  refine AW.aload_n dX10_help_0 rfl ?_
  refine AW.callV (b := 0) (As := []) hG.2.2 (vX10_147 hG) (hM.1 0 _ rfl) (k_X10_lookAround hK (d := 3) (Nat.le_refl _) hXS hM hRt ht3 (by assumption) (by assumption) (by assumption) (by assumption)) (by omega) dX10_help_1 rfl rfl (Nat.le_of_ble_eq_true rfl) (fun v w9 hq9 h09 => by obtain ⟨rfl, rfl⟩ := hq9; exact ⟨h09, rfl⟩) (by decide) (by decide) (fun _ _ hx => hx) (fun v1 w1 hq1 => ?_)
  obtain ⟨rfl, rfl⟩ := hq1
  refine AW.namI (fun I1 eI1 => ?_)
  show AW G mX10_help d (fun v w => v = some (.int (f_hp (f_ub (I 49) m) ((f_look I 90 t 47 n m) 92) m (2 ^ m))) ∧ w = (sh, f_look I 90 t 47 n m, R, L, g)) (fun _ _ => False) 4 [some (.ref 0), none, none, none, none] [] (sh, I1, R, L, g) 0 0
  have hJn : I1 t 0 = nI n := by rw [eI1, f_look_K _ _ _ _ (by omega) (by omega)]; exact hn
  have hJm : I1 (t + 8) 0 = nI m := by rw [eI1, f_look_K _ _ _ _ (by omega) (by omega)]; exact hm
  have q49 : I1 49 = I 49 := by rw [eI1, f_look_K _ _ _ _ (by omega) (by omega)]
  have hpw := k_pow1 (n := m) (by omega)
  refine AW.aload_n dX10_help_4 rfl ?_
  refine AW.getR (c' := 41) (fX10_33 hG).r rfl (hM.1 0 _ rfl) (hM.2 (0, 4, 41) (by decide)) dX10_help_5 ?_
  refine AW.getR (c' := 42) (fX10_110 hG) rfl (o41.1 0 _ rfl) (o41.2 (0, 0, 1) (by decide)) dX10_help_8 ?_
  refine AW.getR (c' := 47) (fX10_114 hG) rfl (o42.1 0 _ rfl) (o42.2 (0, 1, 5) (by decide)) dX10_help_11 ?_
  refine AW.aload_n dX10_help_14 rfl ?_
  refine AW.getR (fX10_19 hG).r rfl (hM.1 0 _ rfl) hRt dX10_help_15 ?_
  refine AW.getR (c' := (t + 8)) (fX10_122 hG) rfl (ht.1 0 _ rfl) (ht.2 (0, 11, 8) (by decide)) dX10_help_18 ?_
  refine AW.callV (b := 47) (As := [.ref (t + 8)]) hG.2.2 (vX10_310 hG) (o47.1 0 _ rfl) (k_X2_uncutBits hK (d := 0) (Nat.le_refl _) o47 (k_sub_Town_8 ht) (by first | assumption) (by first | assumption)) (by omega) dX10_help_21 rfl rfl (Nat.le_of_ble_eq_true rfl) (fun v w9 hq9 h09 => by obtain ⟨rfl, rfl⟩ := hq9; exact ⟨h09, rfl⟩) (by decide) (by decide) (fun _ _ hx => hx) (fun v21 w21 hq21 => ?_)
  obtain ⟨rfl, rfl⟩ := hq21
  refine AW.nam (fun x21 ex21 => ?_)
  refine AW.is_n [some (.ref 0), some (.int x21), none, none, none] dX10_help_24 (by decide) rfl rfl ?_
  refine AW.iconst 0 dX10_help_25 (by decide) ?_
  refine AW.is_n [some (.ref 0), some (.int x21), some (.int 0), none, none] dX10_help_26 (by decide) rfl rfl ?_
  refine AW.iconst 1 dX10_help_27 (by decide) ?_
  refine AW.is_n [some (.ref 0), some (.int x21), some (.int 0), some (.int 1), none] dX10_help_28 (by decide) rfl rfl ?_
  have L29 : ∀ k29, k29 ≤ (2 ^ m) → ∀ (a x : Int32), (1 ≤ k29 ∧ x = nI k29 ∧ a = f_hp (f_ub (I 49) m) (I1 92) m k29) → AW G mX10_help d (fun v w => v = some (.int (f_hp (f_ub (I 49) m) ((f_look I 90 t 47 n m) 92) m (2 ^ m))) ∧ w = (sh, f_look I 90 t 47 n m, R, L, g)) (fun _ _ => False) 29 [some (.ref 0), some (.int x21), some (.int a), some (.int x), none] [] (sh, I1, R, L, g) 0 0 := by
    refine am_rec ((2 ^ m)) (fun k29 hk29 ih29 => ?_)
    intro a x hi29
    obtain ⟨h1k, hx, ha⟩ := hi29
    refine AW.iload_n dX10_help_29 rfl ?_
    refine AW.iconst 1 dX10_help_30 (by decide) ?_
    refine AW.aload_n dX10_help_31 rfl ?_
    refine AW.getR (fX10_19 hG).r rfl (hM.1 0 _ rfl) hRt dX10_help_32 ?_
    refine AW.getR (c' := (t + 8)) (fX10_122 hG) rfl (ht.1 0 _ rfl) (ht.2 (0, 11, 8) (by decide)) dX10_help_35 ?_
    refine AW.getI (fX10_126 hG).r rfl (ht.1 8 _ rfl) dX10_help_38 ?_
    refine AW.ishl dX10_help_41 ?_
    refine AW.icmp_ge 81 dX10_help_42 (by decide) (fun h42 => ?_) (fun h42 => ?_)
    · rw [hx, hJm, k_pow (by omega)] at h42
      have hke : k29 = 2 ^ m := by have := (nI_leI (by omega) (by omega)).mp h42; omega
      rw [hke] at ha
      refine AW.iload_n dX10_help_81 rfl ?_
      exact AW.iret dX10_help_82 rfl (by decide) (by decide) (⟨by rw [ha, eI1], by rw [eI1]⟩)
    · rw [hx, hJm, k_pow (by omega)] at h42
      have hlt : k29 < 2 ^ m := by
        rcases Nat.lt_or_ge k29 (2 ^ m) with h | h
        · exact h
        · exact absurd ((nI_leI (by omega) (by omega)).mpr h) h42
      refine AW.iload_n dX10_help_45 rfl ?_
      refine AW.iload_n dX10_help_46 rfl ?_
      refine AW.iconst (-1) dX10_help_47 (by decide) ?_
      refine AW.ixor dX10_help_48 ?_
      refine AW.iand dX10_help_49 ?_
      refine AW.if_ne 75 dX10_help_50 (by decide) (fun h50 => ?_) (fun h50 => ?_)
      · rw [ex21, q49, hx] at h50
        refine AW.inc (fun x75 => [some (.ref 0), some (.int x21), some (.int a), some (.int x75), none]) dX10_help_75 rfl (by decide) rfl (fun _ => rfl) (fun x75 ex75 => ?_)
        refine AW.goto 29 dX10_help_78 (by decide) ?_
        refine AW.mask [4] [some (.ref 0), some (.int x21), some (.int a), some (.int x75), none] rfl ?_
        exact ih29 (k29 + 1) (by omega) (by omega) _ _ (⟨by omega, k_inc (by assumption) hx, (show _ = (if k29 = 0 then _ else if _ then _ else _) by rw [if_neg (by omega), if_neg h50]; exact ha)⟩)
      · rw [ex21, q49, hx] at h50
        refine AW.iload_n dX10_help_53 rfl ?_
        refine AW.callS (As := [.int x]) hG.2.2 (vX10_253 hG) (k_bitCount hK (d := 0) (Nat.le_refl _) x) (by omega) dX10_help_54 rfl rfl (Nat.le_of_ble_eq_true rfl) (fun v w9 hq9 h09 => by obtain ⟨rfl, rfl⟩ := hq9; exact ⟨h09, rfl⟩) (by decide) (by decide) (fun _ _ hx => hx) (fun v54 w54 hq54 => ?_)
        obtain ⟨rfl, rfl⟩ := hq54
        refine AW.nam (fun x54 ex54 => ?_)
        refine AW.aload_n dX10_help_57 rfl ?_
        refine AW.iload_n dX10_help_58 rfl ?_
        refine AW.callV (b := 0) (As := [.int x]) hG.2.2 (vX10_313 hG) (hM.1 0 _ rfl) (k_X10_cuttersOfAny hK (d := 1) (Nat.le_refl _) hXS hM hRt ht3 (by assumption) (by assumption) x) (by omega) dX10_help_59 rfl rfl (Nat.le_of_ble_eq_true rfl) (fun v w9 hq9 h09 => by obtain ⟨rfl, rfl⟩ := hq9; exact ⟨h09, rfl⟩) (by decide) (by decide) (fun _ _ hx => hx) (fun v59 w59 hq59 => ?_)
        obtain ⟨rfl, rfl⟩ := hq59
        refine AW.nam (fun x59 ex59 => ?_)
        refine AW.callS (As := [.int x59]) hG.2.2 (vX10_253 hG) (k_bitCount hK (d := 0) (Nat.le_refl _) x59) (by omega) dX10_help_62 rfl rfl (Nat.le_of_ble_eq_true rfl) (fun v w9 hq9 h09 => by obtain ⟨rfl, rfl⟩ := hq9; exact ⟨h09, rfl⟩) (by decide) (by decide) (fun _ _ hx => hx) (fun v62 w62 hq62 => ?_)
        obtain ⟨rfl, rfl⟩ := hq62
        refine AW.nam (fun x62 ex62 => ?_)
        refine AW.isub dX10_help_65 ?_
        refine AW.nam (fun x66 ex66 => ?_)
        refine AW.is [some (.ref 0), some (.int x21), some (.int a), some (.int x), some (.int x66)] dX10_help_66 (by decide) rfl rfl ?_
        refine AW.iload_n dX10_help_68 rfl ?_
        refine AW.iload dX10_help_69 rfl ?_
        refine AW.mmax (k_c hG 835 (by decide +kernel) (by decide +kernel)) (k_mmax hG) dX10_help_71 (by omega) (Nat.le_of_ble_eq_true rfl) (by decide) (by decide) ?_
        refine AW.nam (fun x74 ex74 => ?_)
        refine AW.is_n [some (.ref 0), some (.int x21), some (.int x74), some (.int x), some (.int x66)] dX10_help_74 (by decide) rfl rfl ?_
        refine AW.inc (fun x75 => [some (.ref 0), some (.int x21), some (.int x74), some (.int x75), some (.int x66)]) dX10_help_75 rfl (by decide) rfl (fun _ => rfl) (fun x75 ex75 => ?_)
        refine AW.goto 29 dX10_help_78 (by decide) ?_
        refine AW.mask [4] [some (.ref 0), some (.int x21), some (.int x74), some (.int x75), none] rfl ?_
        exact ih29 (k29 + 1) (by omega) (by omega) _ _ (⟨by omega, k_inc (by assumption) hx, (show _ = (if k29 = 0 then _ else if _ then _ else _) by rw [if_neg (by omega), if_pos h50, ex74, ex66, ex54, ex62, ex59, hx, ha]; rfl)⟩)
  exact L29 1 (by omega) _ _ (⟨Nat.le_refl _, rfl, rfl⟩)
theorem dX10_doors_0 : decode cX10_doors 0 = .ok (.aload_n 0, 1) := by decide +kernel
theorem dX10_doors_1 : decode cX10_doors 1 = .ok (.invokevirtual 147, 3) := by decide +kernel
theorem dX10_doors_4 : decode cX10_doors 4 = .ok (.aload_n 0, 1) := by decide +kernel
theorem dX10_doors_5 : decode cX10_doors 5 = .ok (.invokevirtual 294, 3) := by decide +kernel
theorem dX10_doors_8 : decode cX10_doors 8 = .ok (.istore_n 1, 1) := by decide +kernel
theorem dX10_doors_9 : decode cX10_doors 9 = .ok (.sipush 1023, 3) := by decide +kernel
theorem dX10_doors_12 : decode cX10_doors 12 = .ok (.istore_n 2, 1) := by decide +kernel
theorem dX10_doors_13 : decode cX10_doors 13 = .ok (.iconst 0, 1) := by decide +kernel
theorem dX10_doors_14 : decode cX10_doors 14 = .ok (.istore_n 3, 1) := by decide +kernel
theorem dX10_doors_15 : decode cX10_doors 15 = .ok (.iload_n 3, 1) := by decide +kernel
theorem dX10_doors_16 : decode cX10_doors 16 = .ok (.sipush 1024, 3) := by decide +kernel
theorem dX10_doors_19 : decode cX10_doors 19 = .ok (.if_icmp .ge 31, 3) := by decide +kernel
theorem dX10_doors_22 : decode cX10_doors 22 = .ok (.iload_n 3, 1) := by decide +kernel
theorem dX10_doors_23 : decode cX10_doors 23 = .ok (.invokestatic 253, 3) := by decide +kernel
theorem dX10_doors_26 : decode cX10_doors 26 = .ok (.iload_n 2, 1) := by decide +kernel
theorem dX10_doors_27 : decode cX10_doors 27 = .ok (.invokestatic 253, 3) := by decide +kernel
theorem dX10_doors_30 : decode cX10_doors 30 = .ok (.if_icmp .ge 14, 3) := by decide +kernel
theorem dX10_doors_33 : decode cX10_doors 33 = .ok (.aload_n 0, 1) := by decide +kernel
theorem dX10_doors_34 : decode cX10_doors 34 = .ok (.iload_n 3, 1) := by decide +kernel
theorem dX10_doors_35 : decode cX10_doors 35 = .ok (.iload_n 1, 1) := by decide +kernel
theorem dX10_doors_36 : decode cX10_doors 36 = .ok (.invokevirtual 321, 3) := by decide +kernel
theorem dX10_doors_39 : decode cX10_doors 39 = .ok (.ifCond .eq 5, 3) := by decide +kernel
theorem dX10_doors_42 : decode cX10_doors 42 = .ok (.iload_n 3, 1) := by decide +kernel
theorem dX10_doors_43 : decode cX10_doors 43 = .ok (.istore_n 2, 1) := by decide +kernel
theorem dX10_doors_44 : decode cX10_doors 44 = .ok (.iinc 3 1, 3) := by decide +kernel
theorem dX10_doors_47 : decode cX10_doors 47 = .ok (.goto (-32), 3) := by decide +kernel
theorem dX10_doors_50 : decode cX10_doors 50 = .ok (.iload_n 2, 1) := by decide +kernel
theorem dX10_doors_51 : decode cX10_doors 51 = .ok (.ireturn, 1) := by decide +kernel
set_option maxRecDepth 100000 in
set_option maxHeartbeats 4000000 in
theorem k_X10_doors {G : am_G} (hK : k_OK G) {d : Nat} (hd : 4 ≤ d) {sh : List (Nat ⊕ (Nat × Nat))} {I : Nat → Nat → Int32} {R : Nat → Nat → Option Nat} {L : Nat → Nat → Int64} {g : Nat} (hXS : k_XS G) {t : Nat} (hM : k_Main sh R) (hRt : R 0 1 = some t) (ht3 : t = 3 ∨ t = 22) {n m : Nat} (hn : I t 0 = nI n) (hn8 : n ≤ 8) (hm : I (t + 8) 0 = nI m) (hm6 : m ≤ 6) : AM G mX10_doors d [.ref 0] (sh, I, R, L, g) (fun v w => v = some (.int (f_dr (I (t + 2)) ((f_look I 90 t 47 n m) 92) (f_cb (I 49) ((f_look I 90 t 47 n m) 92) m) n m 1024)) ∧ w = (sh, f_look I 90 t 47 n m, R, L, g)) (fun _ _ => False) := by
  have hG := hK.1
  have ht : k_Town sh R t := by rcases ht3 with rfl | rfl; exact kM_3 hM; exact kM_22 hM
  have o41 := kM_41 hM
  have o42 := kM_42 hM
  have o43 := kM_43 hM
  have o47 := kM_47 hM
  have o60 := kM_60 hM
  have o90 := kM_90 hM
  have o93 := kM_93 hM
  have o97 := kM_97 hM
  have o79 := kM_79 hM
  have o1 := kM_1 hM
  refine AM.of (n := 3) (by decide +kernel) (Nat.le_of_ble_eq_true rfl) ?_
  show AW G mX10_doors d (fun v w => v = some (.int (f_dr (I (t + 2)) ((f_look I 90 t 47 n m) 92) (f_cb (I 49) ((f_look I 90 t 47 n m) 92) m) n m 1024)) ∧ w = (sh, f_look I 90 t 47 n m, R, L, g)) (fun _ _ => False) 0 [some (.ref 0), none, none, none] [] (sh, I, R, L, g) 0 0
  refine AW.aload_n dX10_doors_0 rfl ?_
  refine AW.callV (b := 0) (As := []) hG.2.2 (vX10_147 hG) (hM.1 0 _ rfl) (k_X10_lookAround hK (d := 3) (Nat.le_refl _) hXS hM hRt ht3 (by assumption) (by assumption) (by assumption) (by assumption)) (by omega) dX10_doors_1 rfl rfl (Nat.le_of_ble_eq_true rfl) (fun v w9 hq9 h09 => by obtain ⟨rfl, rfl⟩ := hq9; exact ⟨h09, rfl⟩) (by decide) (by decide) (fun _ _ hx => hx) (fun v1 w1 hq1 => ?_)
  obtain ⟨rfl, rfl⟩ := hq1
  refine AW.namI (fun I1 eI1 => ?_)
  show AW G mX10_doors d (fun v w => v = some (.int (f_dr (I (t + 2)) ((f_look I 90 t 47 n m) 92) (f_cb (I 49) ((f_look I 90 t 47 n m) 92) m) n m 1024)) ∧ w = (sh, f_look I 90 t 47 n m, R, L, g)) (fun _ _ => False) 4 [some (.ref 0), none, none, none] [] (sh, I1, R, L, g) 0 0
  have hJn : I1 t 0 = nI n := by rw [eI1, f_look_K _ _ _ _ (by omega) (by omega)]; exact hn
  have hJm : I1 (t + 8) 0 = nI m := by rw [eI1, f_look_K _ _ _ _ (by omega) (by omega)]; exact hm
  have q49 : I1 49 = I 49 := by rw [eI1, f_look_K _ _ _ _ (by omega) (by omega)]
  have q2 : I1 (t + 2) = I (t + 2) := by rw [eI1, f_look_K _ _ _ _ (by omega) (by omega)]
  refine AW.aload_n dX10_doors_4 rfl ?_
  refine AW.callV (b := 0) (As := []) hG.2.2 (vX10_294 hG) (hM.1 0 _ rfl) (k_X10_cuttableLoaves hK (d := 0) (Nat.le_refl _) hXS hM hRt ht3 (by assumption) (by assumption)) (by omega) dX10_doors_5 rfl rfl (Nat.le_of_ble_eq_true rfl) (fun v w9 hq9 h09 => by obtain ⟨rfl, rfl⟩ := hq9; exact ⟨h09, rfl⟩) (by decide) (by decide) (fun _ _ hx => hx) (fun v5 w5 hq5 => ?_)
  obtain ⟨rfl, rfl⟩ := hq5
  refine AW.nam (fun x5 ex5 => ?_)
  rw [q49] at ex5
  refine AW.is_n [some (.ref 0), some (.int x5), none, none] dX10_doors_8 (by decide) rfl rfl ?_
  refine AW.sipush 1023 dX10_doors_9 (by decide) ?_
  refine AW.is_n [some (.ref 0), some (.int x5), some (.int 1023), none] dX10_doors_12 (by decide) rfl rfl ?_
  refine AW.iconst 0 dX10_doors_13 (by decide) ?_
  refine AW.is_n [some (.ref 0), some (.int x5), some (.int 1023), some (.int 0)] dX10_doors_14 (by decide) rfl rfl ?_
  have L15 : ∀ k15, k15 ≤ 1024 → ∀ (a x : Int32), (x = nI k15 ∧ a = f_dr (I (t + 2)) (I1 92) (f_cb (I 49) (I1 92) m) n m k15) → AW G mX10_doors d (fun v w => v = some (.int (f_dr (I (t + 2)) ((f_look I 90 t 47 n m) 92) (f_cb (I 49) ((f_look I 90 t 47 n m) 92) m) n m 1024)) ∧ w = (sh, f_look I 90 t 47 n m, R, L, g)) (fun _ _ => False) 15 [some (.ref 0), some (.int x5), some (.int a), some (.int x)] [] (sh, I1, R, L, g) 0 0 := by
    refine am_rec 1024 (fun k15 hk15 ih15 => ?_)
    intro a x hi15
    obtain ⟨hx, ha⟩ := hi15
    refine AW.iload_n dX10_doors_15 rfl ?_
    refine AW.sipush 1024 dX10_doors_16 (by decide) ?_
    refine AW.icmp_ge 50 dX10_doors_19 (by decide) (fun h19 => ?_) (fun h19 => ?_)
    · have hke := k_ge (n := 1024) h19 hx rfl hk15 (by decide)
      rw [hke] at ha
      refine AW.iload_n dX10_doors_50 rfl ?_
      exact AW.iret dX10_doors_51 rfl (by decide) (by decide) (⟨by rw [ha, eI1], by rw [eI1]⟩)
    · have hlt := k_lt (n := 1024) h19 hx rfl hk15 (by decide)
      refine AW.iload_n dX10_doors_22 rfl ?_
      refine AW.callS (As := [.int x]) hG.2.2 (vX10_253 hG) (k_bitCount hK (d := 0) (Nat.le_refl _) x) (by omega) dX10_doors_23 rfl rfl (Nat.le_of_ble_eq_true rfl) (fun v w9 hq9 h09 => by obtain ⟨rfl, rfl⟩ := hq9; exact ⟨h09, rfl⟩) (by decide) (by decide) (fun _ _ hx => hx) (fun v23 w23 hq23 => ?_)
      obtain ⟨rfl, rfl⟩ := hq23
      refine AW.nam (fun x23 ex23 => ?_)
      refine AW.iload_n dX10_doors_26 rfl ?_
      refine AW.callS (As := [.int a]) hG.2.2 (vX10_253 hG) (k_bitCount hK (d := 0) (Nat.le_refl _) a) (by omega) dX10_doors_27 rfl rfl (Nat.le_of_ble_eq_true rfl) (fun v w9 hq9 h09 => by obtain ⟨rfl, rfl⟩ := hq9; exact ⟨h09, rfl⟩) (by decide) (by decide) (fun _ _ hx => hx) (fun v27 w27 hq27 => ?_)
      obtain ⟨rfl, rfl⟩ := hq27
      refine AW.nam (fun x27 ex27 => ?_)
      refine AW.icmp_ge 44 dX10_doors_30 (by decide) (fun h30 => ?_) (fun h30 => ?_)
      · rw [ex23, ex27, ha, hx] at h30
        refine AW.inc (fun x44 => [some (.ref 0), some (.int x5), some (.int a), some (.int x44)]) dX10_doors_44 rfl (by decide) rfl (fun _ => rfl) (fun x44 ex44 => ?_)
        refine AW.goto 15 dX10_doors_47 (by decide) ?_
        exact ih15 (k15 + 1) (by omega) (by omega) _ _ (⟨k_inc (by assumption) hx, (show _ = (if _ then _ else _) by rw [if_neg (fun h => h.1 h30)]; exact ha)⟩)
      · rw [ex23, ex27, ha, hx] at h30
        refine AW.aload_n dX10_doors_33 rfl ?_
        refine AW.iload_n dX10_doors_34 rfl ?_
        refine AW.iload_n dX10_doors_35 rfl ?_
        refine AW.callV (b := 0) (As := [.int x, .int x5]) hG.2.2 (vX10_321 hG) (hM.1 0 _ rfl) (k_X10_opensAll hK (d := 2) (Nat.le_refl _) hXS hM hRt ht3 (by assumption) (by assumption) (by assumption) (by assumption) x x5) (by omega) dX10_doors_36 rfl rfl (Nat.le_of_ble_eq_true rfl) (fun v w9 hq9 h09 => by obtain ⟨rfl, rfl⟩ := hq9; exact ⟨h09, rfl⟩) (by decide) (by decide) (fun _ _ hx => hx) (fun v36 w36 hq36 => ?_)
        obtain ⟨rfl, rfl⟩ := hq36
        refine AW.nam (fun x36 ex36 => ?_)
        refine AW.if_eq 44 dX10_doors_39 (by decide) (fun h39 => ?_) (fun h39 => ?_)
        · rw [ex36, hx, q2, ex5] at h39
          have q1 := kb_0.mp h39
          refine AW.inc (fun x44 => [some (.ref 0), some (.int x5), some (.int a), some (.int x44)]) dX10_doors_44 rfl (by decide) rfl (fun _ => rfl) (fun x44 ex44 => ?_)
          refine AW.goto 15 dX10_doors_47 (by decide) ?_
          exact ih15 (k15 + 1) (by omega) (by omega) _ _ (⟨k_inc (by assumption) hx, (show _ = (if _ then _ else _) by rw [if_neg (fun h => by rw [q1] at h; exact absurd h.2 (by decide))]; exact ha)⟩)
        · rw [ex36, hx, q2, ex5] at h39
          have q1 := kb_1.mp h39
          refine AW.iload_n dX10_doors_42 rfl ?_
          refine AW.is_n [some (.ref 0), some (.int x5), some (.int x), some (.int x)] dX10_doors_43 (by decide) rfl rfl ?_
          refine AW.inc (fun x44 => [some (.ref 0), some (.int x5), some (.int x), some (.int x44)]) dX10_doors_44 rfl (by decide) rfl (fun _ => rfl) (fun x44 ex44 => ?_)
          refine AW.goto 15 dX10_doors_47 (by decide) ?_
          exact ih15 (k15 + 1) (by omega) (by omega) _ _ (⟨k_inc (by assumption) hx, (show _ = (if _ then _ else _) by rw [if_pos ⟨h30, q1⟩]; exact hx)⟩)
  exact L15 0 (by omega) _ _ (⟨nI_0.symm, rfl⟩)
theorem dX10_gain_0 : decode cX10_gain 0 = .ok (.iload_n 2, 1) := by decide +kernel
theorem dX10_gain_1 : decode cX10_gain 1 = .ok (.iload_n 3, 1) := by decide +kernel
theorem dX10_gain_2 : decode cX10_gain 2 = .ok (.if_icmp .eq 34, 3) := by decide +kernel
theorem dX10_gain_5 : decode cX10_gain 5 = .ok (.aload_n 0, 1) := by decide +kernel
theorem dX10_gain_6 : decode cX10_gain 6 = .ok (.getfield 54, 3) := by decide +kernel
theorem dX10_gain_9 : decode cX10_gain 9 = .ok (.getfield 307, 3) := by decide +kernel
theorem dX10_gain_12 : decode cX10_gain 12 = .ok (.iload_n 2, 1) := by decide +kernel
theorem dX10_gain_13 : decode cX10_gain 13 = .ok (.iaload, 1) := by decide +kernel
theorem dX10_gain_14 : decode cX10_gain 14 = .ok (.iload_n 1, 1) := by decide +kernel
theorem dX10_gain_15 : decode cX10_gain 15 = .ok (.invokestatic 226, 3) := by decide +kernel
theorem dX10_gain_18 : decode cX10_gain 18 = .ok (.ifCond .eq 18, 3) := by decide +kernel
theorem dX10_gain_21 : decode cX10_gain 21 = .ok (.aload_n 0, 1) := by decide +kernel
theorem dX10_gain_22 : decode cX10_gain 22 = .ok (.getfield 19, 3) := by decide +kernel
theorem dX10_gain_25 : decode cX10_gain 25 = .ok (.getfield 122, 3) := by decide +kernel
theorem dX10_gain_28 : decode cX10_gain 28 = .ok (.getfield 195, 3) := by decide +kernel
theorem dX10_gain_31 : decode cX10_gain 31 = .ok (.iload_n 2, 1) := by decide +kernel
theorem dX10_gain_32 : decode cX10_gain 32 = .ok (.iaload, 1) := by decide +kernel
theorem dX10_gain_33 : decode cX10_gain 33 = .ok (.goto 4, 3) := by decide +kernel
theorem dX10_gain_36 : decode cX10_gain 36 = .ok (.iconst 0, 1) := by decide +kernel
theorem dX10_gain_37 : decode cX10_gain 37 = .ok (.ireturn, 1) := by decide +kernel
set_option maxRecDepth 100000 in
set_option maxHeartbeats 4000000 in
theorem k_X10_gain {G : am_G} (hK : k_OK G) {d : Nat} (hd : 1 ≤ d) {sh : List (Nat ⊕ (Nat × Nat))} {I : Nat → Nat → Int32} {R : Nat → Nat → Option Nat} {L : Nat → Nat → Int64} {g : Nat} (hXS : k_XS G) {t : Nat} (hM : k_Main sh R) (hRt : R 0 1 = some t) (ht3 : t = 3 ∨ t = 22) (p x y : Int32) (pj a b : Nat) (hp : p = nI pj) (hx : x = nI a) (ha : a < 6) (hy : y = nI b) : AM G mX10_gain d [.ref 0, .int p, .int x, .int y] (sh, I, R, L, g) (fun v w => v = some (.int (f_gn (I 92) (I (t + 10)) pj a b)) ∧ w = (sh, I, R, L, g)) (fun _ _ => False) := by
  have hG := hK.1
  have ht : k_Town sh R t := by rcases ht3 with rfl | rfl; exact kM_3 hM; exact kM_22 hM
  have o41 := kM_41 hM
  have o42 := kM_42 hM
  have o43 := kM_43 hM
  have o47 := kM_47 hM
  have o60 := kM_60 hM
  have o90 := kM_90 hM
  have o93 := kM_93 hM
  have o97 := kM_97 hM
  have o79 := kM_79 hM
  have o1 := kM_1 hM
  have hcx : x.toNatClampNeg = a := k_lit hx (by omega)
  have hbx : vp_in x 6 := by rw [hx]; exact vp_in_nI ha (by decide)
  refine AM.of (n := 0) (by decide +kernel) (Nat.le_of_ble_eq_true rfl) ?_
  show AW G mX10_gain d (fun v w => v = some (.int (f_gn (I 92) (I (t + 10)) pj a b)) ∧ w = (sh, I, R, L, g)) (fun _ _ => False) 0 [some (.ref 0), some (.int p), some (.int x), some (.int y)] [] (sh, I, R, L, g) 0 0
  refine AW.iload_n dX10_gain_0 rfl ?_
  refine AW.iload_n dX10_gain_1 rfl ?_
  refine AW.icmp_eq 36 dX10_gain_2 (by decide) (fun h2 => ?_) (fun h2 => ?_)
  · rw [hx, hy] at h2
    refine AW.iconst 0 dX10_gain_36 (by decide) ?_
    exact AW.iret dX10_gain_37 rfl (by decide) (by decide) (⟨by rw [f_gn, if_neg (fun h => h.1 h2)], rfl⟩)
  · rw [hx, hy] at h2
    refine AW.aload_n dX10_gain_5 rfl ?_
    refine AW.getR (c' := 90) (fX10_54 hG).r rfl (hM.1 0 _ rfl) (hM.2 (0, 10, 90) (by decide)) dX10_gain_6 ?_
    refine AW.getR (c' := 92) (fX10_307 hG) rfl (o90.1 0 _ rfl) (o90.2 (0, 1, 2) (by decide)) dX10_gain_9 ?_
    refine AW.iload_n dX10_gain_12 rfl ?_
    refine AW.iald (o90.1 2 _ rfl) (by first | assumption | (unfold vp_in; decide) | exact vp_in_nI (by omega) (by decide)) dX10_gain_13 ?_
    refine AW.iload_n dX10_gain_14 rfl ?_
    refine AW.callS (As := [.int (I 92 x.toNatClampNeg), .int p]) hG.2.2 (vX10_226 hG) (k_X10_has hK (d := 0) (Nat.le_refl _) (I 92 x.toNatClampNeg) p) (by omega) dX10_gain_15 rfl rfl (Nat.le_of_ble_eq_true rfl) (fun v w9 hq9 h09 => by obtain ⟨rfl, rfl⟩ := hq9; exact ⟨h09, rfl⟩) (by decide) (by decide) (fun _ _ hx => hx) (fun v15 w15 hq15 => ?_)
    obtain ⟨rfl, rfl⟩ := hq15
    refine AW.nam (fun x15 ex15 => ?_)
    refine AW.if_eq 36 dX10_gain_18 (by decide) (fun h18 => ?_) (fun h18 => ?_)
    · rw [ex15, hcx, hp] at h18
      have q1 := kb_0.mp h18
      refine AW.iconst 0 dX10_gain_36 (by decide) ?_
      exact AW.iret dX10_gain_37 rfl (by decide) (by decide) (⟨by rw [f_gn, if_neg (fun h => by rw [q1] at h; exact absurd h.2 (by decide))], rfl⟩)
    · rw [ex15, hcx, hp] at h18
      have q1 := kb_1.mp h18
      refine AW.aload_n dX10_gain_21 rfl ?_
      refine AW.getR (fX10_19 hG).r rfl (hM.1 0 _ rfl) hRt dX10_gain_22 ?_
      refine AW.getR (c' := (t + 8)) (fX10_122 hG) rfl (ht.1 0 _ rfl) (ht.2 (0, 11, 8) (by decide)) dX10_gain_25 ?_
      refine AW.getR (c' := (t + 10)) (fX10_195 hG) rfl (ht.1 8 _ rfl) (ht.2 (8, 2, 10) (by decide)) dX10_gain_28 ?_
      refine AW.iload_n dX10_gain_31 rfl ?_
      refine AW.iald (ht.1 10 _ rfl) (by first | assumption | (unfold vp_in; decide) | exact vp_in_nI (by omega) (by decide)) dX10_gain_32 ?_
      refine AW.goto 37 dX10_gain_33 (by decide) ?_
      exact AW.iret dX10_gain_37 rfl (by decide) (by decide) (⟨by rw [f_gn, if_pos ⟨h2, q1⟩, hcx], rfl⟩)
theorem dX10_isBestChoice_0 : decode cX10_isBestChoice 0 = .ok (.aload_n 0, 1) := by decide +kernel
theorem dX10_isBestChoice_1 : decode cX10_isBestChoice 1 = .ok (.iload_n 1, 1) := by decide +kernel
theorem dX10_isBestChoice_2 : decode cX10_isBestChoice 2 = .ok (.iload_n 2, 1) := by decide +kernel
theorem dX10_isBestChoice_3 : decode cX10_isBestChoice 3 = .ok (.iload_n 3, 1) := by decide +kernel
theorem dX10_isBestChoice_4 : decode cX10_isBestChoice 4 = .ok (.invokevirtual 374, 3) := by decide +kernel
theorem dX10_isBestChoice_7 : decode cX10_isBestChoice 7 = .ok (.istore 4, 2) := by decide +kernel
theorem dX10_isBestChoice_9 : decode cX10_isBestChoice 9 = .ok (.iconst 0, 1) := by decide +kernel
theorem dX10_isBestChoice_10 : decode cX10_isBestChoice 10 = .ok (.istore 5, 2) := by decide +kernel
theorem dX10_isBestChoice_12 : decode cX10_isBestChoice 12 = .ok (.iload 5, 2) := by decide +kernel
theorem dX10_isBestChoice_14 : decode cX10_isBestChoice 14 = .ok (.aload_n 0, 1) := by decide +kernel
theorem dX10_isBestChoice_15 : decode cX10_isBestChoice 15 = .ok (.getfield 19, 3) := by decide +kernel
theorem dX10_isBestChoice_18 : decode cX10_isBestChoice 18 = .ok (.getfield 122, 3) := by decide +kernel
theorem dX10_isBestChoice_21 : decode cX10_isBestChoice 21 = .ok (.getfield 126, 3) := by decide +kernel
theorem dX10_isBestChoice_24 : decode cX10_isBestChoice 24 = .ok (.if_icmp .ge 24, 3) := by decide +kernel
theorem dX10_isBestChoice_27 : decode cX10_isBestChoice 27 = .ok (.aload_n 0, 1) := by decide +kernel
theorem dX10_isBestChoice_28 : decode cX10_isBestChoice 28 = .ok (.iload_n 1, 1) := by decide +kernel
theorem dX10_isBestChoice_29 : decode cX10_isBestChoice 29 = .ok (.iload 5, 2) := by decide +kernel
theorem dX10_isBestChoice_31 : decode cX10_isBestChoice 31 = .ok (.iload_n 3, 1) := by decide +kernel
theorem dX10_isBestChoice_32 : decode cX10_isBestChoice 32 = .ok (.invokevirtual 374, 3) := by decide +kernel
theorem dX10_isBestChoice_35 : decode cX10_isBestChoice 35 = .ok (.iload 4, 2) := by decide +kernel
theorem dX10_isBestChoice_37 : decode cX10_isBestChoice 37 = .ok (.if_icmp .le 5, 3) := by decide +kernel
theorem dX10_isBestChoice_40 : decode cX10_isBestChoice 40 = .ok (.iconst 0, 1) := by decide +kernel
theorem dX10_isBestChoice_41 : decode cX10_isBestChoice 41 = .ok (.ireturn, 1) := by decide +kernel
theorem dX10_isBestChoice_42 : decode cX10_isBestChoice 42 = .ok (.iinc 5 1, 3) := by decide +kernel
theorem dX10_isBestChoice_45 : decode cX10_isBestChoice 45 = .ok (.goto (-33), 3) := by decide +kernel
theorem dX10_isBestChoice_48 : decode cX10_isBestChoice 48 = .ok (.iconst 1, 1) := by decide +kernel
theorem dX10_isBestChoice_49 : decode cX10_isBestChoice 49 = .ok (.ireturn, 1) := by decide +kernel
set_option maxRecDepth 100000 in
set_option maxHeartbeats 4000000 in
theorem k_X10_isBestChoice {G : am_G} (hK : k_OK G) {d : Nat} (hd : 2 ≤ d) {sh : List (Nat ⊕ (Nat × Nat))} {I : Nat → Nat → Int32} {R : Nat → Nat → Option Nat} {L : Nat → Nat → Int64} {g : Nat} (hXS : k_XS G) {t : Nat} (hM : k_Main sh R) (hRt : R 0 1 = some t) (ht3 : t = 3 ∨ t = 22) {m : Nat} (hm : I (t + 8) 0 = nI m) (hm6 : m ≤ 6) (p x y : Int32) (pj a b : Nat) (hp : p = nI pj) (hx : x = nI a) (ha : a < 6) (hy : y = nI b) : AM G mX10_isBestChoice d [.ref 0, .int p, .int x, .int y] (sh, I, R, L, g) (fun v w => v = some (.int (kb (f_bs (I 92) (I (t + 10)) pj a b m))) ∧ w = (sh, I, R, L, g)) (fun _ _ => False) := by
  have hG := hK.1
  have ht : k_Town sh R t := by rcases ht3 with rfl | rfl; exact kM_3 hM; exact kM_22 hM
  have o41 := kM_41 hM
  have o42 := kM_42 hM
  have o43 := kM_43 hM
  have o47 := kM_47 hM
  have o60 := kM_60 hM
  have o90 := kM_90 hM
  have o93 := kM_93 hM
  have o97 := kM_97 hM
  have o79 := kM_79 hM
  have o1 := kM_1 hM
  refine AM.of (n := 2) (by decide +kernel) (Nat.le_of_ble_eq_true rfl) ?_
  show AW G mX10_isBestChoice d (fun v w => v = some (.int (kb (f_bs (I 92) (I (t + 10)) pj a b m))) ∧ w = (sh, I, R, L, g)) (fun _ _ => False) 0 [some (.ref 0), some (.int p), some (.int x), some (.int y), none, none] [] (sh, I, R, L, g) 0 0
  refine AW.aload_n dX10_isBestChoice_0 rfl ?_
  refine AW.iload_n dX10_isBestChoice_1 rfl ?_
  refine AW.iload_n dX10_isBestChoice_2 rfl ?_
  refine AW.iload_n dX10_isBestChoice_3 rfl ?_
  refine AW.callV (b := 0) (As := [.int p, .int x, .int y]) hG.2.2 (vX10_374 hG) (hM.1 0 _ rfl) (k_X10_gain hK (d := 1) (Nat.le_refl _) hXS hM hRt ht3 p x y _ _ _ (by assumption) (by assumption) (by omega) (by assumption)) (by omega) dX10_isBestChoice_4 rfl rfl (Nat.le_of_ble_eq_true rfl) (fun v w9 hq9 h09 => by obtain ⟨rfl, rfl⟩ := hq9; exact ⟨h09, rfl⟩) (by decide) (by decide) (fun _ _ hx => hx) (fun v4 w4 hq4 => ?_)
  obtain ⟨rfl, rfl⟩ := hq4
  refine AW.nam (fun x4 ex4 => ?_)
  refine AW.is [some (.ref 0), some (.int p), some (.int x), some (.int y), some (.int x4), none] dX10_isBestChoice_7 (by decide) rfl rfl ?_
  refine AW.iconst 0 dX10_isBestChoice_9 (by decide) ?_
  refine AW.is [some (.ref 0), some (.int p), some (.int x), some (.int y), some (.int x4), some (.int 0)] dX10_isBestChoice_10 (by decide) rfl rfl ?_
  have L12 : ∀ k12, k12 ≤ m → ∀ (z : Int32), (z = nI k12 ∧ f_bs (I 92) (I (t + 10)) pj a b k12 = true) → AW G mX10_isBestChoice d (fun v w => v = some (.int (kb (f_bs (I 92) (I (t + 10)) pj a b m))) ∧ w = (sh, I, R, L, g)) (fun _ _ => False) 12 [some (.ref 0), some (.int p), some (.int x), some (.int y), some (.int x4), some (.int z)] [] (sh, I, R, L, g) 0 0 := by
    refine am_rec m (fun k12 hk12 ih12 => ?_)
    intro z hi12
    obtain ⟨hz, hal⟩ := hi12
    refine AW.iload dX10_isBestChoice_12 rfl ?_
    refine AW.aload_n dX10_isBestChoice_14 rfl ?_
    refine AW.getR (fX10_19 hG).r rfl (hM.1 0 _ rfl) hRt dX10_isBestChoice_15 ?_
    refine AW.getR (c' := (t + 8)) (fX10_122 hG) rfl (ht.1 0 _ rfl) (ht.2 (0, 11, 8) (by decide)) dX10_isBestChoice_18 ?_
    refine AW.getI (fX10_126 hG).r rfl (ht.1 8 _ rfl) dX10_isBestChoice_21 ?_
    refine AW.icmp_ge 48 dX10_isBestChoice_24 (by decide) (fun h24 => ?_) (fun h24 => ?_)
    · have hke := k_ge h24 hz hm hk12 (by omega)
      subst hke
      refine AW.iconst 1 dX10_isBestChoice_48 (by decide) ?_
      exact AW.zret dX10_isBestChoice_49 rfl (by decide) (by decide) (by decide) (⟨by rw [hal]; rfl, rfl⟩)
    · have hlt := k_lt h24 hz hm hk12 (by omega)
      refine AW.aload_n dX10_isBestChoice_27 rfl ?_
      refine AW.iload_n dX10_isBestChoice_28 rfl ?_
      refine AW.iload dX10_isBestChoice_29 rfl ?_
      refine AW.iload_n dX10_isBestChoice_31 rfl ?_
      refine AW.callV (b := 0) (As := [.int p, .int z, .int y]) hG.2.2 (vX10_374 hG) (hM.1 0 _ rfl) (k_X10_gain hK (d := 1) (Nat.le_refl _) hXS hM hRt ht3 p z y _ _ _ (by assumption) (by assumption) (by omega) (by assumption)) (by omega) dX10_isBestChoice_32 rfl rfl (Nat.le_of_ble_eq_true rfl) (fun v w9 hq9 h09 => by obtain ⟨rfl, rfl⟩ := hq9; exact ⟨h09, rfl⟩) (by decide) (by decide) (fun _ _ hx => hx) (fun v32 w32 hq32 => ?_)
      obtain ⟨rfl, rfl⟩ := hq32
      refine AW.nam (fun x32 ex32 => ?_)
      refine AW.iload dX10_isBestChoice_35 rfl ?_
      refine AW.icmp_le 42 dX10_isBestChoice_37 (by decide) (fun h37 => ?_) (fun h37 => ?_)
      · rw [ex32, ex4] at h37
        refine AW.inc (fun x42 => [some (.ref 0), some (.int p), some (.int x), some (.int y), some (.int x4), some (.int x42)]) dX10_isBestChoice_42 rfl (by decide) rfl (fun _ => rfl) (fun x42 ex42 => ?_)
        refine AW.goto 12 dX10_isBestChoice_45 (by decide) ?_
        exact ih12 (k12 + 1) (by omega) (by omega) _ (⟨k_inc (by assumption) hz, (show (f_bs (I 92) (I (t + 10)) pj a b k12 && _) = true by rw [hal]; simpa using h37)⟩)
      · rw [ex32, ex4] at h37
        refine AW.iconst 0 dX10_isBestChoice_40 (by decide) ?_
        exact AW.zret dX10_isBestChoice_41 rfl (by decide) (by decide) (by decide) (⟨by rw [kb_f (b := f_bs (I 92) (I (t + 10)) pj a b m) (lall_no hlt (by simpa using h37))], rfl⟩)
  exact L12 0 (by omega) _ (⟨nI_0.symm, rfl⟩)
