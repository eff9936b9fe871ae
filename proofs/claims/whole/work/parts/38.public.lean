/-! PUBLIC METHODS -/
def f_mt (I : Nat → Nat → Int32) (a b : Nat) : Int32 := if I 48 (8 * a + b) = -1000000 then -1 else I 47 0 - I 48 (8 * a + b)
theorem f_look_K (I : Nat → Nat → Int32) (t n m : Nat) {a : Nat} (h : a ≠ 91) (h2 : a ≠ 92) : f_look I 90 t 47 n m a = I a := by rw [f_look_o _ _ _ _ _ _ (by omega)]
abbrev pX10_met : am_M := (yX10_met, cX10_met, 5, (some .int), 3, 18)
theorem dX10_met_0 : decode cX10_met 0 = .ok (.aload_n 0, 1) := by decide +kernel
theorem dX10_met_1 : decode cX10_met 1 = .ok (.iload_n 1, 1) := by decide +kernel
theorem dX10_met_2 : decode cX10_met 2 = .ok (.invokevirtual 168, 3) := by decide +kernel
theorem dX10_met_5 : decode cX10_met 5 = .ok (.aload_n 0, 1) := by decide +kernel
theorem dX10_met_6 : decode cX10_met 6 = .ok (.iload_n 2, 1) := by decide +kernel
theorem dX10_met_7 : decode cX10_met 7 = .ok (.invokevirtual 168, 3) := by decide +kernel
theorem dX10_met_10 : decode cX10_met 10 = .ok (.iload_n 1, 1) := by decide +kernel
theorem dX10_met_11 : decode cX10_met 11 = .ok (.iload_n 2, 1) := by decide +kernel
theorem dX10_met_12 : decode cX10_met 12 = .ok (.if_icmp .ne 13, 3) := by decide +kernel
theorem dX10_met_15 : decode cX10_met 15 = .ok (.new 86, 3) := by decide +kernel
theorem dX10_met_18 : decode cX10_met 18 = .ok (.dup, 1) := by decide +kernel
theorem dX10_met_19 : decode cX10_met 19 = .ok (.ldc 220, 2) := by decide +kernel
theorem dX10_met_21 : decode cX10_met 21 = .ok (.invokespecial 90, 3) := by decide +kernel
theorem dX10_met_24 : decode cX10_met 24 = .ok (.athrow, 1) := by decide +kernel
theorem dX10_met_25 : decode cX10_met 25 = .ok (.aload_n 0, 1) := by decide +kernel
theorem dX10_met_26 : decode cX10_met 26 = .ok (.getfield 33, 3) := by decide +kernel
theorem dX10_met_29 : decode cX10_met 29 = .ok (.getfield 110, 3) := by decide +kernel
theorem dX10_met_32 : decode cX10_met 32 = .ok (.getfield 114, 3) := by decide +kernel
theorem dX10_met_35 : decode cX10_met 35 = .ok (.astore_n 3, 1) := by decide +kernel
theorem dX10_met_36 : decode cX10_met 36 = .ok (.aload_n 3, 1) := by decide +kernel
theorem dX10_met_37 : decode cX10_met 37 = .ok (.getfield 222, 3) := by decide +kernel
theorem dX10_met_40 : decode cX10_met 40 = .ok (.iload_n 1, 1) := by decide +kernel
theorem dX10_met_41 : decode cX10_met 41 = .ok (.bipush 8, 2) := by decide +kernel
theorem dX10_met_43 : decode cX10_met 43 = .ok (.imul, 1) := by decide +kernel
theorem dX10_met_44 : decode cX10_met 44 = .ok (.iload_n 2, 1) := by decide +kernel
theorem dX10_met_45 : decode cX10_met 45 = .ok (.iadd, 1) := by decide +kernel
theorem dX10_met_46 : decode cX10_met 46 = .ok (.iaload, 1) := by decide +kernel
theorem dX10_met_47 : decode cX10_met 47 = .ok (.istore 4, 2) := by decide +kernel
theorem dX10_met_49 : decode cX10_met 49 = .ok (.iload 4, 2) := by decide +kernel
theorem dX10_met_51 : decode cX10_met 51 = .ok (.ldc 225, 2) := by decide +kernel
theorem dX10_met_53 : decode cX10_met 53 = .ok (.if_icmp .ne 7, 3) := by decide +kernel
theorem dX10_met_56 : decode cX10_met 56 = .ok (.iconst (-1), 1) := by decide +kernel
theorem dX10_met_57 : decode cX10_met 57 = .ok (.goto 10, 3) := by decide +kernel
theorem dX10_met_60 : decode cX10_met 60 = .ok (.aload_n 3, 1) := by decide +kernel
theorem dX10_met_61 : decode cX10_met 61 = .ok (.getfield 137, 3) := by decide +kernel
theorem dX10_met_64 : decode cX10_met 64 = .ok (.iload 4, 2) := by decide +kernel
theorem dX10_met_66 : decode cX10_met 66 = .ok (.isub, 1) := by decide +kernel
theorem dX10_met_67 : decode cX10_met 67 = .ok (.ireturn, 1) := by decide +kernel
set_option maxRecDepth 100000 in
set_option maxHeartbeats 4000000 in
theorem k_X10_met {G : am_G} (hK : k_OK G) {d : Nat} (hd : 8 ≤ d) {sh : List (Nat ⊕ (Nat × Nat))} {I : Nat → Nat → Int32} {R : Nat → Nat → Option Nat} {L : Nat → Nat → Int64} {g : Nat} (hXS : k_XS G) {t : Nat} (hM : k_Main sh R) (hRt : R 0 1 = some t) (ht3 : t = 3 ∨ t = 22) (hg : g ≠ 0) {n : Nat} (hn : I t 0 = nI n) (hn8 : n ≤ 8) (p q : Int32) : AM G pX10_met d [.ref 0, .int p, .int q] (sh, I, R, L, g) (fun v w => w = (sh, I, R, L, g) ∧ ∃ a b, a < n ∧ b < n ∧ p = nI a ∧ q = nI b ∧ ¬ p = q ∧ v = some (.int (f_mt I a b))) (fun E w => w = (sh, I, R, L, g) ∧ ((E = "java/util/NoSuchElementException" ∧ ¬ (k_is p n ∧ k_is q n)) ∨ (E = "java/lang/IllegalArgumentException" ∧ k_is p n ∧ k_is q n ∧ p = q))) := by
  have hG := hK.1
  have ht : k_Town sh R t := by rcases ht3 with rfl | rfl; exact kM_3 hM; exact kM_22 hM
  have o41 := kM_41 hM
  have o42 := kM_42 hM
  have o43 := kM_43 hM
  have o47 := kM_47 hM
  have o60 := kM_60 hM
  have o90 := kM_90 hM
  have o93 := kM_93 hM
  have o97 := kM_97 hM
  have o79 := kM_79 hM
  have o1 := kM_1 hM
  refine AM.of (n := 2) (by decide +kernel) (Nat.le_of_ble_eq_true rfl) ?_
  show AW G pX10_met d (fun v w => w = (sh, I, R, L, g) ∧ ∃ a b, a < n ∧ b < n ∧ p = nI a ∧ q = nI b ∧ ¬ p = q ∧ v = some (.int (f_mt I a b))) (fun E w => w = (sh, I, R, L, g) ∧ ((E = "java/util/NoSuchElementException" ∧ ¬ (k_is p n ∧ k_is q n)) ∨ (E = "java/lang/IllegalArgumentException" ∧ k_is p n ∧ k_is q n ∧ p = q))) 0 [some (.ref 0), some (.int p), some (.int q), none, none] [] (sh, I, R, L, g) 0 0
  refine AW.aload_n dX10_met_0 rfl ?_
  refine AW.iload_n dX10_met_1 rfl ?_
  refine AW.callV (b := 0) (As := [.int p]) hG.2.2 (vX10_168 hG) (hM.1 0 _ rfl) (k_X10_requirePerson hK (d := 7) (Nat.le_refl _) hXS hM hRt ht3 hg (by assumption) (by assumption) p) (by omega) dX10_met_2 rfl rfl (Nat.le_of_ble_eq_true rfl) (fun v w9 hq9 h09 => absurd (by obtain ⟨-, e9, -⟩ := hq9; rw [e9] at h09; exact h09) hg) (by decide) (by decide) (fun E w9 h9 => ⟨h9.2.1, Or.inl ⟨h9.1, fun h => h9.2.2 h.1⟩⟩) (fun v2 w2 hq2 => ?_)
  obtain ⟨rfl, rfl, his2⟩ := hq2
  show AW G pX10_met d (fun v w => w = (sh, I, R, L, g) ∧ ∃ a b, a < n ∧ b < n ∧ p = nI a ∧ q = nI b ∧ ¬ p = q ∧ v = some (.int (f_mt I a b))) (fun E w => w = (sh, I, R, L, g) ∧ ((E = "java/util/NoSuchElementException" ∧ ¬ (k_is p n ∧ k_is q n)) ∨ (E = "java/lang/IllegalArgumentException" ∧ k_is p n ∧ k_is q n ∧ p = q))) 5 [some (.ref 0), some (.int p), some (.int q), none, none] [] (sh, I, R, L, g) 1 6
  refine AW.aload_n dX10_met_5 rfl ?_
  refine AW.iload_n dX10_met_6 rfl ?_
  refine AW.callV (b := 0) (As := [.int q]) hG.2.2 (vX10_168 hG) (hM.1 0 _ rfl) (k_X10_requirePerson hK (d := 7) (Nat.le_refl _) hXS hM hRt ht3 hg (by assumption) (by assumption) q) (by omega) dX10_met_7 rfl rfl (Nat.le_of_ble_eq_true rfl) (fun v w9 hq9 h09 => absurd (by obtain ⟨-, e9, -⟩ := hq9; rw [e9] at h09; exact h09) hg) (by decide) (by decide) (fun E w9 h9 => ⟨h9.2.1, Or.inl ⟨h9.1, fun h => h9.2.2 h.2⟩⟩) (fun v7 w7 hq7 => ?_)
  obtain ⟨rfl, rfl, his7⟩ := hq7
  show AW G pX10_met d (fun v w => w = (sh, I, R, L, g) ∧ ∃ a b, a < n ∧ b < n ∧ p = nI a ∧ q = nI b ∧ ¬ p = q ∧ v = some (.int (f_mt I a b))) (fun E w => w = (sh, I, R, L, g) ∧ ((E = "java/util/NoSuchElementException" ∧ ¬ (k_is p n ∧ k_is q n)) ∨ (E = "java/lang/IllegalArgumentException" ∧ k_is p n ∧ k_is q n ∧ p = q))) 10 [some (.ref 0), some (.int p), some (.int q), none, none] [] (sh, I, R, L, g) 2 12
  refine AW.iload_n dX10_met_10 rfl ?_
  refine AW.iload_n dX10_met_11 rfl ?_
  refine AW.icmp_ne 25 dX10_met_12 (by decide) (fun h12 => ?_) (fun h12 => ?_)
  · obtain ⟨a, ha, hpa⟩ := id his2
    obtain ⟨b, hb, hqb⟩ := id his7
    have hix : p * 8 + q = nI (8 * a + b) := k_88 rfl hpa hqb
    have hbix : vp_in (p * 8 + q) 64 := by rw [hix]; exact vp_in_nI (by omega) (by decide)
    have hcix : (p * 8 + q).toNatClampNeg = 8 * a + b := k_lit hix (by omega)
    refine AW.aload_n dX10_met_25 rfl ?_
    refine AW.getR (c' := 41) (fX10_33 hG).r rfl (hM.1 0 _ rfl) (hM.2 (0, 4, 41) (by decide)) dX10_met_26 ?_
    refine AW.getR (c' := 42) (fX10_110 hG) rfl (o41.1 0 _ rfl) (o41.2 (0, 0, 1) (by decide)) dX10_met_29 ?_
    refine AW.getR (c' := 47) (fX10_114 hG) rfl (o42.1 0 _ rfl) (o42.2 (0, 1, 5) (by decide)) dX10_met_32 ?_
    refine AW.as_n [some (.ref 0), some (.int p), some (.int q), some (.ref 47), none] dX10_met_35 (by decide) rfl rfl ?_
    refine AW.aload_n dX10_met_36 rfl ?_
    refine AW.getR (c' := 48) (fX10_222 hG) rfl (o47.1 0 _ rfl) (o47.2 (0, 2, 1) (by decide)) dX10_met_37 ?_
    refine AW.iload_n dX10_met_40 rfl ?_
    refine AW.bipush 8 dX10_met_41 (by decide) ?_
    refine AW.imul dX10_met_43 ?_
    refine AW.iload_n dX10_met_44 rfl ?_
    refine AW.iadd dX10_met_45 ?_
    refine AW.iald (o47.1 1 _ rfl) (by first | assumption | (unfold vp_in; decide) | exact vp_in_nI (by omega) (by decide)) dX10_met_46 ?_
    refine AW.nam (fun x47 ex47 => ?_)
    refine AW.is [some (.ref 0), some (.int p), some (.int q), some (.ref 47), some (.int x47)] dX10_met_47 (by decide) rfl rfl ?_
    refine AW.iload dX10_met_49 rfl ?_
    refine AW.ldc (-1000000) dX10_met_51 (k_c hG 1264 (by decide +kernel) (by decide +kernel)) ?_
    refine AW.icmp_ne 60 dX10_met_53 (by decide) (fun h53 => ?_) (fun h53 => ?_)
    · rw [ex47, hcix] at h53
      refine AW.aload_n dX10_met_60 rfl ?_
      refine AW.getI (fX10_137 hG).r rfl (o47.1 0 _ rfl) dX10_met_61 ?_
      refine AW.iload dX10_met_64 rfl ?_
      refine AW.isub dX10_met_66 ?_
      exact AW.iret dX10_met_67 rfl (by decide) (by decide) (⟨rfl, a, b, ha, hb, hpa, hqb, h12, by rw [f_mt, if_neg h53, ex47, hcix]⟩)
    · rw [ex47, hcix] at h53
      refine AW.iconst (-1) dX10_met_56 (by decide) ?_
      refine AW.goto 67 dX10_met_57 (by decide) ?_
      exact AW.iret dX10_met_67 rfl (by decide) (by decide) (⟨rfl, a, b, ha, hb, hpa, hqb, h12, by rw [f_mt, if_pos h53]⟩)
  · exact AW.throwS (hXS.2 220 (by decide)) dX10_met_15 dX10_met_18 dX10_met_19 dX10_met_21 dX10_met_24 (by omega) (Nat.le_of_ble_eq_true rfl) (by decide) (by decide) hg (⟨rfl, Or.inr ⟨rfl, his2, his7, h12⟩⟩)
abbrev pX10_knows : am_M := (yX10_knows, cX10_knows, 3, (some .boolean), 2, 12)
theorem dX10_knows_0 : decode cX10_knows 0 = .ok (.aload_n 0, 1) := by decide +kernel
theorem dX10_knows_1 : decode cX10_knows 1 = .ok (.iload_n 1, 1) := by decide +kernel
theorem dX10_knows_2 : decode cX10_knows 2 = .ok (.invokevirtual 168, 3) := by decide +kernel
theorem dX10_knows_5 : decode cX10_knows 5 = .ok (.aload_n 0, 1) := by decide +kernel
theorem dX10_knows_6 : decode cX10_knows 6 = .ok (.iload_n 2, 1) := by decide +kernel
theorem dX10_knows_7 : decode cX10_knows 7 = .ok (.invokevirtual 168, 3) := by decide +kernel
theorem dX10_knows_10 : decode cX10_knows 10 = .ok (.aload_n 0, 1) := by decide +kernel
theorem dX10_knows_11 : decode cX10_knows 11 = .ok (.invokevirtual 147, 3) := by decide +kernel
theorem dX10_knows_14 : decode cX10_knows 14 = .ok (.iload_n 1, 1) := by decide +kernel
theorem dX10_knows_15 : decode cX10_knows 15 = .ok (.iload_n 2, 1) := by decide +kernel
theorem dX10_knows_16 : decode cX10_knows 16 = .ok (.if_icmp .eq 19, 3) := by decide +kernel
theorem dX10_knows_19 : decode cX10_knows 19 = .ok (.aload_n 0, 1) := by decide +kernel
theorem dX10_knows_20 : decode cX10_knows 20 = .ok (.getfield 54, 3) := by decide +kernel
theorem dX10_knows_23 : decode cX10_knows 23 = .ok (.getfield 186, 3) := by decide +kernel
theorem dX10_knows_26 : decode cX10_knows 26 = .ok (.iload_n 1, 1) := by decide +kernel
theorem dX10_knows_27 : decode cX10_knows 27 = .ok (.iaload, 1) := by decide +kernel
theorem dX10_knows_28 : decode cX10_knows 28 = .ok (.iload_n 2, 1) := by decide +kernel
theorem dX10_knows_29 : decode cX10_knows 29 = .ok (.invokestatic 226, 3) := by decide +kernel
theorem dX10_knows_32 : decode cX10_knows 32 = .ok (.ifCond .eq 7, 3) := by decide +kernel
theorem dX10_knows_35 : decode cX10_knows 35 = .ok (.iconst 1, 1) := by decide +kernel
theorem dX10_knows_36 : decode cX10_knows 36 = .ok (.goto 4, 3) := by decide +kernel
theorem dX10_knows_39 : decode cX10_knows 39 = .ok (.iconst 0, 1) := by decide +kernel
theorem dX10_knows_40 : decode cX10_knows 40 = .ok (.ireturn, 1) := by decide +kernel
set_option maxRecDepth 100000 in
set_option maxHeartbeats 4000000 in
theorem k_X10_knows {G : am_G} (hK : k_OK G) {d : Nat} (hd : 8 ≤ d) {sh : List (Nat ⊕ (Nat × Nat))} {I : Nat → Nat → Int32} {R : Nat → Nat → Option Nat} {L : Nat → Nat → Int64} {g : Nat} (hXS : k_XS G) {t : Nat} (hM : k_Main sh R) (hRt : R 0 1 = some t) (ht3 : t = 3 ∨ t = 22) (hg : g ≠ 0) {n m : Nat} (hn : I t 0 = nI n) (hn8 : n ≤ 8) (hm : I (t + 8) 0 = nI m) (hm6 : m ≤ 6) (p q : Int32) : AM G pX10_knows d [.ref 0, .int p, .int q] (sh, I, R, L, g) (fun v w => w = (sh, f_look I 90 t 47 n m, R, L, g) ∧ ∃ a b, a < n ∧ b < n ∧ p = nI a ∧ q = nI b ∧ v = some (.int (kb (decide (p = q) || f_has ((f_look I 90 t 47 n m) 91 a) (nI b))))) (fun E w => w = (sh, I, R, L, g) ∧ E = "java/util/NoSuchElementException" ∧ ¬ (k_is p n ∧ k_is q n)) := by
  have hG := hK.1
  have ht : k_Town sh R t := by rcases ht3 with rfl | rfl; exact kM_3 hM; exact kM_22 hM
  have o41 := kM_41 hM
  have o42 := kM_42 hM
  have o43 := kM_43 hM
  have o47 := kM_47 hM
  have o60 := kM_60 hM
  have o90 := kM_90 hM
  have o93 := kM_93 hM
  have o97 := kM_97 hM
  have o79 := kM_79 hM
  have o1 := kM_1 hM
  refine AM.of (n := 0) (by decide +kernel) (Nat.le_of_ble_eq_true rfl) ?_
  show AW G pX10_knows d (fun v w => w = (sh, f_look I 90 t 47 n m, R, L, g) ∧ ∃ a b, a < n ∧ b < n ∧ p = nI a ∧ q = nI b ∧ v = some (.int (kb (decide (p = q) || f_has ((f_look I 90 t 47 n m) 91 a) (nI b))))) (fun E w => w = (sh, I, R, L, g) ∧ E = "java/util/NoSuchElementException" ∧ ¬ (k_is p n ∧ k_is q n)) 0 [some (.ref 0), some (.int p), some (.int q)] [] (sh, I, R, L, g) 0 0
  refine AW.aload_n dX10_knows_0 rfl ?_
  refine AW.iload_n dX10_knows_1 rfl ?_
  refine AW.callV (b := 0) (As := [.int p]) hG.2.2 (vX10_168 hG) (hM.1 0 _ rfl) (k_X10_requirePerson hK (d := 7) (Nat.le_refl _) hXS hM hRt ht3 hg (by assumption) (by assumption) p) (by omega) dX10_knows_2 rfl rfl (Nat.le_of_ble_eq_true rfl) (fun v w9 hq9 h09 => absurd (by obtain ⟨-, e9, -⟩ := hq9; rw [e9] at h09; exact h09) hg) (by decide) (by decide) (fun E w9 h9 => ⟨h9.2.1, h9.1, fun h => h9.2.2 h.1⟩) (fun v2 w2 hq2 => ?_)
  obtain ⟨rfl, rfl, his2⟩ := hq2
  show AW G pX10_knows d (fun v w => w = (sh, f_look I 90 t 47 n m, R, L, g) ∧ ∃ a b, a < n ∧ b < n ∧ p = nI a ∧ q = nI b ∧ v = some (.int (kb (decide (p = q) || f_has ((f_look I 90 t 47 n m) 91 a) (nI b))))) (fun E w => w = (sh, I, R, L, g) ∧ E = "java/util/NoSuchElementException" ∧ ¬ (k_is p n ∧ k_is q n)) 5 [some (.ref 0), some (.int p), some (.int q)] [] (sh, I, R, L, g) 1 6
  refine AW.aload_n dX10_knows_5 rfl ?_
  refine AW.iload_n dX10_knows_6 rfl ?_
  refine AW.callV (b := 0) (As := [.int q]) hG.2.2 (vX10_168 hG) (hM.1 0 _ rfl) (k_X10_requirePerson hK (d := 7) (Nat.le_refl _) hXS hM hRt ht3 hg (by assumption) (by assumption) q) (by omega) dX10_knows_7 rfl rfl (Nat.le_of_ble_eq_true rfl) (fun v w9 hq9 h09 => absurd (by obtain ⟨-, e9, -⟩ := hq9; rw [e9] at h09; exact h09) hg) (by decide) (by decide) (fun E w9 h9 => ⟨h9.2.1, h9.1, fun h => h9.2.2 h.2⟩) (fun v7 w7 hq7 => ?_)
  obtain ⟨rfl, rfl, his7⟩ := hq7
  show AW G pX10_knows d (fun v w => w = (sh, f_look I 90 t 47 n m, R, L, g) ∧ ∃ a b, a < n ∧ b < n ∧ p = nI a ∧ q = nI b ∧ v = some (.int (kb (decide (p = q) || f_has ((f_look I 90 t 47 n m) 91 a) (nI b))))) (fun E w => w = (sh, I, R, L, g) ∧ E = "java/util/NoSuchElementException" ∧ ¬ (k_is p n ∧ k_is q n)) 10 [some (.ref 0), some (.int p), some (.int q)] [] (sh, I, R, L, g) 2 12
  refine AW.aload_n dX10_knows_10 rfl ?_
  refine AW.callV (b := 0) (As := []) hG.2.2 (vX10_147 hG) (hM.1 0 _ rfl) (k_X10_lookAround hK (d := 3) (Nat.le_refl _) hXS hM hRt ht3 (by assumption) (by assumption) (by assumption) (by assumption)) (by omega) dX10_knows_11 rfl rfl (Nat.le_of_ble_eq_true rfl) (fun v w9 hq9 h09 => by obtain ⟨rfl, rfl⟩ := hq9; exact ⟨h09, rfl⟩) (by decide) (by decide) (fun _ _ hx => absurd hx id) (fun v11 w11 hq11 => ?_)
  obtain ⟨rfl, rfl⟩ := hq11
  refine AW.namI (fun I11 eI11 => ?_)
  show AW G pX10_knows d (fun v w => w = (sh, f_look I 90 t 47 n m, R, L, g) ∧ ∃ a b, a < n ∧ b < n ∧ p = nI a ∧ q = nI b ∧ v = some (.int (kb (decide (p = q) || f_has ((f_look I 90 t 47 n m) 91 a) (nI b))))) (fun E w => w = (sh, I, R, L, g) ∧ E = "java/util/NoSuchElementException" ∧ ¬ (k_is p n ∧ k_is q n)) 14 [some (.ref 0), some (.int p), some (.int q)] [] (sh, I11, R, L, g) 2 12
  obtain ⟨a, ha, hpa⟩ := id his2
  obtain ⟨b, hb, hqb⟩ := id his7
  have hbp : vp_in p 8 := k_is_in his2 hn8 (by decide)
  have hcp : p.toNatClampNeg = a := k_lit hpa (by omega)
  refine AW.iload_n dX10_knows_14 rfl ?_
  refine AW.iload_n dX10_knows_15 rfl ?_
  refine AW.icmp_eq 35 dX10_knows_16 (by decide) (fun h16 => ?_) (fun h16 => ?_)
  · refine AW.iconst 1 dX10_knows_35 (by decide) ?_
    refine AW.goto 40 dX10_knows_36 (by decide) ?_
    exact AW.zret dX10_knows_40 rfl (by decide) (by decide) (by decide) (⟨by rw [eI11], a, b, ha, hb, hpa, hqb, by rw [kb_t (by simp [h16])]⟩)
  · refine AW.aload_n dX10_knows_19 rfl ?_
    refine AW.getR (c' := 90) (fX10_54 hG).r rfl (hM.1 0 _ rfl) (hM.2 (0, 10, 90) (by decide)) dX10_knows_20 ?_
    refine AW.getR (c' := 91) (fX10_186 hG) rfl (o90.1 0 _ rfl) (o90.2 (0, 0, 1) (by decide)) dX10_knows_23 ?_
    refine AW.iload_n dX10_knows_26 rfl ?_
    refine AW.iald (o90.1 1 _ rfl) (by first | assumption | (unfold vp_in; decide) | exact vp_in_nI (by omega) (by decide)) dX10_knows_27 ?_
    refine AW.iload_n dX10_knows_28 rfl ?_
    refine AW.callS (As := [.int (I11 91 p.toNatClampNeg), .int q]) hG.2.2 (vX10_226 hG) (k_X10_has hK (d := 0) (Nat.le_refl _) (I11 91 p.toNatClampNeg) q) (by omega) dX10_knows_29 rfl rfl (Nat.le_of_ble_eq_true rfl) (fun v w9 hq9 h09 => by obtain ⟨rfl, rfl⟩ := hq9; exact ⟨h09, rfl⟩) (by decide) (by decide) (fun _ _ hx => absurd hx id) (fun v29 w29 hq29 => ?_)
    obtain ⟨rfl, rfl⟩ := hq29
    refine AW.nam (fun x29 ex29 => ?_)
    refine AW.if_eq 39 dX10_knows_32 (by decide) (fun h32 => ?_) (fun h32 => ?_)
    · rw [ex29, hcp, hqb, eI11] at h32
      have q1 := kb_0.mp h32
      refine AW.iconst 0 dX10_knows_39 (by decide) ?_
      exact AW.zret dX10_knows_40 rfl (by decide) (by decide) (by decide) (⟨by rw [eI11], a, b, ha, hb, hpa, hqb, by rw [kb_f (by simp [q1, h16])]⟩)
    · rw [ex29, hcp, hqb, eI11] at h32
      have q1 := kb_1.mp h32
      refine AW.iconst 1 dX10_knows_35 (by decide) ?_
      refine AW.goto 40 dX10_knows_36 (by decide) ?_
      exact AW.zret dX10_knows_40 rfl (by decide) (by decide) (by decide) (⟨by rw [eI11], a, b, ha, hb, hpa, hqb, by rw [kb_t (by simp [q1])]⟩)
abbrev pX10_may : am_M := (yX10_may, cX10_may, 3, (some .int), 2, 12)
theorem dX10_may_0 : decode cX10_may 0 = .ok (.aload_n 0, 1) := by decide +kernel
theorem dX10_may_1 : decode cX10_may 1 = .ok (.iload_n 1, 1) := by decide +kernel
theorem dX10_may_2 : decode cX10_may 2 = .ok (.invokevirtual 168, 3) := by decide +kernel
theorem dX10_may_5 : decode cX10_may 5 = .ok (.aload_n 0, 1) := by decide +kernel
theorem dX10_may_6 : decode cX10_may 6 = .ok (.iload_n 2, 1) := by decide +kernel
theorem dX10_may_7 : decode cX10_may 7 = .ok (.invokevirtual 191, 3) := by decide +kernel
theorem dX10_may_10 : decode cX10_may 10 = .ok (.aload_n 0, 1) := by decide +kernel
theorem dX10_may_11 : decode cX10_may 11 = .ok (.invokevirtual 147, 3) := by decide +kernel
theorem dX10_may_14 : decode cX10_may 14 = .ok (.aload_n 0, 1) := by decide +kernel
theorem dX10_may_15 : decode cX10_may 15 = .ok (.iload_n 1, 1) := by decide +kernel
theorem dX10_may_16 : decode cX10_may 16 = .ok (.iload_n 2, 1) := by decide +kernel
theorem dX10_may_17 : decode cX10_may 17 = .ok (.invokevirtual 230, 3) := by decide +kernel
theorem dX10_may_20 : decode cX10_may 20 = .ok (.ireturn, 1) := by decide +kernel
set_option maxRecDepth 100000 in
set_option maxHeartbeats 4000000 in
theorem k_X10_may {G : am_G} (hK : k_OK G) {d : Nat} (hd : 8 ≤ d) {sh : List (Nat ⊕ (Nat × Nat))} {I : Nat → Nat → Int32} {R : Nat → Nat → Option Nat} {L : Nat → Nat → Int64} {g : Nat} (hXS : k_XS G) {t : Nat} (hM : k_Main sh R) (hRt : R 0 1 = some t) (ht3 : t = 3 ∨ t = 22) (hg : g ≠ 0) {n m : Nat} (hn : I t 0 = nI n) (hn8 : n ≤ 8) (hm : I (t + 8) 0 = nI m) (hm6 : m ≤ 6) (p l : Int32) : AM G pX10_may d [.ref 0, .int p, .int l] (sh, I, R, L, g) (fun v w => w = (sh, f_look I 90 t 47 n m, R, L, g) ∧ ∃ a b, a < n ∧ b < m ∧ p = nI a ∧ l = nI b ∧ v = some (.int (f_hin (f_look I 90 t 47 n m) t n a b))) (fun E w => w = (sh, I, R, L, g) ∧ E = "java/util/NoSuchElementException" ∧ ¬ (k_is p n ∧ k_is l m)) := by
  have hG := hK.1
  have ht : k_Town sh R t := by rcases ht3 with rfl | rfl; exact kM_3 hM; exact kM_22 hM
  have o41 := kM_41 hM
  have o42 := kM_42 hM
  have o43 := kM_43 hM
  have o47 := kM_47 hM
  have o60 := kM_60 hM
  have o90 := kM_90 hM
  have o93 := kM_93 hM
  have o97 := kM_97 hM
  have o79 := kM_79 hM
  have o1 := kM_1 hM
  refine AM.of (n := 0) (by decide +kernel) (Nat.le_of_ble_eq_true rfl) ?_
  show AW G pX10_may d (fun v w => w = (sh, f_look I 90 t 47 n m, R, L, g) ∧ ∃ a b, a < n ∧ b < m ∧ p = nI a ∧ l = nI b ∧ v = some (.int (f_hin (f_look I 90 t 47 n m) t n a b))) (fun E w => w = (sh, I, R, L, g) ∧ E = "java/util/NoSuchElementException" ∧ ¬ (k_is p n ∧ k_is l m)) 0 [some (.ref 0), some (.int p), some (.int l)] [] (sh, I, R, L, g) 0 0
  refine AW.aload_n dX10_may_0 rfl ?_
  refine AW.iload_n dX10_may_1 rfl ?_
  refine AW.callV (b := 0) (As := [.int p]) hG.2.2 (vX10_168 hG) (hM.1 0 _ rfl) (k_X10_requirePerson hK (d := 7) (Nat.le_refl _) hXS hM hRt ht3 hg (by assumption) (by assumption) p) (by omega) dX10_may_2 rfl rfl (Nat.le_of_ble_eq_true rfl) (fun v w9 hq9 h09 => absurd (by obtain ⟨-, e9, -⟩ := hq9; rw [e9] at h09; exact h09) hg) (by decide) (by decide) (fun E w9 h9 => ⟨h9.2.1, h9.1, fun h => h9.2.2 h.1⟩) (fun v2 w2 hq2 => ?_)
  obtain ⟨rfl, rfl, his2⟩ := hq2
  show AW G pX10_may d (fun v w => w = (sh, f_look I 90 t 47 n m, R, L, g) ∧ ∃ a b, a < n ∧ b < m ∧ p = nI a ∧ l = nI b ∧ v = some (.int (f_hin (f_look I 90 t 47 n m) t n a b))) (fun E w => w = (sh, I, R, L, g) ∧ E = "java/util/NoSuchElementException" ∧ ¬ (k_is p n ∧ k_is l m)) 5 [some (.ref 0), some (.int p), some (.int l)] [] (sh, I, R, L, g) 1 6
  refine AW.aload_n dX10_may_5 rfl ?_
  refine AW.iload_n dX10_may_6 rfl ?_
  refine AW.callV (b := 0) (As := [.int l]) hG.2.2 (vX10_191 hG) (hM.1 0 _ rfl) (k_X10_requireLoaf hK (d := 7) (Nat.le_refl _) hXS hM hRt ht3 hg (by assumption) (by assumption) l) (by omega) dX10_may_7 rfl rfl (Nat.le_of_ble_eq_true rfl) (fun v w9 hq9 h09 => absurd (by obtain ⟨-, e9, -⟩ := hq9; rw [e9] at h09; exact h09) hg) (by decide) (by decide) (fun E w9 h9 => ⟨h9.2.1, h9.1, fun h => h9.2.2 h.2⟩) (fun v7 w7 hq7 => ?_)
  obtain ⟨rfl, rfl, his7⟩ := hq7
  show AW G pX10_may d (fun v w => w = (sh, f_look I 90 t 47 n m, R, L, g) ∧ ∃ a b, a < n ∧ b < m ∧ p = nI a ∧ l = nI b ∧ v = some (.int (f_hin (f_look I 90 t 47 n m) t n a b))) (fun E w => w = (sh, I, R, L, g) ∧ E = "java/util/NoSuchElementException" ∧ ¬ (k_is p n ∧ k_is l m)) 10 [some (.ref 0), some (.int p), some (.int l)] [] (sh, I, R, L, g) 2 12
  refine AW.aload_n dX10_may_10 rfl ?_
  refine AW.callV (b := 0) (As := []) hG.2.2 (vX10_147 hG) (hM.1 0 _ rfl) (k_X10_lookAround hK (d := 3) (Nat.le_refl _) hXS hM hRt ht3 (by assumption) (by assumption) (by assumption) (by assumption)) (by omega) dX10_may_11 rfl rfl (Nat.le_of_ble_eq_true rfl) (fun v w9 hq9 h09 => by obtain ⟨rfl, rfl⟩ := hq9; exact ⟨h09, rfl⟩) (by decide) (by decide) (fun _ _ hx => absurd hx id) (fun v11 w11 hq11 => ?_)
  obtain ⟨rfl, rfl⟩ := hq11
  refine AW.namI (fun I11 eI11 => ?_)
  show AW G pX10_may d (fun v w => w = (sh, f_look I 90 t 47 n m, R, L, g) ∧ ∃ a b, a < n ∧ b < m ∧ p = nI a ∧ l = nI b ∧ v = some (.int (f_hin (f_look I 90 t 47 n m) t n a b))) (fun E w => w = (sh, I, R, L, g) ∧ E = "java/util/NoSuchElementException" ∧ ¬ (k_is p n ∧ k_is l m)) 14 [some (.ref 0), some (.int p), some (.int l)] [] (sh, I11, R, L, g) 2 12
  obtain ⟨a, ha, hpa⟩ := id his2
  obtain ⟨b, hb, hlb⟩ := id his7
  have hb6 : b < 6 := by omega
  have hJn : I11 t 0 = nI n := by rw [eI11, f_look_K _ _ _ _ (by omega) (by omega)]; exact hn
  refine AW.aload_n dX10_may_14 rfl ?_
  refine AW.iload_n dX10_may_15 rfl ?_
  refine AW.iload_n dX10_may_16 rfl ?_
  refine AW.callV (b := 0) (As := [.int p, .int l]) hG.2.2 (vX10_230 hG) (hM.1 0 _ rfl) (k_X10_hindrance hK (d := 2) (Nat.le_refl _) hXS hM hRt ht3 (by assumption) (by assumption) p l (by assumption) (by omega) (by assumption) (by assumption)) (by omega) dX10_may_17 rfl rfl (Nat.le_of_ble_eq_true rfl) (fun v w9 hq9 h09 => by obtain ⟨rfl, rfl⟩ := hq9; exact ⟨h09, rfl⟩) (by decide) (by decide) (fun _ _ hx => absurd hx id) (fun v17 w17 hq17 => ?_)
  obtain ⟨rfl, rfl⟩ := hq17
  refine AW.nam (fun x17 ex17 => ?_)
  exact AW.iret dX10_may_20 rfl (by decide) (by decide) (⟨by rw [eI11], a, b, ha, hb, hpa, hlb, by rw [ex17, eI11]⟩)
abbrev pX10_why : am_M := (yX10_why, cX10_why, 3, (some .int), 2, 12)
theorem dX10_why_0 : decode cX10_why 0 = .ok (.aload_n 0, 1) := by decide +kernel
theorem dX10_why_1 : decode cX10_why 1 = .ok (.iload_n 1, 1) := by decide +kernel
theorem dX10_why_2 : decode cX10_why 2 = .ok (.invokevirtual 191, 3) := by decide +kernel
theorem dX10_why_5 : decode cX10_why 5 = .ok (.iload_n 2, 1) := by decide +kernel
theorem dX10_why_6 : decode cX10_why 6 = .ok (.ifCond .lt 9, 3) := by decide +kernel
theorem dX10_why_9 : decode cX10_why 9 = .ok (.iload_n 2, 1) := by decide +kernel
theorem dX10_why_10 : decode cX10_why 10 = .ok (.bipush 6, 2) := by decide +kernel
theorem dX10_why_12 : decode cX10_why 12 = .ok (.if_icmp .le 13, 3) := by decide +kernel
theorem dX10_why_15 : decode cX10_why 15 = .ok (.new 163, 3) := by decide +kernel
theorem dX10_why_18 : decode cX10_why 18 = .ok (.dup, 1) := by decide +kernel
theorem dX10_why_19 : decode cX10_why 19 = .ok (.ldc 233, 2) := by decide +kernel
theorem dX10_why_21 : decode cX10_why 21 = .ok (.invokespecial 167, 3) := by decide +kernel
theorem dX10_why_24 : decode cX10_why 24 = .ok (.athrow, 1) := by decide +kernel
theorem dX10_why_25 : decode cX10_why 25 = .ok (.aload_n 0, 1) := by decide +kernel
theorem dX10_why_26 : decode cX10_why 26 = .ok (.iload_n 1, 1) := by decide +kernel
theorem dX10_why_27 : decode cX10_why 27 = .ok (.iload_n 2, 1) := by decide +kernel
theorem dX10_why_28 : decode cX10_why 28 = .ok (.invokevirtual 214, 3) := by decide +kernel
theorem dX10_why_31 : decode cX10_why 31 = .ok (.ireturn, 1) := by decide +kernel
set_option maxRecDepth 100000 in
set_option maxHeartbeats 4000000 in
theorem k_X10_why {G : am_G} (hK : k_OK G) {d : Nat} (hd : 8 ≤ d) {sh : List (Nat ⊕ (Nat × Nat))} {I : Nat → Nat → Int32} {R : Nat → Nat → Option Nat} {L : Nat → Nat → Int64} {g : Nat} (hXS : k_XS G) {t : Nat} (hM : k_Main sh R) (hRt : R 0 1 = some t) (ht3 : t = 3 ∨ t = 22) (hg : g ≠ 0) {n m : Nat} (hn : I t 0 = nI n) (hn8 : n ≤ 8) (hm : I (t + 8) 0 = nI m) (hm6 : m ≤ 6) (l an : Int32) : AM G pX10_why d [.ref 0, .int l, .int an] (sh, I, R, L, g) (fun v w => w = (sh, f_look I 90 t 47 n m, R, L, g) ∧ ∃ b, b < m ∧ l = nI b ∧ ¬ an < 0 ∧ an ≤ 6 ∧ v = some (.int (f_pw (f_look I 90 t 47 n m) t n b an n))) (fun E w => w = (sh, I, R, L, g) ∧ E = "java/util/NoSuchElementException" ∧ ¬ (k_is l m ∧ ¬ an < 0 ∧ an ≤ 6)) := by
  have hG := hK.1
  have ht : k_Town sh R t := by rcases ht3 with rfl | rfl; exact kM_3 hM; exact kM_22 hM
  have o41 := kM_41 hM
  have o42 := kM_42 hM
  have o43 := kM_43 hM
  have o47 := kM_47 hM
  have o60 := kM_60 hM
  have o90 := kM_90 hM
  have o93 := kM_93 hM
  have o97 := kM_97 hM
  have o79 := kM_79 hM
  have o1 := kM_1 hM
  refine AM.of (n := 0) (by decide +kernel) (Nat.le_of_ble_eq_true rfl) ?_
  show AW G pX10_why d (fun v w => w = (sh, f_look I 90 t 47 n m, R, L, g) ∧ ∃ b, b < m ∧ l = nI b ∧ ¬ an < 0 ∧ an ≤ 6 ∧ v = some (.int (f_pw (f_look I 90 t 47 n m) t n b an n))) (fun E w => w = (sh, I, R, L, g) ∧ E = "java/util/NoSuchElementException" ∧ ¬ (k_is l m ∧ ¬ an < 0 ∧ an ≤ 6)) 0 [some (.ref 0), some (.int l), some (.int an)] [] (sh, I, R, L, g) 0 0
  refine AW.aload_n dX10_why_0 rfl ?_
  refine AW.iload_n dX10_why_1 rfl ?_
  refine AW.callV (b := 0) (As := [.int l]) hG.2.2 (vX10_191 hG) (hM.1 0 _ rfl) (k_X10_requireLoaf hK (d := 7) (Nat.le_refl _) hXS hM hRt ht3 hg (by assumption) (by assumption) l) (by omega) dX10_why_2 rfl rfl (Nat.le_of_ble_eq_true rfl) (fun v w9 hq9 h09 => absurd (by obtain ⟨-, e9, -⟩ := hq9; rw [e9] at h09; exact h09) hg) (by decide) (by decide) (fun E w9 h9 => ⟨h9.2.1, h9.1, fun h => h9.2.2 h.1⟩) (fun v2 w2 hq2 => ?_)
  obtain ⟨rfl, rfl, his2⟩ := hq2
  show AW G pX10_why d (fun v w => w = (sh, f_look I 90 t 47 n m, R, L, g) ∧ ∃ b, b < m ∧ l = nI b ∧ ¬ an < 0 ∧ an ≤ 6 ∧ v = some (.int (f_pw (f_look I 90 t 47 n m) t n b an n))) (fun E w => w = (sh, I, R, L, g) ∧ E = "java/util/NoSuchElementException" ∧ ¬ (k_is l m ∧ ¬ an < 0 ∧ an ≤ 6)) 5 [some (.ref 0), some (.int l), some (.int an)] [] (sh, I, R, L, g) 1 6
  obtain ⟨b, hb, hlb⟩ := id his2
  have hb6 : b < 6 := by omega
  refine AW.iload_n dX10_why_5 rfl ?_
  refine AW.if_lt 15 dX10_why_6 (by decide) (fun h6 => ?_) (fun h6 => ?_)
  · exact AW.throwN (hXS.1 233 (by decide)) dX10_why_15 dX10_why_18 dX10_why_19 dX10_why_21 dX10_why_24 (by omega) (Nat.le_of_ble_eq_true rfl) (by decide) (by decide) hg (⟨rfl, rfl, fun h => h.2.1 h6⟩)
  · refine AW.iload_n dX10_why_9 rfl ?_
    refine AW.bipush 6 dX10_why_10 (by decide) ?_
    refine AW.icmp_le 25 dX10_why_12 (by decide) (fun h12 => ?_) (fun h12 => ?_)
    · refine AW.aload_n dX10_why_25 rfl ?_
      refine AW.iload_n dX10_why_26 rfl ?_
      refine AW.iload_n dX10_why_27 rfl ?_
      refine AW.callV (b := 0) (As := [.int l, .int an]) hG.2.2 (vX10_214 hG) (hM.1 0 _ rfl) (k_X10_peopleWith hK (d := 4) (Nat.le_refl _) hXS hM hRt ht3 (by assumption) (by assumption) (by assumption) (by assumption) l an (by assumption) (by assumption)) (by omega) dX10_why_28 rfl rfl (Nat.le_of_ble_eq_true rfl) (fun v w9 hq9 h09 => by obtain ⟨rfl, rfl⟩ := hq9; exact ⟨h09, rfl⟩) (by decide) (by decide) (fun _ _ hx => absurd hx id) (fun v28 w28 hq28 => ?_)
      obtain ⟨rfl, rfl⟩ := hq28
      refine AW.namI (fun I28 eI28 => ?_)
      refine AW.nam (fun x28 ex28 => ?_)
      exact AW.iret dX10_why_31 rfl (by decide) (by decide) (⟨by rw [eI28], b, hb, hlb, h6, h12, by rw [ex28]⟩)
    · exact AW.throwN (hXS.1 233 (by decide)) dX10_why_15 dX10_why_18 dX10_why_19 dX10_why_21 dX10_why_24 (by omega) (Nat.le_of_ble_eq_true rfl) (by decide) (by decide) hg (⟨rfl, rfl, fun h => h12 h.2.2⟩)
def f_aW (J : Nat → Nat → Int32) (t n k : Nat) (kd fi se : Int32) : Nat → Nat → Int32 := if k = 40 then f_act (f_drop J t n 42) t n 42 39 kd fi se else f_act J t n 42 k kd fi se
def f_ref (J : Nat → Nat → Int32) (k : Nat) : Nat → Nat → Int32 := am_uA J 54 (upd (J 54) k (J 54 k + 1))
theorem f_aok_k {I J : Nat → Nat → Int32} {k : Nat} (h : f_aok I 42 k) (h1 : J 51 = I 51) (h2 : J 53 = I 53) : f_aok J 42 k := by
  intro j hj
  have := h j hj
  show (J 51 j = 0 → vp_in (J 53 j) 6) ∧ (J 51 j = 1 → vp_in (J 53 j) 8)
  rw [h1, h2]
  exact this
abbrev pX10_cut : am_M := (yX10_cut, cX10_cut, 3, (some .boolean), 2, 12)
theorem dX10_cut_0 : decode cX10_cut 0 = .ok (.aload_n 0, 1) := by decide +kernel
theorem dX10_cut_1 : decode cX10_cut 1 = .ok (.iload_n 1, 1) := by decide +kernel
theorem dX10_cut_2 : decode cX10_cut 2 = .ok (.invokevirtual 168, 3) := by decide +kernel
theorem dX10_cut_5 : decode cX10_cut 5 = .ok (.aload_n 0, 1) := by decide +kernel
theorem dX10_cut_6 : decode cX10_cut 6 = .ok (.iload_n 2, 1) := by decide +kernel
theorem dX10_cut_7 : decode cX10_cut 7 = .ok (.invokevirtual 191, 3) := by decide +kernel
theorem dX10_cut_10 : decode cX10_cut 10 = .ok (.aload_n 0, 1) := by decide +kernel
theorem dX10_cut_11 : decode cX10_cut 11 = .ok (.invokevirtual 147, 3) := by decide +kernel
theorem dX10_cut_14 : decode cX10_cut 14 = .ok (.aload_n 0, 1) := by decide +kernel
theorem dX10_cut_15 : decode cX10_cut 15 = .ok (.iload_n 1, 1) := by decide +kernel
theorem dX10_cut_16 : decode cX10_cut 16 = .ok (.iload_n 2, 1) := by decide +kernel
theorem dX10_cut_17 : decode cX10_cut 17 = .ok (.invokevirtual 230, 3) := by decide +kernel
theorem dX10_cut_20 : decode cX10_cut 20 = .ok (.ifCond .eq 18, 3) := by decide +kernel
theorem dX10_cut_23 : decode cX10_cut 23 = .ok (.aload_n 0, 1) := by decide +kernel
theorem dX10_cut_24 : decode cX10_cut 24 = .ok (.getfield 33, 3) := by decide +kernel
theorem dX10_cut_27 : decode cX10_cut 27 = .ok (.getfield 100, 3) := by decide +kernel
theorem dX10_cut_30 : decode cX10_cut 30 = .ok (.iconst 1, 1) := by decide +kernel
theorem dX10_cut_31 : decode cX10_cut 31 = .ok (.dup2, 1) := by decide +kernel
theorem dX10_cut_32 : decode cX10_cut 32 = .ok (.iaload, 1) := by decide +kernel
theorem dX10_cut_33 : decode cX10_cut 33 = .ok (.iconst 1, 1) := by decide +kernel
theorem dX10_cut_34 : decode cX10_cut 34 = .ok (.iadd, 1) := by decide +kernel
theorem dX10_cut_35 : decode cX10_cut 35 = .ok (.iastore, 1) := by decide +kernel
theorem dX10_cut_36 : decode cX10_cut 36 = .ok (.iconst 0, 1) := by decide +kernel
theorem dX10_cut_37 : decode cX10_cut 37 = .ok (.ireturn, 1) := by decide +kernel
theorem dX10_cut_38 : decode cX10_cut 38 = .ok (.aload_n 0, 1) := by decide +kernel
theorem dX10_cut_39 : decode cX10_cut 39 = .ok (.getfield 33, 3) := by decide +kernel
theorem dX10_cut_42 : decode cX10_cut 42 = .ok (.getfield 110, 3) := by decide +kernel
theorem dX10_cut_45 : decode cX10_cut 45 = .ok (.aload_n 0, 1) := by decide +kernel
theorem dX10_cut_46 : decode cX10_cut 46 = .ok (.getfield 19, 3) := by decide +kernel
theorem dX10_cut_49 : decode cX10_cut 49 = .ok (.iconst 0, 1) := by decide +kernel
theorem dX10_cut_50 : decode cX10_cut 50 = .ok (.iload_n 1, 1) := by decide +kernel
theorem dX10_cut_51 : decode cX10_cut 51 = .ok (.iload_n 2, 1) := by decide +kernel
theorem dX10_cut_52 : decode cX10_cut 52 = .ok (.invokevirtual 249, 3) := by decide +kernel
theorem dX10_cut_55 : decode cX10_cut 55 = .ok (.iconst 1, 1) := by decide +kernel
theorem dX10_cut_56 : decode cX10_cut 56 = .ok (.ireturn, 1) := by decide +kernel
set_option maxRecDepth 100000 in
set_option maxHeartbeats 4000000 in
theorem k_X10_cut {G : am_G} (hK : k_OK G) {d : Nat} (hd : 8 ≤ d) {sh : List (Nat ⊕ (Nat × Nat))} {I : Nat → Nat → Int32} {R : Nat → Nat → Option Nat} {L : Nat → Nat → Int64} {g : Nat} (hXS : k_XS G) {t : Nat} (hM : k_Main sh R) (hRt : R 0 1 = some t) (ht3 : t = 3 ∨ t = 22) (hg : g ≠ 0) {n m : Nat} (hn : I t 0 = nI n) (hn8 : n ≤ 8) (hm : I (t + 8) 0 = nI m) (hm6 : m ≤ 6) {k : Nat} (hk : I 42 5 = nI k) (hk40 : k ≤ 40) (hok : f_aok I 42 k) (p l : Int32) : AM G pX10_cut d [.ref 0, .int p, .int l] (sh, I, R, L, g) (fun v w => ∃ a b, a < n ∧ b < m ∧ p = nI a ∧ l = nI b ∧ v = some (.int (kb (decide (f_hin (f_look I 90 t 47 n m) t n a b = 0)))) ∧ w = (sh, if f_hin (f_look I 90 t 47 n m) t n a b = 0 then f_aW (f_look I 90 t 47 n m) t n k 0 p l else f_ref (f_look I 90 t 47 n m) 1, R, L, g)) (fun E w => w = (sh, I, R, L, g) ∧ E = "java/util/NoSuchElementException" ∧ ¬ (k_is p n ∧ k_is l m)) := by
  have hG := hK.1
  have ht : k_Town sh R t := by rcases ht3 with rfl | rfl; exact kM_3 hM; exact kM_22 hM
  have o41 := kM_41 hM
  have o42 := kM_42 hM
  have o43 := kM_43 hM
  have o47 := kM_47 hM
  have o60 := kM_60 hM
  have o90 := kM_90 hM
  have o93 := kM_93 hM
  have o97 := kM_97 hM
  have o79 := kM_79 hM
  have o1 := kM_1 hM
  refine AM.of (n := 0) (by decide +kernel) (Nat.le_of_ble_eq_true rfl) ?_
  show AW G pX10_cut d (fun v w => ∃ a b, a < n ∧ b < m ∧ p = nI a ∧ l = nI b ∧ v = some (.int (kb (decide (f_hin (f_look I 90 t 47 n m) t n a b = 0)))) ∧ w = (sh, if f_hin (f_look I 90 t 47 n m) t n a b = 0 then f_aW (f_look I 90 t 47 n m) t n k 0 p l else f_ref (f_look I 90 t 47 n m) 1, R, L, g)) (fun E w => w = (sh, I, R, L, g) ∧ E = "java/util/NoSuchElementException" ∧ ¬ (k_is p n ∧ k_is l m)) 0 [some (.ref 0), some (.int p), some (.int l)] [] (sh, I, R, L, g) 0 0
  refine AW.aload_n dX10_cut_0 rfl ?_
  refine AW.iload_n dX10_cut_1 rfl ?_
  refine AW.callV (b := 0) (As := [.int p]) hG.2.2 (vX10_168 hG) (hM.1 0 _ rfl) (k_X10_requirePerson hK (d := 7) (Nat.le_refl _) hXS hM hRt ht3 hg (by assumption) (by assumption) p) (by omega) dX10_cut_2 rfl rfl (Nat.le_of_ble_eq_true rfl) (fun v w9 hq9 h09 => absurd (by obtain ⟨-, e9, -⟩ := hq9; rw [e9] at h09; exact h09) hg) (by decide) (by decide) (fun E w9 h9 => ⟨h9.2.1, h9.1, fun h => h9.2.2 h.1⟩) (fun v2 w2 hq2 => ?_)
  obtain ⟨rfl, rfl, his2⟩ := hq2
  show AW G pX10_cut d (fun v w => ∃ a b, a < n ∧ b < m ∧ p = nI a ∧ l = nI b ∧ v = some (.int (kb (decide (f_hin (f_look I 90 t 47 n m) t n a b = 0)))) ∧ w = (sh, if f_hin (f_look I 90 t 47 n m) t n a b = 0 then f_aW (f_look I 90 t 47 n m) t n k 0 p l else f_ref (f_look I 90 t 47 n m) 1, R, L, g)) (fun E w => w = (sh, I, R, L, g) ∧ E = "java/util/NoSuchElementException" ∧ ¬ (k_is p n ∧ k_is l m)) 5 [some (.ref 0), some (.int p), some (.int l)] [] (sh, I, R, L, g) 1 6
  refine AW.aload_n dX10_cut_5 rfl ?_
  refine AW.iload_n dX10_cut_6 rfl ?_
  refine AW.callV (b := 0) (As := [.int l]) hG.2.2 (vX10_191 hG) (hM.1 0 _ rfl) (k_X10_requireLoaf hK (d := 7) (Nat.le_refl _) hXS hM hRt ht3 hg (by assumption) (by assumption) l) (by omega) dX10_cut_7 rfl rfl (Nat.le_of_ble_eq_true rfl) (fun v w9 hq9 h09 => absurd (by obtain ⟨-, e9, -⟩ := hq9; rw [e9] at h09; exact h09) hg) (by decide) (by decide) (fun E w9 h9 => ⟨h9.2.1, h9.1, fun h => h9.2.2 h.2⟩) (fun v7 w7 hq7 => ?_)
  obtain ⟨rfl, rfl, his7⟩ := hq7
  show AW G pX10_cut d (fun v w => ∃ a b, a < n ∧ b < m ∧ p = nI a ∧ l = nI b ∧ v = some (.int (kb (decide (f_hin (f_look I 90 t 47 n m) t n a b = 0)))) ∧ w = (sh, if f_hin (f_look I 90 t 47 n m) t n a b = 0 then f_aW (f_look I 90 t 47 n m) t n k 0 p l else f_ref (f_look I 90 t 47 n m) 1, R, L, g)) (fun E w => w = (sh, I, R, L, g) ∧ E = "java/util/NoSuchElementException" ∧ ¬ (k_is p n ∧ k_is l m)) 10 [some (.ref 0), some (.int p), some (.int l)] [] (sh, I, R, L, g) 2 12
  refine AW.aload_n dX10_cut_10 rfl ?_
  refine AW.callV (b := 0) (As := []) hG.2.2 (vX10_147 hG) (hM.1 0 _ rfl) (k_X10_lookAround hK (d := 3) (Nat.le_refl _) hXS hM hRt ht3 (by assumption) (by assumption) (by assumption) (by assumption)) (by omega) dX10_cut_11 rfl rfl (Nat.le_of_ble_eq_true rfl) (fun v w9 hq9 h09 => by obtain ⟨rfl, rfl⟩ := hq9; exact ⟨h09, rfl⟩) (by decide) (by decide) (fun _ _ hx => absurd hx id) (fun v11 w11 hq11 => ?_)
  obtain ⟨rfl, rfl⟩ := hq11
  refine AW.namI (fun I11 eI11 => ?_)
  show AW G pX10_cut d (fun v w => ∃ a b, a < n ∧ b < m ∧ p = nI a ∧ l = nI b ∧ v = some (.int (kb (decide (f_hin (f_look I 90 t 47 n m) t n a b = 0)))) ∧ w = (sh, if f_hin (f_look I 90 t 47 n m) t n a b = 0 then f_aW (f_look I 90 t 47 n m) t n k 0 p l else f_ref (f_look I 90 t 47 n m) 1, R, L, g)) (fun E w => w = (sh, I, R, L, g) ∧ E = "java/util/NoSuchElementException" ∧ ¬ (k_is p n ∧ k_is l m)) 14 [some (.ref 0), some (.int p), some (.int l)] [] (sh, I11, R, L, g) 2 12
  obtain ⟨a, ha, hpa⟩ := id his2
  obtain ⟨b, hb, hlb⟩ := id his7
  have hb6 : b < 6 := by omega
  have hJn : I11 t 0 = nI n := by rw [eI11, f_look_K _ _ _ _ (by omega) (by omega)]; exact hn
  have hJk : I11 42 5 = nI k := by rw [eI11, f_look_K _ _ _ _ (by omega) (by omega)]; exact hk
  have hJok : f_aok I11 42 k := f_aok_k hok (by rw [eI11, f_look_K _ _ _ _ (by omega) (by omega)]) (by rw [eI11, f_look_K _ _ _ _ (by omega) (by omega)])
  have hbl : vp_in l 6 := k_is_in his7 hm6 (by decide)
  refine AW.aload_n dX10_cut_14 rfl ?_
  refine AW.iload_n dX10_cut_15 rfl ?_
  refine AW.iload_n dX10_cut_16 rfl ?_
  refine AW.callV (b := 0) (As := [.int p, .int l]) hG.2.2 (vX10_230 hG) (hM.1 0 _ rfl) (k_X10_hindrance hK (d := 2) (Nat.le_refl _) hXS hM hRt ht3 (by assumption) (by assumption) p l (by assumption) (by omega) (by assumption) (by assumption)) (by omega) dX10_cut_17 rfl rfl (Nat.le_of_ble_eq_true rfl) (fun v w9 hq9 h09 => by obtain ⟨rfl, rfl⟩ := hq9; exact ⟨h09, rfl⟩) (by decide) (by decide) (fun _ _ hx => absurd hx id) (fun v17 w17 hq17 => ?_)
  obtain ⟨rfl, rfl⟩ := hq17
  refine AW.nam (fun x17 ex17 => ?_)
  refine AW.if_eq 38 dX10_cut_20 (by decide) (fun h20 => ?_) (fun h20 => ?_)
  · rw [ex17] at h20
    refine AW.aload_n dX10_cut_38 rfl ?_
    refine AW.getR (c' := 41) (fX10_33 hG).r rfl (hM.1 0 _ rfl) (hM.2 (0, 4, 41) (by decide)) dX10_cut_39 ?_
    refine AW.getR (c' := 42) (fX10_110 hG) rfl (o41.1 0 _ rfl) (o41.2 (0, 0, 1) (by decide)) dX10_cut_42 ?_
    refine AW.aload_n dX10_cut_45 rfl ?_
    refine AW.getR (fX10_19 hG).r rfl (hM.1 0 _ rfl) hRt dX10_cut_46 ?_
    refine AW.iconst 0 dX10_cut_49 (by decide) ?_
    refine AW.iload_n dX10_cut_50 rfl ?_
    refine AW.iload_n dX10_cut_51 rfl ?_
    refine AW.callV (b := 42) (As := [.ref t, .int 0, .int p, .int l]) hG.2.2 (vX10_249 hG) (o42.1 0 _ rfl) (k_X8_act hK (d := 5) (Nat.le_refl _) o42 ht (by omega) (by assumption) (by assumption) k (by assumption) (by assumption) (by assumption) 0 p l (fun _ => hbl) (fun h => absurd h (by decide))) (by omega) dX10_cut_52 rfl rfl (Nat.le_of_ble_eq_true rfl) (fun v w9 hq9 h09 => by obtain ⟨rfl, rfl⟩ := hq9; exact ⟨h09, rfl⟩) (by decide) (by decide) (fun _ _ hx => absurd hx id) (fun v52 w52 hq52 => ?_)
    obtain ⟨rfl, rfl⟩ := hq52
    refine AW.namI (fun I52 eI52 => ?_)
    show AW G pX10_cut d (fun v w => ∃ a b, a < n ∧ b < m ∧ p = nI a ∧ l = nI b ∧ v = some (.int (kb (decide (f_hin (f_look I 90 t 47 n m) t n a b = 0)))) ∧ w = (sh, if f_hin (f_look I 90 t 47 n m) t n a b = 0 then f_aW (f_look I 90 t 47 n m) t n k 0 p l else f_ref (f_look I 90 t 47 n m) 1, R, L, g)) (fun E w => w = (sh, I, R, L, g) ∧ E = "java/util/NoSuchElementException" ∧ ¬ (k_is p n ∧ k_is l m)) 55 [some (.ref 0), some (.int p), some (.int l)] [] (sh, I52, R, L, g) 2 12
    refine AW.iconst 1 dX10_cut_55 (by decide) ?_
    exact AW.zret dX10_cut_56 rfl (by decide) (by decide) (by decide) (⟨a, b, ha, hb, hpa, hlb, by rw [kb_t (by rw [← eI11]; simpa using h20)], by rw [← eI11, if_pos h20, eI52]; rfl⟩)
  · rw [ex17] at h20
    refine AW.aload_n dX10_cut_23 rfl ?_
    refine AW.getR (c' := 41) (fX10_33 hG).r rfl (hM.1 0 _ rfl) (hM.2 (0, 4, 41) (by decide)) dX10_cut_24 ?_
    refine AW.getR (c' := 54) (fX10_100 hG) rfl (o41.1 0 _ rfl) (o41.2 (0, 1, 13) (by decide)) dX10_cut_27 ?_
    refine AW.iconst 1 dX10_cut_30 (by decide) ?_
    refine AW.dup2 dX10_cut_31 rfl rfl ?_
    refine AW.iald (o41.1 13 _ rfl) (by first | assumption | (unfold vp_in; decide) | exact vp_in_nI (by omega) (by decide)) dX10_cut_32 ?_
    refine AW.iconst 1 dX10_cut_33 (by decide) ?_
    refine AW.iadd dX10_cut_34 ?_
    refine AW.iast (o41.1 13 _ rfl) (by first | assumption | (unfold vp_in; decide) | exact vp_in_nI (by omega) (by decide)) dX10_cut_35 ?_
    refine AW.namI (fun I35 eI35 => ?_)
    refine AW.iconst 0 dX10_cut_36 (by decide) ?_
    exact AW.zret dX10_cut_37 rfl (by decide) (by decide) (by decide) (⟨a, b, ha, hb, hpa, hlb, by rw [kb_f (by rw [← eI11]; simpa using h20)], by rw [← eI11, if_neg h20, eI35]; rfl⟩)
abbrev pX10_thank : am_M := (yX10_thank, cX10_thank, 3, (some .int), 2, 12)
theorem dX10_thank_0 : decode cX10_thank 0 = .ok (.aload_n 0, 1) := by decide +kernel
theorem dX10_thank_1 : decode cX10_thank 1 = .ok (.iload_n 1, 1) := by decide +kernel
theorem dX10_thank_2 : decode cX10_thank 2 = .ok (.invokevirtual 168, 3) := by decide +kernel
theorem dX10_thank_5 : decode cX10_thank 5 = .ok (.aload_n 0, 1) := by decide +kernel
theorem dX10_thank_6 : decode cX10_thank 6 = .ok (.iload_n 2, 1) := by decide +kernel
theorem dX10_thank_7 : decode cX10_thank 7 = .ok (.invokevirtual 168, 3) := by decide +kernel
theorem dX10_thank_10 : decode cX10_thank 10 = .ok (.iload_n 1, 1) := by decide +kernel
theorem dX10_thank_11 : decode cX10_thank 11 = .ok (.iload_n 2, 1) := by decide +kernel
theorem dX10_thank_12 : decode cX10_thank 12 = .ok (.if_icmp .ne 18, 3) := by decide +kernel
theorem dX10_thank_15 : decode cX10_thank 15 = .ok (.aload_n 0, 1) := by decide +kernel
theorem dX10_thank_16 : decode cX10_thank 16 = .ok (.getfield 33, 3) := by decide +kernel
theorem dX10_thank_19 : decode cX10_thank 19 = .ok (.getfield 100, 3) := by decide +kernel
theorem dX10_thank_22 : decode cX10_thank 22 = .ok (.iconst 1, 1) := by decide +kernel
theorem dX10_thank_23 : decode cX10_thank 23 = .ok (.dup2, 1) := by decide +kernel
theorem dX10_thank_24 : decode cX10_thank 24 = .ok (.iaload, 1) := by decide +kernel
theorem dX10_thank_25 : decode cX10_thank 25 = .ok (.iconst 1, 1) := by decide +kernel
theorem dX10_thank_26 : decode cX10_thank 26 = .ok (.iadd, 1) := by decide +kernel
theorem dX10_thank_27 : decode cX10_thank 27 = .ok (.iastore, 1) := by decide +kernel
theorem dX10_thank_28 : decode cX10_thank 28 = .ok (.iconst (-1), 1) := by decide +kernel
theorem dX10_thank_29 : decode cX10_thank 29 = .ok (.ireturn, 1) := by decide +kernel
theorem dX10_thank_30 : decode cX10_thank 30 = .ok (.aload_n 0, 1) := by decide +kernel
theorem dX10_thank_31 : decode cX10_thank 31 = .ok (.getfield 33, 3) := by decide +kernel
theorem dX10_thank_34 : decode cX10_thank 34 = .ok (.getfield 110, 3) := by decide +kernel
theorem dX10_thank_37 : decode cX10_thank 37 = .ok (.aload_n 0, 1) := by decide +kernel
theorem dX10_thank_38 : decode cX10_thank 38 = .ok (.getfield 19, 3) := by decide +kernel
theorem dX10_thank_41 : decode cX10_thank 41 = .ok (.iconst 1, 1) := by decide +kernel
theorem dX10_thank_42 : decode cX10_thank 42 = .ok (.iload_n 1, 1) := by decide +kernel
theorem dX10_thank_43 : decode cX10_thank 43 = .ok (.iload_n 2, 1) := by decide +kernel
theorem dX10_thank_44 : decode cX10_thank 44 = .ok (.invokevirtual 249, 3) := by decide +kernel
theorem dX10_thank_47 : decode cX10_thank 47 = .ok (.aload_n 0, 1) := by decide +kernel
theorem dX10_thank_48 : decode cX10_thank 48 = .ok (.getfield 33, 3) := by decide +kernel
theorem dX10_thank_51 : decode cX10_thank 51 = .ok (.getfield 110, 3) := by decide +kernel
theorem dX10_thank_54 : decode cX10_thank 54 = .ok (.getfield 114, 3) := by decide +kernel
theorem dX10_thank_57 : decode cX10_thank 57 = .ok (.getfield 183, 3) := by decide +kernel
theorem dX10_thank_60 : decode cX10_thank 60 = .ok (.iload_n 2, 1) := by decide +kernel
theorem dX10_thank_61 : decode cX10_thank 61 = .ok (.iaload, 1) := by decide +kernel
theorem dX10_thank_62 : decode cX10_thank 62 = .ok (.ireturn, 1) := by decide +kernel
set_option maxRecDepth 100000 in
set_option maxHeartbeats 4000000 in
theorem k_X10_thank {G : am_G} (hK : k_OK G) {d : Nat} (hd : 8 ≤ d) {sh : List (Nat ⊕ (Nat × Nat))} {I : Nat → Nat → Int32} {R : Nat → Nat → Option Nat} {L : Nat → Nat → Int64} {g : Nat} (hXS : k_XS G) {t : Nat} (hM : k_Main sh R) (hRt : R 0 1 = some t) (ht3 : t = 3 ∨ t = 22) (hg : g ≠ 0) {n : Nat} (hn : I t 0 = nI n) (hn8 : n ≤ 8) {k : Nat} (hk : I 42 5 = nI k) (hk40 : k ≤ 40) (hok : f_aok I 42 k) (p q : Int32) : AM G pX10_thank d [.ref 0, .int p, .int q] (sh, I, R, L, g) (fun v w => ∃ a b, a < n ∧ b < n ∧ p = nI a ∧ q = nI b ∧ v = some (.int (if p = q then -1 else (f_aW I t n k 1 p q) 50 b)) ∧ w = (sh, if p = q then f_ref I 1 else f_aW I t n k 1 p q, R, L, g)) (fun E w => w = (sh, I, R, L, g) ∧ E = "java/util/NoSuchElementException" ∧ ¬ (k_is p n ∧ k_is q n)) := by
  have hG := hK.1
  have ht : k_Town sh R t := by rcases ht3 with rfl | rfl; exact kM_3 hM; exact kM_22 hM
  have o41 := kM_41 hM
  have o42 := kM_42 hM
  have o43 := kM_43 hM
  have o47 := kM_47 hM
  have o60 := kM_60 hM
  have o90 := kM_90 hM
  have o93 := kM_93 hM
  have o97 := kM_97 hM
  have o79 := kM_79 hM
  have o1 := kM_1 hM
  refine AM.of (n := 0) (by decide +kernel) (Nat.le_of_ble_eq_true rfl) ?_
  show AW G pX10_thank d (fun v w => ∃ a b, a < n ∧ b < n ∧ p = nI a ∧ q = nI b ∧ v = some (.int (if p = q then -1 else (f_aW I t n k 1 p q) 50 b)) ∧ w = (sh, if p = q then f_ref I 1 else f_aW I t n k 1 p q, R, L, g)) (fun E w => w = (sh, I, R, L, g) ∧ E = "java/util/NoSuchElementException" ∧ ¬ (k_is p n ∧ k_is q n)) 0 [some (.ref 0), some (.int p), some (.int q)] [] (sh, I, R, L, g) 0 0
  refine AW.aload_n dX10_thank_0 rfl ?_
  refine AW.iload_n dX10_thank_1 rfl ?_
  refine AW.callV (b := 0) (As := [.int p]) hG.2.2 (vX10_168 hG) (hM.1 0 _ rfl) (k_X10_requirePerson hK (d := 7) (Nat.le_refl _) hXS hM hRt ht3 hg (by assumption) (by assumption) p) (by omega) dX10_thank_2 rfl rfl (Nat.le_of_ble_eq_true rfl) (fun v w9 hq9 h09 => absurd (by obtain ⟨-, e9, -⟩ := hq9; rw [e9] at h09; exact h09) hg) (by decide) (by decide) (fun E w9 h9 => ⟨h9.2.1, h9.1, fun h => h9.2.2 h.1⟩) (fun v2 w2 hq2 => ?_)
  obtain ⟨rfl, rfl, his2⟩ := hq2
  show AW G pX10_thank d (fun v w => ∃ a b, a < n ∧ b < n ∧ p = nI a ∧ q = nI b ∧ v = some (.int (if p = q then -1 else (f_aW I t n k 1 p q) 50 b)) ∧ w = (sh, if p = q then f_ref I 1 else f_aW I t n k 1 p q, R, L, g)) (fun E w => w = (sh, I, R, L, g) ∧ E = "java/util/NoSuchElementException" ∧ ¬ (k_is p n ∧ k_is q n)) 5 [some (.ref 0), some (.int p), some (.int q)] [] (sh, I, R, L, g) 1 6
  refine AW.aload_n dX10_thank_5 rfl ?_
  refine AW.iload_n dX10_thank_6 rfl ?_
  refine AW.callV (b := 0) (As := [.int q]) hG.2.2 (vX10_168 hG) (hM.1 0 _ rfl) (k_X10_requirePerson hK (d := 7) (Nat.le_refl _) hXS hM hRt ht3 hg (by assumption) (by assumption) q) (by omega) dX10_thank_7 rfl rfl (Nat.le_of_ble_eq_true rfl) (fun v w9 hq9 h09 => absurd (by obtain ⟨-, e9, -⟩ := hq9; rw [e9] at h09; exact h09) hg) (by decide) (by decide) (fun E w9 h9 => ⟨h9.2.1, h9.1, fun h => h9.2.2 h.2⟩) (fun v7 w7 hq7 => ?_)
  obtain ⟨rfl, rfl, his7⟩ := hq7
  show AW G pX10_thank d (fun v w => ∃ a b, a < n ∧ b < n ∧ p = nI a ∧ q = nI b ∧ v = some (.int (if p = q then -1 else (f_aW I t n k 1 p q) 50 b)) ∧ w = (sh, if p = q then f_ref I 1 else f_aW I t n k 1 p q, R, L, g)) (fun E w => w = (sh, I, R, L, g) ∧ E = "java/util/NoSuchElementException" ∧ ¬ (k_is p n ∧ k_is q n)) 10 [some (.ref 0), some (.int p), some (.int q)] [] (sh, I, R, L, g) 2 12
  obtain ⟨a, ha, hpa⟩ := id his2
  obtain ⟨b, hb, hqb⟩ := id his7
  have hbq : vp_in q 8 := k_is_in his7 hn8 (by decide)
  have hcq : q.toNatClampNeg = b := k_lit hqb (by omega)
  refine AW.iload_n dX10_thank_10 rfl ?_
  refine AW.iload_n dX10_thank_11 rfl ?_
  refine AW.icmp_ne 30 dX10_thank_12 (by decide) (fun h12 => ?_) (fun h12 => ?_)
  · refine AW.aload_n dX10_thank_30 rfl ?_
    refine AW.getR (c' := 41) (fX10_33 hG).r rfl (hM.1 0 _ rfl) (hM.2 (0, 4, 41) (by decide)) dX10_thank_31 ?_
    refine AW.getR (c' := 42) (fX10_110 hG) rfl (o41.1 0 _ rfl) (o41.2 (0, 0, 1) (by decide)) dX10_thank_34 ?_
    refine AW.aload_n dX10_thank_37 rfl ?_
    refine AW.getR (fX10_19 hG).r rfl (hM.1 0 _ rfl) hRt dX10_thank_38 ?_
    refine AW.iconst 1 dX10_thank_41 (by decide) ?_
    refine AW.iload_n dX10_thank_42 rfl ?_
    refine AW.iload_n dX10_thank_43 rfl ?_
    refine AW.callV (b := 42) (As := [.ref t, .int 1, .int p, .int q]) hG.2.2 (vX10_249 hG) (o42.1 0 _ rfl) (k_X8_act hK (d := 5) (Nat.le_refl _) o42 ht (by omega) (by assumption) (by assumption) k (by assumption) (by assumption) (by assumption) 1 p q (fun h => absurd h (by decide)) (fun _ => hbq)) (by omega) dX10_thank_44 rfl rfl (Nat.le_of_ble_eq_true rfl) (fun v w9 hq9 h09 => by obtain ⟨rfl, rfl⟩ := hq9; exact ⟨h09, rfl⟩) (by decide) (by decide) (fun _ _ hx => absurd hx id) (fun v44 w44 hq44 => ?_)
    obtain ⟨rfl, rfl⟩ := hq44
    refine AW.namI (fun I44 eI44 => ?_)
    show AW G pX10_thank d (fun v w => ∃ a b, a < n ∧ b < n ∧ p = nI a ∧ q = nI b ∧ v = some (.int (if p = q then -1 else (f_aW I t n k 1 p q) 50 b)) ∧ w = (sh, if p = q then f_ref I 1 else f_aW I t n k 1 p q, R, L, g)) (fun E w => w = (sh, I, R, L, g) ∧ E = "java/util/NoSuchElementException" ∧ ¬ (k_is p n ∧ k_is q n)) 47 [some (.ref 0), some (.int p), some (.int q)] [] (sh, I44, R, L, g) 2 12
    refine AW.aload_n dX10_thank_47 rfl ?_
    refine AW.getR (c' := 41) (fX10_33 hG).r rfl (hM.1 0 _ rfl) (hM.2 (0, 4, 41) (by decide)) dX10_thank_48 ?_
    refine AW.getR (c' := 42) (fX10_110 hG) rfl (o41.1 0 _ rfl) (o41.2 (0, 0, 1) (by decide)) dX10_thank_51 ?_
    refine AW.getR (c' := 47) (fX10_114 hG) rfl (o42.1 0 _ rfl) (o42.2 (0, 1, 5) (by decide)) dX10_thank_54 ?_
    refine AW.getR (c' := 50) (fX10_183 hG) rfl (o47.1 0 _ rfl) (o47.2 (0, 4, 3) (by decide)) dX10_thank_57 ?_
    refine AW.iload_n dX10_thank_60 rfl ?_
    refine AW.iald (o47.1 3 _ rfl) (by first | assumption | (unfold vp_in; decide) | exact vp_in_nI (by omega) (by decide)) dX10_thank_61 ?_
    exact AW.iret dX10_thank_62 rfl (by decide) (by decide) (⟨a, b, ha, hb, hpa, hqb, by rw [if_neg h12, eI44, hcq]; rfl, by rw [if_neg h12, eI44]; rfl⟩)
  · refine AW.aload_n dX10_thank_15 rfl ?_
    refine AW.getR (c' := 41) (fX10_33 hG).r rfl (hM.1 0 _ rfl) (hM.2 (0, 4, 41) (by decide)) dX10_thank_16 ?_
    refine AW.getR (c' := 54) (fX10_100 hG) rfl (o41.1 0 _ rfl) (o41.2 (0, 1, 13) (by decide)) dX10_thank_19 ?_
    refine AW.iconst 1 dX10_thank_22 (by decide) ?_
    refine AW.dup2 dX10_thank_23 rfl rfl ?_
    refine AW.iald (o41.1 13 _ rfl) (by first | assumption | (unfold vp_in; decide) | exact vp_in_nI (by omega) (by decide)) dX10_thank_24 ?_
    refine AW.iconst 1 dX10_thank_25 (by decide) ?_
    refine AW.iadd dX10_thank_26 ?_
    refine AW.iast (o41.1 13 _ rfl) (by first | assumption | (unfold vp_in; decide) | exact vp_in_nI (by omega) (by decide)) dX10_thank_27 ?_
    refine AW.namI (fun I27 eI27 => ?_)
    refine AW.iconst (-1) dX10_thank_28 (by decide) ?_
    exact AW.iret dX10_thank_29 rfl (by decide) (by decide) (⟨a, b, ha, hb, hpa, hqb, by rw [if_pos h12], by rw [if_pos h12, eI27]; rfl⟩)
theorem dX10_fair_0 : decode cX10_fair 0 = .ok (.iload_n 1, 1) := by decide +kernel
theorem dX10_fair_1 : decode cX10_fair 1 = .ok (.invokestatic 253, 3) := by decide +kernel
theorem dX10_fair_4 : decode cX10_fair 4 = .ok (.iconst 2, 1) := by decide +kernel
theorem dX10_fair_5 : decode cX10_fair 5 = .ok (.if_icmp .lt 17, 3) := by decide +kernel
theorem dX10_fair_8 : decode cX10_fair 8 = .ok (.iload_n 1, 1) := by decide +kernel
theorem dX10_fair_9 : decode cX10_fair 9 = .ok (.aload_n 0, 1) := by decide +kernel
theorem dX10_fair_10 : decode cX10_fair 10 = .ok (.getfield 19, 3) := by decide +kernel
theorem dX10_fair_13 : decode cX10_fair 13 = .ok (.invokevirtual 258, 3) := by decide +kernel
theorem dX10_fair_16 : decode cX10_fair 16 = .ok (.iconst (-1), 1) := by decide +kernel
theorem dX10_fair_17 : decode cX10_fair 17 = .ok (.ixor, 1) := by decide +kernel
theorem dX10_fair_18 : decode cX10_fair 18 = .ok (.iand, 1) := by decide +kernel
theorem dX10_fair_19 : decode cX10_fair 19 = .ok (.ifCond .eq 18, 3) := by decide +kernel
theorem dX10_fair_22 : decode cX10_fair 22 = .ok (.aload_n 0, 1) := by decide +kernel
theorem dX10_fair_23 : decode cX10_fair 23 = .ok (.getfield 33, 3) := by decide +kernel
theorem dX10_fair_26 : decode cX10_fair 26 = .ok (.getfield 100, 3) := by decide +kernel
theorem dX10_fair_29 : decode cX10_fair 29 = .ok (.iconst 1, 1) := by decide +kernel
theorem dX10_fair_30 : decode cX10_fair 30 = .ok (.dup2, 1) := by decide +kernel
theorem dX10_fair_31 : decode cX10_fair 31 = .ok (.iaload, 1) := by decide +kernel
theorem dX10_fair_32 : decode cX10_fair 32 = .ok (.iconst 1, 1) := by decide +kernel
theorem dX10_fair_33 : decode cX10_fair 33 = .ok (.iadd, 1) := by decide +kernel
theorem dX10_fair_34 : decode cX10_fair 34 = .ok (.iastore, 1) := by decide +kernel
theorem dX10_fair_35 : decode cX10_fair 35 = .ok (.iconst (-1), 1) := by decide +kernel
theorem dX10_fair_36 : decode cX10_fair 36 = .ok (.ireturn, 1) := by decide +kernel
theorem dX10_fair_37 : decode cX10_fair 37 = .ok (.aload_n 0, 1) := by decide +kernel
theorem dX10_fair_38 : decode cX10_fair 38 = .ok (.getfield 33, 3) := by decide +kernel
theorem dX10_fair_41 : decode cX10_fair 41 = .ok (.getfield 110, 3) := by decide +kernel
theorem dX10_fair_44 : decode cX10_fair 44 = .ok (.aload_n 0, 1) := by decide +kernel
theorem dX10_fair_45 : decode cX10_fair 45 = .ok (.getfield 19, 3) := by decide +kernel
theorem dX10_fair_48 : decode cX10_fair 48 = .ok (.iconst 2, 1) := by decide +kernel
theorem dX10_fair_49 : decode cX10_fair 49 = .ok (.iload_n 1, 1) := by decide +kernel
theorem dX10_fair_50 : decode cX10_fair 50 = .ok (.iconst 0, 1) := by decide +kernel
theorem dX10_fair_51 : decode cX10_fair 51 = .ok (.invokevirtual 249, 3) := by decide +kernel
theorem dX10_fair_54 : decode cX10_fair 54 = .ok (.iload_n 1, 1) := by decide +kernel
theorem dX10_fair_55 : decode cX10_fair 55 = .ok (.invokestatic 253, 3) := by decide +kernel
theorem dX10_fair_58 : decode cX10_fair 58 = .ok (.ireturn, 1) := by decide +kernel
set_option maxRecDepth 100000 in
set_option maxHeartbeats 4000000 in
theorem k_X10_fair {G : am_G} (hK : k_OK G) {d : Nat} (hd : 8 ≤ d) {sh : List (Nat ⊕ (Nat × Nat))} {I : Nat → Nat → Int32} {R : Nat → Nat → Option Nat} {L : Nat → Nat → Int64} {g : Nat} (hXS : k_XS G) {t : Nat} (hM : k_Main sh R) (hRt : R 0 1 = some t) (ht3 : t = 3 ∨ t = 22) {n : Nat} (hn : I t 0 = nI n) (hn8 : n ≤ 8) {k : Nat} (hk : I 42 5 = nI k) (hk40 : k ≤ 40) (hok : f_aok I 42 k) (b : Int32) : AM G mX10_fair d [.ref 0, .int b] (sh, I, R, L, g) (fun v w => v = some (.int (if f_bc b < 2 ∨ ¬ b &&& ((((1 : Int32) <<< (I t 0 &&& 31)) - 1) ^^^ (-1)) = 0 then -1 else f_bc b)) ∧ w = (sh, if f_bc b < 2 ∨ ¬ b &&& ((((1 : Int32) <<< (I t 0 &&& 31)) - 1) ^^^ (-1)) = 0 then f_ref I 1 else f_aW I t n k 2 b 0, R, L, g)) (fun _ _ => False) := by
  have hG := hK.1
  have ht : k_Town sh R t := by rcases ht3 with rfl | rfl; exact kM_3 hM; exact kM_22 hM
  have o41 := kM_41 hM
  have o42 := kM_42 hM
  have o43 := kM_43 hM
  have o47 := kM_47 hM
  have o60 := kM_60 hM
  have o90 := kM_90 hM
  have o93 := kM_93 hM
  have o97 := kM_97 hM
  have o79 := kM_79 hM
  have o1 := kM_1 hM
  refine AM.of (n := 0) (by decide +kernel) (Nat.le_of_ble_eq_true rfl) ?_
  show AW G mX10_fair d (fun v w => v = some (.int (if f_bc b < 2 ∨ ¬ b &&& ((((1 : Int32) <<< (I t 0 &&& 31)) - 1) ^^^ (-1)) = 0 then -1 else f_bc b)) ∧ w = (sh, if f_bc b < 2 ∨ ¬ b &&& ((((1 : Int32) <<< (I t 0 &&& 31)) - 1) ^^^ (-1)) = 0 then f_ref I 1 else f_aW I t n k 2 b 0, R, L, g)) (fun _ _ => False) 0 [some (.ref 0), some (.int b)] [] (sh, I, R, L, g) 0 0
  refine AW.iload_n dX10_fair_0 rfl ?_
  refine AW.callS (As := [.int b]) hG.2.2 (vX10_253 hG) (k_bitCount hK (d := 0) (Nat.le_refl _) b) (by omega) dX10_fair_1 rfl rfl (Nat.le_of_ble_eq_true rfl) (fun v w9 hq9 h09 => by obtain ⟨rfl, rfl⟩ := hq9; exact ⟨h09, rfl⟩) (by decide) (by decide) (fun _ _ hx => hx) (fun v1 w1 hq1 => ?_)
  obtain ⟨rfl, rfl⟩ := hq1
  refine AW.nam (fun x1 ex1 => ?_)
  refine AW.iconst 2 dX10_fair_4 (by decide) ?_
  refine AW.icmp_lt 22 dX10_fair_5 (by decide) (fun h5 => ?_) (fun h5 => ?_)
  · rw [ex1] at h5
    refine AW.aload_n dX10_fair_22 rfl ?_
    refine AW.getR (c' := 41) (fX10_33 hG).r rfl (hM.1 0 _ rfl) (hM.2 (0, 4, 41) (by decide)) dX10_fair_23 ?_
    refine AW.getR (c' := 54) (fX10_100 hG) rfl (o41.1 0 _ rfl) (o41.2 (0, 1, 13) (by decide)) dX10_fair_26 ?_
    refine AW.iconst 1 dX10_fair_29 (by decide) ?_
    refine AW.dup2 dX10_fair_30 rfl rfl ?_
    refine AW.iald (o41.1 13 _ rfl) (by first | assumption | (unfold vp_in; decide) | exact vp_in_nI (by omega) (by decide)) dX10_fair_31 ?_
    refine AW.iconst 1 dX10_fair_32 (by decide) ?_
    refine AW.iadd dX10_fair_33 ?_
    refine AW.iast (o41.1 13 _ rfl) (by first | assumption | (unfold vp_in; decide) | exact vp_in_nI (by omega) (by decide)) dX10_fair_34 ?_
    refine AW.namI (fun I34 eI34 => ?_)
    refine AW.iconst (-1) dX10_fair_35 (by decide) ?_
    exact AW.iret dX10_fair_36 rfl (by decide) (by decide) (⟨by rw [if_pos (Or.inl h5)], by rw [if_pos (Or.inl h5), eI34]; rfl⟩)
  · rw [ex1] at h5
    refine AW.iload_n dX10_fair_8 rfl ?_
    refine AW.aload_n dX10_fair_9 rfl ?_
    refine AW.getR (fX10_19 hG).r rfl (hM.1 0 _ rfl) hRt dX10_fair_10 ?_
    refine AW.callV (b := t) (As := []) hG.2.2 (vX10_258 hG) (ht.1 0 _ rfl) (k_X9_allPeople hK (d := 0) (Nat.le_refl _) ht) (by omega) dX10_fair_13 rfl rfl (Nat.le_of_ble_eq_true rfl) (fun v w9 hq9 h09 => by obtain ⟨rfl, rfl⟩ := hq9; exact ⟨h09, rfl⟩) (by decide) (by decide) (fun _ _ hx => hx) (fun v13 w13 hq13 => ?_)
    obtain ⟨rfl, rfl⟩ := hq13
    refine AW.nam (fun x13 ex13 => ?_)
    refine AW.iconst (-1) dX10_fair_16 (by decide) ?_
    refine AW.ixor dX10_fair_17 ?_
    refine AW.iand dX10_fair_18 ?_
    refine AW.if_eq 37 dX10_fair_19 (by decide) (fun h19 => ?_) (fun h19 => ?_)
    · rw [ex13] at h19
      refine AW.aload_n dX10_fair_37 rfl ?_
      refine AW.getR (c' := 41) (fX10_33 hG).r rfl (hM.1 0 _ rfl) (hM.2 (0, 4, 41) (by decide)) dX10_fair_38 ?_
      refine AW.getR (c' := 42) (fX10_110 hG) rfl (o41.1 0 _ rfl) (o41.2 (0, 0, 1) (by decide)) dX10_fair_41 ?_
      refine AW.aload_n dX10_fair_44 rfl ?_
      refine AW.getR (fX10_19 hG).r rfl (hM.1 0 _ rfl) hRt dX10_fair_45 ?_
      refine AW.iconst 2 dX10_fair_48 (by decide) ?_
      refine AW.iload_n dX10_fair_49 rfl ?_
      refine AW.iconst 0 dX10_fair_50 (by decide) ?_
      refine AW.callV (b := 42) (As := [.ref t, .int 2, .int b, .int 0]) hG.2.2 (vX10_249 hG) (o42.1 0 _ rfl) (k_X8_act hK (d := 5) (Nat.le_refl _) o42 ht (by omega) (by assumption) (by assumption) k (by assumption) (by assumption) (by assumption) 2 b 0 (fun h => absurd h (by decide)) (fun h => absurd h (by decide))) (by omega) dX10_fair_51 rfl rfl (Nat.le_of_ble_eq_true rfl) (fun v w9 hq9 h09 => by obtain ⟨rfl, rfl⟩ := hq9; exact ⟨h09, rfl⟩) (by decide) (by decide) (fun _ _ hx => hx) (fun v51 w51 hq51 => ?_)
      obtain ⟨rfl, rfl⟩ := hq51
      refine AW.namI (fun I51 eI51 => ?_)
      show AW G mX10_fair d (fun v w => v = some (.int (if f_bc b < 2 ∨ ¬ b &&& ((((1 : Int32) <<< (I t 0 &&& 31)) - 1) ^^^ (-1)) = 0 then -1 else f_bc b)) ∧ w = (sh, if f_bc b < 2 ∨ ¬ b &&& ((((1 : Int32) <<< (I t 0 &&& 31)) - 1) ^^^ (-1)) = 0 then f_ref I 1 else f_aW I t n k 2 b 0, R, L, g)) (fun _ _ => False) 54 [some (.ref 0), some (.int b)] [] (sh, I51, R, L, g) 0 0
      refine AW.iload_n dX10_fair_54 rfl ?_
      refine AW.callS (As := [.int b]) hG.2.2 (vX10_253 hG) (k_bitCount hK (d := 0) (Nat.le_refl _) b) (by omega) dX10_fair_55 rfl rfl (Nat.le_of_ble_eq_true rfl) (fun v w9 hq9 h09 => by obtain ⟨rfl, rfl⟩ := hq9; exact ⟨h09, rfl⟩) (by decide) (by decide) (fun _ _ hx => hx) (fun v55 w55 hq55 => ?_)
      obtain ⟨rfl, rfl⟩ := hq55
      refine AW.nam (fun x55 ex55 => ?_)
      exact AW.iret dX10_fair_58 rfl (by decide) (by decide) (⟨by rw [if_neg (by rintro (h | h); exact h5 h; exact h h19), ex55], by rw [if_neg (by rintro (h | h); exact h5 h; exact h h19), eI51]; rfl⟩)
    · rw [ex13] at h19
      refine AW.aload_n dX10_fair_22 rfl ?_
      refine AW.getR (c' := 41) (fX10_33 hG).r rfl (hM.1 0 _ rfl) (hM.2 (0, 4, 41) (by decide)) dX10_fair_23 ?_
      refine AW.getR (c' := 54) (fX10_100 hG) rfl (o41.1 0 _ rfl) (o41.2 (0, 1, 13) (by decide)) dX10_fair_26 ?_
      refine AW.iconst 1 dX10_fair_29 (by decide) ?_
      refine AW.dup2 dX10_fair_30 rfl rfl ?_
      refine AW.iald (o41.1 13 _ rfl) (by first | assumption | (unfold vp_in; decide) | exact vp_in_nI (by omega) (by decide)) dX10_fair_31 ?_
      refine AW.iconst 1 dX10_fair_32 (by decide) ?_
      refine AW.iadd dX10_fair_33 ?_
      refine AW.iast (o41.1 13 _ rfl) (by first | assumption | (unfold vp_in; decide) | exact vp_in_nI (by omega) (by decide)) dX10_fair_34 ?_
      refine AW.namI (fun I34 eI34 => ?_)
      refine AW.iconst (-1) dX10_fair_35 (by decide) ?_
      exact AW.iret dX10_fair_36 rfl (by decide) (by decide) (⟨by rw [if_pos (Or.inr h19)], by rw [if_pos (Or.inr h19), eI34]; rfl⟩)
theorem dX10_hours_0 : decode cX10_hours 0 = .ok (.aload_n 0, 1) := by decide +kernel
theorem dX10_hours_1 : decode cX10_hours 1 = .ok (.getfield 33, 3) := by decide +kernel
theorem dX10_hours_4 : decode cX10_hours 4 = .ok (.getfield 110, 3) := by decide +kernel
theorem dX10_hours_7 : decode cX10_hours 7 = .ok (.getfield 114, 3) := by decide +kernel
theorem dX10_hours_10 : decode cX10_hours 10 = .ok (.astore_n 2, 1) := by decide +kernel
theorem dX10_hours_11 : decode cX10_hours 11 = .ok (.iload_n 1, 1) := by decide +kernel
theorem dX10_hours_12 : decode cX10_hours 12 = .ok (.iconst 1, 1) := by decide +kernel
theorem dX10_hours_13 : decode cX10_hours 13 = .ok (.if_icmp .lt 20, 3) := by decide +kernel
theorem dX10_hours_16 : decode cX10_hours 16 = .ok (.iload_n 1, 1) := by decide +kernel
theorem dX10_hours_17 : decode cX10_hours 17 = .ok (.bipush 99, 2) := by decide +kernel
theorem dX10_hours_19 : decode cX10_hours 19 = .ok (.if_icmp .gt 14, 3) := by decide +kernel
theorem dX10_hours_22 : decode cX10_hours 22 = .ok (.aload_n 2, 1) := by decide +kernel
theorem dX10_hours_23 : decode cX10_hours 23 = .ok (.iload_n 1, 1) := by decide +kernel
theorem dX10_hours_24 : decode cX10_hours 24 = .ok (.invokevirtual 262, 3) := by decide +kernel
theorem dX10_hours_27 : decode cX10_hours 27 = .ok (.sipush 999, 3) := by decide +kernel
theorem dX10_hours_30 : decode cX10_hours 30 = .ok (.if_icmp .le 18, 3) := by decide +kernel
theorem dX10_hours_33 : decode cX10_hours 33 = .ok (.aload_n 0, 1) := by decide +kernel
theorem dX10_hours_34 : decode cX10_hours 34 = .ok (.getfield 33, 3) := by decide +kernel
theorem dX10_hours_37 : decode cX10_hours 37 = .ok (.getfield 100, 3) := by decide +kernel
theorem dX10_hours_40 : decode cX10_hours 40 = .ok (.iconst 1, 1) := by decide +kernel
theorem dX10_hours_41 : decode cX10_hours 41 = .ok (.dup2, 1) := by decide +kernel
theorem dX10_hours_42 : decode cX10_hours 42 = .ok (.iaload, 1) := by decide +kernel
theorem dX10_hours_43 : decode cX10_hours 43 = .ok (.iconst 1, 1) := by decide +kernel
theorem dX10_hours_44 : decode cX10_hours 44 = .ok (.iadd, 1) := by decide +kernel
theorem dX10_hours_45 : decode cX10_hours 45 = .ok (.iastore, 1) := by decide +kernel
theorem dX10_hours_46 : decode cX10_hours 46 = .ok (.iconst (-1), 1) := by decide +kernel
theorem dX10_hours_47 : decode cX10_hours 47 = .ok (.ireturn, 1) := by decide +kernel
theorem dX10_hours_48 : decode cX10_hours 48 = .ok (.aload_n 0, 1) := by decide +kernel
theorem dX10_hours_49 : decode cX10_hours 49 = .ok (.getfield 33, 3) := by decide +kernel
theorem dX10_hours_52 : decode cX10_hours 52 = .ok (.getfield 110, 3) := by decide +kernel
theorem dX10_hours_55 : decode cX10_hours 55 = .ok (.aload_n 0, 1) := by decide +kernel
theorem dX10_hours_56 : decode cX10_hours 56 = .ok (.getfield 19, 3) := by decide +kernel
theorem dX10_hours_59 : decode cX10_hours 59 = .ok (.iconst 3, 1) := by decide +kernel
theorem dX10_hours_60 : decode cX10_hours 60 = .ok (.iload_n 1, 1) := by decide +kernel
theorem dX10_hours_61 : decode cX10_hours 61 = .ok (.iconst 0, 1) := by decide +kernel
theorem dX10_hours_62 : decode cX10_hours 62 = .ok (.invokevirtual 249, 3) := by decide +kernel
theorem dX10_hours_65 : decode cX10_hours 65 = .ok (.aload_n 2, 1) := by decide +kernel
theorem dX10_hours_66 : decode cX10_hours 66 = .ok (.getfield 140, 3) := by decide +kernel
theorem dX10_hours_69 : decode cX10_hours 69 = .ok (.ireturn, 1) := by decide +kernel
set_option maxRecDepth 100000 in
set_option maxHeartbeats 4000000 in
theorem k_X10_hours {G : am_G} (hK : k_OK G) {d : Nat} (hd : 8 ≤ d) {sh : List (Nat ⊕ (Nat × Nat))} {I : Nat → Nat → Int32} {R : Nat → Nat → Option Nat} {L : Nat → Nat → Int64} {g : Nat} (hXS : k_XS G) {t : Nat} (hM : k_Main sh R) (hRt : R 0 1 = some t) (ht3 : t = 3 ∨ t = 22) {n : Nat} (hn : I t 0 = nI n) (hn8 : n ≤ 8) {k : Nat} (hk : I 42 5 = nI k) (hk40 : k ≤ 40) (hok : f_aok I 42 k) (x : Int32) : AM G mX10_hours d [.ref 0, .int x] (sh, I, R, L, g) (fun v w => v = some (.int (if x < 1 ∨ 99 < x ∨ ¬ I 47 0 + (I 47 1 + x) / 24 ≤ 999 then -1 else (f_aW I t n k 3 x 0) 47 1)) ∧ w = (sh, if x < 1 ∨ 99 < x ∨ ¬ I 47 0 + (I 47 1 + x) / 24 ≤ 999 then f_ref I 1 else f_aW I t n k 3 x 0, R, L, g)) (fun _ _ => False) := by
  have hG := hK.1
  have ht : k_Town sh R t := by rcases ht3 with rfl | rfl; exact kM_3 hM; exact kM_22 hM
  have o41 := kM_41 hM
  have o42 := kM_42 hM
  have o43 := kM_43 hM
  have o47 := kM_47 hM
  have o60 := kM_60 hM
  have o90 := kM_90 hM
  have o93 := kM_93 hM
  have o97 := kM_97 hM
  have o79 := kM_79 hM
  have o1 := kM_1 hM
  refine AM.of (n := 1) (by decide +kernel) (Nat.le_of_ble_eq_true rfl) ?_
  show AW G mX10_hours d (fun v w => v = some (.int (if x < 1 ∨ 99 < x ∨ ¬ I 47 0 + (I 47 1 + x) / 24 ≤ 999 then -1 else (f_aW I t n k 3 x 0) 47 1)) ∧ w = (sh, if x < 1 ∨ 99 < x ∨ ¬ I 47 0 + (I 47 1 + x) / 24 ≤ 999 then f_ref I 1 else f_aW I t n k 3 x 0, R, L, g)) (fun _ _ => False) 0 [some (.ref 0), some (.int x), none] [] (sh, I, R, L, g) 0 0
  refine AW.aload_n dX10_hours_0 rfl ?_
  refine AW.getR (c' := 41) (fX10_33 hG).r rfl (hM.1 0 _ rfl) (hM.2 (0, 4, 41) (by decide)) dX10_hours_1 ?_
  refine AW.getR (c' := 42) (fX10_110 hG) rfl (o41.1 0 _ rfl) (o41.2 (0, 0, 1) (by decide)) dX10_hours_4 ?_
  refine AW.getR (c' := 47) (fX10_114 hG) rfl (o42.1 0 _ rfl) (o42.2 (0, 1, 5) (by decide)) dX10_hours_7 ?_
  refine AW.as_n [some (.ref 0), some (.int x), some (.ref 47)] dX10_hours_10 (by decide) rfl rfl ?_
  refine AW.iload_n dX10_hours_11 rfl ?_
  refine AW.iconst 1 dX10_hours_12 (by decide) ?_
  refine AW.icmp_lt 33 dX10_hours_13 (by decide) (fun h13 => ?_) (fun h13 => ?_)
  · refine AW.aload_n dX10_hours_33 rfl ?_
    refine AW.getR (c' := 41) (fX10_33 hG).r rfl (hM.1 0 _ rfl) (hM.2 (0, 4, 41) (by decide)) dX10_hours_34 ?_
    refine AW.getR (c' := 54) (fX10_100 hG) rfl (o41.1 0 _ rfl) (o41.2 (0, 1, 13) (by decide)) dX10_hours_37 ?_
    refine AW.iconst 1 dX10_hours_40 (by decide) ?_
    refine AW.dup2 dX10_hours_41 rfl rfl ?_
    refine AW.iald (o41.1 13 _ rfl) (by first | assumption | (unfold vp_in; decide) | exact vp_in_nI (by omega) (by decide)) dX10_hours_42 ?_
    refine AW.iconst 1 dX10_hours_43 (by decide) ?_
    refine AW.iadd dX10_hours_44 ?_
    refine AW.iast (o41.1 13 _ rfl) (by first | assumption | (unfold vp_in; decide) | exact vp_in_nI (by omega) (by decide)) dX10_hours_45 ?_
    refine AW.namI (fun I45 eI45 => ?_)
    refine AW.iconst (-1) dX10_hours_46 (by decide) ?_
    exact AW.iret dX10_hours_47 rfl (by decide) (by decide) (⟨by rw [if_pos (Or.inl h13)], by rw [if_pos (Or.inl h13), eI45]; rfl⟩)
  · refine AW.iload_n dX10_hours_16 rfl ?_
    refine AW.bipush 99 dX10_hours_17 (by decide) ?_
    refine AW.icmp_gt 33 dX10_hours_19 (by decide) (fun h19 => ?_) (fun h19 => ?_)
    · refine AW.aload_n dX10_hours_33 rfl ?_
      refine AW.getR (c' := 41) (fX10_33 hG).r rfl (hM.1 0 _ rfl) (hM.2 (0, 4, 41) (by decide)) dX10_hours_34 ?_
      refine AW.getR (c' := 54) (fX10_100 hG) rfl (o41.1 0 _ rfl) (o41.2 (0, 1, 13) (by decide)) dX10_hours_37 ?_
      refine AW.iconst 1 dX10_hours_40 (by decide) ?_
      refine AW.dup2 dX10_hours_41 rfl rfl ?_
      refine AW.iald (o41.1 13 _ rfl) (by first | assumption | (unfold vp_in; decide) | exact vp_in_nI (by omega) (by decide)) dX10_hours_42 ?_
      refine AW.iconst 1 dX10_hours_43 (by decide) ?_
      refine AW.iadd dX10_hours_44 ?_
      refine AW.iast (o41.1 13 _ rfl) (by first | assumption | (unfold vp_in; decide) | exact vp_in_nI (by omega) (by decide)) dX10_hours_45 ?_
      refine AW.namI (fun I45 eI45 => ?_)
      refine AW.iconst (-1) dX10_hours_46 (by decide) ?_
      exact AW.iret dX10_hours_47 rfl (by decide) (by decide) (⟨by rw [if_pos (Or.inr (Or.inl h19))], by rw [if_pos (Or.inr (Or.inl h19)), eI45]; rfl⟩)
    · refine AW.aload_n dX10_hours_22 rfl ?_
      refine AW.iload_n dX10_hours_23 rfl ?_
      refine AW.callV (b := 47) (As := [.int x]) hG.2.2 (vX10_262 hG) (o47.1 0 _ rfl) (k_X2_dayIn hK (d := 0) (Nat.le_refl _) o47 x) (by omega) dX10_hours_24 rfl rfl (Nat.le_of_ble_eq_true rfl) (fun v w9 hq9 h09 => by obtain ⟨rfl, rfl⟩ := hq9; exact ⟨h09, rfl⟩) (by decide) (by decide) (fun _ _ hx => hx) (fun v24 w24 hq24 => ?_)
      obtain ⟨rfl, rfl⟩ := hq24
      refine AW.nam (fun x24 ex24 => ?_)
      refine AW.sipush 999 dX10_hours_27 (by decide) ?_
      refine AW.icmp_le 48 dX10_hours_30 (by decide) (fun h30 => ?_) (fun h30 => ?_)
      · rw [ex24] at h30
        refine AW.aload_n dX10_hours_48 rfl ?_
        refine AW.getR (c' := 41) (fX10_33 hG).r rfl (hM.1 0 _ rfl) (hM.2 (0, 4, 41) (by decide)) dX10_hours_49 ?_
        refine AW.getR (c' := 42) (fX10_110 hG) rfl (o41.1 0 _ rfl) (o41.2 (0, 0, 1) (by decide)) dX10_hours_52 ?_
        refine AW.aload_n dX10_hours_55 rfl ?_
        refine AW.getR (fX10_19 hG).r rfl (hM.1 0 _ rfl) hRt dX10_hours_56 ?_
        refine AW.iconst 3 dX10_hours_59 (by decide) ?_
        refine AW.iload_n dX10_hours_60 rfl ?_
        refine AW.iconst 0 dX10_hours_61 (by decide) ?_
        refine AW.callV (b := 42) (As := [.ref t, .int 3, .int x, .int 0]) hG.2.2 (vX10_249 hG) (o42.1 0 _ rfl) (k_X8_act hK (d := 5) (Nat.le_refl _) o42 ht (by omega) (by assumption) (by assumption) k (by assumption) (by assumption) (by assumption) 3 x 0 (fun h => absurd h (by decide)) (fun h => absurd h (by decide))) (by omega) dX10_hours_62 rfl rfl (Nat.le_of_ble_eq_true rfl) (fun v w9 hq9 h09 => by obtain ⟨rfl, rfl⟩ := hq9; exact ⟨h09, rfl⟩) (by decide) (by decide) (fun _ _ hx => hx) (fun v62 w62 hq62 => ?_)
        obtain ⟨rfl, rfl⟩ := hq62
        refine AW.namI (fun I62 eI62 => ?_)
        show AW G mX10_hours d (fun v w => v = some (.int (if x < 1 ∨ 99 < x ∨ ¬ I 47 0 + (I 47 1 + x) / 24 ≤ 999 then -1 else (f_aW I t n k 3 x 0) 47 1)) ∧ w = (sh, if x < 1 ∨ 99 < x ∨ ¬ I 47 0 + (I 47 1 + x) / 24 ≤ 999 then f_ref I 1 else f_aW I t n k 3 x 0, R, L, g)) (fun _ _ => False) 65 [some (.ref 0), some (.int x), some (.ref 47)] [] (sh, I62, R, L, g) 0 0
        refine AW.aload_n dX10_hours_65 rfl ?_
        refine AW.getI (fX10_140 hG).r rfl (o47.1 0 _ rfl) dX10_hours_66 ?_
        exact AW.iret dX10_hours_69 rfl (by decide) (by decide) (⟨by rw [if_neg (by rintro (h | h | h); exact h13 h; exact h19 h; exact h h30), eI62]; rfl, by rw [if_neg (by rintro (h | h | h); exact h13 h; exact h19 h; exact h h30), eI62]; rfl⟩)
      · rw [ex24] at h30
        refine AW.aload_n dX10_hours_33 rfl ?_
        refine AW.getR (c' := 41) (fX10_33 hG).r rfl (hM.1 0 _ rfl) (hM.2 (0, 4, 41) (by decide)) dX10_hours_34 ?_
        refine AW.getR (c' := 54) (fX10_100 hG) rfl (o41.1 0 _ rfl) (o41.2 (0, 1, 13) (by decide)) dX10_hours_37 ?_
        refine AW.iconst 1 dX10_hours_40 (by decide) ?_
        refine AW.dup2 dX10_hours_41 rfl rfl ?_
        refine AW.iald (o41.1 13 _ rfl) (by first | assumption | (unfold vp_in; decide) | exact vp_in_nI (by omega) (by decide)) dX10_hours_42 ?_
        refine AW.iconst 1 dX10_hours_43 (by decide) ?_
        refine AW.iadd dX10_hours_44 ?_
        refine AW.iast (o41.1 13 _ rfl) (by first | assumption | (unfold vp_in; decide) | exact vp_in_nI (by omega) (by decide)) dX10_hours_45 ?_
        refine AW.namI (fun I45 eI45 => ?_)
        refine AW.iconst (-1) dX10_hours_46 (by decide) ?_
        exact AW.iret dX10_hours_47 rfl (by decide) (by decide) (⟨by rw [if_pos (Or.inr (Or.inr h30))], by rw [if_pos (Or.inr (Or.inr h30)), eI45]; rfl⟩)
theorem dX10_undo_0 : decode cX10_undo 0 = .ok (.aload_n 0, 1) := by decide +kernel
theorem dX10_undo_1 : decode cX10_undo 1 = .ok (.getfield 33, 3) := by decide +kernel
theorem dX10_undo_4 : decode cX10_undo 4 = .ok (.getfield 110, 3) := by decide +kernel
theorem dX10_undo_7 : decode cX10_undo 7 = .ok (.aload_n 0, 1) := by decide +kernel
theorem dX10_undo_8 : decode cX10_undo 8 = .ok (.getfield 19, 3) := by decide +kernel
theorem dX10_undo_11 : decode cX10_undo 11 = .ok (.invokevirtual 265, 3) := by decide +kernel
theorem dX10_undo_14 : decode cX10_undo 14 = .ok (.ireturn, 1) := by decide +kernel
set_option maxRecDepth 100000 in
set_option maxHeartbeats 4000000 in
theorem k_X10_undo {G : am_G} (hK : k_OK G) {d : Nat} (hd : 8 ≤ d) {sh : List (Nat ⊕ (Nat × Nat))} {I : Nat → Nat → Int32} {R : Nat → Nat → Option Nat} {L : Nat → Nat → Int64} {g : Nat} (hXS : k_XS G) {t : Nat} (hM : k_Main sh R) (hRt : R 0 1 = some t) (ht3 : t = 3 ∨ t = 22) {n : Nat} (hn : I t 0 = nI n) (hn8 : n ≤ 8) {k : Nat} (hk : I 42 5 = nI k) (hk40 : k ≤ 40) (hok : f_aok I 42 k) : AM G mX10_undo d [.ref 0] (sh, I, R, L, g) (fun v w => v = some (.int (if k = 0 then -1 else nI (k - 1))) ∧ w = (sh, if k = 0 then I else f_tb I t n 42 (k - 1), R, L, g)) (fun _ _ => False) := by
  have hG := hK.1
  have ht : k_Town sh R t := by rcases ht3 with rfl | rfl; exact kM_3 hM; exact kM_22 hM
  have o41 := kM_41 hM
  have o42 := kM_42 hM
  have o43 := kM_43 hM
  have o47 := kM_47 hM
  have o60 := kM_60 hM
  have o90 := kM_90 hM
  have o93 := kM_93 hM
  have o97 := kM_97 hM
  have o79 := kM_79 hM
  have o1 := kM_1 hM
  refine AM.of (n := 0) (by decide +kernel) (Nat.le_of_ble_eq_true rfl) ?_
  show AW G mX10_undo d (fun v w => v = some (.int (if k = 0 then -1 else nI (k - 1))) ∧ w = (sh, if k = 0 then I else f_tb I t n 42 (k - 1), R, L, g)) (fun _ _ => False) 0 [some (.ref 0)] [] (sh, I, R, L, g) 0 0
  refine AW.aload_n dX10_undo_0 rfl ?_
  refine AW.getR (c' := 41) (fX10_33 hG).r rfl (hM.1 0 _ rfl) (hM.2 (0, 4, 41) (by decide)) dX10_undo_1 ?_
  refine AW.getR (c' := 42) (fX10_110 hG) rfl (o41.1 0 _ rfl) (o41.2 (0, 0, 1) (by decide)) dX10_undo_4 ?_
  refine AW.aload_n dX10_undo_7 rfl ?_
  refine AW.getR (fX10_19 hG).r rfl (hM.1 0 _ rfl) hRt dX10_undo_8 ?_
  refine AW.callV (b := 42) (As := [.ref t]) hG.2.2 (vX10_265 hG) (o42.1 0 _ rfl) (k_X8_takeBack hK (d := 4) (Nat.le_refl _) o42 ht (by omega) (by assumption) (by assumption) k (by assumption) (by assumption) (by assumption)) (by omega) dX10_undo_11 rfl rfl (Nat.le_of_ble_eq_true rfl) (fun v w9 hq9 h09 => by obtain ⟨rfl, rfl⟩ := hq9; exact ⟨h09, rfl⟩) (by decide) (by decide) (fun _ _ hx => hx) (fun v11 w11 hq11 => ?_)
  obtain ⟨rfl, rfl⟩ := hq11
  refine AW.namI (fun I11 eI11 => ?_)
  refine AW.nam (fun x11 ex11 => ?_)
  exact AW.iret dX10_undo_14 rfl (by decide) (by decide) (⟨by rw [ex11], by rw [eI11]⟩)
theorem dX10_fault_0 : decode cX10_fault 0 = .ok (.aload_n 0, 1) := by decide +kernel
theorem dX10_fault_1 : decode cX10_fault 1 = .ok (.getfield 26, 3) := by decide +kernel
theorem dX10_fault_4 : decode cX10_fault 4 = .ok (.ireturn, 1) := by decide +kernel
set_option maxRecDepth 100000 in
set_option maxHeartbeats 4000000 in
theorem k_X10_fault {G : am_G} (hK : k_OK G) {d : Nat} (hd : 0 ≤ d) {sh : List (Nat ⊕ (Nat × Nat))} {I : Nat → Nat → Int32} {R : Nat → Nat → Option Nat} {L : Nat → Nat → Int64} {g : Nat} (hXS : k_XS G) {t : Nat} (hM : k_Main sh R) (hRt : R 0 1 = some t) (ht3 : t = 3 ∨ t = 22)  : AM G mX10_fault d [.ref 0] (sh, I, R, L, g) (fun v w => v = some (.int (I 0 3)) ∧ w = (sh, I, R, L, g)) (fun _ _ => False) := by
  have hG := hK.1
  have ht : k_Town sh R t := by rcases ht3 with rfl | rfl; exact kM_3 hM; exact kM_22 hM
  have o41 := kM_41 hM
  have o42 := kM_42 hM
  have o43 := kM_43 hM
  have o47 := kM_47 hM
  have o60 := kM_60 hM
  have o90 := kM_90 hM
  have o93 := kM_93 hM
  have o97 := kM_97 hM
  have o79 := kM_79 hM
  have o1 := kM_1 hM
  refine AM.of (n := 0) (by decide +kernel) (Nat.le_of_ble_eq_true rfl) ?_
  show AW G mX10_fault d (fun v w => v = some (.int (I 0 3)) ∧ w = (sh, I, R, L, g)) (fun _ _ => False) 0 [some (.ref 0)] [] (sh, I, R, L, g) 0 0
  refine AW.aload_n dX10_fault_0 rfl ?_
  refine AW.getI (fX10_26 hG).r rfl (hM.1 0 _ rfl) dX10_fault_1 ?_
  exact AW.iret dX10_fault_4 rfl (by decide) (by decide) (⟨rfl, rfl⟩)
theorem dX10_forget_0 : decode cX10_forget 0 = .ok (.aload_n 0, 1) := by decide +kernel
theorem dX10_forget_1 : decode cX10_forget 1 = .ok (.getfield 33, 3) := by decide +kernel
theorem dX10_forget_4 : decode cX10_forget 4 = .ok (.invokevirtual 362, 3) := by decide +kernel
theorem dX10_forget_7 : decode cX10_forget 7 = .ok (.return_, 1) := by decide +kernel
set_option maxRecDepth 100000 in
set_option maxHeartbeats 4000000 in
theorem k_X10_forget {G : am_G} (hK : k_OK G) {d : Nat} (hd : 8 ≤ d) {sh : List (Nat ⊕ (Nat × Nat))} {I : Nat → Nat → Int32} {R : Nat → Nat → Option Nat} {L : Nat → Nat → Int64} {g : Nat} (hXS : k_XS G) {t : Nat} (hM : k_Main sh R) (hRt : R 0 1 = some t) (ht3 : t = 3 ∨ t = 22)  : AM G mX10_forget d [.ref 0] (sh, I, R, L, g) (fun v w => v = none ∧ w = (sh, am_uA I 41 (upd (upd (I 41) 2 0) 6 0), R, L, g)) (fun _ _ => False) := by
  have hG := hK.1
  have ht : k_Town sh R t := by rcases ht3 with rfl | rfl; exact kM_3 hM; exact kM_22 hM
  have o41 := kM_41 hM
  have o42 := kM_42 hM
  have o43 := kM_43 hM
  have o47 := kM_47 hM
  have o60 := kM_60 hM
  have o90 := kM_90 hM
  have o93 := kM_93 hM
  have o97 := kM_97 hM
  have o79 := kM_79 hM
  have o1 := kM_1 hM
  refine AM.of (n := 0) (by decide +kernel) (Nat.le_of_ble_eq_true rfl) ?_
  show AW G mX10_forget d (fun v w => v = none ∧ w = (sh, am_uA I 41 (upd (upd (I 41) 2 0) 6 0), R, L, g)) (fun _ _ => False) 0 [some (.ref 0)] [] (sh, I, R, L, g) 0 0
  refine AW.aload_n dX10_forget_0 rfl ?_
  refine AW.getR (c' := 41) (fX10_33 hG).r rfl (hM.1 0 _ rfl) (hM.2 (0, 4, 41) (by decide)) dX10_forget_1 ?_
  refine AW.callV (b := 41) (As := []) hG.2.2 (vX10_362 hG) (o41.1 0 _ rfl) (k_X4_clearClues hK (d := 0) (Nat.le_refl _) o41) (by omega) dX10_forget_4 rfl rfl (Nat.le_of_ble_eq_true rfl) (fun v w9 hq9 h09 => by obtain ⟨rfl, rfl⟩ := hq9; exact ⟨h09, rfl⟩) (by decide) (by decide) (fun _ _ hx => hx) (fun v4 w4 hq4 => ?_)
  obtain ⟨rfl, rfl⟩ := hq4
  refine AW.namI (fun I4 eI4 => ?_)
  show AW G mX10_forget d (fun v w => v = none ∧ w = (sh, am_uA I 41 (upd (upd (I 41) 2 0) 6 0), R, L, g)) (fun _ _ => False) 7 [some (.ref 0)] [] (sh, I4, R, L, g) 0 0
  exact AW.vret dX10_forget_7 rfl (by decide) (by decide) (⟨rfl, by rw [eI4]⟩)
theorem dX10_image_0 : decode cX10_image 0 = .ok (.aload_n 0, 1) := by decide +kernel
theorem dX10_image_1 : decode cX10_image 1 = .ok (.getfield 37, 3) := by decide +kernel
theorem dX10_image_4 : decode cX10_image 4 = .ok (.aload_n 0, 1) := by decide +kernel
theorem dX10_image_5 : decode cX10_image 5 = .ok (.getfield 33, 3) := by decide +kernel
theorem dX10_image_8 : decode cX10_image 8 = .ok (.invokevirtual 268, 3) := by decide +kernel
theorem dX10_image_11 : decode cX10_image 11 = .ok (.aload_n 0, 1) := by decide +kernel
theorem dX10_image_12 : decode cX10_image 12 = .ok (.iconst 1, 1) := by decide +kernel
theorem dX10_image_13 : decode cX10_image 13 = .ok (.putfield 107, 3) := by decide +kernel
theorem dX10_image_16 : decode cX10_image 16 = .ok (.return_, 1) := by decide +kernel
set_option maxRecDepth 100000 in
set_option maxHeartbeats 4000000 in
theorem k_X10_image {G : am_G} (hK : k_OK G) {d : Nat} (hd : 8 ≤ d) {sh : List (Nat ⊕ (Nat × Nat))} {I : Nat → Nat → Int32} {R : Nat → Nat → Option Nat} {L : Nat → Nat → Int64} {g : Nat} (hXS : k_XS G) {t : Nat} (hM : k_Main sh R) (hRt : R 0 1 = some t) (ht3 : t = 3 ∨ t = 22)  : AM G mX10_image d [.ref 0] (sh, I, R, L, g) (fun v w => v = none ∧ w = (sh, am_uA (f_mcp I 60 41) 0 (upd ((f_mcp I 60 41) 0) 6 1), R, L, g)) (fun _ _ => False) := by
  have hG := hK.1
  have ht : k_Town sh R t := by rcases ht3 with rfl | rfl; exact kM_3 hM; exact kM_22 hM
  have o41 := kM_41 hM
  have o42 := kM_42 hM
  have o43 := kM_43 hM
  have o47 := kM_47 hM
  have o60 := kM_60 hM
  have o90 := kM_90 hM
  have o93 := kM_93 hM
  have o97 := kM_97 hM
  have o79 := kM_79 hM
  have o1 := kM_1 hM
  refine AM.of (n := 0) (by decide +kernel) (Nat.le_of_ble_eq_true rfl) ?_
  show AW G mX10_image d (fun v w => v = none ∧ w = (sh, am_uA (f_mcp I 60 41) 0 (upd ((f_mcp I 60 41) 0) 6 1), R, L, g)) (fun _ _ => False) 0 [some (.ref 0)] [] (sh, I, R, L, g) 0 0
  refine AW.aload_n dX10_image_0 rfl ?_
  refine AW.getR (c' := 60) (fX10_37 hG).r rfl (hM.1 0 _ rfl) (hM.2 (0, 5, 60) (by decide)) dX10_image_1 ?_
  refine AW.aload_n dX10_image_4 rfl ?_
  refine AW.getR (c' := 41) (fX10_33 hG).r rfl (hM.1 0 _ rfl) (hM.2 (0, 4, 41) (by decide)) dX10_image_5 ?_
  refine AW.callV (b := 60) (As := [.ref 41]) hG.2.2 (vX10_268 hG) (o60.1 0 _ rfl) (k_X4_copyFrom hK (d := 4) (Nat.le_refl _) o60 o41 (by omega)) (by omega) dX10_image_8 rfl rfl (Nat.le_of_ble_eq_true rfl) (fun v w9 hq9 h09 => by obtain ⟨rfl, rfl⟩ := hq9; exact ⟨h09, rfl⟩) (by decide) (by decide) (fun _ _ hx => hx) (fun v8 w8 hq8 => ?_)
  obtain ⟨rfl, rfl⟩ := hq8
  refine AW.namI (fun I8 eI8 => ?_)
  show AW G mX10_image d (fun v w => v = none ∧ w = (sh, am_uA (f_mcp I 60 41) 0 (upd ((f_mcp I 60 41) 0) 6 1), R, L, g)) (fun _ _ => False) 11 [some (.ref 0)] [] (sh, I8, R, L, g) 0 0
  refine AW.aload_n dX10_image_11 rfl ?_
  refine AW.iconst 1 dX10_image_12 (by decide) ?_
  refine AW.putI (fX10_107 hG) rfl (by decide) (by decide) (hM.1 0 _ rfl) dX10_image_13 ?_
  refine AW.namI (fun I13 eI13 => ?_)
  exact AW.vret dX10_image_16 rfl (by decide) (by decide) (⟨rfl, by rw [eI13, eI8]; rfl⟩)
theorem dX10_restore_0 : decode cX10_restore 0 = .ok (.aload_n 0, 1) := by decide +kernel
theorem dX10_restore_1 : decode cX10_restore 1 = .ok (.getfield 107, 3) := by decide +kernel
theorem dX10_restore_4 : decode cX10_restore 4 = .ok (.ifCond .ne 5, 3) := by decide +kernel
theorem dX10_restore_7 : decode cX10_restore 7 = .ok (.iconst 0, 1) := by decide +kernel
theorem dX10_restore_8 : decode cX10_restore 8 = .ok (.ireturn, 1) := by decide +kernel
theorem dX10_restore_9 : decode cX10_restore 9 = .ok (.aload_n 0, 1) := by decide +kernel
theorem dX10_restore_10 : decode cX10_restore 10 = .ok (.getfield 33, 3) := by decide +kernel
theorem dX10_restore_13 : decode cX10_restore 13 = .ok (.aload_n 0, 1) := by decide +kernel
theorem dX10_restore_14 : decode cX10_restore 14 = .ok (.getfield 37, 3) := by decide +kernel
theorem dX10_restore_17 : decode cX10_restore 17 = .ok (.invokevirtual 268, 3) := by decide +kernel
theorem dX10_restore_20 : decode cX10_restore 20 = .ok (.iconst 1, 1) := by decide +kernel
theorem dX10_restore_21 : decode cX10_restore 21 = .ok (.ireturn, 1) := by decide +kernel
set_option maxRecDepth 100000 in
set_option maxHeartbeats 4000000 in
theorem k_X10_restore {G : am_G} (hK : k_OK G) {d : Nat} (hd : 8 ≤ d) {sh : List (Nat ⊕ (Nat × Nat))} {I : Nat → Nat → Int32} {R : Nat → Nat → Option Nat} {L : Nat → Nat → Int64} {g : Nat} (hXS : k_XS G) {t : Nat} (hM : k_Main sh R) (hRt : R 0 1 = some t) (ht3 : t = 3 ∨ t = 22)  : AM G mX10_restore d [.ref 0] (sh, I, R, L, g) (fun v w => v = some (.int (kb (decide (¬ I 0 6 = 0)))) ∧ w = (sh, if ¬ I 0 6 = 0 then f_mcp I 41 60 else I, R, L, g)) (fun _ _ => False) := by
  have hG := hK.1
  have ht : k_Town sh R t := by rcases ht3 with rfl | rfl; exact kM_3 hM; exact kM_22 hM
  have o41 := kM_41 hM
  have o42 := kM_42 hM
  have o43 := kM_43 hM
  have o47 := kM_47 hM
  have o60 := kM_60 hM
  have o90 := kM_90 hM
  have o93 := kM_93 hM
  have o97 := kM_97 hM
  have o79 := kM_79 hM
  have o1 := kM_1 hM
  refine AM.of (n := 0) (by decide +kernel) (Nat.le_of_ble_eq_true rfl) ?_
  show AW G mX10_restore d (fun v w => v = some (.int (kb (decide (¬ I 0 6 = 0)))) ∧ w = (sh, if ¬ I 0 6 = 0 then f_mcp I 41 60 else I, R, L, g)) (fun _ _ => False) 0 [some (.ref 0)] [] (sh, I, R, L, g) 0 0
  refine AW.aload_n dX10_restore_0 rfl ?_
  refine AW.getI (fX10_107 hG).r rfl (hM.1 0 _ rfl) dX10_restore_1 ?_
  refine AW.if_ne 9 dX10_restore_4 (by decide) (fun h4 => ?_) (fun h4 => ?_)
  · refine AW.aload_n dX10_restore_9 rfl ?_
    refine AW.getR (c' := 41) (fX10_33 hG).r rfl (hM.1 0 _ rfl) (hM.2 (0, 4, 41) (by decide)) dX10_restore_10 ?_
    refine AW.aload_n dX10_restore_13 rfl ?_
    refine AW.getR (c' := 60) (fX10_37 hG).r rfl (hM.1 0 _ rfl) (hM.2 (0, 5, 60) (by decide)) dX10_restore_14 ?_
    refine AW.callV (b := 41) (As := [.ref 60]) hG.2.2 (vX10_268 hG) (o41.1 0 _ rfl) (k_X4_copyFrom hK (d := 4) (Nat.le_refl _) o41 o60 (by omega)) (by omega) dX10_restore_17 rfl rfl (Nat.le_of_ble_eq_true rfl) (fun v w9 hq9 h09 => by obtain ⟨rfl, rfl⟩ := hq9; exact ⟨h09, rfl⟩) (by decide) (by decide) (fun _ _ hx => hx) (fun v17 w17 hq17 => ?_)
    obtain ⟨rfl, rfl⟩ := hq17
    refine AW.namI (fun I17 eI17 => ?_)
    show AW G mX10_restore d (fun v w => v = some (.int (kb (decide (¬ I 0 6 = 0)))) ∧ w = (sh, if ¬ I 0 6 = 0 then f_mcp I 41 60 else I, R, L, g)) (fun _ _ => False) 20 [some (.ref 0)] [] (sh, I17, R, L, g) 0 0
    refine AW.iconst 1 dX10_restore_20 (by decide) ?_
    exact AW.zret dX10_restore_21 rfl (by decide) (by decide) (by decide) (⟨by rw [kb_t (by simpa using h4)], by rw [if_pos h4, eI17]⟩)
  · refine AW.iconst 0 dX10_restore_7 (by decide) ?_
    exact AW.zret dX10_restore_8 rfl (by decide) (by decide) (by decide) (⟨by rw [kb_f (by simpa using h4)], by rw [if_neg (fun h => h h4)]⟩)
abbrev pX10_carried : am_M := (yX10_carried, cX10_carried, 2, (some .int), 2, 12)
theorem dX10_carried_0 : decode cX10_carried 0 = .ok (.aload_n 0, 1) := by decide +kernel
theorem dX10_carried_1 : decode cX10_carried 1 = .ok (.iload_n 1, 1) := by decide +kernel
theorem dX10_carried_2 : decode cX10_carried 2 = .ok (.invokevirtual 191, 3) := by decide +kernel
theorem dX10_carried_5 : decode cX10_carried 5 = .ok (.aload_n 0, 1) := by decide +kernel
theorem dX10_carried_6 : decode cX10_carried 6 = .ok (.getfield 103, 3) := by decide +kernel
theorem dX10_carried_9 : decode cX10_carried 9 = .ok (.ifCond .ne 14, 3) := by decide +kernel
theorem dX10_carried_12 : decode cX10_carried 12 = .ok (.new 163, 3) := by decide +kernel
theorem dX10_carried_15 : decode cX10_carried 15 = .ok (.dup, 1) := by decide +kernel
theorem dX10_carried_16 : decode cX10_carried 16 = .ok (.ldc_w 288, 3) := by decide +kernel
theorem dX10_carried_19 : decode cX10_carried 19 = .ok (.invokespecial 167, 3) := by decide +kernel
theorem dX10_carried_22 : decode cX10_carried 22 = .ok (.athrow, 1) := by decide +kernel
theorem dX10_carried_23 : decode cX10_carried 23 = .ok (.aload_n 0, 1) := by decide +kernel
theorem dX10_carried_24 : decode cX10_carried 24 = .ok (.getfield 47, 3) := by decide +kernel
theorem dX10_carried_27 : decode cX10_carried 27 = .ok (.iload_n 1, 1) := by decide +kernel
theorem dX10_carried_28 : decode cX10_carried 28 = .ok (.iaload, 1) := by decide +kernel
theorem dX10_carried_29 : decode cX10_carried 29 = .ok (.ireturn, 1) := by decide +kernel
set_option maxRecDepth 100000 in
set_option maxHeartbeats 4000000 in
theorem k_X10_carried {G : am_G} (hK : k_OK G) {d : Nat} (hd : 8 ≤ d) {sh : List (Nat ⊕ (Nat × Nat))} {I : Nat → Nat → Int32} {R : Nat → Nat → Option Nat} {L : Nat → Nat → Int64} {g : Nat} (hXS : k_XS G) {t : Nat} (hM : k_Main sh R) (hRt : R 0 1 = some t) (ht3 : t = 3 ∨ t = 22) (hg : g ≠ 0) {m : Nat} (hm : I (t + 8) 0 = nI m) (hm6 : m ≤ 6) (l : Int32) : AM G pX10_carried d [.ref 0, .int l] (sh, I, R, L, g) (fun v w => w = (sh, I, R, L, g) ∧ ∃ b, b < m ∧ l = nI b ∧ ¬ I 0 9 = 0 ∧ v = some (.int (I 89 b))) (fun E w => w = (sh, I, R, L, g) ∧ E = "java/util/NoSuchElementException" ∧ ¬ (k_is l m ∧ ¬ I 0 9 = 0)) := by
  have hG := hK.1
  have ht : k_Town sh R t := by rcases ht3 with rfl | rfl; exact kM_3 hM; exact kM_22 hM
  have o41 := kM_41 hM
  have o42 := kM_42 hM
  have o43 := kM_43 hM
  have o47 := kM_47 hM
  have o60 := kM_60 hM
  have o90 := kM_90 hM
  have o93 := kM_93 hM
  have o97 := kM_97 hM
  have o79 := kM_79 hM
  have o1 := kM_1 hM
  refine AM.of (n := 0) (by decide +kernel) (Nat.le_of_ble_eq_true rfl) ?_
  show AW G pX10_carried d (fun v w => w = (sh, I, R, L, g) ∧ ∃ b, b < m ∧ l = nI b ∧ ¬ I 0 9 = 0 ∧ v = some (.int (I 89 b))) (fun E w => w = (sh, I, R, L, g) ∧ E = "java/util/NoSuchElementException" ∧ ¬ (k_is l m ∧ ¬ I 0 9 = 0)) 0 [some (.ref 0), some (.int l)] [] (sh, I, R, L, g) 0 0
  refine AW.aload_n dX10_carried_0 rfl ?_
  refine AW.iload_n dX10_carried_1 rfl ?_
  refine AW.callV (b := 0) (As := [.int l]) hG.2.2 (vX10_191 hG) (hM.1 0 _ rfl) (k_X10_requireLoaf hK (d := 7) (Nat.le_refl _) hXS hM hRt ht3 hg (by assumption) (by assumption) l) (by omega) dX10_carried_2 rfl rfl (Nat.le_of_ble_eq_true rfl) (fun v w9 hq9 h09 => absurd (by obtain ⟨-, e9, -⟩ := hq9; rw [e9] at h09; exact h09) hg) (by decide) (by decide) (fun E w9 h9 => ⟨h9.2.1, h9.1, fun h => h9.2.2 h.1⟩) (fun v2 w2 hq2 => ?_)
  obtain ⟨rfl, rfl, his2⟩ := hq2
  show AW G pX10_carried d (fun v w => w = (sh, I, R, L, g) ∧ ∃ b, b < m ∧ l = nI b ∧ ¬ I 0 9 = 0 ∧ v = some (.int (I 89 b))) (fun E w => w = (sh, I, R, L, g) ∧ E = "java/util/NoSuchElementException" ∧ ¬ (k_is l m ∧ ¬ I 0 9 = 0)) 5 [some (.ref 0), some (.int l)] [] (sh, I, R, L, g) 1 6
  obtain ⟨b, hb, hlb⟩ := id his2
  have hbl : vp_in l 6 := k_is_in his2 hm6 (by decide)
  have hcl : l.toNatClampNeg = b := k_lit hlb (by omega)
  refine AW.aload_n dX10_carried_5 rfl ?_
  refine AW.getI (fX10_103 hG).r rfl (hM.1 0 _ rfl) dX10_carried_6 ?_
  refine AW.if_ne 23 dX10_carried_9 (by decide) (fun h9 => ?_) (fun h9 => ?_)
  · refine AW.aload_n dX10_carried_23 rfl ?_
    refine AW.getR (c' := 89) (fX10_47 hG).r rfl (hM.1 0 _ rfl) (hM.2 (0, 8, 89) (by decide)) dX10_carried_24 ?_
    refine AW.iload_n dX10_carried_27 rfl ?_
    refine AW.iald (hM.1 89 _ rfl) (by first | assumption | (unfold vp_in; decide) | exact vp_in_nI (by omega) (by decide)) dX10_carried_28 ?_
    exact AW.iret dX10_carried_29 rfl (by decide) (by decide) (⟨rfl, b, hb, hlb, h9, by rw [hcl]⟩)
  · exact AW.throwNW (hXS.1 288 (by decide)) dX10_carried_12 dX10_carried_15 dX10_carried_16 dX10_carried_19 dX10_carried_22 (by omega) (Nat.le_of_ble_eq_true rfl) (by decide) (by decide) hg (⟨rfl, rfl, fun h => h.2 h9⟩)
