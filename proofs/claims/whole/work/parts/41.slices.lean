/-! SLICES, CLUES, TABLES -/
/-- each loaf can be divided: so many slices, so many eaters, each of them somebody -/
def k_LV (I : Nat → Nat → Int32) (t n m : Nat) (MN EC : Nat → Nat) : Prop := ∀ l, l < m → f_sc (I (t + 4)) (I (t + 14) l) n = nI (MN l) ∧ 1 ≤ MN l ∧ MN l ≤ 6 ∧ I (t + 13) l = nI (EC l) ∧ EC l ≤ 6 ∧ ∀ j, j < EC l → vp_in (I (t + 15) (6 * l + j)) 8
theorem k_LV_c {I J : Nat → Nat → Int32} {t n m : Nat} {MN EC : Nat → Nat} (h : k_LV I t n m MN EC) (hJ : ∀ a, t ≤ a → a < t + 18 → J a = I a) : k_LV J t n m MN EC := by
  intro l hl
  have := h l hl
  rw [hJ (t + 4) (by omega) (by omega), hJ (t + 14) (by omega) (by omega), hJ (t + 13) (by omega) (by omega), hJ (t + 15) (by omega) (by omega)]
  exact this
theorem f_div_o {I : Nat → Nat → Int32} {t b pj lf len mn ec : Nat} {a : Nat} (h1 : a ≠ t + 18) (h2 : a < 93 ∨ 97 ≤ a) : f_div I 93 t b pj lf len mn ec a = I a := f_w5_o h1 (by omega) (by omega) (by omega) (by omega)
theorem dX10_requireEaterOrNone_0 : decode cX10_requireEaterOrNone 0 = .ok (.iload_n 2, 1) := by decide +kernel
theorem dX10_requireEaterOrNone_1 : decode cX10_requireEaterOrNone 1 = .ok (.iconst (-1), 1) := by decide +kernel
theorem dX10_requireEaterOrNone_2 : decode cX10_requireEaterOrNone 2 = .ok (.if_icmp .lt 19, 3) := by decide +kernel
theorem dX10_requireEaterOrNone_5 : decode cX10_requireEaterOrNone 5 = .ok (.iload_n 2, 1) := by decide +kernel
theorem dX10_requireEaterOrNone_6 : decode cX10_requireEaterOrNone 6 = .ok (.aload_n 0, 1) := by decide +kernel
theorem dX10_requireEaterOrNone_7 : decode cX10_requireEaterOrNone 7 = .ok (.getfield 19, 3) := by decide +kernel
theorem dX10_requireEaterOrNone_10 : decode cX10_requireEaterOrNone 10 = .ok (.getfield 122, 3) := by decide +kernel
theorem dX10_requireEaterOrNone_13 : decode cX10_requireEaterOrNone 13 = .ok (.getfield 327, 3) := by decide +kernel
theorem dX10_requireEaterOrNone_16 : decode cX10_requireEaterOrNone 16 = .ok (.iload_n 1, 1) := by decide +kernel
theorem dX10_requireEaterOrNone_17 : decode cX10_requireEaterOrNone 17 = .ok (.iaload, 1) := by decide +kernel
theorem dX10_requireEaterOrNone_18 : decode cX10_requireEaterOrNone 18 = .ok (.if_icmp .lt 14, 3) := by decide +kernel
theorem dX10_requireEaterOrNone_21 : decode cX10_requireEaterOrNone 21 = .ok (.new 163, 3) := by decide +kernel
theorem dX10_requireEaterOrNone_24 : decode cX10_requireEaterOrNone 24 = .ok (.dup, 1) := by decide +kernel
theorem dX10_requireEaterOrNone_25 : decode cX10_requireEaterOrNone 25 = .ok (.ldc_w 412, 3) := by decide +kernel
theorem dX10_requireEaterOrNone_28 : decode cX10_requireEaterOrNone 28 = .ok (.invokespecial 167, 3) := by decide +kernel
theorem dX10_requireEaterOrNone_31 : decode cX10_requireEaterOrNone 31 = .ok (.athrow, 1) := by decide +kernel
theorem dX10_requireEaterOrNone_32 : decode cX10_requireEaterOrNone 32 = .ok (.return_, 1) := by decide +kernel
set_option maxRecDepth 100000 in
set_option maxHeartbeats 4000000 in
theorem k_X10_requireEaterOrNone {G : am_G} (hK : k_OK G) {d : Nat} (hd : 7 ≤ d) {sh : List (Nat ⊕ (Nat × Nat))} {I : Nat → Nat → Int32} {R : Nat → Nat → Option Nat} {L : Nat → Nat → Int64} {g : Nat} (hXS : k_XS G) {t : Nat} (hM : k_Main sh R) (hRt : R 0 1 = some t) (ht3 : t = 3 ∨ t = 22) (hg : g ≠ 0) {lf : Nat} (l x : Int32) (hl : l = nI lf) (hlf : lf < 6) : AM G mX10_requireEaterOrNone d [.ref 0, .int l, .int x] (sh, I, R, L, g) (fun v w => v = none ∧ w = (sh, I, R, L, g) ∧ ¬ x < -1 ∧ x < I (t + 13) lf) (fun E w => E = "java/util/NoSuchElementException" ∧ w = (sh, I, R, L, g) ∧ ¬ (¬ x < -1 ∧ x < I (t + 13) lf)) := by
  have hG := hK.1
  have ht : k_Town sh R t := by rcases ht3 with rfl | rfl; exact kM_3 hM; exact kM_22 hM
  have o41 := kM_41 hM
  have o42 := kM_42 hM
  have o43 := kM_43 hM
  have o47 := kM_47 hM
  have o60 := kM_60 hM
  have o90 := kM_90 hM
  have o93 := kM_93 hM
  have o97 := kM_97 hM
  have o79 := kM_79 hM
  have o1 := kM_1 hM
  have hcl : l.toNatClampNeg = lf := k_lit hl (by omega)
  have hbl : vp_in l 6 := by rw [hl]; exact vp_in_nI hlf (by decide)
  refine AM.of (n := 0) (by decide +kernel) (Nat.le_of_ble_eq_true rfl) ?_
  show AW G mX10_requireEaterOrNone d (fun v w => v = none ∧ w = (sh, I, R, L, g) ∧ ¬ x < -1 ∧ x < I (t + 13) lf) (fun E w => E = "java/util/NoSuchElementException" ∧ w = (sh, I, R, L, g) ∧ ¬ (¬ x < -1 ∧ x < I (t + 13) lf)) 0 [some (.ref 0), some (.int l), some (.int x)] [] (sh, I, R, L, g) 0 0
  refine AW.iload_n dX10_requireEaterOrNone_0 rfl ?_
  refine AW.iconst (-1) dX10_requireEaterOrNone_1 (by decide) ?_
  refine AW.icmp_lt 21 dX10_requireEaterOrNone_2 (by decide) (fun h2 => ?_) (fun h2 => ?_)
  · exact AW.throwNW (hXS.1 412 (by decide)) dX10_requireEaterOrNone_21 dX10_requireEaterOrNone_24 dX10_requireEaterOrNone_25 dX10_requireEaterOrNone_28 dX10_requireEaterOrNone_31 (by omega) (Nat.le_of_ble_eq_true rfl) (by decide) (by decide) hg (⟨rfl, rfl, fun h => h.1 h2⟩)
  · refine AW.iload_n dX10_requireEaterOrNone_5 rfl ?_
    refine AW.aload_n dX10_requireEaterOrNone_6 rfl ?_
    refine AW.getR (fX10_19 hG).r rfl (hM.1 0 _ rfl) hRt dX10_requireEaterOrNone_7 ?_
    refine AW.getR (c' := (t + 8)) (fX10_122 hG) rfl (ht.1 0 _ rfl) (ht.2 (0, 11, 8) (by decide)) dX10_requireEaterOrNone_10 ?_
    refine AW.getR (c' := (t + 13)) (fX10_327 hG) rfl (ht.1 8 _ rfl) (ht.2 (8, 5, 13) (by decide)) dX10_requireEaterOrNone_13 ?_
    refine AW.iload_n dX10_requireEaterOrNone_16 rfl ?_
    refine AW.iald (ht.1 13 _ rfl) (by first | assumption | (unfold vp_in; decide) | exact vp_in_nI (by omega) (by decide)) dX10_requireEaterOrNone_17 ?_
    refine AW.icmp_lt 32 dX10_requireEaterOrNone_18 (by decide) (fun h18 => ?_) (fun h18 => ?_)
    · rw [hcl] at h18
      exact AW.vret dX10_requireEaterOrNone_32 rfl (by decide) (by decide) (⟨rfl, rfl, h2, h18⟩)
    · rw [hcl] at h18
      exact AW.throwNW (hXS.1 412 (by decide)) dX10_requireEaterOrNone_21 dX10_requireEaterOrNone_24 dX10_requireEaterOrNone_25 dX10_requireEaterOrNone_28 dX10_requireEaterOrNone_31 (by omega) (Nat.le_of_ble_eq_true rfl) (by decide) (by decide) hg (⟨rfl, rfl, fun h => h18 h.2⟩)
theorem k_ix {x : Int32} {e : Nat} (h1 : ¬ x < -1) (h2 : x < nI e) (h3 : ¬ x = -1) (he : e ≤ 6) : ∃ j, j < e ∧ x = nI j := by
  refine k_is_of ?_ h2 (by omega)
  intro h
  have e1 : x.toInt < 0 := by
    have := Int32.lt_iff_toInt_lt.mp h
    exact this
  have e2 : ¬ x.toInt < -1 := fun q => h1 (Int32.lt_iff_toInt_lt.mpr q)
  exact h3 (Int32.toInt_inj.mp (by show x.toInt = -1; omega))
abbrev pX10_slice : am_M := (yX10_slice, cX10_slice, 4, (some .int), 3, 18)
theorem dX10_slice_0 : decode cX10_slice 0 = .ok (.aload_n 0, 1) := by decide +kernel
theorem dX10_slice_1 : decode cX10_slice 1 = .ok (.iload_n 1, 1) := by decide +kernel
theorem dX10_slice_2 : decode cX10_slice 2 = .ok (.invokevirtual 168, 3) := by decide +kernel
theorem dX10_slice_5 : decode cX10_slice 5 = .ok (.aload_n 0, 1) := by decide +kernel
theorem dX10_slice_6 : decode cX10_slice 6 = .ok (.iload_n 2, 1) := by decide +kernel
theorem dX10_slice_7 : decode cX10_slice 7 = .ok (.invokevirtual 191, 3) := by decide +kernel
theorem dX10_slice_10 : decode cX10_slice 10 = .ok (.aload_n 0, 1) := by decide +kernel
theorem dX10_slice_11 : decode cX10_slice 11 = .ok (.iload_n 2, 1) := by decide +kernel
theorem dX10_slice_12 : decode cX10_slice 12 = .ok (.iload_n 3, 1) := by decide +kernel
theorem dX10_slice_13 : decode cX10_slice 13 = .ok (.invokevirtual 235, 3) := by decide +kernel
theorem dX10_slice_16 : decode cX10_slice 16 = .ok (.aload_n 0, 1) := by decide +kernel
theorem dX10_slice_17 : decode cX10_slice 17 = .ok (.getfield 61, 3) := by decide +kernel
theorem dX10_slice_20 : decode cX10_slice 20 = .ok (.aload_n 0, 1) := by decide +kernel
theorem dX10_slice_21 : decode cX10_slice 21 = .ok (.getfield 19, 3) := by decide +kernel
theorem dX10_slice_24 : decode cX10_slice 24 = .ok (.aload_n 0, 1) := by decide +kernel
theorem dX10_slice_25 : decode cX10_slice 25 = .ok (.getfield 33, 3) := by decide +kernel
theorem dX10_slice_28 : decode cX10_slice 28 = .ok (.getfield 110, 3) := by decide +kernel
theorem dX10_slice_31 : decode cX10_slice 31 = .ok (.getfield 114, 3) := by decide +kernel
theorem dX10_slice_34 : decode cX10_slice 34 = .ok (.iload_n 1, 1) := by decide +kernel
theorem dX10_slice_35 : decode cX10_slice 35 = .ok (.iload_n 2, 1) := by decide +kernel
theorem dX10_slice_36 : decode cX10_slice 36 = .ok (.invokevirtual 239, 3) := by decide +kernel
theorem dX10_slice_39 : decode cX10_slice 39 = .ok (.iload_n 3, 1) := by decide +kernel
theorem dX10_slice_40 : decode cX10_slice 40 = .ok (.iconst (-1), 1) := by decide +kernel
theorem dX10_slice_41 : decode cX10_slice 41 = .ok (.if_icmp .ne 13, 3) := by decide +kernel
theorem dX10_slice_44 : decode cX10_slice 44 = .ok (.aload_n 0, 1) := by decide +kernel
theorem dX10_slice_45 : decode cX10_slice 45 = .ok (.getfield 61, 3) := by decide +kernel
theorem dX10_slice_48 : decode cX10_slice 48 = .ok (.getfield 243, 3) := by decide +kernel
theorem dX10_slice_51 : decode cX10_slice 51 = .ok (.goto 12, 3) := by decide +kernel
theorem dX10_slice_54 : decode cX10_slice 54 = .ok (.aload_n 0, 1) := by decide +kernel
theorem dX10_slice_55 : decode cX10_slice 55 = .ok (.getfield 61, 3) := by decide +kernel
theorem dX10_slice_58 : decode cX10_slice 58 = .ok (.getfield 246, 3) := by decide +kernel
theorem dX10_slice_61 : decode cX10_slice 61 = .ok (.iload_n 3, 1) := by decide +kernel
theorem dX10_slice_62 : decode cX10_slice 62 = .ok (.iaload, 1) := by decide +kernel
theorem dX10_slice_63 : decode cX10_slice 63 = .ok (.ireturn, 1) := by decide +kernel
set_option maxRecDepth 100000 in
set_option maxHeartbeats 4000000 in
theorem k_X10_slice {G : am_G} (hK : k_OK G) {d : Nat} (hd : 8 ≤ d) {sh : List (Nat ⊕ (Nat × Nat))} {I : Nat → Nat → Int32} {R : Nat → Nat → Option Nat} {L : Nat → Nat → Int64} {g : Nat} (hXS : k_XS G) {t : Nat} (hM : k_Main sh R) (hRt : R 0 1 = some t) (ht3 : t = 3 ∨ t = 22) (hg : g ≠ 0) {n m : Nat} (hn : I t 0 = nI n) (hn8 : n ≤ 8) (hm : I (t + 8) 0 = nI m) (hm6 : m ≤ 6) {len : Nat} {MN EC : Nat → Nat} (hlen : I (t + 16) 2 = nI len) (hlen6 : len ≤ 600) (hLV : k_LV I t n m MN EC) (p l x : Int32) : AM G pX10_slice d [.ref 0, .int p, .int l, .int x] (sh, I, R, L, g) (fun v w => ∃ a b, a < n ∧ b < m ∧ p = nI a ∧ l = nI b ∧ ¬ x < -1 ∧ x < nI (EC b) ∧ v = some (.int (if x = -1 then (f_div I 93 t 47 a b len (MN b) (EC b)) 93 4 else (f_div I 93 t 47 a b len (MN b) (EC b)) 95 x.toNatClampNeg)) ∧ w = (sh, f_div I 93 t 47 a b len (MN b) (EC b), R, L, g)) (fun E w => w = (sh, I, R, L, g) ∧ E = "java/util/NoSuchElementException" ∧ ¬ (k_is p n ∧ ∃ b, b < m ∧ l = nI b ∧ ¬ x < -1 ∧ x < nI (EC b))) := by
  have hG := hK.1
  have ht : k_Town sh R t := by rcases ht3 with rfl | rfl; exact kM_3 hM; exact kM_22 hM
  have o41 := kM_41 hM
  have o42 := kM_42 hM
  have o43 := kM_43 hM
  have o47 := kM_47 hM
  have o60 := kM_60 hM
  have o90 := kM_90 hM
  have o93 := kM_93 hM
  have o97 := kM_97 hM
  have o79 := kM_79 hM
  have o1 := kM_1 hM
  refine AM.of (n := 0) (by decide +kernel) (Nat.le_of_ble_eq_true rfl) ?_
  show AW G pX10_slice d (fun v w => ∃ a b, a < n ∧ b < m ∧ p = nI a ∧ l = nI b ∧ ¬ x < -1 ∧ x < nI (EC b) ∧ v = some (.int (if x = -1 then (f_div I 93 t 47 a b len (MN b) (EC b)) 93 4 else (f_div I 93 t 47 a b len (MN b) (EC b)) 95 x.toNatClampNeg)) ∧ w = (sh, f_div I 93 t 47 a b len (MN b) (EC b), R, L, g)) (fun E w => w = (sh, I, R, L, g) ∧ E = "java/util/NoSuchElementException" ∧ ¬ (k_is p n ∧ ∃ b, b < m ∧ l = nI b ∧ ¬ x < -1 ∧ x < nI (EC b))) 0 [some (.ref 0), some (.int p), some (.int l), some (.int x)] [] (sh, I, R, L, g) 0 0
  refine AW.aload_n dX10_slice_0 rfl ?_
  refine AW.iload_n dX10_slice_1 rfl ?_
  refine AW.callV (b := 0) (As := [.int p]) hG.2.2 (vX10_168 hG) (hM.1 0 _ rfl) (k_X10_requirePerson hK (d := 7) (Nat.le_refl _) hXS hM hRt ht3 hg (by assumption) (by assumption) p) (by omega) dX10_slice_2 rfl rfl (Nat.le_of_ble_eq_true rfl) (fun v w9 hq9 h09 => absurd (by obtain ⟨-, e9, -⟩ := hq9; rw [e9] at h09; exact h09) hg) (by decide) (by decide) (fun E w9 h9 => ⟨h9.2.1, h9.1, fun h => h9.2.2 h.1⟩) (fun v2 w2 hq2 => ?_)
  obtain ⟨rfl, rfl, his2⟩ := hq2
  show AW G pX10_slice d (fun v w => ∃ a b, a < n ∧ b < m ∧ p = nI a ∧ l = nI b ∧ ¬ x < -1 ∧ x < nI (EC b) ∧ v = some (.int (if x = -1 then (f_div I 93 t 47 a b len (MN b) (EC b)) 93 4 else (f_div I 93 t 47 a b len (MN b) (EC b)) 95 x.toNatClampNeg)) ∧ w = (sh, f_div I 93 t 47 a b len (MN b) (EC b), R, L, g)) (fun E w => w = (sh, I, R, L, g) ∧ E = "java/util/NoSuchElementException" ∧ ¬ (k_is p n ∧ ∃ b, b < m ∧ l = nI b ∧ ¬ x < -1 ∧ x < nI (EC b))) 5 [some (.ref 0), some (.int p), some (.int l), some (.int x)] [] (sh, I, R, L, g) 1 6
  refine AW.aload_n dX10_slice_5 rfl ?_
  refine AW.iload_n dX10_slice_6 rfl ?_
  refine AW.callV (b := 0) (As := [.int l]) hG.2.2 (vX10_191 hG) (hM.1 0 _ rfl) (k_X10_requireLoaf hK (d := 7) (Nat.le_refl _) hXS hM hRt ht3 hg (by assumption) (by assumption) l) (by omega) dX10_slice_7 rfl rfl (Nat.le_of_ble_eq_true rfl) (fun v w9 hq9 h09 => absurd (by obtain ⟨-, e9, -⟩ := hq9; rw [e9] at h09; exact h09) hg) (by decide) (by decide) (fun E w9 h9 => ⟨h9.2.1, h9.1, fun h => h9.2.2 (by obtain ⟨-, b, h1, h2, -⟩ := h; exact ⟨b, h1, h2⟩)⟩) (fun v7 w7 hq7 => ?_)
  obtain ⟨rfl, rfl, his7⟩ := hq7
  show AW G pX10_slice d (fun v w => ∃ a b, a < n ∧ b < m ∧ p = nI a ∧ l = nI b ∧ ¬ x < -1 ∧ x < nI (EC b) ∧ v = some (.int (if x = -1 then (f_div I 93 t 47 a b len (MN b) (EC b)) 93 4 else (f_div I 93 t 47 a b len (MN b) (EC b)) 95 x.toNatClampNeg)) ∧ w = (sh, f_div I 93 t 47 a b len (MN b) (EC b), R, L, g)) (fun E w => w = (sh, I, R, L, g) ∧ E = "java/util/NoSuchElementException" ∧ ¬ (k_is p n ∧ ∃ b, b < m ∧ l = nI b ∧ ¬ x < -1 ∧ x < nI (EC b))) 10 [some (.ref 0), some (.int p), some (.int l), some (.int x)] [] (sh, I, R, L, g) 2 12
  obtain ⟨a, ha, hpa⟩ := id his2
  obtain ⟨b, hb, hlb⟩ := id his7
  have hb6 : b < 6 := by omega
  obtain ⟨hL1, hL2, hL3, hL4, hL5, hL6⟩ := hLV b hb
  refine AW.aload_n dX10_slice_10 rfl ?_
  refine AW.iload_n dX10_slice_11 rfl ?_
  refine AW.iload_n dX10_slice_12 rfl ?_
  refine AW.callV (b := 0) (As := [.int l, .int x]) hG.2.2 (vX10_235 hG) (hM.1 0 _ rfl) (k_X10_requireEaterOrNone hK (d := 7) (Nat.le_refl _) hXS hM hRt ht3 hg l x (by assumption) (by omega)) (by omega) dX10_slice_13 rfl rfl (Nat.le_of_ble_eq_true rfl) (fun v w9 hq9 h09 => absurd (by obtain ⟨-, e9, -⟩ := hq9; rw [e9] at h09; exact h09) hg) (by decide) (by decide) (fun E w9 h9 => ⟨h9.2.1, h9.1, fun h => h9.2.2 (by obtain ⟨-, b9, k1, k2, k3, k4⟩ := h; have hbb : b9 = b := (nI_eq (by omega) (by omega)).mp (k2.symm.trans hlb); subst hbb; exact ⟨k3, by rw [hL4]; exact k4⟩)⟩) (fun v13 w13 hq13 => ?_)
  obtain ⟨rfl, rfl, hie13⟩ := hq13
  show AW G pX10_slice d (fun v w => ∃ a b, a < n ∧ b < m ∧ p = nI a ∧ l = nI b ∧ ¬ x < -1 ∧ x < nI (EC b) ∧ v = some (.int (if x = -1 then (f_div I 93 t 47 a b len (MN b) (EC b)) 93 4 else (f_div I 93 t 47 a b len (MN b) (EC b)) 95 x.toNatClampNeg)) ∧ w = (sh, f_div I 93 t 47 a b len (MN b) (EC b), R, L, g)) (fun E w => w = (sh, I, R, L, g) ∧ E = "java/util/NoSuchElementException" ∧ ¬ (k_is p n ∧ ∃ b, b < m ∧ l = nI b ∧ ¬ x < -1 ∧ x < nI (EC b))) 16 [some (.ref 0), some (.int p), some (.int l), some (.int x)] [] (sh, I, R, L, g) 3 18
  refine AW.aload_n dX10_slice_16 rfl ?_
  refine AW.getR (c' := 93) (fX10_61 hG).r rfl (hM.1 0 _ rfl) (hM.2 (0, 11, 93) (by decide)) dX10_slice_17 ?_
  refine AW.aload_n dX10_slice_20 rfl ?_
  refine AW.getR (fX10_19 hG).r rfl (hM.1 0 _ rfl) hRt dX10_slice_21 ?_
  refine AW.aload_n dX10_slice_24 rfl ?_
  refine AW.getR (c' := 41) (fX10_33 hG).r rfl (hM.1 0 _ rfl) (hM.2 (0, 4, 41) (by decide)) dX10_slice_25 ?_
  refine AW.getR (c' := 42) (fX10_110 hG) rfl (o41.1 0 _ rfl) (o41.2 (0, 0, 1) (by decide)) dX10_slice_28 ?_
  refine AW.getR (c' := 47) (fX10_114 hG) rfl (o42.1 0 _ rfl) (o42.2 (0, 1, 5) (by decide)) dX10_slice_31 ?_
  refine AW.iload_n dX10_slice_34 rfl ?_
  refine AW.iload_n dX10_slice_35 rfl ?_
  refine AW.callV (b := 93) (As := [.ref t, .ref 47, .int p, .int l]) hG.2.2 (vX10_239 hG) (o93.1 0 _ rfl) (k_X5_divide hK (d := 4) (Nat.le_refl _) o93 ht o47 (by omega) (by omega) (by omega) p l (by assumption) (by omega) (by assumption) (by omega) (by assumption) (by assumption) (by assumption) (by assumption) hL1 hL2 hL3 hL4 hL5 hL6) (by omega) dX10_slice_36 rfl rfl (Nat.le_of_ble_eq_true rfl) (fun v w9 hq9 h09 => by obtain ⟨rfl, rfl⟩ := hq9; exact ⟨h09, rfl⟩) (by decide) (by decide) (fun _ _ hx => absurd hx id) (fun v36 w36 hq36 => ?_)
  obtain ⟨rfl, rfl⟩ := hq36
  refine AW.namI (fun I36 eI36 => ?_)
  show AW G pX10_slice d (fun v w => ∃ a b, a < n ∧ b < m ∧ p = nI a ∧ l = nI b ∧ ¬ x < -1 ∧ x < nI (EC b) ∧ v = some (.int (if x = -1 then (f_div I 93 t 47 a b len (MN b) (EC b)) 93 4 else (f_div I 93 t 47 a b len (MN b) (EC b)) 95 x.toNatClampNeg)) ∧ w = (sh, f_div I 93 t 47 a b len (MN b) (EC b), R, L, g)) (fun E w => w = (sh, I, R, L, g) ∧ E = "java/util/NoSuchElementException" ∧ ¬ (k_is p n ∧ ∃ b, b < m ∧ l = nI b ∧ ¬ x < -1 ∧ x < nI (EC b))) 39 [some (.ref 0), some (.int p), some (.int l), some (.int x)] [] (sh, I36, R, L, g) 3 18
  refine AW.iload_n dX10_slice_39 rfl ?_
  refine AW.iconst (-1) dX10_slice_40 (by decide) ?_
  refine AW.icmp_ne 54 dX10_slice_41 (by decide) (fun h41 => ?_) (fun h41 => ?_)
  · obtain ⟨jx, hjx, hxj⟩ := k_ix hie13.1 (by rw [← hL4]; exact hie13.2) h41 hL5
    have hbx9 : vp_in x 6 := by rw [hxj]; exact vp_in_nI (by omega) (by decide)
    refine AW.aload_n dX10_slice_54 rfl ?_
    refine AW.getR (c' := 93) (fX10_61 hG).r rfl (hM.1 0 _ rfl) (hM.2 (0, 11, 93) (by decide)) dX10_slice_55 ?_
    refine AW.getR (c' := 95) (fX10_246 hG) rfl (o93.1 0 _ rfl) (o93.2 (0, 1, 2) (by decide)) dX10_slice_58 ?_
    refine AW.iload_n dX10_slice_61 rfl ?_
    refine AW.iald (o93.1 2 _ rfl) (by first | assumption | (unfold vp_in; decide) | exact vp_in_nI (by omega) (by decide)) dX10_slice_62 ?_
    exact AW.iret dX10_slice_63 rfl (by decide) (by decide) (⟨a, b, ha, hb, hpa, hlb, hie13.1, by rw [← hL4]; exact hie13.2, by rw [if_neg h41, eI36], by rw [eI36]⟩)
  · refine AW.aload_n dX10_slice_44 rfl ?_
    refine AW.getR (c' := 93) (fX10_61 hG).r rfl (hM.1 0 _ rfl) (hM.2 (0, 11, 93) (by decide)) dX10_slice_45 ?_
    refine AW.getI (fX10_243 hG).r rfl (o93.1 0 _ rfl) dX10_slice_48 ?_
    refine AW.goto 63 dX10_slice_51 (by decide) ?_
    exact AW.iret dX10_slice_63 rfl (by decide) (by decide) (⟨a, b, ha, hb, hpa, hlb, hie13.1, by rw [← hL4]; exact hie13.2, by rw [if_pos h41, eI36], by rw [eI36]⟩)
abbrev pX10_see : am_M := (yX10_see, cX10_see, 5, (some .int), 1, 6)
theorem dX10_see_0 : decode cX10_see 0 = .ok (.aload_n 0, 1) := by decide +kernel
theorem dX10_see_1 : decode cX10_see 1 = .ok (.iload_n 1, 1) := by decide +kernel
theorem dX10_see_2 : decode cX10_see 2 = .ok (.invokevirtual 191, 3) := by decide +kernel
theorem dX10_see_5 : decode cX10_see 5 = .ok (.iload_n 2, 1) := by decide +kernel
theorem dX10_see_6 : decode cX10_see 6 = .ok (.ifCond .lt 23, 3) := by decide +kernel
theorem dX10_see_9 : decode cX10_see 9 = .ok (.iload_n 2, 1) := by decide +kernel
theorem dX10_see_10 : decode cX10_see 10 = .ok (.aload_n 0, 1) := by decide +kernel
theorem dX10_see_11 : decode cX10_see 11 = .ok (.getfield 19, 3) := by decide +kernel
theorem dX10_see_14 : decode cX10_see 14 = .ok (.getfield 122, 3) := by decide +kernel
theorem dX10_see_17 : decode cX10_see 17 = .ok (.getfield 327, 3) := by decide +kernel
theorem dX10_see_20 : decode cX10_see 20 = .ok (.iload_n 1, 1) := by decide +kernel
theorem dX10_see_21 : decode cX10_see 21 = .ok (.iaload, 1) := by decide +kernel
theorem dX10_see_22 : decode cX10_see 22 = .ok (.if_icmp .ge 7, 3) := by decide +kernel
theorem dX10_see_25 : decode cX10_see 25 = .ok (.iconst 1, 1) := by decide +kernel
theorem dX10_see_26 : decode cX10_see 26 = .ok (.goto 4, 3) := by decide +kernel
theorem dX10_see_29 : decode cX10_see 29 = .ok (.iconst 0, 1) := by decide +kernel
theorem dX10_see_30 : decode cX10_see 30 = .ok (.istore 4, 2) := by decide +kernel
theorem dX10_see_32 : decode cX10_see 32 = .ok (.aload_n 0, 1) := by decide +kernel
theorem dX10_see_33 : decode cX10_see 33 = .ok (.getfield 33, 3) := by decide +kernel
theorem dX10_see_36 : decode cX10_see 36 = .ok (.getfield 157, 3) := by decide +kernel
theorem dX10_see_39 : decode cX10_see 39 = .ok (.bipush 6, 2) := by decide +kernel
theorem dX10_see_41 : decode cX10_see 41 = .ok (.if_icmp .ge 19, 3) := by decide +kernel
theorem dX10_see_44 : decode cX10_see 44 = .ok (.iload 4, 2) := by decide +kernel
theorem dX10_see_46 : decode cX10_see 46 = .ok (.ifCond .eq 14, 3) := by decide +kernel
theorem dX10_see_49 : decode cX10_see 49 = .ok (.iload_n 3, 1) := by decide +kernel
theorem dX10_see_50 : decode cX10_see 50 = .ok (.ifCond .lt 10, 3) := by decide +kernel
theorem dX10_see_53 : decode cX10_see 53 = .ok (.iload_n 3, 1) := by decide +kernel
theorem dX10_see_54 : decode cX10_see 54 = .ok (.sipush 999, 3) := by decide +kernel
theorem dX10_see_57 : decode cX10_see 57 = .ok (.if_icmp .le 18, 3) := by decide +kernel
theorem dX10_see_60 : decode cX10_see 60 = .ok (.aload_n 0, 1) := by decide +kernel
theorem dX10_see_61 : decode cX10_see 61 = .ok (.getfield 33, 3) := by decide +kernel
theorem dX10_see_64 : decode cX10_see 64 = .ok (.getfield 100, 3) := by decide +kernel
theorem dX10_see_67 : decode cX10_see 67 = .ok (.iconst 2, 1) := by decide +kernel
theorem dX10_see_68 : decode cX10_see 68 = .ok (.dup2, 1) := by decide +kernel
theorem dX10_see_69 : decode cX10_see 69 = .ok (.iaload, 1) := by decide +kernel
theorem dX10_see_70 : decode cX10_see 70 = .ok (.iconst 1, 1) := by decide +kernel
theorem dX10_see_71 : decode cX10_see 71 = .ok (.iadd, 1) := by decide +kernel
theorem dX10_see_72 : decode cX10_see 72 = .ok (.iastore, 1) := by decide +kernel
theorem dX10_see_73 : decode cX10_see 73 = .ok (.iconst (-1), 1) := by decide +kernel
theorem dX10_see_74 : decode cX10_see 74 = .ok (.ireturn, 1) := by decide +kernel
theorem dX10_see_75 : decode cX10_see 75 = .ok (.aload_n 0, 1) := by decide +kernel
theorem dX10_see_76 : decode cX10_see 76 = .ok (.getfield 33, 3) := by decide +kernel
theorem dX10_see_79 : decode cX10_see 79 = .ok (.iload_n 1, 1) := by decide +kernel
theorem dX10_see_80 : decode cX10_see 80 = .ok (.iload_n 2, 1) := by decide +kernel
theorem dX10_see_81 : decode cX10_see 81 = .ok (.iload_n 3, 1) := by decide +kernel
theorem dX10_see_82 : decode cX10_see 82 = .ok (.invokevirtual 330, 3) := by decide +kernel
theorem dX10_see_85 : decode cX10_see 85 = .ok (.ireturn, 1) := by decide +kernel
set_option maxRecDepth 100000 in
set_option maxHeartbeats 4000000 in
theorem k_X10_see {G : am_G} (hK : k_OK G) {d : Nat} (hd : 8 ≤ d) {sh : List (Nat ⊕ (Nat × Nat))} {I : Nat → Nat → Int32} {R : Nat → Nat → Option Nat} {L : Nat → Nat → Int64} {g : Nat} (hXS : k_XS G) {t : Nat} (hM : k_Main sh R) (hRt : R 0 1 = some t) (ht3 : t = 3 ∨ t = 22) (hg : g ≠ 0) {n m : Nat} (hn : I t 0 = nI n) (hn8 : n ≤ 8) (hm : I (t + 8) 0 = nI m) (hm6 : m ≤ 6) {EC : Nat → Nat} (hEC : ∀ l, l < m → I (t + 13) l = nI (EC l)) {k : Nat} (hk : I 41 2 = nI k) (hk6 : k ≤ 6) (l x y : Int32) : AM G pX10_see d [.ref 0, .int l, .int x, .int y] (sh, I, R, L, g) (fun v w => ∃ b, b < m ∧ l = nI b ∧ v = some (.int (if 6 ≤ I 41 2 ∨ (x < 0 ∨ nI (EC b) ≤ x) ∨ y < 0 ∨ ¬ y ≤ 999 then -1 else nI (k + 1))) ∧ w = (sh, if 6 ≤ I 41 2 ∨ (x < 0 ∨ nI (EC b) ≤ x) ∨ y < 0 ∨ ¬ y ≤ 999 then f_ref I 2 else am_uA (am_uA (am_uA (am_uA I 55 (upd (I 55) k l)) 56 (upd (I 56) k x)) 57 (upd (I 57) k y)) 41 (upd (I 41) 2 (nI (k + 1))), R, L, g)) (fun E w => w = (sh, I, R, L, g) ∧ E = "java/util/NoSuchElementException" ∧ ¬ k_is l m) := by
  have hG := hK.1
  have ht : k_Town sh R t := by rcases ht3 with rfl | rfl; exact kM_3 hM; exact kM_22 hM
  have o41 := kM_41 hM
  have o42 := kM_42 hM
  have o43 := kM_43 hM
  have o47 := kM_47 hM
  have o60 := kM_60 hM
  have o90 := kM_90 hM
  have o93 := kM_93 hM
  have o97 := kM_97 hM
  have o79 := kM_79 hM
  have o1 := kM_1 hM
  refine AM.of (n := 1) (by decide +kernel) (Nat.le_of_ble_eq_true rfl) ?_
  show AW G pX10_see d (fun v w => ∃ b, b < m ∧ l = nI b ∧ v = some (.int (if 6 ≤ I 41 2 ∨ (x < 0 ∨ nI (EC b) ≤ x) ∨ y < 0 ∨ ¬ y ≤ 999 then -1 else nI (k + 1))) ∧ w = (sh, if 6 ≤ I 41 2 ∨ (x < 0 ∨ nI (EC b) ≤ x) ∨ y < 0 ∨ ¬ y ≤ 999 then f_ref I 2 else am_uA (am_uA (am_uA (am_uA I 55 (upd (I 55) k l)) 56 (upd (I 56) k x)) 57 (upd (I 57) k y)) 41 (upd (I 41) 2 (nI (k + 1))), R, L, g)) (fun E w => w = (sh, I, R, L, g) ∧ E = "java/util/NoSuchElementException" ∧ ¬ k_is l m) 0 [some (.ref 0), some (.int l), some (.int x), some (.int y), none] [] (sh, I, R, L, g) 0 0
  refine AW.aload_n dX10_see_0 rfl ?_
  refine AW.iload_n dX10_see_1 rfl ?_
  refine AW.callV (b := 0) (As := [.int l]) hG.2.2 (vX10_191 hG) (hM.1 0 _ rfl) (k_X10_requireLoaf hK (d := 7) (Nat.le_refl _) hXS hM hRt ht3 hg (by assumption) (by assumption) l) (by omega) dX10_see_2 rfl rfl (Nat.le_of_ble_eq_true rfl) (fun v w9 hq9 h09 => absurd (by obtain ⟨-, e9, -⟩ := hq9; rw [e9] at h09; exact h09) hg) (by decide) (by decide) (fun E w9 h9 => ⟨h9.2.1, h9.1, h9.2.2⟩) (fun v2 w2 hq2 => ?_)
  obtain ⟨rfl, rfl, his2⟩ := hq2
  show AW G pX10_see d (fun v w => ∃ b, b < m ∧ l = nI b ∧ v = some (.int (if 6 ≤ I 41 2 ∨ (x < 0 ∨ nI (EC b) ≤ x) ∨ y < 0 ∨ ¬ y ≤ 999 then -1 else nI (k + 1))) ∧ w = (sh, if 6 ≤ I 41 2 ∨ (x < 0 ∨ nI (EC b) ≤ x) ∨ y < 0 ∨ ¬ y ≤ 999 then f_ref I 2 else am_uA (am_uA (am_uA (am_uA I 55 (upd (I 55) k l)) 56 (upd (I 56) k x)) 57 (upd (I 57) k y)) 41 (upd (I 41) 2 (nI (k + 1))), R, L, g)) (fun E w => w = (sh, I, R, L, g) ∧ E = "java/util/NoSuchElementException" ∧ ¬ k_is l m) 5 [some (.ref 0), some (.int l), some (.int x), some (.int y), none] [] (sh, I, R, L, g) 1 6
  obtain ⟨b, hb, hlb⟩ := id his2
  have hcl : l.toNatClampNeg = b := k_lit hlb (by omega)
  have hbl : vp_in l 6 := k_is_in his2 hm6 (by decide)
  have hE := hEC b hb
  refine AW.iload_n dX10_see_5 rfl ?_
  refine AW.if_lt 29 dX10_see_6 (by decide) (fun h6 => ?_) (fun h6 => ?_)
  · refine AW.iconst 0 dX10_see_29 (by decide) ?_
    refine AW.is [some (.ref 0), some (.int l), some (.int x), some (.int y), some (.int 0)] dX10_see_30 (by decide) rfl rfl ?_
    refine AW.aload_n dX10_see_32 rfl ?_
    refine AW.getR (c' := 41) (fX10_33 hG).r rfl (hM.1 0 _ rfl) (hM.2 (0, 4, 41) (by decide)) dX10_see_33 ?_
    refine AW.getI (fX10_157 hG).r rfl (o41.1 0 _ rfl) dX10_see_36 ?_
    refine AW.bipush 6 dX10_see_39 (by decide) ?_
    refine AW.icmp_ge 60 dX10_see_41 (by decide) (fun h41 => ?_) (fun h41 => ?_)
    · refine AW.aload_n dX10_see_60 rfl ?_
      refine AW.getR (c' := 41) (fX10_33 hG).r rfl (hM.1 0 _ rfl) (hM.2 (0, 4, 41) (by decide)) dX10_see_61 ?_
      refine AW.getR (c' := 54) (fX10_100 hG) rfl (o41.1 0 _ rfl) (o41.2 (0, 1, 13) (by decide)) dX10_see_64 ?_
      refine AW.iconst 2 dX10_see_67 (by decide) ?_
      refine AW.dup2 dX10_see_68 rfl rfl ?_
      refine AW.iald (o41.1 13 _ rfl) (by first | assumption | (unfold vp_in; decide) | exact vp_in_nI (by omega) (by decide)) dX10_see_69 ?_
      refine AW.iconst 1 dX10_see_70 (by decide) ?_
      refine AW.iadd dX10_see_71 ?_
      refine AW.iast (o41.1 13 _ rfl) (by first | assumption | (unfold vp_in; decide) | exact vp_in_nI (by omega) (by decide)) dX10_see_72 ?_
      refine AW.namI (fun I72 eI72 => ?_)
      refine AW.iconst (-1) dX10_see_73 (by decide) ?_
      exact AW.iret dX10_see_74 rfl (by decide) (by decide) (⟨b, hb, hlb, by rw [if_pos (Or.inl h41)], by rw [if_pos (Or.inl h41), eI72]; rfl⟩)
    · have hk9 : k < 6 := by
        rcases Nat.lt_or_ge k 6 with h | h
        · exact h
        · exact absurd ((nI_lel (n := 6) rfl hk (by decide) (by omega)).mpr h) h41
      refine AW.iload dX10_see_44 rfl ?_
      refine AW.if_eq 60 dX10_see_46 (by decide) (fun h46 => ?_) (fun h46 => ?_)
      · refine AW.aload_n dX10_see_60 rfl ?_
        refine AW.getR (c' := 41) (fX10_33 hG).r rfl (hM.1 0 _ rfl) (hM.2 (0, 4, 41) (by decide)) dX10_see_61 ?_
        refine AW.getR (c' := 54) (fX10_100 hG) rfl (o41.1 0 _ rfl) (o41.2 (0, 1, 13) (by decide)) dX10_see_64 ?_
        refine AW.iconst 2 dX10_see_67 (by decide) ?_
        refine AW.dup2 dX10_see_68 rfl rfl ?_
        refine AW.iald (o41.1 13 _ rfl) (by first | assumption | (unfold vp_in; decide) | exact vp_in_nI (by omega) (by decide)) dX10_see_69 ?_
        refine AW.iconst 1 dX10_see_70 (by decide) ?_
        refine AW.iadd dX10_see_71 ?_
        refine AW.iast (o41.1 13 _ rfl) (by first | assumption | (unfold vp_in; decide) | exact vp_in_nI (by omega) (by decide)) dX10_see_72 ?_
        refine AW.namI (fun I72 eI72 => ?_)
        refine AW.iconst (-1) dX10_see_73 (by decide) ?_
        exact AW.iret dX10_see_74 rfl (by decide) (by decide) (⟨b, hb, hlb, by rw [if_pos (Or.inr (Or.inl (Or.inl h6)))], by rw [if_pos (Or.inr (Or.inl (Or.inl h6))), eI72]; rfl⟩)
      · exact absurd rfl h46
  · refine AW.iload_n dX10_see_9 rfl ?_
    refine AW.aload_n dX10_see_10 rfl ?_
    refine AW.getR (fX10_19 hG).r rfl (hM.1 0 _ rfl) hRt dX10_see_11 ?_
    refine AW.getR (c' := (t + 8)) (fX10_122 hG) rfl (ht.1 0 _ rfl) (ht.2 (0, 11, 8) (by decide)) dX10_see_14 ?_
    refine AW.getR (c' := (t + 13)) (fX10_327 hG) rfl (ht.1 8 _ rfl) (ht.2 (8, 5, 13) (by decide)) dX10_see_17 ?_
    refine AW.iload_n dX10_see_20 rfl ?_
    refine AW.iald (ht.1 13 _ rfl) (by first | assumption | (unfold vp_in; decide) | exact vp_in_nI (by omega) (by decide)) dX10_see_21 ?_
    refine AW.icmp_ge 29 dX10_see_22 (by decide) (fun h22 => ?_) (fun h22 => ?_)
    · rw [hcl, hE] at h22
      refine AW.iconst 0 dX10_see_29 (by decide) ?_
      refine AW.is [some (.ref 0), some (.int l), some (.int x), some (.int y), some (.int 0)] dX10_see_30 (by decide) rfl rfl ?_
      refine AW.aload_n dX10_see_32 rfl ?_
      refine AW.getR (c' := 41) (fX10_33 hG).r rfl (hM.1 0 _ rfl) (hM.2 (0, 4, 41) (by decide)) dX10_see_33 ?_
      refine AW.getI (fX10_157 hG).r rfl (o41.1 0 _ rfl) dX10_see_36 ?_
      refine AW.bipush 6 dX10_see_39 (by decide) ?_
      refine AW.icmp_ge 60 dX10_see_41 (by decide) (fun h41 => ?_) (fun h41 => ?_)
      · refine AW.aload_n dX10_see_60 rfl ?_
        refine AW.getR (c' := 41) (fX10_33 hG).r rfl (hM.1 0 _ rfl) (hM.2 (0, 4, 41) (by decide)) dX10_see_61 ?_
        refine AW.getR (c' := 54) (fX10_100 hG) rfl (o41.1 0 _ rfl) (o41.2 (0, 1, 13) (by decide)) dX10_see_64 ?_
        refine AW.iconst 2 dX10_see_67 (by decide) ?_
        refine AW.dup2 dX10_see_68 rfl rfl ?_
        refine AW.iald (o41.1 13 _ rfl) (by first | assumption | (unfold vp_in; decide) | exact vp_in_nI (by omega) (by decide)) dX10_see_69 ?_
        refine AW.iconst 1 dX10_see_70 (by decide) ?_
        refine AW.iadd dX10_see_71 ?_
        refine AW.iast (o41.1 13 _ rfl) (by first | assumption | (unfold vp_in; decide) | exact vp_in_nI (by omega) (by decide)) dX10_see_72 ?_
        refine AW.namI (fun I72 eI72 => ?_)
        refine AW.iconst (-1) dX10_see_73 (by decide) ?_
        exact AW.iret dX10_see_74 rfl (by decide) (by decide) (⟨b, hb, hlb, by rw [if_pos (Or.inl h41)], by rw [if_pos (Or.inl h41), eI72]; rfl⟩)
      · have hk9 : k < 6 := by
          rcases Nat.lt_or_ge k 6 with h | h
          · exact h
          · exact absurd ((nI_lel (n := 6) rfl hk (by decide) (by omega)).mpr h) h41
        refine AW.iload dX10_see_44 rfl ?_
        refine AW.if_eq 60 dX10_see_46 (by decide) (fun h46 => ?_) (fun h46 => ?_)
        · refine AW.aload_n dX10_see_60 rfl ?_
          refine AW.getR (c' := 41) (fX10_33 hG).r rfl (hM.1 0 _ rfl) (hM.2 (0, 4, 41) (by decide)) dX10_see_61 ?_
          refine AW.getR (c' := 54) (fX10_100 hG) rfl (o41.1 0 _ rfl) (o41.2 (0, 1, 13) (by decide)) dX10_see_64 ?_
          refine AW.iconst 2 dX10_see_67 (by decide) ?_
          refine AW.dup2 dX10_see_68 rfl rfl ?_
          refine AW.iald (o41.1 13 _ rfl) (by first | assumption | (unfold vp_in; decide) | exact vp_in_nI (by omega) (by decide)) dX10_see_69 ?_
          refine AW.iconst 1 dX10_see_70 (by decide) ?_
          refine AW.iadd dX10_see_71 ?_
          refine AW.iast (o41.1 13 _ rfl) (by first | assumption | (unfold vp_in; decide) | exact vp_in_nI (by omega) (by decide)) dX10_see_72 ?_
          refine AW.namI (fun I72 eI72 => ?_)
          refine AW.iconst (-1) dX10_see_73 (by decide) ?_
          exact AW.iret dX10_see_74 rfl (by decide) (by decide) (⟨b, hb, hlb, by rw [if_pos (Or.inr (Or.inl (Or.inr h22)))], by rw [if_pos (Or.inr (Or.inl (Or.inr h22))), eI72]; rfl⟩)
        · exact absurd rfl h46
    · rw [hcl, hE] at h22
      refine AW.iconst 1 dX10_see_25 (by decide) ?_
      refine AW.goto 30 dX10_see_26 (by decide) ?_
      refine AW.is [some (.ref 0), some (.int l), some (.int x), some (.int y), some (.int 1)] dX10_see_30 (by decide) rfl rfl ?_
      refine AW.aload_n dX10_see_32 rfl ?_
      refine AW.getR (c' := 41) (fX10_33 hG).r rfl (hM.1 0 _ rfl) (hM.2 (0, 4, 41) (by decide)) dX10_see_33 ?_
      refine AW.getI (fX10_157 hG).r rfl (o41.1 0 _ rfl) dX10_see_36 ?_
      refine AW.bipush 6 dX10_see_39 (by decide) ?_
      refine AW.icmp_ge 60 dX10_see_41 (by decide) (fun h41 => ?_) (fun h41 => ?_)
      · refine AW.aload_n dX10_see_60 rfl ?_
        refine AW.getR (c' := 41) (fX10_33 hG).r rfl (hM.1 0 _ rfl) (hM.2 (0, 4, 41) (by decide)) dX10_see_61 ?_
        refine AW.getR (c' := 54) (fX10_100 hG) rfl (o41.1 0 _ rfl) (o41.2 (0, 1, 13) (by decide)) dX10_see_64 ?_
        refine AW.iconst 2 dX10_see_67 (by decide) ?_
        refine AW.dup2 dX10_see_68 rfl rfl ?_
        refine AW.iald (o41.1 13 _ rfl) (by first | assumption | (unfold vp_in; decide) | exact vp_in_nI (by omega) (by decide)) dX10_see_69 ?_
        refine AW.iconst 1 dX10_see_70 (by decide) ?_
        refine AW.iadd dX10_see_71 ?_
        refine AW.iast (o41.1 13 _ rfl) (by first | assumption | (unfold vp_in; decide) | exact vp_in_nI (by omega) (by decide)) dX10_see_72 ?_
        refine AW.namI (fun I72 eI72 => ?_)
        refine AW.iconst (-1) dX10_see_73 (by decide) ?_
        exact AW.iret dX10_see_74 rfl (by decide) (by decide) (⟨b, hb, hlb, by rw [if_pos (Or.inl h41)], by rw [if_pos (Or.inl h41), eI72]; rfl⟩)
      · have hk9 : k < 6 := by
          rcases Nat.lt_or_ge k 6 with h | h
          · exact h
          · exact absurd ((nI_lel (n := 6) rfl hk (by decide) (by omega)).mpr h) h41
        refine AW.iload dX10_see_44 rfl ?_
        refine AW.if_eq 60 dX10_see_46 (by decide) (fun h46 => ?_) (fun h46 => ?_)
        · exact absurd h46 (by decide)
        · refine AW.iload_n dX10_see_49 rfl ?_
          refine AW.if_lt 60 dX10_see_50 (by decide) (fun h50 => ?_) (fun h50 => ?_)
          · refine AW.aload_n dX10_see_60 rfl ?_
            refine AW.getR (c' := 41) (fX10_33 hG).r rfl (hM.1 0 _ rfl) (hM.2 (0, 4, 41) (by decide)) dX10_see_61 ?_
            refine AW.getR (c' := 54) (fX10_100 hG) rfl (o41.1 0 _ rfl) (o41.2 (0, 1, 13) (by decide)) dX10_see_64 ?_
            refine AW.iconst 2 dX10_see_67 (by decide) ?_
            refine AW.dup2 dX10_see_68 rfl rfl ?_
            refine AW.iald (o41.1 13 _ rfl) (by first | assumption | (unfold vp_in; decide) | exact vp_in_nI (by omega) (by decide)) dX10_see_69 ?_
            refine AW.iconst 1 dX10_see_70 (by decide) ?_
            refine AW.iadd dX10_see_71 ?_
            refine AW.iast (o41.1 13 _ rfl) (by first | assumption | (unfold vp_in; decide) | exact vp_in_nI (by omega) (by decide)) dX10_see_72 ?_
            refine AW.namI (fun I72 eI72 => ?_)
            refine AW.iconst (-1) dX10_see_73 (by decide) ?_
            exact AW.iret dX10_see_74 rfl (by decide) (by decide) (⟨b, hb, hlb, by rw [if_pos (Or.inr (Or.inr (Or.inl h50)))], by rw [if_pos (Or.inr (Or.inr (Or.inl h50))), eI72]; rfl⟩)
          · refine AW.iload_n dX10_see_53 rfl ?_
            refine AW.sipush 999 dX10_see_54 (by decide) ?_
            refine AW.icmp_le 75 dX10_see_57 (by decide) (fun h57 => ?_) (fun h57 => ?_)
            · refine AW.aload_n dX10_see_75 rfl ?_
              refine AW.getR (c' := 41) (fX10_33 hG).r rfl (hM.1 0 _ rfl) (hM.2 (0, 4, 41) (by decide)) dX10_see_76 ?_
              refine AW.iload_n dX10_see_79 rfl ?_
              refine AW.iload_n dX10_see_80 rfl ?_
              refine AW.iload_n dX10_see_81 rfl ?_
              refine AW.callV (b := 41) (As := [.int l, .int x, .int y]) hG.2.2 (vX10_330 hG) (o41.1 0 _ rfl) (k_X4_addSeen hK (d := 0) (Nat.le_refl _) o41 (by assumption) (by assumption) l x y) (by omega) dX10_see_82 rfl rfl (Nat.le_of_ble_eq_true rfl) (fun v w9 hq9 h09 => by obtain ⟨rfl, rfl⟩ := hq9; exact ⟨h09, rfl⟩) (by decide) (by decide) (fun _ _ hx => absurd hx id) (fun v82 w82 hq82 => ?_)
              obtain ⟨rfl, rfl⟩ := hq82
              refine AW.namI (fun I82 eI82 => ?_)
              refine AW.nam (fun x82 ex82 => ?_)
              exact AW.iret dX10_see_85 rfl (by decide) (by decide) (⟨b, hb, hlb, by rw [if_neg (by rintro (h | (h | h) | h | h); exact h41 h; exact h6 h; exact h22 h; exact h50 h; exact h h57), ex82], by rw [if_neg (by rintro (h | (h | h) | h | h); exact h41 h; exact h6 h; exact h22 h; exact h50 h; exact h h57), eI82]⟩)
            · refine AW.aload_n dX10_see_60 rfl ?_
              refine AW.getR (c' := 41) (fX10_33 hG).r rfl (hM.1 0 _ rfl) (hM.2 (0, 4, 41) (by decide)) dX10_see_61 ?_
              refine AW.getR (c' := 54) (fX10_100 hG) rfl (o41.1 0 _ rfl) (o41.2 (0, 1, 13) (by decide)) dX10_see_64 ?_
              refine AW.iconst 2 dX10_see_67 (by decide) ?_
              refine AW.dup2 dX10_see_68 rfl rfl ?_
              refine AW.iald (o41.1 13 _ rfl) (by first | assumption | (unfold vp_in; decide) | exact vp_in_nI (by omega) (by decide)) dX10_see_69 ?_
              refine AW.iconst 1 dX10_see_70 (by decide) ?_
              refine AW.iadd dX10_see_71 ?_
              refine AW.iast (o41.1 13 _ rfl) (by first | assumption | (unfold vp_in; decide) | exact vp_in_nI (by omega) (by decide)) dX10_see_72 ?_
              refine AW.namI (fun I72 eI72 => ?_)
              refine AW.iconst (-1) dX10_see_73 (by decide) ?_
              exact AW.iret dX10_see_74 rfl (by decide) (by decide) (⟨b, hb, hlb, by rw [if_pos (Or.inr (Or.inr (Or.inr h57)))], by rw [if_pos (Or.inr (Or.inr (Or.inr h57))), eI72]; rfl⟩)
def f_eb (kd tw kn eb bp bl : Nat → Int32) (co : Int32) (k : Nat) : Bool := lall (fun j => decide (¬ f_ka kd tw kn (bp j) co &&& eb (bl j).toNatClampNeg = 0)) k
theorem dX10_explainsBalking_0 : decode cX10_explainsBalking 0 = .ok (.aload_n 0, 1) := by decide +kernel
theorem dX10_explainsBalking_1 : decode cX10_explainsBalking 1 = .ok (.getfield 19, 3) := by decide +kernel
theorem dX10_explainsBalking_4 : decode cX10_explainsBalking 4 = .ok (.iconst 1, 1) := by decide +kernel
theorem dX10_explainsBalking_5 : decode cX10_explainsBalking 5 = .ok (.iload_n 1, 1) := by decide +kernel
theorem dX10_explainsBalking_6 : decode cX10_explainsBalking 6 = .ok (.ishl, 1) := by decide +kernel
theorem dX10_explainsBalking_7 : decode cX10_explainsBalking 7 = .ok (.iconst 1, 1) := by decide +kernel
theorem dX10_explainsBalking_8 : decode cX10_explainsBalking 8 = .ok (.iload_n 2, 1) := by decide +kernel
theorem dX10_explainsBalking_9 : decode cX10_explainsBalking 9 = .ok (.ishl, 1) := by decide +kernel
theorem dX10_explainsBalking_10 : decode cX10_explainsBalking 10 = .ok (.ior, 1) := by decide +kernel
theorem dX10_explainsBalking_11 : decode cX10_explainsBalking 11 = .ok (.invokevirtual 300, 3) := by decide +kernel
theorem dX10_explainsBalking_14 : decode cX10_explainsBalking 14 = .ok (.istore_n 3, 1) := by decide +kernel
theorem dX10_explainsBalking_15 : decode cX10_explainsBalking 15 = .ok (.iconst 0, 1) := by decide +kernel
theorem dX10_explainsBalking_16 : decode cX10_explainsBalking 16 = .ok (.istore 4, 2) := by decide +kernel
theorem dX10_explainsBalking_18 : decode cX10_explainsBalking 18 = .ok (.iload 4, 2) := by decide +kernel
theorem dX10_explainsBalking_20 : decode cX10_explainsBalking 20 = .ok (.aload_n 0, 1) := by decide +kernel
theorem dX10_explainsBalking_21 : decode cX10_explainsBalking 21 = .ok (.getfield 33, 3) := by decide +kernel
theorem dX10_explainsBalking_24 : decode cX10_explainsBalking 24 = .ok (.getfield 160, 3) := by decide +kernel
theorem dX10_explainsBalking_27 : decode cX10_explainsBalking 27 = .ok (.if_icmp .ge 62, 3) := by decide +kernel
theorem dX10_explainsBalking_30 : decode cX10_explainsBalking 30 = .ok (.aload_n 0, 1) := by decide +kernel
theorem dX10_explainsBalking_31 : decode cX10_explainsBalking 31 = .ok (.getfield 54, 3) := by decide +kernel
theorem dX10_explainsBalking_34 : decode cX10_explainsBalking 34 = .ok (.aload_n 0, 1) := by decide +kernel
theorem dX10_explainsBalking_35 : decode cX10_explainsBalking 35 = .ok (.getfield 19, 3) := by decide +kernel
theorem dX10_explainsBalking_38 : decode cX10_explainsBalking 38 = .ok (.aload_n 0, 1) := by decide +kernel
theorem dX10_explainsBalking_39 : decode cX10_explainsBalking 39 = .ok (.getfield 33, 3) := by decide +kernel
theorem dX10_explainsBalking_42 : decode cX10_explainsBalking 42 = .ok (.getfield 352, 3) := by decide +kernel
theorem dX10_explainsBalking_45 : decode cX10_explainsBalking 45 = .ok (.iload 4, 2) := by decide +kernel
theorem dX10_explainsBalking_47 : decode cX10_explainsBalking 47 = .ok (.iaload, 1) := by decide +kernel
theorem dX10_explainsBalking_48 : decode cX10_explainsBalking 48 = .ok (.iload_n 3, 1) := by decide +kernel
theorem dX10_explainsBalking_49 : decode cX10_explainsBalking 49 = .ok (.invokevirtual 355, 3) := by decide +kernel
theorem dX10_explainsBalking_52 : decode cX10_explainsBalking 52 = .ok (.istore 5, 2) := by decide +kernel
theorem dX10_explainsBalking_54 : decode cX10_explainsBalking 54 = .ok (.iload 5, 2) := by decide +kernel
theorem dX10_explainsBalking_56 : decode cX10_explainsBalking 56 = .ok (.aload_n 0, 1) := by decide +kernel
theorem dX10_explainsBalking_57 : decode cX10_explainsBalking 57 = .ok (.getfield 19, 3) := by decide +kernel
theorem dX10_explainsBalking_60 : decode cX10_explainsBalking 60 = .ok (.getfield 122, 3) := by decide +kernel
theorem dX10_explainsBalking_63 : decode cX10_explainsBalking 63 = .ok (.getfield 204, 3) := by decide +kernel
theorem dX10_explainsBalking_66 : decode cX10_explainsBalking 66 = .ok (.aload_n 0, 1) := by decide +kernel
theorem dX10_explainsBalking_67 : decode cX10_explainsBalking 67 = .ok (.getfield 33, 3) := by decide +kernel
theorem dX10_explainsBalking_70 : decode cX10_explainsBalking 70 = .ok (.getfield 359, 3) := by decide +kernel
theorem dX10_explainsBalking_73 : decode cX10_explainsBalking 73 = .ok (.iload 4, 2) := by decide +kernel
theorem dX10_explainsBalking_75 : decode cX10_explainsBalking 75 = .ok (.iaload, 1) := by decide +kernel
theorem dX10_explainsBalking_76 : decode cX10_explainsBalking 76 = .ok (.iaload, 1) := by decide +kernel
theorem dX10_explainsBalking_77 : decode cX10_explainsBalking 77 = .ok (.iand, 1) := by decide +kernel
theorem dX10_explainsBalking_78 : decode cX10_explainsBalking 78 = .ok (.ifCond .ne 5, 3) := by decide +kernel
theorem dX10_explainsBalking_81 : decode cX10_explainsBalking 81 = .ok (.iconst 0, 1) := by decide +kernel
theorem dX10_explainsBalking_82 : decode cX10_explainsBalking 82 = .ok (.ireturn, 1) := by decide +kernel
theorem dX10_explainsBalking_83 : decode cX10_explainsBalking 83 = .ok (.iinc 4 1, 3) := by decide +kernel
theorem dX10_explainsBalking_86 : decode cX10_explainsBalking 86 = .ok (.goto (-68), 3) := by decide +kernel
theorem dX10_explainsBalking_89 : decode cX10_explainsBalking 89 = .ok (.iconst 1, 1) := by decide +kernel
theorem dX10_explainsBalking_90 : decode cX10_explainsBalking 90 = .ok (.ireturn, 1) := by decide +kernel
set_option maxRecDepth 100000 in
set_option maxHeartbeats 4000000 in
theorem k_X10_explainsBalking {G : am_G} (hK : k_OK G) {d : Nat} (hd : 4 ≤ d) {sh : List (Nat ⊕ (Nat × Nat))} {I : Nat → Nat → Int32} {R : Nat → Nat → Option Nat} {L : Nat → Nat → Int64} {g : Nat} (hXS : k_XS G) {t : Nat} (hM : k_Main sh R) (hRt : R 0 1 = some t) (ht3 : t = 3 ∨ t = 22) {n : Nat} (hn : I t 0 = nI n) (hn8 : n ≤ 8) {k : Nat} (hk : I 41 6 = nI k) (hk4 : k ≤ 4) (hB : ∀ j, j < k → vp_in (I 58 j) 8 ∧ vp_in (I 59 j) 6) (x y : Int32) : AM G mX10_explainsBalking d [.ref 0, .int x, .int y] (sh, I, R, L, g) (fun v w => v = some (.int (kb (f_eb (I (t + 1)) (I (t + 4)) (I 91) (I (t + 14)) (I 58) (I 59) (f_wt (I (t + 4)) (((1 : Int32) <<< (x &&& 31)) ||| ((1 : Int32) <<< (y &&& 31))) n) k))) ∧ w = (sh, I, R, L, g)) (fun _ _ => False) := by
  have hG := hK.1
  have ht : k_Town sh R t := by rcases ht3 with rfl | rfl; exact kM_3 hM; exact kM_22 hM
  have o41 := kM_41 hM
  have o42 := kM_42 hM
  have o43 := kM_43 hM
  have o47 := kM_47 hM
  have o60 := kM_60 hM
  have o90 := kM_90 hM
  have o93 := kM_93 hM
  have o97 := kM_97 hM
  have o79 := kM_79 hM
  have o1 := kM_1 hM
  refine AM.of (n := 3) (by decide +kernel) (Nat.le_of_ble_eq_true rfl) ?_
  show AW G mX10_explainsBalking d (fun v w => v = some (.int (kb (f_eb (I (t + 1)) (I (t + 4)) (I 91) (I (t + 14)) (I 58) (I 59) (f_wt (I (t + 4)) (((1 : Int32) <<< (x &&& 31)) ||| ((1 : Int32) <<< (y &&& 31))) n) k))) ∧ w = (sh, I, R, L, g)) (fun _ _ => False) 0 [some (.ref 0), some (.int x), some (.int y), none, none, none] [] (sh, I, R, L, g) 0 0
  refine AW.aload_n dX10_explainsBalking_0 rfl ?_
  refine AW.getR (fX10_19 hG).r rfl (hM.1 0 _ rfl) hRt dX10_explainsBalking_1 ?_
  refine AW.iconst 1 dX10_explainsBalking_4 (by decide) ?_
  refine AW.iload_n dX10_explainsBalking_5 rfl ?_
  refine AW.ishl dX10_explainsBalking_6 ?_
  refine AW.iconst 1 dX10_explainsBalking_7 (by decide) ?_
  refine AW.iload_n dX10_explainsBalking_8 rfl ?_
  refine AW.ishl dX10_explainsBalking_9 ?_
  refine AW.ior dX10_explainsBalking_10 ?_
  refine AW.callV (b := t) (As := [.int ((1 <<< (x &&& 31)) ||| (1 <<< (y &&& 31)))]) hG.2.2 (vX10_300 hG) (ht.1 0 _ rfl) (k_X9_withTwins hK (d := 1) (Nat.le_refl _) ht (by assumption) (by assumption) ((1 <<< (x &&& 31)) ||| (1 <<< (y &&& 31)))) (by omega) dX10_explainsBalking_11 rfl rfl (Nat.le_of_ble_eq_true rfl) (fun v w9 hq9 h09 => by obtain ⟨rfl, rfl⟩ := hq9; exact ⟨h09, rfl⟩) (by decide) (by decide) (fun _ _ hx => hx) (fun v11 w11 hq11 => ?_)
  obtain ⟨rfl, rfl⟩ := hq11
  refine AW.nam (fun x11 ex11 => ?_)
  refine AW.is_n [some (.ref 0), some (.int x), some (.int y), some (.int x11), none, none] dX10_explainsBalking_14 (by decide) rfl rfl ?_
  refine AW.iconst 0 dX10_explainsBalking_15 (by decide) ?_
  refine AW.is [some (.ref 0), some (.int x), some (.int y), some (.int x11), some (.int 0), none] dX10_explainsBalking_16 (by decide) rfl rfl ?_
  have L18 : ∀ k18, k18 ≤ k → ∀ (z : Int32), (z = nI k18 ∧ f_eb (I (t + 1)) (I (t + 4)) (I 91) (I (t + 14)) (I 58) (I 59) (f_wt (I (t + 4)) (((1 : Int32) <<< (x &&& 31)) ||| ((1 : Int32) <<< (y &&& 31))) n) k18 = true) → AW G mX10_explainsBalking d (fun v w => v = some (.int (kb (f_eb (I (t + 1)) (I (t + 4)) (I 91) (I (t + 14)) (I 58) (I 59) (f_wt (I (t + 4)) (((1 : Int32) <<< (x &&& 31)) ||| ((1 : Int32) <<< (y &&& 31))) n) k))) ∧ w = (sh, I, R, L, g)) (fun _ _ => False) 18 [some (.ref 0), some (.int x), some (.int y), some (.int x11), some (.int z), none] [] (sh, I, R, L, g) 0 0 := by
    refine am_rec k (fun k18 hk18 ih18 => ?_)
    intro z hi18
    obtain ⟨hz, ha⟩ := hi18
    refine AW.iload dX10_explainsBalking_18 rfl ?_
    refine AW.aload_n dX10_explainsBalking_20 rfl ?_
    refine AW.getR (c' := 41) (fX10_33 hG).r rfl (hM.1 0 _ rfl) (hM.2 (0, 4, 41) (by decide)) dX10_explainsBalking_21 ?_
    refine AW.getI (fX10_160 hG).r rfl (o41.1 0 _ rfl) dX10_explainsBalking_24 ?_
    refine AW.icmp_ge 89 dX10_explainsBalking_27 (by decide) (fun h27 => ?_) (fun h27 => ?_)
    · have hke := k_ge h27 hz hk hk18 (by omega)
      subst hke
      refine AW.iconst 1 dX10_explainsBalking_89 (by decide) ?_
      exact AW.zret dX10_explainsBalking_90 rfl (by decide) (by decide) (by decide) (⟨by rw [ha]; rfl, rfl⟩)
    · have hlt := k_lt h27 hz hk hk18 (by omega)
      have hbz : vp_in z 4 := by rw [hz]; exact vp_in_nI (by omega) (by decide)
      have hcz : z.toNatClampNeg = k18 := k_lit hz (by omega)
      have hB1 : vp_in (I 58 z.toNatClampNeg) 8 := by rw [hcz]; exact (hB k18 hlt).1
      have hB2 : vp_in (I 59 z.toNatClampNeg) 6 := by rw [hcz]; exact (hB k18 hlt).2
      refine AW.aload_n dX10_explainsBalking_30 rfl ?_
      refine AW.getR (c' := 90) (fX10_54 hG).r rfl (hM.1 0 _ rfl) (hM.2 (0, 10, 90) (by decide)) dX10_explainsBalking_31 ?_
      refine AW.aload_n dX10_explainsBalking_34 rfl ?_
      refine AW.getR (fX10_19 hG).r rfl (hM.1 0 _ rfl) hRt dX10_explainsBalking_35 ?_
      refine AW.aload_n dX10_explainsBalking_38 rfl ?_
      refine AW.getR (c' := 41) (fX10_33 hG).r rfl (hM.1 0 _ rfl) (hM.2 (0, 4, 41) (by decide)) dX10_explainsBalking_39 ?_
      refine AW.getR (c' := 58) (fX10_352 hG) rfl (o41.1 0 _ rfl) (o41.2 (0, 7, 17) (by decide)) dX10_explainsBalking_42 ?_
      refine AW.iload dX10_explainsBalking_45 rfl ?_
      refine AW.iald (o41.1 17 _ rfl) (by first | assumption | (unfold vp_in; decide) | exact vp_in_nI (by omega) (by decide)) dX10_explainsBalking_47 ?_
      refine AW.iload_n dX10_explainsBalking_48 rfl ?_
      refine AW.callV (b := 90) (As := [.ref t, .int (I 58 z.toNatClampNeg), .int x11]) hG.2.2 (vX10_355 hG) (o90.1 0 _ rfl) (k_X1_knownAfter hK (d := 2) (Nat.le_refl _) o90 ht (I 58 z.toNatClampNeg) x11 (by assumption)) (by omega) dX10_explainsBalking_49 rfl rfl (Nat.le_of_ble_eq_true rfl) (fun v w9 hq9 h09 => by obtain ⟨rfl, rfl⟩ := hq9; exact ⟨h09, rfl⟩) (by decide) (by decide) (fun _ _ hx => hx) (fun v49 w49 hq49 => ?_)
      obtain ⟨rfl, rfl⟩ := hq49
      refine AW.nam (fun x49 ex49 => ?_)
      refine AW.is [some (.ref 0), some (.int x), some (.int y), some (.int x11), some (.int z), some (.int x49)] dX10_explainsBalking_52 (by decide) rfl rfl ?_
      refine AW.iload dX10_explainsBalking_54 rfl ?_
      refine AW.aload_n dX10_explainsBalking_56 rfl ?_
      refine AW.getR (fX10_19 hG).r rfl (hM.1 0 _ rfl) hRt dX10_explainsBalking_57 ?_
      refine AW.getR (c' := (t + 8)) (fX10_122 hG) rfl (ht.1 0 _ rfl) (ht.2 (0, 11, 8) (by decide)) dX10_explainsBalking_60 ?_
      refine AW.getR (c' := (t + 14)) (fX10_204 hG) rfl (ht.1 8 _ rfl) (ht.2 (8, 6, 14) (by decide)) dX10_explainsBalking_63 ?_
      refine AW.aload_n dX10_explainsBalking_66 rfl ?_
      refine AW.getR (c' := 41) (fX10_33 hG).r rfl (hM.1 0 _ rfl) (hM.2 (0, 4, 41) (by decide)) dX10_explainsBalking_67 ?_
      refine AW.getR (c' := 59) (fX10_359 hG) rfl (o41.1 0 _ rfl) (o41.2 (0, 8, 18) (by decide)) dX10_explainsBalking_70 ?_
      refine AW.iload dX10_explainsBalking_73 rfl ?_
      refine AW.iald (o41.1 18 _ rfl) (by first | assumption | (unfold vp_in; decide) | exact vp_in_nI (by omega) (by decide)) dX10_explainsBalking_75 ?_
      refine AW.iald (ht.1 14 _ rfl) (by first | assumption | (unfold vp_in; decide) | exact vp_in_nI (by omega) (by decide)) dX10_explainsBalking_76 ?_
      refine AW.iand dX10_explainsBalking_77 ?_
      refine AW.if_ne 83 dX10_explainsBalking_78 (by decide) (fun h78 => ?_) (fun h78 => ?_)
      · rw [ex49, hcz, ex11] at h78
        refine AW.inc (fun x83 => [some (.ref 0), some (.int x), some (.int y), some (.int x11), some (.int x83), some (.int x49)]) dX10_explainsBalking_83 rfl (by decide) rfl (fun _ => rfl) (fun x83 ex83 => ?_)
        refine AW.goto 18 dX10_explainsBalking_86 (by decide) ?_
        refine AW.mask [5] [some (.ref 0), some (.int x), some (.int y), some (.int x11), some (.int x83), none] rfl ?_
        exact ih18 (k18 + 1) (by omega) (by omega) _ (⟨k_inc (by assumption) hz, (show (f_eb (I (t + 1)) (I (t + 4)) (I 91) (I (t + 14)) (I 58) (I 59) (f_wt (I (t + 4)) (((1 : Int32) <<< (x &&& 31)) ||| ((1 : Int32) <<< (y &&& 31))) n) k18 && _) = true by rw [ha]; simpa using h78)⟩)
      · rw [ex49, hcz, ex11] at h78
        refine AW.iconst 0 dX10_explainsBalking_81 (by decide) ?_
        exact AW.zret dX10_explainsBalking_82 rfl (by decide) (by decide) (by decide) (⟨by rw [kb_f (b := f_eb (I (t + 1)) (I (t + 4)) (I 91) (I (t + 14)) (I 58) (I 59) (f_wt (I (t + 4)) (((1 : Int32) <<< (x &&& 31)) ||| ((1 : Int32) <<< (y &&& 31))) n) k) (lall_no hlt (by simpa using h78))], rfl⟩)
  exact L18 0 (by omega) _ (⟨nI_0.symm, rfl⟩)
