/-! WHO, FAIREST -/
/-- who fits what was seen of the loaf b: the world, the bits -/
def f_wh1 (t b len mn ec k : Nat) (l : Int32) (p : Nat) (q : (Nat → Nat → Int32) × Int32) : (Nat → Nat → Int32) × Int32 :=
  if decide (¬ f_pair (q.1 (t + 4)) (nI p) &&& q.1 (t + 14) b = 0) then q
  else if f_sf ((f_div q.1 93 t 47 p b len mn ec) 55) ((f_div q.1 93 t 47 p b len mn ec) 56) ((f_div q.1 93 t 47 p b len mn ec) 57) ((f_div q.1 93 t 47 p b len mn ec) 95) l k then (f_div q.1 93 t 47 p b len mn ec, q.2 ||| ((1 : Int32) <<< (nI p &&& 31)))
  else (f_div q.1 93 t 47 p b len mn ec, q.2)
def f_wh (I : Nat → Nat → Int32) (t b len mn ec k : Nat) (l : Int32) (n : Nat) : (Nat → Nat → Int32) × Int32 := lfold (fun p q => f_wh1 t b len mn ec k l p q) (I, 0) n
theorem f_wh_o (I : Nat → Nat → Int32) (t b len mn ec k : Nat) (l : Int32) (n : Nat) {a : Nat} (h1 : a ≠ t + 18) (h2 : a < 93 ∨ 97 ≤ a) : (f_wh I t b len mn ec k l n).1 a = I a := by
  induction n with
  | zero => rfl
  | succ n ih =>
    show (f_wh1 t b len mn ec k l n (f_wh I t b len mn ec k l n)).1 a = I a
    unfold f_wh1
    split
    · exact ih
    · split
      · exact (f_div_o h1 h2).trans ih
      · exact (f_div_o h1 h2).trans ih
/-- who cuts the loaf b best: the world, he, what it is worth -/
def f_fa1 (t b len mn ec : Nat) (cu x : Int32) (p : Nat) (q : (Nat → Nat → Int32) × Int32 × Int32) : (Nat → Nat → Int32) × Int32 × Int32 :=
  if f_has cu (nI p) then
    if q.2.1 = -1 ∨ q.2.2 < (if x = -1 then -((f_div q.1 93 t 47 p b len mn ec) 94 0 - (f_div q.1 93 t 47 p b len mn ec) 94 (mn - 1)) else (f_div q.1 93 t 47 p b len mn ec) 95 x.toNatClampNeg) then (f_div q.1 93 t 47 p b len mn ec, nI p, (if x = -1 then -((f_div q.1 93 t 47 p b len mn ec) 94 0 - (f_div q.1 93 t 47 p b len mn ec) 94 (mn - 1)) else (f_div q.1 93 t 47 p b len mn ec) 95 x.toNatClampNeg))
    else (f_div q.1 93 t 47 p b len mn ec, q.2)
  else q
def f_fa (I : Nat → Nat → Int32) (t b len mn ec : Nat) (cu x : Int32) (n : Nat) : (Nat → Nat → Int32) × Int32 × Int32 := lfold (fun p q => f_fa1 t b len mn ec cu x p q) (I, -1, 0) n
theorem f_fa_o (I : Nat → Nat → Int32) (t b len mn ec : Nat) (cu x : Int32) (n : Nat) {a : Nat} (h1 : a ≠ t + 18) (h2 : a < 93 ∨ 97 ≤ a) : (f_fa I t b len mn ec cu x n).1 a = I a := by
  induction n with
  | zero => rfl
  | succ n ih =>
    show (f_fa1 t b len mn ec cu x n (f_fa I t b len mn ec cu x n)).1 a = I a
    unfold f_fa1
    split
    · split <;> split <;> exact (f_div_o h1 h2).trans ih
    · exact ih
abbrev pX10_who : am_M := (yX10_who, cX10_who, 4, (some .int), 1, 6)
theorem dX10_who_0 : decode cX10_who 0 = .ok (.aload_n 0, 1) := by decide +kernel
theorem dX10_who_1 : decode cX10_who 1 = .ok (.iload_n 1, 1) := by decide +kernel
theorem dX10_who_2 : decode cX10_who 2 = .ok (.invokevirtual 191, 3) := by decide +kernel
theorem dX10_who_5 : decode cX10_who 5 = .ok (.iconst 0, 1) := by decide +kernel
theorem dX10_who_6 : decode cX10_who 6 = .ok (.istore_n 2, 1) := by decide +kernel
theorem dX10_who_7 : decode cX10_who 7 = .ok (.iconst 0, 1) := by decide +kernel
theorem dX10_who_8 : decode cX10_who 8 = .ok (.istore_n 3, 1) := by decide +kernel
theorem dX10_who_9 : decode cX10_who 9 = .ok (.iload_n 3, 1) := by decide +kernel
theorem dX10_who_10 : decode cX10_who 10 = .ok (.aload_n 0, 1) := by decide +kernel
theorem dX10_who_11 : decode cX10_who 11 = .ok (.getfield 19, 3) := by decide +kernel
theorem dX10_who_14 : decode cX10_who 14 = .ok (.getfield 119, 3) := by decide +kernel
theorem dX10_who_17 : decode cX10_who 17 = .ok (.if_icmp .ge 68, 3) := by decide +kernel
theorem dX10_who_20 : decode cX10_who 20 = .ok (.aload_n 0, 1) := by decide +kernel
theorem dX10_who_21 : decode cX10_who 21 = .ok (.getfield 19, 3) := by decide +kernel
theorem dX10_who_24 : decode cX10_who 24 = .ok (.iload_n 3, 1) := by decide +kernel
theorem dX10_who_25 : decode cX10_who 25 = .ok (.iload_n 1, 1) := by decide +kernel
theorem dX10_who_26 : decode cX10_who 26 = .ok (.invokevirtual 334, 3) := by decide +kernel
theorem dX10_who_29 : decode cX10_who 29 = .ok (.ifCond .ne 50, 3) := by decide +kernel
theorem dX10_who_32 : decode cX10_who 32 = .ok (.aload_n 0, 1) := by decide +kernel
theorem dX10_who_33 : decode cX10_who 33 = .ok (.getfield 61, 3) := by decide +kernel
theorem dX10_who_36 : decode cX10_who 36 = .ok (.aload_n 0, 1) := by decide +kernel
theorem dX10_who_37 : decode cX10_who 37 = .ok (.getfield 19, 3) := by decide +kernel
theorem dX10_who_40 : decode cX10_who 40 = .ok (.aload_n 0, 1) := by decide +kernel
theorem dX10_who_41 : decode cX10_who 41 = .ok (.getfield 33, 3) := by decide +kernel
theorem dX10_who_44 : decode cX10_who 44 = .ok (.getfield 110, 3) := by decide +kernel
theorem dX10_who_47 : decode cX10_who 47 = .ok (.getfield 114, 3) := by decide +kernel
theorem dX10_who_50 : decode cX10_who 50 = .ok (.iload_n 3, 1) := by decide +kernel
theorem dX10_who_51 : decode cX10_who 51 = .ok (.iload_n 1, 1) := by decide +kernel
theorem dX10_who_52 : decode cX10_who 52 = .ok (.invokevirtual 239, 3) := by decide +kernel
theorem dX10_who_55 : decode cX10_who 55 = .ok (.aload_n 0, 1) := by decide +kernel
theorem dX10_who_56 : decode cX10_who 56 = .ok (.getfield 33, 3) := by decide +kernel
theorem dX10_who_59 : decode cX10_who 59 = .ok (.iload_n 1, 1) := by decide +kernel
theorem dX10_who_60 : decode cX10_who 60 = .ok (.aload_n 0, 1) := by decide +kernel
theorem dX10_who_61 : decode cX10_who 61 = .ok (.getfield 61, 3) := by decide +kernel
theorem dX10_who_64 : decode cX10_who 64 = .ok (.getfield 246, 3) := by decide +kernel
theorem dX10_who_67 : decode cX10_who 67 = .ok (.invokevirtual 337, 3) := by decide +kernel
theorem dX10_who_70 : decode cX10_who 70 = .ok (.ifCond .eq 9, 3) := by decide +kernel
theorem dX10_who_73 : decode cX10_who 73 = .ok (.iload_n 2, 1) := by decide +kernel
theorem dX10_who_74 : decode cX10_who 74 = .ok (.iconst 1, 1) := by decide +kernel
theorem dX10_who_75 : decode cX10_who 75 = .ok (.iload_n 3, 1) := by decide +kernel
theorem dX10_who_76 : decode cX10_who 76 = .ok (.ishl, 1) := by decide +kernel
theorem dX10_who_77 : decode cX10_who 77 = .ok (.ior, 1) := by decide +kernel
theorem dX10_who_78 : decode cX10_who 78 = .ok (.istore_n 2, 1) := by decide +kernel
theorem dX10_who_79 : decode cX10_who 79 = .ok (.iinc 3 1, 3) := by decide +kernel
theorem dX10_who_82 : decode cX10_who 82 = .ok (.goto (-73), 3) := by decide +kernel
theorem dX10_who_85 : decode cX10_who 85 = .ok (.iload_n 2, 1) := by decide +kernel
theorem dX10_who_86 : decode cX10_who 86 = .ok (.ireturn, 1) := by decide +kernel
set_option maxRecDepth 100000 in
set_option maxHeartbeats 4000000 in
theorem k_X10_who {G : am_G} (hK : k_OK G) {d : Nat} (hd : 8 ≤ d) {sh : List (Nat ⊕ (Nat × Nat))} {I : Nat → Nat → Int32} {R : Nat → Nat → Option Nat} {L : Nat → Nat → Int64} {g : Nat} (hXS : k_XS G) {t : Nat} (hM : k_Main sh R) (hRt : R 0 1 = some t) (ht3 : t = 3 ∨ t = 22) (hg : g ≠ 0) {n m : Nat} (hn : I t 0 = nI n) (hn8 : n ≤ 8) (hm : I (t + 8) 0 = nI m) (hm6 : m ≤ 6) {len : Nat} {MN EC : Nat → Nat} (hlen : I (t + 16) 2 = nI len) (hlen6 : len ≤ 600) (hLV : k_LV I t n m MN EC) {k : Nat} (hk : I 41 2 = nI k) (hk6 : k ≤ 6) (l : Int32) (he : ∀ j, j < k → I 55 j = l → vp_in (I 56 j) 6) : AM G pX10_who d [.ref 0, .int l] (sh, I, R, L, g) (fun v w => ∃ b, b < m ∧ l = nI b ∧ v = some (.int (f_wh I t b len (MN b) (EC b) k l n).2) ∧ w = (sh, (f_wh I t b len (MN b) (EC b) k l n).1, R, L, g)) (fun E w => w = (sh, I, R, L, g) ∧ E = "java/util/NoSuchElementException" ∧ ¬ (k_is l m)) := by
  have hG := hK.1
  have ht : k_Town sh R t := by rcases ht3 with rfl | rfl; exact kM_3 hM; exact kM_22 hM
  have o41 := kM_41 hM
  have o42 := kM_42 hM
  have o43 := kM_43 hM
  have o47 := kM_47 hM
  have o60 := kM_60 hM
  have o90 := kM_90 hM
  have o93 := kM_93 hM
  have o97 := kM_97 hM
  have o79 := kM_79 hM
  have o1 := kM_1 hM
  refine AM.of (n := 2) (by decide +kernel) (Nat.le_of_ble_eq_true rfl) ?_
  show AW G pX10_who d (fun v w => ∃ b, b < m ∧ l = nI b ∧ v = some (.int (f_wh I t b len (MN b) (EC b) k l n).2) ∧ w = (sh, (f_wh I t b len (MN b) (EC b) k l n).1, R, L, g)) (fun E w => w = (sh, I, R, L, g) ∧ E = "java/util/NoSuchElementException" ∧ ¬ (k_is l m)) 0 [some (.ref 0), some (.int l), none, none] [] (sh, I, R, L, g) 0 0
  refine AW.aload_n dX10_who_0 rfl ?_
  refine AW.iload_n dX10_who_1 rfl ?_
  refine AW.callV (b := 0) (As := [.int l]) hG.2.2 (vX10_191 hG) (hM.1 0 _ rfl) (k_X10_requireLoaf hK (d := 7) (Nat.le_refl _) hXS hM hRt ht3 hg (by assumption) (by assumption) l) (by omega) dX10_who_2 rfl rfl (Nat.le_of_ble_eq_true rfl) (fun v w9 hq9 h09 => absurd (by obtain ⟨-, e9, -⟩ := hq9; rw [e9] at h09; exact h09) hg) (by decide) (by decide) (fun E w9 h9 => ⟨h9.2.1, h9.1, h9.2.2⟩) (fun v2 w2 hq2 => ?_)
  obtain ⟨rfl, rfl, his2⟩ := hq2
  show AW G pX10_who d (fun v w => ∃ b, b < m ∧ l = nI b ∧ v = some (.int (f_wh I t b len (MN b) (EC b) k l n).2) ∧ w = (sh, (f_wh I t b len (MN b) (EC b) k l n).1, R, L, g)) (fun E w => w = (sh, I, R, L, g) ∧ E = "java/util/NoSuchElementException" ∧ ¬ (k_is l m)) 5 [some (.ref 0), some (.int l), none, none] [] (sh, I, R, L, g) 1 6
  obtain ⟨b, hb, hlb⟩ := id his2
  have hb6 : b < 6 := by omega
  have hbl : vp_in l 6 := k_is_in his2 hm6 (by decide)
  have hcl : l.toNatClampNeg = b := k_lit hlb (by omega)
  refine AW.iconst 0 dX10_who_5 (by decide) ?_
  refine AW.is_n [some (.ref 0), some (.int l), some (.int 0), none] dX10_who_6 (by decide) rfl rfl ?_
  refine AW.iconst 0 dX10_who_7 (by decide) ?_
  refine AW.is_n [some (.ref 0), some (.int l), some (.int 0), some (.int 0)] dX10_who_8 (by decide) rfl rfl ?_
  have L9 : ∀ k9, k9 ≤ n → ∀ (a x : Int32) (J : Nat → Nat → Int32), (x = nI k9 ∧ J = (f_wh I t b len (MN b) (EC b) k l k9).1 ∧ a = (f_wh I t b len (MN b) (EC b) k l k9).2) → AW G pX10_who d (fun v w => ∃ b, b < m ∧ l = nI b ∧ v = some (.int (f_wh I t b len (MN b) (EC b) k l n).2) ∧ w = (sh, (f_wh I t b len (MN b) (EC b) k l n).1, R, L, g)) (fun E w => w = (sh, I, R, L, g) ∧ E = "java/util/NoSuchElementException" ∧ ¬ (k_is l m)) 9 [some (.ref 0), some (.int l), some (.int a), some (.int x)] [] (sh, J, R, L, g) 1 6 := by
    refine am_rec n (fun k9 hk9 ih9 => ?_)
    intro a x J hi9
    obtain ⟨hx, hJ, ha⟩ := hi9
    have hJo : ∀ a, a ≠ t + 18 → (a < 93 ∨ 97 ≤ a) → J a = I a := fun a a1 a2 => by rw [hJ]; exact f_wh_o _ _ _ _ _ _ _ _ _ a1 a2
    have hJn : J t 0 = nI n := by rw [hJo t (by omega) (by omega)]; exact hn
    have hJl : J (t + 16) 2 = nI len := by rw [hJo (t + 16) (by omega) (by omega)]; exact hlen
    obtain ⟨hL1, hL2, hL3, hL4, hL5, hL6⟩ := k_LV_c hLV (J := J) (fun a a1 a2 => hJo a (by omega) (by omega)) b hb
    refine AW.iload_n dX10_who_9 rfl ?_
    refine AW.aload_n dX10_who_10 rfl ?_
    refine AW.getR (fX10_19 hG).r rfl (hM.1 0 _ rfl) hRt dX10_who_11 ?_
    refine AW.getI (fX10_119 hG).r rfl (ht.1 0 _ rfl) dX10_who_14 ?_
    refine AW.icmp_ge 85 dX10_who_17 (by decide) (fun h17 => ?_) (fun h17 => ?_)
    · have hke := k_ge h17 hx hJn hk9 (by omega)
      rw [hke] at hJ ha
      refine AW.iload_n dX10_who_85 rfl ?_
      exact AW.iret dX10_who_86 rfl (by decide) (by decide) (⟨b, hb, hlb, by rw [ha], by rw [hJ]⟩)
    · have hlt := k_lt h17 hx hJn hk9 (by omega)
      have hbx : vp_in x 8 := by rw [hx]; exact vp_in_nI (by omega) (by decide)
      refine AW.aload_n dX10_who_20 rfl ?_
      refine AW.getR (fX10_19 hG).r rfl (hM.1 0 _ rfl) hRt dX10_who_21 ?_
      refine AW.iload_n dX10_who_24 rfl ?_
      refine AW.iload_n dX10_who_25 rfl ?_
      refine AW.callV (b := t) (As := [.int x, .int l]) hG.2.2 (vX10_334 hG) (ht.1 0 _ rfl) (k_X9_eats hK (d := 1) (Nat.le_refl _) ht x l (by first | assumption | exact vp_in_nI (by omega) (by decide)) (by first | assumption | exact vp_in_nI (by omega) (by decide))) (by omega) dX10_who_26 rfl rfl (Nat.le_of_ble_eq_true rfl) (fun v w9 hq9 h09 => by obtain ⟨rfl, rfl⟩ := hq9; exact ⟨h09, rfl⟩) (by decide) (by decide) (fun _ _ hx => absurd hx id) (fun v26 w26 hq26 => ?_)
      obtain ⟨rfl, rfl⟩ := hq26
      refine AW.nam (fun x26 ex26 => ?_)
      refine AW.if_ne 79 dX10_who_29 (by decide) (fun h29 => ?_) (fun h29 => ?_)
      · rw [ex26, hcl, hx] at h29
        have qe := kb_1.mp h29
        refine AW.inc (fun x79 => [some (.ref 0), some (.int l), some (.int a), some (.int x79)]) dX10_who_79 rfl (by decide) rfl (fun _ => rfl) (fun x79 ex79 => ?_)
        refine AW.goto 9 dX10_who_82 (by decide) ?_
        exact ih9 (k9 + 1) (by omega) (by omega) _ _ _ (⟨k_inc (by assumption) hx, (show _ = (f_wh1 t b len (MN b) (EC b) k l k9 (f_wh I t b len (MN b) (EC b) k l k9)).1 by unfold f_wh1; rw [← hJ, if_pos qe]; exact hJ), (show _ = (f_wh1 t b len (MN b) (EC b) k l k9 (f_wh I t b len (MN b) (EC b) k l k9)).2 by unfold f_wh1; rw [← hJ, if_pos qe]; exact ha)⟩)
      · rw [ex26, hcl, hx] at h29
        have qe := kb_0.mp h29
        refine AW.aload_n dX10_who_32 rfl ?_
        refine AW.getR (c' := 93) (fX10_61 hG).r rfl (hM.1 0 _ rfl) (hM.2 (0, 11, 93) (by decide)) dX10_who_33 ?_
        refine AW.aload_n dX10_who_36 rfl ?_
        refine AW.getR (fX10_19 hG).r rfl (hM.1 0 _ rfl) hRt dX10_who_37 ?_
        refine AW.aload_n dX10_who_40 rfl ?_
        refine AW.getR (c' := 41) (fX10_33 hG).r rfl (hM.1 0 _ rfl) (hM.2 (0, 4, 41) (by decide)) dX10_who_41 ?_
        refine AW.getR (c' := 42) (fX10_110 hG) rfl (o41.1 0 _ rfl) (o41.2 (0, 0, 1) (by decide)) dX10_who_44 ?_
        refine AW.getR (c' := 47) (fX10_114 hG) rfl (o42.1 0 _ rfl) (o42.2 (0, 1, 5) (by decide)) dX10_who_47 ?_
        refine AW.iload_n dX10_who_50 rfl ?_
        refine AW.iload_n dX10_who_51 rfl ?_
        refine AW.callV (b := 93) (As := [.ref t, .ref 47, .int x, .int l]) hG.2.2 (vX10_239 hG) (o93.1 0 _ rfl) (k_X5_divide hK (d := 4) (Nat.le_refl _) o93 ht o47 (by omega) (by omega) (by omega) x l (by assumption) (by omega) (by assumption) (by omega) (by assumption) (by assumption) (by assumption) (by assumption) hL1 hL2 hL3 hL4 hL5 hL6) (by omega) dX10_who_52 rfl rfl (Nat.le_of_ble_eq_true rfl) (fun v w9 hq9 h09 => by obtain ⟨rfl, rfl⟩ := hq9; exact ⟨h09, rfl⟩) (by decide) (by decide) (fun _ _ hx => absurd hx id) (fun v52 w52 hq52 => ?_)
        obtain ⟨rfl, rfl⟩ := hq52
        refine AW.namI (fun I52 eI52 => ?_)
        show AW G pX10_who d (fun v w => ∃ b, b < m ∧ l = nI b ∧ v = some (.int (f_wh I t b len (MN b) (EC b) k l n).2) ∧ w = (sh, (f_wh I t b len (MN b) (EC b) k l n).1, R, L, g)) (fun E w => w = (sh, I, R, L, g) ∧ E = "java/util/NoSuchElementException" ∧ ¬ (k_is l m)) 55 [some (.ref 0), some (.int l), some (.int a), some (.int x)] [] (sh, I52, R, L, g) 1 6
        have h52o : ∀ a, a ≠ t + 18 → (a < 93 ∨ 97 ≤ a) → I52 a = I a := fun a a1 a2 => by rw [eI52, f_div_o a1 a2]; exact hJo a a1 a2
        have h52k : I52 41 2 = nI k := by rw [h52o 41 (by omega) (by omega)]; exact hk
        have h52e : ∀ j, j < k → I52 55 j = l → vp_in (I52 56 j) 6 := by rw [h52o 55 (by omega) (by omega), h52o 56 (by omega) (by omega)]; exact he
        refine AW.aload_n dX10_who_55 rfl ?_
        refine AW.getR (c' := 41) (fX10_33 hG).r rfl (hM.1 0 _ rfl) (hM.2 (0, 4, 41) (by decide)) dX10_who_56 ?_
        refine AW.iload_n dX10_who_59 rfl ?_
        refine AW.aload_n dX10_who_60 rfl ?_
        refine AW.getR (c' := 93) (fX10_61 hG).r rfl (hM.1 0 _ rfl) (hM.2 (0, 11, 93) (by decide)) dX10_who_61 ?_
        refine AW.getR (c' := 95) (fX10_246 hG) rfl (o93.1 0 _ rfl) (o93.2 (0, 1, 2) (by decide)) dX10_who_64 ?_
        refine AW.callV (b := 41) (As := [.int l, .ref 95]) hG.2.2 (vX10_337 hG) (o41.1 0 _ rfl) (k_X4_seenFits hK (d := 0) (Nat.le_refl _) o41 (o93.1 2 _ rfl) (by assumption) (by assumption) l (by assumption)) (by omega) dX10_who_67 rfl rfl (Nat.le_of_ble_eq_true rfl) (fun v w9 hq9 h09 => by obtain ⟨rfl, rfl⟩ := hq9; exact ⟨h09, rfl⟩) (by decide) (by decide) (fun _ _ hx => absurd hx id) (fun v67 w67 hq67 => ?_)
        obtain ⟨rfl, rfl⟩ := hq67
        refine AW.nam (fun x67 ex67 => ?_)
        refine AW.if_eq 79 dX10_who_70 (by decide) (fun h70 => ?_) (fun h70 => ?_)
        · rw [ex67, eI52] at h70
          have qs := kb_0.mp h70
          refine AW.inc (fun x79 => [some (.ref 0), some (.int l), some (.int a), some (.int x79)]) dX10_who_79 rfl (by decide) rfl (fun _ => rfl) (fun x79 ex79 => ?_)
          refine AW.goto 9 dX10_who_82 (by decide) ?_
          exact ih9 (k9 + 1) (by omega) (by omega) _ _ _ (⟨k_inc (by assumption) hx, (show _ = (f_wh1 t b len (MN b) (EC b) k l k9 (f_wh I t b len (MN b) (EC b) k l k9)).1 by unfold f_wh1; rw [← hJ, if_neg (by rw [qe]; decide), if_neg (by rw [qs]; decide)]; exact eI52), (show _ = (f_wh1 t b len (MN b) (EC b) k l k9 (f_wh I t b len (MN b) (EC b) k l k9)).2 by unfold f_wh1; rw [← hJ, if_neg (by rw [qe]; decide), if_neg (by rw [qs]; decide)]; exact ha)⟩)
        · rw [ex67, eI52] at h70
          have qs := kb_1.mp h70
          refine AW.iload_n dX10_who_73 rfl ?_
          refine AW.iconst 1 dX10_who_74 (by decide) ?_
          refine AW.iload_n dX10_who_75 rfl ?_
          refine AW.ishl dX10_who_76 ?_
          refine AW.ior dX10_who_77 ?_
          refine AW.nam (fun x78 ex78 => ?_)
          refine AW.is_n [some (.ref 0), some (.int l), some (.int x78), some (.int x)] dX10_who_78 (by decide) rfl rfl ?_
          refine AW.inc (fun x79 => [some (.ref 0), some (.int l), some (.int x78), some (.int x79)]) dX10_who_79 rfl (by decide) rfl (fun _ => rfl) (fun x79 ex79 => ?_)
          refine AW.goto 9 dX10_who_82 (by decide) ?_
          exact ih9 (k9 + 1) (by omega) (by omega) _ _ _ (⟨k_inc (by assumption) hx, (show _ = (f_wh1 t b len (MN b) (EC b) k l k9 (f_wh I t b len (MN b) (EC b) k l k9)).1 by unfold f_wh1; rw [← hJ, if_neg (by rw [qe]; decide), if_pos qs]; exact eI52), (show _ = (f_wh1 t b len (MN b) (EC b) k l k9 (f_wh I t b len (MN b) (EC b) k l k9)).2 by unfold f_wh1; rw [← hJ, if_neg (by rw [qe]; decide), if_pos qs, ex78, ha, hx])⟩)
  exact L9 0 (by omega) _ _ _ (⟨nI_0.symm, rfl, rfl⟩)
abbrev pX10_fairest : am_M := (yX10_fairest, cX10_fairest, 8, (some .int), 2, 12)
theorem dX10_fairest_0 : decode cX10_fairest 0 = .ok (.aload_n 0, 1) := by decide +kernel
theorem dX10_fairest_1 : decode cX10_fairest 1 = .ok (.iload_n 1, 1) := by decide +kernel
theorem dX10_fairest_2 : decode cX10_fairest 2 = .ok (.invokevirtual 191, 3) := by decide +kernel
theorem dX10_fairest_5 : decode cX10_fairest 5 = .ok (.aload_n 0, 1) := by decide +kernel
theorem dX10_fairest_6 : decode cX10_fairest 6 = .ok (.iload_n 1, 1) := by decide +kernel
theorem dX10_fairest_7 : decode cX10_fairest 7 = .ok (.iload_n 2, 1) := by decide +kernel
theorem dX10_fairest_8 : decode cX10_fairest 8 = .ok (.invokevirtual 235, 3) := by decide +kernel
theorem dX10_fairest_11 : decode cX10_fairest 11 = .ok (.aload_n 0, 1) := by decide +kernel
theorem dX10_fairest_12 : decode cX10_fairest 12 = .ok (.invokevirtual 147, 3) := by decide +kernel
theorem dX10_fairest_15 : decode cX10_fairest 15 = .ok (.aload_n 0, 1) := by decide +kernel
theorem dX10_fairest_16 : decode cX10_fairest 16 = .ok (.getfield 54, 3) := by decide +kernel
theorem dX10_fairest_19 : decode cX10_fairest 19 = .ok (.getfield 307, 3) := by decide +kernel
theorem dX10_fairest_22 : decode cX10_fairest 22 = .ok (.iload_n 1, 1) := by decide +kernel
theorem dX10_fairest_23 : decode cX10_fairest 23 = .ok (.iaload, 1) := by decide +kernel
theorem dX10_fairest_24 : decode cX10_fairest 24 = .ok (.istore_n 3, 1) := by decide +kernel
theorem dX10_fairest_25 : decode cX10_fairest 25 = .ok (.iconst (-1), 1) := by decide +kernel
theorem dX10_fairest_26 : decode cX10_fairest 26 = .ok (.istore 4, 2) := by decide +kernel
theorem dX10_fairest_28 : decode cX10_fairest 28 = .ok (.iconst 0, 1) := by decide +kernel
theorem dX10_fairest_29 : decode cX10_fairest 29 = .ok (.istore 5, 2) := by decide +kernel
theorem dX10_fairest_31 : decode cX10_fairest 31 = .ok (.iconst 0, 1) := by decide +kernel
theorem dX10_fairest_32 : decode cX10_fairest 32 = .ok (.istore 6, 2) := by decide +kernel
theorem dX10_fairest_34 : decode cX10_fairest 34 = .ok (.iload 6, 2) := by decide +kernel
theorem dX10_fairest_36 : decode cX10_fairest 36 = .ok (.aload_n 0, 1) := by decide +kernel
theorem dX10_fairest_37 : decode cX10_fairest 37 = .ok (.getfield 19, 3) := by decide +kernel
theorem dX10_fairest_40 : decode cX10_fairest 40 = .ok (.getfield 119, 3) := by decide +kernel
theorem dX10_fairest_43 : decode cX10_fairest 43 = .ok (.if_icmp .ge 90, 3) := by decide +kernel
theorem dX10_fairest_46 : decode cX10_fairest 46 = .ok (.iload_n 3, 1) := by decide +kernel
theorem dX10_fairest_47 : decode cX10_fairest 47 = .ok (.iload 6, 2) := by decide +kernel
theorem dX10_fairest_49 : decode cX10_fairest 49 = .ok (.invokestatic 226, 3) := by decide +kernel
theorem dX10_fairest_52 : decode cX10_fairest 52 = .ok (.ifCond .eq 75, 3) := by decide +kernel
theorem dX10_fairest_55 : decode cX10_fairest 55 = .ok (.aload_n 0, 1) := by decide +kernel
theorem dX10_fairest_56 : decode cX10_fairest 56 = .ok (.getfield 61, 3) := by decide +kernel
theorem dX10_fairest_59 : decode cX10_fairest 59 = .ok (.aload_n 0, 1) := by decide +kernel
theorem dX10_fairest_60 : decode cX10_fairest 60 = .ok (.getfield 19, 3) := by decide +kernel
theorem dX10_fairest_63 : decode cX10_fairest 63 = .ok (.aload_n 0, 1) := by decide +kernel
theorem dX10_fairest_64 : decode cX10_fairest 64 = .ok (.getfield 33, 3) := by decide +kernel
theorem dX10_fairest_67 : decode cX10_fairest 67 = .ok (.getfield 110, 3) := by decide +kernel
theorem dX10_fairest_70 : decode cX10_fairest 70 = .ok (.getfield 114, 3) := by decide +kernel
theorem dX10_fairest_73 : decode cX10_fairest 73 = .ok (.iload 6, 2) := by decide +kernel
theorem dX10_fairest_75 : decode cX10_fairest 75 = .ok (.iload_n 1, 1) := by decide +kernel
theorem dX10_fairest_76 : decode cX10_fairest 76 = .ok (.invokevirtual 239, 3) := by decide +kernel
theorem dX10_fairest_79 : decode cX10_fairest 79 = .ok (.iload_n 2, 1) := by decide +kernel
theorem dX10_fairest_80 : decode cX10_fairest 80 = .ok (.iconst (-1), 1) := by decide +kernel
theorem dX10_fairest_81 : decode cX10_fairest 81 = .ok (.if_icmp .ne 14, 3) := by decide +kernel
theorem dX10_fairest_84 : decode cX10_fairest 84 = .ok (.aload_n 0, 1) := by decide +kernel
theorem dX10_fairest_85 : decode cX10_fairest 85 = .ok (.getfield 61, 3) := by decide +kernel
theorem dX10_fairest_88 : decode cX10_fairest 88 = .ok (.invokevirtual 365, 3) := by decide +kernel
theorem dX10_fairest_91 : decode cX10_fairest 91 = .ok (.ineg, 1) := by decide +kernel
theorem dX10_fairest_92 : decode cX10_fairest 92 = .ok (.goto 12, 3) := by decide +kernel
theorem dX10_fairest_95 : decode cX10_fairest 95 = .ok (.aload_n 0, 1) := by decide +kernel
theorem dX10_fairest_96 : decode cX10_fairest 96 = .ok (.getfield 61, 3) := by decide +kernel
theorem dX10_fairest_99 : decode cX10_fairest 99 = .ok (.getfield 246, 3) := by decide +kernel
theorem dX10_fairest_102 : decode cX10_fairest 102 = .ok (.iload_n 2, 1) := by decide +kernel
theorem dX10_fairest_103 : decode cX10_fairest 103 = .ok (.iaload, 1) := by decide +kernel
theorem dX10_fairest_104 : decode cX10_fairest 104 = .ok (.istore 7, 2) := by decide +kernel
theorem dX10_fairest_106 : decode cX10_fairest 106 = .ok (.iload 4, 2) := by decide +kernel
theorem dX10_fairest_108 : decode cX10_fairest 108 = .ok (.iconst (-1), 1) := by decide +kernel
theorem dX10_fairest_109 : decode cX10_fairest 109 = .ok (.if_icmp .eq 10, 3) := by decide +kernel
theorem dX10_fairest_112 : decode cX10_fairest 112 = .ok (.iload 7, 2) := by decide +kernel
theorem dX10_fairest_114 : decode cX10_fairest 114 = .ok (.iload 5, 2) := by decide +kernel
theorem dX10_fairest_116 : decode cX10_fairest 116 = .ok (.if_icmp .le 11, 3) := by decide +kernel
theorem dX10_fairest_119 : decode cX10_fairest 119 = .ok (.iload 6, 2) := by decide +kernel
theorem dX10_fairest_121 : decode cX10_fairest 121 = .ok (.istore 4, 2) := by decide +kernel
theorem dX10_fairest_123 : decode cX10_fairest 123 = .ok (.iload 7, 2) := by decide +kernel
theorem dX10_fairest_125 : decode cX10_fairest 125 = .ok (.istore 5, 2) := by decide +kernel
theorem dX10_fairest_127 : decode cX10_fairest 127 = .ok (.iinc 6 1, 3) := by decide +kernel
theorem dX10_fairest_130 : decode cX10_fairest 130 = .ok (.goto (-96), 3) := by decide +kernel
theorem dX10_fairest_133 : decode cX10_fairest 133 = .ok (.iload 4, 2) := by decide +kernel
theorem dX10_fairest_135 : decode cX10_fairest 135 = .ok (.ireturn, 1) := by decide +kernel
set_option maxRecDepth 100000 in
set_option maxHeartbeats 4000000 in
theorem k_X10_fairest {G : am_G} (hK : k_OK G) {d : Nat} (hd : 8 ≤ d) {sh : List (Nat ⊕ (Nat × Nat))} {I : Nat → Nat → Int32} {R : Nat → Nat → Option Nat} {L : Nat → Nat → Int64} {g : Nat} (hXS : k_XS G) {t : Nat} (hM : k_Main sh R) (hRt : R 0 1 = some t) (ht3 : t = 3 ∨ t = 22) (hg : g ≠ 0) {n m : Nat} (hn : I t 0 = nI n) (hn8 : n ≤ 8) (hm : I (t + 8) 0 = nI m) (hm6 : m ≤ 6) {len : Nat} {MN EC : Nat → Nat} (hlen : I (t + 16) 2 = nI len) (hlen6 : len ≤ 600) (hLV : k_LV I t n m MN EC) (l x : Int32) : AM G pX10_fairest d [.ref 0, .int l, .int x] (sh, I, R, L, g) (fun v w => ∃ b, b < m ∧ l = nI b ∧ ¬ x < -1 ∧ x < nI (EC b) ∧ v = some (.int (f_fa (f_look I 90 t 47 n m) t b len (MN b) (EC b) ((f_look I 90 t 47 n m) 92 b) x n).2.1) ∧ w = (sh, (f_fa (f_look I 90 t 47 n m) t b len (MN b) (EC b) ((f_look I 90 t 47 n m) 92 b) x n).1, R, L, g)) (fun E w => w = (sh, I, R, L, g) ∧ E = "java/util/NoSuchElementException" ∧ ¬ (∃ b, b < m ∧ l = nI b ∧ ¬ x < -1 ∧ x < nI (EC b))) := by
  have hG := hK.1
  have ht : k_Town sh R t := by rcases ht3 with rfl | rfl; exact kM_3 hM; exact kM_22 hM
  have o41 := kM_41 hM
  have o42 := kM_42 hM
  have o43 := kM_43 hM
  have o47 := kM_47 hM
  have o60 := kM_60 hM
  have o90 := kM_90 hM
  have o93 := kM_93 hM
  have o97 := kM_97 hM
  have o79 := kM_79 hM
  have o1 := kM_1 hM
  refine AM.of (n := 5) (by decide +kernel) (Nat.le_of_ble_eq_true rfl) ?_
  show AW G pX10_fairest d (fun v w => ∃ b, b < m ∧ l = nI b ∧ ¬ x < -1 ∧ x < nI (EC b) ∧ v = some (.int (f_fa (f_look I 90 t 47 n m) t b len (MN b) (EC b) ((f_look I 90 t 47 n m) 92 b) x n).2.1) ∧ w = (sh, (f_fa (f_look I 90 t 47 n m) t b len (MN b) (EC b) ((f_look I 90 t 47 n m) 92 b) x n).1, R, L, g)) (fun E w => w = (sh, I, R, L, g) ∧ E = "java/util/NoSuchElementException" ∧ ¬ (∃ b, b < m ∧ l = nI b ∧ ¬ x < -1 ∧ x < nI (EC b))) 0 [some (.ref 0), some (.int l), some (.int x), none, none, none, none, none] [] (sh, I, R, L, g) 0 0
  refine AW.aload_n dX10_fairest_0 rfl ?_
  refine AW.iload_n dX10_fairest_1 rfl ?_
  refine AW.callV (b := 0) (As := [.int l]) hG.2.2 (vX10_191 hG) (hM.1 0 _ rfl) (k_X10_requireLoaf hK (d := 7) (Nat.le_refl _) hXS hM hRt ht3 hg (by assumption) (by assumption) l) (by omega) dX10_fairest_2 rfl rfl (Nat.le_of_ble_eq_true rfl) (fun v w9 hq9 h09 => absurd (by obtain ⟨-, e9, -⟩ := hq9; rw [e9] at h09; exact h09) hg) (by decide) (by decide) (fun E w9 h9 => ⟨h9.2.1, h9.1, fun h => h9.2.2 (by obtain ⟨b, h1, h2, -⟩ := h; exact ⟨b, h1, h2⟩)⟩) (fun v2 w2 hq2 => ?_)
  obtain ⟨rfl, rfl, his2⟩ := hq2
  show AW G pX10_fairest d (fun v w => ∃ b, b < m ∧ l = nI b ∧ ¬ x < -1 ∧ x < nI (EC b) ∧ v = some (.int (f_fa (f_look I 90 t 47 n m) t b len (MN b) (EC b) ((f_look I 90 t 47 n m) 92 b) x n).2.1) ∧ w = (sh, (f_fa (f_look I 90 t 47 n m) t b len (MN b) (EC b) ((f_look I 90 t 47 n m) 92 b) x n).1, R, L, g)) (fun E w => w = (sh, I, R, L, g) ∧ E = "java/util/NoSuchElementException" ∧ ¬ (∃ b, b < m ∧ l = nI b ∧ ¬ x < -1 ∧ x < nI (EC b))) 5 [some (.ref 0), some (.int l), some (.int x), none, none, none, none, none] [] (sh, I, R, L, g) 1 6
  obtain ⟨b, hb, hlb⟩ := id his2
  have hb6 : b < 6 := by omega
  have hbl : vp_in l 6 := k_is_in his2 hm6 (by decide)
  have hcl : l.toNatClampNeg = b := k_lit hlb (by omega)
  refine AW.aload_n dX10_fairest_5 rfl ?_
  refine AW.iload_n dX10_fairest_6 rfl ?_
  refine AW.iload_n dX10_fairest_7 rfl ?_
  refine AW.callV (b := 0) (As := [.int l, .int x]) hG.2.2 (vX10_235 hG) (hM.1 0 _ rfl) (k_X10_requireEaterOrNone hK (d := 7) (Nat.le_refl _) hXS hM hRt ht3 hg l x (by assumption) (by omega)) (by omega) dX10_fairest_8 rfl rfl (Nat.le_of_ble_eq_true rfl) (fun v w9 hq9 h09 => absurd (by obtain ⟨-, e9, -⟩ := hq9; rw [e9] at h09; exact h09) hg) (by decide) (by decide) (fun E w9 h9 => ⟨h9.2.1, h9.1, fun h => h9.2.2 (by obtain ⟨b9, k1, k2, k3, k4⟩ := h; have hbb : b9 = b := (nI_eq (by omega) (by omega)).mp (k2.symm.trans hlb); subst hbb; exact ⟨k3, by rw [(hLV b9 k1).2.2.2.1]; exact k4⟩)⟩) (fun v8 w8 hq8 => ?_)
  obtain ⟨rfl, rfl, hie8⟩ := hq8
  show AW G pX10_fairest d (fun v w => ∃ b, b < m ∧ l = nI b ∧ ¬ x < -1 ∧ x < nI (EC b) ∧ v = some (.int (f_fa (f_look I 90 t 47 n m) t b len (MN b) (EC b) ((f_look I 90 t 47 n m) 92 b) x n).2.1) ∧ w = (sh, (f_fa (f_look I 90 t 47 n m) t b len (MN b) (EC b) ((f_look I 90 t 47 n m) 92 b) x n).1, R, L, g)) (fun E w => w = (sh, I, R, L, g) ∧ E = "java/util/NoSuchElementException" ∧ ¬ (∃ b, b < m ∧ l = nI b ∧ ¬ x < -1 ∧ x < nI (EC b))) 11 [some (.ref 0), some (.int l), some (.int x), none, none, none, none, none] [] (sh, I, R, L, g) 2 12
  rw [(hLV b hb).2.2.2.1] at hie8
  refine AW.aload_n dX10_fairest_11 rfl ?_
  refine AW.callV (b := 0) (As := []) hG.2.2 (vX10_147 hG) (hM.1 0 _ rfl) (k_X10_lookAround hK (d := 3) (Nat.le_refl _) hXS hM hRt ht3 (by assumption) (by assumption) (by assumption) (by assumption)) (by omega) dX10_fairest_12 rfl rfl (Nat.le_of_ble_eq_true rfl) (fun v w9 hq9 h09 => by obtain ⟨rfl, rfl⟩ := hq9; exact ⟨h09, rfl⟩) (by decide) (by decide) (fun _ _ hx => absurd hx id) (fun v12 w12 hq12 => ?_)
  obtain ⟨rfl, rfl⟩ := hq12
  refine AW.namI (fun I12 eI12 => ?_)
  show AW G pX10_fairest d (fun v w => ∃ b, b < m ∧ l = nI b ∧ ¬ x < -1 ∧ x < nI (EC b) ∧ v = some (.int (f_fa (f_look I 90 t 47 n m) t b len (MN b) (EC b) ((f_look I 90 t 47 n m) 92 b) x n).2.1) ∧ w = (sh, (f_fa (f_look I 90 t 47 n m) t b len (MN b) (EC b) ((f_look I 90 t 47 n m) 92 b) x n).1, R, L, g)) (fun E w => w = (sh, I, R, L, g) ∧ E = "java/util/NoSuchElementException" ∧ ¬ (∃ b, b < m ∧ l = nI b ∧ ¬ x < -1 ∧ x < nI (EC b))) 15 [some (.ref 0), some (.int l), some (.int x), none, none, none, none, none] [] (sh, I12, R, L, g) 2 12
  have h12o : ∀ a, a ≠ 91 → a ≠ 92 → I12 a = I a := fun a a1 a2 => by rw [eI12, f_look_K _ _ _ _ a1 a2]
  have h12n : I12 t 0 = nI n := by rw [h12o t (by omega) (by omega)]; exact hn
  have h12l : I12 (t + 16) 2 = nI len := by rw [h12o (t + 16) (by omega) (by omega)]; exact hlen
  have h12v : k_LV I12 t n m MN EC := k_LV_c hLV (fun a a1 a2 => h12o a (by omega) (by omega))
  refine AW.aload_n dX10_fairest_15 rfl ?_
  refine AW.getR (c' := 90) (fX10_54 hG).r rfl (hM.1 0 _ rfl) (hM.2 (0, 10, 90) (by decide)) dX10_fairest_16 ?_
  refine AW.getR (c' := 92) (fX10_307 hG) rfl (o90.1 0 _ rfl) (o90.2 (0, 1, 2) (by decide)) dX10_fairest_19 ?_
  refine AW.iload_n dX10_fairest_22 rfl ?_
  refine AW.iald (o90.1 2 _ rfl) (by first | assumption | (unfold vp_in; decide) | exact vp_in_nI (by omega) (by decide)) dX10_fairest_23 ?_
  refine AW.nam (fun x24 ex24 => ?_)
  refine AW.is_n [some (.ref 0), some (.int l), some (.int x), some (.int x24), none, none, none, none] dX10_fairest_24 (by decide) rfl rfl ?_
  refine AW.iconst (-1) dX10_fairest_25 (by decide) ?_
  refine AW.is [some (.ref 0), some (.int l), some (.int x), some (.int x24), some (.int (-1)), none, none, none] dX10_fairest_26 (by decide) rfl rfl ?_
  refine AW.iconst 0 dX10_fairest_28 (by decide) ?_
  refine AW.is [some (.ref 0), some (.int l), some (.int x), some (.int x24), some (.int (-1)), some (.int 0), none, none] dX10_fairest_29 (by decide) rfl rfl ?_
  rw [hcl] at ex24
  refine AW.iconst 0 dX10_fairest_31 (by decide) ?_
  refine AW.is [some (.ref 0), some (.int l), some (.int x), some (.int x24), some (.int (-1)), some (.int 0), some (.int 0), none] dX10_fairest_32 (by decide) rfl rfl ?_
  have L34 : ∀ k34, k34 ≤ n → ∀ (be wo y : Int32) (J : Nat → Nat → Int32), (y = nI k34 ∧ J = (f_fa I12 t b len (MN b) (EC b) x24 x k34).1 ∧ be = (f_fa I12 t b len (MN b) (EC b) x24 x k34).2.1 ∧ wo = (f_fa I12 t b len (MN b) (EC b) x24 x k34).2.2) → AW G pX10_fairest d (fun v w => ∃ b, b < m ∧ l = nI b ∧ ¬ x < -1 ∧ x < nI (EC b) ∧ v = some (.int (f_fa (f_look I 90 t 47 n m) t b len (MN b) (EC b) ((f_look I 90 t 47 n m) 92 b) x n).2.1) ∧ w = (sh, (f_fa (f_look I 90 t 47 n m) t b len (MN b) (EC b) ((f_look I 90 t 47 n m) 92 b) x n).1, R, L, g)) (fun E w => w = (sh, I, R, L, g) ∧ E = "java/util/NoSuchElementException" ∧ ¬ (∃ b, b < m ∧ l = nI b ∧ ¬ x < -1 ∧ x < nI (EC b))) 34 [some (.ref 0), some (.int l), some (.int x), some (.int x24), some (.int be), some (.int wo), some (.int y), none] [] (sh, J, R, L, g) 2 12 := by
    refine am_rec n (fun k34 hk34 ih34 => ?_)
    intro be wo y J hi34
    obtain ⟨hy, hJ, hB, hW⟩ := hi34
    have hJo : ∀ a, a ≠ t + 18 → (a < 93 ∨ 97 ≤ a) → J a = I12 a := fun a a1 a2 => by rw [hJ]; exact f_fa_o _ _ _ _ _ _ _ _ _ a1 a2
    have hJn : J t 0 = nI n := by rw [hJo t (by omega) (by omega)]; exact h12n
    have hJl : J (t + 16) 2 = nI len := by rw [hJo (t + 16) (by omega) (by omega)]; exact h12l
    obtain ⟨hL1, hL2, hL3, hL4, hL5, hL6⟩ := k_LV_c h12v (J := J) (fun a a1 a2 => hJo a (by omega) (by omega)) b hb
    refine AW.iload dX10_fairest_34 rfl ?_
    refine AW.aload_n dX10_fairest_36 rfl ?_
    refine AW.getR (fX10_19 hG).r rfl (hM.1 0 _ rfl) hRt dX10_fairest_37 ?_
    refine AW.getI (fX10_119 hG).r rfl (ht.1 0 _ rfl) dX10_fairest_40 ?_
    refine AW.icmp_ge 133 dX10_fairest_43 (by decide) (fun h43 => ?_) (fun h43 => ?_)
    · have hke := k_ge h43 hy hJn hk34 (by omega)
      rw [hke] at hJ hB hW
      refine AW.iload dX10_fairest_133 rfl ?_
      exact AW.iret dX10_fairest_135 rfl (by decide) (by decide) (⟨b, hb, hlb, hie8.1, hie8.2, by rw [hB, ex24, eI12], by rw [hJ, ex24, eI12]⟩)
    · have hlt := k_lt h43 hy hJn hk34 (by omega)
      refine AW.iload_n dX10_fairest_46 rfl ?_
      refine AW.iload dX10_fairest_47 rfl ?_
      refine AW.callS (As := [.int x24, .int y]) hG.2.2 (vX10_226 hG) (k_X10_has hK (d := 0) (Nat.le_refl _) x24 y) (by omega) dX10_fairest_49 rfl rfl (Nat.le_of_ble_eq_true rfl) (fun v w9 hq9 h09 => by obtain ⟨rfl, rfl⟩ := hq9; exact ⟨h09, rfl⟩) (by decide) (by decide) (fun _ _ hx => absurd hx id) (fun v49 w49 hq49 => ?_)
      obtain ⟨rfl, rfl⟩ := hq49
      refine AW.nam (fun x49 ex49 => ?_)
      refine AW.if_eq 127 dX10_fairest_52 (by decide) (fun h52 => ?_) (fun h52 => ?_)
      · rw [ex49, hy] at h52
        have qh := kb_0.mp h52
        refine AW.inc (fun x127 => [some (.ref 0), some (.int l), some (.int x), some (.int x24), some (.int be), some (.int wo), some (.int x127), none]) dX10_fairest_127 rfl (by decide) rfl (fun _ => rfl) (fun x127 ex127 => ?_)
        refine AW.goto 34 dX10_fairest_130 (by decide) ?_
        refine AW.mask [7] [some (.ref 0), some (.int l), some (.int x), some (.int x24), some (.int be), some (.int wo), some (.int x127), none] rfl ?_
        exact ih34 (k34 + 1) (by omega) (by omega) _ _ _ _ (⟨k_inc (by assumption) hy, (show _ = (f_fa1 t b len (MN b) (EC b) x24 x k34 (f_fa I12 t b len (MN b) (EC b) x24 x k34)).1 by unfold f_fa1; rw [← hJ, ← hB, ← hW, if_neg (by rw [qh]; decide)]; exact hJ), (show _ = (f_fa1 t b len (MN b) (EC b) x24 x k34 (f_fa I12 t b len (MN b) (EC b) x24 x k34)).2.1 by unfold f_fa1; rw [← hJ, ← hB, ← hW, if_neg (by rw [qh]; decide)]; exact hB), (show _ = (f_fa1 t b len (MN b) (EC b) x24 x k34 (f_fa I12 t b len (MN b) (EC b) x24 x k34)).2.2 by unfold f_fa1; rw [← hJ, ← hB, ← hW, if_neg (by rw [qh]; decide)]; exact hW)⟩)
      · rw [ex49, hy] at h52
        have qh := kb_1.mp h52
        refine AW.aload_n dX10_fairest_55 rfl ?_
        refine AW.getR (c' := 93) (fX10_61 hG).r rfl (hM.1 0 _ rfl) (hM.2 (0, 11, 93) (by decide)) dX10_fairest_56 ?_
        refine AW.aload_n dX10_fairest_59 rfl ?_
        refine AW.getR (fX10_19 hG).r rfl (hM.1 0 _ rfl) hRt dX10_fairest_60 ?_
        refine AW.aload_n dX10_fairest_63 rfl ?_
        refine AW.getR (c' := 41) (fX10_33 hG).r rfl (hM.1 0 _ rfl) (hM.2 (0, 4, 41) (by decide)) dX10_fairest_64 ?_
        refine AW.getR (c' := 42) (fX10_110 hG) rfl (o41.1 0 _ rfl) (o41.2 (0, 0, 1) (by decide)) dX10_fairest_67 ?_
        refine AW.getR (c' := 47) (fX10_114 hG) rfl (o42.1 0 _ rfl) (o42.2 (0, 1, 5) (by decide)) dX10_fairest_70 ?_
        refine AW.iload dX10_fairest_73 rfl ?_
        refine AW.iload_n dX10_fairest_75 rfl ?_
        refine AW.callV (b := 93) (As := [.ref t, .ref 47, .int y, .int l]) hG.2.2 (vX10_239 hG) (o93.1 0 _ rfl) (k_X5_divide hK (d := 4) (Nat.le_refl _) o93 ht o47 (by omega) (by omega) (by omega) y l (by assumption) (by omega) (by assumption) (by omega) (by assumption) (by assumption) (by assumption) (by assumption) hL1 hL2 hL3 hL4 hL5 hL6) (by omega) dX10_fairest_76 rfl rfl (Nat.le_of_ble_eq_true rfl) (fun v w9 hq9 h09 => by obtain ⟨rfl, rfl⟩ := hq9; exact ⟨h09, rfl⟩) (by decide) (by decide) (fun _ _ hx => absurd hx id) (fun v76 w76 hq76 => ?_)
        obtain ⟨rfl, rfl⟩ := hq76
        refine AW.namI (fun I76 eI76 => ?_)
        show AW G pX10_fairest d (fun v w => ∃ b, b < m ∧ l = nI b ∧ ¬ x < -1 ∧ x < nI (EC b) ∧ v = some (.int (f_fa (f_look I 90 t 47 n m) t b len (MN b) (EC b) ((f_look I 90 t 47 n m) 92 b) x n).2.1) ∧ w = (sh, (f_fa (f_look I 90 t 47 n m) t b len (MN b) (EC b) ((f_look I 90 t 47 n m) 92 b) x n).1, R, L, g)) (fun E w => w = (sh, I, R, L, g) ∧ E = "java/util/NoSuchElementException" ∧ ¬ (∃ b, b < m ∧ l = nI b ∧ ¬ x < -1 ∧ x < nI (EC b))) 79 [some (.ref 0), some (.int l), some (.int x), some (.int x24), some (.int be), some (.int wo), some (.int y), none] [] (sh, I76, R, L, g) 2 12
        have h76m : I76 93 3 = nI (MN b) := by rw [eI76]; unfold f_div; rw [f_w5_E]; rfl
        refine AW.iload_n dX10_fairest_79 rfl ?_
        refine AW.iconst (-1) dX10_fairest_80 (by decide) ?_
        refine AW.icmp_ne 95 dX10_fairest_81 (by decide) (fun h81 => ?_) (fun h81 => ?_)
        · obtain ⟨jx, hjx, hxj⟩ := k_ix hie8.1 hie8.2 h81 hL5
          have hbx9 : vp_in x 6 := by rw [hxj]; exact vp_in_nI (by omega) (by decide)
          refine AW.aload_n dX10_fairest_95 rfl ?_
          refine AW.getR (c' := 93) (fX10_61 hG).r rfl (hM.1 0 _ rfl) (hM.2 (0, 11, 93) (by decide)) dX10_fairest_96 ?_
          refine AW.getR (c' := 95) (fX10_246 hG) rfl (o93.1 0 _ rfl) (o93.2 (0, 1, 2) (by decide)) dX10_fairest_99 ?_
          refine AW.iload_n dX10_fairest_102 rfl ?_
          refine AW.iald (o93.1 2 _ rfl) (by first | assumption | (unfold vp_in; decide) | exact vp_in_nI (by omega) (by decide)) dX10_fairest_103 ?_
          refine AW.nam (fun x104 ex104 => ?_)
          refine AW.is [some (.ref 0), some (.int l), some (.int x), some (.int x24), some (.int be), some (.int wo), some (.int y), some (.int x104)] dX10_fairest_104 (by decide) rfl rfl ?_
          have hv : x104 = (if x = -1 then -(I76 94 0 - I76 94 (MN b - 1)) else I76 95 x.toNatClampNeg) := by rw [if_neg h81, ex104]
          refine AW.iload dX10_fairest_106 rfl ?_
          refine AW.iconst (-1) dX10_fairest_108 (by decide) ?_
          refine AW.icmp_eq 119 dX10_fairest_109 (by decide) (fun h109 => ?_) (fun h109 => ?_)
          · refine AW.iload dX10_fairest_119 rfl ?_
            refine AW.is [some (.ref 0), some (.int l), some (.int x), some (.int x24), some (.int y), some (.int wo), some (.int y), some (.int x104)] dX10_fairest_121 (by decide) rfl rfl ?_
            refine AW.iload dX10_fairest_123 rfl ?_
            refine AW.is [some (.ref 0), some (.int l), some (.int x), some (.int x24), some (.int y), some (.int x104), some (.int y), some (.int x104)] dX10_fairest_125 (by decide) rfl rfl ?_
            refine AW.inc (fun x127 => [some (.ref 0), some (.int l), some (.int x), some (.int x24), some (.int y), some (.int x104), some (.int x127), some (.int x104)]) dX10_fairest_127 rfl (by decide) rfl (fun _ => rfl) (fun x127 ex127 => ?_)
            refine AW.goto 34 dX10_fairest_130 (by decide) ?_
            refine AW.mask [7] [some (.ref 0), some (.int l), some (.int x), some (.int x24), some (.int y), some (.int x104), some (.int x127), none] rfl ?_
            exact ih34 (k34 + 1) (by omega) (by omega) _ _ _ _ (⟨k_inc (by assumption) hy, (show _ = (f_fa1 t b len (MN b) (EC b) x24 x k34 (f_fa I12 t b len (MN b) (EC b) x24 x k34)).1 by unfold f_fa1; rw [← hJ, ← hB, ← hW, if_pos qh, ← eI76, ← hv, if_pos (Or.inl h109)]), (show _ = (f_fa1 t b len (MN b) (EC b) x24 x k34 (f_fa I12 t b len (MN b) (EC b) x24 x k34)).2.1 by unfold f_fa1; rw [← hJ, ← hB, ← hW, if_pos qh, ← eI76, ← hv, if_pos (Or.inl h109)]; exact hy), (show _ = (f_fa1 t b len (MN b) (EC b) x24 x k34 (f_fa I12 t b len (MN b) (EC b) x24 x k34)).2.2 by unfold f_fa1; rw [← hJ, ← hB, ← hW, if_pos qh, ← eI76, ← hv, if_pos (Or.inl h109)])⟩)
          · refine AW.iload dX10_fairest_112 rfl ?_
            refine AW.iload dX10_fairest_114 rfl ?_
            refine AW.icmp_le 127 dX10_fairest_116 (by decide) (fun h116 => ?_) (fun h116 => ?_)
            · refine AW.inc (fun x127 => [some (.ref 0), some (.int l), some (.int x), some (.int x24), some (.int be), some (.int wo), some (.int x127), some (.int x104)]) dX10_fairest_127 rfl (by decide) rfl (fun _ => rfl) (fun x127 ex127 => ?_)
              refine AW.goto 34 dX10_fairest_130 (by decide) ?_
              refine AW.mask [7] [some (.ref 0), some (.int l), some (.int x), some (.int x24), some (.int be), some (.int wo), some (.int x127), none] rfl ?_
              exact ih34 (k34 + 1) (by omega) (by omega) _ _ _ _ (⟨k_inc (by assumption) hy, (show _ = (f_fa1 t b len (MN b) (EC b) x24 x k34 (f_fa I12 t b len (MN b) (EC b) x24 x k34)).1 by unfold f_fa1; rw [← hJ, ← hB, ← hW, if_pos qh, ← eI76, ← hv, if_neg (by rintro (h | h); exact h109 h; exact absurd h (Int32.not_lt.mpr h116))]), (show _ = (f_fa1 t b len (MN b) (EC b) x24 x k34 (f_fa I12 t b len (MN b) (EC b) x24 x k34)).2.1 by unfold f_fa1; rw [← hJ, ← hB, ← hW, if_pos qh, ← eI76, ← hv, if_neg (by rintro (h | h); exact h109 h; exact absurd h (Int32.not_lt.mpr h116))]; exact hB), (show _ = (f_fa1 t b len (MN b) (EC b) x24 x k34 (f_fa I12 t b len (MN b) (EC b) x24 x k34)).2.2 by unfold f_fa1; rw [← hJ, ← hB, ← hW, if_pos qh, ← eI76, ← hv, if_neg (by rintro (h | h); exact h109 h; exact absurd h (Int32.not_lt.mpr h116))]; exact hW)⟩)
            · refine AW.iload dX10_fairest_119 rfl ?_
              refine AW.is [some (.ref 0), some (.int l), some (.int x), some (.int x24), some (.int y), some (.int wo), some (.int y), some (.int x104)] dX10_fairest_121 (by decide) rfl rfl ?_
              refine AW.iload dX10_fairest_123 rfl ?_
              refine AW.is [some (.ref 0), some (.int l), some (.int x), some (.int x24), some (.int y), some (.int x104), some (.int y), some (.int x104)] dX10_fairest_125 (by decide) rfl rfl ?_
              refine AW.inc (fun x127 => [some (.ref 0), some (.int l), some (.int x), some (.int x24), some (.int y), some (.int x104), some (.int x127), some (.int x104)]) dX10_fairest_127 rfl (by decide) rfl (fun _ => rfl) (fun x127 ex127 => ?_)
              refine AW.goto 34 dX10_fairest_130 (by decide) ?_
              refine AW.mask [7] [some (.ref 0), some (.int l), some (.int x), some (.int x24), some (.int y), some (.int x104), some (.int x127), none] rfl ?_
              exact ih34 (k34 + 1) (by omega) (by omega) _ _ _ _ (⟨k_inc (by assumption) hy, (show _ = (f_fa1 t b len (MN b) (EC b) x24 x k34 (f_fa I12 t b len (MN b) (EC b) x24 x k34)).1 by unfold f_fa1; rw [← hJ, ← hB, ← hW, if_pos qh, ← eI76, ← hv, if_pos (Or.inr (Int32.not_le.mp h116))]), (show _ = (f_fa1 t b len (MN b) (EC b) x24 x k34 (f_fa I12 t b len (MN b) (EC b) x24 x k34)).2.1 by unfold f_fa1; rw [← hJ, ← hB, ← hW, if_pos qh, ← eI76, ← hv, if_pos (Or.inr (Int32.not_le.mp h116))]; exact hy), (show _ = (f_fa1 t b len (MN b) (EC b) x24 x k34 (f_fa I12 t b len (MN b) (EC b) x24 x k34)).2.2 by unfold f_fa1; rw [← hJ, ← hB, ← hW, if_pos qh, ← eI76, ← hv, if_pos (Or.inr (Int32.not_le.mp h116))])⟩)
        · refine AW.aload_n dX10_fairest_84 rfl ?_
          refine AW.getR (c' := 93) (fX10_61 hG).r rfl (hM.1 0 _ rfl) (hM.2 (0, 11, 93) (by decide)) dX10_fairest_85 ?_
          refine AW.callV (b := 93) (As := []) hG.2.2 (vX10_365 hG) (o93.1 0 _ rfl) (k_X5_spread hK (d := 0) (Nat.le_refl _) o93 (by assumption) (by omega) (by omega)) (by omega) dX10_fairest_88 rfl rfl (Nat.le_of_ble_eq_true rfl) (fun v w9 hq9 h09 => by obtain ⟨rfl, rfl⟩ := hq9; exact ⟨h09, rfl⟩) (by decide) (by decide) (fun _ _ hx => absurd hx id) (fun v88 w88 hq88 => ?_)
          obtain ⟨rfl, rfl⟩ := hq88
          refine AW.nam (fun x88 ex88 => ?_)
          refine AW.ineg dX10_fairest_91 ?_
          refine AW.goto 104 dX10_fairest_92 (by decide) ?_
          refine AW.nam (fun x104 ex104 => ?_)
          refine AW.is [some (.ref 0), some (.int l), some (.int x), some (.int x24), some (.int be), some (.int wo), some (.int y), some (.int x104)] dX10_fairest_104 (by decide) rfl rfl ?_
          have hv : x104 = (if x = -1 then -(I76 94 0 - I76 94 (MN b - 1)) else I76 95 x.toNatClampNeg) := by rw [if_pos h81, ex104, ex88]
          refine AW.iload dX10_fairest_106 rfl ?_
          refine AW.iconst (-1) dX10_fairest_108 (by decide) ?_
          refine AW.icmp_eq 119 dX10_fairest_109 (by decide) (fun h109 => ?_) (fun h109 => ?_)
          · refine AW.iload dX10_fairest_119 rfl ?_
            refine AW.is [some (.ref 0), some (.int l), some (.int x), some (.int x24), some (.int y), some (.int wo), some (.int y), some (.int x104)] dX10_fairest_121 (by decide) rfl rfl ?_
            refine AW.iload dX10_fairest_123 rfl ?_
            refine AW.is [some (.ref 0), some (.int l), some (.int x), some (.int x24), some (.int y), some (.int x104), some (.int y), some (.int x104)] dX10_fairest_125 (by decide) rfl rfl ?_
            refine AW.inc (fun x127 => [some (.ref 0), some (.int l), some (.int x), some (.int x24), some (.int y), some (.int x104), some (.int x127), some (.int x104)]) dX10_fairest_127 rfl (by decide) rfl (fun _ => rfl) (fun x127 ex127 => ?_)
            refine AW.goto 34 dX10_fairest_130 (by decide) ?_
            refine AW.mask [7] [some (.ref 0), some (.int l), some (.int x), some (.int x24), some (.int y), some (.int x104), some (.int x127), none] rfl ?_
            exact ih34 (k34 + 1) (by omega) (by omega) _ _ _ _ (⟨k_inc (by assumption) hy, (show _ = (f_fa1 t b len (MN b) (EC b) x24 x k34 (f_fa I12 t b len (MN b) (EC b) x24 x k34)).1 by unfold f_fa1; rw [← hJ, ← hB, ← hW, if_pos qh, ← eI76, ← hv, if_pos (Or.inl h109)]), (show _ = (f_fa1 t b len (MN b) (EC b) x24 x k34 (f_fa I12 t b len (MN b) (EC b) x24 x k34)).2.1 by unfold f_fa1; rw [← hJ, ← hB, ← hW, if_pos qh, ← eI76, ← hv, if_pos (Or.inl h109)]; exact hy), (show _ = (f_fa1 t b len (MN b) (EC b) x24 x k34 (f_fa I12 t b len (MN b) (EC b) x24 x k34)).2.2 by unfold f_fa1; rw [← hJ, ← hB, ← hW, if_pos qh, ← eI76, ← hv, if_pos (Or.inl h109)])⟩)
          · refine AW.iload dX10_fairest_112 rfl ?_
            refine AW.iload dX10_fairest_114 rfl ?_
            refine AW.icmp_le 127 dX10_fairest_116 (by decide) (fun h116 => ?_) (fun h116 => ?_)
            · refine AW.inc (fun x127 => [some (.ref 0), some (.int l), some (.int x), some (.int x24), some (.int be), some (.int wo), some (.int x127), some (.int x104)]) dX10_fairest_127 rfl (by decide) rfl (fun _ => rfl) (fun x127 ex127 => ?_)
              refine AW.goto 34 dX10_fairest_130 (by decide) ?_
              refine AW.mask [7] [some (.ref 0), some (.int l), some (.int x), some (.int x24), some (.int be), some (.int wo), some (.int x127), none] rfl ?_
              exact ih34 (k34 + 1) (by omega) (by omega) _ _ _ _ (⟨k_inc (by assumption) hy, (show _ = (f_fa1 t b len (MN b) (EC b) x24 x k34 (f_fa I12 t b len (MN b) (EC b) x24 x k34)).1 by unfold f_fa1; rw [← hJ, ← hB, ← hW, if_pos qh, ← eI76, ← hv, if_neg (by rintro (h | h); exact h109 h; exact absurd h (Int32.not_lt.mpr h116))]), (show _ = (f_fa1 t b len (MN b) (EC b) x24 x k34 (f_fa I12 t b len (MN b) (EC b) x24 x k34)).2.1 by unfold f_fa1; rw [← hJ, ← hB, ← hW, if_pos qh, ← eI76, ← hv, if_neg (by rintro (h | h); exact h109 h; exact absurd h (Int32.not_lt.mpr h116))]; exact hB), (show _ = (f_fa1 t b len (MN b) (EC b) x24 x k34 (f_fa I12 t b len (MN b) (EC b) x24 x k34)).2.2 by unfold f_fa1; rw [← hJ, ← hB, ← hW, if_pos qh, ← eI76, ← hv, if_neg (by rintro (h | h); exact h109 h; exact absurd h (Int32.not_lt.mpr h116))]; exact hW)⟩)
            · refine AW.iload dX10_fairest_119 rfl ?_
              refine AW.is [some (.ref 0), some (.int l), some (.int x), some (.int x24), some (.int y), some (.int wo), some (.int y), some (.int x104)] dX10_fairest_121 (by decide) rfl rfl ?_
              refine AW.iload dX10_fairest_123 rfl ?_
              refine AW.is [some (.ref 0), some (.int l), some (.int x), some (.int x24), some (.int y), some (.int x104), some (.int y), some (.int x104)] dX10_fairest_125 (by decide) rfl rfl ?_
              refine AW.inc (fun x127 => [some (.ref 0), some (.int l), some (.int x), some (.int x24), some (.int y), some (.int x104), some (.int x127), some (.int x104)]) dX10_fairest_127 rfl (by decide) rfl (fun _ => rfl) (fun x127 ex127 => ?_)
              refine AW.goto 34 dX10_fairest_130 (by decide) ?_
              refine AW.mask [7] [some (.ref 0), some (.int l), some (.int x), some (.int x24), some (.int y), some (.int x104), some (.int x127), none] rfl ?_
              exact ih34 (k34 + 1) (by omega) (by omega) _ _ _ _ (⟨k_inc (by assumption) hy, (show _ = (f_fa1 t b len (MN b) (EC b) x24 x k34 (f_fa I12 t b len (MN b) (EC b) x24 x k34)).1 by unfold f_fa1; rw [← hJ, ← hB, ← hW, if_pos qh, ← eI76, ← hv, if_pos (Or.inr (Int32.not_le.mp h116))]), (show _ = (f_fa1 t b len (MN b) (EC b) x24 x k34 (f_fa I12 t b len (MN b) (EC b) x24 x k34)).2.1 by unfold f_fa1; rw [← hJ, ← hB, ← hW, if_pos qh, ← eI76, ← hv, if_pos (Or.inr (Int32.not_le.mp h116))]; exact hy), (show _ = (f_fa1 t b len (MN b) (EC b) x24 x k34 (f_fa I12 t b len (MN b) (EC b) x24 x k34)).2.2 by unfold f_fa1; rw [← hJ, ← hB, ← hW, if_pos qh, ← eI76, ← hv, if_pos (Or.inr (Int32.not_le.mp h116))])⟩)
  exact L34 0 (by omega) _ _ _ _ (⟨nI_0.symm, rfl, rfl, rfl⟩)
