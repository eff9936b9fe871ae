/-! THE TAPE IS FED, A TOWN IS TOLD -/
theorem AW.namR {G : am_G} {M : am_M} {d : Nat} {Rt : Option Value → am_w → Prop} {Th : String → am_w → Prop} {pc : Nat} {ls : List (Option Value)} {st : List Value} {uc us : Nat} {sh : List (Nat ⊕ (Nat × Nat))} {I : Nat → Nat → Int32} {R : Nat → Nat → Option Nat} {L : Nat → Nat → Int64} {g : Nat} (k : ∀ R' : Nat → Nat → Option Nat, R' = R → AW G M d Rt Th pc ls st (sh, I, R', L, g) uc us) : AW G M d Rt Th pc ls st (sh, I, R, L, g) uc us := k R rfl
theorem f_apk_f {I : Nat → Nat → Int32} {e fd : Nat} {v : Int32} {k : Nat} : f_apk I e fd v k e 1 = nI (fd + k) := up_eq
def f_fed (I : Nat → Nat → Int32) (fd : Nat) (a b c d e : Int32) : Nat → Nat → Int32 := f_apk (f_apk (f_apk (f_apk (f_apk I 1 fd a 4) 1 (fd + 4) b 4) 1 (fd + 8) c 4) 1 (fd + 12) d 4) 1 (fd + 16) e 4
theorem dX10_feed_0 : decode cX10_feed 0 = .ok (.aload_n 0, 1) := by decide +kernel
theorem dX10_feed_1 : decode cX10_feed 1 = .ok (.getfield 10, 3) := by decide +kernel
theorem dX10_feed_4 : decode cX10_feed 4 = .ok (.getfield 79, 3) := by decide +kernel
theorem dX10_feed_7 : decode cX10_feed 7 = .ok (.sipush 580, 3) := by decide +kernel
theorem dX10_feed_10 : decode cX10_feed 10 = .ok (.if_icmp .le 5, 3) := by decide +kernel
theorem dX10_feed_13 : decode cX10_feed 13 = .ok (.iconst (-1), 1) := by decide +kernel
theorem dX10_feed_14 : decode cX10_feed 14 = .ok (.ireturn, 1) := by decide +kernel
theorem dX10_feed_15 : decode cX10_feed 15 = .ok (.aload_n 0, 1) := by decide +kernel
theorem dX10_feed_16 : decode cX10_feed 16 = .ok (.getfield 10, 3) := by decide +kernel
theorem dX10_feed_19 : decode cX10_feed 19 = .ok (.iload_n 1, 1) := by decide +kernel
theorem dX10_feed_20 : decode cX10_feed 20 = .ok (.invokevirtual 82, 3) := by decide +kernel
theorem dX10_feed_23 : decode cX10_feed 23 = .ok (.aload_n 0, 1) := by decide +kernel
theorem dX10_feed_24 : decode cX10_feed 24 = .ok (.getfield 10, 3) := by decide +kernel
theorem dX10_feed_27 : decode cX10_feed 27 = .ok (.iload_n 2, 1) := by decide +kernel
theorem dX10_feed_28 : decode cX10_feed 28 = .ok (.invokevirtual 82, 3) := by decide +kernel
theorem dX10_feed_31 : decode cX10_feed 31 = .ok (.aload_n 0, 1) := by decide +kernel
theorem dX10_feed_32 : decode cX10_feed 32 = .ok (.getfield 10, 3) := by decide +kernel
theorem dX10_feed_35 : decode cX10_feed 35 = .ok (.iload_n 3, 1) := by decide +kernel
theorem dX10_feed_36 : decode cX10_feed 36 = .ok (.invokevirtual 82, 3) := by decide +kernel
theorem dX10_feed_39 : decode cX10_feed 39 = .ok (.aload_n 0, 1) := by decide +kernel
theorem dX10_feed_40 : decode cX10_feed 40 = .ok (.getfield 10, 3) := by decide +kernel
theorem dX10_feed_43 : decode cX10_feed 43 = .ok (.iload 4, 2) := by decide +kernel
theorem dX10_feed_45 : decode cX10_feed 45 = .ok (.invokevirtual 82, 3) := by decide +kernel
theorem dX10_feed_48 : decode cX10_feed 48 = .ok (.aload_n 0, 1) := by decide +kernel
theorem dX10_feed_49 : decode cX10_feed 49 = .ok (.getfield 10, 3) := by decide +kernel
theorem dX10_feed_52 : decode cX10_feed 52 = .ok (.iload 5, 2) := by decide +kernel
theorem dX10_feed_54 : decode cX10_feed 54 = .ok (.invokevirtual 82, 3) := by decide +kernel
theorem dX10_feed_57 : decode cX10_feed 57 = .ok (.aload_n 0, 1) := by decide +kernel
theorem dX10_feed_58 : decode cX10_feed 58 = .ok (.getfield 10, 3) := by decide +kernel
theorem dX10_feed_61 : decode cX10_feed 61 = .ok (.getfield 79, 3) := by decide +kernel
theorem dX10_feed_64 : decode cX10_feed 64 = .ok (.ireturn, 1) := by decide +kernel
set_option maxRecDepth 100000 in
set_option maxHeartbeats 4000000 in
theorem k_X10_feed {G : am_G} (hK : k_OK G) {d : Nat} (hd : 2 ≤ d) {sh : List (Nat ⊕ (Nat × Nat))} {I : Nat → Nat → Int32} {R : Nat → Nat → Option Nat} {L : Nat → Nat → Int64} {g : Nat} (hXS : k_XS G) {t : Nat} (hM : k_Main sh R) (hRt : R 0 1 = some t) (ht3 : t = 3 ∨ t = 22) {fd : Nat} (hfd : I 1 1 = nI fd) (hf6 : fd ≤ 600) (a b c d9 e9 : Int32) : AM G mX10_feed d [.ref 0, .int a, .int b, .int c, .int d9, .int e9] (sh, I, R, L, g) (fun v w => v = some (.int (if fd ≤ 580 then nI (fd + 20) else -1)) ∧ w = (sh, if fd ≤ 580 then f_fed I fd a b c d9 e9 else I, R, L, g)) (fun _ _ => False) := by
  have hG := hK.1
  have ht : k_Town sh R t := by rcases ht3 with rfl | rfl; exact kM_3 hM; exact kM_22 hM
  have o41 := kM_41 hM
  have o42 := kM_42 hM
  have o43 := kM_43 hM
  have o47 := kM_47 hM
  have o60 := kM_60 hM
  have o90 := kM_90 hM
  have o93 := kM_93 hM
  have o97 := kM_97 hM
  have o79 := kM_79 hM
  have o1 := kM_1 hM
  refine AM.of (n := 0) (by decide +kernel) (Nat.le_of_ble_eq_true rfl) ?_
  show AW G mX10_feed d (fun v w => v = some (.int (if fd ≤ 580 then nI (fd + 20) else -1)) ∧ w = (sh, if fd ≤ 580 then f_fed I fd a b c d9 e9 else I, R, L, g)) (fun _ _ => False) 0 [some (.ref 0), some (.int a), some (.int b), some (.int c), some (.int d9), some (.int e9)] [] (sh, I, R, L, g) 0 0
  refine AW.aload_n dX10_feed_0 rfl ?_
  refine AW.getR (c' := 1) (fX10_10 hG).r rfl (hM.1 0 _ rfl) (hM.2 (0, 0, 1) (by decide)) dX10_feed_1 ?_
  refine AW.getI (fX10_79 hG).r rfl (o1.1 0 _ rfl) dX10_feed_4 ?_
  refine AW.sipush 580 dX10_feed_7 (by decide) ?_
  refine AW.icmp_le 15 dX10_feed_10 (by decide) (fun h10 => ?_) (fun h10 => ?_)
  · have hle : fd ≤ 580 := (nI_lel hfd (m := 580) rfl (by omega) (by decide)).mp h10
    refine AW.aload_n dX10_feed_15 rfl ?_
    refine AW.getR (c' := 1) (fX10_10 hG).r rfl (hM.1 0 _ rfl) (hM.2 (0, 0, 1) (by decide)) dX10_feed_16 ?_
    refine AW.iload_n dX10_feed_19 rfl ?_
    refine AW.callV (b := 1) (As := [.int a]) hG.2.2 (vX10_82 hG) (o1.1 0 _ rfl) (k_X6_append hK (d := 1) (Nat.le_refl _) o1 hfd (by omega) a) (by omega) dX10_feed_20 rfl rfl (Nat.le_of_ble_eq_true rfl) (fun v w9 hq9 h09 => by obtain ⟨rfl, rfl⟩ := hq9; exact ⟨h09, rfl⟩) (by decide) (by decide) (fun _ _ hx => hx) (fun v20 w20 hq20 => ?_)
    obtain ⟨rfl, rfl⟩ := hq20
    refine AW.namI (fun I20 eI20 => ?_)
    show AW G mX10_feed d (fun v w => v = some (.int (if fd ≤ 580 then nI (fd + 20) else -1)) ∧ w = (sh, if fd ≤ 580 then f_fed I fd a b c d9 e9 else I, R, L, g)) (fun _ _ => False) 23 [some (.ref 0), some (.int a), some (.int b), some (.int c), some (.int d9), some (.int e9)] [] (sh, I20, R, L, g) 0 0
    have hf20 : I20 1 1 = nI (fd + 4) := by rw [eI20]; exact f_apk_f
    refine AW.aload_n dX10_feed_23 rfl ?_
    refine AW.getR (c' := 1) (fX10_10 hG).r rfl (hM.1 0 _ rfl) (hM.2 (0, 0, 1) (by decide)) dX10_feed_24 ?_
    refine AW.iload_n dX10_feed_27 rfl ?_
    refine AW.callV (b := 1) (As := [.int b]) hG.2.2 (vX10_82 hG) (o1.1 0 _ rfl) (k_X6_append hK (d := 1) (Nat.le_refl _) o1 hf20 (by omega) b) (by omega) dX10_feed_28 rfl rfl (Nat.le_of_ble_eq_true rfl) (fun v w9 hq9 h09 => by obtain ⟨rfl, rfl⟩ := hq9; exact ⟨h09, rfl⟩) (by decide) (by decide) (fun _ _ hx => hx) (fun v28 w28 hq28 => ?_)
    obtain ⟨rfl, rfl⟩ := hq28
    refine AW.namI (fun I28 eI28 => ?_)
    show AW G mX10_feed d (fun v w => v = some (.int (if fd ≤ 580 then nI (fd + 20) else -1)) ∧ w = (sh, if fd ≤ 580 then f_fed I fd a b c d9 e9 else I, R, L, g)) (fun _ _ => False) 31 [some (.ref 0), some (.int a), some (.int b), some (.int c), some (.int d9), some (.int e9)] [] (sh, I28, R, L, g) 0 0
    have hf28 : I28 1 1 = nI (fd + 8) := by rw [eI28]; exact f_apk_f
    refine AW.aload_n dX10_feed_31 rfl ?_
    refine AW.getR (c' := 1) (fX10_10 hG).r rfl (hM.1 0 _ rfl) (hM.2 (0, 0, 1) (by decide)) dX10_feed_32 ?_
    refine AW.iload_n dX10_feed_35 rfl ?_
    refine AW.callV (b := 1) (As := [.int c]) hG.2.2 (vX10_82 hG) (o1.1 0 _ rfl) (k_X6_append hK (d := 1) (Nat.le_refl _) o1 hf28 (by omega) c) (by omega) dX10_feed_36 rfl rfl (Nat.le_of_ble_eq_true rfl) (fun v w9 hq9 h09 => by obtain ⟨rfl, rfl⟩ := hq9; exact ⟨h09, rfl⟩) (by decide) (by decide) (fun _ _ hx => hx) (fun v36 w36 hq36 => ?_)
    obtain ⟨rfl, rfl⟩ := hq36
    refine AW.namI (fun I36 eI36 => ?_)
    show AW G mX10_feed d (fun v w => v = some (.int (if fd ≤ 580 then nI (fd + 20) else -1)) ∧ w = (sh, if fd ≤ 580 then f_fed I fd a b c d9 e9 else I, R, L, g)) (fun _ _ => False) 39 [some (.ref 0), some (.int a), some (.int b), some (.int c), some (.int d9), some (.int e9)] [] (sh, I36, R, L, g) 0 0
    have hf36 : I36 1 1 = nI (fd + 12) := by rw [eI36]; exact f_apk_f
    refine AW.aload_n dX10_feed_39 rfl ?_
    refine AW.getR (c' := 1) (fX10_10 hG).r rfl (hM.1 0 _ rfl) (hM.2 (0, 0, 1) (by decide)) dX10_feed_40 ?_
    refine AW.iload dX10_feed_43 rfl ?_
    refine AW.callV (b := 1) (As := [.int d9]) hG.2.2 (vX10_82 hG) (o1.1 0 _ rfl) (k_X6_append hK (d := 1) (Nat.le_refl _) o1 hf36 (by omega) d9) (by omega) dX10_feed_45 rfl rfl (Nat.le_of_ble_eq_true rfl) (fun v w9 hq9 h09 => by obtain ⟨rfl, rfl⟩ := hq9; exact ⟨h09, rfl⟩) (by decide) (by decide) (fun _ _ hx => hx) (fun v45 w45 hq45 => ?_)
    obtain ⟨rfl, rfl⟩ := hq45
    refine AW.namI (fun I45 eI45 => ?_)
    show AW G mX10_feed d (fun v w => v = some (.int (if fd ≤ 580 then nI (fd + 20) else -1)) ∧ w = (sh, if fd ≤ 580 then f_fed I fd a b c d9 e9 else I, R, L, g)) (fun _ _ => False) 48 [some (.ref 0), some (.int a), some (.int b), some (.int c), some (.int d9), some (.int e9)] [] (sh, I45, R, L, g) 0 0
    have hf45 : I45 1 1 = nI (fd + 16) := by rw [eI45]; exact f_apk_f
    refine AW.aload_n dX10_feed_48 rfl ?_
    refine AW.getR (c' := 1) (fX10_10 hG).r rfl (hM.1 0 _ rfl) (hM.2 (0, 0, 1) (by decide)) dX10_feed_49 ?_
    refine AW.iload dX10_feed_52 rfl ?_
    refine AW.callV (b := 1) (As := [.int e9]) hG.2.2 (vX10_82 hG) (o1.1 0 _ rfl) (k_X6_append hK (d := 1) (Nat.le_refl _) o1 hf45 (by omega) e9) (by omega) dX10_feed_54 rfl rfl (Nat.le_of_ble_eq_true rfl) (fun v w9 hq9 h09 => by obtain ⟨rfl, rfl⟩ := hq9; exact ⟨h09, rfl⟩) (by decide) (by decide) (fun _ _ hx => hx) (fun v54 w54 hq54 => ?_)
    obtain ⟨rfl, rfl⟩ := hq54
    refine AW.namI (fun I54 eI54 => ?_)
    show AW G mX10_feed d (fun v w => v = some (.int (if fd ≤ 580 then nI (fd + 20) else -1)) ∧ w = (sh, if fd ≤ 580 then f_fed I fd a b c d9 e9 else I, R, L, g)) (fun _ _ => False) 57 [some (.ref 0), some (.int a), some (.int b), some (.int c), some (.int d9), some (.int e9)] [] (sh, I54, R, L, g) 0 0
    have hf54 : I54 1 1 = nI (fd + 20) := by rw [eI54]; exact f_apk_f
    refine AW.aload_n dX10_feed_57 rfl ?_
    refine AW.getR (c' := 1) (fX10_10 hG).r rfl (hM.1 0 _ rfl) (hM.2 (0, 0, 1) (by decide)) dX10_feed_58 ?_
    refine AW.getI (fX10_79 hG).r rfl (o1.1 0 _ rfl) dX10_feed_61 ?_
    exact AW.iret dX10_feed_64 rfl (by decide) (by decide) (⟨by rw [if_pos hle, hf54], by rw [if_pos hle, eI54, eI45, eI36, eI28, eI20]; rfl⟩)
  · have hle : ¬ fd ≤ 580 := fun h => h10 ((nI_lel hfd (m := 580) rfl (by omega) (by decide)).mpr h)
    refine AW.iconst (-1) dX10_feed_13 (by decide) ?_
    exact AW.iret dX10_feed_14 rfl (by decide) (by decide) (⟨by rw [if_neg hle], by rw [if_neg hle]⟩)
def f_tF (J : Nat → Nat → Int32) : Nat → Nat → Int32 := am_up (am_up (am_up J 1 1 0) 0 3 (J 1 4)) 54 0 (J 54 0 + 1)
def f_tH (J : Nat → Nat → Int32) : Nat → Nat → Int32 := am_up (am_up J 1 1 0) 0 3 (-1)
def f_tG (J : Nat → Nat → Int32) (t n m : Nat) : Nat → Nat → Int32 := am_up (am_up (am_uA (f_sbeg (f_tH J) 42 t n m) 41 (upd (upd (f_tH J 41) 2 0) 6 0)) 0 9 0) 0 6 0
/-- the object's own references but its towns stay -/
theorem k_Main_u {sh : List (Nat ⊕ (Nat × Nat))} {R : Nat → Nat → Option Nat} {k : Nat} {x : Option Nat} (hk : k = 1 ∨ k = 2) (h : k_Main sh R) : k_Main sh (am_uR R 0 k x) := by
  refine ⟨h.1, fun q hq => ?_⟩
  have h0 : ∀ q ∈ kR_Main, q.1 ≠ 0 ∨ (q.2.1 ≠ 1 ∧ q.2.1 ≠ 2) := by decide
  have h1 := h.2 q hq
  by_cases e : q.1 = 0
  · have h2 := h0 q hq
    rw [e] at h1 ⊢
    rw [Nat.zero_add] at h1 ⊢
    rw [am_uR_s]
    have h3 : q.2.1 ≠ k := by rcases h2 with h2 | h2; exact absurd e h2; rcases hk with rfl | rfl; exact h2.1; exact h2.2
    rw [va_up, if_neg h3]
    exact h1
  · rw [am_uR_o _ _ _ _ (by omega)]
    exact h1
abbrev pX10_town : am_M := (yX10_town, cX10_town, 4, (some .int), 1, 6)
theorem dX10_town_0 : decode cX10_town 0 = .ok (.iload_n 1, 1) := by decide +kernel
theorem dX10_town_1 : decode cX10_town 1 = .ok (.ifCond .lt 14, 3) := by decide +kernel
theorem dX10_town_4 : decode cX10_town 4 = .ok (.iload_n 1, 1) := by decide +kernel
theorem dX10_town_5 : decode cX10_town 5 = .ok (.aload_n 0, 1) := by decide +kernel
theorem dX10_town_6 : decode cX10_town 6 = .ok (.getfield 10, 3) := by decide +kernel
theorem dX10_town_9 : decode cX10_town 9 = .ok (.getfield 79, 3) := by decide +kernel
theorem dX10_town_12 : decode cX10_town 12 = .ok (.if_icmp .le 13, 3) := by decide +kernel
theorem dX10_town_15 : decode cX10_town 15 = .ok (.new 86, 3) := by decide +kernel
theorem dX10_town_18 : decode cX10_town 18 = .ok (.dup, 1) := by decide +kernel
theorem dX10_town_19 : decode cX10_town 19 = .ok (.ldc 88, 2) := by decide +kernel
theorem dX10_town_21 : decode cX10_town 21 = .ok (.invokespecial 90, 3) := by decide +kernel
theorem dX10_town_24 : decode cX10_town 24 = .ok (.athrow, 1) := by decide +kernel
theorem dX10_town_25 : decode cX10_town 25 = .ok (.aload_n 0, 1) := by decide +kernel
theorem dX10_town_26 : decode cX10_town 26 = .ok (.getfield 10, 3) := by decide +kernel
theorem dX10_town_29 : decode cX10_town 29 = .ok (.iload_n 1, 1) := by decide +kernel
theorem dX10_town_30 : decode cX10_town 30 = .ok (.aload_n 0, 1) := by decide +kernel
theorem dX10_town_31 : decode cX10_town 31 = .ok (.getfield 23, 3) := by decide +kernel
theorem dX10_town_34 : decode cX10_town 34 = .ok (.invokevirtual 93, 3) := by decide +kernel
theorem dX10_town_37 : decode cX10_town 37 = .ok (.istore_n 2, 1) := by decide +kernel
theorem dX10_town_38 : decode cX10_town 38 = .ok (.aload_n 0, 1) := by decide +kernel
theorem dX10_town_39 : decode cX10_town 39 = .ok (.getfield 10, 3) := by decide +kernel
theorem dX10_town_42 : decode cX10_town 42 = .ok (.iconst 0, 1) := by decide +kernel
theorem dX10_town_43 : decode cX10_town 43 = .ok (.putfield 79, 3) := by decide +kernel
theorem dX10_town_46 : decode cX10_town 46 = .ok (.iload_n 2, 1) := by decide +kernel
theorem dX10_town_47 : decode cX10_town 47 = .ok (.ifCond .eq 29, 3) := by decide +kernel
theorem dX10_town_50 : decode cX10_town 50 = .ok (.aload_n 0, 1) := by decide +kernel
theorem dX10_town_51 : decode cX10_town 51 = .ok (.aload_n 0, 1) := by decide +kernel
theorem dX10_town_52 : decode cX10_town 52 = .ok (.getfield 10, 3) := by decide +kernel
theorem dX10_town_55 : decode cX10_town 55 = .ok (.getfield 97, 3) := by decide +kernel
theorem dX10_town_58 : decode cX10_town 58 = .ok (.putfield 26, 3) := by decide +kernel
theorem dX10_town_61 : decode cX10_town 61 = .ok (.aload_n 0, 1) := by decide +kernel
theorem dX10_town_62 : decode cX10_town 62 = .ok (.getfield 33, 3) := by decide +kernel
theorem dX10_town_65 : decode cX10_town 65 = .ok (.getfield 100, 3) := by decide +kernel
theorem dX10_town_68 : decode cX10_town 68 = .ok (.iconst 0, 1) := by decide +kernel
theorem dX10_town_69 : decode cX10_town 69 = .ok (.dup2, 1) := by decide +kernel
theorem dX10_town_70 : decode cX10_town 70 = .ok (.iaload, 1) := by decide +kernel
theorem dX10_town_71 : decode cX10_town 71 = .ok (.iconst 1, 1) := by decide +kernel
theorem dX10_town_72 : decode cX10_town 72 = .ok (.iadd, 1) := by decide +kernel
theorem dX10_town_73 : decode cX10_town 73 = .ok (.iastore, 1) := by decide +kernel
theorem dX10_town_74 : decode cX10_town 74 = .ok (.iload_n 2, 1) := by decide +kernel
theorem dX10_town_75 : decode cX10_town 75 = .ok (.ireturn, 1) := by decide +kernel
theorem dX10_town_76 : decode cX10_town 76 = .ok (.aload_n 0, 1) := by decide +kernel
theorem dX10_town_77 : decode cX10_town 77 = .ok (.iconst (-1), 1) := by decide +kernel
theorem dX10_town_78 : decode cX10_town 78 = .ok (.putfield 26, 3) := by decide +kernel
theorem dX10_town_81 : decode cX10_town 81 = .ok (.aload_n 0, 1) := by decide +kernel
theorem dX10_town_82 : decode cX10_town 82 = .ok (.getfield 23, 3) := by decide +kernel
theorem dX10_town_85 : decode cX10_town 85 = .ok (.astore_n 3, 1) := by decide +kernel
theorem dX10_town_86 : decode cX10_town 86 = .ok (.aload_n 0, 1) := by decide +kernel
theorem dX10_town_87 : decode cX10_town 87 = .ok (.aload_n 0, 1) := by decide +kernel
theorem dX10_town_88 : decode cX10_town 88 = .ok (.getfield 19, 3) := by decide +kernel
theorem dX10_town_91 : decode cX10_town 91 = .ok (.putfield 23, 3) := by decide +kernel
theorem dX10_town_94 : decode cX10_town 94 = .ok (.aload_n 0, 1) := by decide +kernel
theorem dX10_town_95 : decode cX10_town 95 = .ok (.aload_n 3, 1) := by decide +kernel
theorem dX10_town_96 : decode cX10_town 96 = .ok (.putfield 19, 3) := by decide +kernel
theorem dX10_town_99 : decode cX10_town 99 = .ok (.aload_n 0, 1) := by decide +kernel
theorem dX10_town_100 : decode cX10_town 100 = .ok (.getfield 33, 3) := by decide +kernel
theorem dX10_town_103 : decode cX10_town 103 = .ok (.aload_n 0, 1) := by decide +kernel
theorem dX10_town_104 : decode cX10_town 104 = .ok (.getfield 19, 3) := by decide +kernel
theorem dX10_town_107 : decode cX10_town 107 = .ok (.invokevirtual 75, 3) := by decide +kernel
theorem dX10_town_110 : decode cX10_town 110 = .ok (.aload_n 0, 1) := by decide +kernel
theorem dX10_town_111 : decode cX10_town 111 = .ok (.iconst 0, 1) := by decide +kernel
theorem dX10_town_112 : decode cX10_town 112 = .ok (.putfield 103, 3) := by decide +kernel
theorem dX10_town_115 : decode cX10_town 115 = .ok (.aload_n 0, 1) := by decide +kernel
theorem dX10_town_116 : decode cX10_town 116 = .ok (.iconst 0, 1) := by decide +kernel
theorem dX10_town_117 : decode cX10_town 117 = .ok (.putfield 107, 3) := by decide +kernel
theorem dX10_town_120 : decode cX10_town 120 = .ok (.iconst 0, 1) := by decide +kernel
theorem dX10_town_121 : decode cX10_town 121 = .ok (.ireturn, 1) := by decide +kernel
set_option maxRecDepth 100000 in
set_option maxHeartbeats 4000000 in
theorem k_X10_town {G : am_G} (hK : k_OK G) {d : Nat} (hd : 54 ≤ d) {sh : List (Nat ⊕ (Nat × Nat))} {I : Nat → Nat → Int32} {R : Nat → Nat → Option Nat} {L : Nat → Nat → Int64} {g : Nat} (hXS : k_XS G) {t : Nat} (hM : k_Main sh R) (hRt : R 0 1 = some t) (ht3 : t = 3 ∨ t = 22) (hg : g ≠ 0) {t2 fd : Nat} (hR2 : R 0 2 = some t2) (ht2 : t + t2 = 25) (hfd : I 1 1 = nI fd) (hf6 : fd ≤ 600) (hby : ∀ j, j < 600 → -128 ≤ I 2 j ∧ I 2 j < 128) (x : Int32) : AM G pX10_town d [.ref 0, .int x] (sh, I, R, L, g) (fun v w => ∃ nn J, nn ≤ fd ∧ x = nI nn ∧ k_rt (am_up I 1 2 (nI nn)) J 1 t2 (I 2) nn (x_read (I 2) nn) ∧ ((¬ (x_read (I 2) nn).1.1 = 0 ∧ v = some (.int (x_read (I 2) nn).1.1) ∧ w = (sh, f_tF J, R, L, g)) ∨ ((x_read (I 2) nn).1.1 = 0 ∧ v = some (.int 0) ∧ w = (sh, f_tG J t2 (x_read (I 2) nn).2.1.1.length (x_read (I 2) nn).2.1.2.2.1.length, am_uR (am_uR R 0 2 (some t)) 0 1 (some t2), L, g)))) (fun E w => w = (sh, I, R, L, g) ∧ E = "java/lang/IllegalArgumentException" ∧ ¬ ∃ nn, nn ≤ fd ∧ x = nI nn) := by
  have hG := hK.1
  have ht : k_Town sh R t := by rcases ht3 with rfl | rfl; exact kM_3 hM; exact kM_22 hM
  have o41 := kM_41 hM
  have o42 := kM_42 hM
  have o43 := kM_43 hM
  have o47 := kM_47 hM
  have o60 := kM_60 hM
  have o90 := kM_90 hM
  have o93 := kM_93 hM
  have o97 := kM_97 hM
  have o79 := kM_79 hM
  have o1 := kM_1 hM
  have ht23 : t2 = 3 ∨ t2 = 22 := by omega
  have ht2T : k_Town sh R t2 := by rcases ht23 with rfl | rfl; exact kM_3 hM; exact kM_22 hM
  refine AM.of (n := 2) (by decide +kernel) (Nat.le_of_ble_eq_true rfl) ?_
  show AW G pX10_town d (fun v w => ∃ nn J, nn ≤ fd ∧ x = nI nn ∧ k_rt (am_up I 1 2 (nI nn)) J 1 t2 (I 2) nn (x_read (I 2) nn) ∧ ((¬ (x_read (I 2) nn).1.1 = 0 ∧ v = some (.int (x_read (I 2) nn).1.1) ∧ w = (sh, f_tF J, R, L, g)) ∨ ((x_read (I 2) nn).1.1 = 0 ∧ v = some (.int 0) ∧ w = (sh, f_tG J t2 (x_read (I 2) nn).2.1.1.length (x_read (I 2) nn).2.1.2.2.1.length, am_uR (am_uR R 0 2 (some t)) 0 1 (some t2), L, g)))) (fun E w => w = (sh, I, R, L, g) ∧ E = "java/lang/IllegalArgumentException" ∧ ¬ ∃ nn, nn ≤ fd ∧ x = nI nn) 0 [some (.ref 0), some (.int x), none, none] [] (sh, I, R, L, g) 0 0
  refine AW.iload_n dX10_town_0 rfl ?_
  refine AW.if_lt 15 dX10_town_1 (by decide) (fun h1 => ?_) (fun h1 => ?_)
  · exact AW.throwS (hXS.2 88 (by decide)) dX10_town_15 dX10_town_18 dX10_town_19 dX10_town_21 dX10_town_24 (by omega) (Nat.le_of_ble_eq_true rfl) (by decide) (by decide) hg (⟨rfl, rfl, fun ⟨nn, h8, h9⟩ => nI_pos (by omega) (h9 ▸ h1)⟩)
  · refine AW.iload_n dX10_town_4 rfl ?_
    refine AW.aload_n dX10_town_5 rfl ?_
    refine AW.getR (c' := 1) (fX10_10 hG).r rfl (hM.1 0 _ rfl) (hM.2 (0, 0, 1) (by decide)) dX10_town_6 ?_
    refine AW.getI (fX10_79 hG).r rfl (o1.1 0 _ rfl) dX10_town_9 ?_
    refine AW.icmp_le 25 dX10_town_12 (by decide) (fun h12 => ?_) (fun h12 => ?_)
    · obtain ⟨nn, hnn, hxn⟩ := nI_of h1
      have hnf : nn ≤ fd := (nI_lel hxn hfd (by omega) (by omega)).mp h12
      refine AW.aload_n dX10_town_25 rfl ?_
      refine AW.getR (c' := 1) (fX10_10 hG).r rfl (hM.1 0 _ rfl) (hM.2 (0, 0, 1) (by decide)) dX10_town_26 ?_
      refine AW.iload_n dX10_town_29 rfl ?_
      refine AW.aload_n dX10_town_30 rfl ?_
      refine AW.getR (fX10_23 hG).r rfl (hM.1 0 _ rfl) hR2 dX10_town_31 ?_
      refine AW.callV (b := 1) (As := [.int x, .ref t2]) hG.2.2 (vX10_93 hG) (o1.1 0 _ rfl) (k_X6_read hK (d := 53) (Nat.le_refl _) (n := nn) (tp := I 2) (fd := fd) ⟨o1, by omega, hby⟩ ht2T (by omega) rfl hfd hnf hf6 x hxn) (by omega) dX10_town_34 rfl rfl (Nat.le_of_ble_eq_true rfl) (fun v w9 hq9 h09 => by obtain ⟨rfl, J9, rfl, -⟩ := hq9; exact ⟨h09, rfl⟩) (by decide) (by decide) (fun _ _ hx => absurd hx id) (fun v34 w34 hq34 => ?_)
      obtain ⟨rfl, I34, rfl, hg34, hs34, hl34, hT34⟩ := hq34
      refine AW.nam (fun x34 ex34 => ?_)
      have hrt : k_rt (am_up I 1 2 (nI nn)) I34 1 t2 (I 2) nn (x_read (I 2) nn) := ⟨hg34, hs34, hl34, hT34⟩
      refine AW.is_n [some (.ref 0), some (.int x), some (.int x34), none] dX10_town_37 (by decide) rfl rfl ?_
      refine AW.aload_n dX10_town_38 rfl ?_
      refine AW.getR (c' := 1) (fX10_10 hG).r rfl (hM.1 0 _ rfl) (hM.2 (0, 0, 1) (by decide)) dX10_town_39 ?_
      refine AW.iconst 0 dX10_town_42 (by decide) ?_
      refine AW.putI (fX10_79 hG) rfl (vp_nar_int _) rfl (o1.1 0 _ rfl) dX10_town_43 ?_
      refine AW.namI (fun I43 eI43 => ?_)
      refine AW.iload_n dX10_town_46 rfl ?_
      refine AW.if_eq 76 dX10_town_47 (by decide) (fun h47 => ?_) (fun h47 => ?_)
      · have q47 := ex34.symm.trans h47
        refine AW.aload_n dX10_town_76 rfl ?_
        refine AW.iconst (-1) dX10_town_77 (by decide) ?_
        refine AW.putI (fX10_26 hG) rfl (vp_nar_int _) rfl (hM.1 0 _ rfl) dX10_town_78 ?_
        refine AW.namI (fun I78 eI78 => ?_)
        refine AW.aload_n dX10_town_81 rfl ?_
        refine AW.getR (fX10_23 hG).r rfl (hM.1 0 _ rfl) hR2 dX10_town_82 ?_
        refine AW.as_n [some (.ref 0), some (.int x), some (.int x34), some (.ref t2)] dX10_town_85 (by decide) rfl rfl ?_
        refine AW.aload_n dX10_town_86 rfl ?_
        refine AW.aload_n dX10_town_87 rfl ?_
        refine AW.getR (fX10_19 hG).r rfl (hM.1 0 _ rfl) hRt dX10_town_88 ?_
        refine AW.putR (fX10_23 hG) rfl (hM.1 0 _ rfl) dX10_town_91 ?_
        refine AW.namR (fun R91 eR91 => ?_)
        have hM91 : k_Main sh R91 := by rw [eR91]; exact k_Main_u (Or.inr rfl) hM
        refine AW.aload_n dX10_town_94 rfl ?_
        refine AW.aload_n dX10_town_95 rfl ?_
        refine AW.putR (fX10_19 hG) rfl (hM.1 0 _ rfl) dX10_town_96 ?_
        refine AW.namR (fun R96 eR96 => ?_)
        have hM96 : k_Main sh R96 := by rw [eR96, eR91]; exact k_Main_u (Or.inl rfl) (k_Main_u (Or.inr rfl) hM)
        have hRt96 : R96 0 1 = some t2 := by rw [eR96]; rw [am_uR_s]; exact if_pos rfl
        have ht96 : k_Town sh R96 t2 := by rcases ht23 with rfl | rfl; exact kM_3 hM96; exact kM_22 hM96
        have p41 := kM_41 hM96
        have p42 := kM_42 hM96
        have p1 := kM_1 hM96
        refine AW.aload_n dX10_town_99 rfl ?_
        refine AW.getR (c' := 41) (fX10_33 hG).r rfl (hM96.1 0 _ rfl) (hM96.2 (0, 4, 41) (by decide)) dX10_town_100 ?_
        have eH : I78 = f_tH I34 := by rw [eI78, eI43]; rfl
        have hbo : ∀ a, t2 ≤ a → a < t2 + 19 → I78 a = I34 a := fun a h1 h2 => by rw [eH]; unfold f_tH; rw [am_up_o _ _ _ _ (by omega), am_up_o _ _ _ _ (by omega)]
        have hT9 := hT34 q47
        have hb0 : I78 t2 0 = nI (x_read (I 2) nn).2.1.1.length := by rw [hbo t2 (by omega) (by omega)]; exact hT9.1.1
        have hb8 := hT9.1.2.1
        have hb1 : I78 t2 1 = nI (x_read (I 2) nn).2.1.2.2.1.length := by rw [hbo t2 (by omega) (by omega)]; exact hT9.2.2.1.1
        have hb16 := hT9.2.2.1.2.1
        refine AW.aload_n dX10_town_103 rfl ?_
        refine AW.getR (fX10_19 hG).r rfl (hM96.1 0 _ rfl) hRt96 dX10_town_104 ?_
        refine AW.callV (b := 41) (As := [.ref t2]) hG.2.2 (vX10_75 hG) (p41.1 0 _ rfl) (k_X4_begin hK (d := 5) (Nat.le_refl _) p41 ht96 (by omega) hb0 hb8 hb1 hb16) (by omega) dX10_town_107 rfl rfl (Nat.le_of_ble_eq_true rfl) (fun v w9 hq9 h09 => by obtain ⟨rfl, rfl⟩ := hq9; exact ⟨h09, rfl⟩) (by decide) (by decide) (fun _ _ hx => absurd hx id) (fun v107 w107 hq107 => ?_)
        obtain ⟨rfl, rfl⟩ := hq107
        refine AW.namI (fun I107 eI107 => ?_)
        show AW G pX10_town d (fun v w => ∃ nn J, nn ≤ fd ∧ x = nI nn ∧ k_rt (am_up I 1 2 (nI nn)) J 1 t2 (I 2) nn (x_read (I 2) nn) ∧ ((¬ (x_read (I 2) nn).1.1 = 0 ∧ v = some (.int (x_read (I 2) nn).1.1) ∧ w = (sh, f_tF J, R, L, g)) ∨ ((x_read (I 2) nn).1.1 = 0 ∧ v = some (.int 0) ∧ w = (sh, f_tG J t2 (x_read (I 2) nn).2.1.1.length (x_read (I 2) nn).2.1.2.2.1.length, am_uR (am_uR R 0 2 (some t)) 0 1 (some t2), L, g)))) (fun E w => w = (sh, I, R, L, g) ∧ E = "java/lang/IllegalArgumentException" ∧ ¬ ∃ nn, nn ≤ fd ∧ x = nI nn) 110 [some (.ref 0), some (.int x), some (.int x34), some (.ref t2)] [] (sh, I107, R96, L, g) 0 0
        refine AW.aload_n dX10_town_110 rfl ?_
        refine AW.iconst 0 dX10_town_111 (by decide) ?_
        refine AW.putI (fX10_103 hG) rfl (by decide) (by decide) (hM96.1 0 _ rfl) dX10_town_112 ?_
        refine AW.namI (fun I112 eI112 => ?_)
        refine AW.aload_n dX10_town_115 rfl ?_
        refine AW.iconst 0 dX10_town_116 (by decide) ?_
        refine AW.putI (fX10_107 hG) rfl (by decide) (by decide) (hM96.1 0 _ rfl) dX10_town_117 ?_
        refine AW.namI (fun I117 eI117 => ?_)
        refine AW.iconst 0 dX10_town_120 (by decide) ?_
        exact AW.iret dX10_town_121 rfl (by decide) (by decide) (⟨nn, I34, hnf, hxn, hrt, Or.inr ⟨q47, rfl, by rw [eI117, eI112, eI107, eH, eR96, eR91]; rfl⟩⟩)
      · have q47 := fun h => h47 (ex34.trans h)
        refine AW.aload_n dX10_town_50 rfl ?_
        refine AW.aload_n dX10_town_51 rfl ?_
        refine AW.getR (c' := 1) (fX10_10 hG).r rfl (hM.1 0 _ rfl) (hM.2 (0, 0, 1) (by decide)) dX10_town_52 ?_
        refine AW.getI (fX10_97 hG).r rfl (o1.1 0 _ rfl) dX10_town_55 ?_
        refine AW.putI (fX10_26 hG) rfl (vp_nar_int _) rfl (hM.1 0 _ rfl) dX10_town_58 ?_
        refine AW.namI (fun I58 eI58 => ?_)
        refine AW.aload_n dX10_town_61 rfl ?_
        refine AW.getR (c' := 41) (fX10_33 hG).r rfl (hM.1 0 _ rfl) (hM.2 (0, 4, 41) (by decide)) dX10_town_62 ?_
        refine AW.getR (c' := 54) (fX10_100 hG) rfl (o41.1 0 _ rfl) (o41.2 (0, 1, 13) (by decide)) dX10_town_65 ?_
        refine AW.iconst 0 dX10_town_68 (by decide) ?_
        refine AW.dup2 dX10_town_69 rfl rfl ?_
        refine AW.iald (o41.1 13 _ rfl) (by first | assumption | (unfold vp_in; decide) | exact vp_in_nI (by omega) (by decide)) dX10_town_70 ?_
        refine AW.iconst 1 dX10_town_71 (by decide) ?_
        refine AW.iadd dX10_town_72 ?_
        refine AW.iast (o41.1 13 _ rfl) (by first | assumption | (unfold vp_in; decide) | exact vp_in_nI (by omega) (by decide)) dX10_town_73 ?_
        refine AW.namI (fun I73 eI73 => ?_)
        refine AW.iload_n dX10_town_74 rfl ?_
        exact AW.iret dX10_town_75 rfl (by decide) (by decide) (⟨nn, I34, hnf, hxn, hrt, Or.inl ⟨q47, by rw [ex34], by rw [eI73, eI58, eI43]; rfl⟩⟩)
    · exact AW.throwS (hXS.2 88 (by decide)) dX10_town_15 dX10_town_18 dX10_town_19 dX10_town_21 dX10_town_24 (by omega) (Nat.le_of_ble_eq_true rfl) (by decide) (by decide) hg (⟨rfl, rfl, fun ⟨nn, h8, h9⟩ => h12 ((nI_lel h9 hfd (by omega) (by omega)).mpr h8)⟩)
