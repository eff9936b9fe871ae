/-! CARRIER.SEARCH, NOON -/
theorem k_X0_place7 {G : am_G} (hK : k_OK G) {d : Nat} (hd : 7 ≤ d) {sh : List (Nat ⊕ (Nat × Nat))} {I : Nat → Nat → Int32} {R : Nat → Nat → Option Nat} {L : Nat → Nat → Int64} {g : Nat} {q op pe : Nat} (hq : k_Carrier sh R q) (hop : I q 3 = nI op) (hop5 : op ≤ 5) (hpe : I q 2 = nI pe) (hpe8 : pe ≤ 8) (hlo : ∀ k, k < op → vp_in (I (q + 2) k) 6) (x c : Int32) (hx : x = nI 0) (hS : ∀ p, p < pe → I (q + 9) p = 0) : AM G mX0_place d [.ref q, .int x, .int c] (sh, I, R, L, g) (fun v w => v = none ∧ w = (sh, f_pW I q (f_pl (I (q + 4)) (I (q + 6)) (I (q + 7)) (I (q + 2)) op pe op 0 c (I (q + 9)) (I q 1, I (q + 1), I (q + 8))), R, L, g)) (fun _ _ => False) :=
  k_X0_place hK hq hop5 hpe8 op (by omega) hop hpe hlo x c hx (by omega) (fun p hp => ⟨0, by decide, hS p hp⟩)
/-- what a search finds: I2 is the world when all is measured, J the world at its end -/
def k_sea (I I2 J : Nat → Nat → Int32) (q t b c n m a9 b9 : Nat) : Prop :=
  (∀ a, (a < q ∨ q + 10 ≤ a) → I2 a = I a) ∧ I2 (q + 2) = (f_co (I (b + 2)) (I (t + 11)) (I (t + 12)) (I t 3) (0, I (q + 2), I (q + 3)) m).2.1 ∧ I2 (q + 3) = (f_co (I (b + 2)) (I (t + 11)) (I (t + 12)) (I t 3) (0, I (q + 2), I (q + 3)) m).2.2 ∧
  (∀ p k, k < (f_co (I (b + 2)) (I (t + 11)) (I (t + 12)) (I t 3) (0, I (q + 2), I (q + 3)) m).1 → p < n → I2 (q + 4) (5 * p + k) = f_hs I2 q t c p k ∧ I2 (q + 5) (5 * p + k) = f_th I2 q t b p k) ∧
  (∀ a, (a < q ∨ q + 10 ≤ a) → J a = I a) ∧
  ∃ op it ff S0 row0 ch0, op = (f_co (I (b + 2)) (I (t + 11)) (I (t + 12)) (I t 3) (0, I (q + 2), I (q + 3)) m).1 ∧
    (∀ p, p < n → ∀ s, s < 2 ^ op → it (32 * p + s) = kb (f_it (f_cs I2 q op p a9 b9) (2 ^ op) s)) ∧ (∀ p, p < n → S0 p = 0) ∧
    (f_eB (fun k => f_fe (I2 (q + 4)) it k n) op op = true → ∀ r, r ≤ op → ff (op - r) = f_ff (fun k => f_fe (I2 (q + 4)) it k n) op r) ∧
    J q 1 = (if f_eB (fun k => f_fe (I2 (q + 4)) it k n) op op = true then (f_pl (I2 (q + 4)) it ff (I2 (q + 2)) op n op 0 0 S0 (1000000, row0, ch0)).1 else 1000000) ∧
    (f_eB (fun k => f_fe (I2 (q + 4)) it k n) op op = true → J (q + 1) = (f_pl (I2 (q + 4)) it ff (I2 (q + 2)) op n op 0 0 S0 (1000000, row0, ch0)).2.1)
theorem f_cs_c {I J : Nat → Nat → Int32} {q : Nat} (h3 : J (q + 3) = I (q + 3)) (h4 : J (q + 4) = I (q + 4)) (h5 : J (q + 5) = I (q + 5)) (op pj a9 b9 : Nat) : f_cs J q op pj a9 b9 = f_cs I q op pj a9 b9 := by funext s; unfold f_cs; rw [h3, h4, h5]
theorem dX0_search_0 : decode cX0_search 0 = .ok (.aload_n 0, 1) := by decide +kernel
theorem dX0_search_1 : decode cX0_search 1 = .ok (.aload_n 1, 1) := by decide +kernel
theorem dX0_search_2 : decode cX0_search 2 = .ok (.getfield 40, 3) := by decide +kernel
theorem dX0_search_5 : decode cX0_search 5 = .ok (.putfield 46, 3) := by decide +kernel
theorem dX0_search_8 : decode cX0_search 8 = .ok (.aload_n 0, 1) := by decide +kernel
theorem dX0_search_9 : decode cX0_search 9 = .ok (.aload_n 1, 1) := by decide +kernel
theorem dX0_search_10 : decode cX0_search 10 = .ok (.aload_n 2, 1) := by decide +kernel
theorem dX0_search_11 : decode cX0_search 11 = .ok (.invokevirtual 47, 3) := by decide +kernel
theorem dX0_search_14 : decode cX0_search 14 = .ok (.aload_n 0, 1) := by decide +kernel
theorem dX0_search_15 : decode cX0_search 15 = .ok (.aload_n 1, 1) := by decide +kernel
theorem dX0_search_16 : decode cX0_search 16 = .ok (.aload_n 2, 1) := by decide +kernel
theorem dX0_search_17 : decode cX0_search 17 = .ok (.aload_n 3, 1) := by decide +kernel
theorem dX0_search_18 : decode cX0_search 18 = .ok (.invokevirtual 51, 3) := by decide +kernel
theorem dX0_search_21 : decode cX0_search 21 = .ok (.iconst 0, 1) := by decide +kernel
theorem dX0_search_22 : decode cX0_search 22 = .ok (.istore 4, 2) := by decide +kernel
theorem dX0_search_24 : decode cX0_search 24 = .ok (.iload 4, 2) := by decide +kernel
theorem dX0_search_26 : decode cX0_search 26 = .ok (.aload_n 0, 1) := by decide +kernel
theorem dX0_search_27 : decode cX0_search 27 = .ok (.getfield 46, 3) := by decide +kernel
theorem dX0_search_30 : decode cX0_search 30 = .ok (.if_icmp .ge 31, 3) := by decide +kernel
theorem dX0_search_33 : decode cX0_search 33 = .ok (.aload_n 0, 1) := by decide +kernel
theorem dX0_search_34 : decode cX0_search 34 = .ok (.getfield 37, 3) := by decide +kernel
theorem dX0_search_37 : decode cX0_search 37 = .ok (.iload 4, 2) := by decide +kernel
theorem dX0_search_39 : decode cX0_search 39 = .ok (.iconst 0, 1) := by decide +kernel
theorem dX0_search_40 : decode cX0_search 40 = .ok (.iastore, 1) := by decide +kernel
theorem dX0_search_41 : decode cX0_search 41 = .ok (.aload_n 0, 1) := by decide +kernel
theorem dX0_search_42 : decode cX0_search 42 = .ok (.iload 4, 2) := by decide +kernel
theorem dX0_search_44 : decode cX0_search 44 = .ok (.aload_n 2, 1) := by decide +kernel
theorem dX0_search_45 : decode cX0_search 45 = .ok (.getfield 55, 3) := by decide +kernel
theorem dX0_search_48 : decode cX0_search 48 = .ok (.aload_n 1, 1) := by decide +kernel
theorem dX0_search_49 : decode cX0_search 49 = .ok (.getfield 60, 3) := by decide +kernel
theorem dX0_search_52 : decode cX0_search 52 = .ok (.invokevirtual 63, 3) := by decide +kernel
theorem dX0_search_55 : decode cX0_search 55 = .ok (.iinc 4 1, 3) := by decide +kernel
theorem dX0_search_58 : decode cX0_search 58 = .ok (.goto (-34), 3) := by decide +kernel
theorem dX0_search_61 : decode cX0_search 61 = .ok (.aload_n 0, 1) := by decide +kernel
theorem dX0_search_62 : decode cX0_search 62 = .ok (.ldc 67, 2) := by decide +kernel
theorem dX0_search_64 : decode cX0_search 64 = .ok (.putfield 68, 3) := by decide +kernel
theorem dX0_search_67 : decode cX0_search 67 = .ok (.aload_n 0, 1) := by decide +kernel
theorem dX0_search_68 : decode cX0_search 68 = .ok (.invokevirtual 71, 3) := by decide +kernel
theorem dX0_search_71 : decode cX0_search 71 = .ok (.ifCond .eq 9, 3) := by decide +kernel
theorem dX0_search_74 : decode cX0_search 74 = .ok (.aload_n 0, 1) := by decide +kernel
theorem dX0_search_75 : decode cX0_search 75 = .ok (.iconst 0, 1) := by decide +kernel
theorem dX0_search_76 : decode cX0_search 76 = .ok (.iconst 0, 1) := by decide +kernel
theorem dX0_search_77 : decode cX0_search 77 = .ok (.invokevirtual 75, 3) := by decide +kernel
theorem dX0_search_80 : decode cX0_search 80 = .ok (.aload_n 0, 1) := by decide +kernel
theorem dX0_search_81 : decode cX0_search 81 = .ok (.getfield 68, 3) := by decide +kernel
theorem dX0_search_84 : decode cX0_search 84 = .ok (.ldc 67, 2) := by decide +kernel
theorem dX0_search_86 : decode cX0_search 86 = .ok (.if_icmp .eq 7, 3) := by decide +kernel
theorem dX0_search_89 : decode cX0_search 89 = .ok (.iconst 1, 1) := by decide +kernel
theorem dX0_search_90 : decode cX0_search 90 = .ok (.goto 4, 3) := by decide +kernel
theorem dX0_search_93 : decode cX0_search 93 = .ok (.iconst 0, 1) := by decide +kernel
theorem dX0_search_94 : decode cX0_search 94 = .ok (.ireturn, 1) := by decide +kernel
set_option maxRecDepth 100000 in
set_option maxHeartbeats 4000000 in
theorem k_X0_search {G : am_G} (hK : k_OK G) {d : Nat} (hd : 8 ≤ d) {sh : List (Nat ⊕ (Nat × Nat))} {I : Nat → Nat → Int32} {R : Nat → Nat → Option Nat} {L : Nat → Nat → Int64} {g : Nat} {q t b c n m a9 b9 : Nat} (hq : k_Carrier sh R q) (ht : k_Town sh R t) (hb : k_Days sh R b) (hc : k_Circle sh R c) (haq : q + 10 ≤ t ∨ t + 19 ≤ q) (hbq : q + 10 ≤ b ∨ b + 4 ≤ q) (hcq : q + 10 ≤ c ∨ c + 3 ≤ q) (hn : I t 0 = nI n) (hn8 : n ≤ 8) (hm : I (t + 8) 0 = nI m) (hm6 : m ≤ 6) (ha9 : I b 1 = nI a9) (ha30 : a9 ≤ 30) (hb9 : I t 3 = nI b9) (hb30 : b9 ≤ 30) : AM G mX0_search d [.ref q, .ref t, .ref b, .ref c] (sh, I, R, L, g) (fun v w => ∃ I2 J, v = some (.int (kb (decide (¬ J q 1 = 1000000)))) ∧ w = (sh, J, R, L, g) ∧ k_sea I I2 J q t b c n m a9 b9) (fun _ _ => False) := by
  have hG := hK.1
  refine AM.of (n := 1) (by decide +kernel) (Nat.le_of_ble_eq_true rfl) ?_
  show AW G mX0_search d (fun v w => ∃ I2 J, v = some (.int (kb (decide (¬ J q 1 = 1000000)))) ∧ w = (sh, J, R, L, g) ∧ k_sea I I2 J q t b c n m a9 b9) (fun _ _ => False) 0 [some (.ref q), some (.ref t), some (.ref b), some (.ref c), none] [] (sh, I, R, L, g) 0 0
  refine AW.aload_n dX0_search_0 rfl ?_
  refine AW.aload_n dX0_search_1 rfl ?_
  refine AW.getI (fX0_40 hG).r rfl (ht.1 0 _ rfl) dX0_search_2 ?_
  refine AW.putI (fX0_46 hG) rfl (vp_nar_int _) rfl (hq.1 0 _ rfl) dX0_search_5 ?_
  refine AW.namI (fun I5 eI5 => ?_)
  have q5 : ∀ a, a ≠ q → I5 a = I a := fun a h => by rw [eI5, am_up_o _ _ _ _ h]
  have h5m : I5 (t + 8) 0 = nI m := by rw [q5 (t + 8) (by omega)]; exact hm
  refine AW.aload_n dX0_search_8 rfl ?_
  refine AW.aload_n dX0_search_9 rfl ?_
  refine AW.aload_n dX0_search_10 rfl ?_
  refine AW.callV (b := q) (As := [.ref t, .ref b]) hG.2.2 (vX0_47 hG) (hq.1 0 _ rfl) (k_X0_collectOpen hK (d := 1) (Nat.le_refl _) hq ht hb (by omega) (by omega) (by assumption) (by assumption)) (by omega) dX0_search_11 rfl rfl (Nat.le_of_ble_eq_true rfl) (fun v w9 hq9 h09 => by obtain ⟨rfl, J9, rfl, -⟩ := hq9; exact ⟨h09, rfl⟩) (by decide) (by decide) (fun _ _ hx => hx) (fun v11 w11 hq11 => ?_)
  obtain ⟨rfl, I11, rfl, hc0_11, hc2_11, hc3_11, hco_11⟩ := hq11
  show AW G mX0_search d (fun v w => ∃ I2 J, v = some (.int (kb (decide (¬ J q 1 = 1000000)))) ∧ w = (sh, J, R, L, g) ∧ k_sea I I2 J q t b c n m a9 b9) (fun _ _ => False) 14 [some (.ref q), some (.ref t), some (.ref b), some (.ref c), none] [] (sh, I11, R, L, g) 0 0
  have q5b : I5 (b + 2) = I (b + 2) := q5 (b + 2) (by omega)
  rw [q5b, q5 (t + 11) (by omega), q5 (t + 12) (by omega), q5 t (by omega), q5 (q + 2) (by omega), q5 (q + 3) (by omega)] at hc0_11 hc2_11 hc3_11
  obtain ⟨op, hop⟩ : ∃ op, op = (f_co (I (b + 2)) (I (t + 11)) (I (t + 12)) (I t 3) (0, I (q + 2), I (q + 3)) m).1 := ⟨_, rfl⟩
  have hop5 : op ≤ 5 := by rw [hop]; exact f_co_5 _ _ _ _ _ (Nat.zero_le _) _
  have h11o : I11 q 3 = nI op := by rw [hc0_11, hop]; exact pk_us
  have h11p : I11 q 2 = nI n := by rw [hc0_11]; show I5 q 2 = _; rw [eI5, am_up_s]; exact pk_us.trans hn
  have h11l : ∀ k, k < op → vp_in (I11 (q + 2) k) 6 := fun k hk => by
    obtain ⟨l, hl, h⟩ := f_co_l (I (b + 2)) (I (t + 11)) (I (t + 12)) (I t 3) (0, I (q + 2), I (q + 3)) rfl m k (by rw [← hop]; exact hk)
    rw [hc2_11, h]; exact vp_in_nI (by omega) (by decide)
  refine AW.aload_n dX0_search_14 rfl ?_
  refine AW.aload_n dX0_search_15 rfl ?_
  refine AW.aload_n dX0_search_16 rfl ?_
  refine AW.aload_n dX0_search_17 rfl ?_
  refine AW.callV (b := q) (As := [.ref t, .ref b, .ref c]) hG.2.2 (vX0_51 hG) (hq.1 0 _ rfl) (k_X0_measure hK (d := 1) (Nat.le_refl _) hq ht hb hc (by omega) (by omega) (by omega) (by assumption) (by omega) (by assumption) (by omega) (by assumption)) (by omega) dX0_search_18 rfl rfl (Nat.le_of_ble_eq_true rfl) (fun v w9 hq9 h09 => by obtain ⟨rfl, J9, rfl, -⟩ := hq9; exact ⟨h09, rfl⟩) (by decide) (by decide) (fun _ _ hx => hx) (fun v18 w18 hq18 => ?_)
  obtain ⟨rfl, I18, rfl, hmo_18, hmh_18⟩ := hq18
  show AW G mX0_search d (fun v w => ∃ I2 J, v = some (.int (kb (decide (¬ J q 1 = 1000000)))) ∧ w = (sh, J, R, L, g) ∧ k_sea I I2 J q t b c n m a9 b9) (fun _ _ => False) 21 [some (.ref q), some (.ref t), some (.ref b), some (.ref c), none] [] (sh, I18, R, L, g) 0 0
  have q18 : ∀ a, a ≠ q → a ≠ q + 2 → a ≠ q + 3 → a ≠ q + 4 → a ≠ q + 5 → I18 a = I a := fun a a0 a2 a3 a4 a5 => by rw [hmo_18 a a4 a5, hco_11 a a0 a2 a3, q5 a a0]
  have h18o : I18 q 3 = nI op := by rw [hmo_18 q (by omega) (by omega)]; exact h11o
  have h18p : I18 q 2 = nI n := by rw [hmo_18 q (by omega) (by omega)]; exact h11p
  have h18_2 : I18 (q + 2) = _ := (hmo_18 (q + 2) (by omega) (by omega)).trans hc2_11
  have h18_3 : I18 (q + 3) = _ := (hmo_18 (q + 3) (by omega) (by omega)).trans hc3_11
  have h18l : ∀ k, k < op → vp_in (I18 (q + 2) k) 6 := fun k hk => by rw [hmo_18 (q + 2) (by omega) (by omega)]; exact h11l k hk
  have hmh18 : ∀ p k, k < (f_co (I (b + 2)) (I (t + 11)) (I (t + 12)) (I t 3) (0, I (q + 2), I (q + 3)) m).1 → p < n → I18 (q + 4) (5 * p + k) = f_hs I18 q t c p k ∧ I18 (q + 5) (5 * p + k) = f_th I18 q t b p k := fun p k hk hp => by
    have h9 := hmh_18 p k (by rw [hop]; exact hk) hp
    unfold f_hs f_th f_wy at h9 ⊢
    rw [hmo_18 (q + 2) (by omega) (by omega), hmo_18 (c + 2) (by omega) (by omega), hmo_18 (t + 9) (by omega) (by omega), hmo_18 (t + 2) (by omega) (by omega), hmo_18 (t + 11) (by omega) (by omega), hmo_18 b (by omega) (by omega)]
    exact h9
  refine AW.iconst 0 dX0_search_21 (by decide) ?_
  refine AW.is [some (.ref q), some (.ref t), some (.ref b), some (.ref c), some (.int 0)] dX0_search_22 (by decide) rfl rfl ?_
  have L24 : ∀ k24, k24 ≤ n → ∀ (x : Int32) (J : Nat → Nat → Int32), (x = nI k24 ∧ (∀ a, a ≠ q + 6 → a ≠ q + 9 → J a = I18 a) ∧ (∀ p, p < k24 → J (q + 9) p = 0) ∧ ∀ p, p < k24 → ∀ s, s < 2 ^ op → J (q + 6) (32 * p + s) = kb (f_it (f_cs I18 q op p a9 b9) (2 ^ op) s)) → AW G mX0_search d (fun v w => ∃ I2 J, v = some (.int (kb (decide (¬ J q 1 = 1000000)))) ∧ w = (sh, J, R, L, g) ∧ k_sea I I2 J q t b c n m a9 b9) (fun _ _ => False) 24 [some (.ref q), some (.ref t), some (.ref b), some (.ref c), some (.int x)] [] (sh, J, R, L, g) 0 0 := by
    refine am_rec n (fun k24 hk24 ih24 => ?_)
    intro x J hi24
    obtain ⟨hx, hJo, hJ9, hJi⟩ := hi24
    have hJp : J q 2 = nI n := by rw [hJo q (by omega) (by omega)]; exact h18p
    refine AW.iload dX0_search_24 rfl ?_
    refine AW.aload_n dX0_search_26 rfl ?_
    refine AW.getI (fX0_46 hG).r rfl (hq.1 0 _ rfl) dX0_search_27 ?_
    refine AW.icmp_ge 61 dX0_search_30 (by decide) (fun h30 => ?_) (fun h30 => ?_)
    · have hke := k_ge h30 hx hJp hk24 (by omega)
      rw [hke] at hJ9 hJi
      refine AW.aload_n dX0_search_61 rfl ?_
      refine AW.ldc 1000000 dX0_search_62 (k_c hG 775 (by decide +kernel) (by decide +kernel)) ?_
      refine AW.putI (fX0_68 hG) rfl (vp_nar_int _) rfl (hq.1 0 _ rfl) dX0_search_64 ?_
      refine AW.namI (fun I64 eI64 => ?_)
      have h64o : I64 q 3 = nI op := by rw [eI64, am_up_s, hJo q (by omega) (by omega)]; exact h18o
      have h64p : I64 q 2 = nI n := by rw [eI64, am_up_s, hJo q (by omega) (by omega)]; exact h18p
      refine AW.aload_n dX0_search_67 rfl ?_
      refine AW.callV (b := q) (As := []) hG.2.2 (vX0_71 hG) (hq.1 0 _ rfl) (k_X0_estimate hK (d := 1) (Nat.le_refl _) hq (by assumption) (by omega) (by assumption) (by omega)) (by omega) dX0_search_68 rfl rfl (Nat.le_of_ble_eq_true rfl) (fun v w9 hq9 h09 => by obtain ⟨rfl, J9, rfl, -⟩ := hq9; exact ⟨h09, rfl⟩) (by decide) (by decide) (fun _ _ hx => hx) (fun v68 w68 hq68 => ?_)
      obtain ⟨rfl, I68, rfl, heo_68, hef_68⟩ := hq68
      refine AW.nam (fun x68 ex68 => ?_)
      refine AW.if_eq 80 dX0_search_71 (by decide) (fun h71 => ?_) (fun h71 => ?_)
      · refine AW.aload_n dX0_search_80 rfl ?_
        refine AW.getI (fX0_68 hG).r rfl (hq.1 0 _ rfl) dX0_search_81 ?_
        refine AW.ldc 1000000 dX0_search_84 (k_c hG 775 (by decide +kernel) (by decide +kernel)) ?_
        refine AW.icmp_eq 93 dX0_search_86 (by decide) (fun h86 => ?_) (fun h86 => ?_)
        · refine AW.iconst 0 dX0_search_93 (by decide) ?_
          exact AW.zret dX0_search_94 rfl (by decide) (by decide) (by decide) (by
            have hI2o : ∀ a, (a < q ∨ q + 10 ≤ a) → I18 a = I a := fun a ha => q18 a (by omega) (by omega) (by omega) (by omega) (by omega)
            have hJ64 : ∀ a, a ≠ q → a ≠ q + 6 → a ≠ q + 9 → I64 a = I18 a := fun a a0 a6 a9 => by rw [eI64, am_up_o _ _ _ _ a0]; exact hJo a a6 a9
            have h68 : ∀ a, a ≠ q → a ≠ q + 6 → a ≠ q + 9 → a ≠ q + 7 → I68 a = I18 a := fun a a0 a6 a9 a7 => (heo_68 a a7).trans (hJ64 a a0 a6 a9)
            have e4 : I64 (q + 4) = I18 (q + 4) := hJ64 (q + 4) (by omega) (by omega) (by omega)
            have e6 : I64 (q + 6) = J (q + 6) := by rw [eI64, am_up_o _ _ _ _ (by omega)]
            have e64b : I64 q 1 = 1000000 := by rw [eI64, am_up_s]; exact pk_us
            rw [e4, e6] at ex68 hef_68
            have q1 : f_eB (fun k => f_fe (I18 (q + 4)) (J (q + 6)) k n) op op = false := kb_0.mp (by rw [← ex68]; exact h71)
            refine ⟨I18, I68, by rw [kb_f (by simpa using h86)], rfl, hI2o, h18_2, h18_3, fun p k hk hp => hmh18 p k hk hp, fun a ha => ?_, op, J (q + 6), I68 (q + 7), J (q + 9), I68 (q + 1), I68 (q + 8), hop, hJi, hJ9, hef_68, ?_, fun h => ?_⟩
            · rw [h68 a (by omega) (by omega) (by omega) (by omega)]; exact hI2o a ha
            · rw [if_neg (by rw [q1]; decide), heo_68 q (by omega)]; exact e64b
            · rw [q1] at h; exact absurd h (by decide))
        · refine AW.iconst 1 dX0_search_89 (by decide) ?_
          refine AW.goto 94 dX0_search_90 (by decide) ?_
          exact AW.zret dX0_search_94 rfl (by decide) (by decide) (by decide) (by
            have hI2o : ∀ a, (a < q ∨ q + 10 ≤ a) → I18 a = I a := fun a ha => q18 a (by omega) (by omega) (by omega) (by omega) (by omega)
            have hJ64 : ∀ a, a ≠ q → a ≠ q + 6 → a ≠ q + 9 → I64 a = I18 a := fun a a0 a6 a9 => by rw [eI64, am_up_o _ _ _ _ a0]; exact hJo a a6 a9
            have h68 : ∀ a, a ≠ q → a ≠ q + 6 → a ≠ q + 9 → a ≠ q + 7 → I68 a = I18 a := fun a a0 a6 a9 a7 => (heo_68 a a7).trans (hJ64 a a0 a6 a9)
            have e4 : I64 (q + 4) = I18 (q + 4) := hJ64 (q + 4) (by omega) (by omega) (by omega)
            have e6 : I64 (q + 6) = J (q + 6) := by rw [eI64, am_up_o _ _ _ _ (by omega)]
            have e64b : I64 q 1 = 1000000 := by rw [eI64, am_up_s]; exact pk_us
            rw [e4, e6] at ex68 hef_68
            have q1 : f_eB (fun k => f_fe (I18 (q + 4)) (J (q + 6)) k n) op op = false := kb_0.mp (by rw [← ex68]; exact h71)
            refine ⟨I18, I68, by rw [kb_t (by simpa using h86)], rfl, hI2o, h18_2, h18_3, fun p k hk hp => hmh18 p k hk hp, fun a ha => ?_, op, J (q + 6), I68 (q + 7), J (q + 9), I68 (q + 1), I68 (q + 8), hop, hJi, hJ9, hef_68, ?_, fun h => ?_⟩
            · rw [h68 a (by omega) (by omega) (by omega) (by omega)]; exact hI2o a ha
            · rw [if_neg (by rw [q1]; decide), heo_68 q (by omega)]; exact e64b
            · rw [q1] at h; exact absurd h (by decide))
      · refine AW.aload_n dX0_search_74 rfl ?_
        refine AW.iconst 0 dX0_search_75 (by decide) ?_
        refine AW.iconst 0 dX0_search_76 (by decide) ?_
        have h68o : I68 q 3 = nI op := by rw [heo_68 q (by omega)]; exact h64o
        have h68p : I68 q 2 = nI n := by rw [heo_68 q (by omega)]; exact h64p
        have h68l : ∀ k, k < op → vp_in (I68 (q + 2) k) 6 := fun k hk => by rw [heo_68 (q + 2) (by omega), eI64, am_up_o _ _ _ _ (by omega), hJo (q + 2) (by omega) (by omega)]; exact h18l k hk
        have h68S : ∀ p, p < n → I68 (q + 9) p = 0 := fun p hp => by rw [heo_68 (q + 9) (by omega), eI64, am_up_o _ _ _ _ (by omega)]; exact hJ9 p hp
        refine AW.callV (b := q) (As := [.int 0, .int 0]) hG.2.2 (vX0_75 hG) (hq.1 0 _ rfl) (k_X0_place7 hK (d := 7) (Nat.le_refl _) hq (by assumption) (by assumption) (by assumption) (by assumption) (by assumption) 0 0 rfl (by assumption)) (by omega) dX0_search_77 rfl rfl (Nat.le_of_ble_eq_true rfl) (fun v w9 hq9 h09 => by obtain ⟨rfl, rfl⟩ := hq9; exact ⟨h09, rfl⟩) (by decide) (by decide) (fun _ _ hx => hx) (fun v77 w77 hq77 => ?_)
        obtain ⟨rfl, rfl⟩ := hq77
        refine AW.namI (fun I77 eI77 => ?_)
        show AW G mX0_search d (fun v w => ∃ I2 J, v = some (.int (kb (decide (¬ J q 1 = 1000000)))) ∧ w = (sh, J, R, L, g) ∧ k_sea I I2 J q t b c n m a9 b9) (fun _ _ => False) 80 [some (.ref q), some (.ref t), some (.ref b), some (.ref c), some (.int x)] [] (sh, I77, R, L, g) 0 0
        refine AW.aload_n dX0_search_80 rfl ?_
        refine AW.getI (fX0_68 hG).r rfl (hq.1 0 _ rfl) dX0_search_81 ?_
        refine AW.ldc 1000000 dX0_search_84 (k_c hG 775 (by decide +kernel) (by decide +kernel)) ?_
        refine AW.icmp_eq 93 dX0_search_86 (by decide) (fun h86 => ?_) (fun h86 => ?_)
        · refine AW.iconst 0 dX0_search_93 (by decide) ?_
          exact AW.zret dX0_search_94 rfl (by decide) (by decide) (by decide) (by
            have hI2o : ∀ a, (a < q ∨ q + 10 ≤ a) → I18 a = I a := fun a ha => q18 a (by omega) (by omega) (by omega) (by omega) (by omega)
            have hJ64 : ∀ a, a ≠ q → a ≠ q + 6 → a ≠ q + 9 → I64 a = I18 a := fun a a0 a6 a9 => by rw [eI64, am_up_o _ _ _ _ a0]; exact hJo a a6 a9
            have h68 : ∀ a, a ≠ q → a ≠ q + 6 → a ≠ q + 9 → a ≠ q + 7 → I68 a = I18 a := fun a a0 a6 a9 a7 => (heo_68 a a7).trans (hJ64 a a0 a6 a9)
            have e4 : I64 (q + 4) = I18 (q + 4) := hJ64 (q + 4) (by omega) (by omega) (by omega)
            have e6 : I64 (q + 6) = J (q + 6) := by rw [eI64, am_up_o _ _ _ _ (by omega)]
            have e64b : I64 q 1 = 1000000 := by rw [eI64, am_up_s]; exact pk_us
            rw [e4, e6] at ex68 hef_68
            have q1 : f_eB (fun k => f_fe (I18 (q + 4)) (J (q + 6)) k n) op op = true := kb_1.mp (by rw [← ex68]; exact h71)
            have e77 : I77 = f_pW I68 q (f_pl (I18 (q + 4)) (J (q + 6)) (I68 (q + 7)) (I18 (q + 2)) op n op 0 0 (J (q + 9)) (1000000, I68 (q + 1), I68 (q + 8))) := by
              rw [eI77, h68 (q + 4) (by omega) (by omega) (by omega) (by omega), h68 (q + 2) (by omega) (by omega) (by omega) (by omega), heo_68 (q + 6) (by omega), e6, heo_68 q (by omega), e64b, heo_68 (q + 9) (by omega), show I64 (q + 9) = J (q + 9) by rw [eI64, am_up_o _ _ _ _ (by omega)]]
            refine ⟨I18, I77, by rw [kb_f (by simpa using h86)], rfl, hI2o, h18_2, h18_3, fun p k hk hp => hmh18 p k hk hp, fun a ha => ?_, op, J (q + 6), I68 (q + 7), J (q + 9), I68 (q + 1), I68 (q + 8), hop, hJi, hJ9, hef_68, ?_, fun _ => ?_⟩
            · rw [e77, f_pW_o _ _ _ (by omega) (by omega) (by omega), h68 a (by omega) (by omega) (by omega) (by omega)]; exact hI2o a ha
            · rw [if_pos q1, e77, f_pW_0]; exact pk_us
            · rw [e77, f_pW_1])
        · refine AW.iconst 1 dX0_search_89 (by decide) ?_
          refine AW.goto 94 dX0_search_90 (by decide) ?_
          exact AW.zret dX0_search_94 rfl (by decide) (by decide) (by decide) (by
            have hI2o : ∀ a, (a < q ∨ q + 10 ≤ a) → I18 a = I a := fun a ha => q18 a (by omega) (by omega) (by omega) (by omega) (by omega)
            have hJ64 : ∀ a, a ≠ q → a ≠ q + 6 → a ≠ q + 9 → I64 a = I18 a := fun a a0 a6 a9 => by rw [eI64, am_up_o _ _ _ _ a0]; exact hJo a a6 a9
            have h68 : ∀ a, a ≠ q → a ≠ q + 6 → a ≠ q + 9 → a ≠ q + 7 → I68 a = I18 a := fun a a0 a6 a9 a7 => (heo_68 a a7).trans (hJ64 a a0 a6 a9)
            have e4 : I64 (q + 4) = I18 (q + 4) := hJ64 (q + 4) (by omega) (by omega) (by omega)
            have e6 : I64 (q + 6) = J (q + 6) := by rw [eI64, am_up_o _ _ _ _ (by omega)]
            have e64b : I64 q 1 = 1000000 := by rw [eI64, am_up_s]; exact pk_us
            rw [e4, e6] at ex68 hef_68
            have q1 : f_eB (fun k => f_fe (I18 (q + 4)) (J (q + 6)) k n) op op = true := kb_1.mp (by rw [← ex68]; exact h71)
            have e77 : I77 = f_pW I68 q (f_pl (I18 (q + 4)) (J (q + 6)) (I68 (q + 7)) (I18 (q + 2)) op n op 0 0 (J (q + 9)) (1000000, I68 (q + 1), I68 (q + 8))) := by
              rw [eI77, h68 (q + 4) (by omega) (by omega) (by omega) (by omega), h68 (q + 2) (by omega) (by omega) (by omega) (by omega), heo_68 (q + 6) (by omega), e6, heo_68 q (by omega), e64b, heo_68 (q + 9) (by omega), show I64 (q + 9) = J (q + 9) by rw [eI64, am_up_o _ _ _ _ (by omega)]]
            refine ⟨I18, I77, by rw [kb_t (by simpa using h86)], rfl, hI2o, h18_2, h18_3, fun p k hk hp => hmh18 p k hk hp, fun a ha => ?_, op, J (q + 6), I68 (q + 7), J (q + 9), I68 (q + 1), I68 (q + 8), hop, hJi, hJ9, hef_68, ?_, fun _ => ?_⟩
            · rw [e77, f_pW_o _ _ _ (by omega) (by omega) (by omega), h68 a (by omega) (by omega) (by omega) (by omega)]; exact hI2o a ha
            · rw [if_pos q1, e77, f_pW_0]; exact pk_us
            · rw [e77, f_pW_1])
    · have hlt := k_lt h30 hx hJp hk24 (by omega)
      have hbx : vp_in x 8 := by rw [hx]; exact vp_in_nI (by omega) (by decide)
      have hcx : x.toNatClampNeg = k24 := k_lit hx (by omega)
      refine AW.aload_n dX0_search_33 rfl ?_
      refine AW.getR (c' := (q + 9)) (fX0_37 hG).r rfl (hq.1 0 _ rfl) (hq.2 (0, 11, 9) (by decide)) dX0_search_34 ?_
      refine AW.iload dX0_search_37 rfl ?_
      refine AW.iconst 0 dX0_search_39 (by decide) ?_
      refine AW.iast (hq.1 9 _ rfl) (by first | assumption | (unfold vp_in; decide) | exact vp_in_nI (by omega) (by decide)) dX0_search_40 ?_
      refine AW.namI (fun I40 eI40 => ?_)
      have h40o : I40 q 3 = nI op := by rw [eI40, am_up_o _ _ _ _ (by omega), hJo q (by omega) (by omega)]; exact h18o
      have h40a : I40 b 1 = nI a9 := by rw [eI40, am_up_o _ _ _ _ (by omega), hJo b (by omega) (by omega), q18 b (by omega) (by omega) (by omega) (by omega) (by omega)]; exact ha9
      have h40b : I40 t 3 = nI b9 := by rw [eI40, am_up_o _ _ _ _ (by omega), hJo t (by omega) (by omega), q18 t (by omega) (by omega) (by omega) (by omega) (by omega)]; exact hb9
      refine AW.aload_n dX0_search_41 rfl ?_
      refine AW.iload dX0_search_42 rfl ?_
      refine AW.aload_n dX0_search_44 rfl ?_
      refine AW.getI (fX0_55 hG).r rfl (hb.1 0 _ rfl) dX0_search_45 ?_
      refine AW.aload_n dX0_search_48 rfl ?_
      refine AW.getI (fX0_60 hG).r rfl (ht.1 0 _ rfl) dX0_search_49 ?_
      refine AW.callV (b := q) (As := [.int x, .int (I40 b 1), .int (I40 t 3)]) hG.2.2 (vX0_63 hG) (hq.1 0 _ rfl) (k_X0_tryAllSets hK (d := 3) (Nat.le_refl _) hq (by assumption) (by omega) x (I40 b 1) (I40 t 3) (by assumption) (by omega) (by assumption) (by assumption) (by assumption) (by assumption)) (by omega) dX0_search_52 rfl rfl (Nat.le_of_ble_eq_true rfl) (fun v w9 hq9 h09 => by obtain ⟨rfl, J9, rfl, -⟩ := hq9; exact ⟨h09, rfl⟩) (by decide) (by decide) (fun _ _ hx => hx) (fun v52 w52 hq52 => ?_)
      obtain ⟨rfl, I52, rfl, hto_52, hti_52, htj_52⟩ := hq52
      show AW G mX0_search d (fun v w => ∃ I2 J, v = some (.int (kb (decide (¬ J q 1 = 1000000)))) ∧ w = (sh, J, R, L, g) ∧ k_sea I I2 J q t b c n m a9 b9) (fun _ _ => False) 55 [some (.ref q), some (.ref t), some (.ref b), some (.ref c), some (.int x)] [] (sh, I52, R, L, g) 0 0
      have e18 : f_cs I40 q op k24 a9 b9 = f_cs I18 q op k24 a9 b9 := f_cs_c (by rw [eI40, am_up_o _ _ _ _ (by omega), hJo (q + 3) (by omega) (by omega)]) (by rw [eI40, am_up_o _ _ _ _ (by omega), hJo (q + 4) (by omega) (by omega)]) (by rw [eI40, am_up_o _ _ _ _ (by omega), hJo (q + 5) (by omega) (by omega)]) _ _ _ _
      refine AW.inc (fun x55 => [some (.ref q), some (.ref t), some (.ref b), some (.ref c), some (.int x55)]) dX0_search_55 rfl (by decide) rfl (fun _ => rfl) (fun x55 ex55 => ?_)
      refine AW.goto 24 dX0_search_58 (by decide) ?_
      exact ih24 (k24 + 1) (by omega) (by omega) _ _ (by
        have hpw5 : 2 ^ op ≤ 2 ^ 5 := Nat.pow_le_pow_right (by decide) hop5
        refine ⟨k_inc (by assumption) hx, fun a a6 a9 => ?_, fun p hp => ?_, fun p hp s hs => ?_⟩
        · rw [hto_52 a a6, eI40, am_up_o _ _ _ _ a9]; exact hJo a a6 a9
        · rw [hto_52 (q + 9) (by omega), eI40, am_up_s, hcx]
          by_cases e : p = k24
          · rw [e, pk_us]
          · rw [upd_o e]; exact hJ9 p (by omega)
        · by_cases e : p = k24
          · rw [e, hti_52 s hs, e18]
          · rw [htj_52 _ (by omega), eI40, am_up_o _ _ _ _ (by omega)]; exact hJi p (by omega) s hs)
  exact L24 0 (by omega) _ _ (⟨nI_0.symm, fun a _ _ => rfl, fun p h => absurd h (Nat.not_lt_zero _), fun p h => absurd h (Nat.not_lt_zero _)⟩)
theorem dX10_noon_0 : decode cX10_noon 0 = .ok (.aload_n 0, 1) := by decide +kernel
theorem dX10_noon_1 : decode cX10_noon 1 = .ok (.getfield 33, 3) := by decide +kernel
theorem dX10_noon_4 : decode cX10_noon 4 = .ok (.getfield 110, 3) := by decide +kernel
theorem dX10_noon_7 : decode cX10_noon 7 = .ok (.getfield 114, 3) := by decide +kernel
theorem dX10_noon_10 : decode cX10_noon 10 = .ok (.astore_n 1, 1) := by decide +kernel
theorem dX10_noon_11 : decode cX10_noon 11 = .ok (.aload_n 1, 1) := by decide +kernel
theorem dX10_noon_12 : decode cX10_noon 12 = .ok (.aload_n 0, 1) := by decide +kernel
theorem dX10_noon_13 : decode cX10_noon 13 = .ok (.getfield 19, 3) := by decide +kernel
theorem dX10_noon_16 : decode cX10_noon 16 = .ok (.getfield 122, 3) := by decide +kernel
theorem dX10_noon_19 : decode cX10_noon 19 = .ok (.invokevirtual 143, 3) := by decide +kernel
theorem dX10_noon_22 : decode cX10_noon 22 = .ok (.istore_n 2, 1) := by decide +kernel
theorem dX10_noon_23 : decode cX10_noon 23 = .ok (.iload_n 2, 1) := by decide +kernel
theorem dX10_noon_24 : decode cX10_noon 24 = .ok (.iconst 5, 1) := by decide +kernel
theorem dX10_noon_25 : decode cX10_noon 25 = .ok (.if_icmp .le 6, 3) := by decide +kernel
theorem dX10_noon_28 : decode cX10_noon 28 = .ok (.bipush (-2), 2) := by decide +kernel
theorem dX10_noon_30 : decode cX10_noon 30 = .ok (.ireturn, 1) := by decide +kernel
theorem dX10_noon_31 : decode cX10_noon 31 = .ok (.iload_n 2, 1) := by decide +kernel
theorem dX10_noon_32 : decode cX10_noon 32 = .ok (.ifCond .le 12, 3) := by decide +kernel
theorem dX10_noon_35 : decode cX10_noon 35 = .ok (.aload_n 1, 1) := by decide +kernel
theorem dX10_noon_36 : decode cX10_noon 36 = .ok (.getfield 137, 3) := by decide +kernel
theorem dX10_noon_39 : decode cX10_noon 39 = .ok (.ifCond .le 5, 3) := by decide +kernel
theorem dX10_noon_42 : decode cX10_noon 42 = .ok (.iconst (-1), 1) := by decide +kernel
theorem dX10_noon_43 : decode cX10_noon 43 = .ok (.ireturn, 1) := by decide +kernel
theorem dX10_noon_44 : decode cX10_noon 44 = .ok (.aload_n 0, 1) := by decide +kernel
theorem dX10_noon_45 : decode cX10_noon 45 = .ok (.invokevirtual 147, 3) := by decide +kernel
theorem dX10_noon_48 : decode cX10_noon 48 = .ok (.aload_n 0, 1) := by decide +kernel
theorem dX10_noon_49 : decode cX10_noon 49 = .ok (.getfield 43, 3) := by decide +kernel
theorem dX10_noon_52 : decode cX10_noon 52 = .ok (.aload_n 0, 1) := by decide +kernel
theorem dX10_noon_53 : decode cX10_noon 53 = .ok (.getfield 19, 3) := by decide +kernel
theorem dX10_noon_56 : decode cX10_noon 56 = .ok (.aload_n 1, 1) := by decide +kernel
theorem dX10_noon_57 : decode cX10_noon 57 = .ok (.aload_n 0, 1) := by decide +kernel
theorem dX10_noon_58 : decode cX10_noon 58 = .ok (.getfield 54, 3) := by decide +kernel
theorem dX10_noon_61 : decode cX10_noon 61 = .ok (.invokevirtual 272, 3) := by decide +kernel
theorem dX10_noon_64 : decode cX10_noon 64 = .ok (.ifCond .ne 5, 3) := by decide +kernel
theorem dX10_noon_67 : decode cX10_noon 67 = .ok (.iconst (-1), 1) := by decide +kernel
theorem dX10_noon_68 : decode cX10_noon 68 = .ok (.ireturn, 1) := by decide +kernel
theorem dX10_noon_69 : decode cX10_noon 69 = .ok (.aload_n 0, 1) := by decide +kernel
theorem dX10_noon_70 : decode cX10_noon 70 = .ok (.getfield 43, 3) := by decide +kernel
theorem dX10_noon_73 : decode cX10_noon 73 = .ok (.getfield 276, 3) := by decide +kernel
theorem dX10_noon_76 : decode cX10_noon 76 = .ok (.iconst 0, 1) := by decide +kernel
theorem dX10_noon_77 : decode cX10_noon 77 = .ok (.aload_n 0, 1) := by decide +kernel
theorem dX10_noon_78 : decode cX10_noon 78 = .ok (.getfield 47, 3) := by decide +kernel
theorem dX10_noon_81 : decode cX10_noon 81 = .ok (.iconst 0, 1) := by decide +kernel
theorem dX10_noon_82 : decode cX10_noon 82 = .ok (.bipush 6, 2) := by decide +kernel
theorem dX10_noon_84 : decode cX10_noon 84 = .ok (.invokestatic 279, 3) := by decide +kernel
theorem dX10_noon_87 : decode cX10_noon 87 = .ok (.aload_n 0, 1) := by decide +kernel
theorem dX10_noon_88 : decode cX10_noon 88 = .ok (.iconst 1, 1) := by decide +kernel
theorem dX10_noon_89 : decode cX10_noon 89 = .ok (.putfield 103, 3) := by decide +kernel
theorem dX10_noon_92 : decode cX10_noon 92 = .ok (.aload_n 0, 1) := by decide +kernel
theorem dX10_noon_93 : decode cX10_noon 93 = .ok (.getfield 43, 3) := by decide +kernel
theorem dX10_noon_96 : decode cX10_noon 96 = .ok (.getfield 285, 3) := by decide +kernel
theorem dX10_noon_99 : decode cX10_noon 99 = .ok (.ireturn, 1) := by decide +kernel
set_option maxRecDepth 100000 in
set_option maxHeartbeats 4000000 in
theorem k_X10_noon {G : am_G} (hK : k_OK G) {d : Nat} (hd : 10 ≤ d) {sh : List (Nat ⊕ (Nat × Nat))} {I : Nat → Nat → Int32} {R : Nat → Nat → Option Nat} {L : Nat → Nat → Int64} {g : Nat} (hXS : k_XS G) {t : Nat} (hM : k_Main sh R) (hRt : R 0 1 = some t) (ht3 : t = 3 ∨ t = 22) {n m : Nat} (hn : I t 0 = nI n) (hn8 : n ≤ 8) (hm : I (t + 8) 0 = nI m) (hm6 : m ≤ 6) {a9 b9 : Nat} (ha9 : I 47 1 = nI a9) (ha30 : a9 ≤ 30) (hb9 : I t 3 = nI b9) (hb30 : b9 ≤ 30) : AM G mX10_noon d [.ref 0] (sh, I, R, L, g) (fun v w => (¬ f_bc (f_ub (I 49) m) ≤ 5 ∧ v = some (.int (-2)) ∧ w = (sh, I, R, L, g)) ∨ (f_bc (f_ub (I 49) m) ≤ 5 ∧ (¬ f_bc (f_ub (I 49) m) ≤ 0 ∧ ¬ I 47 0 ≤ 0) ∧ v = some (.int (-1)) ∧ w = (sh, I, R, L, g)) ∨ (f_bc (f_ub (I 49) m) ≤ 5 ∧ ¬ (¬ f_bc (f_ub (I 49) m) ≤ 0 ∧ ¬ I 47 0 ≤ 0) ∧ ∃ I2 J, k_sea (f_look I 90 t 47 n m) I2 J 79 t 47 90 n m a9 b9 ∧ ((J 79 1 = 1000000 ∧ v = some (.int (-1)) ∧ w = (sh, J, R, L, g)) ∨ (¬ J 79 1 = 1000000 ∧ v = some (.int (J 79 1)) ∧ w = (sh, am_up (am_uA J 89 (f_cp 6 (J 80) (J 89))) 0 9 1, R, L, g))))) (fun _ _ => False) := by
  have hG := hK.1
  have ht : k_Town sh R t := by rcases ht3 with rfl | rfl; exact kM_3 hM; exact kM_22 hM
  have o41 := kM_41 hM
  have o42 := kM_42 hM
  have o43 := kM_43 hM
  have o47 := kM_47 hM
  have o60 := kM_60 hM
  have o90 := kM_90 hM
  have o93 := kM_93 hM
  have o97 := kM_97 hM
  have o79 := kM_79 hM
  have o1 := kM_1 hM
  refine AM.of (n := 2) (by decide +kernel) (Nat.le_of_ble_eq_true rfl) ?_
  show AW G mX10_noon d (fun v w => (¬ f_bc (f_ub (I 49) m) ≤ 5 ∧ v = some (.int (-2)) ∧ w = (sh, I, R, L, g)) ∨ (f_bc (f_ub (I 49) m) ≤ 5 ∧ (¬ f_bc (f_ub (I 49) m) ≤ 0 ∧ ¬ I 47 0 ≤ 0) ∧ v = some (.int (-1)) ∧ w = (sh, I, R, L, g)) ∨ (f_bc (f_ub (I 49) m) ≤ 5 ∧ ¬ (¬ f_bc (f_ub (I 49) m) ≤ 0 ∧ ¬ I 47 0 ≤ 0) ∧ ∃ I2 J, k_sea (f_look I 90 t 47 n m) I2 J 79 t 47 90 n m a9 b9 ∧ ((J 79 1 = 1000000 ∧ v = some (.int (-1)) ∧ w = (sh, J, R, L, g)) ∨ (¬ J 79 1 = 1000000 ∧ v = some (.int (J 79 1)) ∧ w = (sh, am_up (am_uA J 89 (f_cp 6 (J 80) (J 89))) 0 9 1, R, L, g))))) (fun _ _ => False) 0 [some (.ref 0), none, none] [] (sh, I, R, L, g) 0 0
  refine AW.aload_n dX10_noon_0 rfl ?_
  refine AW.getR (c' := 41) (fX10_33 hG).r rfl (hM.1 0 _ rfl) (hM.2 (0, 4, 41) (by decide)) dX10_noon_1 ?_
  refine AW.getR (c' := 42) (fX10_110 hG) rfl (o41.1 0 _ rfl) (o41.2 (0, 0, 1) (by decide)) dX10_noon_4 ?_
  refine AW.getR (c' := 47) (fX10_114 hG) rfl (o42.1 0 _ rfl) (o42.2 (0, 1, 5) (by decide)) dX10_noon_7 ?_
  refine AW.as_n [some (.ref 0), some (.ref 47), none] dX10_noon_10 (by decide) rfl rfl ?_
  refine AW.aload_n dX10_noon_11 rfl ?_
  refine AW.aload_n dX10_noon_12 rfl ?_
  refine AW.getR (fX10_19 hG).r rfl (hM.1 0 _ rfl) hRt dX10_noon_13 ?_
  refine AW.getR (c' := (t + 8)) (fX10_122 hG) rfl (ht.1 0 _ rfl) (ht.2 (0, 11, 8) (by decide)) dX10_noon_16 ?_
  refine AW.callV (b := 47) (As := [.ref (t + 8)]) hG.2.2 (vX10_143 hG) (o47.1 0 _ rfl) (k_X2_uncut hK (d := 1) (Nat.le_refl _) o47 (k_sub_Town_8 ht) (by first | assumption) (by first | assumption)) (by omega) dX10_noon_19 rfl rfl (Nat.le_of_ble_eq_true rfl) (fun v w9 hq9 h09 => by obtain ⟨rfl, rfl⟩ := hq9; exact ⟨h09, rfl⟩) (by decide) (by decide) (fun _ _ hx => hx) (fun v19 w19 hq19 => ?_)
  obtain ⟨rfl, rfl⟩ := hq19
  refine AW.nam (fun x19 ex19 => ?_)
  refine AW.is_n [some (.ref 0), some (.ref 47), some (.int x19)] dX10_noon_22 (by decide) rfl rfl ?_
  refine AW.iload_n dX10_noon_23 rfl ?_
  refine AW.iconst 5 dX10_noon_24 (by decide) ?_
  refine AW.icmp_le 31 dX10_noon_25 (by decide) (fun h25 => ?_) (fun h25 => ?_)
  · rw [ex19] at h25
    refine AW.iload_n dX10_noon_31 rfl ?_
    refine AW.if_le 44 dX10_noon_32 (by decide) (fun h32 => ?_) (fun h32 => ?_)
    · rw [ex19] at h32
      refine AW.aload_n dX10_noon_44 rfl ?_
      refine AW.callV (b := 0) (As := []) hG.2.2 (vX10_147 hG) (hM.1 0 _ rfl) (k_X10_lookAround hK (d := 3) (Nat.le_refl _) hXS hM hRt ht3 (by assumption) (by assumption) (by assumption) (by assumption)) (by omega) dX10_noon_45 rfl rfl (Nat.le_of_ble_eq_true rfl) (fun v w9 hq9 h09 => by obtain ⟨rfl, rfl⟩ := hq9; exact ⟨h09, rfl⟩) (by decide) (by decide) (fun _ _ hx => hx) (fun v45 w45 hq45 => ?_)
      obtain ⟨rfl, rfl⟩ := hq45
      refine AW.namI (fun I45 eI45 => ?_)
      show AW G mX10_noon d (fun v w => (¬ f_bc (f_ub (I 49) m) ≤ 5 ∧ v = some (.int (-2)) ∧ w = (sh, I, R, L, g)) ∨ (f_bc (f_ub (I 49) m) ≤ 5 ∧ (¬ f_bc (f_ub (I 49) m) ≤ 0 ∧ ¬ I 47 0 ≤ 0) ∧ v = some (.int (-1)) ∧ w = (sh, I, R, L, g)) ∨ (f_bc (f_ub (I 49) m) ≤ 5 ∧ ¬ (¬ f_bc (f_ub (I 49) m) ≤ 0 ∧ ¬ I 47 0 ≤ 0) ∧ ∃ I2 J, k_sea (f_look I 90 t 47 n m) I2 J 79 t 47 90 n m a9 b9 ∧ ((J 79 1 = 1000000 ∧ v = some (.int (-1)) ∧ w = (sh, J, R, L, g)) ∨ (¬ J 79 1 = 1000000 ∧ v = some (.int (J 79 1)) ∧ w = (sh, am_up (am_uA J 89 (f_cp 6 (J 80) (J 89))) 0 9 1, R, L, g))))) (fun _ _ => False) 48 [some (.ref 0), some (.ref 47), some (.int x19)] [] (sh, I45, R, L, g) 0 0
      have h45n : I45 t 0 = nI n := by rw [eI45, f_look_K _ _ _ _ (by omega) (by omega)]; exact hn
      have h45m : I45 (t + 8) 0 = nI m := by rw [eI45, f_look_K _ _ _ _ (by omega) (by omega)]; exact hm
      have h45a : I45 47 1 = nI a9 := by rw [eI45, f_look_K _ _ _ _ (by omega) (by omega)]; exact ha9
      have h45b : I45 t 3 = nI b9 := by rw [eI45, f_look_K _ _ _ _ (by omega) (by omega)]; exact hb9
      refine AW.aload_n dX10_noon_48 rfl ?_
      refine AW.getR (c' := 79) (fX10_43 hG).r rfl (hM.1 0 _ rfl) (hM.2 (0, 7, 79) (by decide)) dX10_noon_49 ?_
      refine AW.aload_n dX10_noon_52 rfl ?_
      refine AW.getR (fX10_19 hG).r rfl (hM.1 0 _ rfl) hRt dX10_noon_53 ?_
      refine AW.aload_n dX10_noon_56 rfl ?_
      refine AW.aload_n dX10_noon_57 rfl ?_
      refine AW.getR (c' := 90) (fX10_54 hG).r rfl (hM.1 0 _ rfl) (hM.2 (0, 10, 90) (by decide)) dX10_noon_58 ?_
      refine AW.callV (b := 79) (As := [.ref t, .ref 47, .ref 90]) hG.2.2 (vX10_272 hG) (o79.1 0 _ rfl) (k_X0_search hK (d := 8) (Nat.le_refl _) o79 ht o47 o90 (by omega) (by omega) (by omega) (by assumption) (by omega) (by assumption) (by omega) (by assumption) (by assumption) (by assumption) (by assumption)) (by omega) dX10_noon_61 rfl rfl (Nat.le_of_ble_eq_true rfl) (fun v w9 hq9 h09 => by obtain ⟨I2, J9, rfl, rfl, -⟩ := hq9; exact ⟨h09, rfl⟩) (by decide) (by decide) (fun _ _ hx => hx) (fun v61 w61 hq61 => ?_)
      obtain ⟨I2_61, I61, rfl, rfl, hse61⟩ := hq61
      refine AW.nam (fun x61 ex61 => ?_)
      rw [eI45] at hse61
      refine AW.if_ne 69 dX10_noon_64 (by decide) (fun h64 => ?_) (fun h64 => ?_)
      · rw [ex61] at h64
        have q64 : ¬ I61 79 1 = 1000000 := by simpa using kb_1.mp h64
        refine AW.aload_n dX10_noon_69 rfl ?_
        refine AW.getR (c' := 79) (fX10_43 hG).r rfl (hM.1 0 _ rfl) (hM.2 (0, 7, 79) (by decide)) dX10_noon_70 ?_
        refine AW.getR (c' := 80) (fX10_276 hG) rfl (o79.1 0 _ rfl) (o79.2 (0, 0, 1) (by decide)) dX10_noon_73 ?_
        refine AW.iconst 0 dX10_noon_76 (by decide) ?_
        refine AW.aload_n dX10_noon_77 rfl ?_
        refine AW.getR (c' := 89) (fX10_47 hG).r rfl (hM.1 0 _ rfl) (hM.2 (0, 8, 89) (by decide)) dX10_noon_78 ?_
        refine AW.iconst 0 dX10_noon_81 (by decide) ?_
        refine AW.bipush 6 dX10_noon_82 (by decide) ?_
        refine AW.copy (k_c hG 789 (by decide +kernel) (by decide +kernel)) (k_copy hG) dX10_noon_84 (by omega) (Nat.le_of_ble_eq_true rfl) (o79.1 1 _ rfl) (hM.1 89 _ rfl) (by decide) (by decide) (by decide) (by decide) (by decide) ?_
        refine AW.namI (fun I84 eI84 => ?_)
        refine AW.aload_n dX10_noon_87 rfl ?_
        refine AW.iconst 1 dX10_noon_88 (by decide) ?_
        refine AW.putI (fX10_103 hG) rfl (by decide) (by decide) (hM.1 0 _ rfl) dX10_noon_89 ?_
        refine AW.namI (fun I89 eI89 => ?_)
        refine AW.aload_n dX10_noon_92 rfl ?_
        refine AW.getR (c' := 79) (fX10_43 hG).r rfl (hM.1 0 _ rfl) (hM.2 (0, 7, 79) (by decide)) dX10_noon_93 ?_
        refine AW.getI (fX10_285 hG).r rfl (o79.1 0 _ rfl) dX10_noon_96 ?_
        exact AW.iret dX10_noon_99 rfl (by decide) (by decide) (Or.inr (Or.inr ⟨h25, (fun h => h.1 h32), I2_61, I61, hse61, Or.inr ⟨q64, by rw [eI89, am_up_o _ _ _ _ (by omega), eI84, am_uA_o _ _ _ (by omega)], by rw [eI89, eI84]; rfl⟩⟩))
      · rw [ex61] at h64
        have q64 : I61 79 1 = 1000000 := by simpa using kb_0.mp h64
        refine AW.iconst (-1) dX10_noon_67 (by decide) ?_
        exact AW.iret dX10_noon_68 rfl (by decide) (by decide) (Or.inr (Or.inr ⟨h25, (fun h => h.1 h32), I2_61, I61, hse61, Or.inl ⟨q64, rfl, rfl⟩⟩))
    · rw [ex19] at h32
      refine AW.aload_n dX10_noon_35 rfl ?_
      refine AW.getI (fX10_137 hG).r rfl (o47.1 0 _ rfl) dX10_noon_36 ?_
      refine AW.if_le 44 dX10_noon_39 (by decide) (fun h39 => ?_) (fun h39 => ?_)
      · refine AW.aload_n dX10_noon_44 rfl ?_
        refine AW.callV (b := 0) (As := []) hG.2.2 (vX10_147 hG) (hM.1 0 _ rfl) (k_X10_lookAround hK (d := 3) (Nat.le_refl _) hXS hM hRt ht3 (by assumption) (by assumption) (by assumption) (by assumption)) (by omega) dX10_noon_45 rfl rfl (Nat.le_of_ble_eq_true rfl) (fun v w9 hq9 h09 => by obtain ⟨rfl, rfl⟩ := hq9; exact ⟨h09, rfl⟩) (by decide) (by decide) (fun _ _ hx => hx) (fun v45 w45 hq45 => ?_)
        obtain ⟨rfl, rfl⟩ := hq45
        refine AW.namI (fun I45 eI45 => ?_)
        show AW G mX10_noon d (fun v w => (¬ f_bc (f_ub (I 49) m) ≤ 5 ∧ v = some (.int (-2)) ∧ w = (sh, I, R, L, g)) ∨ (f_bc (f_ub (I 49) m) ≤ 5 ∧ (¬ f_bc (f_ub (I 49) m) ≤ 0 ∧ ¬ I 47 0 ≤ 0) ∧ v = some (.int (-1)) ∧ w = (sh, I, R, L, g)) ∨ (f_bc (f_ub (I 49) m) ≤ 5 ∧ ¬ (¬ f_bc (f_ub (I 49) m) ≤ 0 ∧ ¬ I 47 0 ≤ 0) ∧ ∃ I2 J, k_sea (f_look I 90 t 47 n m) I2 J 79 t 47 90 n m a9 b9 ∧ ((J 79 1 = 1000000 ∧ v = some (.int (-1)) ∧ w = (sh, J, R, L, g)) ∨ (¬ J 79 1 = 1000000 ∧ v = some (.int (J 79 1)) ∧ w = (sh, am_up (am_uA J 89 (f_cp 6 (J 80) (J 89))) 0 9 1, R, L, g))))) (fun _ _ => False) 48 [some (.ref 0), some (.ref 47), some (.int x19)] [] (sh, I45, R, L, g) 0 0
        have h45n : I45 t 0 = nI n := by rw [eI45, f_look_K _ _ _ _ (by omega) (by omega)]; exact hn
        have h45m : I45 (t + 8) 0 = nI m := by rw [eI45, f_look_K _ _ _ _ (by omega) (by omega)]; exact hm
        have h45a : I45 47 1 = nI a9 := by rw [eI45, f_look_K _ _ _ _ (by omega) (by omega)]; exact ha9
        have h45b : I45 t 3 = nI b9 := by rw [eI45, f_look_K _ _ _ _ (by omega) (by omega)]; exact hb9
        refine AW.aload_n dX10_noon_48 rfl ?_
        refine AW.getR (c' := 79) (fX10_43 hG).r rfl (hM.1 0 _ rfl) (hM.2 (0, 7, 79) (by decide)) dX10_noon_49 ?_
        refine AW.aload_n dX10_noon_52 rfl ?_
        refine AW.getR (fX10_19 hG).r rfl (hM.1 0 _ rfl) hRt dX10_noon_53 ?_
        refine AW.aload_n dX10_noon_56 rfl ?_
        refine AW.aload_n dX10_noon_57 rfl ?_
        refine AW.getR (c' := 90) (fX10_54 hG).r rfl (hM.1 0 _ rfl) (hM.2 (0, 10, 90) (by decide)) dX10_noon_58 ?_
        refine AW.callV (b := 79) (As := [.ref t, .ref 47, .ref 90]) hG.2.2 (vX10_272 hG) (o79.1 0 _ rfl) (k_X0_search hK (d := 8) (Nat.le_refl _) o79 ht o47 o90 (by omega) (by omega) (by omega) (by assumption) (by omega) (by assumption) (by omega) (by assumption) (by assumption) (by assumption) (by assumption)) (by omega) dX10_noon_61 rfl rfl (Nat.le_of_ble_eq_true rfl) (fun v w9 hq9 h09 => by obtain ⟨I2, J9, rfl, rfl, -⟩ := hq9; exact ⟨h09, rfl⟩) (by decide) (by decide) (fun _ _ hx => hx) (fun v61 w61 hq61 => ?_)
        obtain ⟨I2_61, I61, rfl, rfl, hse61⟩ := hq61
        refine AW.nam (fun x61 ex61 => ?_)
        rw [eI45] at hse61
        refine AW.if_ne 69 dX10_noon_64 (by decide) (fun h64 => ?_) (fun h64 => ?_)
        · rw [ex61] at h64
          have q64 : ¬ I61 79 1 = 1000000 := by simpa using kb_1.mp h64
          refine AW.aload_n dX10_noon_69 rfl ?_
          refine AW.getR (c' := 79) (fX10_43 hG).r rfl (hM.1 0 _ rfl) (hM.2 (0, 7, 79) (by decide)) dX10_noon_70 ?_
          refine AW.getR (c' := 80) (fX10_276 hG) rfl (o79.1 0 _ rfl) (o79.2 (0, 0, 1) (by decide)) dX10_noon_73 ?_
          refine AW.iconst 0 dX10_noon_76 (by decide) ?_
          refine AW.aload_n dX10_noon_77 rfl ?_
          refine AW.getR (c' := 89) (fX10_47 hG).r rfl (hM.1 0 _ rfl) (hM.2 (0, 8, 89) (by decide)) dX10_noon_78 ?_
          refine AW.iconst 0 dX10_noon_81 (by decide) ?_
          refine AW.bipush 6 dX10_noon_82 (by decide) ?_
          refine AW.copy (k_c hG 789 (by decide +kernel) (by decide +kernel)) (k_copy hG) dX10_noon_84 (by omega) (Nat.le_of_ble_eq_true rfl) (o79.1 1 _ rfl) (hM.1 89 _ rfl) (by decide) (by decide) (by decide) (by decide) (by decide) ?_
          refine AW.namI (fun I84 eI84 => ?_)
          refine AW.aload_n dX10_noon_87 rfl ?_
          refine AW.iconst 1 dX10_noon_88 (by decide) ?_
          refine AW.putI (fX10_103 hG) rfl (by decide) (by decide) (hM.1 0 _ rfl) dX10_noon_89 ?_
          refine AW.namI (fun I89 eI89 => ?_)
          refine AW.aload_n dX10_noon_92 rfl ?_
          refine AW.getR (c' := 79) (fX10_43 hG).r rfl (hM.1 0 _ rfl) (hM.2 (0, 7, 79) (by decide)) dX10_noon_93 ?_
          refine AW.getI (fX10_285 hG).r rfl (o79.1 0 _ rfl) dX10_noon_96 ?_
          exact AW.iret dX10_noon_99 rfl (by decide) (by decide) (Or.inr (Or.inr ⟨h25, (fun h => h.2 h39), I2_61, I61, hse61, Or.inr ⟨q64, by rw [eI89, am_up_o _ _ _ _ (by omega), eI84, am_uA_o _ _ _ (by omega)], by rw [eI89, eI84]; rfl⟩⟩))
        · rw [ex61] at h64
          have q64 : I61 79 1 = 1000000 := by simpa using kb_0.mp h64
          refine AW.iconst (-1) dX10_noon_67 (by decide) ?_
          exact AW.iret dX10_noon_68 rfl (by decide) (by decide) (Or.inr (Or.inr ⟨h25, (fun h => h.2 h39), I2_61, I61, hse61, Or.inl ⟨q64, rfl, rfl⟩⟩))
      · refine AW.iconst (-1) dX10_noon_42 (by decide) ?_
        exact AW.iret dX10_noon_43 rfl (by decide) (by decide) (Or.inr (Or.inl ⟨h25, ⟨h32, h39⟩, rfl, rfl⟩))
  · rw [ex19] at h25
    refine AW.bipush (-2) dX10_noon_28 (by decide) ?_
    exact AW.iret dX10_noon_30 rfl (by decide) (by decide) (Or.inl ⟨h25, rfl, rfl⟩)
