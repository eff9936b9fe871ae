/-! CARRIER, SECOND HALF -/
/-- the loaves that are open: how many, which, until when -/
def f_co1 (ct ba fr : Nat → Int32) (no : Int32) (l : Nat) (s : Nat × (Nat → Int32) × (Nat → Int32)) : Nat × (Nat → Int32) × (Nat → Int32) := if ct l = -1 ∧ s.1 < 5 then (s.1 + 1, upd s.2.1 s.1 (nI l), upd s.2.2 s.1 (if ba l + fr l < no then ba l + fr l else no)) else s
def f_co (ct ba fr : Nat → Int32) (no : Int32) (s0 : Nat × (Nat → Int32) × (Nat → Int32)) (m : Nat) : Nat × (Nat → Int32) × (Nat → Int32) := lfold (fun l s => f_co1 ct ba fr no l s) s0 m
theorem f_co_5 (ct ba fr : Nat → Int32) (no : Int32) (s0 : Nat × (Nat → Int32) × (Nat → Int32)) (h0 : s0.1 ≤ 5) (m : Nat) : (f_co ct ba fr no s0 m).1 ≤ 5 := by
  induction m with
  | zero => exact h0
  | succ m ih =>
    show (f_co1 ct ba fr no m (f_co ct ba fr no s0 m)).1 ≤ 5
    unfold f_co1
    split
    · rename_i h; show _ + 1 ≤ 5; omega
    · exact ih
theorem f_co_l (ct ba fr : Nat → Int32) (no : Int32) (s0 : Nat × (Nat → Int32) × (Nat → Int32)) (h0 : s0.1 = 0) (m : Nat) : ∀ k, k < (f_co ct ba fr no s0 m).1 → ∃ l, l < m ∧ (f_co ct ba fr no s0 m).2.1 k = nI l := by
  induction m with
  | zero => intro k hk; exact absurd hk (by show ¬ k < s0.1; omega)
  | succ m ih =>
    show ∀ k, k < (f_co1 ct ba fr no m (f_co ct ba fr no s0 m)).1 → ∃ l, l < m + 1 ∧ (f_co1 ct ba fr no m (f_co ct ba fr no s0 m)).2.1 k = nI l
    unfold f_co1
    split
    · intro k hk
      by_cases e : k = (f_co ct ba fr no s0 m).1
      · exact ⟨m, by omega, by show upd _ _ _ k = _; unfold upd; rw [if_pos e]⟩
      · obtain ⟨l, hl, h⟩ := ih k (by have : k < (f_co ct ba fr no s0 m).1 + 1 := hk; omega)
        exact ⟨l, by omega, by show upd _ _ _ k = _; unfold upd; rw [if_neg e]; exact h⟩
    · intro k hk
      obtain ⟨l, hl, h⟩ := ih k hk
      exact ⟨l, by omega, h⟩
theorem k_uu (f : Nat → Int32) (k : Nat) (x y : Int32) : upd (upd f k x) k y = upd f k y := by funext j; unfold upd; by_cases h : j = k <;> simp [h]
theorem dX0_collectOpen_0 : decode cX0_collectOpen 0 = .ok (.aload_n 1, 1) := by decide +kernel
theorem dX0_collectOpen_1 : decode cX0_collectOpen 1 = .ok (.getfield 79, 3) := by decide +kernel
theorem dX0_collectOpen_4 : decode cX0_collectOpen 4 = .ok (.astore_n 3, 1) := by decide +kernel
theorem dX0_collectOpen_5 : decode cX0_collectOpen 5 = .ok (.aload_n 0, 1) := by decide +kernel
theorem dX0_collectOpen_6 : decode cX0_collectOpen 6 = .ok (.iconst 0, 1) := by decide +kernel
theorem dX0_collectOpen_7 : decode cX0_collectOpen 7 = .ok (.putfield 83, 3) := by decide +kernel
theorem dX0_collectOpen_10 : decode cX0_collectOpen 10 = .ok (.iconst 0, 1) := by decide +kernel
theorem dX0_collectOpen_11 : decode cX0_collectOpen 11 = .ok (.istore 4, 2) := by decide +kernel
theorem dX0_collectOpen_13 : decode cX0_collectOpen 13 = .ok (.iload 4, 2) := by decide +kernel
theorem dX0_collectOpen_15 : decode cX0_collectOpen 15 = .ok (.aload_n 3, 1) := by decide +kernel
theorem dX0_collectOpen_16 : decode cX0_collectOpen 16 = .ok (.getfield 86, 3) := by decide +kernel
theorem dX0_collectOpen_19 : decode cX0_collectOpen 19 = .ok (.if_icmp .ge 80, 3) := by decide +kernel
theorem dX0_collectOpen_22 : decode cX0_collectOpen 22 = .ok (.aload_n 2, 1) := by decide +kernel
theorem dX0_collectOpen_23 : decode cX0_collectOpen 23 = .ok (.getfield 91, 3) := by decide +kernel
theorem dX0_collectOpen_26 : decode cX0_collectOpen 26 = .ok (.iload 4, 2) := by decide +kernel
theorem dX0_collectOpen_28 : decode cX0_collectOpen 28 = .ok (.iaload, 1) := by decide +kernel
theorem dX0_collectOpen_29 : decode cX0_collectOpen 29 = .ok (.iconst (-1), 1) := by decide +kernel
theorem dX0_collectOpen_30 : decode cX0_collectOpen 30 = .ok (.if_icmp .ne 63, 3) := by decide +kernel
theorem dX0_collectOpen_33 : decode cX0_collectOpen 33 = .ok (.aload_n 0, 1) := by decide +kernel
theorem dX0_collectOpen_34 : decode cX0_collectOpen 34 = .ok (.getfield 83, 3) := by decide +kernel
theorem dX0_collectOpen_37 : decode cX0_collectOpen 37 = .ok (.iconst 5, 1) := by decide +kernel
theorem dX0_collectOpen_38 : decode cX0_collectOpen 38 = .ok (.if_icmp .ge 55, 3) := by decide +kernel
theorem dX0_collectOpen_41 : decode cX0_collectOpen 41 = .ok (.aload_n 0, 1) := by decide +kernel
theorem dX0_collectOpen_42 : decode cX0_collectOpen 42 = .ok (.getfield 15, 3) := by decide +kernel
theorem dX0_collectOpen_45 : decode cX0_collectOpen 45 = .ok (.aload_n 0, 1) := by decide +kernel
theorem dX0_collectOpen_46 : decode cX0_collectOpen 46 = .ok (.getfield 83, 3) := by decide +kernel
theorem dX0_collectOpen_49 : decode cX0_collectOpen 49 = .ok (.iload 4, 2) := by decide +kernel
theorem dX0_collectOpen_51 : decode cX0_collectOpen 51 = .ok (.iastore, 1) := by decide +kernel
theorem dX0_collectOpen_52 : decode cX0_collectOpen 52 = .ok (.aload_n 0, 1) := by decide +kernel
theorem dX0_collectOpen_53 : decode cX0_collectOpen 53 = .ok (.getfield 18, 3) := by decide +kernel
theorem dX0_collectOpen_56 : decode cX0_collectOpen 56 = .ok (.aload_n 0, 1) := by decide +kernel
theorem dX0_collectOpen_57 : decode cX0_collectOpen 57 = .ok (.getfield 83, 3) := by decide +kernel
theorem dX0_collectOpen_60 : decode cX0_collectOpen 60 = .ok (.aload_n 1, 1) := by decide +kernel
theorem dX0_collectOpen_61 : decode cX0_collectOpen 61 = .ok (.getfield 60, 3) := by decide +kernel
theorem dX0_collectOpen_64 : decode cX0_collectOpen 64 = .ok (.aload_n 3, 1) := by decide +kernel
theorem dX0_collectOpen_65 : decode cX0_collectOpen 65 = .ok (.getfield 94, 3) := by decide +kernel
theorem dX0_collectOpen_68 : decode cX0_collectOpen 68 = .ok (.iload 4, 2) := by decide +kernel
theorem dX0_collectOpen_70 : decode cX0_collectOpen 70 = .ok (.iaload, 1) := by decide +kernel
theorem dX0_collectOpen_71 : decode cX0_collectOpen 71 = .ok (.aload_n 3, 1) := by decide +kernel
theorem dX0_collectOpen_72 : decode cX0_collectOpen 72 = .ok (.getfield 97, 3) := by decide +kernel
theorem dX0_collectOpen_75 : decode cX0_collectOpen 75 = .ok (.iload 4, 2) := by decide +kernel
theorem dX0_collectOpen_77 : decode cX0_collectOpen 77 = .ok (.iaload, 1) := by decide +kernel
theorem dX0_collectOpen_78 : decode cX0_collectOpen 78 = .ok (.iadd, 1) := by decide +kernel
theorem dX0_collectOpen_79 : decode cX0_collectOpen 79 = .ok (.invokestatic 100, 3) := by decide +kernel
theorem dX0_collectOpen_82 : decode cX0_collectOpen 82 = .ok (.iastore, 1) := by decide +kernel
theorem dX0_collectOpen_83 : decode cX0_collectOpen 83 = .ok (.aload_n 0, 1) := by decide +kernel
theorem dX0_collectOpen_84 : decode cX0_collectOpen 84 = .ok (.dup, 1) := by decide +kernel
theorem dX0_collectOpen_85 : decode cX0_collectOpen 85 = .ok (.getfield 83, 3) := by decide +kernel
theorem dX0_collectOpen_88 : decode cX0_collectOpen 88 = .ok (.iconst 1, 1) := by decide +kernel
theorem dX0_collectOpen_89 : decode cX0_collectOpen 89 = .ok (.iadd, 1) := by decide +kernel
theorem dX0_collectOpen_90 : decode cX0_collectOpen 90 = .ok (.putfield 83, 3) := by decide +kernel
theorem dX0_collectOpen_93 : decode cX0_collectOpen 93 = .ok (.iinc 4 1, 3) := by decide +kernel
theorem dX0_collectOpen_96 : decode cX0_collectOpen 96 = .ok (.goto (-83), 3) := by decide +kernel
theorem dX0_collectOpen_99 : decode cX0_collectOpen 99 = .ok (.return_, 1) := by decide +kernel
set_option maxRecDepth 100000 in
set_option maxHeartbeats 4000000 in
theorem k_X0_collectOpen {G : am_G} (hK : k_OK G) {d : Nat} (hd : 1 ≤ d) {sh : List (Nat ⊕ (Nat × Nat))} {I : Nat → Nat → Int32} {R : Nat → Nat → Option Nat} {L : Nat → Nat → Int64} {g : Nat} {q t b m : Nat} (hq : k_Carrier sh R q) (ht : k_Town sh R t) (hb : k_Days sh R b) (haq : q + 10 ≤ t ∨ t + 19 ≤ q) (hbq : q + 10 ≤ b ∨ b + 4 ≤ q) (hm : I (t + 8) 0 = nI m) (hm6 : m ≤ 6) : AM G mX0_collectOpen d [.ref q, .ref t, .ref b] (sh, I, R, L, g) (fun v w => v = none ∧ ∃ J, w = (sh, J, R, L, g) ∧ J q = upd (I q) 3 (nI (f_co (I (b + 2)) (I (t + 11)) (I (t + 12)) (I t 3) (0, I (q + 2), I (q + 3)) m).1) ∧ J (q + 2) = (f_co (I (b + 2)) (I (t + 11)) (I (t + 12)) (I t 3) (0, I (q + 2), I (q + 3)) m).2.1 ∧ J (q + 3) = (f_co (I (b + 2)) (I (t + 11)) (I (t + 12)) (I t 3) (0, I (q + 2), I (q + 3)) m).2.2 ∧ ∀ a, a ≠ q → a ≠ q + 2 → a ≠ q + 3 → J a = I a) (fun _ _ => False) := by
  have hG := hK.1
  refine AM.of (n := 2) (by decide +kernel) (Nat.le_of_ble_eq_true rfl) ?_
  show AW G mX0_collectOpen d (fun v w => v = none ∧ ∃ J, w = (sh, J, R, L, g) ∧ J q = upd (I q) 3 (nI (f_co (I (b + 2)) (I (t + 11)) (I (t + 12)) (I t 3) (0, I (q + 2), I (q + 3)) m).1) ∧ J (q + 2) = (f_co (I (b + 2)) (I (t + 11)) (I (t + 12)) (I t 3) (0, I (q + 2), I (q + 3)) m).2.1 ∧ J (q + 3) = (f_co (I (b + 2)) (I (t + 11)) (I (t + 12)) (I t 3) (0, I (q + 2), I (q + 3)) m).2.2 ∧ ∀ a, a ≠ q → a ≠ q + 2 → a ≠ q + 3 → J a = I a) (fun _ _ => False) 0 [some (.ref q), some (.ref t), some (.ref b), none, none] [] (sh, I, R, L, g) 0 0
  refine AW.aload_n dX0_collectOpen_0 rfl ?_
  refine AW.getR (c' := (t + 8)) (fX0_79 hG) rfl (ht.1 0 _ rfl) (ht.2 (0, 11, 8) (by decide)) dX0_collectOpen_1 ?_
  refine AW.as_n [some (.ref q), some (.ref t), some (.ref b), some (.ref (t + 8)), none] dX0_collectOpen_4 (by decide) rfl rfl ?_
  refine AW.aload_n dX0_collectOpen_5 rfl ?_
  refine AW.iconst 0 dX0_collectOpen_6 (by decide) ?_
  refine AW.putI (fX0_83 hG) rfl (vp_nar_int _) rfl (hq.1 0 _ rfl) dX0_collectOpen_7 ?_
  refine AW.namI (fun I7 eI7 => ?_)
  refine AW.iconst 0 dX0_collectOpen_10 (by decide) ?_
  refine AW.is [some (.ref q), some (.ref t), some (.ref b), some (.ref (t + 8)), some (.int 0)] dX0_collectOpen_11 (by decide) rfl rfl ?_
  have L13 : ∀ k13, k13 ≤ m → ∀ (x : Int32) (J : Nat → Nat → Int32), (x = nI k13 ∧ J q = upd (I q) 3 (nI (f_co (I (b + 2)) (I (t + 11)) (I (t + 12)) (I t 3) (0, I (q + 2), I (q + 3)) k13).1) ∧ J (q + 2) = (f_co (I (b + 2)) (I (t + 11)) (I (t + 12)) (I t 3) (0, I (q + 2), I (q + 3)) k13).2.1 ∧ J (q + 3) = (f_co (I (b + 2)) (I (t + 11)) (I (t + 12)) (I t 3) (0, I (q + 2), I (q + 3)) k13).2.2 ∧ ∀ a, a ≠ q → a ≠ q + 2 → a ≠ q + 3 → J a = I a) → AW G mX0_collectOpen d (fun v w => v = none ∧ ∃ J, w = (sh, J, R, L, g) ∧ J q = upd (I q) 3 (nI (f_co (I (b + 2)) (I (t + 11)) (I (t + 12)) (I t 3) (0, I (q + 2), I (q + 3)) m).1) ∧ J (q + 2) = (f_co (I (b + 2)) (I (t + 11)) (I (t + 12)) (I t 3) (0, I (q + 2), I (q + 3)) m).2.1 ∧ J (q + 3) = (f_co (I (b + 2)) (I (t + 11)) (I (t + 12)) (I t 3) (0, I (q + 2), I (q + 3)) m).2.2 ∧ ∀ a, a ≠ q → a ≠ q + 2 → a ≠ q + 3 → J a = I a) (fun _ _ => False) 13 [some (.ref q), some (.ref t), some (.ref b), some (.ref (t + 8)), some (.int x)] [] (sh, J, R, L, g) 0 0 := by
    refine am_rec m (fun k13 hk13 ih13 => ?_)
    intro x J hi13
    obtain ⟨hx, hJ0, hJ2, hJ3a, hJo⟩ := hi13
    have hJ3 : J q 3 = nI (f_co (I (b + 2)) (I (t + 11)) (I (t + 12)) (I t 3) (0, I (q + 2), I (q + 3)) k13).1 := by rw [hJ0]; exact pk_us
    have h5 := f_co_5 (I (b + 2)) (I (t + 11)) (I (t + 12)) (I t 3) (0, I (q + 2), I (q + 3)) (Nat.zero_le _) k13
    have hJm : J (t + 8) 0 = nI m := by rw [hJo (t + 8) (by omega) (by omega) (by omega)]; exact hm
    refine AW.iload dX0_collectOpen_13 rfl ?_
    refine AW.aload_n dX0_collectOpen_15 rfl ?_
    refine AW.getI (fX0_86 hG).r rfl (ht.1 8 _ rfl) dX0_collectOpen_16 ?_
    refine AW.icmp_ge 99 dX0_collectOpen_19 (by decide) (fun h19 => ?_) (fun h19 => ?_)
    · have hke := k_ge h19 hx hJm hk13 (by omega)
      rw [hke] at hJ0 hJ2 hJ3a
      exact AW.vret dX0_collectOpen_99 rfl (by decide) (by decide) (⟨rfl, J, rfl, hJ0, hJ2, hJ3a, hJo⟩)
    · have hlt := k_lt h19 hx hJm hk13 (by omega)
      have hbx : vp_in x 6 := by rw [hx]; exact vp_in_nI (by omega) (by decide)
      have hcx : x.toNatClampNeg = k13 := k_lit hx (by omega)
      refine AW.aload_n dX0_collectOpen_22 rfl ?_
      refine AW.getR (c' := (b + 2)) (fX0_91 hG) rfl (hb.1 0 _ rfl) (hb.2 (0, 3, 2) (by decide)) dX0_collectOpen_23 ?_
      refine AW.iload dX0_collectOpen_26 rfl ?_
      refine AW.iald (hb.1 2 _ rfl) (by first | assumption | (unfold vp_in; decide) | exact vp_in_nI (by omega) (by decide)) dX0_collectOpen_28 ?_
      refine AW.iconst (-1) dX0_collectOpen_29 (by decide) ?_
      refine AW.icmp_ne 93 dX0_collectOpen_30 (by decide) (fun h30 => ?_) (fun h30 => ?_)
      · rw [hcx, hJo (b + 2) (by omega) (by omega) (by omega)] at h30
        refine AW.inc (fun x93 => [some (.ref q), some (.ref t), some (.ref b), some (.ref (t + 8)), some (.int x93)]) dX0_collectOpen_93 rfl (by decide) rfl (fun _ => rfl) (fun x93 ex93 => ?_)
        refine AW.goto 13 dX0_collectOpen_96 (by decide) ?_
        exact ih13 (k13 + 1) (by omega) (by omega) _ _ (by
          have en : f_co1 (I (b + 2)) (I (t + 11)) (I (t + 12)) (I t 3) k13 (f_co (I (b + 2)) (I (t + 11)) (I (t + 12)) (I t 3) (0, I (q + 2), I (q + 3)) k13) = f_co (I (b + 2)) (I (t + 11)) (I (t + 12)) (I t 3) (0, I (q + 2), I (q + 3)) k13 := if_neg (fun hh => h30 hh.1)
          have en : f_co (I (b + 2)) (I (t + 11)) (I (t + 12)) (I t 3) (0, I (q + 2), I (q + 3)) (k13 + 1) = f_co (I (b + 2)) (I (t + 11)) (I (t + 12)) (I t 3) (0, I (q + 2), I (q + 3)) k13 := en
          exact ⟨k_inc (by assumption) hx, by rw [en]; exact hJ0, by rw [en]; exact hJ2, by rw [en]; exact hJ3a, hJo⟩)
      · rw [hcx, hJo (b + 2) (by omega) (by omega) (by omega)] at h30
        refine AW.aload_n dX0_collectOpen_33 rfl ?_
        refine AW.getI (fX0_83 hG).r rfl (hq.1 0 _ rfl) dX0_collectOpen_34 ?_
        refine AW.iconst 5 dX0_collectOpen_37 (by decide) ?_
        refine AW.icmp_ge 93 dX0_collectOpen_38 (by decide) (fun h38 => ?_) (fun h38 => ?_)
        · refine AW.inc (fun x93 => [some (.ref q), some (.ref t), some (.ref b), some (.ref (t + 8)), some (.int x93)]) dX0_collectOpen_93 rfl (by decide) rfl (fun _ => rfl) (fun x93 ex93 => ?_)
          refine AW.goto 13 dX0_collectOpen_96 (by decide) ?_
          exact ih13 (k13 + 1) (by omega) (by omega) _ _ (by
            have en : f_co1 (I (b + 2)) (I (t + 11)) (I (t + 12)) (I t 3) k13 (f_co (I (b + 2)) (I (t + 11)) (I (t + 12)) (I t 3) (0, I (q + 2), I (q + 3)) k13) = f_co (I (b + 2)) (I (t + 11)) (I (t + 12)) (I t 3) (0, I (q + 2), I (q + 3)) k13 := if_neg (fun hh => absurd ((nI_lel (n := 5) rfl hJ3 (by decide) (by omega)).mp h38) (by omega))
            have en : f_co (I (b + 2)) (I (t + 11)) (I (t + 12)) (I t 3) (0, I (q + 2), I (q + 3)) (k13 + 1) = f_co (I (b + 2)) (I (t + 11)) (I (t + 12)) (I t 3) (0, I (q + 2), I (q + 3)) k13 := en
            exact ⟨k_inc (by assumption) hx, by rw [en]; exact hJ0, by rw [en]; exact hJ2, by rw [en]; exact hJ3a, hJo⟩)
        · have hlt5 : (f_co (I (b + 2)) (I (t + 11)) (I (t + 12)) (I t 3) (0, I (q + 2), I (q + 3)) k13).1 < 5 := by
            rcases Nat.lt_or_ge (f_co (I (b + 2)) (I (t + 11)) (I (t + 12)) (I t 3) (0, I (q + 2), I (q + 3)) k13).1 5 with hh | hh
            · exact hh
            · exact absurd ((nI_lel (n := 5) rfl hJ3 (by decide) (by omega)).mpr hh) h38
          have hb3 : vp_in (J q 3) 5 := by rw [hJ3]; exact vp_in_nI hlt5 (by decide)
          have hc3 : (J q 3).toNatClampNeg = (f_co (I (b + 2)) (I (t + 11)) (I (t + 12)) (I t 3) (0, I (q + 2), I (q + 3)) k13).1 := k_lit hJ3 (by omega)
          refine AW.aload_n dX0_collectOpen_41 rfl ?_
          refine AW.getR (c' := (q + 2)) (fX0_15 hG).r rfl (hq.1 0 _ rfl) (hq.2 (0, 4, 2) (by decide)) dX0_collectOpen_42 ?_
          refine AW.aload_n dX0_collectOpen_45 rfl ?_
          refine AW.getI (fX0_83 hG).r rfl (hq.1 0 _ rfl) dX0_collectOpen_46 ?_
          refine AW.iload dX0_collectOpen_49 rfl ?_
          refine AW.iast (hq.1 2 _ rfl) (by first | assumption | (unfold vp_in; decide) | exact vp_in_nI (by omega) (by decide)) dX0_collectOpen_51 ?_
          refine AW.namI (fun I51 eI51 => ?_)
          have q51 : I51 q 3 = J q 3 := by rw [eI51, am_up_o _ _ _ _ (by omega)]
          have hb51 : vp_in (I51 q 3) 5 := by rw [q51]; exact hb3
          have q51t : I51 t 3 = I t 3 := by rw [eI51, am_up_o _ _ _ _ (by omega), hJo t (by omega) (by omega) (by omega)]
          have q51u : I51 (t + 8 + 3) = I (t + 11) := by rw [eI51, am_up_o _ _ _ _ (by omega)]; exact hJo (t + 11) (by omega) (by omega) (by omega)
          have q51v : I51 (t + 8 + 4) = I (t + 12) := by rw [eI51, am_up_o _ _ _ _ (by omega)]; exact hJo (t + 12) (by omega) (by omega) (by omega)
          refine AW.aload_n dX0_collectOpen_52 rfl ?_
          refine AW.getR (c' := (q + 3)) (fX0_18 hG).r rfl (hq.1 0 _ rfl) (hq.2 (0, 5, 3) (by decide)) dX0_collectOpen_53 ?_
          refine AW.aload_n dX0_collectOpen_56 rfl ?_
          refine AW.getI (fX0_83 hG).r rfl (hq.1 0 _ rfl) dX0_collectOpen_57 ?_
          refine AW.aload_n dX0_collectOpen_60 rfl ?_
          refine AW.getI (fX0_60 hG).r rfl (ht.1 0 _ rfl) dX0_collectOpen_61 ?_
          refine AW.aload_n dX0_collectOpen_64 rfl ?_
          refine AW.getR (c' := (t + 11)) (fX0_94 hG) rfl (ht.1 8 _ rfl) (ht.2 (8, 3, 11) (by decide)) dX0_collectOpen_65 ?_
          refine AW.iload dX0_collectOpen_68 rfl ?_
          refine AW.iald (ht.1 11 _ rfl) (by first | assumption | (unfold vp_in; decide) | exact vp_in_nI (by omega) (by decide)) dX0_collectOpen_70 ?_
          refine AW.aload_n dX0_collectOpen_71 rfl ?_
          refine AW.getR (c' := (t + 12)) (fX0_97 hG) rfl (ht.1 8 _ rfl) (ht.2 (8, 4, 12) (by decide)) dX0_collectOpen_72 ?_
          refine AW.iload dX0_collectOpen_75 rfl ?_
          refine AW.iald (ht.1 12 _ rfl) (by first | assumption | (unfold vp_in; decide) | exact vp_in_nI (by omega) (by decide)) dX0_collectOpen_77 ?_
          refine AW.iadd dX0_collectOpen_78 ?_
          refine AW.mmin (k_c hG 751 (by decide +kernel) (by decide +kernel)) (k_mmin hG) dX0_collectOpen_79 (by omega) (Nat.le_of_ble_eq_true rfl) (by decide) (by decide) ?_
          refine AW.iast (hq.1 3 _ rfl) (by first | assumption | (unfold vp_in; decide) | exact vp_in_nI (by omega) (by decide)) dX0_collectOpen_82 ?_
          refine AW.namI (fun I82 eI82 => ?_)
          have q82 : I82 q = J q := by rw [eI82, am_up_o _ _ _ _ (by omega), eI51, am_up_o _ _ _ _ (by omega)]
          refine AW.aload_n dX0_collectOpen_83 rfl ?_
          refine AW.dup dX0_collectOpen_84 rfl ?_
          refine AW.getI (fX0_83 hG).r rfl (hq.1 0 _ rfl) dX0_collectOpen_85 ?_
          refine AW.iconst 1 dX0_collectOpen_88 (by decide) ?_
          refine AW.iadd dX0_collectOpen_89 ?_
          refine AW.putI (fX0_83 hG) rfl (vp_nar_int _) rfl (hq.1 0 _ rfl) dX0_collectOpen_90 ?_
          refine AW.namI (fun I90 eI90 => ?_)
          refine AW.inc (fun x93 => [some (.ref q), some (.ref t), some (.ref b), some (.ref (t + 8)), some (.int x93)]) dX0_collectOpen_93 rfl (by decide) rfl (fun _ => rfl) (fun x93 ex93 => ?_)
          refine AW.goto 13 dX0_collectOpen_96 (by decide) ?_
          exact ih13 (k13 + 1) (by omega) (by omega) _ _ (by
            have en : f_co (I (b + 2)) (I (t + 11)) (I (t + 12)) (I t 3) (0, I (q + 2), I (q + 3)) (k13 + 1) = ((f_co (I (b + 2)) (I (t + 11)) (I (t + 12)) (I t 3) (0, I (q + 2), I (q + 3)) k13).1 + 1, upd (f_co (I (b + 2)) (I (t + 11)) (I (t + 12)) (I t 3) (0, I (q + 2), I (q + 3)) k13).2.1 (f_co (I (b + 2)) (I (t + 11)) (I (t + 12)) (I t 3) (0, I (q + 2), I (q + 3)) k13).1 (nI k13), upd (f_co (I (b + 2)) (I (t + 11)) (I (t + 12)) (I t 3) (0, I (q + 2), I (q + 3)) k13).2.2 (f_co (I (b + 2)) (I (t + 11)) (I (t + 12)) (I t 3) (0, I (q + 2), I (q + 3)) k13).1 (if I (t + 11) k13 + I (t + 12) k13 < I t 3 then I (t + 11) k13 + I (t + 12) k13 else I t 3)) := if_pos ⟨h30, hlt5⟩
            rw [en]
            refine ⟨k_inc (by assumption) hx, ?_, ?_, ?_, fun a a0 a2 a3 => ?_⟩
            · rw [eI90, am_up_s, q82, hJ3, nI_1, hJ0]; exact k_uu _ _ _ _
            · rw [eI90, am_up_o _ _ _ _ (by omega), eI82, am_up_o _ _ _ _ (by omega), eI51, am_up_s, hc3, hJ2, hx]
            · rw [eI90, am_up_o _ _ _ _ (by omega), eI82, am_up_s, q51, hc3, q51t, q51u, q51v, hcx, eI51, am_up_o _ _ _ _ (by omega), hJ3a]
            · rw [eI90, am_up_o _ _ _ _ a0, eI82, am_up_o _ _ _ _ a3, eI51, am_up_o _ _ _ _ a2]; exact hJo a a0 a2 a3)
  exact L13 0 (by omega) _ _ (⟨nI_0.symm, by rw [eI7, am_up_s]; rfl, by rw [eI7, am_up_o _ _ _ _ (by omega)]; rfl, by rw [eI7, am_up_o _ _ _ _ (by omega)]; rfl, fun a a0 a2 a3 => by rw [eI7, am_up_o _ _ _ _ a0]⟩)
def f_ab (x : Int32) : Int32 := if 0 ≤ x then x else 0 - x
/-- how many houses the loaf open as k is from p, or -1 where p can't cut it; when it can be there -/
def f_wy (I : Nat → Nat → Int32) (q t p k : Nat) : Int32 := f_ab (I (t + 9) (I (q + 2) k).toNatClampNeg - I (t + 2) p)
def f_hs (I : Nat → Nat → Int32) (q t c p k : Nat) : Int32 := if f_has (I (c + 2) (I (q + 2) k).toNatClampNeg) (nI p) = true then f_wy I q t p k else -1
def f_th (I : Nat → Nat → Int32) (q t b p k : Nat) : Int32 := (if I b 1 < I (t + 11) (I (q + 2) k).toNatClampNeg then I (t + 11) (I (q + 2) k).toNatClampNeg else I b 1) + f_wy I q t p k
theorem upd_o {f : Nat → Int32} {k j : Nat} {x : Int32} (h : j ≠ k) : upd f k x j = f j := if_neg h
theorem dX0_measure_0 : decode cX0_measure 0 = .ok (.iconst 0, 1) := by decide +kernel
theorem dX0_measure_1 : decode cX0_measure 1 = .ok (.istore 4, 2) := by decide +kernel
theorem dX0_measure_3 : decode cX0_measure 3 = .ok (.iload 4, 2) := by decide +kernel
theorem dX0_measure_5 : decode cX0_measure 5 = .ok (.aload_n 0, 1) := by decide +kernel
theorem dX0_measure_6 : decode cX0_measure 6 = .ok (.getfield 46, 3) := by decide +kernel
theorem dX0_measure_9 : decode cX0_measure 9 = .ok (.if_icmp .ge 123, 3) := by decide +kernel
theorem dX0_measure_12 : decode cX0_measure 12 = .ok (.iconst 0, 1) := by decide +kernel
theorem dX0_measure_13 : decode cX0_measure 13 = .ok (.istore 5, 2) := by decide +kernel
theorem dX0_measure_15 : decode cX0_measure 15 = .ok (.iload 5, 2) := by decide +kernel
theorem dX0_measure_17 : decode cX0_measure 17 = .ok (.aload_n 0, 1) := by decide +kernel
theorem dX0_measure_18 : decode cX0_measure 18 = .ok (.getfield 83, 3) := by decide +kernel
theorem dX0_measure_21 : decode cX0_measure 21 = .ok (.if_icmp .ge 105, 3) := by decide +kernel
theorem dX0_measure_24 : decode cX0_measure 24 = .ok (.aload_n 0, 1) := by decide +kernel
theorem dX0_measure_25 : decode cX0_measure 25 = .ok (.getfield 15, 3) := by decide +kernel
theorem dX0_measure_28 : decode cX0_measure 28 = .ok (.iload 5, 2) := by decide +kernel
theorem dX0_measure_30 : decode cX0_measure 30 = .ok (.iaload, 1) := by decide +kernel
theorem dX0_measure_31 : decode cX0_measure 31 = .ok (.istore 6, 2) := by decide +kernel
theorem dX0_measure_33 : decode cX0_measure 33 = .ok (.iload 4, 2) := by decide +kernel
theorem dX0_measure_35 : decode cX0_measure 35 = .ok (.iconst 5, 1) := by decide +kernel
theorem dX0_measure_36 : decode cX0_measure 36 = .ok (.imul, 1) := by decide +kernel
theorem dX0_measure_37 : decode cX0_measure 37 = .ok (.iload 5, 2) := by decide +kernel
theorem dX0_measure_39 : decode cX0_measure 39 = .ok (.iadd, 1) := by decide +kernel
theorem dX0_measure_40 : decode cX0_measure 40 = .ok (.istore 7, 2) := by decide +kernel
theorem dX0_measure_42 : decode cX0_measure 42 = .ok (.aload_n 1, 1) := by decide +kernel
theorem dX0_measure_43 : decode cX0_measure 43 = .ok (.getfield 79, 3) := by decide +kernel
theorem dX0_measure_46 : decode cX0_measure 46 = .ok (.getfield 106, 3) := by decide +kernel
theorem dX0_measure_49 : decode cX0_measure 49 = .ok (.iload 6, 2) := by decide +kernel
theorem dX0_measure_51 : decode cX0_measure 51 = .ok (.iaload, 1) := by decide +kernel
theorem dX0_measure_52 : decode cX0_measure 52 = .ok (.aload_n 1, 1) := by decide +kernel
theorem dX0_measure_53 : decode cX0_measure 53 = .ok (.getfield 109, 3) := by decide +kernel
theorem dX0_measure_56 : decode cX0_measure 56 = .ok (.iload 4, 2) := by decide +kernel
theorem dX0_measure_58 : decode cX0_measure 58 = .ok (.iaload, 1) := by decide +kernel
theorem dX0_measure_59 : decode cX0_measure 59 = .ok (.isub, 1) := by decide +kernel
theorem dX0_measure_60 : decode cX0_measure 60 = .ok (.invokestatic 110, 3) := by decide +kernel
theorem dX0_measure_63 : decode cX0_measure 63 = .ok (.istore 8, 2) := by decide +kernel
theorem dX0_measure_65 : decode cX0_measure 65 = .ok (.aload_n 0, 1) := by decide +kernel
theorem dX0_measure_66 : decode cX0_measure 66 = .ok (.getfield 21, 3) := by decide +kernel
theorem dX0_measure_69 : decode cX0_measure 69 = .ok (.iload 7, 2) := by decide +kernel
theorem dX0_measure_71 : decode cX0_measure 71 = .ok (.aload_n 3, 1) := by decide +kernel
theorem dX0_measure_72 : decode cX0_measure 72 = .ok (.getfield 114, 3) := by decide +kernel
theorem dX0_measure_75 : decode cX0_measure 75 = .ok (.iload 6, 2) := by decide +kernel
theorem dX0_measure_77 : decode cX0_measure 77 = .ok (.iaload, 1) := by decide +kernel
theorem dX0_measure_78 : decode cX0_measure 78 = .ok (.iload 4, 2) := by decide +kernel
theorem dX0_measure_80 : decode cX0_measure 80 = .ok (.invokestatic 119, 3) := by decide +kernel
theorem dX0_measure_83 : decode cX0_measure 83 = .ok (.ifCond .eq 8, 3) := by decide +kernel
theorem dX0_measure_86 : decode cX0_measure 86 = .ok (.iload 8, 2) := by decide +kernel
theorem dX0_measure_88 : decode cX0_measure 88 = .ok (.goto 4, 3) := by decide +kernel
theorem dX0_measure_91 : decode cX0_measure 91 = .ok (.iconst (-1), 1) := by decide +kernel
theorem dX0_measure_92 : decode cX0_measure 92 = .ok (.iastore, 1) := by decide +kernel
theorem dX0_measure_93 : decode cX0_measure 93 = .ok (.aload_n 0, 1) := by decide +kernel
theorem dX0_measure_94 : decode cX0_measure 94 = .ok (.getfield 24, 3) := by decide +kernel
theorem dX0_measure_97 : decode cX0_measure 97 = .ok (.iload 7, 2) := by decide +kernel
theorem dX0_measure_99 : decode cX0_measure 99 = .ok (.aload_n 2, 1) := by decide +kernel
theorem dX0_measure_100 : decode cX0_measure 100 = .ok (.getfield 55, 3) := by decide +kernel
theorem dX0_measure_103 : decode cX0_measure 103 = .ok (.aload_n 1, 1) := by decide +kernel
theorem dX0_measure_104 : decode cX0_measure 104 = .ok (.getfield 79, 3) := by decide +kernel
theorem dX0_measure_107 : decode cX0_measure 107 = .ok (.getfield 94, 3) := by decide +kernel
theorem dX0_measure_110 : decode cX0_measure 110 = .ok (.iload 6, 2) := by decide +kernel
theorem dX0_measure_112 : decode cX0_measure 112 = .ok (.iaload, 1) := by decide +kernel
theorem dX0_measure_113 : decode cX0_measure 113 = .ok (.invokestatic 123, 3) := by decide +kernel
theorem dX0_measure_116 : decode cX0_measure 116 = .ok (.iload 8, 2) := by decide +kernel
theorem dX0_measure_118 : decode cX0_measure 118 = .ok (.iadd, 1) := by decide +kernel
theorem dX0_measure_119 : decode cX0_measure 119 = .ok (.iastore, 1) := by decide +kernel
theorem dX0_measure_120 : decode cX0_measure 120 = .ok (.iinc 5 1, 3) := by decide +kernel
theorem dX0_measure_123 : decode cX0_measure 123 = .ok (.goto (-108), 3) := by decide +kernel
theorem dX0_measure_126 : decode cX0_measure 126 = .ok (.iinc 4 1, 3) := by decide +kernel
theorem dX0_measure_129 : decode cX0_measure 129 = .ok (.goto (-126), 3) := by decide +kernel
theorem dX0_measure_132 : decode cX0_measure 132 = .ok (.return_, 1) := by decide +kernel
set_option maxRecDepth 100000 in
set_option maxHeartbeats 4000000 in
theorem k_X0_measure {G : am_G} (hK : k_OK G) {d : Nat} (hd : 1 ≤ d) {sh : List (Nat ⊕ (Nat × Nat))} {I : Nat → Nat → Int32} {R : Nat → Nat → Option Nat} {L : Nat → Nat → Int64} {g : Nat} {q t b c op pe : Nat} (hq : k_Carrier sh R q) (ht : k_Town sh R t) (hb : k_Days sh R b) (hc : k_Circle sh R c) (haq : q + 10 ≤ t ∨ t + 19 ≤ q) (hbq : q + 10 ≤ b ∨ b + 4 ≤ q) (hcq : q + 10 ≤ c ∨ c + 3 ≤ q) (hop : I q 3 = nI op) (hop5 : op ≤ 5) (hpe : I q 2 = nI pe) (hpe8 : pe ≤ 8) (hlo : ∀ k, k < op → vp_in (I (q + 2) k) 6) : AM G mX0_measure d [.ref q, .ref t, .ref b, .ref c] (sh, I, R, L, g) (fun v w => v = none ∧ ∃ J2, w = (sh, J2, R, L, g) ∧ (∀ a, a ≠ q + 4 → a ≠ q + 5 → J2 a = I a) ∧ ∀ p9 k9, k9 < op → p9 < pe → J2 (q + 4) (5 * p9 + k9) = f_hs I q t c p9 k9 ∧ J2 (q + 5) (5 * p9 + k9) = f_th I q t b p9 k9) (fun _ _ => False) := by
  have hG := hK.1
  refine AM.of (n := 5) (by decide +kernel) (Nat.le_of_ble_eq_true rfl) ?_
  show AW G mX0_measure d (fun v w => v = none ∧ ∃ J2, w = (sh, J2, R, L, g) ∧ (∀ a, a ≠ q + 4 → a ≠ q + 5 → J2 a = I a) ∧ ∀ p9 k9, k9 < op → p9 < pe → J2 (q + 4) (5 * p9 + k9) = f_hs I q t c p9 k9 ∧ J2 (q + 5) (5 * p9 + k9) = f_th I q t b p9 k9) (fun _ _ => False) 0 [some (.ref q), some (.ref t), some (.ref b), some (.ref c), none, none, none, none, none] [] (sh, I, R, L, g) 0 0
  refine AW.iconst 0 dX0_measure_0 (by decide) ?_
  refine AW.is [some (.ref q), some (.ref t), some (.ref b), some (.ref c), some (.int 0), none, none, none, none] dX0_measure_1 (by decide) rfl rfl ?_
  have L3 : ∀ k3, k3 ≤ pe → ∀ (x : Int32) (J2 : Nat → Nat → Int32), (x = nI k3 ∧ (∀ a, a ≠ q + 4 → a ≠ q + 5 → J2 a = I a) ∧ ∀ p9 k9, k9 < op → p9 < k3 → J2 (q + 4) (5 * p9 + k9) = f_hs I q t c p9 k9 ∧ J2 (q + 5) (5 * p9 + k9) = f_th I q t b p9 k9) → AW G mX0_measure d (fun v w => v = none ∧ ∃ J2, w = (sh, J2, R, L, g) ∧ (∀ a, a ≠ q + 4 → a ≠ q + 5 → J2 a = I a) ∧ ∀ p9 k9, k9 < op → p9 < pe → J2 (q + 4) (5 * p9 + k9) = f_hs I q t c p9 k9 ∧ J2 (q + 5) (5 * p9 + k9) = f_th I q t b p9 k9) (fun _ _ => False) 3 [some (.ref q), some (.ref t), some (.ref b), some (.ref c), some (.int x), none, none, none, none] [] (sh, J2, R, L, g) 0 0 := by
    refine am_rec pe (fun k3 hk3 ih3 => ?_)
    intro x J2 hi3
    obtain ⟨hx, hJo1, hJh1⟩ := hi3
    have hJp : J2 q 2 = nI pe := by rw [hJo1 q (by omega) (by omega)]; exact hpe
    refine AW.iload dX0_measure_3 rfl ?_
    refine AW.aload_n dX0_measure_5 rfl ?_
    refine AW.getI (fX0_46 hG).r rfl (hq.1 0 _ rfl) dX0_measure_6 ?_
    refine AW.icmp_ge 132 dX0_measure_9 (by decide) (fun h9 => ?_) (fun h9 => ?_)
    · have hke := k_ge h9 hx hJp hk3 (by omega)
      rw [hke] at hJh1
      exact AW.vret dX0_measure_132 rfl (by decide) (by decide) (⟨rfl, J2, rfl, hJo1, hJh1⟩)
    · have hlt := k_lt h9 hx hJp hk3 (by omega)
      have hbx : vp_in x 8 := by rw [hx]; exact vp_in_nI (by omega) (by decide)
      have hcx : x.toNatClampNeg = k3 := k_lit hx (by omega)
      refine AW.iconst 0 dX0_measure_12 (by decide) ?_
      refine AW.is [some (.ref q), some (.ref t), some (.ref b), some (.ref c), some (.int x), some (.int 0), none, none, none] dX0_measure_13 (by decide) rfl rfl ?_
      have L15 : ∀ k15, k15 ≤ op → ∀ (y : Int32) (J3 : Nat → Nat → Int32), (y = nI k15 ∧ (∀ a, a ≠ q + 4 → a ≠ q + 5 → J3 a = I a) ∧ ∀ p9 k9, k9 < op → (p9 < k3 ∨ (p9 = k3 ∧ k9 < k15)) → J3 (q + 4) (5 * p9 + k9) = f_hs I q t c p9 k9 ∧ J3 (q + 5) (5 * p9 + k9) = f_th I q t b p9 k9) → AW G mX0_measure d (fun v w => v = none ∧ ∃ J2, w = (sh, J2, R, L, g) ∧ (∀ a, a ≠ q + 4 → a ≠ q + 5 → J2 a = I a) ∧ ∀ p9 k9, k9 < op → p9 < pe → J2 (q + 4) (5 * p9 + k9) = f_hs I q t c p9 k9 ∧ J2 (q + 5) (5 * p9 + k9) = f_th I q t b p9 k9) (fun _ _ => False) 15 [some (.ref q), some (.ref t), some (.ref b), some (.ref c), some (.int x), some (.int y), none, none, none] [] (sh, J3, R, L, g) 0 0 := by
        refine am_rec op (fun k15 hk15 ih15 => ?_)
        intro y J3 hi15
        obtain ⟨hy, hJo, hJh⟩ := hi15
        have hJ3 : J3 q 3 = nI op := by rw [hJo q (by omega) (by omega)]; exact hop
        refine AW.iload dX0_measure_15 rfl ?_
        refine AW.aload_n dX0_measure_17 rfl ?_
        refine AW.getI (fX0_83 hG).r rfl (hq.1 0 _ rfl) dX0_measure_18 ?_
        refine AW.icmp_ge 126 dX0_measure_21 (by decide) (fun h21 => ?_) (fun h21 => ?_)
        · have hke := k_ge h21 hy hJ3 hk15 (by omega)
          refine AW.inc (fun x126 => [some (.ref q), some (.ref t), some (.ref b), some (.ref c), some (.int x126), some (.int y), none, none, none]) dX0_measure_126 rfl (by decide) rfl (fun _ => rfl) (fun x126 ex126 => ?_)
          refine AW.goto 3 dX0_measure_129 (by decide) ?_
          refine AW.mask [5, 6, 7, 8] [some (.ref q), some (.ref t), some (.ref b), some (.ref c), some (.int x126), none, none, none, none] rfl ?_
          exact ih3 (k3 + 1) (by omega) (by omega) _ _ (⟨k_inc (by assumption) hx, hJo, fun p9 k9 hk9 hh => hJh p9 k9 hk9 (by omega)⟩)
        · have hlt2 := k_lt h21 hy hJ3 hk15 (by omega)
          have hby : vp_in y 5 := by rw [hy]; exact vp_in_nI (by omega) (by decide)
          have hcy : y.toNatClampNeg = k15 := k_lit hy (by omega)
          refine AW.aload_n dX0_measure_24 rfl ?_
          refine AW.getR (c' := (q + 2)) (fX0_15 hG).r rfl (hq.1 0 _ rfl) (hq.2 (0, 4, 2) (by decide)) dX0_measure_25 ?_
          refine AW.iload dX0_measure_28 rfl ?_
          refine AW.iald (hq.1 2 _ rfl) (by first | assumption | (unfold vp_in; decide) | exact vp_in_nI (by omega) (by decide)) dX0_measure_30 ?_
          refine AW.nam (fun x31 ex31 => ?_)
          refine AW.is [some (.ref q), some (.ref t), some (.ref b), some (.ref c), some (.int x), some (.int y), some (.int x31), none, none] dX0_measure_31 (by decide) rfl rfl ?_
          have hl31 : x31 = I (q + 2) k15 := by rw [ex31, hcy, hJo (q + 2) (by omega) (by omega)]
          have hb31 : vp_in x31 6 := by rw [hl31]; exact hlo k15 hlt2
          refine AW.iload dX0_measure_33 rfl ?_
          refine AW.iconst 5 dX0_measure_35 (by decide) ?_
          refine AW.imul dX0_measure_36 ?_
          refine AW.iload dX0_measure_37 rfl ?_
          refine AW.iadd dX0_measure_39 ?_
          refine AW.nam (fun x40 ex40 => ?_)
          refine AW.is [some (.ref q), some (.ref t), some (.ref b), some (.ref c), some (.int x), some (.int y), some (.int x31), some (.int x40), none] dX0_measure_40 (by decide) rfl rfl ?_
          have hix : x40 = nI (5 * k3 + k15) := k_55 ex40 hx hy
          have hbix : vp_in x40 40 := by rw [hix]; exact vp_in_nI (by omega) (by decide)
          have hcix : x40.toNatClampNeg = 5 * k3 + k15 := k_lit hix (by omega)
          refine AW.aload_n dX0_measure_42 rfl ?_
          refine AW.getR (c' := (t + 8)) (fX0_79 hG) rfl (ht.1 0 _ rfl) (ht.2 (0, 11, 8) (by decide)) dX0_measure_43 ?_
          refine AW.getR (c' := (t + 9)) (fX0_106 hG) rfl (ht.1 8 _ rfl) (ht.2 (8, 1, 9) (by decide)) dX0_measure_46 ?_
          refine AW.iload dX0_measure_49 rfl ?_
          refine AW.iald (ht.1 9 _ rfl) (by first | assumption | (unfold vp_in; decide) | exact vp_in_nI (by omega) (by decide)) dX0_measure_51 ?_
          refine AW.aload_n dX0_measure_52 rfl ?_
          refine AW.getR (c' := (t + 2)) (fX0_109 hG) rfl (ht.1 0 _ rfl) (ht.2 (0, 5, 2) (by decide)) dX0_measure_53 ?_
          refine AW.iload dX0_measure_56 rfl ?_
          refine AW.iald (ht.1 2 _ rfl) (by first | assumption | (unfold vp_in; decide) | exact vp_in_nI (by omega) (by decide)) dX0_measure_58 ?_
          refine AW.isub dX0_measure_59 ?_
          refine AW.mabs (k_c hG 758 (by decide +kernel) (by decide +kernel)) (k_mabs hG) dX0_measure_60 (by omega) (Nat.le_of_ble_eq_true rfl) (by decide) (by decide) ?_
          refine AW.nam (fun x63 ex63 => ?_)
          refine AW.is [some (.ref q), some (.ref t), some (.ref b), some (.ref c), some (.int x), some (.int y), some (.int x31), some (.int x40), some (.int x63)] dX0_measure_63 (by decide) rfl rfl ?_
          have hwy : x63 = f_wy I q t k3 k15 := by
            have e1 : J3 (t + 8 + 1) = I (t + 9) := hJo (t + 9) (by omega) (by omega)
            rw [ex63, e1, hJo (t + 2) (by omega) (by omega), hcx, hl31]; rfl
          refine AW.aload_n dX0_measure_65 rfl ?_
          refine AW.getR (c' := (q + 4)) (fX0_21 hG).r rfl (hq.1 0 _ rfl) (hq.2 (0, 6, 4) (by decide)) dX0_measure_66 ?_
          refine AW.iload dX0_measure_69 rfl ?_
          refine AW.aload_n dX0_measure_71 rfl ?_
          refine AW.getR (c' := (c + 2)) (fX0_114 hG) rfl (hc.1 0 _ rfl) (hc.2 (0, 1, 2) (by decide)) dX0_measure_72 ?_
          refine AW.iload dX0_measure_75 rfl ?_
          refine AW.iald (hc.1 2 _ rfl) (by first | assumption | (unfold vp_in; decide) | exact vp_in_nI (by omega) (by decide)) dX0_measure_77 ?_
          refine AW.iload dX0_measure_78 rfl ?_
          refine AW.callSN (As := [.int (J3 (c + 2) x31.toNatClampNeg), .int x]) hG.2.2 (vX0_119n hK) (kS_X10_has hG) (k_X10_has hK (d := 0) (Nat.le_refl _) (J3 (c + 2) x31.toNatClampNeg) x) (by omega) dX0_measure_80 rfl rfl (Nat.le_of_ble_eq_true rfl) (fun v w9 hq9 h09 => by obtain ⟨rfl, rfl⟩ := hq9; exact ⟨h09, rfl⟩) (by decide) (by decide) (fun v80 w80 hq80 => ?_)
          obtain ⟨rfl, rfl⟩ := hq80
          refine AW.nam (fun x80 ex80 => ?_)
          refine AW.if_eq 91 dX0_measure_83 (by decide) (fun h83 => ?_) (fun h83 => ?_)
          · rw [ex80, hx, hl31, hJo (c + 2) (by omega) (by omega)] at h83
            have qh := kb_0.mp h83
            refine AW.iconst (-1) dX0_measure_91 (by decide) ?_
            refine AW.iast (hq.1 4 _ rfl) (by first | assumption | (unfold vp_in; decide) | exact vp_in_nI (by omega) (by decide)) dX0_measure_92 ?_
            refine AW.namI (fun I92 eI92 => ?_)
            have q92b : I92 b 1 = I b 1 := by rw [eI92, am_up_o _ _ _ _ (by omega), hJo b (by omega) (by omega)]
            have q92t : I92 (t + 8 + 3) = I (t + 11) := by rw [eI92, am_up_o _ _ _ _ (by omega)]; exact hJo (t + 11) (by omega) (by omega)
            refine AW.aload_n dX0_measure_93 rfl ?_
            refine AW.getR (c' := (q + 5)) (fX0_24 hG).r rfl (hq.1 0 _ rfl) (hq.2 (0, 7, 5) (by decide)) dX0_measure_94 ?_
            refine AW.iload dX0_measure_97 rfl ?_
            refine AW.aload_n dX0_measure_99 rfl ?_
            refine AW.getI (fX0_55 hG).r rfl (hb.1 0 _ rfl) dX0_measure_100 ?_
            refine AW.aload_n dX0_measure_103 rfl ?_
            refine AW.getR (c' := (t + 8)) (fX0_79 hG) rfl (ht.1 0 _ rfl) (ht.2 (0, 11, 8) (by decide)) dX0_measure_104 ?_
            refine AW.getR (c' := (t + 11)) (fX0_94 hG) rfl (ht.1 8 _ rfl) (ht.2 (8, 3, 11) (by decide)) dX0_measure_107 ?_
            refine AW.iload dX0_measure_110 rfl ?_
            refine AW.iald (ht.1 11 _ rfl) (by first | assumption | (unfold vp_in; decide) | exact vp_in_nI (by omega) (by decide)) dX0_measure_112 ?_
            refine AW.mmax (k_c hG 762 (by decide +kernel) (by decide +kernel)) (k_mmax hG) dX0_measure_113 (by omega) (Nat.le_of_ble_eq_true rfl) (by decide) (by decide) ?_
            refine AW.iload dX0_measure_116 rfl ?_
            refine AW.iadd dX0_measure_118 ?_
            refine AW.iast (hq.1 5 _ rfl) (by first | assumption | (unfold vp_in; decide) | exact vp_in_nI (by omega) (by decide)) dX0_measure_119 ?_
            refine AW.namI (fun I119 eI119 => ?_)
            refine AW.inc (fun x120 => [some (.ref q), some (.ref t), some (.ref b), some (.ref c), some (.int x), some (.int x120), some (.int x31), some (.int x40), some (.int x63)]) dX0_measure_120 rfl (by decide) rfl (fun _ => rfl) (fun x120 ex120 => ?_)
            refine AW.goto 15 dX0_measure_123 (by decide) ?_
            refine AW.mask [6, 7, 8] [some (.ref q), some (.ref t), some (.ref b), some (.ref c), some (.int x), some (.int x120), none, none, none] rfl ?_
            exact ih15 (k15 + 1) (by omega) (by omega) _ _ (by
              refine ⟨k_inc (by assumption) hy, fun a a4 a5 => ?_, fun p9 k9 hk9 hh => ?_⟩
              · rw [eI119, am_up_o _ _ _ _ a5, eI92, am_up_o _ _ _ _ a4]; exact hJo a a4 a5
              · by_cases e : p9 = k3 ∧ k9 = k15
                · rw [e.1, e.2]
                  constructor
                  · rw [eI119, am_up_o _ _ _ _ (by omega), eI92, am_up_s, hcix, pk_us, (show f_hs I q t c k3 k15 = -1 from if_neg (by rw [qh]; decide))]
                  · rw [eI119, am_up_s, hcix, pk_us, hwy, q92b, q92t, hl31]; rfl
                · have hne : 5 * p9 + k9 ≠ 5 * k3 + k15 := by omega
                  have h9 := hJh p9 k9 hk9 (by omega)
                  constructor
                  · rw [eI119, am_up_o _ _ _ _ (by omega), eI92, am_up_s, hcix, upd_o hne]; exact h9.1
                  · rw [eI119, am_up_s, hcix, upd_o hne, eI92, am_up_o _ _ _ _ (by omega)]; exact h9.2)
          · rw [ex80, hx, hl31, hJo (c + 2) (by omega) (by omega)] at h83
            have qh := kb_1.mp h83
            refine AW.iload dX0_measure_86 rfl ?_
            refine AW.goto 92 dX0_measure_88 (by decide) ?_
            refine AW.iast (hq.1 4 _ rfl) (by first | assumption | (unfold vp_in; decide) | exact vp_in_nI (by omega) (by decide)) dX0_measure_92 ?_
            refine AW.namI (fun I92 eI92 => ?_)
            have q92b : I92 b 1 = I b 1 := by rw [eI92, am_up_o _ _ _ _ (by omega), hJo b (by omega) (by omega)]
            have q92t : I92 (t + 8 + 3) = I (t + 11) := by rw [eI92, am_up_o _ _ _ _ (by omega)]; exact hJo (t + 11) (by omega) (by omega)
            refine AW.aload_n dX0_measure_93 rfl ?_
            refine AW.getR (c' := (q + 5)) (fX0_24 hG).r rfl (hq.1 0 _ rfl) (hq.2 (0, 7, 5) (by decide)) dX0_measure_94 ?_
            refine AW.iload dX0_measure_97 rfl ?_
            refine AW.aload_n dX0_measure_99 rfl ?_
            refine AW.getI (fX0_55 hG).r rfl (hb.1 0 _ rfl) dX0_measure_100 ?_
            refine AW.aload_n dX0_measure_103 rfl ?_
            refine AW.getR (c' := (t + 8)) (fX0_79 hG) rfl (ht.1 0 _ rfl) (ht.2 (0, 11, 8) (by decide)) dX0_measure_104 ?_
            refine AW.getR (c' := (t + 11)) (fX0_94 hG) rfl (ht.1 8 _ rfl) (ht.2 (8, 3, 11) (by decide)) dX0_measure_107 ?_
            refine AW.iload dX0_measure_110 rfl ?_
            refine AW.iald (ht.1 11 _ rfl) (by first | assumption | (unfold vp_in; decide) | exact vp_in_nI (by omega) (by decide)) dX0_measure_112 ?_
            refine AW.mmax (k_c hG 762 (by decide +kernel) (by decide +kernel)) (k_mmax hG) dX0_measure_113 (by omega) (Nat.le_of_ble_eq_true rfl) (by decide) (by decide) ?_
            refine AW.iload dX0_measure_116 rfl ?_
            refine AW.iadd dX0_measure_118 ?_
            refine AW.iast (hq.1 5 _ rfl) (by first | assumption | (unfold vp_in; decide) | exact vp_in_nI (by omega) (by decide)) dX0_measure_119 ?_
            refine AW.namI (fun I119 eI119 => ?_)
            refine AW.inc (fun x120 => [some (.ref q), some (.ref t), some (.ref b), some (.ref c), some (.int x), some (.int x120), some (.int x31), some (.int x40), some (.int x63)]) dX0_measure_120 rfl (by decide) rfl (fun _ => rfl) (fun x120 ex120 => ?_)
            refine AW.goto 15 dX0_measure_123 (by decide) ?_
            refine AW.mask [6, 7, 8] [some (.ref q), some (.ref t), some (.ref b), some (.ref c), some (.int x), some (.int x120), none, none, none] rfl ?_
            exact ih15 (k15 + 1) (by omega) (by omega) _ _ (by
              refine ⟨k_inc (by assumption) hy, fun a a4 a5 => ?_, fun p9 k9 hk9 hh => ?_⟩
              · rw [eI119, am_up_o _ _ _ _ a5, eI92, am_up_o _ _ _ _ a4]; exact hJo a a4 a5
              · by_cases e : p9 = k3 ∧ k9 = k15
                · rw [e.1, e.2]
                  constructor
                  · rw [eI119, am_up_o _ _ _ _ (by omega), eI92, am_up_s, hcix, pk_us, (show f_hs I q t c k3 k15 = f_wy I q t k3 k15 from if_pos qh)]; exact hwy
                  · rw [eI119, am_up_s, hcix, pk_us, hwy, q92b, q92t, hl31]; rfl
                · have hne : 5 * p9 + k9 ≠ 5 * k3 + k15 := by omega
                  have h9 := hJh p9 k9 hk9 (by omega)
                  constructor
                  · rw [eI119, am_up_o _ _ _ _ (by omega), eI92, am_up_s, hcix, upd_o hne]; exact h9.1
                  · rw [eI119, am_up_s, hcix, upd_o hne, eI92, am_up_o _ _ _ _ (by omega)]; exact h9.2)
      exact L15 0 (by omega) _ _ (⟨nI_0.symm, hJo1, fun p9 k9 hk9 hh => hJh1 p9 k9 hk9 (by omega)⟩)
  exact L3 0 (by omega) _ _ (⟨nI_0.symm, fun a _ _ => rfl, fun p9 k9 _ h => absurd h (Nat.not_lt_zero _)⟩)
/-- which sets can be cut in time -/
def f_it (C : Nat → Bool) (k : Nat) : Nat → Bool := lfold (fun s T => if s = 0 then T else fun j => if j = s then T (s &&& (s - 1)) && C s else T j) (fun _ => true) k
theorem f_it_n {C : Nat → Bool} {k : Nat} (h : k ≠ 0) : f_it C (k + 1) = fun j => if j = k then f_it C k (k &&& (k - 1)) && C k else f_it C k j := by
  show (if k = 0 then _ else _) = _
  rw [if_neg h]
  rfl
theorem k_few {s : Nat} (h : s < 33) (h1 : 1 ≤ s) : nI s &&& (nI s - 1) = nI (s &&& (s - 1)) := by
  have : ∀ s, s < 33 → 1 ≤ s → nI s &&& (nI s - 1) = nI (s &&& (s - 1)) := by decide +kernel
  exact this s h h1
def f_cs (I : Nat → Nat → Int32) (q op pj a9 b9 s : Nat) : Bool := f_ci (fun b h => f_mu (I (q + 4)) (I (q + 5)) (I (q + 3)) pj b h op) (I (q + 3)) (b9 + 1 - a9) a9 (nI s)
theorem dX0_tryAllSets_0 : decode cX0_tryAllSets 0 = .ok (.iload_n 1, 1) := by decide +kernel
theorem dX0_tryAllSets_1 : decode cX0_tryAllSets 1 = .ok (.bipush 32, 2) := by decide +kernel
theorem dX0_tryAllSets_3 : decode cX0_tryAllSets 3 = .ok (.imul, 1) := by decide +kernel
theorem dX0_tryAllSets_4 : decode cX0_tryAllSets 4 = .ok (.istore 4, 2) := by decide +kernel
theorem dX0_tryAllSets_6 : decode cX0_tryAllSets 6 = .ok (.aload_n 0, 1) := by decide +kernel
theorem dX0_tryAllSets_7 : decode cX0_tryAllSets 7 = .ok (.getfield 27, 3) := by decide +kernel
theorem dX0_tryAllSets_10 : decode cX0_tryAllSets 10 = .ok (.iload 4, 2) := by decide +kernel
theorem dX0_tryAllSets_12 : decode cX0_tryAllSets 12 = .ok (.iconst 1, 1) := by decide +kernel
theorem dX0_tryAllSets_13 : decode cX0_tryAllSets 13 = .ok (.bastore, 1) := by decide +kernel
theorem dX0_tryAllSets_14 : decode cX0_tryAllSets 14 = .ok (.iconst 1, 1) := by decide +kernel
theorem dX0_tryAllSets_15 : decode cX0_tryAllSets 15 = .ok (.istore 5, 2) := by decide +kernel
theorem dX0_tryAllSets_17 : decode cX0_tryAllSets 17 = .ok (.iload 5, 2) := by decide +kernel
theorem dX0_tryAllSets_19 : decode cX0_tryAllSets 19 = .ok (.iconst 1, 1) := by decide +kernel
theorem dX0_tryAllSets_20 : decode cX0_tryAllSets 20 = .ok (.aload_n 0, 1) := by decide +kernel
theorem dX0_tryAllSets_21 : decode cX0_tryAllSets 21 = .ok (.getfield 83, 3) := by decide +kernel
theorem dX0_tryAllSets_24 : decode cX0_tryAllSets 24 = .ok (.ishl, 1) := by decide +kernel
theorem dX0_tryAllSets_25 : decode cX0_tryAllSets 25 = .ok (.if_icmp .ge 58, 3) := by decide +kernel
theorem dX0_tryAllSets_28 : decode cX0_tryAllSets 28 = .ok (.iload 5, 2) := by decide +kernel
theorem dX0_tryAllSets_30 : decode cX0_tryAllSets 30 = .ok (.iload 5, 2) := by decide +kernel
theorem dX0_tryAllSets_32 : decode cX0_tryAllSets 32 = .ok (.iconst 1, 1) := by decide +kernel
theorem dX0_tryAllSets_33 : decode cX0_tryAllSets 33 = .ok (.isub, 1) := by decide +kernel
theorem dX0_tryAllSets_34 : decode cX0_tryAllSets 34 = .ok (.iand, 1) := by decide +kernel
theorem dX0_tryAllSets_35 : decode cX0_tryAllSets 35 = .ok (.istore 6, 2) := by decide +kernel
theorem dX0_tryAllSets_37 : decode cX0_tryAllSets 37 = .ok (.aload_n 0, 1) := by decide +kernel
theorem dX0_tryAllSets_38 : decode cX0_tryAllSets 38 = .ok (.getfield 27, 3) := by decide +kernel
theorem dX0_tryAllSets_41 : decode cX0_tryAllSets 41 = .ok (.iload 4, 2) := by decide +kernel
theorem dX0_tryAllSets_43 : decode cX0_tryAllSets 43 = .ok (.iload 5, 2) := by decide +kernel
theorem dX0_tryAllSets_45 : decode cX0_tryAllSets 45 = .ok (.iadd, 1) := by decide +kernel
theorem dX0_tryAllSets_46 : decode cX0_tryAllSets 46 = .ok (.aload_n 0, 1) := by decide +kernel
theorem dX0_tryAllSets_47 : decode cX0_tryAllSets 47 = .ok (.getfield 27, 3) := by decide +kernel
theorem dX0_tryAllSets_50 : decode cX0_tryAllSets 50 = .ok (.iload 4, 2) := by decide +kernel
theorem dX0_tryAllSets_52 : decode cX0_tryAllSets 52 = .ok (.iload 6, 2) := by decide +kernel
theorem dX0_tryAllSets_54 : decode cX0_tryAllSets 54 = .ok (.iadd, 1) := by decide +kernel
theorem dX0_tryAllSets_55 : decode cX0_tryAllSets 55 = .ok (.baload, 1) := by decide +kernel
theorem dX0_tryAllSets_56 : decode cX0_tryAllSets 56 = .ok (.ifCond .eq 19, 3) := by decide +kernel
theorem dX0_tryAllSets_59 : decode cX0_tryAllSets 59 = .ok (.aload_n 0, 1) := by decide +kernel
theorem dX0_tryAllSets_60 : decode cX0_tryAllSets 60 = .ok (.iload_n 1, 1) := by decide +kernel
theorem dX0_tryAllSets_61 : decode cX0_tryAllSets 61 = .ok (.iload 5, 2) := by decide +kernel
theorem dX0_tryAllSets_63 : decode cX0_tryAllSets 63 = .ok (.iload_n 2, 1) := by decide +kernel
theorem dX0_tryAllSets_64 : decode cX0_tryAllSets 64 = .ok (.iload_n 3, 1) := by decide +kernel
theorem dX0_tryAllSets_65 : decode cX0_tryAllSets 65 = .ok (.invokevirtual 126, 3) := by decide +kernel
theorem dX0_tryAllSets_68 : decode cX0_tryAllSets 68 = .ok (.ifCond .eq 7, 3) := by decide +kernel
theorem dX0_tryAllSets_71 : decode cX0_tryAllSets 71 = .ok (.iconst 1, 1) := by decide +kernel
theorem dX0_tryAllSets_72 : decode cX0_tryAllSets 72 = .ok (.goto 4, 3) := by decide +kernel
theorem dX0_tryAllSets_75 : decode cX0_tryAllSets 75 = .ok (.iconst 0, 1) := by decide +kernel
theorem dX0_tryAllSets_76 : decode cX0_tryAllSets 76 = .ok (.bastore, 1) := by decide +kernel
theorem dX0_tryAllSets_77 : decode cX0_tryAllSets 77 = .ok (.iinc 5 1, 3) := by decide +kernel
theorem dX0_tryAllSets_80 : decode cX0_tryAllSets 80 = .ok (.goto (-63), 3) := by decide +kernel
theorem dX0_tryAllSets_83 : decode cX0_tryAllSets 83 = .ok (.return_, 1) := by decide +kernel
set_option maxRecDepth 100000 in
set_option maxHeartbeats 4000000 in
theorem k_X0_tryAllSets {G : am_G} (hK : k_OK G) {d : Nat} (hd : 3 ≤ d) {sh : List (Nat ⊕ (Nat × Nat))} {I : Nat → Nat → Int32} {R : Nat → Nat → Option Nat} {L : Nat → Nat → Int64} {g : Nat} {q : Nat} (hq : k_Carrier sh R q) {op : Nat} (hop : I q 3 = nI op) (hop5 : op ≤ 5) (p x0 y0 : Int32) {pj a9 b9 : Nat} (hp : p = nI pj) (hpj : pj < 8) (hx0 : x0 = nI a9) (ha9 : a9 ≤ 30) (hy0 : y0 = nI b9) (hb9 : b9 ≤ 30) : AM G mX0_tryAllSets d [.ref q, .int p, .int x0, .int y0] (sh, I, R, L, g) (fun v w => v = none ∧ ∃ J, w = (sh, J, R, L, g) ∧ (∀ a, a ≠ q + 6 → J a = I a) ∧ (∀ s, s < 2 ^ op → J (q + 6) (32 * pj + s) = kb (f_it (f_cs I q op pj a9 b9) (2 ^ op) s)) ∧ ∀ j, (j < 32 * pj ∨ 32 * pj + 32 ≤ j) → J (q + 6) j = I (q + 6) j) (fun _ _ => False) := by
  have hG := hK.1
  have hpw := k_pow1 (n := op) (by omega)
  have hpw5 : 2 ^ op ≤ 32 := Nat.pow_le_pow_right (n := 2) (by decide) hop5
  refine AM.of (n := 3) (by decide +kernel) (Nat.le_of_ble_eq_true rfl) ?_
  show AW G mX0_tryAllSets d (fun v w => v = none ∧ ∃ J, w = (sh, J, R, L, g) ∧ (∀ a, a ≠ q + 6 → J a = I a) ∧ (∀ s, s < 2 ^ op → J (q + 6) (32 * pj + s) = kb (f_it (f_cs I q op pj a9 b9) (2 ^ op) s)) ∧ ∀ j, (j < 32 * pj ∨ 32 * pj + 32 ≤ j) → J (q + 6) j = I (q + 6) j) (fun _ _ => False) 0 [some (.ref q), some (.int p), some (.int x0), some (.int y0), none, none, none] [] (sh, I, R, L, g) 0 0
  refine AW.iload_n dX0_tryAllSets_0 rfl ?_
  refine AW.bipush 32 dX0_tryAllSets_1 (by decide) ?_
  refine AW.imul dX0_tryAllSets_3 ?_
  refine AW.nam (fun x4 ex4 => ?_)
  refine AW.is [some (.ref q), some (.int p), some (.int x0), some (.int y0), some (.int x4), none, none] dX0_tryAllSets_4 (by decide) rfl rfl ?_
  have hat : x4 = nI (32 * pj) := by rw [ex4, hp, show (32 : Int32) = nI 32 from rfl, pk_mul, Nat.mul_comm]
  have hbat : vp_in x4 256 := by rw [hat]; exact vp_in_nI (by omega) (by decide)
  have hcat : x4.toNatClampNeg = 32 * pj := k_lit hat (by omega)
  refine AW.aload_n dX0_tryAllSets_6 rfl ?_
  refine AW.getR (c' := (q + 6)) (fX0_27 hG).r rfl (hq.1 0 _ rfl) (hq.2 (0, 8, 6) (by decide)) dX0_tryAllSets_7 ?_
  refine AW.iload dX0_tryAllSets_10 rfl ?_
  refine AW.iconst 1 dX0_tryAllSets_12 (by decide) ?_
  refine AW.zast (hq.1 6 _ rfl) (by first | assumption | (unfold vp_in; decide) | exact vp_in_nI (by omega) (by decide)) dX0_tryAllSets_13 ?_
  refine AW.namI (fun I13 eI13 => ?_)
  refine AW.iconst 1 dX0_tryAllSets_14 (by decide) ?_
  refine AW.is [some (.ref q), some (.int p), some (.int x0), some (.int y0), some (.int x4), some (.int 1), none] dX0_tryAllSets_15 (by decide) rfl rfl ?_
  have L17 : ∀ k17, k17 ≤ (2 ^ op) → ∀ (x : Int32) (J : Nat → Nat → Int32), (1 ≤ k17 ∧ x = nI k17 ∧ (∀ a, a ≠ q + 6 → J a = I a) ∧ (∀ s, s < k17 → J (q + 6) (32 * pj + s) = kb (f_it (f_cs I q op pj a9 b9) k17 s)) ∧ ∀ j, (j < 32 * pj ∨ 32 * pj + 32 ≤ j) → J (q + 6) j = I (q + 6) j) → AW G mX0_tryAllSets d (fun v w => v = none ∧ ∃ J, w = (sh, J, R, L, g) ∧ (∀ a, a ≠ q + 6 → J a = I a) ∧ (∀ s, s < 2 ^ op → J (q + 6) (32 * pj + s) = kb (f_it (f_cs I q op pj a9 b9) (2 ^ op) s)) ∧ ∀ j, (j < 32 * pj ∨ 32 * pj + 32 ≤ j) → J (q + 6) j = I (q + 6) j) (fun _ _ => False) 17 [some (.ref q), some (.int p), some (.int x0), some (.int y0), some (.int x4), some (.int x), none] [] (sh, J, R, L, g) 0 0 := by
    refine am_rec ((2 ^ op)) (fun k17 hk17 ih17 => ?_)
    intro x J hi17
    obtain ⟨h1k, hx, hJo, hJi, hJj⟩ := hi17
    have hJ3 : J q 3 = nI op := by rw [hJo q (by omega)]; exact hop
    refine AW.iload dX0_tryAllSets_17 rfl ?_
    refine AW.iconst 1 dX0_tryAllSets_19 (by decide) ?_
    refine AW.aload_n dX0_tryAllSets_20 rfl ?_
    refine AW.getI (fX0_83 hG).r rfl (hq.1 0 _ rfl) dX0_tryAllSets_21 ?_
    refine AW.ishl dX0_tryAllSets_24 ?_
    refine AW.icmp_ge 83 dX0_tryAllSets_25 (by decide) (fun h25 => ?_) (fun h25 => ?_)
    · rw [hx, hJ3, k_pow (by omega)] at h25
      have hke : k17 = 2 ^ op := by have := (nI_leI (by omega) (by omega)).mp h25; omega
      rw [hke] at hJi
      exact AW.vret dX0_tryAllSets_83 rfl (by decide) (by decide) (⟨rfl, J, rfl, hJo, hJi, hJj⟩)
    · rw [hx, hJ3, k_pow (by omega)] at h25
      have hlt : k17 < 2 ^ op := by
        rcases Nat.lt_or_ge k17 (2 ^ op) with h | h
        · exact h
        · exact absurd ((nI_leI (by omega) (by omega)).mpr h) h25
      refine AW.iload dX0_tryAllSets_28 rfl ?_
      refine AW.iload dX0_tryAllSets_30 rfl ?_
      refine AW.iconst 1 dX0_tryAllSets_32 (by decide) ?_
      refine AW.isub dX0_tryAllSets_33 ?_
      refine AW.iand dX0_tryAllSets_34 ?_
      refine AW.nam (fun x35 ex35 => ?_)
      refine AW.is [some (.ref q), some (.int p), some (.int x0), some (.int y0), some (.int x4), some (.int x), some (.int x35)] dX0_tryAllSets_35 (by decide) rfl rfl ?_
      have hfw : x35 = nI (k17 &&& (k17 - 1)) := by rw [ex35, hx]; exact k_few (by omega) h1k
      have hfl : k17 &&& (k17 - 1) < k17 := Nat.lt_of_le_of_lt Nat.and_le_right (by omega)
      have hbf : vp_in (x4 + x35) 256 := by rw [hat, hfw, nI_add]; exact vp_in_nI (by omega) (by decide)
      have hcf : (x4 + x35).toNatClampNeg = 32 * pj + (k17 &&& (k17 - 1)) := by rw [hat, hfw, nI_add]; exact nI_clamp (by omega)
      have hbix : vp_in (x4 + x) 256 := by rw [hat, hx, nI_add]; exact vp_in_nI (by omega) (by decide)
      have hcix : (x4 + x).toNatClampNeg = 32 * pj + k17 := by rw [hat, hx, nI_add]; exact nI_clamp (by omega)
      refine AW.aload_n dX0_tryAllSets_37 rfl ?_
      refine AW.getR (c' := (q + 6)) (fX0_27 hG).r rfl (hq.1 0 _ rfl) (hq.2 (0, 8, 6) (by decide)) dX0_tryAllSets_38 ?_
      refine AW.iload dX0_tryAllSets_41 rfl ?_
      refine AW.iload dX0_tryAllSets_43 rfl ?_
      refine AW.iadd dX0_tryAllSets_45 ?_
      refine AW.aload_n dX0_tryAllSets_46 rfl ?_
      refine AW.getR (c' := (q + 6)) (fX0_27 hG).r rfl (hq.1 0 _ rfl) (hq.2 (0, 8, 6) (by decide)) dX0_tryAllSets_47 ?_
      refine AW.iload dX0_tryAllSets_50 rfl ?_
      refine AW.iload dX0_tryAllSets_52 rfl ?_
      refine AW.iadd dX0_tryAllSets_54 ?_
      refine AW.zald (hq.1 6 _ rfl) (by first | assumption | (unfold vp_in; decide) | exact vp_in_nI (by omega) (by decide)) dX0_tryAllSets_55 ?_
      refine AW.if_eq 75 dX0_tryAllSets_56 (by decide) (fun h56 => ?_) (fun h56 => ?_)
      · rw [hcf, hJi _ hfl] at h56
        have q1 := kb_0.mp h56
        refine AW.iconst 0 dX0_tryAllSets_75 (by decide) ?_
        refine AW.zast (hq.1 6 _ rfl) (by first | assumption | (unfold vp_in; decide) | exact vp_in_nI (by omega) (by decide)) dX0_tryAllSets_76 ?_
        refine AW.namI (fun I76 eI76 => ?_)
        refine AW.inc (fun x77 => [some (.ref q), some (.int p), some (.int x0), some (.int y0), some (.int x4), some (.int x77), some (.int x35)]) dX0_tryAllSets_77 rfl (by decide) rfl (fun _ => rfl) (fun x77 ex77 => ?_)
        refine AW.goto 17 dX0_tryAllSets_80 (by decide) ?_
        refine AW.mask [6] [some (.ref q), some (.int p), some (.int x0), some (.int y0), some (.int x4), some (.int x77), none] rfl ?_
        exact ih17 (k17 + 1) (by omega) (by omega) _ _ (by
          have hb9 : (f_it (f_cs I q op pj a9 b9) k17 (k17 &&& (k17 - 1)) && f_cs I q op pj a9 b9 k17) = false := (by rw [q1]; rfl)
          refine ⟨by omega, k_inc (by assumption) hx, fun a a6 => ?_, fun s hs => ?_, fun j hj => ?_⟩
          · rw [eI76, am_up_o _ _ _ _ a6]; exact hJo a a6
          · rw [eI76, am_up_s, hcix, f_it_n (by omega)]
            dsimp only
            by_cases e : s = k17
            · rw [if_pos e, hb9, e, pk_us]; rfl
            · rw [if_neg e, upd_o (by omega)]; exact hJi s (by omega)
          · rw [eI76, am_up_s, hcix, upd_o (by omega)]; exact hJj j hj)
      · rw [hcf, hJi _ hfl] at h56
        have q1 := kb_1.mp h56
        refine AW.aload_n dX0_tryAllSets_59 rfl ?_
        refine AW.iload_n dX0_tryAllSets_60 rfl ?_
        refine AW.iload dX0_tryAllSets_61 rfl ?_
        refine AW.iload_n dX0_tryAllSets_63 rfl ?_
        refine AW.iload_n dX0_tryAllSets_64 rfl ?_
        refine AW.callV (b := q) (As := [.int p, .int x, .int x0, .int y0]) hG.2.2 (vX0_126 hG) (hq.1 0 _ rfl) (k_X0_cutsInTime hK (d := 2) (Nat.le_refl _) hq (by assumption) (by omega) p x x0 y0 (by assumption) (by assumption) (by assumption) (by assumption) (by assumption) (by assumption)) (by omega) dX0_tryAllSets_65 rfl rfl (Nat.le_of_ble_eq_true rfl) (fun v w9 hq9 h09 => by obtain ⟨rfl, rfl⟩ := hq9; exact ⟨h09, rfl⟩) (by decide) (by decide) (fun _ _ hx => hx) (fun v65 w65 hq65 => ?_)
        obtain ⟨rfl, rfl⟩ := hq65
        refine AW.nam (fun x65 ex65 => ?_)
        refine AW.if_eq 75 dX0_tryAllSets_68 (by decide) (fun h68 => ?_) (fun h68 => ?_)
        · rw [ex65, hJo (q + 4) (by omega), hJo (q + 5) (by omega), hJo (q + 3) (by omega), hx] at h68
          have q2 : f_cs I q op pj a9 b9 k17 = false := kb_0.mp h68
          refine AW.iconst 0 dX0_tryAllSets_75 (by decide) ?_
          refine AW.zast (hq.1 6 _ rfl) (by first | assumption | (unfold vp_in; decide) | exact vp_in_nI (by omega) (by decide)) dX0_tryAllSets_76 ?_
          refine AW.namI (fun I76 eI76 => ?_)
          refine AW.inc (fun x77 => [some (.ref q), some (.int p), some (.int x0), some (.int y0), some (.int x4), some (.int x77), some (.int x35)]) dX0_tryAllSets_77 rfl (by decide) rfl (fun _ => rfl) (fun x77 ex77 => ?_)
          refine AW.goto 17 dX0_tryAllSets_80 (by decide) ?_
          refine AW.mask [6] [some (.ref q), some (.int p), some (.int x0), some (.int y0), some (.int x4), some (.int x77), none] rfl ?_
          exact ih17 (k17 + 1) (by omega) (by omega) _ _ (by
            have hb9 : (f_it (f_cs I q op pj a9 b9) k17 (k17 &&& (k17 - 1)) && f_cs I q op pj a9 b9 k17) = false := (by rw [q2, Bool.and_false])
            refine ⟨by omega, k_inc (by assumption) hx, fun a a6 => ?_, fun s hs => ?_, fun j hj => ?_⟩
            · rw [eI76, am_up_o _ _ _ _ a6]; exact hJo a a6
            · rw [eI76, am_up_s, hcix, f_it_n (by omega)]
              dsimp only
              by_cases e : s = k17
              · rw [if_pos e, hb9, e, pk_us]; rfl
              · rw [if_neg e, upd_o (by omega)]; exact hJi s (by omega)
            · rw [eI76, am_up_s, hcix, upd_o (by omega)]; exact hJj j hj)
        · rw [ex65, hJo (q + 4) (by omega), hJo (q + 5) (by omega), hJo (q + 3) (by omega), hx] at h68
          have q2 : f_cs I q op pj a9 b9 k17 = true := kb_1.mp h68
          refine AW.iconst 1 dX0_tryAllSets_71 (by decide) ?_
          refine AW.goto 76 dX0_tryAllSets_72 (by decide) ?_
          refine AW.zast (hq.1 6 _ rfl) (by first | assumption | (unfold vp_in; decide) | exact vp_in_nI (by omega) (by decide)) dX0_tryAllSets_76 ?_
          refine AW.namI (fun I76 eI76 => ?_)
          refine AW.inc (fun x77 => [some (.ref q), some (.int p), some (.int x0), some (.int y0), some (.int x4), some (.int x77), some (.int x35)]) dX0_tryAllSets_77 rfl (by decide) rfl (fun _ => rfl) (fun x77 ex77 => ?_)
          refine AW.goto 17 dX0_tryAllSets_80 (by decide) ?_
          refine AW.mask [6] [some (.ref q), some (.int p), some (.int x0), some (.int y0), some (.int x4), some (.int x77), none] rfl ?_
          exact ih17 (k17 + 1) (by omega) (by omega) _ _ (by
            have hb9 : (f_it (f_cs I q op pj a9 b9) k17 (k17 &&& (k17 - 1)) && f_cs I q op pj a9 b9 k17) = true := (by rw [q1, q2]; rfl)
            refine ⟨by omega, k_inc (by assumption) hx, fun a a6 => ?_, fun s hs => ?_, fun j hj => ?_⟩
            · rw [eI76, am_up_o _ _ _ _ a6]; exact hJo a a6
            · rw [eI76, am_up_s, hcix, f_it_n (by omega)]
              dsimp only
              by_cases e : s = k17
              · rw [if_pos e, hb9, e, pk_us]; rfl
              · rw [if_neg e, upd_o (by omega)]; exact hJi s (by omega)
            · rw [eI76, am_up_s, hcix, upd_o (by omega)]; exact hJj j hj)
  exact L17 1 (by omega) _ _ (⟨Nat.le_refl _, rfl, fun a a6 => by rw [eI13, am_up_o _ _ _ _ a6], fun s hs => by rw [show s = 0 by omega, eI13, am_up_s, hcat]; exact pk_us, fun j hj => by rw [eI13, am_up_s, hcat, upd_o (by omega)]⟩)
theorem k_m1 (x : Int32) : x + Int32.ofInt (-1) = x - 1 := by rw [Int32.sub_eq_add_neg]; rfl
/-- the fewest houses for the loaf open as k, over all who could cut it in time -/
def f_fe (hs it : Nat → Int32) (k pe : Nat) : Int32 := lfold (fun p f => if ¬ it (32 * p + 2 ^ k) = 0 then (if hs (5 * p + k) < f then hs (5 * p + k) else f) else f) 1000000 pe
def f_ff (fe : Nat → Int32) (op : Nat) : Nat → Int32
  | 0 => 0
  | r + 1 => f_ff fe op r + fe (op - (r + 1))
def f_eB (fe : Nat → Int32) (op k : Nat) : Bool := lall (fun r => decide (¬ fe (op - (r + 1)) = 1000000)) k
theorem dX0_estimate_0 : decode cX0_estimate 0 = .ok (.aload_n 0, 1) := by decide +kernel
theorem dX0_estimate_1 : decode cX0_estimate 1 = .ok (.getfield 31, 3) := by decide +kernel
theorem dX0_estimate_4 : decode cX0_estimate 4 = .ok (.aload_n 0, 1) := by decide +kernel
theorem dX0_estimate_5 : decode cX0_estimate 5 = .ok (.getfield 83, 3) := by decide +kernel
theorem dX0_estimate_8 : decode cX0_estimate 8 = .ok (.iconst 0, 1) := by decide +kernel
theorem dX0_estimate_9 : decode cX0_estimate 9 = .ok (.iastore, 1) := by decide +kernel
theorem dX0_estimate_10 : decode cX0_estimate 10 = .ok (.aload_n 0, 1) := by decide +kernel
theorem dX0_estimate_11 : decode cX0_estimate 11 = .ok (.getfield 83, 3) := by decide +kernel
theorem dX0_estimate_14 : decode cX0_estimate 14 = .ok (.iconst 1, 1) := by decide +kernel
theorem dX0_estimate_15 : decode cX0_estimate 15 = .ok (.isub, 1) := by decide +kernel
theorem dX0_estimate_16 : decode cX0_estimate 16 = .ok (.istore_n 1, 1) := by decide +kernel
theorem dX0_estimate_17 : decode cX0_estimate 17 = .ok (.iload_n 1, 1) := by decide +kernel
theorem dX0_estimate_18 : decode cX0_estimate 18 = .ok (.ifCond .lt 83, 3) := by decide +kernel
theorem dX0_estimate_21 : decode cX0_estimate 21 = .ok (.ldc 67, 2) := by decide +kernel
theorem dX0_estimate_23 : decode cX0_estimate 23 = .ok (.istore_n 2, 1) := by decide +kernel
theorem dX0_estimate_24 : decode cX0_estimate 24 = .ok (.iconst 0, 1) := by decide +kernel
theorem dX0_estimate_25 : decode cX0_estimate 25 = .ok (.istore_n 3, 1) := by decide +kernel
theorem dX0_estimate_26 : decode cX0_estimate 26 = .ok (.iload_n 3, 1) := by decide +kernel
theorem dX0_estimate_27 : decode cX0_estimate 27 = .ok (.aload_n 0, 1) := by decide +kernel
theorem dX0_estimate_28 : decode cX0_estimate 28 = .ok (.getfield 46, 3) := by decide +kernel
theorem dX0_estimate_31 : decode cX0_estimate 31 = .ok (.if_icmp .ge 40, 3) := by decide +kernel
theorem dX0_estimate_34 : decode cX0_estimate 34 = .ok (.aload_n 0, 1) := by decide +kernel
theorem dX0_estimate_35 : decode cX0_estimate 35 = .ok (.getfield 27, 3) := by decide +kernel
theorem dX0_estimate_38 : decode cX0_estimate 38 = .ok (.iload_n 3, 1) := by decide +kernel
theorem dX0_estimate_39 : decode cX0_estimate 39 = .ok (.bipush 32, 2) := by decide +kernel
theorem dX0_estimate_41 : decode cX0_estimate 41 = .ok (.imul, 1) := by decide +kernel
theorem dX0_estimate_42 : decode cX0_estimate 42 = .ok (.iconst 1, 1) := by decide +kernel
theorem dX0_estimate_43 : decode cX0_estimate 43 = .ok (.iload_n 1, 1) := by decide +kernel
theorem dX0_estimate_44 : decode cX0_estimate 44 = .ok (.ishl, 1) := by decide +kernel
theorem dX0_estimate_45 : decode cX0_estimate 45 = .ok (.iadd, 1) := by decide +kernel
theorem dX0_estimate_46 : decode cX0_estimate 46 = .ok (.baload, 1) := by decide +kernel
theorem dX0_estimate_47 : decode cX0_estimate 47 = .ok (.ifCond .eq 18, 3) := by decide +kernel
theorem dX0_estimate_50 : decode cX0_estimate 50 = .ok (.iload_n 2, 1) := by decide +kernel
theorem dX0_estimate_51 : decode cX0_estimate 51 = .ok (.aload_n 0, 1) := by decide +kernel
theorem dX0_estimate_52 : decode cX0_estimate 52 = .ok (.getfield 21, 3) := by decide +kernel
theorem dX0_estimate_55 : decode cX0_estimate 55 = .ok (.iload_n 3, 1) := by decide +kernel
theorem dX0_estimate_56 : decode cX0_estimate 56 = .ok (.iconst 5, 1) := by decide +kernel
theorem dX0_estimate_57 : decode cX0_estimate 57 = .ok (.imul, 1) := by decide +kernel
theorem dX0_estimate_58 : decode cX0_estimate 58 = .ok (.iload_n 1, 1) := by decide +kernel
theorem dX0_estimate_59 : decode cX0_estimate 59 = .ok (.iadd, 1) := by decide +kernel
theorem dX0_estimate_60 : decode cX0_estimate 60 = .ok (.iaload, 1) := by decide +kernel
theorem dX0_estimate_61 : decode cX0_estimate 61 = .ok (.invokestatic 100, 3) := by decide +kernel
theorem dX0_estimate_64 : decode cX0_estimate 64 = .ok (.istore_n 2, 1) := by decide +kernel
theorem dX0_estimate_65 : decode cX0_estimate 65 = .ok (.iinc 3 1, 3) := by decide +kernel
theorem dX0_estimate_68 : decode cX0_estimate 68 = .ok (.goto (-42), 3) := by decide +kernel
theorem dX0_estimate_71 : decode cX0_estimate 71 = .ok (.iload_n 2, 1) := by decide +kernel
theorem dX0_estimate_72 : decode cX0_estimate 72 = .ok (.ldc 67, 2) := by decide +kernel
theorem dX0_estimate_74 : decode cX0_estimate 74 = .ok (.if_icmp .ne 5, 3) := by decide +kernel
theorem dX0_estimate_77 : decode cX0_estimate 77 = .ok (.iconst 0, 1) := by decide +kernel
theorem dX0_estimate_78 : decode cX0_estimate 78 = .ok (.ireturn, 1) := by decide +kernel
theorem dX0_estimate_79 : decode cX0_estimate 79 = .ok (.aload_n 0, 1) := by decide +kernel
theorem dX0_estimate_80 : decode cX0_estimate 80 = .ok (.getfield 31, 3) := by decide +kernel
theorem dX0_estimate_83 : decode cX0_estimate 83 = .ok (.iload_n 1, 1) := by decide +kernel
theorem dX0_estimate_84 : decode cX0_estimate 84 = .ok (.aload_n 0, 1) := by decide +kernel
theorem dX0_estimate_85 : decode cX0_estimate 85 = .ok (.getfield 31, 3) := by decide +kernel
theorem dX0_estimate_88 : decode cX0_estimate 88 = .ok (.iload_n 1, 1) := by decide +kernel
theorem dX0_estimate_89 : decode cX0_estimate 89 = .ok (.iconst 1, 1) := by decide +kernel
theorem dX0_estimate_90 : decode cX0_estimate 90 = .ok (.iadd, 1) := by decide +kernel
theorem dX0_estimate_91 : decode cX0_estimate 91 = .ok (.iaload, 1) := by decide +kernel
theorem dX0_estimate_92 : decode cX0_estimate 92 = .ok (.iload_n 2, 1) := by decide +kernel
theorem dX0_estimate_93 : decode cX0_estimate 93 = .ok (.iadd, 1) := by decide +kernel
theorem dX0_estimate_94 : decode cX0_estimate 94 = .ok (.iastore, 1) := by decide +kernel
theorem dX0_estimate_95 : decode cX0_estimate 95 = .ok (.iinc 1 (-1), 3) := by decide +kernel
theorem dX0_estimate_98 : decode cX0_estimate 98 = .ok (.goto (-81), 3) := by decide +kernel
theorem dX0_estimate_101 : decode cX0_estimate 101 = .ok (.iconst 1, 1) := by decide +kernel
theorem dX0_estimate_102 : decode cX0_estimate 102 = .ok (.ireturn, 1) := by decide +kernel
set_option maxRecDepth 100000 in
set_option maxHeartbeats 4000000 in
theorem k_X0_estimate {G : am_G} (hK : k_OK G) {d : Nat} (hd : 1 ≤ d) {sh : List (Nat ⊕ (Nat × Nat))} {I : Nat → Nat → Int32} {R : Nat → Nat → Option Nat} {L : Nat → Nat → Int64} {g : Nat} {q : Nat} (hq : k_Carrier sh R q) {op : Nat} (hop : I q 3 = nI op) (hop5 : op ≤ 5) {pe : Nat} (hpe : I q 2 = nI pe) (hpe8 : pe ≤ 8) : AM G mX0_estimate d [.ref q] (sh, I, R, L, g) (fun v w => v = some (.int (kb (f_eB (fun k => f_fe (I (q + 4)) (I (q + 6)) k pe) op op))) ∧ ∃ J, w = (sh, J, R, L, g) ∧ (∀ a, a ≠ q + 7 → J a = I a) ∧ (f_eB (fun k => f_fe (I (q + 4)) (I (q + 6)) k pe) op op = true → ∀ r, r ≤ op → J (q + 7) (op - r) = f_ff (fun k => f_fe (I (q + 4)) (I (q + 6)) k pe) op r)) (fun _ _ => False) := by
  have hG := hK.1
  have hbo : vp_in (I q 3) 6 := by rw [hop]; exact vp_in_nI (by omega) (by decide)
  have hco : (I q 3).toNatClampNeg = op := k_lit hop (by omega)
  refine AM.of (n := 3) (by decide +kernel) (Nat.le_of_ble_eq_true rfl) ?_
  show AW G mX0_estimate d (fun v w => v = some (.int (kb (f_eB (fun k => f_fe (I (q + 4)) (I (q + 6)) k pe) op op))) ∧ ∃ J, w = (sh, J, R, L, g) ∧ (∀ a, a ≠ q + 7 → J a = I a) ∧ (f_eB (fun k => f_fe (I (q + 4)) (I (q + 6)) k pe) op op = true → ∀ r, r ≤ op → J (q + 7) (op - r) = f_ff (fun k => f_fe (I (q + 4)) (I (q + 6)) k pe) op r)) (fun _ _ => False) 0 [some (.ref q), none, none, none] [] (sh, I, R, L, g) 0 0
  refine AW.aload_n dX0_estimate_0 rfl ?_
  refine AW.getR (c' := (q + 7)) (fX0_31 hG).r rfl (hq.1 0 _ rfl) (hq.2 (0, 9, 7) (by decide)) dX0_estimate_1 ?_
  refine AW.aload_n dX0_estimate_4 rfl ?_
  refine AW.getI (fX0_83 hG).r rfl (hq.1 0 _ rfl) dX0_estimate_5 ?_
  refine AW.iconst 0 dX0_estimate_8 (by decide) ?_
  refine AW.iast (hq.1 7 _ rfl) (by first | assumption | (unfold vp_in; decide) | exact vp_in_nI (by omega) (by decide)) dX0_estimate_9 ?_
  refine AW.namI (fun I9 eI9 => ?_)
  refine AW.aload_n dX0_estimate_10 rfl ?_
  refine AW.getI (fX0_83 hG).r rfl (hq.1 0 _ rfl) dX0_estimate_11 ?_
  refine AW.iconst 1 dX0_estimate_14 (by decide) ?_
  refine AW.isub dX0_estimate_15 ?_
  refine AW.nam (fun x16 ex16 => ?_)
  refine AW.is_n [some (.ref q), some (.int x16), none, none] dX0_estimate_16 (by decide) rfl rfl ?_
  have L17 : ∀ k17, k17 ≤ op → ∀ (x : Int32) (J : Nat → Nat → Int32), (x = nI (op - k17) - 1 ∧ (∀ a, a ≠ q + 7 → J a = I a) ∧ (∀ r, r ≤ k17 → J (q + 7) (op - r) = f_ff (fun k => f_fe (I (q + 4)) (I (q + 6)) k pe) op r) ∧ f_eB (fun k => f_fe (I (q + 4)) (I (q + 6)) k pe) op k17 = true) → AW G mX0_estimate d (fun v w => v = some (.int (kb (f_eB (fun k => f_fe (I (q + 4)) (I (q + 6)) k pe) op op))) ∧ ∃ J, w = (sh, J, R, L, g) ∧ (∀ a, a ≠ q + 7 → J a = I a) ∧ (f_eB (fun k => f_fe (I (q + 4)) (I (q + 6)) k pe) op op = true → ∀ r, r ≤ op → J (q + 7) (op - r) = f_ff (fun k => f_fe (I (q + 4)) (I (q + 6)) k pe) op r)) (fun _ _ => False) 17 [some (.ref q), some (.int x), none, none] [] (sh, J, R, L, g) 0 0 := by
    refine am_rec op (fun k17 hk17 ih17 => ?_)
    intro x J hi17
    obtain ⟨hx, hJo, hJf, hJe⟩ := hi17
    refine AW.iload_n dX0_estimate_17 rfl ?_
    refine AW.if_lt 101 dX0_estimate_18 (by decide) (fun h18 => ?_) (fun h18 => ?_)
    · have hke : k17 = op := by
        rcases Nat.lt_or_ge k17 op with h | h
        · exact absurd h18 (by rw [hx, show op - k17 = op - 1 - k17 + 1 by omega, nI_pred]; exact nI_pos (by omega))
        · omega
      rw [hke] at hJe hJf
      refine AW.iconst 1 dX0_estimate_101 (by decide) ?_
      exact AW.zret dX0_estimate_102 rfl (by decide) (by decide) (by decide) (⟨by rw [hJe]; rfl, J, rfl, hJo, fun _ => hJf⟩)
    · have hlt : k17 < op := by
        rcases Nat.lt_or_ge k17 op with h | h
        · exact h
        · exact absurd (by rw [hx, show op - k17 = 0 by omega]; decide) h18
      have hz : x = nI (op - (k17 + 1)) := by rw [hx, show op - k17 = (op - (k17 + 1)) + 1 by omega]; exact nI_pred _
      have hcz : x.toNatClampNeg = op - (k17 + 1) := k_lit hz (by omega)
      have hJp : J q 2 = nI pe := by rw [hJo q (by omega)]; exact hpe
      have hpw5 : 2 ^ (op - (k17 + 1)) ≤ 2 ^ 4 := Nat.pow_le_pow_right (by decide) (by omega)
      refine AW.ldc 1000000 dX0_estimate_21 (k_c hG 775 (by decide +kernel) (by decide +kernel)) ?_
      refine AW.is_n [some (.ref q), some (.int x), some (.int 1000000), none] dX0_estimate_23 (by decide) rfl rfl ?_
      refine AW.iconst 0 dX0_estimate_24 (by decide) ?_
      refine AW.is_n [some (.ref q), some (.int x), some (.int 1000000), some (.int 0)] dX0_estimate_25 (by decide) rfl rfl ?_
      have L26 : ∀ k26, k26 ≤ pe → ∀ (f y : Int32), (y = nI k26 ∧ f = f_fe (I (q + 4)) (I (q + 6)) (op - (k17 + 1)) k26) → AW G mX0_estimate d (fun v w => v = some (.int (kb (f_eB (fun k => f_fe (I (q + 4)) (I (q + 6)) k pe) op op))) ∧ ∃ J, w = (sh, J, R, L, g) ∧ (∀ a, a ≠ q + 7 → J a = I a) ∧ (f_eB (fun k => f_fe (I (q + 4)) (I (q + 6)) k pe) op op = true → ∀ r, r ≤ op → J (q + 7) (op - r) = f_ff (fun k => f_fe (I (q + 4)) (I (q + 6)) k pe) op r)) (fun _ _ => False) 26 [some (.ref q), some (.int x), some (.int f), some (.int y)] [] (sh, J, R, L, g) 0 0 := by
        refine am_rec pe (fun k26 hk26 ih26 => ?_)
        intro f y hi26
        obtain ⟨hy, hf⟩ := hi26
        refine AW.iload_n dX0_estimate_26 rfl ?_
        refine AW.aload_n dX0_estimate_27 rfl ?_
        refine AW.getI (fX0_46 hG).r rfl (hq.1 0 _ rfl) dX0_estimate_28 ?_
        refine AW.icmp_ge 71 dX0_estimate_31 (by decide) (fun h31 => ?_) (fun h31 => ?_)
        · have hke := k_ge h31 hy hJp hk26 (by omega)
          refine AW.iload_n dX0_estimate_71 rfl ?_
          refine AW.ldc 1000000 dX0_estimate_72 (k_c hG 775 (by decide +kernel) (by decide +kernel)) ?_
          refine AW.icmp_ne 79 dX0_estimate_74 (by decide) (fun h74 => ?_) (fun h74 => ?_)
          · have hz1 : x + 1 = nI (op - (k17 + 1) + 1) := by rw [hz]; exact nI_1 _
            have hbz1 : vp_in (x + 1) 6 := by rw [hz1]; exact vp_in_nI (by omega) (by decide)
            have hcz1 : (x + 1).toNatClampNeg = op - (k17 + 1) + 1 := k_lit hz1 (by omega)
            have hbz6 : vp_in x 6 := by rw [hz]; exact vp_in_nI (by omega) (by decide)
            refine AW.aload_n dX0_estimate_79 rfl ?_
            refine AW.getR (c' := (q + 7)) (fX0_31 hG).r rfl (hq.1 0 _ rfl) (hq.2 (0, 9, 7) (by decide)) dX0_estimate_80 ?_
            refine AW.iload_n dX0_estimate_83 rfl ?_
            refine AW.aload_n dX0_estimate_84 rfl ?_
            refine AW.getR (c' := (q + 7)) (fX0_31 hG).r rfl (hq.1 0 _ rfl) (hq.2 (0, 9, 7) (by decide)) dX0_estimate_85 ?_
            refine AW.iload_n dX0_estimate_88 rfl ?_
            refine AW.iconst 1 dX0_estimate_89 (by decide) ?_
            refine AW.iadd dX0_estimate_90 ?_
            refine AW.iald (hq.1 7 _ rfl) (by first | assumption | (unfold vp_in; decide) | exact vp_in_nI (by omega) (by decide)) dX0_estimate_91 ?_
            refine AW.iload_n dX0_estimate_92 rfl ?_
            refine AW.iadd dX0_estimate_93 ?_
            refine AW.iast (hq.1 7 _ rfl) (by first | assumption | (unfold vp_in; decide) | exact vp_in_nI (by omega) (by decide)) dX0_estimate_94 ?_
            refine AW.namI (fun I94 eI94 => ?_)
            refine AW.inc (fun x95 => [some (.ref q), some (.int x95), some (.int f), some (.int y)]) dX0_estimate_95 rfl (by decide) rfl (fun _ => rfl) (fun x95 ex95 => ?_)
            refine AW.goto 17 dX0_estimate_98 (by decide) ?_
            refine AW.mask [2, 3] [some (.ref q), some (.int x95), none, none] rfl ?_
            exact ih17 (k17 + 1) (by omega) (by omega) _ _ (by
              have e26 : f = f_fe (I (q + 4)) (I (q + 6)) (op - (k17 + 1)) pe := by rw [hf, hke]
              refine ⟨by rw [ex95, hx, show op - k17 = (op - (k17 + 1)) + 1 by omega, nI_pred]; exact k_m1 _, fun a a7 => ?_, fun r hr => ?_, ?_⟩
              · rw [eI94, am_up_o _ _ _ _ a7]; exact hJo a a7
              · rw [eI94, am_up_s, hcz]
                by_cases e : r = k17 + 1
                · rw [e, pk_us, hcz1, show op - (k17 + 1) + 1 = op - k17 by omega, hJf k17 (Nat.le_refl _), e26]; rfl
                · rw [upd_o (by omega)]; exact hJf r (by omega)
              · show (f_eB (fun k => f_fe (I (q + 4)) (I (q + 6)) k pe) op k17 && decide (¬ f_fe (I (q + 4)) (I (q + 6)) (op - (k17 + 1)) pe = 1000000)) = true
                rw [hJe, decide_eq_true (by rw [← e26]; exact h74)]; rfl)
          · rw [hf, hke] at h74
            refine AW.iconst 0 dX0_estimate_77 (by decide) ?_
            exact AW.zret dX0_estimate_78 rfl (by decide) (by decide) (by decide) (by
              have eb : f_eB (fun k => f_fe (I (q + 4)) (I (q + 6)) k pe) op op = false := lall_no hlt (decide_eq_false (fun h => h h74))
              exact ⟨by rw [eb]; rfl, J, rfl, hJo, fun h => absurd h (by rw [eb]; decide)⟩)
        · have hlt2 := k_lt h31 hy hJp hk26 (by omega)
          have hix : y * 32 + ((1 : Int32) <<< (x &&& 31)) = nI (32 * k26 + 2 ^ (op - (k17 + 1))) := k_32 rfl hy (by rw [hz]; exact k_pow (by omega))
          have hbix : vp_in (y * 32 + ((1 : Int32) <<< (x &&& 31))) 256 := by rw [hix]; exact vp_in_nI (by omega) (by decide)
          have hcix : (y * 32 + ((1 : Int32) <<< (x &&& 31))).toNatClampNeg = 32 * k26 + 2 ^ (op - (k17 + 1)) := k_lit hix (by omega)
          have hi5 : y * 5 + x = nI (5 * k26 + (op - (k17 + 1))) := k_55 rfl hy hz
          have hb5 : vp_in (y * 5 + x) 40 := by rw [hi5]; exact vp_in_nI (by omega) (by decide)
          have hc5 : (y * 5 + x).toNatClampNeg = 5 * k26 + (op - (k17 + 1)) := k_lit hi5 (by omega)
          refine AW.aload_n dX0_estimate_34 rfl ?_
          refine AW.getR (c' := (q + 6)) (fX0_27 hG).r rfl (hq.1 0 _ rfl) (hq.2 (0, 8, 6) (by decide)) dX0_estimate_35 ?_
          refine AW.iload_n dX0_estimate_38 rfl ?_
          refine AW.bipush 32 dX0_estimate_39 (by decide) ?_
          refine AW.imul dX0_estimate_41 ?_
          refine AW.iconst 1 dX0_estimate_42 (by decide) ?_
          refine AW.iload_n dX0_estimate_43 rfl ?_
          refine AW.ishl dX0_estimate_44 ?_
          refine AW.iadd dX0_estimate_45 ?_
          refine AW.zald (hq.1 6 _ rfl) (by first | assumption | (unfold vp_in; decide) | exact vp_in_nI (by omega) (by decide)) dX0_estimate_46 ?_
          refine AW.if_eq 65 dX0_estimate_47 (by decide) (fun h47 => ?_) (fun h47 => ?_)
          · rw [hcix, hJo (q + 6) (by omega)] at h47
            refine AW.inc (fun x65 => [some (.ref q), some (.int x), some (.int f), some (.int x65)]) dX0_estimate_65 rfl (by decide) rfl (fun _ => rfl) (fun x65 ex65 => ?_)
            refine AW.goto 26 dX0_estimate_68 (by decide) ?_
            exact ih26 (k26 + 1) (by omega) (by omega) _ _ (⟨k_inc (by assumption) hy, (show _ = (if _ then (if _ then _ else _) else _) by rw [if_neg (fun h => h h47)]; exact hf)⟩)
          · rw [hcix, hJo (q + 6) (by omega)] at h47
            refine AW.iload_n dX0_estimate_50 rfl ?_
            refine AW.aload_n dX0_estimate_51 rfl ?_
            refine AW.getR (c' := (q + 4)) (fX0_21 hG).r rfl (hq.1 0 _ rfl) (hq.2 (0, 6, 4) (by decide)) dX0_estimate_52 ?_
            refine AW.iload_n dX0_estimate_55 rfl ?_
            refine AW.iconst 5 dX0_estimate_56 (by decide) ?_
            refine AW.imul dX0_estimate_57 ?_
            refine AW.iload_n dX0_estimate_58 rfl ?_
            refine AW.iadd dX0_estimate_59 ?_
            refine AW.iald (hq.1 4 _ rfl) (by first | assumption | (unfold vp_in; decide) | exact vp_in_nI (by omega) (by decide)) dX0_estimate_60 ?_
            refine AW.mmin (k_c hG 751 (by decide +kernel) (by decide +kernel)) (k_mmin hG) dX0_estimate_61 (by omega) (Nat.le_of_ble_eq_true rfl) (by decide) (by decide) ?_
            refine AW.nam (fun x64 ex64 => ?_)
            refine AW.is_n [some (.ref q), some (.int x), some (.int x64), some (.int y)] dX0_estimate_64 (by decide) rfl rfl ?_
            refine AW.inc (fun x65 => [some (.ref q), some (.int x), some (.int x64), some (.int x65)]) dX0_estimate_65 rfl (by decide) rfl (fun _ => rfl) (fun x65 ex65 => ?_)
            refine AW.goto 26 dX0_estimate_68 (by decide) ?_
            exact ih26 (k26 + 1) (by omega) (by omega) _ _ (⟨k_inc (by assumption) hy, (show _ = (if _ then (if _ then _ else _) else _) by rw [if_pos h47, ex64, hc5, hJo (q + 4) (by omega), hf]; rfl)⟩)
      exact L26 0 (by omega) _ _ (⟨nI_0.symm, rfl⟩)
  exact L17 0 (by omega) _ _ (⟨by rw [ex16, eI9, am_up_o _ _ _ _ (by omega), hop]; rfl, fun a a7 => by rw [eI9, am_up_o _ _ _ _ a7], fun r hr => by rw [show r = 0 by omega, eI9, am_up_s, hco]; exact pk_us, rfl⟩)
theorem k_set {s k : Nat} (hk : k < 5) (hs : s < 2 ^ k) : nI s ||| ((1 : Int32) <<< (nI k &&& 31)) = nI (s + 2 ^ k) ∧ nI (s + 2 ^ k) &&& (((1 : Int32) <<< (nI k &&& 31)) ^^^ (-1)) = nI s := by
  have h : ∀ k, k < 5 → ∀ s, s < 2 ^ k → nI s ||| ((1 : Int32) <<< (nI k &&& 31)) = nI (s + 2 ^ k) ∧ nI (s + 2 ^ k) &&& (((1 : Int32) <<< (nI k &&& 31)) ^^^ (-1)) = nI s := by decide +kernel
  exact h k hk s hs
abbrev f_PS := Int32 × (Nat → Int32) × (Nat → Int32)
def f_plb (hs it ff : Nat → Int32) (rc : Int32 → (Nat → Int32) → f_PS → f_PS) (k : Nat) (c : Int32) (S : Nat → Int32) (p : Nat) (s : f_PS) : f_PS :=
  if it (32 * p + (S p ||| ((1 : Int32) <<< (nI k &&& 31))).toNatClampNeg) = 0 then s
  else if s.1 ≤ c + hs (5 * p + k) + ff (k + 1) then s
  else rc (c + hs (5 * p + k)) (upd S p (S p ||| ((1 : Int32) <<< (nI k &&& 31)))) (s.1, s.2.1, upd s.2.2 k (nI p))
theorem f_plb_0 {hs it ff : Nat → Int32} {rc : Int32 → (Nat → Int32) → f_PS → f_PS} {k : Nat} {c : Int32} {S : Nat → Int32} {p : Nat} {s : f_PS} (h : it (32 * p + (S p ||| ((1 : Int32) <<< (nI k &&& 31))).toNatClampNeg) = 0) : f_plb hs it ff rc k c S p s = s := if_pos h
theorem f_plb_1 {hs it ff : Nat → Int32} {rc : Int32 → (Nat → Int32) → f_PS → f_PS} {k : Nat} {c : Int32} {S : Nat → Int32} {p : Nat} {s : f_PS} (h : ¬ it (32 * p + (S p ||| ((1 : Int32) <<< (nI k &&& 31))).toNatClampNeg) = 0) (h2 : s.1 ≤ c + hs (5 * p + k) + ff (k + 1)) : f_plb hs it ff rc k c S p s = s := by unfold f_plb; rw [if_neg h, if_pos h2]
theorem f_plb_2 {hs it ff : Nat → Int32} {rc : Int32 → (Nat → Int32) → f_PS → f_PS} {k : Nat} {c : Int32} {S : Nat → Int32} {p : Nat} {s : f_PS} (h : ¬ it (32 * p + (S p ||| ((1 : Int32) <<< (nI k &&& 31))).toNatClampNeg) = 0) (h2 : ¬ s.1 ≤ c + hs (5 * p + k) + ff (k + 1)) : f_plb hs it ff rc k c S p s = rc (c + hs (5 * p + k)) (upd S p (S p ||| ((1 : Int32) <<< (nI k &&& 31)))) (s.1, s.2.1, upd s.2.2 k (nI p)) := by unfold f_plb; rw [if_neg h, if_neg h2]
/-- the loaves from k on are given to somebody each, r of them, at the cost c so far -/
def f_pl (hs it ff lo : Nat → Int32) (op pe : Nat) : Nat → Nat → Int32 → (Nat → Int32) → f_PS → f_PS
  | 0, _, c, _, s => (c, f_kr lo s.2.2 (f_fill s.2.1 (-1) 6) op, s.2.2)
  | r + 1, k, c, S, s => lfold (fun p s => f_plb hs it ff (f_pl hs it ff lo op pe r (k + 1)) k c S p s) s pe
theorem dX0_place_0 : decode cX0_place 0 = .ok (.iload_n 1, 1) := by decide +kernel
theorem dX0_place_1 : decode cX0_place 1 = .ok (.aload_n 0, 1) := by decide +kernel
theorem dX0_place_2 : decode cX0_place 2 = .ok (.getfield 83, 3) := by decide +kernel
theorem dX0_place_5 : decode cX0_place 5 = .ok (.if_icmp .lt 9, 3) := by decide +kernel
theorem dX0_place_8 : decode cX0_place 8 = .ok (.aload_n 0, 1) := by decide +kernel
theorem dX0_place_9 : decode cX0_place 9 = .ok (.iload_n 2, 1) := by decide +kernel
theorem dX0_place_10 : decode cX0_place 10 = .ok (.invokevirtual 134, 3) := by decide +kernel
theorem dX0_place_13 : decode cX0_place 13 = .ok (.return_, 1) := by decide +kernel
theorem dX0_place_14 : decode cX0_place 14 = .ok (.iconst 0, 1) := by decide +kernel
theorem dX0_place_15 : decode cX0_place 15 = .ok (.istore_n 3, 1) := by decide +kernel
theorem dX0_place_16 : decode cX0_place 16 = .ok (.iload_n 3, 1) := by decide +kernel
theorem dX0_place_17 : decode cX0_place 17 = .ok (.aload_n 0, 1) := by decide +kernel
theorem dX0_place_18 : decode cX0_place 18 = .ok (.getfield 46, 3) := by decide +kernel
theorem dX0_place_21 : decode cX0_place 21 = .ok (.if_icmp .ge 106, 3) := by decide +kernel
theorem dX0_place_24 : decode cX0_place 24 = .ok (.aload_n 0, 1) := by decide +kernel
theorem dX0_place_25 : decode cX0_place 25 = .ok (.getfield 37, 3) := by decide +kernel
theorem dX0_place_28 : decode cX0_place 28 = .ok (.iload_n 3, 1) := by decide +kernel
theorem dX0_place_29 : decode cX0_place 29 = .ok (.iaload, 1) := by decide +kernel
theorem dX0_place_30 : decode cX0_place 30 = .ok (.iconst 1, 1) := by decide +kernel
theorem dX0_place_31 : decode cX0_place 31 = .ok (.iload_n 1, 1) := by decide +kernel
theorem dX0_place_32 : decode cX0_place 32 = .ok (.ishl, 1) := by decide +kernel
theorem dX0_place_33 : decode cX0_place 33 = .ok (.ior, 1) := by decide +kernel
theorem dX0_place_34 : decode cX0_place 34 = .ok (.istore 4, 2) := by decide +kernel
theorem dX0_place_36 : decode cX0_place 36 = .ok (.aload_n 0, 1) := by decide +kernel
theorem dX0_place_37 : decode cX0_place 37 = .ok (.getfield 27, 3) := by decide +kernel
theorem dX0_place_40 : decode cX0_place 40 = .ok (.iload_n 3, 1) := by decide +kernel
theorem dX0_place_41 : decode cX0_place 41 = .ok (.bipush 32, 2) := by decide +kernel
theorem dX0_place_43 : decode cX0_place 43 = .ok (.imul, 1) := by decide +kernel
theorem dX0_place_44 : decode cX0_place 44 = .ok (.iload 4, 2) := by decide +kernel
theorem dX0_place_46 : decode cX0_place 46 = .ok (.iadd, 1) := by decide +kernel
theorem dX0_place_47 : decode cX0_place 47 = .ok (.baload, 1) := by decide +kernel
theorem dX0_place_48 : decode cX0_place 48 = .ok (.ifCond .eq 73, 3) := by decide +kernel
theorem dX0_place_51 : decode cX0_place 51 = .ok (.iload_n 2, 1) := by decide +kernel
theorem dX0_place_52 : decode cX0_place 52 = .ok (.aload_n 0, 1) := by decide +kernel
theorem dX0_place_53 : decode cX0_place 53 = .ok (.getfield 21, 3) := by decide +kernel
theorem dX0_place_56 : decode cX0_place 56 = .ok (.iload_n 3, 1) := by decide +kernel
theorem dX0_place_57 : decode cX0_place 57 = .ok (.iconst 5, 1) := by decide +kernel
theorem dX0_place_58 : decode cX0_place 58 = .ok (.imul, 1) := by decide +kernel
theorem dX0_place_59 : decode cX0_place 59 = .ok (.iload_n 1, 1) := by decide +kernel
theorem dX0_place_60 : decode cX0_place 60 = .ok (.iadd, 1) := by decide +kernel
theorem dX0_place_61 : decode cX0_place 61 = .ok (.iaload, 1) := by decide +kernel
theorem dX0_place_62 : decode cX0_place 62 = .ok (.iadd, 1) := by decide +kernel
theorem dX0_place_63 : decode cX0_place 63 = .ok (.istore 5, 2) := by decide +kernel
theorem dX0_place_65 : decode cX0_place 65 = .ok (.iload 5, 2) := by decide +kernel
theorem dX0_place_67 : decode cX0_place 67 = .ok (.aload_n 0, 1) := by decide +kernel
theorem dX0_place_68 : decode cX0_place 68 = .ok (.getfield 31, 3) := by decide +kernel
theorem dX0_place_71 : decode cX0_place 71 = .ok (.iload_n 1, 1) := by decide +kernel
theorem dX0_place_72 : decode cX0_place 72 = .ok (.iconst 1, 1) := by decide +kernel
theorem dX0_place_73 : decode cX0_place 73 = .ok (.iadd, 1) := by decide +kernel
theorem dX0_place_74 : decode cX0_place 74 = .ok (.iaload, 1) := by decide +kernel
theorem dX0_place_75 : decode cX0_place 75 = .ok (.iadd, 1) := by decide +kernel
theorem dX0_place_76 : decode cX0_place 76 = .ok (.aload_n 0, 1) := by decide +kernel
theorem dX0_place_77 : decode cX0_place 77 = .ok (.getfield 68, 3) := by decide +kernel
theorem dX0_place_80 : decode cX0_place 80 = .ok (.if_icmp .ge 41, 3) := by decide +kernel
theorem dX0_place_83 : decode cX0_place 83 = .ok (.aload_n 0, 1) := by decide +kernel
theorem dX0_place_84 : decode cX0_place 84 = .ok (.getfield 34, 3) := by decide +kernel
theorem dX0_place_87 : decode cX0_place 87 = .ok (.iload_n 1, 1) := by decide +kernel
theorem dX0_place_88 : decode cX0_place 88 = .ok (.iload_n 3, 1) := by decide +kernel
theorem dX0_place_89 : decode cX0_place 89 = .ok (.iastore, 1) := by decide +kernel
theorem dX0_place_90 : decode cX0_place 90 = .ok (.aload_n 0, 1) := by decide +kernel
theorem dX0_place_91 : decode cX0_place 91 = .ok (.getfield 37, 3) := by decide +kernel
theorem dX0_place_94 : decode cX0_place 94 = .ok (.iload_n 3, 1) := by decide +kernel
theorem dX0_place_95 : decode cX0_place 95 = .ok (.iload 4, 2) := by decide +kernel
theorem dX0_place_97 : decode cX0_place 97 = .ok (.iastore, 1) := by decide +kernel
theorem dX0_place_98 : decode cX0_place 98 = .ok (.aload_n 0, 1) := by decide +kernel
theorem dX0_place_99 : decode cX0_place 99 = .ok (.iload_n 1, 1) := by decide +kernel
theorem dX0_place_100 : decode cX0_place 100 = .ok (.iconst 1, 1) := by decide +kernel
theorem dX0_place_101 : decode cX0_place 101 = .ok (.iadd, 1) := by decide +kernel
theorem dX0_place_102 : decode cX0_place 102 = .ok (.iload 5, 2) := by decide +kernel
theorem dX0_place_104 : decode cX0_place 104 = .ok (.invokevirtual 75, 3) := by decide +kernel
theorem dX0_place_107 : decode cX0_place 107 = .ok (.aload_n 0, 1) := by decide +kernel
theorem dX0_place_108 : decode cX0_place 108 = .ok (.getfield 37, 3) := by decide +kernel
theorem dX0_place_111 : decode cX0_place 111 = .ok (.iload_n 3, 1) := by decide +kernel
theorem dX0_place_112 : decode cX0_place 112 = .ok (.iload 4, 2) := by decide +kernel
theorem dX0_place_114 : decode cX0_place 114 = .ok (.iconst 1, 1) := by decide +kernel
theorem dX0_place_115 : decode cX0_place 115 = .ok (.iload_n 1, 1) := by decide +kernel
theorem dX0_place_116 : decode cX0_place 116 = .ok (.ishl, 1) := by decide +kernel
theorem dX0_place_117 : decode cX0_place 117 = .ok (.iconst (-1), 1) := by decide +kernel
theorem dX0_place_118 : decode cX0_place 118 = .ok (.ixor, 1) := by decide +kernel
theorem dX0_place_119 : decode cX0_place 119 = .ok (.iand, 1) := by decide +kernel
theorem dX0_place_120 : decode cX0_place 120 = .ok (.iastore, 1) := by decide +kernel
theorem dX0_place_121 : decode cX0_place 121 = .ok (.iinc 3 1, 3) := by decide +kernel
theorem dX0_place_124 : decode cX0_place 124 = .ok (.goto (-108), 3) := by decide +kernel
theorem dX0_place_127 : decode cX0_place 127 = .ok (.return_, 1) := by decide +kernel
set_option maxRecDepth 100000 in
set_option maxHeartbeats 4000000 in
theorem k_X0_place0 {G : am_G} (hK : k_OK G) {d : Nat} (hd : 2 ≤ d) {sh : List (Nat ⊕ (Nat × Nat))} {I : Nat → Nat → Int32} {R : Nat → Nat → Option Nat} {L : Nat → Nat → Int64} {g : Nat} {q op pe : Nat} (hq : k_Carrier sh R q) (hop : I q 3 = nI op) (hop5 : op ≤ 5) (hpe : I q 2 = nI pe) (hpe8 : pe ≤ 8) (hlo : ∀ k, k < op → vp_in (I (q + 2) k) 6) {k : Nat} (x c : Int32) (hx : x = nI k) (hS : ∀ p, p < pe → ∃ s, s < 2 ^ k ∧ I (q + 9) p = nI s) (hk : k = op) : AM G mX0_place d [.ref q, .int x, .int c] (sh, I, R, L, g) (fun v w => v = none ∧ w = (sh, f_pW I q (f_pl (I (q + 4)) (I (q + 6)) (I (q + 7)) (I (q + 2)) op pe 0 k c (I (q + 9)) (I q 1, I (q + 1), I (q + 8))), R, L, g)) (fun _ _ => False) := by
  have hG := hK.1
  refine AM.of (n := 3) (by decide +kernel) (Nat.le_of_ble_eq_true rfl) ?_
  show AW G mX0_place d (fun v w => v = none ∧ w = (sh, f_pW I q (f_pl (I (q + 4)) (I (q + 6)) (I (q + 7)) (I (q + 2)) op pe 0 k c (I (q + 9)) (I q 1, I (q + 1), I (q + 8))), R, L, g)) (fun _ _ => False) 0 [some (.ref q), some (.int x), some (.int c), none, none, none] [] (sh, I, R, L, g) 0 0
  refine AW.iload_n dX0_place_0 rfl ?_
  refine AW.aload_n dX0_place_1 rfl ?_
  refine AW.getI (fX0_83 hG).r rfl (hq.1 0 _ rfl) dX0_place_2 ?_
  refine AW.icmp_lt 14 dX0_place_5 (by decide) (fun h5 => ?_) (fun h5 => ?_)
  · exact absurd ((nI_ltl hx hop (by omega) (by omega)).mp h5) (by omega)
  · refine AW.aload_n dX0_place_8 rfl ?_
    refine AW.iload_n dX0_place_9 rfl ?_
    refine AW.callV (b := q) (As := [.int c]) hG.2.2 (vX0_134 hG) (hq.1 0 _ rfl) (k_X0_keepBest hK (d := 1) (Nat.le_refl _) hq (by assumption) (by omega) (by assumption) c) (by omega) dX0_place_10 rfl rfl (Nat.le_of_ble_eq_true rfl) (fun v w9 hq9 h09 => by obtain ⟨rfl, rfl⟩ := hq9; exact ⟨h09, rfl⟩) (by decide) (by decide) (fun _ _ hx => hx) (fun v10 w10 hq10 => ?_)
    obtain ⟨rfl, rfl⟩ := hq10
    refine AW.namI (fun I10 eI10 => ?_)
    show AW G mX0_place d (fun v w => v = none ∧ w = (sh, f_pW I q (f_pl (I (q + 4)) (I (q + 6)) (I (q + 7)) (I (q + 2)) op pe 0 k c (I (q + 9)) (I q 1, I (q + 1), I (q + 8))), R, L, g)) (fun _ _ => False) 13 [some (.ref q), some (.int x), some (.int c), none, none, none] [] (sh, I10, R, L, g) 0 0
    exact AW.vret dX0_place_13 rfl (by decide) (by decide) (⟨rfl, by rw [eI10]; rfl⟩)
set_option maxRecDepth 100000 in
set_option maxHeartbeats 4000000 in
theorem k_X0_placeS {G : am_G} (hK : k_OK G) {r : Nat} {d : Nat} (hd : r + 3 ≤ d) {sh : List (Nat ⊕ (Nat × Nat))} {I : Nat → Nat → Int32} {R : Nat → Nat → Option Nat} {L : Nat → Nat → Int64} {g : Nat} {q op pe : Nat} (hq : k_Carrier sh R q) (hop : I q 3 = nI op) (hop5 : op ≤ 5) (hpe : I q 2 = nI pe) (hpe8 : pe ≤ 8) (hlo : ∀ k, k < op → vp_in (I (q + 2) k) 6) {k : Nat} (x c : Int32) (hx : x = nI k) (hS : ∀ p, p < pe → ∃ s, s < 2 ^ k ∧ I (q + 9) p = nI s) (ih : ∀ (_ : k_OK G) {d : Nat} (_ : r + 2 ≤ d) {I : Nat → Nat → Int32} (hop : I q 3 = nI op) (hpe : I q 2 = nI pe) (hlo : ∀ k, k < op → vp_in (I (q + 2) k) 6) {k : Nat} (x c : Int32) (hx : x = nI k) (hk : k + r = op) (hS : ∀ p, p < pe → ∃ s, s < 2 ^ k ∧ I (q + 9) p = nI s), AM G mX0_place d [.ref q, .int x, .int c] (sh, I, R, L, g) (fun v w => v = none ∧ w = (sh, f_pW I q (f_pl (I (q + 4)) (I (q + 6)) (I (q + 7)) (I (q + 2)) op pe r k c (I (q + 9)) (I q 1, I (q + 1), I (q + 8))), R, L, g)) (fun _ _ => False)) (hk : k + (r + 1) = op) : AM G mX0_place d [.ref q, .int x, .int c] (sh, I, R, L, g) (fun v w => v = none ∧ w = (sh, f_pW I q (f_pl (I (q + 4)) (I (q + 6)) (I (q + 7)) (I (q + 2)) op pe (r + 1) k c (I (q + 9)) (I q 1, I (q + 1), I (q + 8))), R, L, g)) (fun _ _ => False) := by
  have hG := hK.1
  have hk5 : k < 5 := by omega
  have hcx : x.toNatClampNeg = k := k_lit hx (by omega)
  have hbx : vp_in x 5 := by rw [hx]; exact vp_in_nI hk5 (by decide)
  have hx1 : x + 1 = nI (k + 1) := by rw [hx]; exact nI_1 _
  have hcx1 : (x + 1).toNatClampNeg = k + 1 := k_lit hx1 (by omega)
  have hbx1 : vp_in (x + 1) 6 := by rw [hx1]; exact vp_in_nI (by omega) (by decide)
  have hp1 : 2 ^ k ≤ 2 ^ 4 := Nat.pow_le_pow_right (by decide) (by omega)
  have hp2 : 2 ^ (k + 1) = 2 ^ k + 2 ^ k := by rw [Nat.pow_succ]; omega
  refine AM.of (n := 3) (by decide +kernel) (Nat.le_of_ble_eq_true rfl) ?_
  show AW G mX0_place d (fun v w => v = none ∧ w = (sh, f_pW I q (f_pl (I (q + 4)) (I (q + 6)) (I (q + 7)) (I (q + 2)) op pe (r + 1) k c (I (q + 9)) (I q 1, I (q + 1), I (q + 8))), R, L, g)) (fun _ _ => False) 0 [some (.ref q), some (.int x), some (.int c), none, none, none] [] (sh, I, R, L, g) 0 0
  refine AW.iload_n dX0_place_0 rfl ?_
  refine AW.aload_n dX0_place_1 rfl ?_
  refine AW.getI (fX0_83 hG).r rfl (hq.1 0 _ rfl) dX0_place_2 ?_
  refine AW.icmp_lt 14 dX0_place_5 (by decide) (fun h5 => ?_) (fun h5 => ?_)
  · refine AW.iconst 0 dX0_place_14 (by decide) ?_
    refine AW.is_n [some (.ref q), some (.int x), some (.int c), some (.int 0), none, none] dX0_place_15 (by decide) rfl rfl ?_
    have L16 : ∀ k16, k16 ≤ pe → ∀ (y : Int32) (J : Nat → Nat → Int32), (y = nI k16 ∧ J = f_pW I q (lfold (fun p s => f_plb (I (q + 4)) (I (q + 6)) (I (q + 7)) (f_pl (I (q + 4)) (I (q + 6)) (I (q + 7)) (I (q + 2)) op pe r (k + 1)) k c (I (q + 9)) p s) (I q 1, I (q + 1), I (q + 8)) k16)) → AW G mX0_place d (fun v w => v = none ∧ w = (sh, f_pW I q (f_pl (I (q + 4)) (I (q + 6)) (I (q + 7)) (I (q + 2)) op pe (r + 1) k c (I (q + 9)) (I q 1, I (q + 1), I (q + 8))), R, L, g)) (fun _ _ => False) 16 [some (.ref q), some (.int x), some (.int c), some (.int y), none, none] [] (sh, J, R, L, g) 0 0 := by
      refine am_rec pe (fun k16 hk16 ih16 => ?_)
      intro y J hi16
      obtain ⟨hy, hJ⟩ := hi16
      have qJo : ∀ a, a ≠ q → a ≠ q + 1 → a ≠ q + 8 → J a = I a := fun a a0 a1 a8 => by rw [hJ, f_pW_o _ _ _ a0 a1 a8]
      have hJp : J q 2 = nI pe := by rw [hJ, f_pW_0]; exact hpe
      have hJq : J q 3 = nI op := by rw [hJ, f_pW_0]; exact hop
      have qJ0 : J q 1 = (lfold (fun p s => f_plb (I (q + 4)) (I (q + 6)) (I (q + 7)) (f_pl (I (q + 4)) (I (q + 6)) (I (q + 7)) (I (q + 2)) op pe r (k + 1)) k c (I (q + 9)) p s) (I q 1, I (q + 1), I (q + 8)) k16).1 := by rw [hJ, f_pW_0]; exact pk_us
      have qJ1 : J (q + 1) = (lfold (fun p s => f_plb (I (q + 4)) (I (q + 6)) (I (q + 7)) (f_pl (I (q + 4)) (I (q + 6)) (I (q + 7)) (I (q + 2)) op pe r (k + 1)) k c (I (q + 9)) p s) (I q 1, I (q + 1), I (q + 8)) k16).2.1 := by rw [hJ, f_pW_1]
      have qJ8 : J (q + 8) = (lfold (fun p s => f_plb (I (q + 4)) (I (q + 6)) (I (q + 7)) (f_pl (I (q + 4)) (I (q + 6)) (I (q + 7)) (I (q + 2)) op pe r (k + 1)) k c (I (q + 9)) p s) (I q 1, I (q + 1), I (q + 8)) k16).2.2 := by rw [hJ, f_pW_8]
      have qJ2 := qJo (q + 2) (by omega) (by omega) (by omega)
      have qJ4 := qJo (q + 4) (by omega) (by omega) (by omega)
      have qJ6 := qJo (q + 6) (by omega) (by omega) (by omega)
      have qJ7 := qJo (q + 7) (by omega) (by omega) (by omega)
      have qJ9 := qJo (q + 9) (by omega) (by omega) (by omega)
      refine AW.iload_n dX0_place_16 rfl ?_
      refine AW.aload_n dX0_place_17 rfl ?_
      refine AW.getI (fX0_46 hG).r rfl (hq.1 0 _ rfl) dX0_place_18 ?_
      refine AW.icmp_ge 127 dX0_place_21 (by decide) (fun h21 => ?_) (fun h21 => ?_)
      · have hke := k_ge h21 hy hJp hk16 (by omega)
        rw [hke] at hJ
        exact AW.vret dX0_place_127 rfl (by decide) (by decide) (⟨rfl, by rw [hJ]; rfl⟩)
      · have hlt := k_lt h21 hy hJp hk16 (by omega)
        have hby : vp_in y 8 := by rw [hy]; exact vp_in_nI (by omega) (by decide)
        have hcy : y.toNatClampNeg = k16 := k_lit hy (by omega)
        refine AW.aload_n dX0_place_24 rfl ?_
        refine AW.getR (c' := (q + 9)) (fX0_37 hG).r rfl (hq.1 0 _ rfl) (hq.2 (0, 11, 9) (by decide)) dX0_place_25 ?_
        refine AW.iload_n dX0_place_28 rfl ?_
        refine AW.iald (hq.1 9 _ rfl) (by first | assumption | (unfold vp_in; decide) | exact vp_in_nI (by omega) (by decide)) dX0_place_29 ?_
        refine AW.iconst 1 dX0_place_30 (by decide) ?_
        refine AW.iload_n dX0_place_31 rfl ?_
        refine AW.ishl dX0_place_32 ?_
        refine AW.ior dX0_place_33 ?_
        refine AW.nam (fun x34 ex34 => ?_)
        refine AW.is [some (.ref q), some (.int x), some (.int c), some (.int y), some (.int x34), none] dX0_place_34 (by decide) rfl rfl ?_
        obtain ⟨s, hs, hIs⟩ := hS k16 hlt
        have h34S : x34 = I (q + 9) k16 ||| ((1 : Int32) <<< (nI k &&& 31)) := by rw [ex34, hcy, qJ9, hx]
        have h34 : x34 = nI (s + 2 ^ k) := by rw [h34S, hIs]; exact (k_set hk5 hs).1
        have hc34 : x34.toNatClampNeg = s + 2 ^ k := k_lit h34 (by omega)
        have hix : y * 32 + x34 = nI (32 * k16 + x34.toNatClampNeg) := k_32 rfl hy (by rw [hc34]; exact h34)
        have hbix : vp_in (y * 32 + x34) 256 := by rw [hix, hc34]; exact vp_in_nI (by omega) (by decide)
        have hcix : (y * 32 + x34).toNatClampNeg = 32 * k16 + x34.toNatClampNeg := k_lit hix (by omega)
        have hi5 : y * 5 + x = nI (5 * k16 + k) := k_55 rfl hy hx
        have hb5 : vp_in (y * 5 + x) 40 := by rw [hi5]; exact vp_in_nI (by omega) (by decide)
        have hc5 : (y * 5 + x).toNatClampNeg = 5 * k16 + k := k_lit hi5 (by omega)
        refine AW.aload_n dX0_place_36 rfl ?_
        refine AW.getR (c' := (q + 6)) (fX0_27 hG).r rfl (hq.1 0 _ rfl) (hq.2 (0, 8, 6) (by decide)) dX0_place_37 ?_
        refine AW.iload_n dX0_place_40 rfl ?_
        refine AW.bipush 32 dX0_place_41 (by decide) ?_
        refine AW.imul dX0_place_43 ?_
        refine AW.iload dX0_place_44 rfl ?_
        refine AW.iadd dX0_place_46 ?_
        refine AW.zald (hq.1 6 _ rfl) (by first | assumption | (unfold vp_in; decide) | exact vp_in_nI (by omega) (by decide)) dX0_place_47 ?_
        refine AW.if_eq 121 dX0_place_48 (by decide) (fun h48 => ?_) (fun h48 => ?_)
        · rw [hcix, qJ6, h34S] at h48
          refine AW.inc (fun x121 => [some (.ref q), some (.int x), some (.int c), some (.int x121), some (.int x34), none]) dX0_place_121 rfl (by decide) rfl (fun _ => rfl) (fun x121 ex121 => ?_)
          refine AW.goto 16 dX0_place_124 (by decide) ?_
          refine AW.mask [4, 5] [some (.ref q), some (.int x), some (.int c), some (.int x121), none, none] rfl ?_
          exact ih16 (k16 + 1) (by omega) (by omega) _ _ (by
            have en : lfold (fun p s => f_plb (I (q + 4)) (I (q + 6)) (I (q + 7)) (f_pl (I (q + 4)) (I (q + 6)) (I (q + 7)) (I (q + 2)) op pe r (k + 1)) k c (I (q + 9)) p s) (I q 1, I (q + 1), I (q + 8)) (k16 + 1) = f_plb (I (q + 4)) (I (q + 6)) (I (q + 7)) (f_pl (I (q + 4)) (I (q + 6)) (I (q + 7)) (I (q + 2)) op pe r (k + 1)) k c (I (q + 9)) k16 (lfold (fun p s => f_plb (I (q + 4)) (I (q + 6)) (I (q + 7)) (f_pl (I (q + 4)) (I (q + 6)) (I (q + 7)) (I (q + 2)) op pe r (k + 1)) k c (I (q + 9)) p s) (I q 1, I (q + 1), I (q + 8)) k16) := rfl
            refine ⟨k_inc (by assumption) hy, ?_⟩
            rw [en, f_plb_0 h48]; exact hJ)
        · rw [hcix, qJ6, h34S] at h48
          refine AW.iload_n dX0_place_51 rfl ?_
          refine AW.aload_n dX0_place_52 rfl ?_
          refine AW.getR (c' := (q + 4)) (fX0_21 hG).r rfl (hq.1 0 _ rfl) (hq.2 (0, 6, 4) (by decide)) dX0_place_53 ?_
          refine AW.iload_n dX0_place_56 rfl ?_
          refine AW.iconst 5 dX0_place_57 (by decide) ?_
          refine AW.imul dX0_place_58 ?_
          refine AW.iload_n dX0_place_59 rfl ?_
          refine AW.iadd dX0_place_60 ?_
          refine AW.iald (hq.1 4 _ rfl) (by first | assumption | (unfold vp_in; decide) | exact vp_in_nI (by omega) (by decide)) dX0_place_61 ?_
          refine AW.iadd dX0_place_62 ?_
          refine AW.nam (fun x63 ex63 => ?_)
          refine AW.is [some (.ref q), some (.int x), some (.int c), some (.int y), some (.int x34), some (.int x63)] dX0_place_63 (by decide) rfl rfl ?_
          have h63 : x63 = c + I (q + 4) (5 * k16 + k) := by rw [ex63, hc5, qJ4]
          refine AW.iload dX0_place_65 rfl ?_
          refine AW.aload_n dX0_place_67 rfl ?_
          refine AW.getR (c' := (q + 7)) (fX0_31 hG).r rfl (hq.1 0 _ rfl) (hq.2 (0, 9, 7) (by decide)) dX0_place_68 ?_
          refine AW.iload_n dX0_place_71 rfl ?_
          refine AW.iconst 1 dX0_place_72 (by decide) ?_
          refine AW.iadd dX0_place_73 ?_
          refine AW.iald (hq.1 7 _ rfl) (by first | assumption | (unfold vp_in; decide) | exact vp_in_nI (by omega) (by decide)) dX0_place_74 ?_
          refine AW.iadd dX0_place_75 ?_
          refine AW.aload_n dX0_place_76 rfl ?_
          refine AW.getI (fX0_68 hG).r rfl (hq.1 0 _ rfl) dX0_place_77 ?_
          refine AW.icmp_ge 121 dX0_place_80 (by decide) (fun h80 => ?_) (fun h80 => ?_)
          · rw [h63, hcx1, qJ7, qJ0] at h80
            refine AW.inc (fun x121 => [some (.ref q), some (.int x), some (.int c), some (.int x121), some (.int x34), some (.int x63)]) dX0_place_121 rfl (by decide) rfl (fun _ => rfl) (fun x121 ex121 => ?_)
            refine AW.goto 16 dX0_place_124 (by decide) ?_
            refine AW.mask [4, 5] [some (.ref q), some (.int x), some (.int c), some (.int x121), none, none] rfl ?_
            exact ih16 (k16 + 1) (by omega) (by omega) _ _ (by
              have en : lfold (fun p s => f_plb (I (q + 4)) (I (q + 6)) (I (q + 7)) (f_pl (I (q + 4)) (I (q + 6)) (I (q + 7)) (I (q + 2)) op pe r (k + 1)) k c (I (q + 9)) p s) (I q 1, I (q + 1), I (q + 8)) (k16 + 1) = f_plb (I (q + 4)) (I (q + 6)) (I (q + 7)) (f_pl (I (q + 4)) (I (q + 6)) (I (q + 7)) (I (q + 2)) op pe r (k + 1)) k c (I (q + 9)) k16 (lfold (fun p s => f_plb (I (q + 4)) (I (q + 6)) (I (q + 7)) (f_pl (I (q + 4)) (I (q + 6)) (I (q + 7)) (I (q + 2)) op pe r (k + 1)) k c (I (q + 9)) p s) (I q 1, I (q + 1), I (q + 8)) k16) := rfl
              refine ⟨k_inc (by assumption) hy, ?_⟩
              rw [en, f_plb_1 h48 h80]; exact hJ)
          · rw [h63, hcx1, qJ7, qJ0] at h80
            refine AW.aload_n dX0_place_83 rfl ?_
            refine AW.getR (c' := (q + 8)) (fX0_34 hG).r rfl (hq.1 0 _ rfl) (hq.2 (0, 10, 8) (by decide)) dX0_place_84 ?_
            refine AW.iload_n dX0_place_87 rfl ?_
            refine AW.iload_n dX0_place_88 rfl ?_
            refine AW.iast (hq.1 8 _ rfl) (by first | assumption | (unfold vp_in; decide) | exact vp_in_nI (by omega) (by decide)) dX0_place_89 ?_
            refine AW.namI (fun I89 eI89 => ?_)
            refine AW.aload_n dX0_place_90 rfl ?_
            refine AW.getR (c' := (q + 9)) (fX0_37 hG).r rfl (hq.1 0 _ rfl) (hq.2 (0, 11, 9) (by decide)) dX0_place_91 ?_
            refine AW.iload_n dX0_place_94 rfl ?_
            refine AW.iload dX0_place_95 rfl ?_
            refine AW.iast (hq.1 9 _ rfl) (by first | assumption | (unfold vp_in; decide) | exact vp_in_nI (by omega) (by decide)) dX0_place_97 ?_
            refine AW.namI (fun I97 eI97 => ?_)
            have q97 : ∀ a, a ≠ q + 8 → a ≠ q + 9 → I97 a = J a := fun a a8 a9 => by rw [eI97, am_up_o _ _ _ _ a9, eI89, am_up_o _ _ _ _ a8]
            have q97_8 : I97 (q + 8) = upd (J (q + 8)) x.toNatClampNeg y := by rw [eI97, am_up_o _ _ _ _ (by omega), eI89, am_up_s]
            have q97_9 : I97 (q + 9) = upd (J (q + 9)) k16 x34 := by rw [eI97, am_up_s, hcy, eI89, am_up_o _ _ _ _ (by omega)]
            have h97o : I97 q 3 = nI op := by rw [q97 q (by omega) (by omega)]; exact hJq
            have h97p : I97 q 2 = nI pe := by rw [q97 q (by omega) (by omega)]; exact hJp
            have h97l : ∀ k, k < op → vp_in (I97 (q + 2) k) 6 := fun k hk => by rw [q97 (q + 2) (by omega) (by omega), qJ2]; exact hlo k hk
            have h97S : ∀ p, p < pe → ∃ s, s < 2 ^ (k + 1) ∧ I97 (q + 9) p = nI s := fun p hp => by
              by_cases e : p = k16
              · exact ⟨s + 2 ^ k, by omega, by rw [q97_9, e, pk_us]; exact h34⟩
              · obtain ⟨s9, h1, h2⟩ := hS p hp; exact ⟨s9, by omega, by rw [q97_9, upd_o e, qJ9]; exact h2⟩
            refine AW.aload_n dX0_place_98 rfl ?_
            refine AW.iload_n dX0_place_99 rfl ?_
            refine AW.iconst 1 dX0_place_100 (by decide) ?_
            refine AW.iadd dX0_place_101 ?_
            refine AW.iload dX0_place_102 rfl ?_
            refine AW.callV (b := q) (As := [.int (x + 1), .int x63]) hG.2.2 (vX0_75 hG) (hq.1 0 _ rfl) (ih hK (d := r + 2) (Nat.le_refl _) (by assumption) (by assumption) (by assumption) (x + 1) x63 (by assumption) (by omega) (by assumption)) (by omega) dX0_place_104 rfl rfl (Nat.le_of_ble_eq_true rfl) (fun v w9 hq9 h09 => by obtain ⟨rfl, rfl⟩ := hq9; exact ⟨h09, rfl⟩) (by decide) (by decide) (fun _ _ hx => hx) (fun v104 w104 hq104 => ?_)
            obtain ⟨rfl, rfl⟩ := hq104
            refine AW.namI (fun I104 eI104 => ?_)
            show AW G mX0_place d (fun v w => v = none ∧ w = (sh, f_pW I q (f_pl (I (q + 4)) (I (q + 6)) (I (q + 7)) (I (q + 2)) op pe (r + 1) k c (I (q + 9)) (I q 1, I (q + 1), I (q + 8))), R, L, g)) (fun _ _ => False) 107 [some (.ref q), some (.int x), some (.int c), some (.int y), some (.int x34), some (.int x63)] [] (sh, I104, R, L, g) 0 0
            refine AW.aload_n dX0_place_107 rfl ?_
            refine AW.getR (c' := (q + 9)) (fX0_37 hG).r rfl (hq.1 0 _ rfl) (hq.2 (0, 11, 9) (by decide)) dX0_place_108 ?_
            refine AW.iload_n dX0_place_111 rfl ?_
            refine AW.iload dX0_place_112 rfl ?_
            refine AW.iconst 1 dX0_place_114 (by decide) ?_
            refine AW.iload_n dX0_place_115 rfl ?_
            refine AW.ishl dX0_place_116 ?_
            refine AW.iconst (-1) dX0_place_117 (by decide) ?_
            refine AW.ixor dX0_place_118 ?_
            refine AW.iand dX0_place_119 ?_
            refine AW.iast (hq.1 9 _ rfl) (by first | assumption | (unfold vp_in; decide) | exact vp_in_nI (by omega) (by decide)) dX0_place_120 ?_
            refine AW.namI (fun I120 eI120 => ?_)
            refine AW.inc (fun x121 => [some (.ref q), some (.int x), some (.int c), some (.int x121), some (.int x34), some (.int x63)]) dX0_place_121 rfl (by decide) rfl (fun _ => rfl) (fun x121 ex121 => ?_)
            refine AW.goto 16 dX0_place_124 (by decide) ?_
            refine AW.mask [4, 5] [some (.ref q), some (.int x), some (.int c), some (.int x121), none, none] rfl ?_
            exact ih16 (k16 + 1) (by omega) (by omega) _ _ (by
              have en : lfold (fun p s => f_plb (I (q + 4)) (I (q + 6)) (I (q + 7)) (f_pl (I (q + 4)) (I (q + 6)) (I (q + 7)) (I (q + 2)) op pe r (k + 1)) k c (I (q + 9)) p s) (I q 1, I (q + 1), I (q + 8)) (k16 + 1) = f_plb (I (q + 4)) (I (q + 6)) (I (q + 7)) (f_pl (I (q + 4)) (I (q + 6)) (I (q + 7)) (I (q + 2)) op pe r (k + 1)) k c (I (q + 9)) k16 (lfold (fun p s => f_plb (I (q + 4)) (I (q + 6)) (I (q + 7)) (f_pl (I (q + 4)) (I (q + 6)) (I (q + 7)) (I (q + 2)) op pe r (k + 1)) k c (I (q + 9)) p s) (I q 1, I (q + 1), I (q + 8)) k16) := rfl
              refine ⟨k_inc (by assumption) hy, ?_⟩
              rw [en, f_plb_2 h48 h80, ← h34S, ← h63]
              have e104 : I104 = f_pW I97 q (f_pl (I (q + 4)) (I (q + 6)) (I (q + 7)) (I (q + 2)) op pe r (k + 1) x63 (upd (I (q + 9)) k16 x34) ((lfold (fun p s => f_plb (I (q + 4)) (I (q + 6)) (I (q + 7)) (f_pl (I (q + 4)) (I (q + 6)) (I (q + 7)) (I (q + 2)) op pe r (k + 1)) k c (I (q + 9)) p s) (I q 1, I (q + 1), I (q + 8)) k16).1, (lfold (fun p s => f_plb (I (q + 4)) (I (q + 6)) (I (q + 7)) (f_pl (I (q + 4)) (I (q + 6)) (I (q + 7)) (I (q + 2)) op pe r (k + 1)) k c (I (q + 9)) p s) (I q 1, I (q + 1), I (q + 8)) k16).2.1, upd (lfold (fun p s => f_plb (I (q + 4)) (I (q + 6)) (I (q + 7)) (f_pl (I (q + 4)) (I (q + 6)) (I (q + 7)) (I (q + 2)) op pe r (k + 1)) k c (I (q + 9)) p s) (I q 1, I (q + 1), I (q + 8)) k16).2.2 k (nI k16))) := by
                rw [eI104, q97 (q + 4) (by omega) (by omega), q97 (q + 6) (by omega) (by omega), q97 (q + 7) (by omega) (by omega), q97 (q + 2) (by omega) (by omega), q97 q (by omega) (by omega), q97 (q + 1) (by omega) (by omega), q97_9, q97_8, qJ4, qJ6, qJ7, qJ2, qJ1, qJ0, qJ9, qJ8, hy, hcx]
              refine f_pW_e ?_ ?_ ?_ (fun a a0 a1 a8 => ?_)
              · rw [eI120, am_up_o _ _ _ _ (by omega), e104, f_pW_0, q97 q (by omega) (by omega), hJ, f_pW_0]; exact k_uu _ _ _ _
              · rw [eI120, am_up_o _ _ _ _ (by omega), e104, f_pW_1]
              · rw [eI120, am_up_o _ _ _ _ (by omega), e104, f_pW_8]
              · by_cases e9 : a = q + 9
                · rw [e9, eI120, am_up_s, e104, f_pW_o _ _ _ (by omega) (by omega) (by omega), q97_9, hcy, qJ9, k_uu, h34, hx, (k_set hk5 hs).2, ← hIs]
                  funext j; unfold upd; by_cases ej : j = k16
                  · rw [if_pos ej, ej]
                  · rw [if_neg ej]
                · rw [eI120, am_up_o _ _ _ _ e9, e104, f_pW_o _ _ _ a0 a1 a8, q97 a a8 e9, hJ, f_pW_o _ _ _ a0 a1 a8])
    exact L16 0 (by omega) _ _ (⟨nI_0.symm, f_pW_e (by funext j; unfold upd; by_cases e : j = 1 <;> simp [e]; rfl) rfl rfl (fun a _ _ _ => rfl)⟩)
  · exact absurd ((nI_ltl hx hop (by omega) (by omega)).mpr (by omega)) h5
theorem k_X0_place {G : am_G} (hK : k_OK G) {sh : List (Nat ⊕ (Nat × Nat))} {R : Nat → Nat → Option Nat} {L : Nat → Nat → Int64} {g : Nat} {q op pe : Nat} (hq : k_Carrier sh R q) (hop5 : op ≤ 5) (hpe8 : pe ≤ 8) : ∀ (r : Nat) {d : Nat} (_ : r + 2 ≤ d) {I : Nat → Nat → Int32} (hop : I q 3 = nI op) (hpe : I q 2 = nI pe) (hlo : ∀ k, k < op → vp_in (I (q + 2) k) 6) {k : Nat} (x c : Int32) (hx : x = nI k) (hk : k + r = op) (hS : ∀ p, p < pe → ∃ s, s < 2 ^ k ∧ I (q + 9) p = nI s), AM G mX0_place d [.ref q, .int x, .int c] (sh, I, R, L, g) (fun v w => v = none ∧ w = (sh, f_pW I q (f_pl (I (q + 4)) (I (q + 6)) (I (q + 7)) (I (q + 2)) op pe r k c (I (q + 9)) (I q 1, I (q + 1), I (q + 8))), R, L, g)) (fun _ _ => False) := by
  intro r
  induction r with
  | zero => intro d hd I hop hpe hlo k x c hx hk hS; exact k_X0_place0 hK hd hq hop hop5 hpe hpe8 hlo x c hx hS (by omega)
  | succ r ih => intro d hd I hop hpe hlo k x c hx hk hS; exact k_X0_placeS hK (by omega) hq hop hop5 hpe hpe8 hlo x c hx hS (fun _ _ h => ih h) hk
