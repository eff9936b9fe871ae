/-! CARRIER -/
theorem k_55 {x y v : Int32} {k j : Nat} (hv : v = x * 5 + y) (hx : x = nI k) (hy : y = nI j) : v = nI (5 * k + j) := by rw [hv, hx, hy, show (5 : Int32) = nI 5 from rfl, pk_mul, nI_add, Nat.mul_comm]
theorem k_32 {x y v : Int32} {k j : Nat} (hv : v = x * 32 + y) (hx : x = nI k) (hy : y = nI j) : v = nI (32 * k + j) := by rw [hv, hx, hy, show (32 : Int32) = nI 32 from rfl, pk_mul, nI_add, Nat.mul_comm]
/-- the most urgent of the loaves that are left and there -/
def f_mu (hs ta lh : Nat → Int32) (p : Nat) (b h : Int32) (op : Nat) : Int32 := lfold (fun k a => if (f_has b (nI k) = true ∧ ¬ hs (5 * p + k) = -1 ∧ ¬ h < ta (5 * p + k)) ∧ (a = -1 ∨ lh k < lh a.toNatClampNeg) then nI k else a) (-1) op
theorem f_mu_i (hs ta lh : Nat → Int32) (p : Nat) (b h : Int32) (op : Nat) : f_mu hs ta lh p b h op = -1 ∨ ∃ j, j < op ∧ f_mu hs ta lh p b h op = nI j := by
  induction op with
  | zero => exact Or.inl rfl
  | succ n ih =>
    simp only [f_mu, lfold] at ih ⊢
    split
    · exact Or.inr ⟨n, by omega, rfl⟩
    · rcases ih with h | ⟨j, hj, h⟩
      · exact Or.inl h
      · exact Or.inr ⟨j, by omega, h⟩
/-- hour by hour: are all that are left cut in time -/
def f_ci (mu : Int32 → Int32 → Int32) (lh : Nat → Int32) : Nat → Nat → Int32 → Bool
  | 0, _, b => decide (b = 0)
  | f + 1, h, b => if b = 0 then true else if mu b (nI h) = -1 then f_ci mu lh f (h + 1) b else if lh (mu b (nI h)).toNatClampNeg < nI h then false else f_ci mu lh f (h + 1) (b &&& (((1 : Int32) <<< (mu b (nI h) &&& 31)) ^^^ (-1)))
theorem f_ci_0 (mu : Int32 → Int32 → Int32) (lh : Nat → Int32) (f h : Nat) : f_ci mu lh f h 0 = true := by cases f <;> simp [f_ci]
theorem dX0_mostUrgent_0 : decode cX0_mostUrgent 0 = .ok (.iconst (-1), 1) := by decide +kernel
theorem dX0_mostUrgent_1 : decode cX0_mostUrgent 1 = .ok (.istore 4, 2) := by decide +kernel
theorem dX0_mostUrgent_3 : decode cX0_mostUrgent 3 = .ok (.iconst 0, 1) := by decide +kernel
theorem dX0_mostUrgent_4 : decode cX0_mostUrgent 4 = .ok (.istore 5, 2) := by decide +kernel
theorem dX0_mostUrgent_6 : decode cX0_mostUrgent 6 = .ok (.iload 5, 2) := by decide +kernel
theorem dX0_mostUrgent_8 : decode cX0_mostUrgent 8 = .ok (.aload_n 0, 1) := by decide +kernel
theorem dX0_mostUrgent_9 : decode cX0_mostUrgent 9 = .ok (.getfield 83, 3) := by decide +kernel
theorem dX0_mostUrgent_12 : decode cX0_mostUrgent 12 = .ok (.if_icmp .ge 87, 3) := by decide +kernel
theorem dX0_mostUrgent_15 : decode cX0_mostUrgent 15 = .ok (.iload_n 1, 1) := by decide +kernel
theorem dX0_mostUrgent_16 : decode cX0_mostUrgent 16 = .ok (.iconst 5, 1) := by decide +kernel
theorem dX0_mostUrgent_17 : decode cX0_mostUrgent 17 = .ok (.imul, 1) := by decide +kernel
theorem dX0_mostUrgent_18 : decode cX0_mostUrgent 18 = .ok (.iload 5, 2) := by decide +kernel
theorem dX0_mostUrgent_20 : decode cX0_mostUrgent 20 = .ok (.iadd, 1) := by decide +kernel
theorem dX0_mostUrgent_21 : decode cX0_mostUrgent 21 = .ok (.istore 6, 2) := by decide +kernel
theorem dX0_mostUrgent_23 : decode cX0_mostUrgent 23 = .ok (.iload_n 2, 1) := by decide +kernel
theorem dX0_mostUrgent_24 : decode cX0_mostUrgent 24 = .ok (.iload 5, 2) := by decide +kernel
theorem dX0_mostUrgent_26 : decode cX0_mostUrgent 26 = .ok (.invokestatic 119, 3) := by decide +kernel
theorem dX0_mostUrgent_29 : decode cX0_mostUrgent 29 = .ok (.ifCond .eq 29, 3) := by decide +kernel
theorem dX0_mostUrgent_32 : decode cX0_mostUrgent 32 = .ok (.aload_n 0, 1) := by decide +kernel
theorem dX0_mostUrgent_33 : decode cX0_mostUrgent 33 = .ok (.getfield 21, 3) := by decide +kernel
theorem dX0_mostUrgent_36 : decode cX0_mostUrgent 36 = .ok (.iload 6, 2) := by decide +kernel
theorem dX0_mostUrgent_38 : decode cX0_mostUrgent 38 = .ok (.iaload, 1) := by decide +kernel
theorem dX0_mostUrgent_39 : decode cX0_mostUrgent 39 = .ok (.iconst (-1), 1) := by decide +kernel
theorem dX0_mostUrgent_40 : decode cX0_mostUrgent 40 = .ok (.if_icmp .eq 18, 3) := by decide +kernel
theorem dX0_mostUrgent_43 : decode cX0_mostUrgent 43 = .ok (.aload_n 0, 1) := by decide +kernel
theorem dX0_mostUrgent_44 : decode cX0_mostUrgent 44 = .ok (.getfield 24, 3) := by decide +kernel
theorem dX0_mostUrgent_47 : decode cX0_mostUrgent 47 = .ok (.iload 6, 2) := by decide +kernel
theorem dX0_mostUrgent_49 : decode cX0_mostUrgent 49 = .ok (.iaload, 1) := by decide +kernel
theorem dX0_mostUrgent_50 : decode cX0_mostUrgent 50 = .ok (.iload_n 3, 1) := by decide +kernel
theorem dX0_mostUrgent_51 : decode cX0_mostUrgent 51 = .ok (.if_icmp .gt 7, 3) := by decide +kernel
theorem dX0_mostUrgent_54 : decode cX0_mostUrgent 54 = .ok (.iconst 1, 1) := by decide +kernel
theorem dX0_mostUrgent_55 : decode cX0_mostUrgent 55 = .ok (.goto 4, 3) := by decide +kernel
theorem dX0_mostUrgent_58 : decode cX0_mostUrgent 58 = .ok (.iconst 0, 1) := by decide +kernel
theorem dX0_mostUrgent_59 : decode cX0_mostUrgent 59 = .ok (.istore 7, 2) := by decide +kernel
theorem dX0_mostUrgent_61 : decode cX0_mostUrgent 61 = .ok (.iload 7, 2) := by decide +kernel
theorem dX0_mostUrgent_63 : decode cX0_mostUrgent 63 = .ok (.ifCond .eq 30, 3) := by decide +kernel
theorem dX0_mostUrgent_66 : decode cX0_mostUrgent 66 = .ok (.iload 4, 2) := by decide +kernel
theorem dX0_mostUrgent_68 : decode cX0_mostUrgent 68 = .ok (.iconst (-1), 1) := by decide +kernel
theorem dX0_mostUrgent_69 : decode cX0_mostUrgent 69 = .ok (.if_icmp .eq 20, 3) := by decide +kernel
theorem dX0_mostUrgent_72 : decode cX0_mostUrgent 72 = .ok (.aload_n 0, 1) := by decide +kernel
theorem dX0_mostUrgent_73 : decode cX0_mostUrgent 73 = .ok (.getfield 18, 3) := by decide +kernel
theorem dX0_mostUrgent_76 : decode cX0_mostUrgent 76 = .ok (.iload 5, 2) := by decide +kernel
theorem dX0_mostUrgent_78 : decode cX0_mostUrgent 78 = .ok (.iaload, 1) := by decide +kernel
theorem dX0_mostUrgent_79 : decode cX0_mostUrgent 79 = .ok (.aload_n 0, 1) := by decide +kernel
theorem dX0_mostUrgent_80 : decode cX0_mostUrgent 80 = .ok (.getfield 18, 3) := by decide +kernel
theorem dX0_mostUrgent_83 : decode cX0_mostUrgent 83 = .ok (.iload 4, 2) := by decide +kernel
theorem dX0_mostUrgent_85 : decode cX0_mostUrgent 85 = .ok (.iaload, 1) := by decide +kernel
theorem dX0_mostUrgent_86 : decode cX0_mostUrgent 86 = .ok (.if_icmp .ge 7, 3) := by decide +kernel
theorem dX0_mostUrgent_89 : decode cX0_mostUrgent 89 = .ok (.iload 5, 2) := by decide +kernel
theorem dX0_mostUrgent_91 : decode cX0_mostUrgent 91 = .ok (.istore 4, 2) := by decide +kernel
theorem dX0_mostUrgent_93 : decode cX0_mostUrgent 93 = .ok (.iinc 5 1, 3) := by decide +kernel
theorem dX0_mostUrgent_96 : decode cX0_mostUrgent 96 = .ok (.goto (-90), 3) := by decide +kernel
theorem dX0_mostUrgent_99 : decode cX0_mostUrgent 99 = .ok (.iload 4, 2) := by decide +kernel
theorem dX0_mostUrgent_101 : decode cX0_mostUrgent 101 = .ok (.ireturn, 1) := by decide +kernel
set_option maxRecDepth 100000 in
set_option maxHeartbeats 4000000 in
theorem k_X0_mostUrgent {G : am_G} (hK : k_OK G) {d : Nat} (hd : 1 ≤ d) {sh : List (Nat ⊕ (Nat × Nat))} {I : Nat → Nat → Int32} {R : Nat → Nat → Option Nat} {L : Nat → Nat → Int64} {g : Nat} {q : Nat} (hq : k_Carrier sh R q) {op : Nat} (hop : I q 3 = nI op) (hop5 : op ≤ 5) (p b h : Int32) {pj : Nat} (hp : p = nI pj) (hpj : pj < 8) : AM G mX0_mostUrgent d [.ref q, .int p, .int b, .int h] (sh, I, R, L, g) (fun v w => v = some (.int (f_mu (I (q + 4)) (I (q + 5)) (I (q + 3)) pj b h op)) ∧ w = (sh, I, R, L, g)) (fun _ _ => False) := by
  have hG := hK.1
  refine AM.of (n := 4) (by decide +kernel) (Nat.le_of_ble_eq_true rfl) ?_
  show AW G mX0_mostUrgent d (fun v w => v = some (.int (f_mu (I (q + 4)) (I (q + 5)) (I (q + 3)) pj b h op)) ∧ w = (sh, I, R, L, g)) (fun _ _ => False) 0 [some (.ref q), some (.int p), some (.int b), some (.int h), none, none, none, none] [] (sh, I, R, L, g) 0 0
  refine AW.iconst (-1) dX0_mostUrgent_0 (by decide) ?_
  refine AW.is [some (.ref q), some (.int p), some (.int b), some (.int h), some (.int (-1)), none, none, none] dX0_mostUrgent_1 (by decide) rfl rfl ?_
  refine AW.iconst 0 dX0_mostUrgent_3 (by decide) ?_
  refine AW.is [some (.ref q), some (.int p), some (.int b), some (.int h), some (.int (-1)), some (.int 0), none, none] dX0_mostUrgent_4 (by decide) rfl rfl ?_
  have L6 : ∀ k6, k6 ≤ op → ∀ (a x : Int32), (x = nI k6 ∧ a = f_mu (I (q + 4)) (I (q + 5)) (I (q + 3)) pj b h k6) → AW G mX0_mostUrgent d (fun v w => v = some (.int (f_mu (I (q + 4)) (I (q + 5)) (I (q + 3)) pj b h op)) ∧ w = (sh, I, R, L, g)) (fun _ _ => False) 6 [some (.ref q), some (.int p), some (.int b), some (.int h), some (.int a), some (.int x), none, none] [] (sh, I, R, L, g) 0 0 := by
    refine am_rec op (fun k6 hk6 ih6 => ?_)
    intro a x hi6
    obtain ⟨hx, ha⟩ := hi6
    refine AW.iload dX0_mostUrgent_6 rfl ?_
    refine AW.aload_n dX0_mostUrgent_8 rfl ?_
    refine AW.getI (fX0_83 hG).r rfl (hq.1 0 _ rfl) dX0_mostUrgent_9 ?_
    refine AW.icmp_ge 99 dX0_mostUrgent_12 (by decide) (fun h12 => ?_) (fun h12 => ?_)
    · have hke := k_ge h12 hx hop hk6 (by omega)
      rw [hke] at ha
      refine AW.iload dX0_mostUrgent_99 rfl ?_
      exact AW.iret dX0_mostUrgent_101 rfl (by decide) (by decide) (⟨by rw [ha], rfl⟩)
    · have hlt := k_lt h12 hx hop hk6 (by omega)
      have hbx : vp_in x 5 := by rw [hx]; exact vp_in_nI (by omega) (by decide)
      have hcx : x.toNatClampNeg = k6 := k_lit hx (by omega)
      refine AW.iload_n dX0_mostUrgent_15 rfl ?_
      refine AW.iconst 5 dX0_mostUrgent_16 (by decide) ?_
      refine AW.imul dX0_mostUrgent_17 ?_
      refine AW.iload dX0_mostUrgent_18 rfl ?_
      refine AW.iadd dX0_mostUrgent_20 ?_
      refine AW.nam (fun x21 ex21 => ?_)
      refine AW.is [some (.ref q), some (.int p), some (.int b), some (.int h), some (.int a), some (.int x), some (.int x21), none] dX0_mostUrgent_21 (by decide) rfl rfl ?_
      have hix : x21 = nI (5 * pj + k6) := k_55 ex21 hp hx
      have hbix : vp_in x21 40 := by rw [hix]; exact vp_in_nI (by omega) (by decide)
      have hcix : x21.toNatClampNeg = 5 * pj + k6 := k_lit hix (by omega)
      refine AW.iload_n dX0_mostUrgent_23 rfl ?_
      refine AW.iload dX0_mostUrgent_24 rfl ?_
      refine AW.callSN (As := [.int b, .int x]) hG.2.2 (vX0_119n hK) (kS_X10_has hG) (k_X10_has hK (d := 0) (Nat.le_refl _) b x) (by omega) dX0_mostUrgent_26 rfl rfl (Nat.le_of_ble_eq_true rfl) (fun v w9 hq9 h09 => by obtain ⟨rfl, rfl⟩ := hq9; exact ⟨h09, rfl⟩) (by decide) (by decide) (fun v26 w26 hq26 => ?_)
      obtain ⟨rfl, rfl⟩ := hq26
      refine AW.nam (fun x26 ex26 => ?_)
      refine AW.if_eq 58 dX0_mostUrgent_29 (by decide) (fun h29 => ?_) (fun h29 => ?_)
      · rw [ex26, hx] at h29
        have qh := kb_0.mp h29
        refine AW.iconst 0 dX0_mostUrgent_58 (by decide) ?_
        refine AW.is [some (.ref q), some (.int p), some (.int b), some (.int h), some (.int a), some (.int x), some (.int x21), some (.int 0)] dX0_mostUrgent_59 (by decide) rfl rfl ?_
        refine AW.iload dX0_mostUrgent_61 rfl ?_
        refine AW.if_eq 93 dX0_mostUrgent_63 (by decide) (fun h63 => ?_) (fun h63 => ?_)
        · refine AW.inc (fun x93 => [some (.ref q), some (.int p), some (.int b), some (.int h), some (.int a), some (.int x93), some (.int x21), some (.int 0)]) dX0_mostUrgent_93 rfl (by decide) rfl (fun _ => rfl) (fun x93 ex93 => ?_)
          refine AW.goto 6 dX0_mostUrgent_96 (by decide) ?_
          refine AW.mask [6, 7] [some (.ref q), some (.int p), some (.int b), some (.int h), some (.int a), some (.int x93), none, none] rfl ?_
          exact ih6 (k6 + 1) (by omega) (by omega) _ _ (⟨k_inc (by assumption) hx, (show _ = (if _ then _ else _) by rw [if_neg (fun hh => by rw [qh] at hh; exact absurd hh.1.1 (by decide))]; exact ha)⟩)
        · exact absurd rfl h63
      · rw [ex26, hx] at h29
        have qh := kb_1.mp h29
        refine AW.aload_n dX0_mostUrgent_32 rfl ?_
        refine AW.getR (c' := (q + 4)) (fX0_21 hG).r rfl (hq.1 0 _ rfl) (hq.2 (0, 6, 4) (by decide)) dX0_mostUrgent_33 ?_
        refine AW.iload dX0_mostUrgent_36 rfl ?_
        refine AW.iald (hq.1 4 _ rfl) (by first | assumption | (unfold vp_in; decide) | exact vp_in_nI (by omega) (by decide)) dX0_mostUrgent_38 ?_
        refine AW.iconst (-1) dX0_mostUrgent_39 (by decide) ?_
        refine AW.icmp_eq 58 dX0_mostUrgent_40 (by decide) (fun h40 => ?_) (fun h40 => ?_)
        · rw [hcix] at h40
          refine AW.iconst 0 dX0_mostUrgent_58 (by decide) ?_
          refine AW.is [some (.ref q), some (.int p), some (.int b), some (.int h), some (.int a), some (.int x), some (.int x21), some (.int 0)] dX0_mostUrgent_59 (by decide) rfl rfl ?_
          refine AW.iload dX0_mostUrgent_61 rfl ?_
          refine AW.if_eq 93 dX0_mostUrgent_63 (by decide) (fun h63 => ?_) (fun h63 => ?_)
          · refine AW.inc (fun x93 => [some (.ref q), some (.int p), some (.int b), some (.int h), some (.int a), some (.int x93), some (.int x21), some (.int 0)]) dX0_mostUrgent_93 rfl (by decide) rfl (fun _ => rfl) (fun x93 ex93 => ?_)
            refine AW.goto 6 dX0_mostUrgent_96 (by decide) ?_
            refine AW.mask [6, 7] [some (.ref q), some (.int p), some (.int b), some (.int h), some (.int a), some (.int x93), none, none] rfl ?_
            exact ih6 (k6 + 1) (by omega) (by omega) _ _ (⟨k_inc (by assumption) hx, (show _ = (if _ then _ else _) by rw [if_neg (fun hh => hh.1.2.1 h40)]; exact ha)⟩)
          · exact absurd rfl h63
        · rw [hcix] at h40
          refine AW.aload_n dX0_mostUrgent_43 rfl ?_
          refine AW.getR (c' := (q + 5)) (fX0_24 hG).r rfl (hq.1 0 _ rfl) (hq.2 (0, 7, 5) (by decide)) dX0_mostUrgent_44 ?_
          refine AW.iload dX0_mostUrgent_47 rfl ?_
          refine AW.iald (hq.1 5 _ rfl) (by first | assumption | (unfold vp_in; decide) | exact vp_in_nI (by omega) (by decide)) dX0_mostUrgent_49 ?_
          refine AW.iload_n dX0_mostUrgent_50 rfl ?_
          refine AW.icmp_gt 58 dX0_mostUrgent_51 (by decide) (fun h51 => ?_) (fun h51 => ?_)
          · rw [hcix] at h51
            refine AW.iconst 0 dX0_mostUrgent_58 (by decide) ?_
            refine AW.is [some (.ref q), some (.int p), some (.int b), some (.int h), some (.int a), some (.int x), some (.int x21), some (.int 0)] dX0_mostUrgent_59 (by decide) rfl rfl ?_
            refine AW.iload dX0_mostUrgent_61 rfl ?_
            refine AW.if_eq 93 dX0_mostUrgent_63 (by decide) (fun h63 => ?_) (fun h63 => ?_)
            · refine AW.inc (fun x93 => [some (.ref q), some (.int p), some (.int b), some (.int h), some (.int a), some (.int x93), some (.int x21), some (.int 0)]) dX0_mostUrgent_93 rfl (by decide) rfl (fun _ => rfl) (fun x93 ex93 => ?_)
              refine AW.goto 6 dX0_mostUrgent_96 (by decide) ?_
              refine AW.mask [6, 7] [some (.ref q), some (.int p), some (.int b), some (.int h), some (.int a), some (.int x93), none, none] rfl ?_
              exact ih6 (k6 + 1) (by omega) (by omega) _ _ (⟨k_inc (by assumption) hx, (show _ = (if _ then _ else _) by rw [if_neg (fun hh => hh.1.2.2 h51)]; exact ha)⟩)
            · exact absurd rfl h63
          · rw [hcix] at h51
            refine AW.iconst 1 dX0_mostUrgent_54 (by decide) ?_
            refine AW.goto 59 dX0_mostUrgent_55 (by decide) ?_
            refine AW.is [some (.ref q), some (.int p), some (.int b), some (.int h), some (.int a), some (.int x), some (.int x21), some (.int 1)] dX0_mostUrgent_59 (by decide) rfl rfl ?_
            refine AW.iload dX0_mostUrgent_61 rfl ?_
            refine AW.if_eq 93 dX0_mostUrgent_63 (by decide) (fun h63 => ?_) (fun h63 => ?_)
            · exact absurd h63 (by decide)
            · refine AW.iload dX0_mostUrgent_66 rfl ?_
              refine AW.iconst (-1) dX0_mostUrgent_68 (by decide) ?_
              refine AW.icmp_eq 89 dX0_mostUrgent_69 (by decide) (fun h69 => ?_) (fun h69 => ?_)
              · refine AW.iload dX0_mostUrgent_89 rfl ?_
                refine AW.is [some (.ref q), some (.int p), some (.int b), some (.int h), some (.int x), some (.int x), some (.int x21), some (.int 1)] dX0_mostUrgent_91 (by decide) rfl rfl ?_
                refine AW.inc (fun x93 => [some (.ref q), some (.int p), some (.int b), some (.int h), some (.int x), some (.int x93), some (.int x21), some (.int 1)]) dX0_mostUrgent_93 rfl (by decide) rfl (fun _ => rfl) (fun x93 ex93 => ?_)
                refine AW.goto 6 dX0_mostUrgent_96 (by decide) ?_
                refine AW.mask [6, 7] [some (.ref q), some (.int p), some (.int b), some (.int h), some (.int x), some (.int x93), none, none] rfl ?_
                exact ih6 (k6 + 1) (by omega) (by omega) _ _ (⟨k_inc (by assumption) hx, (show _ = (if _ then _ else _) by rw [if_pos ⟨⟨qh, h40, h51⟩, Or.inl (ha.symm.trans h69)⟩]; exact hx)⟩)
              · have hba : vp_in a 5 := by
                  rcases f_mu_i (I (q + 4)) (I (q + 5)) (I (q + 3)) pj b h k6 with hh | ⟨j, hj, hh⟩
                  · exact absurd (ha.trans hh) h69
                  · rw [ha, hh]; exact vp_in_nI (by omega) (by decide)
                refine AW.aload_n dX0_mostUrgent_72 rfl ?_
                refine AW.getR (c' := (q + 3)) (fX0_18 hG).r rfl (hq.1 0 _ rfl) (hq.2 (0, 5, 3) (by decide)) dX0_mostUrgent_73 ?_
                refine AW.iload dX0_mostUrgent_76 rfl ?_
                refine AW.iald (hq.1 3 _ rfl) (by first | assumption | (unfold vp_in; decide) | exact vp_in_nI (by omega) (by decide)) dX0_mostUrgent_78 ?_
                refine AW.aload_n dX0_mostUrgent_79 rfl ?_
                refine AW.getR (c' := (q + 3)) (fX0_18 hG).r rfl (hq.1 0 _ rfl) (hq.2 (0, 5, 3) (by decide)) dX0_mostUrgent_80 ?_
                refine AW.iload dX0_mostUrgent_83 rfl ?_
                refine AW.iald (hq.1 3 _ rfl) (by first | assumption | (unfold vp_in; decide) | exact vp_in_nI (by omega) (by decide)) dX0_mostUrgent_85 ?_
                refine AW.icmp_ge 93 dX0_mostUrgent_86 (by decide) (fun h86 => ?_) (fun h86 => ?_)
                · rw [hcx, ha] at h86
                  refine AW.inc (fun x93 => [some (.ref q), some (.int p), some (.int b), some (.int h), some (.int a), some (.int x93), some (.int x21), some (.int 1)]) dX0_mostUrgent_93 rfl (by decide) rfl (fun _ => rfl) (fun x93 ex93 => ?_)
                  refine AW.goto 6 dX0_mostUrgent_96 (by decide) ?_
                  refine AW.mask [6, 7] [some (.ref q), some (.int p), some (.int b), some (.int h), some (.int a), some (.int x93), none, none] rfl ?_
                  exact ih6 (k6 + 1) (by omega) (by omega) _ _ (⟨k_inc (by assumption) hx, (show _ = (if _ then _ else _) by rw [if_neg (by rintro ⟨-, hh | hh⟩; exact h69 (ha.trans hh); exact absurd hh (Int32.not_lt.mpr h86))]; exact ha)⟩)
                · rw [hcx, ha] at h86
                  refine AW.iload dX0_mostUrgent_89 rfl ?_
                  refine AW.is [some (.ref q), some (.int p), some (.int b), some (.int h), some (.int x), some (.int x), some (.int x21), some (.int 1)] dX0_mostUrgent_91 (by decide) rfl rfl ?_
                  refine AW.inc (fun x93 => [some (.ref q), some (.int p), some (.int b), some (.int h), some (.int x), some (.int x93), some (.int x21), some (.int 1)]) dX0_mostUrgent_93 rfl (by decide) rfl (fun _ => rfl) (fun x93 ex93 => ?_)
                  refine AW.goto 6 dX0_mostUrgent_96 (by decide) ?_
                  refine AW.mask [6, 7] [some (.ref q), some (.int p), some (.int b), some (.int h), some (.int x), some (.int x93), none, none] rfl ?_
                  exact ih6 (k6 + 1) (by omega) (by omega) _ _ (⟨k_inc (by assumption) hx, (show _ = (if _ then _ else _) by rw [if_pos ⟨⟨qh, h40, h51⟩, Or.inr (Int32.not_le.mp h86)⟩]; exact hx)⟩)
  exact L6 0 (by omega) _ _ (⟨nI_0.symm, rfl⟩)
theorem dX0_cutsInTime_0 : decode cX0_cutsInTime 0 = .ok (.iload_n 2, 1) := by decide +kernel
theorem dX0_cutsInTime_1 : decode cX0_cutsInTime 1 = .ok (.istore 5, 2) := by decide +kernel
theorem dX0_cutsInTime_3 : decode cX0_cutsInTime 3 = .ok (.iload_n 3, 1) := by decide +kernel
theorem dX0_cutsInTime_4 : decode cX0_cutsInTime 4 = .ok (.istore 6, 2) := by decide +kernel
theorem dX0_cutsInTime_6 : decode cX0_cutsInTime 6 = .ok (.iload 6, 2) := by decide +kernel
theorem dX0_cutsInTime_8 : decode cX0_cutsInTime 8 = .ok (.iload 4, 2) := by decide +kernel
theorem dX0_cutsInTime_10 : decode cX0_cutsInTime 10 = .ok (.if_icmp .gt 56, 3) := by decide +kernel
theorem dX0_cutsInTime_13 : decode cX0_cutsInTime 13 = .ok (.iload 5, 2) := by decide +kernel
theorem dX0_cutsInTime_15 : decode cX0_cutsInTime 15 = .ok (.ifCond .eq 51, 3) := by decide +kernel
theorem dX0_cutsInTime_18 : decode cX0_cutsInTime 18 = .ok (.aload_n 0, 1) := by decide +kernel
theorem dX0_cutsInTime_19 : decode cX0_cutsInTime 19 = .ok (.iload_n 1, 1) := by decide +kernel
theorem dX0_cutsInTime_20 : decode cX0_cutsInTime 20 = .ok (.iload 5, 2) := by decide +kernel
theorem dX0_cutsInTime_22 : decode cX0_cutsInTime 22 = .ok (.iload 6, 2) := by decide +kernel
theorem dX0_cutsInTime_24 : decode cX0_cutsInTime 24 = .ok (.invokevirtual 130, 3) := by decide +kernel
theorem dX0_cutsInTime_27 : decode cX0_cutsInTime 27 = .ok (.istore 7, 2) := by decide +kernel
theorem dX0_cutsInTime_29 : decode cX0_cutsInTime 29 = .ok (.iload 7, 2) := by decide +kernel
theorem dX0_cutsInTime_31 : decode cX0_cutsInTime 31 = .ok (.iconst (-1), 1) := by decide +kernel
theorem dX0_cutsInTime_32 : decode cX0_cutsInTime 32 = .ok (.if_icmp .eq 28, 3) := by decide +kernel
theorem dX0_cutsInTime_35 : decode cX0_cutsInTime 35 = .ok (.aload_n 0, 1) := by decide +kernel
theorem dX0_cutsInTime_36 : decode cX0_cutsInTime 36 = .ok (.getfield 18, 3) := by decide +kernel
theorem dX0_cutsInTime_39 : decode cX0_cutsInTime 39 = .ok (.iload 7, 2) := by decide +kernel
theorem dX0_cutsInTime_41 : decode cX0_cutsInTime 41 = .ok (.iaload, 1) := by decide +kernel
theorem dX0_cutsInTime_42 : decode cX0_cutsInTime 42 = .ok (.iload 6, 2) := by decide +kernel
theorem dX0_cutsInTime_44 : decode cX0_cutsInTime 44 = .ok (.if_icmp .ge 5, 3) := by decide +kernel
theorem dX0_cutsInTime_47 : decode cX0_cutsInTime 47 = .ok (.iconst 0, 1) := by decide +kernel
theorem dX0_cutsInTime_48 : decode cX0_cutsInTime 48 = .ok (.ireturn, 1) := by decide +kernel
theorem dX0_cutsInTime_49 : decode cX0_cutsInTime 49 = .ok (.iload 5, 2) := by decide +kernel
theorem dX0_cutsInTime_51 : decode cX0_cutsInTime 51 = .ok (.iconst 1, 1) := by decide +kernel
theorem dX0_cutsInTime_52 : decode cX0_cutsInTime 52 = .ok (.iload 7, 2) := by decide +kernel
theorem dX0_cutsInTime_54 : decode cX0_cutsInTime 54 = .ok (.ishl, 1) := by decide +kernel
theorem dX0_cutsInTime_55 : decode cX0_cutsInTime 55 = .ok (.iconst (-1), 1) := by decide +kernel
theorem dX0_cutsInTime_56 : decode cX0_cutsInTime 56 = .ok (.ixor, 1) := by decide +kernel
theorem dX0_cutsInTime_57 : decode cX0_cutsInTime 57 = .ok (.iand, 1) := by decide +kernel
theorem dX0_cutsInTime_58 : decode cX0_cutsInTime 58 = .ok (.istore 5, 2) := by decide +kernel
theorem dX0_cutsInTime_60 : decode cX0_cutsInTime 60 = .ok (.iinc 6 1, 3) := by decide +kernel
theorem dX0_cutsInTime_63 : decode cX0_cutsInTime 63 = .ok (.goto (-57), 3) := by decide +kernel
theorem dX0_cutsInTime_66 : decode cX0_cutsInTime 66 = .ok (.iload 5, 2) := by decide +kernel
theorem dX0_cutsInTime_68 : decode cX0_cutsInTime 68 = .ok (.ifCond .ne 7, 3) := by decide +kernel
theorem dX0_cutsInTime_71 : decode cX0_cutsInTime 71 = .ok (.iconst 1, 1) := by decide +kernel
theorem dX0_cutsInTime_72 : decode cX0_cutsInTime 72 = .ok (.goto 4, 3) := by decide +kernel
theorem dX0_cutsInTime_75 : decode cX0_cutsInTime 75 = .ok (.iconst 0, 1) := by decide +kernel
theorem dX0_cutsInTime_76 : decode cX0_cutsInTime 76 = .ok (.ireturn, 1) := by decide +kernel
set_option maxRecDepth 100000 in
set_option maxHeartbeats 4000000 in
theorem k_X0_cutsInTime {G : am_G} (hK : k_OK G) {d : Nat} (hd : 2 ≤ d) {sh : List (Nat ⊕ (Nat × Nat))} {I : Nat → Nat → Int32} {R : Nat → Nat → Option Nat} {L : Nat → Nat → Int64} {g : Nat} {q : Nat} (hq : k_Carrier sh R q) {op : Nat} (hop : I q 3 = nI op) (hop5 : op ≤ 5) (p s x y : Int32) {pj a9 b9 : Nat} (hp : p = nI pj) (hpj : pj < 8) (hx0 : x = nI a9) (ha9 : a9 ≤ 30) (hy0 : y = nI b9) (hb9 : b9 ≤ 30) : AM G mX0_cutsInTime d [.ref q, .int p, .int s, .int x, .int y] (sh, I, R, L, g) (fun v w => v = some (.int (kb (f_ci (fun b h => f_mu (I (q + 4)) (I (q + 5)) (I (q + 3)) pj b h op) (I (q + 3)) (b9 + 1 - a9) a9 s))) ∧ w = (sh, I, R, L, g)) (fun _ _ => False) := by
  have hG := hK.1
  refine AM.of (n := 3) (by decide +kernel) (Nat.le_of_ble_eq_true rfl) ?_
  show AW G mX0_cutsInTime d (fun v w => v = some (.int (kb (f_ci (fun b h => f_mu (I (q + 4)) (I (q + 5)) (I (q + 3)) pj b h op) (I (q + 3)) (b9 + 1 - a9) a9 s))) ∧ w = (sh, I, R, L, g)) (fun _ _ => False) 0 [some (.ref q), some (.int p), some (.int s), some (.int x), some (.int y), none, none, none] [] (sh, I, R, L, g) 0 0
  refine AW.iload_n dX0_cutsInTime_0 rfl ?_
  refine AW.is [some (.ref q), some (.int p), some (.int s), some (.int x), some (.int y), some (.int s), none, none] dX0_cutsInTime_1 (by decide) rfl rfl ?_
  refine AW.iload_n dX0_cutsInTime_3 rfl ?_
  refine AW.is [some (.ref q), some (.int p), some (.int s), some (.int x), some (.int y), some (.int s), some (.int x), none] dX0_cutsInTime_4 (by decide) rfl rfl ?_
  have L6 : ∀ k6, k6 ≤ (b9 + 1 - a9) → ∀ (e h : Int32), (h = nI (a9 + k6) ∧ f_ci (fun b h => f_mu (I (q + 4)) (I (q + 5)) (I (q + 3)) pj b h op) (I (q + 3)) (b9 + 1 - a9 - k6) (a9 + k6) e = f_ci (fun b h => f_mu (I (q + 4)) (I (q + 5)) (I (q + 3)) pj b h op) (I (q + 3)) (b9 + 1 - a9) a9 s) → AW G mX0_cutsInTime d (fun v w => v = some (.int (kb (f_ci (fun b h => f_mu (I (q + 4)) (I (q + 5)) (I (q + 3)) pj b h op) (I (q + 3)) (b9 + 1 - a9) a9 s))) ∧ w = (sh, I, R, L, g)) (fun _ _ => False) 6 [some (.ref q), some (.int p), some (.int s), some (.int x), some (.int y), some (.int e), some (.int h), none] [] (sh, I, R, L, g) 0 0 := by
    refine am_rec ((b9 + 1 - a9)) (fun k6 hk6 ih6 => ?_)
    intro e h hi6
    obtain ⟨hx, hV⟩ := hi6
    refine AW.iload dX0_cutsInTime_6 rfl ?_
    refine AW.iload dX0_cutsInTime_8 rfl ?_
    refine AW.icmp_gt 66 dX0_cutsInTime_10 (by decide) (fun h10 => ?_) (fun h10 => ?_)
    · have hke : k6 = b9 + 1 - a9 := by
        rcases Nat.lt_or_ge k6 (b9 + 1 - a9) with hh | hh
        · exact absurd ((nI_ltl hy0 hx (by omega) (by omega)).mp h10) (by omega)
        · omega
      refine AW.iload dX0_cutsInTime_66 rfl ?_
      refine AW.if_ne 75 dX0_cutsInTime_68 (by decide) (fun h68 => ?_) (fun h68 => ?_)
      · refine AW.iconst 0 dX0_cutsInTime_75 (by decide) ?_
        exact AW.zret dX0_cutsInTime_76 rfl (by decide) (by decide) (by decide) (⟨by rw [← hV, hke, Nat.sub_self]; show _ = some (Value.int (kb (decide (e = 0)))); rw [decide_eq_false h68]; rfl, rfl⟩)
      · refine AW.iconst 1 dX0_cutsInTime_71 (by decide) ?_
        refine AW.goto 76 dX0_cutsInTime_72 (by decide) ?_
        exact AW.zret dX0_cutsInTime_76 rfl (by decide) (by decide) (by decide) (⟨by rw [← hV, h68, f_ci_0]; rfl, rfl⟩)
    · have hlt : k6 < b9 + 1 - a9 := by
        rcases Nat.lt_or_ge k6 (b9 + 1 - a9) with hh | hh
        · exact hh
        · exact absurd ((nI_ltl hy0 hx (by omega) (by omega)).mpr (by omega)) h10
      refine AW.iload dX0_cutsInTime_13 rfl ?_
      refine AW.if_eq 66 dX0_cutsInTime_15 (by decide) (fun h15 => ?_) (fun h15 => ?_)
      · refine AW.iload dX0_cutsInTime_66 rfl ?_
        refine AW.if_ne 75 dX0_cutsInTime_68 (by decide) (fun h68 => ?_) (fun h68 => ?_)
        · exact absurd h15 h68
        · refine AW.iconst 1 dX0_cutsInTime_71 (by decide) ?_
          refine AW.goto 76 dX0_cutsInTime_72 (by decide) ?_
          exact AW.zret dX0_cutsInTime_76 rfl (by decide) (by decide) (by decide) (⟨by rw [← hV, h68, f_ci_0]; rfl, rfl⟩)
      · refine AW.aload_n dX0_cutsInTime_18 rfl ?_
        refine AW.iload_n dX0_cutsInTime_19 rfl ?_
        refine AW.iload dX0_cutsInTime_20 rfl ?_
        refine AW.iload dX0_cutsInTime_22 rfl ?_
        refine AW.callV (b := q) (As := [.int p, .int e, .int h]) hG.2.2 (vX0_130 hG) (hq.1 0 _ rfl) (k_X0_mostUrgent hK (d := 1) (Nat.le_refl _) hq (by assumption) (by omega) p e h (by assumption) (by assumption)) (by omega) dX0_cutsInTime_24 rfl rfl (Nat.le_of_ble_eq_true rfl) (fun v w9 hq9 h09 => by obtain ⟨rfl, rfl⟩ := hq9; exact ⟨h09, rfl⟩) (by decide) (by decide) (fun _ _ hx => hx) (fun v24 w24 hq24 => ?_)
        obtain ⟨rfl, rfl⟩ := hq24
        refine AW.nam (fun x24 ex24 => ?_)
        refine AW.is [some (.ref q), some (.int p), some (.int s), some (.int x), some (.int y), some (.int e), some (.int h), some (.int x24)] dX0_cutsInTime_27 (by decide) rfl rfl ?_
        refine AW.iload dX0_cutsInTime_29 rfl ?_
        refine AW.iconst (-1) dX0_cutsInTime_31 (by decide) ?_
        refine AW.icmp_eq 60 dX0_cutsInTime_32 (by decide) (fun h32 => ?_) (fun h32 => ?_)
        · rw [ex24, hx] at h32
          have hm := h32
          refine AW.inc (fun x60 => [some (.ref q), some (.int p), some (.int s), some (.int x), some (.int y), some (.int e), some (.int x60), some (.int x24)]) dX0_cutsInTime_60 rfl (by decide) rfl (fun _ => rfl) (fun x60 ex60 => ?_)
          refine AW.goto 6 dX0_cutsInTime_63 (by decide) ?_
          refine AW.mask [7] [some (.ref q), some (.int p), some (.int s), some (.int x), some (.int y), some (.int e), some (.int x60), none] rfl ?_
          exact ih6 (k6 + 1) (by omega) (by omega) _ _ (⟨by rw [ex60, hx]; exact nI_1 _, by rw [← hV, show (b9 + 1 - a9) - k6 = ((b9 + 1 - a9) - (k6 + 1)) + 1 by omega]; show _ = (if _ then _ else if _ then _ else if _ then _ else _); rw [if_neg h15, if_pos hm]; rw [Nat.add_assoc]⟩)
        · rw [ex24, hx] at h32
          have hm := h32
          have hbk : vp_in x24 5 := by
            rcases f_mu_i (I (q + 4)) (I (q + 5)) (I (q + 3)) pj e h op with hh | ⟨j, hj, hh⟩
            · rw [hx] at hh; exact absurd hh hm
            · rw [ex24, hh]; exact vp_in_nI (by omega) (by decide)
          refine AW.aload_n dX0_cutsInTime_35 rfl ?_
          refine AW.getR (c' := (q + 3)) (fX0_18 hG).r rfl (hq.1 0 _ rfl) (hq.2 (0, 5, 3) (by decide)) dX0_cutsInTime_36 ?_
          refine AW.iload dX0_cutsInTime_39 rfl ?_
          refine AW.iald (hq.1 3 _ rfl) (by first | assumption | (unfold vp_in; decide) | exact vp_in_nI (by omega) (by decide)) dX0_cutsInTime_41 ?_
          refine AW.iload dX0_cutsInTime_42 rfl ?_
          refine AW.icmp_ge 49 dX0_cutsInTime_44 (by decide) (fun h44 => ?_) (fun h44 => ?_)
          · rw [ex24, hx] at h44
            refine AW.iload dX0_cutsInTime_49 rfl ?_
            refine AW.iconst 1 dX0_cutsInTime_51 (by decide) ?_
            refine AW.iload dX0_cutsInTime_52 rfl ?_
            refine AW.ishl dX0_cutsInTime_54 ?_
            refine AW.iconst (-1) dX0_cutsInTime_55 (by decide) ?_
            refine AW.ixor dX0_cutsInTime_56 ?_
            refine AW.iand dX0_cutsInTime_57 ?_
            refine AW.nam (fun x58 ex58 => ?_)
            refine AW.is [some (.ref q), some (.int p), some (.int s), some (.int x), some (.int y), some (.int x58), some (.int h), some (.int x24)] dX0_cutsInTime_58 (by decide) rfl rfl ?_
            refine AW.inc (fun x60 => [some (.ref q), some (.int p), some (.int s), some (.int x), some (.int y), some (.int x58), some (.int x60), some (.int x24)]) dX0_cutsInTime_60 rfl (by decide) rfl (fun _ => rfl) (fun x60 ex60 => ?_)
            refine AW.goto 6 dX0_cutsInTime_63 (by decide) ?_
            refine AW.mask [7] [some (.ref q), some (.int p), some (.int s), some (.int x), some (.int y), some (.int x58), some (.int x60), none] rfl ?_
            exact ih6 (k6 + 1) (by omega) (by omega) _ _ (⟨by rw [ex60, hx]; exact nI_1 _, by rw [← hV, show (b9 + 1 - a9) - k6 = ((b9 + 1 - a9) - (k6 + 1)) + 1 by omega]; show _ = (if _ then _ else if _ then _ else if _ then _ else _); rw [if_neg h15, if_neg hm, if_neg (fun hh => absurd hh (Int32.not_lt.mpr h44)), ex58, ex24, hx]; rw [Nat.add_assoc]⟩)
          · rw [ex24, hx] at h44
            refine AW.iconst 0 dX0_cutsInTime_47 (by decide) ?_
            exact AW.zret dX0_cutsInTime_48 rfl (by decide) (by decide) (by decide) (⟨by rw [← hV, show (b9 + 1 - a9) - k6 = (b9 + 1 - a9 - (k6 + 1)) + 1 by omega]; show _ = some (Value.int (kb (if _ then _ else if _ then _ else if _ then _ else _))); rw [if_neg h15, if_neg hm, if_pos (Int32.not_le.mp h44)]; rfl, rfl⟩)
  exact L6 0 (by omega) _ _ (⟨hx0, rfl⟩)
/-- the best row, as the chosen ones make it -/
def f_kr (lo ch row : Nat → Int32) (op : Nat) : Nat → Int32 := lfold (fun k w => upd w (lo k).toNatClampNeg (ch k)) row op
/-- what placing changes: the best cost, the best row, the chosen -/
def f_pW (I : Nat → Nat → Int32) (q : Nat) (s : Int32 × (Nat → Int32) × (Nat → Int32)) : Nat → Nat → Int32 := am_uA (am_uA (am_uA I q (upd (I q) 1 s.1)) (q + 1) s.2.1) (q + 8) s.2.2
theorem f_pW_o (I : Nat → Nat → Int32) (q : Nat) (s : Int32 × (Nat → Int32) × (Nat → Int32)) {a : Nat} (h1 : a ≠ q) (h2 : a ≠ q + 1) (h3 : a ≠ q + 8) : f_pW I q s a = I a := by unfold f_pW; rw [am_uA_o _ _ _ h3, am_uA_o _ _ _ h2, am_uA_o _ _ _ h1]
theorem f_pW_0 (I : Nat → Nat → Int32) (q : Nat) (s : Int32 × (Nat → Int32) × (Nat → Int32)) : f_pW I q s q = upd (I q) 1 s.1 := by unfold f_pW; rw [am_uA_o _ _ _ (by omega), am_uA_o _ _ _ (by omega), am_uA_s]
theorem f_pW_1 (I : Nat → Nat → Int32) (q : Nat) (s : Int32 × (Nat → Int32) × (Nat → Int32)) : f_pW I q s (q + 1) = s.2.1 := by unfold f_pW; rw [am_uA_o _ _ _ (by omega), am_uA_s]
theorem f_pW_8 (I : Nat → Nat → Int32) (q : Nat) (s : Int32 × (Nat → Int32) × (Nat → Int32)) : f_pW I q s (q + 8) = s.2.2 := by unfold f_pW; rw [am_uA_s]
theorem f_pW_e {I J : Nat → Nat → Int32} {q : Nat} {s : Int32 × (Nat → Int32) × (Nat → Int32)} (h0 : J q = upd (I q) 1 s.1) (h1 : J (q + 1) = s.2.1) (h8 : J (q + 8) = s.2.2) (h : ∀ a, a ≠ q → a ≠ q + 1 → a ≠ q + 8 → J a = I a) : J = f_pW I q s := by
  funext a
  by_cases e0 : a = q
  · rw [e0, h0, f_pW_0]
  · by_cases e1 : a = q + 1
    · rw [e1, h1, f_pW_1]
    · by_cases e8 : a = q + 8
      · rw [e8, h8, f_pW_8]
      · rw [h a e0 e1 e8, f_pW_o _ _ _ e0 e1 e8]
theorem dX0_keepBest_0 : decode cX0_keepBest 0 = .ok (.aload_n 0, 1) := by decide +kernel
theorem dX0_keepBest_1 : decode cX0_keepBest 1 = .ok (.iload_n 1, 1) := by decide +kernel
theorem dX0_keepBest_2 : decode cX0_keepBest 2 = .ok (.putfield 68, 3) := by decide +kernel
theorem dX0_keepBest_5 : decode cX0_keepBest 5 = .ok (.aload_n 0, 1) := by decide +kernel
theorem dX0_keepBest_6 : decode cX0_keepBest 6 = .ok (.getfield 9, 3) := by decide +kernel
theorem dX0_keepBest_9 : decode cX0_keepBest 9 = .ok (.iconst (-1), 1) := by decide +kernel
theorem dX0_keepBest_10 : decode cX0_keepBest 10 = .ok (.invokestatic 138, 3) := by decide +kernel
theorem dX0_keepBest_13 : decode cX0_keepBest 13 = .ok (.iconst 0, 1) := by decide +kernel
theorem dX0_keepBest_14 : decode cX0_keepBest 14 = .ok (.istore_n 2, 1) := by decide +kernel
theorem dX0_keepBest_15 : decode cX0_keepBest 15 = .ok (.iload_n 2, 1) := by decide +kernel
theorem dX0_keepBest_16 : decode cX0_keepBest 16 = .ok (.aload_n 0, 1) := by decide +kernel
theorem dX0_keepBest_17 : decode cX0_keepBest 17 = .ok (.getfield 83, 3) := by decide +kernel
theorem dX0_keepBest_20 : decode cX0_keepBest 20 = .ok (.if_icmp .ge 26, 3) := by decide +kernel
theorem dX0_keepBest_23 : decode cX0_keepBest 23 = .ok (.aload_n 0, 1) := by decide +kernel
theorem dX0_keepBest_24 : decode cX0_keepBest 24 = .ok (.getfield 9, 3) := by decide +kernel
theorem dX0_keepBest_27 : decode cX0_keepBest 27 = .ok (.aload_n 0, 1) := by decide +kernel
theorem dX0_keepBest_28 : decode cX0_keepBest 28 = .ok (.getfield 15, 3) := by decide +kernel
theorem dX0_keepBest_31 : decode cX0_keepBest 31 = .ok (.iload_n 2, 1) := by decide +kernel
theorem dX0_keepBest_32 : decode cX0_keepBest 32 = .ok (.iaload, 1) := by decide +kernel
theorem dX0_keepBest_33 : decode cX0_keepBest 33 = .ok (.aload_n 0, 1) := by decide +kernel
theorem dX0_keepBest_34 : decode cX0_keepBest 34 = .ok (.getfield 34, 3) := by decide +kernel
theorem dX0_keepBest_37 : decode cX0_keepBest 37 = .ok (.iload_n 2, 1) := by decide +kernel
theorem dX0_keepBest_38 : decode cX0_keepBest 38 = .ok (.iaload, 1) := by decide +kernel
theorem dX0_keepBest_39 : decode cX0_keepBest 39 = .ok (.iastore, 1) := by decide +kernel
theorem dX0_keepBest_40 : decode cX0_keepBest 40 = .ok (.iinc 2 1, 3) := by decide +kernel
theorem dX0_keepBest_43 : decode cX0_keepBest 43 = .ok (.goto (-28), 3) := by decide +kernel
theorem dX0_keepBest_46 : decode cX0_keepBest 46 = .ok (.return_, 1) := by decide +kernel
set_option maxRecDepth 100000 in
set_option maxHeartbeats 4000000 in
theorem k_X0_keepBest {G : am_G} (hK : k_OK G) {d : Nat} (hd : 1 ≤ d) {sh : List (Nat ⊕ (Nat × Nat))} {I : Nat → Nat → Int32} {R : Nat → Nat → Option Nat} {L : Nat → Nat → Int64} {g : Nat} {q : Nat} (hq : k_Carrier sh R q) {op : Nat} (hop : I q 3 = nI op) (hop5 : op ≤ 5) (hlo : ∀ k, k < op → vp_in (I (q + 2) k) 6) (c : Int32) : AM G mX0_keepBest d [.ref q, .int c] (sh, I, R, L, g) (fun v w => v = none ∧ w = (sh, f_pW I q (c, f_kr (I (q + 2)) (I (q + 8)) (f_fill (I (q + 1)) (-1) 6) op, I (q + 8)), R, L, g)) (fun _ _ => False) := by
  have hG := hK.1
  refine AM.of (n := 1) (by decide +kernel) (Nat.le_of_ble_eq_true rfl) ?_
  show AW G mX0_keepBest d (fun v w => v = none ∧ w = (sh, f_pW I q (c, f_kr (I (q + 2)) (I (q + 8)) (f_fill (I (q + 1)) (-1) 6) op, I (q + 8)), R, L, g)) (fun _ _ => False) 0 [some (.ref q), some (.int c), none] [] (sh, I, R, L, g) 0 0
  refine AW.aload_n dX0_keepBest_0 rfl ?_
  refine AW.iload_n dX0_keepBest_1 rfl ?_
  refine AW.putI (fX0_68 hG) rfl (vp_nar_int _) rfl (hq.1 0 _ rfl) dX0_keepBest_2 ?_
  refine AW.namI (fun I2 eI2 => ?_)
  refine AW.aload_n dX0_keepBest_5 rfl ?_
  refine AW.getR (c' := (q + 1)) (fX0_9 hG).r rfl (hq.1 0 _ rfl) (hq.2 (0, 0, 1) (by decide)) dX0_keepBest_6 ?_
  refine AW.iconst (-1) dX0_keepBest_9 (by decide) ?_
  refine AW.callS (As := [.ref (q + 1), .int (-1)]) hG.2.2 (vX0_138 hG) (k_fill hK (d := 0) (Nat.le_refl _) (hq.1 1 _ rfl) (by decide) (-1)) (by omega) dX0_keepBest_10 rfl rfl (Nat.le_of_ble_eq_true rfl) (fun v w9 hq9 h09 => by obtain ⟨rfl, rfl⟩ := hq9; exact ⟨h09, rfl⟩) (by decide) (by decide) (fun _ _ hx => hx) (fun v10 w10 hq10 => ?_)
  obtain ⟨rfl, rfl⟩ := hq10
  refine AW.namI (fun I10 eI10 => ?_)
  show AW G mX0_keepBest d (fun v w => v = none ∧ w = (sh, f_pW I q (c, f_kr (I (q + 2)) (I (q + 8)) (f_fill (I (q + 1)) (-1) 6) op, I (q + 8)), R, L, g)) (fun _ _ => False) 13 [some (.ref q), some (.int c), none] [] (sh, I10, R, L, g) 0 0
  refine AW.iconst 0 dX0_keepBest_13 (by decide) ?_
  refine AW.is_n [some (.ref q), some (.int c), some (.int 0)] dX0_keepBest_14 (by decide) rfl rfl ?_
  have L15 : ∀ k15, k15 ≤ op → ∀ (x : Int32) (J : Nat → Nat → Int32), (x = nI k15 ∧ J = f_pW I q (c, f_kr (I (q + 2)) (I (q + 8)) (f_fill (I (q + 1)) (-1) 6) k15, I (q + 8))) → AW G mX0_keepBest d (fun v w => v = none ∧ w = (sh, f_pW I q (c, f_kr (I (q + 2)) (I (q + 8)) (f_fill (I (q + 1)) (-1) 6) op, I (q + 8)), R, L, g)) (fun _ _ => False) 15 [some (.ref q), some (.int c), some (.int x)] [] (sh, J, R, L, g) 0 0 := by
    refine am_rec op (fun k15 hk15 ih15 => ?_)
    intro x J hi15
    obtain ⟨hx, hJ⟩ := hi15
    have hJo : J q 3 = nI op := by rw [hJ, f_pW_0]; exact hop
    have q2 : J (q + 2) = I (q + 2) := by rw [hJ, f_pW_o _ _ _ (by omega) (by omega) (by omega)]
    have q8 : J (q + 8) = I (q + 8) := by rw [hJ, f_pW_8]
    have q1 : J (q + 1) = f_kr (I (q + 2)) (I (q + 8)) (f_fill (I (q + 1)) (-1) 6) k15 := by rw [hJ, f_pW_1]
    refine AW.iload_n dX0_keepBest_15 rfl ?_
    refine AW.aload_n dX0_keepBest_16 rfl ?_
    refine AW.getI (fX0_83 hG).r rfl (hq.1 0 _ rfl) dX0_keepBest_17 ?_
    refine AW.icmp_ge 46 dX0_keepBest_20 (by decide) (fun h20 => ?_) (fun h20 => ?_)
    · have hke := k_ge h20 hx hJo hk15 (by omega)
      rw [hke] at hJ
      exact AW.vret dX0_keepBest_46 rfl (by decide) (by decide) (⟨rfl, by rw [hJ]⟩)
    · have hlt := k_lt h20 hx hJo hk15 (by omega)
      have hbx : vp_in x 5 := by rw [hx]; exact vp_in_nI (by omega) (by decide)
      have hcx : x.toNatClampNeg = k15 := k_lit hx (by omega)
      have hbl : vp_in (J (q + 2) x.toNatClampNeg) 6 := by rw [hcx, q2]; exact hlo k15 hlt
      refine AW.aload_n dX0_keepBest_23 rfl ?_
      refine AW.getR (c' := (q + 1)) (fX0_9 hG).r rfl (hq.1 0 _ rfl) (hq.2 (0, 0, 1) (by decide)) dX0_keepBest_24 ?_
      refine AW.aload_n dX0_keepBest_27 rfl ?_
      refine AW.getR (c' := (q + 2)) (fX0_15 hG).r rfl (hq.1 0 _ rfl) (hq.2 (0, 4, 2) (by decide)) dX0_keepBest_28 ?_
      refine AW.iload_n dX0_keepBest_31 rfl ?_
      refine AW.iald (hq.1 2 _ rfl) (by first | assumption | (unfold vp_in; decide) | exact vp_in_nI (by omega) (by decide)) dX0_keepBest_32 ?_
      refine AW.aload_n dX0_keepBest_33 rfl ?_
      refine AW.getR (c' := (q + 8)) (fX0_34 hG).r rfl (hq.1 0 _ rfl) (hq.2 (0, 10, 8) (by decide)) dX0_keepBest_34 ?_
      refine AW.iload_n dX0_keepBest_37 rfl ?_
      refine AW.iald (hq.1 8 _ rfl) (by first | assumption | (unfold vp_in; decide) | exact vp_in_nI (by omega) (by decide)) dX0_keepBest_38 ?_
      refine AW.iast (hq.1 1 _ rfl) (by first | assumption | (unfold vp_in; decide) | exact vp_in_nI (by omega) (by decide)) dX0_keepBest_39 ?_
      refine AW.namI (fun I39 eI39 => ?_)
      refine AW.inc (fun x40 => [some (.ref q), some (.int c), some (.int x40)]) dX0_keepBest_40 rfl (by decide) rfl (fun _ => rfl) (fun x40 ex40 => ?_)
      refine AW.goto 15 dX0_keepBest_43 (by decide) ?_
      exact ih15 (k15 + 1) (by omega) (by omega) _ _ (⟨k_inc (by assumption) hx, f_pW_e (by rw [eI39, am_up_o _ _ _ _ (by omega), hJ, f_pW_0]) (by rw [eI39, am_up_s, q1, q2, q8, hcx]; rfl) (by rw [eI39, am_up_o _ _ _ _ (by omega)]; exact q8) (fun a a0 a1 a8 => by rw [eI39, am_up_o _ _ _ _ a1, hJ, f_pW_o _ _ _ a0 a1 a8])⟩)
  exact L15 0 (by omega) _ _ (⟨nI_0.symm, f_pW_e (by rw [eI10, am_uA_o _ _ _ (by omega), eI2, am_up_s]) (by rw [eI10, am_uA_s, eI2, am_up_o _ _ _ _ (by omega)]; rfl) (by rw [eI10, am_uA_o _ _ _ (by omega), eI2, am_up_o _ _ _ _ (by omega)]) (fun a a0 a1 a8 => by rw [eI10, am_uA_o _ _ _ a1, eI2, am_up_o _ _ _ _ a0])⟩)
