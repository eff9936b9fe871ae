/-! MEMORY'S CLUES; addPerson, addEater -/
theorem dX4_addSeen_0 : decode cX4_addSeen 0 = .ok (.aload_n 0, 1) := by decide +kernel
theorem dX4_addSeen_1 : decode cX4_addSeen 1 = .ok (.getfield 44, 3) := by decide +kernel
theorem dX4_addSeen_4 : decode cX4_addSeen 4 = .ok (.bipush 6, 2) := by decide +kernel
theorem dX4_addSeen_6 : decode cX4_addSeen 6 = .ok (.if_icmp .ge 43, 3) := by decide +kernel
theorem dX4_addSeen_9 : decode cX4_addSeen 9 = .ok (.aload_n 0, 1) := by decide +kernel
theorem dX4_addSeen_10 : decode cX4_addSeen 10 = .ok (.getfield 22, 3) := by decide +kernel
theorem dX4_addSeen_13 : decode cX4_addSeen 13 = .ok (.aload_n 0, 1) := by decide +kernel
theorem dX4_addSeen_14 : decode cX4_addSeen 14 = .ok (.getfield 44, 3) := by decide +kernel
theorem dX4_addSeen_17 : decode cX4_addSeen 17 = .ok (.iload_n 1, 1) := by decide +kernel
theorem dX4_addSeen_18 : decode cX4_addSeen 18 = .ok (.iastore, 1) := by decide +kernel
theorem dX4_addSeen_19 : decode cX4_addSeen 19 = .ok (.aload_n 0, 1) := by decide +kernel
theorem dX4_addSeen_20 : decode cX4_addSeen 20 = .ok (.getfield 25, 3) := by decide +kernel
theorem dX4_addSeen_23 : decode cX4_addSeen 23 = .ok (.aload_n 0, 1) := by decide +kernel
theorem dX4_addSeen_24 : decode cX4_addSeen 24 = .ok (.getfield 44, 3) := by decide +kernel
theorem dX4_addSeen_27 : decode cX4_addSeen 27 = .ok (.iload_n 2, 1) := by decide +kernel
theorem dX4_addSeen_28 : decode cX4_addSeen 28 = .ok (.iastore, 1) := by decide +kernel
theorem dX4_addSeen_29 : decode cX4_addSeen 29 = .ok (.aload_n 0, 1) := by decide +kernel
theorem dX4_addSeen_30 : decode cX4_addSeen 30 = .ok (.getfield 28, 3) := by decide +kernel
theorem dX4_addSeen_33 : decode cX4_addSeen 33 = .ok (.aload_n 0, 1) := by decide +kernel
theorem dX4_addSeen_34 : decode cX4_addSeen 34 = .ok (.getfield 44, 3) := by decide +kernel
theorem dX4_addSeen_37 : decode cX4_addSeen 37 = .ok (.iload_n 3, 1) := by decide +kernel
theorem dX4_addSeen_38 : decode cX4_addSeen 38 = .ok (.iastore, 1) := by decide +kernel
theorem dX4_addSeen_39 : decode cX4_addSeen 39 = .ok (.aload_n 0, 1) := by decide +kernel
theorem dX4_addSeen_40 : decode cX4_addSeen 40 = .ok (.dup, 1) := by decide +kernel
theorem dX4_addSeen_41 : decode cX4_addSeen 41 = .ok (.getfield 44, 3) := by decide +kernel
theorem dX4_addSeen_44 : decode cX4_addSeen 44 = .ok (.iconst 1, 1) := by decide +kernel
theorem dX4_addSeen_45 : decode cX4_addSeen 45 = .ok (.iadd, 1) := by decide +kernel
theorem dX4_addSeen_46 : decode cX4_addSeen 46 = .ok (.putfield 44, 3) := by decide +kernel
theorem dX4_addSeen_49 : decode cX4_addSeen 49 = .ok (.aload_n 0, 1) := by decide +kernel
theorem dX4_addSeen_50 : decode cX4_addSeen 50 = .ok (.getfield 44, 3) := by decide +kernel
theorem dX4_addSeen_53 : decode cX4_addSeen 53 = .ok (.ireturn, 1) := by decide +kernel
set_option maxRecDepth 100000 in
set_option maxHeartbeats 4000000 in
theorem k_X4_addSeen {G : am_G} (hK : k_OK G) {d : Nat} (hd : 0 ≤ d) {sh : List (Nat ⊕ (Nat × Nat))} {I : Nat → Nat → Int32} {R : Nat → Nat → Option Nat} {L : Nat → Nat → Int64} {g : Nat} {q k : Nat} (hq : k_Memory sh R q) (hk : I q 2 = nI k) (hk6 : k < 6) (x y z : Int32) : AM G mX4_addSeen d [.ref q, .int x, .int y, .int z] (sh, I, R, L, g) (fun v w => v = some (.int (nI (k + 1))) ∧ w = (sh, am_uA (am_uA (am_uA (am_uA I (q + 14) (upd (I (q + 14)) k x)) (q + 15) (upd (I (q + 15)) k y)) (q + 16) (upd (I (q + 16)) k z)) q (upd (I q) 2 (nI (k + 1))), R, L, g)) (fun _ _ => False) := by
  have hG := hK.1
  have hck := k_lit hk (by omega)
  have hbk : vp_in (I q 2) 6 := by rw [hk]; exact vp_in_nI hk6 (by decide)
  refine AM.of (n := 0) (by decide +kernel) (Nat.le_of_ble_eq_true rfl) ?_
  show AW G mX4_addSeen d (fun v w => v = some (.int (nI (k + 1))) ∧ w = (sh, am_uA (am_uA (am_uA (am_uA I (q + 14) (upd (I (q + 14)) k x)) (q + 15) (upd (I (q + 15)) k y)) (q + 16) (upd (I (q + 16)) k z)) q (upd (I q) 2 (nI (k + 1))), R, L, g)) (fun _ _ => False) 0 [some (.ref q), some (.int x), some (.int y), some (.int z)] [] (sh, I, R, L, g) 0 0
  refine AW.aload_n dX4_addSeen_0 rfl ?_
  refine AW.getI (fX4_44 hG).r rfl (hq.1 0 _ rfl) dX4_addSeen_1 ?_
  refine AW.bipush 6 dX4_addSeen_4 (by decide) ?_
  refine AW.icmp_ge 49 dX4_addSeen_6 (by decide) (fun h6 => ?_) (fun h6 => ?_)
  · exact absurd ((nI_lel (n := 6) rfl hk (by decide) (by omega)).mp h6) (by omega)
  · refine AW.aload_n dX4_addSeen_9 rfl ?_
    refine AW.getR (c' := (q + 14)) (fX4_22 hG).r rfl (hq.1 0 _ rfl) (hq.2 (0, 3, 14) (by decide)) dX4_addSeen_10 ?_
    refine AW.aload_n dX4_addSeen_13 rfl ?_
    refine AW.getI (fX4_44 hG).r rfl (hq.1 0 _ rfl) dX4_addSeen_14 ?_
    refine AW.iload_n dX4_addSeen_17 rfl ?_
    refine AW.iast (hq.1 14 _ rfl) (by first | assumption | (unfold vp_in; decide) | exact vp_in_nI (by omega) (by decide)) dX4_addSeen_18 ?_
    refine AW.namI (fun I18 eI18 => ?_)
    refine AW.aload_n dX4_addSeen_19 rfl ?_
    refine AW.getR (c' := (q + 15)) (fX4_25 hG).r rfl (hq.1 0 _ rfl) (hq.2 (0, 4, 15) (by decide)) dX4_addSeen_20 ?_
    refine AW.aload_n dX4_addSeen_23 rfl ?_
    refine AW.getI (fX4_44 hG).r rfl (hq.1 0 _ rfl) dX4_addSeen_24 ?_
    refine AW.iload_n dX4_addSeen_27 rfl ?_
    refine AW.iast (hq.1 15 _ rfl) (by rw [eI18, am_up_o _ _ _ _ (by omega)]; exact hbk) dX4_addSeen_28 ?_
    refine AW.namI (fun I28 eI28 => ?_)
    refine AW.aload_n dX4_addSeen_29 rfl ?_
    refine AW.getR (c' := (q + 16)) (fX4_28 hG).r rfl (hq.1 0 _ rfl) (hq.2 (0, 5, 16) (by decide)) dX4_addSeen_30 ?_
    refine AW.aload_n dX4_addSeen_33 rfl ?_
    refine AW.getI (fX4_44 hG).r rfl (hq.1 0 _ rfl) dX4_addSeen_34 ?_
    refine AW.iload_n dX4_addSeen_37 rfl ?_
    refine AW.iast (hq.1 16 _ rfl) (by rw [eI28, am_up_o _ _ _ _ (by omega), eI18, am_up_o _ _ _ _ (by omega)]; exact hbk) dX4_addSeen_38 ?_
    refine AW.namI (fun I38 eI38 => ?_)
    refine AW.aload_n dX4_addSeen_39 rfl ?_
    refine AW.dup dX4_addSeen_40 rfl ?_
    refine AW.getI (fX4_44 hG).r rfl (hq.1 0 _ rfl) dX4_addSeen_41 ?_
    refine AW.iconst 1 dX4_addSeen_44 (by decide) ?_
    refine AW.iadd dX4_addSeen_45 ?_
    refine AW.putI (fX4_44 hG) rfl (vp_nar_int _) rfl (hq.1 0 _ rfl) dX4_addSeen_46 ?_
    refine AW.namI (fun I46 eI46 => ?_)
    have e46 : I46 = am_uA (am_uA (am_uA (am_uA I (q + 14) (upd (I (q + 14)) k x)) (q + 15) (upd (I (q + 15)) k y)) (q + 16) (upd (I (q + 16)) k z)) q (upd (I q) 2 (nI (k + 1))) := by
      rw [eI46, eI38, eI28, eI18]
      simp (disch := omega) only [am_up_uA, am_uA_s, am_uA_o, am_uA_uA]
      rw [hck, hk, nI_1]
    refine AW.aload_n dX4_addSeen_49 rfl ?_
    refine AW.getI (fX4_44 hG).r rfl (hq.1 0 _ rfl) dX4_addSeen_50 ?_
    exact AW.iret dX4_addSeen_53 rfl (by decide) (by decide) (⟨by rw [e46, am_uA_s]; rfl, by rw [e46]⟩)
theorem dX4_addBalked_0 : decode cX4_addBalked 0 = .ok (.aload_n 0, 1) := by decide +kernel
theorem dX4_addBalked_1 : decode cX4_addBalked 1 = .ok (.getfield 48, 3) := by decide +kernel
theorem dX4_addBalked_4 : decode cX4_addBalked 4 = .ok (.iconst 4, 1) := by decide +kernel
theorem dX4_addBalked_5 : decode cX4_addBalked 5 = .ok (.if_icmp .ge 33, 3) := by decide +kernel
theorem dX4_addBalked_8 : decode cX4_addBalked 8 = .ok (.aload_n 0, 1) := by decide +kernel
theorem dX4_addBalked_9 : decode cX4_addBalked 9 = .ok (.getfield 31, 3) := by decide +kernel
theorem dX4_addBalked_12 : decode cX4_addBalked 12 = .ok (.aload_n 0, 1) := by decide +kernel
theorem dX4_addBalked_13 : decode cX4_addBalked 13 = .ok (.getfield 48, 3) := by decide +kernel
theorem dX4_addBalked_16 : decode cX4_addBalked 16 = .ok (.iload_n 1, 1) := by decide +kernel
theorem dX4_addBalked_17 : decode cX4_addBalked 17 = .ok (.iastore, 1) := by decide +kernel
theorem dX4_addBalked_18 : decode cX4_addBalked 18 = .ok (.aload_n 0, 1) := by decide +kernel
theorem dX4_addBalked_19 : decode cX4_addBalked 19 = .ok (.getfield 34, 3) := by decide +kernel
theorem dX4_addBalked_22 : decode cX4_addBalked 22 = .ok (.aload_n 0, 1) := by decide +kernel
theorem dX4_addBalked_23 : decode cX4_addBalked 23 = .ok (.getfield 48, 3) := by decide +kernel
theorem dX4_addBalked_26 : decode cX4_addBalked 26 = .ok (.iload_n 2, 1) := by decide +kernel
theorem dX4_addBalked_27 : decode cX4_addBalked 27 = .ok (.iastore, 1) := by decide +kernel
theorem dX4_addBalked_28 : decode cX4_addBalked 28 = .ok (.aload_n 0, 1) := by decide +kernel
theorem dX4_addBalked_29 : decode cX4_addBalked 29 = .ok (.dup, 1) := by decide +kernel
theorem dX4_addBalked_30 : decode cX4_addBalked 30 = .ok (.getfield 48, 3) := by decide +kernel
theorem dX4_addBalked_33 : decode cX4_addBalked 33 = .ok (.iconst 1, 1) := by decide +kernel
theorem dX4_addBalked_34 : decode cX4_addBalked 34 = .ok (.iadd, 1) := by decide +kernel
theorem dX4_addBalked_35 : decode cX4_addBalked 35 = .ok (.putfield 48, 3) := by decide +kernel
theorem dX4_addBalked_38 : decode cX4_addBalked 38 = .ok (.aload_n 0, 1) := by decide +kernel
theorem dX4_addBalked_39 : decode cX4_addBalked 39 = .ok (.getfield 48, 3) := by decide +kernel
theorem dX4_addBalked_42 : decode cX4_addBalked 42 = .ok (.ireturn, 1) := by decide +kernel
set_option maxRecDepth 100000 in
set_option maxHeartbeats 4000000 in
theorem k_X4_addBalked {G : am_G} (hK : k_OK G) {d : Nat} (hd : 0 ≤ d) {sh : List (Nat ⊕ (Nat × Nat))} {I : Nat → Nat → Int32} {R : Nat → Nat → Option Nat} {L : Nat → Nat → Int64} {g : Nat} {q k : Nat} (hq : k_Memory sh R q) (hk : I q 6 = nI k) (hk4 : k < 4) (x y : Int32) : AM G mX4_addBalked d [.ref q, .int x, .int y] (sh, I, R, L, g) (fun v w => v = some (.int (nI (k + 1))) ∧ w = (sh, am_uA (am_uA (am_uA I (q + 17) (upd (I (q + 17)) k x)) (q + 18) (upd (I (q + 18)) k y)) q (upd (I q) 6 (nI (k + 1))), R, L, g)) (fun _ _ => False) := by
  have hG := hK.1
  have hck := k_lit hk (by omega)
  have hbk : vp_in (I q 6) 4 := by rw [hk]; exact vp_in_nI hk4 (by decide)
  refine AM.of (n := 0) (by decide +kernel) (Nat.le_of_ble_eq_true rfl) ?_
  show AW G mX4_addBalked d (fun v w => v = some (.int (nI (k + 1))) ∧ w = (sh, am_uA (am_uA (am_uA I (q + 17) (upd (I (q + 17)) k x)) (q + 18) (upd (I (q + 18)) k y)) q (upd (I q) 6 (nI (k + 1))), R, L, g)) (fun _ _ => False) 0 [some (.ref q), some (.int x), some (.int y)] [] (sh, I, R, L, g) 0 0
  refine AW.aload_n dX4_addBalked_0 rfl ?_
  refine AW.getI (fX4_48 hG).r rfl (hq.1 0 _ rfl) dX4_addBalked_1 ?_
  refine AW.iconst 4 dX4_addBalked_4 (by decide) ?_
  refine AW.icmp_ge 38 dX4_addBalked_5 (by decide) (fun h5 => ?_) (fun h5 => ?_)
  · exact absurd ((nI_lel (n := 4) rfl hk (by decide) (by omega)).mp h5) (by omega)
  · refine AW.aload_n dX4_addBalked_8 rfl ?_
    refine AW.getR (c' := (q + 17)) (fX4_31 hG).r rfl (hq.1 0 _ rfl) (hq.2 (0, 7, 17) (by decide)) dX4_addBalked_9 ?_
    refine AW.aload_n dX4_addBalked_12 rfl ?_
    refine AW.getI (fX4_48 hG).r rfl (hq.1 0 _ rfl) dX4_addBalked_13 ?_
    refine AW.iload_n dX4_addBalked_16 rfl ?_
    refine AW.iast (hq.1 17 _ rfl) (by first | assumption | (unfold vp_in; decide) | exact vp_in_nI (by omega) (by decide)) dX4_addBalked_17 ?_
    refine AW.namI (fun I17 eI17 => ?_)
    refine AW.aload_n dX4_addBalked_18 rfl ?_
    refine AW.getR (c' := (q + 18)) (fX4_34 hG).r rfl (hq.1 0 _ rfl) (hq.2 (0, 8, 18) (by decide)) dX4_addBalked_19 ?_
    refine AW.aload_n dX4_addBalked_22 rfl ?_
    refine AW.getI (fX4_48 hG).r rfl (hq.1 0 _ rfl) dX4_addBalked_23 ?_
    refine AW.iload_n dX4_addBalked_26 rfl ?_
    refine AW.iast (hq.1 18 _ rfl) (by rw [eI17, am_up_o _ _ _ _ (by omega)]; exact hbk) dX4_addBalked_27 ?_
    refine AW.namI (fun I27 eI27 => ?_)
    refine AW.aload_n dX4_addBalked_28 rfl ?_
    refine AW.dup dX4_addBalked_29 rfl ?_
    refine AW.getI (fX4_48 hG).r rfl (hq.1 0 _ rfl) dX4_addBalked_30 ?_
    refine AW.iconst 1 dX4_addBalked_33 (by decide) ?_
    refine AW.iadd dX4_addBalked_34 ?_
    refine AW.putI (fX4_48 hG) rfl (vp_nar_int _) rfl (hq.1 0 _ rfl) dX4_addBalked_35 ?_
    refine AW.namI (fun I35 eI35 => ?_)
    have e35 : I35 = am_uA (am_uA (am_uA I (q + 17) (upd (I (q + 17)) k x)) (q + 18) (upd (I (q + 18)) k y)) q (upd (I q) 6 (nI (k + 1))) := by
      rw [eI35, eI27, eI17]
      simp (disch := omega) only [am_up_uA, am_uA_s, am_uA_o, am_uA_uA]
      rw [hck, hk, nI_1]
    refine AW.aload_n dX4_addBalked_38 rfl ?_
    refine AW.getI (fX4_48 hG).r rfl (hq.1 0 _ rfl) dX4_addBalked_39 ?_
    exact AW.iret dX4_addBalked_42 rfl (by decide) (by decide) (⟨by rw [e35, am_uA_s]; rfl, by rw [e35]⟩)
def f_sf (sl se sm gt : Nat → Int32) (x : Int32) (k : Nat) : Bool := lall (fun j => !(decide (sl j = x) && decide (¬ gt (se j).toNatClampNeg = sm j))) k
theorem dX4_seenFits_0 : decode cX4_seenFits 0 = .ok (.iconst 0, 1) := by decide +kernel
theorem dX4_seenFits_1 : decode cX4_seenFits 1 = .ok (.istore_n 3, 1) := by decide +kernel
theorem dX4_seenFits_2 : decode cX4_seenFits 2 = .ok (.iload_n 3, 1) := by decide +kernel
theorem dX4_seenFits_3 : decode cX4_seenFits 3 = .ok (.aload_n 0, 1) := by decide +kernel
theorem dX4_seenFits_4 : decode cX4_seenFits 4 = .ok (.getfield 44, 3) := by decide +kernel
theorem dX4_seenFits_7 : decode cX4_seenFits 7 = .ok (.if_icmp .ge 38, 3) := by decide +kernel
theorem dX4_seenFits_10 : decode cX4_seenFits 10 = .ok (.aload_n 0, 1) := by decide +kernel
theorem dX4_seenFits_11 : decode cX4_seenFits 11 = .ok (.getfield 22, 3) := by decide +kernel
theorem dX4_seenFits_14 : decode cX4_seenFits 14 = .ok (.iload_n 3, 1) := by decide +kernel
theorem dX4_seenFits_15 : decode cX4_seenFits 15 = .ok (.iaload, 1) := by decide +kernel
theorem dX4_seenFits_16 : decode cX4_seenFits 16 = .ok (.iload_n 1, 1) := by decide +kernel
theorem dX4_seenFits_17 : decode cX4_seenFits 17 = .ok (.if_icmp .ne 22, 3) := by decide +kernel
theorem dX4_seenFits_20 : decode cX4_seenFits 20 = .ok (.aload_n 2, 1) := by decide +kernel
theorem dX4_seenFits_21 : decode cX4_seenFits 21 = .ok (.aload_n 0, 1) := by decide +kernel
theorem dX4_seenFits_22 : decode cX4_seenFits 22 = .ok (.getfield 25, 3) := by decide +kernel
theorem dX4_seenFits_25 : decode cX4_seenFits 25 = .ok (.iload_n 3, 1) := by decide +kernel
theorem dX4_seenFits_26 : decode cX4_seenFits 26 = .ok (.iaload, 1) := by decide +kernel
theorem dX4_seenFits_27 : decode cX4_seenFits 27 = .ok (.iaload, 1) := by decide +kernel
theorem dX4_seenFits_28 : decode cX4_seenFits 28 = .ok (.aload_n 0, 1) := by decide +kernel
theorem dX4_seenFits_29 : decode cX4_seenFits 29 = .ok (.getfield 28, 3) := by decide +kernel
theorem dX4_seenFits_32 : decode cX4_seenFits 32 = .ok (.iload_n 3, 1) := by decide +kernel
theorem dX4_seenFits_33 : decode cX4_seenFits 33 = .ok (.iaload, 1) := by decide +kernel
theorem dX4_seenFits_34 : decode cX4_seenFits 34 = .ok (.if_icmp .eq 5, 3) := by decide +kernel
theorem dX4_seenFits_37 : decode cX4_seenFits 37 = .ok (.iconst 0, 1) := by decide +kernel
theorem dX4_seenFits_38 : decode cX4_seenFits 38 = .ok (.ireturn, 1) := by decide +kernel
theorem dX4_seenFits_39 : decode cX4_seenFits 39 = .ok (.iinc 3 1, 3) := by decide +kernel
theorem dX4_seenFits_42 : decode cX4_seenFits 42 = .ok (.goto (-40), 3) := by decide +kernel
theorem dX4_seenFits_45 : decode cX4_seenFits 45 = .ok (.iconst 1, 1) := by decide +kernel
theorem dX4_seenFits_46 : decode cX4_seenFits 46 = .ok (.ireturn, 1) := by decide +kernel
set_option maxRecDepth 100000 in
set_option maxHeartbeats 4000000 in
theorem k_X4_seenFits {G : am_G} (hK : k_OK G) {d : Nat} (hd : 0 ≤ d) {sh : List (Nat ⊕ (Nat × Nat))} {I : Nat → Nat → Int32} {R : Nat → Nat → Option Nat} {L : Nat → Nat → Int64} {g : Nat} {q c k : Nat} (hq : k_Memory sh R q) (hs : sh[c]? = some (.inr (0, 6))) (hk : I q 2 = nI k) (hk6 : k ≤ 6) (x : Int32) (he : ∀ j, j < k → I (q + 14) j = x → vp_in (I (q + 15) j) 6) : AM G mX4_seenFits d [.ref q, .int x, .ref c] (sh, I, R, L, g) (fun v w => v = some (.int (kb (f_sf (I (q + 14)) (I (q + 15)) (I (q + 16)) (I c) x k))) ∧ w = (sh, I, R, L, g)) (fun _ _ => False) := by
  have hG := hK.1
  refine AM.of (n := 1) (by decide +kernel) (Nat.le_of_ble_eq_true rfl) ?_
  show AW G mX4_seenFits d (fun v w => v = some (.int (kb (f_sf (I (q + 14)) (I (q + 15)) (I (q + 16)) (I c) x k))) ∧ w = (sh, I, R, L, g)) (fun _ _ => False) 0 [some (.ref q), some (.int x), some (.ref c), none] [] (sh, I, R, L, g) 0 0
  refine AW.iconst 0 dX4_seenFits_0 (by decide) ?_
  refine AW.is_n [some (.ref q), some (.int x), some (.ref c), some (.int 0)] dX4_seenFits_1 (by decide) rfl rfl ?_
  have L2 : ∀ k2, k2 ≤ k → ∀ (y : Int32), (y = nI k2 ∧ f_sf (I (q + 14)) (I (q + 15)) (I (q + 16)) (I c) x k2 = true) → AW G mX4_seenFits d (fun v w => v = some (.int (kb (f_sf (I (q + 14)) (I (q + 15)) (I (q + 16)) (I c) x k))) ∧ w = (sh, I, R, L, g)) (fun _ _ => False) 2 [some (.ref q), some (.int x), some (.ref c), some (.int y)] [] (sh, I, R, L, g) 0 0 := by
    refine am_rec k (fun k2 hk2 ih2 => ?_)
    intro y hi2
    obtain ⟨hy, ha⟩ := hi2
    refine AW.iload_n dX4_seenFits_2 rfl ?_
    refine AW.aload_n dX4_seenFits_3 rfl ?_
    refine AW.getI (fX4_44 hG).r rfl (hq.1 0 _ rfl) dX4_seenFits_4 ?_
    refine AW.icmp_ge 45 dX4_seenFits_7 (by decide) (fun h7 => ?_) (fun h7 => ?_)
    · have hke := k_ge h7 hy hk hk2 (by omega)
      subst hke
      refine AW.iconst 1 dX4_seenFits_45 (by decide) ?_
      exact AW.zret dX4_seenFits_46 rfl (by decide) (by decide) (by decide) (⟨by rw [ha]; rfl, rfl⟩)
    · have hlt := k_lt h7 hy hk hk2 (by omega)
      have hby : vp_in y 6 := by rw [hy]; exact vp_in_nI (by omega) (by decide)
      have hcy : y.toNatClampNeg = k2 := k_lit hy (by omega)
      refine AW.aload_n dX4_seenFits_10 rfl ?_
      refine AW.getR (c' := (q + 14)) (fX4_22 hG).r rfl (hq.1 0 _ rfl) (hq.2 (0, 3, 14) (by decide)) dX4_seenFits_11 ?_
      refine AW.iload_n dX4_seenFits_14 rfl ?_
      refine AW.iald (hq.1 14 _ rfl) (by first | assumption | (unfold vp_in; decide) | exact vp_in_nI (by omega) (by decide)) dX4_seenFits_15 ?_
      refine AW.iload_n dX4_seenFits_16 rfl ?_
      refine AW.icmp_ne 39 dX4_seenFits_17 (by decide) (fun h17 => ?_) (fun h17 => ?_)
      · rw [hcy] at h17
        refine AW.inc (fun x39 => [some (.ref q), some (.int x), some (.ref c), some (.int x39)]) dX4_seenFits_39 rfl (by decide) rfl (fun _ => rfl) (fun x39 ex39 => ?_)
        refine AW.goto 2 dX4_seenFits_42 (by decide) ?_
        exact ih2 (k2 + 1) (by omega) (by omega) _ (⟨k_inc (by assumption) hy, (show (f_sf (I (q + 14)) (I (q + 15)) (I (q + 16)) (I c) x k2 && _) = true by rw [ha]; simp [h17])⟩)
      · rw [hcy] at h17
        have hb9 : vp_in (I (q + 15) y.toNatClampNeg) 6 := by rw [hcy]; exact he k2 hlt h17
        refine AW.aload_n dX4_seenFits_20 rfl ?_
        refine AW.aload_n dX4_seenFits_21 rfl ?_
        refine AW.getR (c' := (q + 15)) (fX4_25 hG).r rfl (hq.1 0 _ rfl) (hq.2 (0, 4, 15) (by decide)) dX4_seenFits_22 ?_
        refine AW.iload_n dX4_seenFits_25 rfl ?_
        refine AW.iald (hq.1 15 _ rfl) (by first | assumption | (unfold vp_in; decide) | exact vp_in_nI (by omega) (by decide)) dX4_seenFits_26 ?_
        refine AW.iald hs (by first | assumption | (unfold vp_in; decide) | exact vp_in_nI (by omega) (by decide)) dX4_seenFits_27 ?_
        refine AW.aload_n dX4_seenFits_28 rfl ?_
        refine AW.getR (c' := (q + 16)) (fX4_28 hG).r rfl (hq.1 0 _ rfl) (hq.2 (0, 5, 16) (by decide)) dX4_seenFits_29 ?_
        refine AW.iload_n dX4_seenFits_32 rfl ?_
        refine AW.iald (hq.1 16 _ rfl) (by first | assumption | (unfold vp_in; decide) | exact vp_in_nI (by omega) (by decide)) dX4_seenFits_33 ?_
        refine AW.icmp_eq 39 dX4_seenFits_34 (by decide) (fun h34 => ?_) (fun h34 => ?_)
        · rw [hcy] at h34
          refine AW.inc (fun x39 => [some (.ref q), some (.int x), some (.ref c), some (.int x39)]) dX4_seenFits_39 rfl (by decide) rfl (fun _ => rfl) (fun x39 ex39 => ?_)
          refine AW.goto 2 dX4_seenFits_42 (by decide) ?_
          exact ih2 (k2 + 1) (by omega) (by omega) _ (⟨k_inc (by assumption) hy, (show (f_sf (I (q + 14)) (I (q + 15)) (I (q + 16)) (I c) x k2 && _) = true by rw [ha]; simp [h17, h34])⟩)
        · rw [hcy] at h34
          refine AW.iconst 0 dX4_seenFits_37 (by decide) ?_
          exact AW.zret dX4_seenFits_38 rfl (by decide) (by decide) (by decide) (⟨by rw [kb_f (b := f_sf (I (q + 14)) (I (q + 15)) (I (q + 16)) (I c) x k) (lall_no hlt (by simp [h17, h34]))], rfl⟩)
  exact L2 0 (by omega) _ (⟨nI_0.symm, rfl⟩)
theorem dX3_addEater_0 : decode cX3_addEater 0 = .ok (.aload_n 0, 1) := by decide +kernel
theorem dX3_addEater_1 : decode cX3_addEater 1 = .ok (.getfield 24, 3) := by decide +kernel
theorem dX3_addEater_4 : decode cX3_addEater 4 = .ok (.iload_n 1, 1) := by decide +kernel
theorem dX3_addEater_5 : decode cX3_addEater 5 = .ok (.iaload, 1) := by decide +kernel
theorem dX3_addEater_6 : decode cX3_addEater 6 = .ok (.istore_n 3, 1) := by decide +kernel
theorem dX3_addEater_7 : decode cX3_addEater 7 = .ok (.iload_n 3, 1) := by decide +kernel
theorem dX3_addEater_8 : decode cX3_addEater 8 = .ok (.bipush 6, 2) := by decide +kernel
theorem dX3_addEater_10 : decode cX3_addEater 10 = .ok (.if_icmp .ge 36, 3) := by decide +kernel
theorem dX3_addEater_13 : decode cX3_addEater 13 = .ok (.aload_n 0, 1) := by decide +kernel
theorem dX3_addEater_14 : decode cX3_addEater 14 = .ok (.getfield 30, 3) := by decide +kernel
theorem dX3_addEater_17 : decode cX3_addEater 17 = .ok (.iload_n 1, 1) := by decide +kernel
theorem dX3_addEater_18 : decode cX3_addEater 18 = .ok (.bipush 6, 2) := by decide +kernel
theorem dX3_addEater_20 : decode cX3_addEater 20 = .ok (.imul, 1) := by decide +kernel
theorem dX3_addEater_21 : decode cX3_addEater 21 = .ok (.iload_n 3, 1) := by decide +kernel
theorem dX3_addEater_22 : decode cX3_addEater 22 = .ok (.iadd, 1) := by decide +kernel
theorem dX3_addEater_23 : decode cX3_addEater 23 = .ok (.iload_n 2, 1) := by decide +kernel
theorem dX3_addEater_24 : decode cX3_addEater 24 = .ok (.iastore, 1) := by decide +kernel
theorem dX3_addEater_25 : decode cX3_addEater 25 = .ok (.aload_n 0, 1) := by decide +kernel
theorem dX3_addEater_26 : decode cX3_addEater 26 = .ok (.getfield 24, 3) := by decide +kernel
theorem dX3_addEater_29 : decode cX3_addEater 29 = .ok (.iload_n 1, 1) := by decide +kernel
theorem dX3_addEater_30 : decode cX3_addEater 30 = .ok (.iload_n 3, 1) := by decide +kernel
theorem dX3_addEater_31 : decode cX3_addEater 31 = .ok (.iconst 1, 1) := by decide +kernel
theorem dX3_addEater_32 : decode cX3_addEater 32 = .ok (.iadd, 1) := by decide +kernel
theorem dX3_addEater_33 : decode cX3_addEater 33 = .ok (.iastore, 1) := by decide +kernel
theorem dX3_addEater_34 : decode cX3_addEater 34 = .ok (.aload_n 0, 1) := by decide +kernel
theorem dX3_addEater_35 : decode cX3_addEater 35 = .ok (.getfield 27, 3) := by decide +kernel
theorem dX3_addEater_38 : decode cX3_addEater 38 = .ok (.iload_n 1, 1) := by decide +kernel
theorem dX3_addEater_39 : decode cX3_addEater 39 = .ok (.dup2, 1) := by decide +kernel
theorem dX3_addEater_40 : decode cX3_addEater 40 = .ok (.iaload, 1) := by decide +kernel
theorem dX3_addEater_41 : decode cX3_addEater 41 = .ok (.iconst 1, 1) := by decide +kernel
theorem dX3_addEater_42 : decode cX3_addEater 42 = .ok (.iload_n 2, 1) := by decide +kernel
theorem dX3_addEater_43 : decode cX3_addEater 43 = .ok (.ishl, 1) := by decide +kernel
theorem dX3_addEater_44 : decode cX3_addEater 44 = .ok (.ior, 1) := by decide +kernel
theorem dX3_addEater_45 : decode cX3_addEater 45 = .ok (.iastore, 1) := by decide +kernel
theorem dX3_addEater_46 : decode cX3_addEater 46 = .ok (.return_, 1) := by decide +kernel
set_option maxRecDepth 100000 in
set_option maxHeartbeats 4000000 in
theorem k_X3_addEater {G : am_G} (hK : k_OK G) {d : Nat} (hd : 0 ≤ d) {sh : List (Nat ⊕ (Nat × Nat))} {I : Nat → Nat → Int32} {R : Nat → Nat → Option Nat} {L : Nat → Nat → Int64} {g : Nat} {l lf ec : Nat} (hl : k_Loaves sh R l) (x p : Int32) (hx : x = nI lf) (hlf : lf < 6) (hec : I (l + 5) lf = nI ec) (hec6 : ec < 6) : AM G mX3_addEater d [.ref l, .int x, .int p] (sh, I, R, L, g) (fun v w => v = none ∧ w = (sh, am_uA (am_uA (am_uA I (l + 7) (upd (I (l + 7)) (6 * lf + ec) p)) (l + 5) (upd (I (l + 5)) lf (nI (ec + 1)))) (l + 6) (upd (I (l + 6)) lf (I (l + 6) lf ||| ((1 : Int32) <<< (p &&& 31)))), R, L, g)) (fun _ _ => False) := by
  have hG := hK.1
  have hcx : x.toNatClampNeg = lf := k_lit hx (by omega)
  have hbx : vp_in x 6 := by rw [hx]; exact vp_in_nI hlf (by decide)
  refine AM.of (n := 1) (by decide +kernel) (Nat.le_of_ble_eq_true rfl) ?_
  show AW G mX3_addEater d (fun v w => v = none ∧ w = (sh, am_uA (am_uA (am_uA I (l + 7) (upd (I (l + 7)) (6 * lf + ec) p)) (l + 5) (upd (I (l + 5)) lf (nI (ec + 1)))) (l + 6) (upd (I (l + 6)) lf (I (l + 6) lf ||| ((1 : Int32) <<< (p &&& 31)))), R, L, g)) (fun _ _ => False) 0 [some (.ref l), some (.int x), some (.int p), none] [] (sh, I, R, L, g) 0 0
  refine AW.aload_n dX3_addEater_0 rfl ?_
  refine AW.getR (c' := (l + 5)) (fX3_24 hG).r rfl (hl.1 0 _ rfl) (hl.2 (0, 5, 5) (by decide)) dX3_addEater_1 ?_
  refine AW.iload_n dX3_addEater_4 rfl ?_
  refine AW.iald (hl.1 5 _ rfl) (by first | assumption | (unfold vp_in; decide) | exact vp_in_nI (by omega) (by decide)) dX3_addEater_5 ?_
  refine AW.nam (fun x6 ex6 => ?_)
  refine AW.is_n [some (.ref l), some (.int x), some (.int p), some (.int x6)] dX3_addEater_6 (by decide) rfl rfl ?_
  have ex6 : x6 = nI ec := by rw [ex6, hcx]; exact hec
  have hix : x * 6 + x6 = nI (6 * lf + ec) := k_66 rfl hx ex6
  have hbix : vp_in (x * 6 + x6) 36 := by rw [hix]; exact vp_in_nI (by omega) (by decide)
  have hcix : (x * 6 + x6).toNatClampNeg = 6 * lf + ec := k_lit hix (by omega)
  refine AW.iload_n dX3_addEater_7 rfl ?_
  refine AW.bipush 6 dX3_addEater_8 (by decide) ?_
  refine AW.icmp_ge 46 dX3_addEater_10 (by decide) (fun h10 => ?_) (fun h10 => ?_)
  · exact absurd ((nI_lel (n := 6) rfl ex6 (by decide) (by omega)).mp h10) (by omega)
  · refine AW.aload_n dX3_addEater_13 rfl ?_
    refine AW.getR (c' := (l + 7)) (fX3_30 hG).r rfl (hl.1 0 _ rfl) (hl.2 (0, 7, 7) (by decide)) dX3_addEater_14 ?_
    refine AW.iload_n dX3_addEater_17 rfl ?_
    refine AW.bipush 6 dX3_addEater_18 (by decide) ?_
    refine AW.imul dX3_addEater_20 ?_
    refine AW.iload_n dX3_addEater_21 rfl ?_
    refine AW.iadd dX3_addEater_22 ?_
    refine AW.iload_n dX3_addEater_23 rfl ?_
    refine AW.iast (hl.1 7 _ rfl) (by first | assumption | (unfold vp_in; decide) | exact vp_in_nI (by omega) (by decide)) dX3_addEater_24 ?_
    refine AW.namI (fun I24 eI24 => ?_)
    refine AW.aload_n dX3_addEater_25 rfl ?_
    refine AW.getR (c' := (l + 5)) (fX3_24 hG).r rfl (hl.1 0 _ rfl) (hl.2 (0, 5, 5) (by decide)) dX3_addEater_26 ?_
    refine AW.iload_n dX3_addEater_29 rfl ?_
    refine AW.iload_n dX3_addEater_30 rfl ?_
    refine AW.iconst 1 dX3_addEater_31 (by decide) ?_
    refine AW.iadd dX3_addEater_32 ?_
    refine AW.iast (hl.1 5 _ rfl) (by first | assumption | (unfold vp_in; decide) | exact vp_in_nI (by omega) (by decide)) dX3_addEater_33 ?_
    refine AW.namI (fun I33 eI33 => ?_)
    refine AW.aload_n dX3_addEater_34 rfl ?_
    refine AW.getR (c' := (l + 6)) (fX3_27 hG).r rfl (hl.1 0 _ rfl) (hl.2 (0, 6, 6) (by decide)) dX3_addEater_35 ?_
    refine AW.iload_n dX3_addEater_38 rfl ?_
    refine AW.dup2 dX3_addEater_39 rfl rfl ?_
    refine AW.iald (hl.1 6 _ rfl) (by first | assumption | (unfold vp_in; decide) | exact vp_in_nI (by omega) (by decide)) dX3_addEater_40 ?_
    refine AW.iconst 1 dX3_addEater_41 (by decide) ?_
    refine AW.iload_n dX3_addEater_42 rfl ?_
    refine AW.ishl dX3_addEater_43 ?_
    refine AW.ior dX3_addEater_44 ?_
    refine AW.iast (hl.1 6 _ rfl) (by first | assumption | (unfold vp_in; decide) | exact vp_in_nI (by omega) (by decide)) dX3_addEater_45 ?_
    refine AW.namI (fun I45 eI45 => ?_)
    exact AW.vret dX3_addEater_46 rfl (by decide) (by decide) (⟨rfl, by rw [eI45, eI33, eI24]; simp (disch := omega) only [am_up_uA, am_uA_s, am_uA_o, am_uA_uA]; rw [hcx, hcix, ex6, nI_1]⟩)
def f_ap (I : Nat → Nat → Int32) (t n : Nat) (kd hs hg : Int32) : Nat → Nat → Int32 := am_uA (am_uA (am_uA (am_uA (am_uA I (t + 1) (upd (I (t + 1)) n kd)) (t + 2) (upd (I (t + 2)) n hs)) (t + 3) (upd (I (t + 3)) n hg)) (t + 4) (if kd = 3 ∧ 0 < n then upd (upd (upd (I (t + 4)) n (-1)) n (nI (n - 1))) (n - 1) (nI n) else upd (I (t + 4)) n (-1))) t (upd (I t) 0 (nI (n + 1)))
theorem dX9_addPerson_0 : decode cX9_addPerson 0 = .ok (.aload_n 0, 1) := by decide +kernel
theorem dX9_addPerson_1 : decode cX9_addPerson 1 = .ok (.getfield 47, 3) := by decide +kernel
theorem dX9_addPerson_4 : decode cX9_addPerson 4 = .ok (.bipush 8, 2) := by decide +kernel
theorem dX9_addPerson_6 : decode cX9_addPerson 6 = .ok (.if_icmp .ge 95, 3) := by decide +kernel
theorem dX9_addPerson_9 : decode cX9_addPerson 9 = .ok (.aload_n 0, 1) := by decide +kernel
theorem dX9_addPerson_10 : decode cX9_addPerson 10 = .ok (.getfield 9, 3) := by decide +kernel
theorem dX9_addPerson_13 : decode cX9_addPerson 13 = .ok (.aload_n 0, 1) := by decide +kernel
theorem dX9_addPerson_14 : decode cX9_addPerson 14 = .ok (.getfield 47, 3) := by decide +kernel
theorem dX9_addPerson_17 : decode cX9_addPerson 17 = .ok (.iload_n 1, 1) := by decide +kernel
theorem dX9_addPerson_18 : decode cX9_addPerson 18 = .ok (.iastore, 1) := by decide +kernel
theorem dX9_addPerson_19 : decode cX9_addPerson 19 = .ok (.aload_n 0, 1) := by decide +kernel
theorem dX9_addPerson_20 : decode cX9_addPerson 20 = .ok (.getfield 15, 3) := by decide +kernel
theorem dX9_addPerson_23 : decode cX9_addPerson 23 = .ok (.aload_n 0, 1) := by decide +kernel
theorem dX9_addPerson_24 : decode cX9_addPerson 24 = .ok (.getfield 47, 3) := by decide +kernel
theorem dX9_addPerson_27 : decode cX9_addPerson 27 = .ok (.iload_n 2, 1) := by decide +kernel
theorem dX9_addPerson_28 : decode cX9_addPerson 28 = .ok (.iastore, 1) := by decide +kernel
theorem dX9_addPerson_29 : decode cX9_addPerson 29 = .ok (.aload_n 0, 1) := by decide +kernel
theorem dX9_addPerson_30 : decode cX9_addPerson 30 = .ok (.getfield 18, 3) := by decide +kernel
theorem dX9_addPerson_33 : decode cX9_addPerson 33 = .ok (.aload_n 0, 1) := by decide +kernel
theorem dX9_addPerson_34 : decode cX9_addPerson 34 = .ok (.getfield 47, 3) := by decide +kernel
theorem dX9_addPerson_37 : decode cX9_addPerson 37 = .ok (.iload_n 3, 1) := by decide +kernel
theorem dX9_addPerson_38 : decode cX9_addPerson 38 = .ok (.iastore, 1) := by decide +kernel
theorem dX9_addPerson_39 : decode cX9_addPerson 39 = .ok (.aload_n 0, 1) := by decide +kernel
theorem dX9_addPerson_40 : decode cX9_addPerson 40 = .ok (.getfield 21, 3) := by decide +kernel
theorem dX9_addPerson_43 : decode cX9_addPerson 43 = .ok (.aload_n 0, 1) := by decide +kernel
theorem dX9_addPerson_44 : decode cX9_addPerson 44 = .ok (.getfield 47, 3) := by decide +kernel
theorem dX9_addPerson_47 : decode cX9_addPerson 47 = .ok (.iconst (-1), 1) := by decide +kernel
theorem dX9_addPerson_48 : decode cX9_addPerson 48 = .ok (.iastore, 1) := by decide +kernel
theorem dX9_addPerson_49 : decode cX9_addPerson 49 = .ok (.iload_n 1, 1) := by decide +kernel
theorem dX9_addPerson_50 : decode cX9_addPerson 50 = .ok (.iconst 3, 1) := by decide +kernel
theorem dX9_addPerson_51 : decode cX9_addPerson 51 = .ok (.if_icmp .ne 40, 3) := by decide +kernel
theorem dX9_addPerson_54 : decode cX9_addPerson 54 = .ok (.aload_n 0, 1) := by decide +kernel
theorem dX9_addPerson_55 : decode cX9_addPerson 55 = .ok (.getfield 47, 3) := by decide +kernel
theorem dX9_addPerson_58 : decode cX9_addPerson 58 = .ok (.ifCond .le 33, 3) := by decide +kernel
theorem dX9_addPerson_61 : decode cX9_addPerson 61 = .ok (.aload_n 0, 1) := by decide +kernel
theorem dX9_addPerson_62 : decode cX9_addPerson 62 = .ok (.getfield 21, 3) := by decide +kernel
theorem dX9_addPerson_65 : decode cX9_addPerson 65 = .ok (.aload_n 0, 1) := by decide +kernel
theorem dX9_addPerson_66 : decode cX9_addPerson 66 = .ok (.getfield 47, 3) := by decide +kernel
theorem dX9_addPerson_69 : decode cX9_addPerson 69 = .ok (.aload_n 0, 1) := by decide +kernel
theorem dX9_addPerson_70 : decode cX9_addPerson 70 = .ok (.getfield 47, 3) := by decide +kernel
theorem dX9_addPerson_73 : decode cX9_addPerson 73 = .ok (.iconst 1, 1) := by decide +kernel
theorem dX9_addPerson_74 : decode cX9_addPerson 74 = .ok (.isub, 1) := by decide +kernel
theorem dX9_addPerson_75 : decode cX9_addPerson 75 = .ok (.iastore, 1) := by decide +kernel
theorem dX9_addPerson_76 : decode cX9_addPerson 76 = .ok (.aload_n 0, 1) := by decide +kernel
theorem dX9_addPerson_77 : decode cX9_addPerson 77 = .ok (.getfield 21, 3) := by decide +kernel
theorem dX9_addPerson_80 : decode cX9_addPerson 80 = .ok (.aload_n 0, 1) := by decide +kernel
theorem dX9_addPerson_81 : decode cX9_addPerson 81 = .ok (.getfield 47, 3) := by decide +kernel
theorem dX9_addPerson_84 : decode cX9_addPerson 84 = .ok (.iconst 1, 1) := by decide +kernel
theorem dX9_addPerson_85 : decode cX9_addPerson 85 = .ok (.isub, 1) := by decide +kernel
theorem dX9_addPerson_86 : decode cX9_addPerson 86 = .ok (.aload_n 0, 1) := by decide +kernel
theorem dX9_addPerson_87 : decode cX9_addPerson 87 = .ok (.getfield 47, 3) := by decide +kernel
theorem dX9_addPerson_90 : decode cX9_addPerson 90 = .ok (.iastore, 1) := by decide +kernel
theorem dX9_addPerson_91 : decode cX9_addPerson 91 = .ok (.aload_n 0, 1) := by decide +kernel
theorem dX9_addPerson_92 : decode cX9_addPerson 92 = .ok (.dup, 1) := by decide +kernel
theorem dX9_addPerson_93 : decode cX9_addPerson 93 = .ok (.getfield 47, 3) := by decide +kernel
theorem dX9_addPerson_96 : decode cX9_addPerson 96 = .ok (.iconst 1, 1) := by decide +kernel
theorem dX9_addPerson_97 : decode cX9_addPerson 97 = .ok (.iadd, 1) := by decide +kernel
theorem dX9_addPerson_98 : decode cX9_addPerson 98 = .ok (.putfield 47, 3) := by decide +kernel
theorem dX9_addPerson_101 : decode cX9_addPerson 101 = .ok (.return_, 1) := by decide +kernel
set_option maxRecDepth 100000 in
set_option maxHeartbeats 4000000 in
theorem k_X9_addPerson {G : am_G} (hK : k_OK G) {d : Nat} (hd : 0 ≤ d) {sh : List (Nat ⊕ (Nat × Nat))} {I : Nat → Nat → Int32} {R : Nat → Nat → Option Nat} {L : Nat → Nat → Int64} {g : Nat} {t n : Nat} (ht : k_Town sh R t) (hn : I t 0 = nI n) (hn8 : n < 8) (kd hs hg : Int32) : AM G mX9_addPerson d [.ref t, .int kd, .int hs, .int hg] (sh, I, R, L, g) (fun v w => v = none ∧ w = (sh, f_ap I t n kd hs hg, R, L, g)) (fun _ _ => False) := by
  have hG := hK.1
  have hcn := k_lit hn (by omega)
  have hbn : vp_in (I t 0) 8 := by rw [hn]; exact vp_in_nI hn8 (by decide)
  refine AM.of (n := 0) (by decide +kernel) (Nat.le_of_ble_eq_true rfl) ?_
  show AW G mX9_addPerson d (fun v w => v = none ∧ w = (sh, f_ap I t n kd hs hg, R, L, g)) (fun _ _ => False) 0 [some (.ref t), some (.int kd), some (.int hs), some (.int hg)] [] (sh, I, R, L, g) 0 0
  refine AW.aload_n dX9_addPerson_0 rfl ?_
  refine AW.getI (fX9_47 hG).r rfl (ht.1 0 _ rfl) dX9_addPerson_1 ?_
  refine AW.bipush 8 dX9_addPerson_4 (by decide) ?_
  refine AW.icmp_ge 101 dX9_addPerson_6 (by decide) (fun h6 => ?_) (fun h6 => ?_)
  · exact absurd ((nI_lel (n := 8) rfl hn (by decide) (by omega)).mp h6) (by omega)
  · refine AW.aload_n dX9_addPerson_9 rfl ?_
    refine AW.getR (c' := (t + 1)) (fX9_9 hG).r rfl (ht.1 0 _ rfl) (ht.2 (0, 4, 1) (by decide)) dX9_addPerson_10 ?_
    refine AW.aload_n dX9_addPerson_13 rfl ?_
    refine AW.getI (fX9_47 hG).r rfl (ht.1 0 _ rfl) dX9_addPerson_14 ?_
    refine AW.iload_n dX9_addPerson_17 rfl ?_
    refine AW.iast (ht.1 1 _ rfl) (by first | assumption | (unfold vp_in; decide) | exact vp_in_nI (by omega) (by decide)) dX9_addPerson_18 ?_
    refine AW.namI (fun I18 eI18 => ?_)
    have q18 : I18 t = I t := by rw [eI18, am_up_o _ _ _ _ (by omega)]
    refine AW.aload_n dX9_addPerson_19 rfl ?_
    refine AW.getR (c' := (t + 2)) (fX9_15 hG).r rfl (ht.1 0 _ rfl) (ht.2 (0, 5, 2) (by decide)) dX9_addPerson_20 ?_
    refine AW.aload_n dX9_addPerson_23 rfl ?_
    refine AW.getI (fX9_47 hG).r rfl (ht.1 0 _ rfl) dX9_addPerson_24 ?_
    refine AW.iload_n dX9_addPerson_27 rfl ?_
    refine AW.iast (ht.1 2 _ rfl) (by rw [q18]; exact hbn) dX9_addPerson_28 ?_
    refine AW.namI (fun I28 eI28 => ?_)
    have q28 : I28 t = I t := by rw [eI28, am_up_o _ _ _ _ (by omega)]; exact q18
    refine AW.aload_n dX9_addPerson_29 rfl ?_
    refine AW.getR (c' := (t + 3)) (fX9_18 hG).r rfl (ht.1 0 _ rfl) (ht.2 (0, 6, 3) (by decide)) dX9_addPerson_30 ?_
    refine AW.aload_n dX9_addPerson_33 rfl ?_
    refine AW.getI (fX9_47 hG).r rfl (ht.1 0 _ rfl) dX9_addPerson_34 ?_
    refine AW.iload_n dX9_addPerson_37 rfl ?_
    refine AW.iast (ht.1 3 _ rfl) (by rw [q28]; exact hbn) dX9_addPerson_38 ?_
    refine AW.namI (fun I38 eI38 => ?_)
    have q38 : I38 t = I t := by rw [eI38, am_up_o _ _ _ _ (by omega)]; exact q28
    refine AW.aload_n dX9_addPerson_39 rfl ?_
    refine AW.getR (c' := (t + 4)) (fX9_21 hG).r rfl (ht.1 0 _ rfl) (ht.2 (0, 7, 4) (by decide)) dX9_addPerson_40 ?_
    refine AW.aload_n dX9_addPerson_43 rfl ?_
    refine AW.getI (fX9_47 hG).r rfl (ht.1 0 _ rfl) dX9_addPerson_44 ?_
    refine AW.iconst (-1) dX9_addPerson_47 (by decide) ?_
    refine AW.iast (ht.1 4 _ rfl) (by rw [q38]; exact hbn) dX9_addPerson_48 ?_
    refine AW.namI (fun I48 eI48 => ?_)
    have q48 : I48 t = I t := by rw [eI48, am_up_o _ _ _ _ (by omega)]; exact q38
    have e48 : I48 = am_uA (am_uA (am_uA (am_uA I (t + 1) (upd (I (t + 1)) n kd)) (t + 2) (upd (I (t + 2)) n hs)) (t + 3) (upd (I (t + 3)) n hg)) (t + 4) (upd (I (t + 4)) n (-1)) := by
      rw [eI48, q38, eI38, q28, eI28, q18, eI18]
      simp (disch := omega) only [am_up_uA, am_uA_s, am_uA_o, am_uA_uA]
      rw [hcn]
    refine AW.iload_n dX9_addPerson_49 rfl ?_
    refine AW.iconst 3 dX9_addPerson_50 (by decide) ?_
    refine AW.icmp_ne 91 dX9_addPerson_51 (by decide) (fun h51 => ?_) (fun h51 => ?_)
    · refine AW.aload_n dX9_addPerson_91 rfl ?_
      refine AW.dup dX9_addPerson_92 rfl ?_
      refine AW.getI (fX9_47 hG).r rfl (ht.1 0 _ rfl) dX9_addPerson_93 ?_
      refine AW.iconst 1 dX9_addPerson_96 (by decide) ?_
      refine AW.iadd dX9_addPerson_97 ?_
      refine AW.putI (fX9_47 hG) rfl (vp_nar_int _) rfl (ht.1 0 _ rfl) dX9_addPerson_98 ?_
      refine AW.namI (fun I98 eI98 => ?_)
      exact AW.vret dX9_addPerson_101 rfl (by decide) (by decide) (⟨rfl, by rw [eI98, am_up_uA, q48, hn, nI_1, e48, f_ap, if_neg (fun h => h51 h.1)]⟩)
    · refine AW.aload_n dX9_addPerson_54 rfl ?_
      refine AW.getI (fX9_47 hG).r rfl (ht.1 0 _ rfl) dX9_addPerson_55 ?_
      refine AW.if_le 91 dX9_addPerson_58 (by decide) (fun h58 => ?_) (fun h58 => ?_)
      · rw [q48] at h58
        have hn0 : ¬ 0 < n := fun h => absurd h58 (by rw [hn]; exact nI_nle h (by omega))
        refine AW.aload_n dX9_addPerson_91 rfl ?_
        refine AW.dup dX9_addPerson_92 rfl ?_
        refine AW.getI (fX9_47 hG).r rfl (ht.1 0 _ rfl) dX9_addPerson_93 ?_
        refine AW.iconst 1 dX9_addPerson_96 (by decide) ?_
        refine AW.iadd dX9_addPerson_97 ?_
        refine AW.putI (fX9_47 hG) rfl (vp_nar_int _) rfl (ht.1 0 _ rfl) dX9_addPerson_98 ?_
        refine AW.namI (fun I98 eI98 => ?_)
        exact AW.vret dX9_addPerson_101 rfl (by decide) (by decide) (⟨rfl, by rw [eI98, am_up_uA, q48, hn, nI_1, e48, f_ap, if_neg (fun h => hn0 h.2)]⟩)
      · rw [q48] at h58
        have hn0 : 0 < n := by
          rcases Nat.eq_zero_or_pos n with h | h
          · rw [hn, h] at h58; exact absurd (by decide) h58
          · exact h
        have hm : I t 0 - 1 = nI (n - 1) := by rw [hn, show n = n - 1 + 1 by omega]; exact nI_pred _
        have hbm : vp_in (I t 0 - 1) 8 := by rw [hm]; exact vp_in_nI (by omega) (by decide)
        have hcm : (I t 0 - 1).toNatClampNeg = n - 1 := k_lit hm (by omega)
        refine AW.aload_n dX9_addPerson_61 rfl ?_
        refine AW.getR (c' := (t + 4)) (fX9_21 hG).r rfl (ht.1 0 _ rfl) (ht.2 (0, 7, 4) (by decide)) dX9_addPerson_62 ?_
        refine AW.aload_n dX9_addPerson_65 rfl ?_
        refine AW.getI (fX9_47 hG).r rfl (ht.1 0 _ rfl) dX9_addPerson_66 ?_
        refine AW.aload_n dX9_addPerson_69 rfl ?_
        refine AW.getI (fX9_47 hG).r rfl (ht.1 0 _ rfl) dX9_addPerson_70 ?_
        refine AW.iconst 1 dX9_addPerson_73 (by decide) ?_
        refine AW.isub dX9_addPerson_74 ?_
        refine AW.iast (ht.1 4 _ rfl) (by rw [q48]; exact hbn) dX9_addPerson_75 ?_
        refine AW.namI (fun I75 eI75 => ?_)
        have q75 : I75 t = I t := by rw [eI75, am_up_o _ _ _ _ (by omega)]; exact q48
        refine AW.aload_n dX9_addPerson_76 rfl ?_
        refine AW.getR (c' := (t + 4)) (fX9_21 hG).r rfl (ht.1 0 _ rfl) (ht.2 (0, 7, 4) (by decide)) dX9_addPerson_77 ?_
        refine AW.aload_n dX9_addPerson_80 rfl ?_
        refine AW.getI (fX9_47 hG).r rfl (ht.1 0 _ rfl) dX9_addPerson_81 ?_
        refine AW.iconst 1 dX9_addPerson_84 (by decide) ?_
        refine AW.isub dX9_addPerson_85 ?_
        refine AW.aload_n dX9_addPerson_86 rfl ?_
        refine AW.getI (fX9_47 hG).r rfl (ht.1 0 _ rfl) dX9_addPerson_87 ?_
        refine AW.iast (ht.1 4 _ rfl) (by rw [q75]; exact hbm) dX9_addPerson_90 ?_
        refine AW.namI (fun I90 eI90 => ?_)
        refine AW.aload_n dX9_addPerson_91 rfl ?_
        refine AW.dup dX9_addPerson_92 rfl ?_
        refine AW.getI (fX9_47 hG).r rfl (ht.1 0 _ rfl) dX9_addPerson_93 ?_
        refine AW.iconst 1 dX9_addPerson_96 (by decide) ?_
        refine AW.iadd dX9_addPerson_97 ?_
        refine AW.putI (fX9_47 hG) rfl (vp_nar_int _) rfl (ht.1 0 _ rfl) dX9_addPerson_98 ?_
        refine AW.namI (fun I98 eI98 => ?_)
        exact AW.vret dX9_addPerson_101 rfl (by decide) (by decide) (⟨rfl, by rw [eI98, am_up_uA, eI90, am_up_o _ _ _ _ (by omega), q75, eI75, q48, hcn, hcm, hm, hn, nI_1, e48, f_ap, if_pos ⟨h51, hn0⟩]; simp (disch := omega) only [am_up_uA, am_uA_s, am_uA_o, am_uA_uA]⟩)
