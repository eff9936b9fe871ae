/-! TOWN, READ -/
theorem k_c {G : am_G} (hG : k_ok G) {w : Cond} (i : Nat) (h : lw_tbl[i]? = some w) (hg : goodWord w = true) : w ∈ am_Ts G := by rw [hG.2.1]; exact k_in i h hg
def kS_Loaves : List (Nat ⊕ (Nat × Nat)) := [.inl 3, .inr (0, 6), .inr (0, 6), .inr (0, 6), .inr (0, 6), .inr (0, 6), .inr (0, 6), .inr (0, 36)]
def kR_Loaves : List (Nat × Nat × Nat) := [(0, 1, 1), (0, 2, 2), (0, 3, 3), (0, 4, 4), (0, 5, 5), (0, 6, 6), (0, 7, 7)]
abbrev k_Loaves (sh : List (Nat ⊕ (Nat × Nat))) (R : Nat → Nat → Option Nat) (b : Nat) : Prop := k_obj sh R b kS_Loaves kR_Loaves
def kS_Rule : List (Nat ⊕ (Nat × Nat)) := [.inl 7, .inr (0, 600), .inr (0, 64)]
def kR_Rule : List (Nat × Nat × Nat) := [(0, 0, 1), (0, 1, 2)]
abbrev k_Rule (sh : List (Nat ⊕ (Nat × Nat))) (R : Nat → Nat → Option Nat) (b : Nat) : Prop := k_obj sh R b kS_Rule kR_Rule
def kS_Town : List (Nat ⊕ (Nat × Nat)) := [.inl 9, .inr (0, 8), .inr (0, 8), .inr (0, 8), .inr (0, 8), .inr (0, 16), .inr (0, 16), .inr (0, 16), .inl 3, .inr (0, 6), .inr (0, 6), .inr (0, 6), .inr (0, 6), .inr (0, 6), .inr (0, 6), .inr (0, 36), .inl 7, .inr (0, 600), .inr (0, 64)]
def kR_Town : List (Nat × Nat × Nat) := [(0, 4, 1), (0, 5, 2), (0, 6, 3), (0, 7, 4), (0, 8, 5), (0, 9, 6), (0, 10, 7), (0, 11, 8), (8, 1, 9), (8, 2, 10), (8, 3, 11), (8, 4, 12), (8, 5, 13), (8, 6, 14), (8, 7, 15), (0, 12, 16), (16, 0, 17), (16, 1, 18)]
abbrev k_Town (sh : List (Nat ⊕ (Nat × Nat))) (R : Nat → Nat → Option Nat) (b : Nat) : Prop := k_obj sh R b kS_Town kR_Town
def kS_Days : List (Nat ⊕ (Nat × Nat)) := [.inl 2, .inr (0, 64), .inr (0, 6), .inr (0, 8)]
def kR_Days : List (Nat × Nat × Nat) := [(0, 2, 1), (0, 3, 2), (0, 4, 3)]
abbrev k_Days (sh : List (Nat ⊕ (Nat × Nat))) (R : Nat → Nat → Option Nat) (b : Nat) : Prop := k_obj sh R b kS_Days kR_Days
def kS_Story : List (Nat ⊕ (Nat × Nat)) := [.inl 8, .inl 2, .inr (0, 64), .inr (0, 6), .inr (0, 8), .inl 2, .inr (0, 64), .inr (0, 6), .inr (0, 8), .inr (0, 40), .inr (0, 40), .inr (0, 40)]
def kR_Story : List (Nat × Nat × Nat) := [(0, 0, 1), (1, 2, 2), (1, 3, 3), (1, 4, 4), (0, 1, 5), (5, 2, 6), (5, 3, 7), (5, 4, 8), (0, 2, 9), (0, 3, 10), (0, 4, 11)]
abbrev k_Story (sh : List (Nat ⊕ (Nat × Nat))) (R : Nat → Nat → Option Nat) (b : Nat) : Prop := k_obj sh R b kS_Story kR_Story
def kS_Memory : List (Nat ⊕ (Nat × Nat)) := [.inl 4, .inl 8, .inl 2, .inr (0, 64), .inr (0, 6), .inr (0, 8), .inl 2, .inr (0, 64), .inr (0, 6), .inr (0, 8), .inr (0, 40), .inr (0, 40), .inr (0, 40), .inr (0, 3), .inr (0, 6), .inr (0, 6), .inr (0, 6), .inr (0, 4), .inr (0, 4)]
def kR_Memory : List (Nat × Nat × Nat) := [(0, 0, 1), (1, 0, 2), (2, 2, 3), (2, 3, 4), (2, 4, 5), (1, 1, 6), (6, 2, 7), (6, 3, 8), (6, 4, 9), (1, 2, 10), (1, 3, 11), (1, 4, 12), (0, 1, 13), (0, 3, 14), (0, 4, 15), (0, 5, 16), (0, 7, 17), (0, 8, 18)]
abbrev k_Memory (sh : List (Nat ⊕ (Nat × Nat))) (R : Nat → Nat → Option Nat) (b : Nat) : Prop := k_obj sh R b kS_Memory kR_Memory
def kS_Reader : List (Nat ⊕ (Nat × Nat)) := [.inl 6, .inr (1, 600)]
def kR_Reader : List (Nat × Nat × Nat) := [(0, 0, 1)]
abbrev k_Reader (sh : List (Nat ⊕ (Nat × Nat))) (R : Nat → Nat → Option Nat) (b : Nat) : Prop := k_obj sh R b kS_Reader kR_Reader
def kS_Carrier : List (Nat ⊕ (Nat × Nat)) := [.inl 0, .inr (0, 6), .inr (0, 5), .inr (0, 5), .inr (0, 40), .inr (0, 40), .inr (2, 256), .inr (0, 6), .inr (0, 5), .inr (0, 8)]
def kR_Carrier : List (Nat × Nat × Nat) := [(0, 0, 1), (0, 4, 2), (0, 5, 3), (0, 6, 4), (0, 7, 5), (0, 8, 6), (0, 9, 7), (0, 10, 8), (0, 11, 9)]
abbrev k_Carrier (sh : List (Nat ⊕ (Nat × Nat))) (R : Nat → Nat → Option Nat) (b : Nat) : Prop := k_obj sh R b kS_Carrier kR_Carrier
def kS_Circle : List (Nat ⊕ (Nat × Nat)) := [.inl 1, .inr (0, 8), .inr (0, 6)]
def kR_Circle : List (Nat × Nat × Nat) := [(0, 0, 1), (0, 1, 2)]
abbrev k_Circle (sh : List (Nat ⊕ (Nat × Nat))) (R : Nat → Nat → Option Nat) (b : Nat) : Prop := k_obj sh R b kS_Circle kR_Circle
def kS_Portions : List (Nat ⊕ (Nat × Nat)) := [.inl 5, .inr (0, 6), .inr (0, 6), .inr (0, 6)]
def kR_Portions : List (Nat × Nat × Nat) := [(0, 0, 1), (0, 1, 2), (0, 2, 3)]
abbrev k_Portions (sh : List (Nat ⊕ (Nat × Nat))) (R : Nat → Nat → Option Nat) (b : Nat) : Prop := k_obj sh R b kS_Portions kR_Portions
def f_pair (tw : Nat → Int32) (p : Int32) : Int32 := ((1 : Int32) <<< (p &&& 31)) ||| (if tw p.toNatClampNeg = -1 then (0 : Int32) else (1 : Int32) <<< (tw p.toNatClampNeg &&& 31))
theorem dX9_pair_0 : decode cX9_pair 0 = .ok (.aload_n 0, 1) := by decide +kernel
theorem dX9_pair_1 : decode cX9_pair 1 = .ok (.getfield 21, 3) := by decide +kernel
theorem dX9_pair_4 : decode cX9_pair 4 = .ok (.iload_n 1, 1) := by decide +kernel
theorem dX9_pair_5 : decode cX9_pair 5 = .ok (.iaload, 1) := by decide +kernel
theorem dX9_pair_6 : decode cX9_pair 6 = .ok (.istore_n 2, 1) := by decide +kernel
theorem dX9_pair_7 : decode cX9_pair 7 = .ok (.iconst 1, 1) := by decide +kernel
theorem dX9_pair_8 : decode cX9_pair 8 = .ok (.iload_n 1, 1) := by decide +kernel
theorem dX9_pair_9 : decode cX9_pair 9 = .ok (.ishl, 1) := by decide +kernel
theorem dX9_pair_10 : decode cX9_pair 10 = .ok (.iload_n 2, 1) := by decide +kernel
theorem dX9_pair_11 : decode cX9_pair 11 = .ok (.iconst (-1), 1) := by decide +kernel
theorem dX9_pair_12 : decode cX9_pair 12 = .ok (.if_icmp .ne 7, 3) := by decide +kernel
theorem dX9_pair_15 : decode cX9_pair 15 = .ok (.iconst 0, 1) := by decide +kernel
theorem dX9_pair_16 : decode cX9_pair 16 = .ok (.goto 6, 3) := by decide +kernel
theorem dX9_pair_19 : decode cX9_pair 19 = .ok (.iconst 1, 1) := by decide +kernel
theorem dX9_pair_20 : decode cX9_pair 20 = .ok (.iload_n 2, 1) := by decide +kernel
theorem dX9_pair_21 : decode cX9_pair 21 = .ok (.ishl, 1) := by decide +kernel
theorem dX9_pair_22 : decode cX9_pair 22 = .ok (.ior, 1) := by decide +kernel
theorem dX9_pair_23 : decode cX9_pair 23 = .ok (.ireturn, 1) := by decide +kernel
set_option maxRecDepth 100000 in
set_option maxHeartbeats 4000000 in
theorem k_X9_pair {G : am_G} (hG : k_ok G) {d : Nat} (hd : 0 ≤ d) {sh : List (Nat ⊕ (Nat × Nat))} {I : Nat → Nat → Int32} {R : Nat → Nat → Option Nat} {L : Nat → Nat → Int64} {g : Nat} {t : Nat} (ht : k_Town sh R t) (p : Int32) (hp : vp_in p 8) : AM G mX9_pair d [.ref t, .int p] (sh, I, R, L, g) (fun v w => v = some (.int (f_pair (I (t + 4)) p)) ∧ w = (sh, I, R, L, g)) (fun _ _ => False) := by
  refine AM.of (n := 1) (by decide +kernel) (Nat.le_of_ble_eq_true rfl) ?_
  show AW G mX9_pair d (fun v w => v = some (.int (f_pair (I (t + 4)) p)) ∧ w = (sh, I, R, L, g)) (fun _ _ => False) 0 [some (.ref t), some (.int p), none] [] (sh, I, R, L, g) 0 0
  refine AW.aload_n dX9_pair_0 rfl ?_
  refine AW.getR (fX9_21 hG).r rfl (ht.1 0 _ rfl) (ht.2 (0, 7, 4) (by decide)) dX9_pair_1 ?_
  refine AW.iload_n dX9_pair_4 rfl ?_
  refine AW.iald (ht.1 4 _ rfl) (by first | assumption | exact vp_in_nI (by omega) (by decide)) dX9_pair_5 ?_
  refine AW.nam (fun x1 ex1 => ?_)
  refine AW.is_n [some (.ref t), some (.int p), some (.int x1)] dX9_pair_6 (by decide) rfl rfl ?_
  refine AW.iconst 1 dX9_pair_7 (by decide) ?_
  refine AW.iload_n dX9_pair_8 rfl ?_
  refine AW.ishl dX9_pair_9 ?_
  refine AW.iload_n dX9_pair_10 rfl ?_
  refine AW.iconst (-1) dX9_pair_11 (by decide) ?_
  refine AW.icmp_ne 19 dX9_pair_12 (by decide) (fun h12 => ?_) (fun h12 => ?_)
  · refine AW.iconst 1 dX9_pair_19 (by decide) ?_
    refine AW.iload_n dX9_pair_20 rfl ?_
    refine AW.ishl dX9_pair_21 ?_
    refine AW.ior dX9_pair_22 ?_
    exact AW.iret dX9_pair_23 rfl (by decide) (by decide) (⟨by first | (rw [f_pair, if_neg (by rw [← ex1]; exact h12), ← ex1]) | (rw [f_pair, if_pos (by rw [← ex1]; exact h12)]), rfl⟩)
  · refine AW.iconst 0 dX9_pair_15 (by decide) ?_
    refine AW.goto 22 dX9_pair_16 (by decide) ?_
    refine AW.ior dX9_pair_22 ?_
    exact AW.iret dX9_pair_23 rfl (by decide) (by decide) (⟨by first | (rw [f_pair, if_neg (by rw [← ex1]; exact h12), ← ex1]) | (rw [f_pair, if_pos (by rw [← ex1]; exact h12)]), rfl⟩)
