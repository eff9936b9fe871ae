/-! READER: THE RULE -/
def x_ad (l : List Int32) (c : Int32) : List Int32 := if l.length < 600 then l ++ [c] else l
/-- the rule at u has these steps -/
def k_st (J : Nat → Nat → Int32) (u : Nat) (l : List Int32) : Prop := J u 2 = nI l.length ∧ l.length ≤ 600 ∧ ∀ j, j < l.length → J (u + 1) j = l.getD j 0
def k_fr (I J : Nat → Nat → Int32) (e u : Nat) : Prop := (∀ a, a ≠ e → a ≠ u → a ≠ u + 1 → J a = I a) ∧ ∀ k, (k < 3 ∨ 8 ≤ k) → J e k = I e k
theorem k_fr_0 (I : Nat → Nat → Int32) (e u : Nat) : k_fr I I e u := ⟨fun _ _ _ _ => rfl, fun _ _ => rfl⟩
theorem k_fr_t {I J K : Nat → Nat → Int32} {e u : Nat} (h1 : k_fr I J e u) (h2 : k_fr J K e u) : k_fr I K e u := ⟨fun a x y z => (h2.1 a x y z).trans (h1.1 a x y z), fun k h => (h2.2 k h).trans (h1.2 k h)⟩
theorem k_fr_r {I J : Nat → Nat → Int32} {e u n : Nat} {tp : Nat → Int32} {s : Int32 × Nat} (h : k_rp I J e tp n s) : k_fr I J e u := ⟨fun a x _ _ => h.1 a x, h.2.1⟩
theorem k_fr_u {I J : Nat → Nat → Int32} {e u : Nat} (hue : e + 2 ≤ u ∨ u + 3 ≤ e) (h : ∀ a, a ≠ u → a ≠ u + 1 → J a = I a) : k_fr I J e u := ⟨fun a _ y z => h a y z, fun k _ => by rw [h e (by omega) (by omega)]⟩
theorem k_st_r {I J : Nat → Nat → Int32} {e u n : Nat} {tp : Nat → Int32} {s : Int32 × Nat} {l : List Int32} (hue : e + 2 ≤ u ∨ u + 3 ≤ e) (h : k_st I u l) (hr : k_rp I J e tp n s) : k_st J u l := by unfold k_st; rw [hr.1 u (by omega), hr.1 (u + 1) (by omega)]; exact h
theorem k_s_u {I J : Nat → Nat → Int32} {e u n : Nat} {tp : Nat → Int32} {s : Int32 × Nat} (hue : e + 2 ≤ u ∨ u + 3 ≤ e) (h : k_s I e tp n s) (ho : ∀ a, a ≠ u → a ≠ u + 1 → J a = I a) : k_s J e tp n s := k_s_o h (ho e (by omega) (by omega)) (ho (e + 1) (by omega) (by omega))
theorem k_st_add {I : Nat → Nat → Int32} {u : Nat} {l : List Int32} (h : k_st I u l) (x : Int32) : k_st (if l.length < 600 then am_uA (am_uA I (u + 1) (upd (I (u + 1)) l.length x)) u (upd (I u) 2 (nI (l.length + 1))) else I) u (x_ad l x) := by
  unfold x_ad
  by_cases h6 : l.length < 600
  · rw [if_pos h6, if_pos h6]
    refine ⟨by rw [am_uA_s, List.length_append]; rfl, by rw [List.length_append]; exact h6, fun j hj => ?_⟩
    rw [am_uA_o _ _ _ (by omega), am_uA_s]
    rw [List.length_append] at hj
    have hj : j < l.length + 1 := hj
    unfold upd
    by_cases e : j = l.length
    · rw [if_pos e, e, List.getD_eq_getElem?_getD, List.getElem?_append_right (Nat.le_refl _), Nat.sub_self]; rfl
    · rw [if_neg e, List.getD_eq_getElem?_getD, List.getElem?_append_left (by omega), ← List.getD_eq_getElem?_getD]; exact h.2.2 j (by omega)
  · rw [if_neg h6, if_neg h6]; exact h
theorem k_X7_addL {G : am_G} (hK : k_OK G) {d : Nat} (hd : 0 ≤ d) {sh : List (Nat ⊕ (Nat × Nat))} {I : Nat → Nat → Int32} {R : Nat → Nat → Option Nat} {L : Nat → Nat → Int64} {g : Nat} {u : Nat} {l : List Int32} (hu : k_Rule sh R u) (ht : k_st I u l) (x : Int32) : AM G mX7_add d [.ref u, .int x] (sh, I, R, L, g) (fun v w => v = none ∧ w = (sh, if l.length < 600 then am_uA (am_uA I (u + 1) (upd (I (u + 1)) l.length x)) u (upd (I u) 2 (nI (l.length + 1))) else I, R, L, g)) (fun _ _ => False) := k_X7_add hK hd hu ht.1 ht.2.1 x
theorem k_add_o {I : Nat → Nat → Int32} {u : Nat} {l : List Int32} {x : Int32} : ∀ a, a ≠ u → a ≠ u + 1 → (if l.length < 600 then am_uA (am_uA I (u + 1) (upd (I (u + 1)) l.length x)) u (upd (I u) 2 (nI (l.length + 1))) else I) a = I a := by
  intro a h1 h2
  split
  · rw [am_uA_o _ _ _ h1, am_uA_o _ _ _ h2]
  · rfl
theorem k_add_e {I J : Nat → Nat → Int32} {u : Nat} {l : List Int32} {x : Int32} (h : J = if l.length < 600 then am_uA (am_uA I (u + 1) (upd (I (u + 1)) l.length x)) u (upd (I u) 2 (nI (l.length + 1))) else I) : ∀ a, a ≠ u → a ≠ u + 1 → J a = I a := by rw [h]; exact k_add_o
theorem k_st_e {I J : Nat → Nat → Int32} {u : Nat} {l : List Int32} {x : Int32} (h : J = if l.length < 600 then am_uA (am_uA I (u + 1) (upd (I (u + 1)) l.length x)) u (upd (I u) 2 (nI (l.length + 1))) else I) (ht : k_st I u l) : k_st J u (x_ad l x) := by rw [h]; exact k_st_add ht x
def x_vk (tp : Nat → Int32) (n a : Nat) : Int32 := if x_wd tp n a q_12.2.2.2.2 = true then 0 else if x_wd tp n a q_13.2.2.2.2 = true then 1 else if x_wd tp n a q_14.2.2.2.2 = true then 2 else if x_wd tp n a q_15.2.2.2.2 = true then 3 else if x_wd tp n a q_16.2.2.2.2 = true then 4 else if x_wd tp n a q_17.2.2.2.2 = true then 5 else -1
abbrev x_Q := (Int32 × Nat) × List Int32
def x_val (tp : Nat → Int32) (n : Nat) (q : x_Q) : x_Q := if x_vk tp n q.1.2 = -1 then (x_fail 3 q.1, q.2) else (x_adv tp n q.1, x_ad q.2 (-10 - x_vk tp n q.1.2))
def x_part (tp : Nat → Int32) (n : Nat) (sub : x_Q → x_Q) (q : x_Q) : x_Q :=
  if x_sg tp n q.1.2 40 = true then (x_rs tp n 41 (sub (x_adv tp n q.1, q.2)).1, (sub (x_adv tp n q.1, q.2)).2)
  else if x_tk tp n q.1.2 = 1 then x_val tp n q else (x_rn tp n 0 9999 q.1, x_ad q.2 (x_rv tp n 0 9999 q.1))
def x_lp (tp : Nat → Int32) (n : Nat) (it : x_Q → x_Q) (op : Nat → Int32) : Nat → x_Q → x_Q
  | 0, q => q
  | f + 1, q => if q.1.1 = 0 ∧ ¬ op q.1.2 = 0 then x_lp tp n it op f ((it (x_adv tp n q.1, q.2)).1, x_ad (it (x_adv tp n q.1, q.2)).2 (op q.1.2)) else q
def x_oP (tp : Nat → Int32) (n a : Nat) : Int32 := if x_sg tp n a 42 = true then -8 else if x_sg tp n a 47 = true then -9 else 0
def x_oS (tp : Nat → Int32) (n a : Nat) : Int32 := if x_sg tp n a 43 = true then -6 else if x_sg tp n a 45 = true then -7 else 0
def x_oT (tp : Nat → Int32) (n a : Nat) : Int32 := if x_sg tp n a 60 = true then -4 else if x_sg tp n a 61 = true then -5 else 0
def x_oA (tp : Nat → Int32) (n a : Nat) : Int32 := if x_wd tp n a q_18.2.2.2.2 = true then -2 else 0
def x_oO (tp : Nat → Int32) (n a : Nat) : Int32 := if x_wd tp n a q_19.2.2.2.2 = true then -1 else 0
def x_prod (tp : Nat → Int32) (n : Nat) (sub : x_Q → x_Q) (q : x_Q) : x_Q := x_lp tp n (x_part tp n sub) (x_oP tp n) 600 (x_part tp n sub q)
def x_sum (tp : Nat → Int32) (n : Nat) (sub : x_Q → x_Q) (q : x_Q) : x_Q := x_lp tp n (x_prod tp n sub) (x_oS tp n) 600 (x_prod tp n sub q)
def x_test (tp : Nat → Int32) (n : Nat) (sub : x_Q → x_Q) (q : x_Q) : x_Q := x_lp tp n (x_sum tp n sub) (x_oT tp n) 1 (x_sum tp n sub q)
def x_nots (tp : Nat → Int32) (n : Nat) : Nat → (Int32 × Nat) → Nat × (Int32 × Nat)
  | 0, s => (0, s)
  | f + 1, s => if x_wd tp n s.2 q_11.2.2.2.2 = true then ((x_nots tp n f (x_adv tp n s)).1 + 1, (x_nots tp n f (x_adv tp n s)).2) else (0, s)
def x_adn (l : List Int32) (k : Nat) : List Int32 := lfold (fun _ l => x_ad l (-3)) l k
def x_neg (tp : Nat → Int32) (n : Nat) (sub : x_Q → x_Q) (q : x_Q) : x_Q :=
  if x_wd tp n (x_nots tp n 6 q.1).2.2 q_11.2.2.2.2 = true then (x_fail 2 (x_nots tp n 6 q.1).2, q.2)
  else ((x_test tp n sub ((x_nots tp n 6 q.1).2, q.2)).1, x_adn (x_test tp n sub ((x_nots tp n 6 q.1).2, q.2)).2 (x_nots tp n 6 q.1).1)
def x_both (tp : Nat → Int32) (n : Nat) (sub : x_Q → x_Q) (q : x_Q) : x_Q := x_lp tp n (x_neg tp n sub) (x_oA tp n) 600 (x_neg tp n sub q)
def x_ex (tp : Nat → Int32) (n : Nat) : Nat → x_Q → x_Q
  | 0, q => (x_fail (if x_tk tp n q.1.2 = 2 ∨ x_tk tp n q.1.2 = 1 ∨ x_sg tp n q.1.2 40 = true then 2 else 1) q.1, q.2)
  | r + 1, q => x_lp tp n (x_both tp n (x_ex tp n r)) (x_oO tp n) 600 (x_both tp n (x_ex tp n r) q)
def k_rq (I J : Nat → Nat → Int32) (e u : Nat) (tp : Nat → Int32) (n : Nat) (q : x_Q) : Prop := k_fr I J e u ∧ k_s J e tp n q.1 ∧ k_st J u q.2
theorem x_nots_le (tp : Nat → Int32) (n : Nat) : ∀ f s, (x_nots tp n f s).1 ≤ f := by
  intro f
  induction f with
  | zero => intro s; exact Nat.le_refl _
  | succ f ih =>
    intro s
    simp only [x_nots]
    split
    · have := ih (x_adv tp n s); omega
    · exact Nat.zero_le _
theorem dX6_valueKind_0 : decode cX6_valueKind 0 = .ok (.aload_n 0, 1) := by decide +kernel
theorem dX6_valueKind_1 : decode cX6_valueKind 1 = .ok (.ldc_w 260, 3) := by decide +kernel
theorem dX6_valueKind_4 : decode cX6_valueKind 4 = .ok (.invokevirtual 126, 3) := by decide +kernel
theorem dX6_valueKind_7 : decode cX6_valueKind 7 = .ok (.ifCond .eq 5, 3) := by decide +kernel
theorem dX6_valueKind_10 : decode cX6_valueKind 10 = .ok (.iconst 0, 1) := by decide +kernel
theorem dX6_valueKind_11 : decode cX6_valueKind 11 = .ok (.ireturn, 1) := by decide +kernel
theorem dX6_valueKind_12 : decode cX6_valueKind 12 = .ok (.aload_n 0, 1) := by decide +kernel
theorem dX6_valueKind_13 : decode cX6_valueKind 13 = .ok (.ldc_w 262, 3) := by decide +kernel
theorem dX6_valueKind_16 : decode cX6_valueKind 16 = .ok (.invokevirtual 126, 3) := by decide +kernel
theorem dX6_valueKind_19 : decode cX6_valueKind 19 = .ok (.ifCond .eq 5, 3) := by decide +kernel
theorem dX6_valueKind_22 : decode cX6_valueKind 22 = .ok (.iconst 1, 1) := by decide +kernel
theorem dX6_valueKind_23 : decode cX6_valueKind 23 = .ok (.ireturn, 1) := by decide +kernel
theorem dX6_valueKind_24 : decode cX6_valueKind 24 = .ok (.aload_n 0, 1) := by decide +kernel
theorem dX6_valueKind_25 : decode cX6_valueKind 25 = .ok (.ldc_w 264, 3) := by decide +kernel
theorem dX6_valueKind_28 : decode cX6_valueKind 28 = .ok (.invokevirtual 126, 3) := by decide +kernel
theorem dX6_valueKind_31 : decode cX6_valueKind 31 = .ok (.ifCond .eq 5, 3) := by decide +kernel
theorem dX6_valueKind_34 : decode cX6_valueKind 34 = .ok (.iconst 2, 1) := by decide +kernel
theorem dX6_valueKind_35 : decode cX6_valueKind 35 = .ok (.ireturn, 1) := by decide +kernel
theorem dX6_valueKind_36 : decode cX6_valueKind 36 = .ok (.aload_n 0, 1) := by decide +kernel
theorem dX6_valueKind_37 : decode cX6_valueKind 37 = .ok (.ldc_w 265, 3) := by decide +kernel
theorem dX6_valueKind_40 : decode cX6_valueKind 40 = .ok (.invokevirtual 126, 3) := by decide +kernel
theorem dX6_valueKind_43 : decode cX6_valueKind 43 = .ok (.ifCond .eq 5, 3) := by decide +kernel
theorem dX6_valueKind_46 : decode cX6_valueKind 46 = .ok (.iconst 3, 1) := by decide +kernel
theorem dX6_valueKind_47 : decode cX6_valueKind 47 = .ok (.ireturn, 1) := by decide +kernel
theorem dX6_valueKind_48 : decode cX6_valueKind 48 = .ok (.aload_n 0, 1) := by decide +kernel
theorem dX6_valueKind_49 : decode cX6_valueKind 49 = .ok (.ldc_w 267, 3) := by decide +kernel
theorem dX6_valueKind_52 : decode cX6_valueKind 52 = .ok (.invokevirtual 126, 3) := by decide +kernel
theorem dX6_valueKind_55 : decode cX6_valueKind 55 = .ok (.ifCond .eq 5, 3) := by decide +kernel
theorem dX6_valueKind_58 : decode cX6_valueKind 58 = .ok (.iconst 4, 1) := by decide +kernel
theorem dX6_valueKind_59 : decode cX6_valueKind 59 = .ok (.ireturn, 1) := by decide +kernel
theorem dX6_valueKind_60 : decode cX6_valueKind 60 = .ok (.aload_n 0, 1) := by decide +kernel
theorem dX6_valueKind_61 : decode cX6_valueKind 61 = .ok (.ldc_w 269, 3) := by decide +kernel
theorem dX6_valueKind_64 : decode cX6_valueKind 64 = .ok (.invokevirtual 126, 3) := by decide +kernel
theorem dX6_valueKind_67 : decode cX6_valueKind 67 = .ok (.ifCond .eq 7, 3) := by decide +kernel
theorem dX6_valueKind_70 : decode cX6_valueKind 70 = .ok (.iconst 5, 1) := by decide +kernel
theorem dX6_valueKind_71 : decode cX6_valueKind 71 = .ok (.goto 4, 3) := by decide +kernel
theorem dX6_valueKind_74 : decode cX6_valueKind 74 = .ok (.iconst (-1), 1) := by decide +kernel
theorem dX6_valueKind_75 : decode cX6_valueKind 75 = .ok (.ireturn, 1) := by decide +kernel
set_option maxRecDepth 100000 in
set_option maxHeartbeats 4000000 in
theorem k_X6_valueKind {G : am_G} (hK : k_OK G) {d : Nat} (hd : 5 ≤ d) {sh : List (Nat ⊕ (Nat × Nat))} {I : Nat → Nat → Int32} {R : Nat → Nat → Option Nat} {L : Nat → Nat → Int64} {g : Nat} {e n : Nat} {tp : Nat → Int32} {s : Int32 × Nat} (hr : k_rd sh R e tp n) (hs : k_s I e tp n s) : AM G mX6_valueKind d [.ref e] (sh, I, R, L, g) (fun v w => v = some (.int (x_vk tp n s.2)) ∧ w = (sh, I, R, L, g)) (fun _ _ => False) := by
  have hG := hK.1
  have he := hr.1
  refine AM.of (n := 0) (by decide +kernel) (Nat.le_of_ble_eq_true rfl) ?_
  show AW G mX6_valueKind d (fun v w => v = some (.int (x_vk tp n s.2)) ∧ w = (sh, I, R, L, g)) (fun _ _ => False) 0 [some (.ref e)] [] (sh, I, R, L, g) 0 0
  refine AW.aload_n dX6_valueKind_0 rfl ?_
  refine AW.ldcSW (j := 12) hK q_12 k_s_12 rfl rfl dX6_valueKind_1 ?_
  refine AW.callV (b := e) (As := [.ref (1000000 + 12)]) hG.2.2 (vX6_126 hG) (he.1 0 _ rfl) (k_X6_isWord hK (d := 4) (Nat.le_refl _) (k_txi hK k_s_12) hr (by assumption)) (by omega) dX6_valueKind_4 rfl rfl (Nat.le_of_ble_eq_true rfl) (fun v w9 hq9 h09 => by obtain ⟨rfl, rfl⟩ := hq9; exact ⟨h09, rfl⟩) (by decide) (by decide) (fun _ _ hx => hx) (fun v4 w4 hq4 => ?_)
  obtain ⟨rfl, rfl⟩ := hq4
  refine AW.nam (fun x4 ex4 => ?_)
  refine AW.if_eq 12 dX6_valueKind_7 (by decide) (fun h7 => ?_) (fun h7 => ?_)
  · rw [ex4] at h7
    have q7 := kb_0.mp h7
    refine AW.aload_n dX6_valueKind_12 rfl ?_
    refine AW.ldcSW (j := 13) hK q_13 k_s_13 rfl rfl dX6_valueKind_13 ?_
    refine AW.callV (b := e) (As := [.ref (1000000 + 13)]) hG.2.2 (vX6_126 hG) (he.1 0 _ rfl) (k_X6_isWord hK (d := 4) (Nat.le_refl _) (k_txi hK k_s_13) hr (by assumption)) (by omega) dX6_valueKind_16 rfl rfl (Nat.le_of_ble_eq_true rfl) (fun v w9 hq9 h09 => by obtain ⟨rfl, rfl⟩ := hq9; exact ⟨h09, rfl⟩) (by decide) (by decide) (fun _ _ hx => hx) (fun v16 w16 hq16 => ?_)
    obtain ⟨rfl, rfl⟩ := hq16
    refine AW.nam (fun x16 ex16 => ?_)
    refine AW.if_eq 24 dX6_valueKind_19 (by decide) (fun h19 => ?_) (fun h19 => ?_)
    · rw [ex16] at h19
      have q19 := kb_0.mp h19
      refine AW.aload_n dX6_valueKind_24 rfl ?_
      refine AW.ldcSW (j := 14) hK q_14 k_s_14 rfl rfl dX6_valueKind_25 ?_
      refine AW.callV (b := e) (As := [.ref (1000000 + 14)]) hG.2.2 (vX6_126 hG) (he.1 0 _ rfl) (k_X6_isWord hK (d := 4) (Nat.le_refl _) (k_txi hK k_s_14) hr (by assumption)) (by omega) dX6_valueKind_28 rfl rfl (Nat.le_of_ble_eq_true rfl) (fun v w9 hq9 h09 => by obtain ⟨rfl, rfl⟩ := hq9; exact ⟨h09, rfl⟩) (by decide) (by decide) (fun _ _ hx => hx) (fun v28 w28 hq28 => ?_)
      obtain ⟨rfl, rfl⟩ := hq28
      refine AW.nam (fun x28 ex28 => ?_)
      refine AW.if_eq 36 dX6_valueKind_31 (by decide) (fun h31 => ?_) (fun h31 => ?_)
      · rw [ex28] at h31
        have q31 := kb_0.mp h31
        refine AW.aload_n dX6_valueKind_36 rfl ?_
        refine AW.ldcSW (j := 15) hK q_15 k_s_15 rfl rfl dX6_valueKind_37 ?_
        refine AW.callV (b := e) (As := [.ref (1000000 + 15)]) hG.2.2 (vX6_126 hG) (he.1 0 _ rfl) (k_X6_isWord hK (d := 4) (Nat.le_refl _) (k_txi hK k_s_15) hr (by assumption)) (by omega) dX6_valueKind_40 rfl rfl (Nat.le_of_ble_eq_true rfl) (fun v w9 hq9 h09 => by obtain ⟨rfl, rfl⟩ := hq9; exact ⟨h09, rfl⟩) (by decide) (by decide) (fun _ _ hx => hx) (fun v40 w40 hq40 => ?_)
        obtain ⟨rfl, rfl⟩ := hq40
        refine AW.nam (fun x40 ex40 => ?_)
        refine AW.if_eq 48 dX6_valueKind_43 (by decide) (fun h43 => ?_) (fun h43 => ?_)
        · rw [ex40] at h43
          have q43 := kb_0.mp h43
          refine AW.aload_n dX6_valueKind_48 rfl ?_
          refine AW.ldcSW (j := 16) hK q_16 k_s_16 rfl rfl dX6_valueKind_49 ?_
          refine AW.callV (b := e) (As := [.ref (1000000 + 16)]) hG.2.2 (vX6_126 hG) (he.1 0 _ rfl) (k_X6_isWord hK (d := 4) (Nat.le_refl _) (k_txi hK k_s_16) hr (by assumption)) (by omega) dX6_valueKind_52 rfl rfl (Nat.le_of_ble_eq_true rfl) (fun v w9 hq9 h09 => by obtain ⟨rfl, rfl⟩ := hq9; exact ⟨h09, rfl⟩) (by decide) (by decide) (fun _ _ hx => hx) (fun v52 w52 hq52 => ?_)
          obtain ⟨rfl, rfl⟩ := hq52
          refine AW.nam (fun x52 ex52 => ?_)
          refine AW.if_eq 60 dX6_valueKind_55 (by decide) (fun h55 => ?_) (fun h55 => ?_)
          · rw [ex52] at h55
            have q55 := kb_0.mp h55
            refine AW.aload_n dX6_valueKind_60 rfl ?_
            refine AW.ldcSW (j := 17) hK q_17 k_s_17 rfl rfl dX6_valueKind_61 ?_
            refine AW.callV (b := e) (As := [.ref (1000000 + 17)]) hG.2.2 (vX6_126 hG) (he.1 0 _ rfl) (k_X6_isWord hK (d := 4) (Nat.le_refl _) (k_txi hK k_s_17) hr (by assumption)) (by omega) dX6_valueKind_64 rfl rfl (Nat.le_of_ble_eq_true rfl) (fun v w9 hq9 h09 => by obtain ⟨rfl, rfl⟩ := hq9; exact ⟨h09, rfl⟩) (by decide) (by decide) (fun _ _ hx => hx) (fun v64 w64 hq64 => ?_)
            obtain ⟨rfl, rfl⟩ := hq64
            refine AW.nam (fun x64 ex64 => ?_)
            refine AW.if_eq 74 dX6_valueKind_67 (by decide) (fun h67 => ?_) (fun h67 => ?_)
            · rw [ex64] at h67
              have q67 := kb_0.mp h67
              refine AW.iconst (-1) dX6_valueKind_74 (by decide) ?_
              exact AW.iret dX6_valueKind_75 rfl (by decide) (by decide) (⟨by unfold x_vk; rw [if_neg (by rw [q7]; decide), if_neg (by rw [q19]; decide), if_neg (by rw [q31]; decide), if_neg (by rw [q43]; decide), if_neg (by rw [q55]; decide), if_neg (by rw [q67]; decide)], rfl⟩)
            · rw [ex64] at h67
              have q67 := kb_1.mp h67
              refine AW.iconst 5 dX6_valueKind_70 (by decide) ?_
              refine AW.goto 75 dX6_valueKind_71 (by decide) ?_
              exact AW.iret dX6_valueKind_75 rfl (by decide) (by decide) (⟨by unfold x_vk; rw [if_neg (by rw [q7]; decide), if_neg (by rw [q19]; decide), if_neg (by rw [q31]; decide), if_neg (by rw [q43]; decide), if_neg (by rw [q55]; decide), if_pos q67], rfl⟩)
          · rw [ex52] at h55
            have q55 := kb_1.mp h55
            refine AW.iconst 4 dX6_valueKind_58 (by decide) ?_
            exact AW.iret dX6_valueKind_59 rfl (by decide) (by decide) (⟨by unfold x_vk; rw [if_neg (by rw [q7]; decide), if_neg (by rw [q19]; decide), if_neg (by rw [q31]; decide), if_neg (by rw [q43]; decide), if_pos q55], rfl⟩)
        · rw [ex40] at h43
          have q43 := kb_1.mp h43
          refine AW.iconst 3 dX6_valueKind_46 (by decide) ?_
          exact AW.iret dX6_valueKind_47 rfl (by decide) (by decide) (⟨by unfold x_vk; rw [if_neg (by rw [q7]; decide), if_neg (by rw [q19]; decide), if_neg (by rw [q31]; decide), if_pos q43], rfl⟩)
      · rw [ex28] at h31
        have q31 := kb_1.mp h31
        refine AW.iconst 2 dX6_valueKind_34 (by decide) ?_
        exact AW.iret dX6_valueKind_35 rfl (by decide) (by decide) (⟨by unfold x_vk; rw [if_neg (by rw [q7]; decide), if_neg (by rw [q19]; decide), if_pos q31], rfl⟩)
    · rw [ex16] at h19
      have q19 := kb_1.mp h19
      refine AW.iconst 1 dX6_valueKind_22 (by decide) ?_
      exact AW.iret dX6_valueKind_23 rfl (by decide) (by decide) (⟨by unfold x_vk; rw [if_neg (by rw [q7]; decide), if_pos q19], rfl⟩)
  · rw [ex4] at h7
    have q7 := kb_1.mp h7
    refine AW.iconst 0 dX6_valueKind_10 (by decide) ?_
    exact AW.iret dX6_valueKind_11 rfl (by decide) (by decide) (⟨by unfold x_vk; rw [if_pos q7], rfl⟩)
theorem dX6_readValue_0 : decode cX6_readValue 0 = .ok (.aload_n 0, 1) := by decide +kernel
theorem dX6_readValue_1 : decode cX6_readValue 1 = .ok (.invokevirtual 257, 3) := by decide +kernel
theorem dX6_readValue_4 : decode cX6_readValue 4 = .ok (.istore_n 2, 1) := by decide +kernel
theorem dX6_readValue_5 : decode cX6_readValue 5 = .ok (.iload_n 2, 1) := by decide +kernel
theorem dX6_readValue_6 : decode cX6_readValue 6 = .ok (.iconst (-1), 1) := by decide +kernel
theorem dX6_readValue_7 : decode cX6_readValue 7 = .ok (.if_icmp .ne 9, 3) := by decide +kernel
theorem dX6_readValue_10 : decode cX6_readValue 10 = .ok (.aload_n 0, 1) := by decide +kernel
theorem dX6_readValue_11 : decode cX6_readValue 11 = .ok (.iconst 3, 1) := by decide +kernel
theorem dX6_readValue_12 : decode cX6_readValue 12 = .ok (.invokevirtual 97, 3) := by decide +kernel
theorem dX6_readValue_15 : decode cX6_readValue 15 = .ok (.return_, 1) := by decide +kernel
theorem dX6_readValue_16 : decode cX6_readValue 16 = .ok (.aload_n 1, 1) := by decide +kernel
theorem dX6_readValue_17 : decode cX6_readValue 17 = .ok (.bipush (-10), 2) := by decide +kernel
theorem dX6_readValue_19 : decode cX6_readValue 19 = .ok (.iload_n 2, 1) := by decide +kernel
theorem dX6_readValue_20 : decode cX6_readValue 20 = .ok (.isub, 1) := by decide +kernel
theorem dX6_readValue_21 : decode cX6_readValue 21 = .ok (.invokevirtual 231, 3) := by decide +kernel
theorem dX6_readValue_24 : decode cX6_readValue 24 = .ok (.aload_n 0, 1) := by decide +kernel
theorem dX6_readValue_25 : decode cX6_readValue 25 = .ok (.invokevirtual 52, 3) := by decide +kernel
theorem dX6_readValue_28 : decode cX6_readValue 28 = .ok (.return_, 1) := by decide +kernel
set_option maxRecDepth 100000 in
set_option maxHeartbeats 4000000 in
theorem k_X6_readValue {G : am_G} (hK : k_OK G) {d : Nat} (hd : 6 ≤ d) {sh : List (Nat ⊕ (Nat × Nat))} {I : Nat → Nat → Int32} {R : Nat → Nat → Option Nat} {L : Nat → Nat → Int64} {g : Nat} {e n u : Nat} {tp : Nat → Int32} {s : Int32 × Nat} {l : List Int32} (hr : k_rd sh R e tp n) (hu : k_Rule sh R u) (hue : e + 2 ≤ u ∨ u + 3 ≤ e) (hs : k_s I e tp n s) (ht : k_st I u l) : AM G mX6_readValue d [.ref e, .ref u] (sh, I, R, L, g) (fun v w => v = none ∧ ∃ J, w = (sh, J, R, L, g) ∧ k_rq I J e u tp n (x_val tp n (s, l))) (fun _ _ => False) := by
  have hG := hK.1
  have he := hr.1
  have hn6 := hr.2.1
  have hf := k_fr_0 I e u
  refine AM.of (n := 1) (by decide +kernel) (Nat.le_of_ble_eq_true rfl) ?_
  show AW G mX6_readValue d (fun v w => v = none ∧ ∃ J, w = (sh, J, R, L, g) ∧ k_rq I J e u tp n (x_val tp n (s, l))) (fun _ _ => False) 0 [some (.ref e), some (.ref u), none] [] (sh, I, R, L, g) 0 0
  refine AW.aload_n dX6_readValue_0 rfl ?_
  refine AW.callV (b := e) (As := []) hG.2.2 (vX6_257 hG) (he.1 0 _ rfl) (k_X6_valueKind hK (d := 5) (Nat.le_refl _) hr (by assumption)) (by omega) dX6_readValue_1 rfl rfl (Nat.le_of_ble_eq_true rfl) (fun v w9 hq9 h09 => by obtain ⟨rfl, rfl⟩ := hq9; exact ⟨h09, rfl⟩) (by decide) (by decide) (fun _ _ hx => hx) (fun v1 w1 hq1 => ?_)
  obtain ⟨rfl, rfl⟩ := hq1
  refine AW.nam (fun x1 ex1 => ?_)
  refine AW.is_n [some (.ref e), some (.ref u), some (.int x1)] dX6_readValue_4 (by decide) rfl rfl ?_
  refine AW.iload_n dX6_readValue_5 rfl ?_
  refine AW.iconst (-1) dX6_readValue_6 (by decide) ?_
  refine AW.icmp_ne 16 dX6_readValue_7 (by decide) (fun h7 => ?_) (fun h7 => ?_)
  · rw [ex1] at h7
    refine AW.aload_n dX6_readValue_16 rfl ?_
    refine AW.bipush (-10) dX6_readValue_17 (by decide) ?_
    refine AW.iload_n dX6_readValue_19 rfl ?_
    refine AW.isub dX6_readValue_20 ?_
    refine AW.callV (b := u) (As := [.int ((-10) - x1)]) hG.2.2 (vX6_231 hG) (hu.1 0 _ rfl) (k_X7_addL hK (d := 0) (Nat.le_refl _) hu (by assumption) ((-10) - x1)) (by omega) dX6_readValue_21 rfl rfl (Nat.le_of_ble_eq_true rfl) (fun v w9 hq9 h09 => by obtain ⟨rfl, rfl⟩ := hq9; exact ⟨h09, rfl⟩) (by decide) (by decide) (fun _ _ hx => hx) (fun v21 w21 hq21 => ?_)
    obtain ⟨rfl, rfl⟩ := hq21
    refine AW.namI (fun I21 eI21 => ?_)
    show AW G mX6_readValue d (fun v w => v = none ∧ ∃ J, w = (sh, J, R, L, g) ∧ k_rq I J e u tp n (x_val tp n (s, l))) (fun _ _ => False) 24 [some (.ref e), some (.ref u), some (.int x1)] [] (sh, I21, R, L, g) 0 0
    have ho21 := k_add_e eI21
    have hs21 := k_s_u hue (by assumption) ho21
    have hf21 := k_fr_t (by assumption) (k_fr_u hue ho21)
    have ht21 := k_st_e eI21 (by assumption)
    refine AW.aload_n dX6_readValue_24 rfl ?_
    refine AW.callV (b := e) (As := []) hG.2.2 (vX6_52 hG) (he.1 0 _ rfl) (k_X6_advS hK (d := 5) (Nat.le_refl _) hr (by assumption)) (by omega) dX6_readValue_25 rfl rfl (Nat.le_of_ble_eq_true rfl) (fun v w9 hq9 h09 => by obtain ⟨rfl, J9, rfl, -⟩ := hq9; exact ⟨h09, rfl⟩) (by decide) (by decide) (fun _ _ hx => hx) (fun v25 w25 hq25 => ?_)
    obtain ⟨rfl, I25, rfl, hr25⟩ := hq25
    have hs25 := k_rp_i hr25
    have ht25 := k_st_r hue (by assumption) hr25
    have hf25 := k_fr_t (by assumption) (k_fr_r (u := u) hr25)
    show AW G mX6_readValue d (fun v w => v = none ∧ ∃ J, w = (sh, J, R, L, g) ∧ k_rq I J e u tp n (x_val tp n (s, l))) (fun _ _ => False) 28 [some (.ref e), some (.ref u), some (.int x1)] [] (sh, I25, R, L, g) 0 0
    exact AW.vret dX6_readValue_28 rfl (by decide) (by decide) (⟨rfl, I25, rfl, by unfold x_val; rw [if_neg h7]; refine ⟨hf25, hs25, ?_⟩; rw [ex1] at ht25; exact ht25⟩)
  · rw [ex1] at h7
    refine AW.aload_n dX6_readValue_10 rfl ?_
    refine AW.iconst 3 dX6_readValue_11 (by decide) ?_
    refine AW.callV (b := e) (As := [.int 3]) hG.2.2 (vX6_97 hG) (he.1 0 _ rfl) (k_X6_fail hK (d := 0) (Nat.le_refl _) he (by assumption) 3) (by omega) dX6_readValue_12 rfl rfl (Nat.le_of_ble_eq_true rfl) (fun v w9 hq9 h09 => by obtain ⟨rfl, J9, rfl, -⟩ := hq9; exact ⟨h09, rfl⟩) (by decide) (by decide) (fun _ _ hx => hx) (fun v12 w12 hq12 => ?_)
    obtain ⟨rfl, I12, rfl, hr12⟩ := hq12
    have hs12 := k_rp_i hr12
    have ht12 := k_st_r hue (by assumption) hr12
    have hf12 := k_fr_t (by assumption) (k_fr_r (u := u) hr12)
    show AW G mX6_readValue d (fun v w => v = none ∧ ∃ J, w = (sh, J, R, L, g) ∧ k_rq I J e u tp n (x_val tp n (s, l))) (fun _ _ => False) 15 [some (.ref e), some (.ref u), some (.int x1)] [] (sh, I12, R, L, g) 0 0
    exact AW.vret dX6_readValue_15 rfl (by decide) (by decide) (⟨rfl, I12, rfl, by unfold x_val; rw [if_pos h7]; exact ⟨hf12, hs12, ht12⟩⟩)
theorem dX6_readPart_0 : decode cX6_readPart 0 = .ok (.aload_n 0, 1) := by decide +kernel
theorem dX6_readPart_1 : decode cX6_readPart 1 = .ok (.bipush 40, 2) := by decide +kernel
theorem dX6_readPart_3 : decode cX6_readPart 3 = .ok (.invokevirtual 216, 3) := by decide +kernel
theorem dX6_readPart_6 : decode cX6_readPart 6 = .ok (.ifCond .eq 24, 3) := by decide +kernel
theorem dX6_readPart_9 : decode cX6_readPart 9 = .ok (.aload_n 0, 1) := by decide +kernel
theorem dX6_readPart_10 : decode cX6_readPart 10 = .ok (.invokevirtual 52, 3) := by decide +kernel
theorem dX6_readPart_13 : decode cX6_readPart 13 = .ok (.aload_n 0, 1) := by decide +kernel
theorem dX6_readPart_14 : decode cX6_readPart 14 = .ok (.aload_n 1, 1) := by decide +kernel
theorem dX6_readPart_15 : decode cX6_readPart 15 = .ok (.iload_n 2, 1) := by decide +kernel
theorem dX6_readPart_16 : decode cX6_readPart 16 = .ok (.iconst 1, 1) := by decide +kernel
theorem dX6_readPart_17 : decode cX6_readPart 17 = .ok (.iadd, 1) := by decide +kernel
theorem dX6_readPart_18 : decode cX6_readPart 18 = .ok (.invokevirtual 212, 3) := by decide +kernel
theorem dX6_readPart_21 : decode cX6_readPart 21 = .ok (.aload_n 0, 1) := by decide +kernel
theorem dX6_readPart_22 : decode cX6_readPart 22 = .ok (.bipush 41, 2) := by decide +kernel
theorem dX6_readPart_24 : decode cX6_readPart 24 = .ok (.invokevirtual 120, 3) := by decide +kernel
theorem dX6_readPart_27 : decode cX6_readPart 27 = .ok (.goto 31, 3) := by decide +kernel
theorem dX6_readPart_30 : decode cX6_readPart 30 = .ok (.aload_n 0, 1) := by decide +kernel
theorem dX6_readPart_31 : decode cX6_readPart 31 = .ok (.getfield 55, 3) := by decide +kernel
theorem dX6_readPart_34 : decode cX6_readPart 34 = .ok (.iconst 1, 1) := by decide +kernel
theorem dX6_readPart_35 : decode cX6_readPart 35 = .ok (.if_icmp .ne 11, 3) := by decide +kernel
theorem dX6_readPart_38 : decode cX6_readPart 38 = .ok (.aload_n 0, 1) := by decide +kernel
theorem dX6_readPart_39 : decode cX6_readPart 39 = .ok (.aload_n 1, 1) := by decide +kernel
theorem dX6_readPart_40 : decode cX6_readPart 40 = .ok (.invokevirtual 253, 3) := by decide +kernel
theorem dX6_readPart_43 : decode cX6_readPart 43 = .ok (.goto 15, 3) := by decide +kernel
theorem dX6_readPart_46 : decode cX6_readPart 46 = .ok (.aload_n 1, 1) := by decide +kernel
theorem dX6_readPart_47 : decode cX6_readPart 47 = .ok (.aload_n 0, 1) := by decide +kernel
theorem dX6_readPart_48 : decode cX6_readPart 48 = .ok (.iconst 0, 1) := by decide +kernel
theorem dX6_readPart_49 : decode cX6_readPart 49 = .ok (.sipush 9999, 3) := by decide +kernel
theorem dX6_readPart_52 : decode cX6_readPart 52 = .ok (.invokevirtual 153, 3) := by decide +kernel
theorem dX6_readPart_55 : decode cX6_readPart 55 = .ok (.invokevirtual 231, 3) := by decide +kernel
theorem dX6_readPart_58 : decode cX6_readPart 58 = .ok (.return_, 1) := by decide +kernel
set_option maxRecDepth 100000 in
set_option maxHeartbeats 4000000 in
theorem k_X6_readPart {G : am_G} (hK : k_OK G) {r : Nat} {d : Nat} (hd : 9 + 7 * r ≤ d) {sh : List (Nat ⊕ (Nat × Nat))} {I : Nat → Nat → Int32} {R : Nat → Nat → Option Nat} {L : Nat → Nat → Int64} {g : Nat} {e n u : Nat} {tp : Nat → Int32} {s : Int32 × Nat} {l : List Int32} (hr : k_rd sh R e tp n) (hu : k_Rule sh R u) (hue : e + 2 ≤ u ∨ u + 3 ≤ e) (hs : k_s I e tp n s) (ht : k_st I u l) {dd : Nat} (hdd : dd + 1 + r = 6) (x : Int32) (hx : x = nI dd) (ih : ∀ (_ : k_OK G) {d : Nat} (_ : 8 + 7 * r ≤ d) {I : Nat → Nat → Int32} {s : Int32 × Nat} {l : List Int32} (hs : k_s I e tp n s) (ht : k_st I u l) (x : Int32) (hx : x = nI (dd + 1)), AM G mX6_readEither d [.ref e, .ref u, .int x] (sh, I, R, L, g) (fun v w => v = none ∧ ∃ J, w = (sh, J, R, L, g) ∧ k_rq I J e u tp n (x_ex tp n r (s, l))) (fun _ _ => False)) : AM G mX6_readPart d [.ref e, .ref u, .int x] (sh, I, R, L, g) (fun v w => v = none ∧ ∃ J, w = (sh, J, R, L, g) ∧ k_rq I J e u tp n (x_part tp n (x_ex tp n r) (s, l))) (fun _ _ => False) := by
  have hG := hK.1
  have he := hr.1
  have hn6 := hr.2.1
  have hf := k_fr_0 I e u
  obtain ⟨h7, z1, z2, z4, z5, z6, -⟩ := id hs
  refine AM.of (n := 0) (by decide +kernel) (Nat.le_of_ble_eq_true rfl) ?_
  show AW G mX6_readPart d (fun v w => v = none ∧ ∃ J, w = (sh, J, R, L, g) ∧ k_rq I J e u tp n (x_part tp n (x_ex tp n r) (s, l))) (fun _ _ => False) 0 [some (.ref e), some (.ref u), some (.int x)] [] (sh, I, R, L, g) 0 0
  refine AW.aload_n dX6_readPart_0 rfl ?_
  refine AW.bipush 40 dX6_readPart_1 (by decide) ?_
  refine AW.callV (b := e) (As := [.int 40]) hG.2.2 (vX6_216 hG) (he.1 0 _ rfl) (k_X6_isSign hK (d := 0) (Nat.le_refl _) hr (by assumption) 40) (by omega) dX6_readPart_3 rfl rfl (Nat.le_of_ble_eq_true rfl) (fun v w9 hq9 h09 => by obtain ⟨rfl, rfl⟩ := hq9; exact ⟨h09, rfl⟩) (by decide) (by decide) (fun _ _ hx => hx) (fun v3 w3 hq3 => ?_)
  obtain ⟨rfl, rfl⟩ := hq3
  refine AW.nam (fun x3 ex3 => ?_)
  refine AW.if_eq 30 dX6_readPart_6 (by decide) (fun h6 => ?_) (fun h6 => ?_)
  · rw [ex3] at h6
    have q6 := kb_0.mp h6
    refine AW.aload_n dX6_readPart_30 rfl ?_
    refine AW.getI (fX6_55 hG).r rfl (he.1 0 _ rfl) dX6_readPart_31 ?_
    refine AW.iconst 1 dX6_readPart_34 (by decide) ?_
    refine AW.icmp_ne 46 dX6_readPart_35 (by decide) (fun h35 => ?_) (fun h35 => ?_)
    · rw [z6] at h35
      have q35 : ¬ x_tk tp n s.2 = 1 := fun h => h35 ((x_tk_e (by decide)).mpr h)
      refine AW.aload_n dX6_readPart_46 rfl ?_
      refine AW.aload_n dX6_readPart_47 rfl ?_
      refine AW.iconst 0 dX6_readPart_48 (by decide) ?_
      refine AW.sipush 9999 dX6_readPart_49 (by decide) ?_
      refine AW.callV (b := e) (As := [.int 0, .int 9999]) hG.2.2 (vX6_153 hG) (he.1 0 _ rfl) (k_X6_readNumber hK (d := 6) (Nat.le_refl _) hr (by assumption) 0 9999) (by omega) dX6_readPart_52 rfl rfl (Nat.le_of_ble_eq_true rfl) (fun v w9 hq9 h09 => by obtain ⟨rfl, J9, rfl, -⟩ := hq9; exact ⟨h09, rfl⟩) (by decide) (by decide) (fun _ _ hx => hx) (fun v52 w52 hq52 => ?_)
      obtain ⟨rfl, I52, rfl, hr52⟩ := hq52
      have hs52 := k_rp_i hr52
      have ht52 := k_st_r hue (by assumption) hr52
      have hf52 := k_fr_t (by assumption) (k_fr_r (u := u) hr52)
      refine AW.nam (fun x52 ex52 => ?_)
      refine AW.callV (b := u) (As := [.int x52]) hG.2.2 (vX6_231 hG) (hu.1 0 _ rfl) (k_X7_addL hK (d := 0) (Nat.le_refl _) hu (by assumption) x52) (by omega) dX6_readPart_55 rfl rfl (Nat.le_of_ble_eq_true rfl) (fun v w9 hq9 h09 => by obtain ⟨rfl, rfl⟩ := hq9; exact ⟨h09, rfl⟩) (by decide) (by decide) (fun _ _ hx => hx) (fun v55 w55 hq55 => ?_)
      obtain ⟨rfl, rfl⟩ := hq55
      refine AW.namI (fun I55 eI55 => ?_)
      show AW G mX6_readPart d (fun v w => v = none ∧ ∃ J, w = (sh, J, R, L, g) ∧ k_rq I J e u tp n (x_part tp n (x_ex tp n r) (s, l))) (fun _ _ => False) 58 [some (.ref e), some (.ref u), some (.int x)] [] (sh, I55, R, L, g) 0 0
      have ho55 := k_add_e eI55
      have hs55 := k_s_u hue (by assumption) ho55
      have hf55 := k_fr_t (by assumption) (k_fr_u hue ho55)
      have ht55 := k_st_e eI55 (by assumption)
      exact AW.vret dX6_readPart_58 rfl (by decide) (by decide) (⟨rfl, I55, rfl, by unfold x_part; rw [if_neg (by rw [q6]; decide), if_neg q35]; refine ⟨hf55, hs55, ?_⟩; rw [ex52] at ht55; exact ht55⟩)
    · rw [z6] at h35
      have q35 : x_tk tp n s.2 = 1 := (x_tk_e (k := 1) (by decide)).mp h35
      refine AW.aload_n dX6_readPart_38 rfl ?_
      refine AW.aload_n dX6_readPart_39 rfl ?_
      refine AW.callV (b := e) (As := [.ref u]) hG.2.2 (vX6_253 hG) (he.1 0 _ rfl) (k_X6_readValue hK (d := 6) (Nat.le_refl _) hr hu hue (by assumption) (by assumption)) (by omega) dX6_readPart_40 rfl rfl (Nat.le_of_ble_eq_true rfl) (fun v w9 hq9 h09 => by obtain ⟨rfl, J9, rfl, -⟩ := hq9; exact ⟨h09, rfl⟩) (by decide) (by decide) (fun _ _ hx => hx) (fun v40 w40 hq40 => ?_)
      obtain ⟨rfl, I40, rfl, hg40, hs40, ht40⟩ := hq40
      have hf40 := k_fr_t (by assumption) hg40
      show AW G mX6_readPart d (fun v w => v = none ∧ ∃ J, w = (sh, J, R, L, g) ∧ k_rq I J e u tp n (x_part tp n (x_ex tp n r) (s, l))) (fun _ _ => False) 43 [some (.ref e), some (.ref u), some (.int x)] [] (sh, I40, R, L, g) 0 0
      refine AW.goto 58 dX6_readPart_43 (by decide) ?_
      exact AW.vret dX6_readPart_58 rfl (by decide) (by decide) (⟨rfl, I40, rfl, by unfold x_part; rw [if_neg (by rw [q6]; decide), if_pos q35]; exact ⟨hf40, hs40, ht40⟩⟩)
  · rw [ex3] at h6
    have q6 := kb_1.mp h6
    refine AW.aload_n dX6_readPart_9 rfl ?_
    refine AW.callV (b := e) (As := []) hG.2.2 (vX6_52 hG) (he.1 0 _ rfl) (k_X6_advS hK (d := 5) (Nat.le_refl _) hr (by assumption)) (by omega) dX6_readPart_10 rfl rfl (Nat.le_of_ble_eq_true rfl) (fun v w9 hq9 h09 => by obtain ⟨rfl, J9, rfl, -⟩ := hq9; exact ⟨h09, rfl⟩) (by decide) (by decide) (fun _ _ hx => hx) (fun v10 w10 hq10 => ?_)
    obtain ⟨rfl, I10, rfl, hr10⟩ := hq10
    have hs10 := k_rp_i hr10
    have ht10 := k_st_r hue (by assumption) hr10
    have hf10 := k_fr_t (by assumption) (k_fr_r (u := u) hr10)
    show AW G mX6_readPart d (fun v w => v = none ∧ ∃ J, w = (sh, J, R, L, g) ∧ k_rq I J e u tp n (x_part tp n (x_ex tp n r) (s, l))) (fun _ _ => False) 13 [some (.ref e), some (.ref u), some (.int x)] [] (sh, I10, R, L, g) 0 0
    refine AW.aload_n dX6_readPart_13 rfl ?_
    refine AW.aload_n dX6_readPart_14 rfl ?_
    refine AW.iload_n dX6_readPart_15 rfl ?_
    refine AW.iconst 1 dX6_readPart_16 (by decide) ?_
    refine AW.iadd dX6_readPart_17 ?_
    refine AW.callV (b := e) (As := [.ref u, .int (x + 1)]) hG.2.2 (vX6_212 hG) (he.1 0 _ rfl) (ih hK (d := 8 + 7 * r) (Nat.le_refl _) (by assumption) (by assumption) (x + 1) (by rw [hx]; exact nI_1 _)) (by omega) dX6_readPart_18 rfl rfl (Nat.le_of_ble_eq_true rfl) (fun v w9 hq9 h09 => by obtain ⟨rfl, J9, rfl, -⟩ := hq9; exact ⟨h09, rfl⟩) (by decide) (by decide) (fun _ _ hx => hx) (fun v18 w18 hq18 => ?_)
    obtain ⟨rfl, I18, rfl, hg18, hs18, ht18⟩ := hq18
    have hf18 := k_fr_t (by assumption) hg18
    show AW G mX6_readPart d (fun v w => v = none ∧ ∃ J, w = (sh, J, R, L, g) ∧ k_rq I J e u tp n (x_part tp n (x_ex tp n r) (s, l))) (fun _ _ => False) 21 [some (.ref e), some (.ref u), some (.int x)] [] (sh, I18, R, L, g) 0 0
    refine AW.aload_n dX6_readPart_21 rfl ?_
    refine AW.bipush 41 dX6_readPart_22 (by decide) ?_
    refine AW.callV (b := e) (As := [.int 41]) hG.2.2 (vX6_120 hG) (he.1 0 _ rfl) (k_X6_readSign hK (d := 6) (Nat.le_refl _) hr (by assumption) 41) (by omega) dX6_readPart_24 rfl rfl (Nat.le_of_ble_eq_true rfl) (fun v w9 hq9 h09 => by obtain ⟨rfl, J9, rfl, -⟩ := hq9; exact ⟨h09, rfl⟩) (by decide) (by decide) (fun _ _ hx => hx) (fun v24 w24 hq24 => ?_)
    obtain ⟨rfl, I24, rfl, hr24⟩ := hq24
    have hs24 := k_rp_i hr24
    have ht24 := k_st_r hue (by assumption) hr24
    have hf24 := k_fr_t (by assumption) (k_fr_r (u := u) hr24)
    show AW G mX6_readPart d (fun v w => v = none ∧ ∃ J, w = (sh, J, R, L, g) ∧ k_rq I J e u tp n (x_part tp n (x_ex tp n r) (s, l))) (fun _ _ => False) 27 [some (.ref e), some (.ref u), some (.int x)] [] (sh, I24, R, L, g) 0 0
    refine AW.goto 58 dX6_readPart_27 (by decide) ?_
    exact AW.vret dX6_readPart_58 rfl (by decide) (by decide) (⟨rfl, I24, rfl, by unfold x_part; rw [if_pos q6]; exact ⟨hf24, hs24, ht24⟩⟩)
theorem dX6_readProduct_0 : decode cX6_readProduct 0 = .ok (.aload_n 0, 1) := by decide +kernel
theorem dX6_readProduct_1 : decode cX6_readProduct 1 = .ok (.aload_n 1, 1) := by decide +kernel
theorem dX6_readProduct_2 : decode cX6_readProduct 2 = .ok (.iload_n 2, 1) := by decide +kernel
theorem dX6_readProduct_3 : decode cX6_readProduct 3 = .ok (.invokevirtual 250, 3) := by decide +kernel
theorem dX6_readProduct_6 : decode cX6_readProduct 6 = .ok (.iconst 0, 1) := by decide +kernel
theorem dX6_readProduct_7 : decode cX6_readProduct 7 = .ok (.istore_n 3, 1) := by decide +kernel
theorem dX6_readProduct_8 : decode cX6_readProduct 8 = .ok (.iload_n 3, 1) := by decide +kernel
theorem dX6_readProduct_9 : decode cX6_readProduct 9 = .ok (.sipush 600, 3) := by decide +kernel
theorem dX6_readProduct_12 : decode cX6_readProduct 12 = .ok (.if_icmp .ge 68, 3) := by decide +kernel
theorem dX6_readProduct_15 : decode cX6_readProduct 15 = .ok (.aload_n 0, 1) := by decide +kernel
theorem dX6_readProduct_16 : decode cX6_readProduct 16 = .ok (.getfield 39, 3) := by decide +kernel
theorem dX6_readProduct_19 : decode cX6_readProduct 19 = .ok (.ifCond .ne 61, 3) := by decide +kernel
theorem dX6_readProduct_22 : decode cX6_readProduct 22 = .ok (.aload_n 0, 1) := by decide +kernel
theorem dX6_readProduct_23 : decode cX6_readProduct 23 = .ok (.bipush 42, 2) := by decide +kernel
theorem dX6_readProduct_25 : decode cX6_readProduct 25 = .ok (.invokevirtual 216, 3) := by decide +kernel
theorem dX6_readProduct_28 : decode cX6_readProduct 28 = .ok (.ifCond .ne 12, 3) := by decide +kernel
theorem dX6_readProduct_31 : decode cX6_readProduct 31 = .ok (.aload_n 0, 1) := by decide +kernel
theorem dX6_readProduct_32 : decode cX6_readProduct 32 = .ok (.bipush 47, 2) := by decide +kernel
theorem dX6_readProduct_34 : decode cX6_readProduct 34 = .ok (.invokevirtual 216, 3) := by decide +kernel
theorem dX6_readProduct_37 : decode cX6_readProduct 37 = .ok (.ifCond .eq 43, 3) := by decide +kernel
theorem dX6_readProduct_40 : decode cX6_readProduct 40 = .ok (.aload_n 0, 1) := by decide +kernel
theorem dX6_readProduct_41 : decode cX6_readProduct 41 = .ok (.bipush 42, 2) := by decide +kernel
theorem dX6_readProduct_43 : decode cX6_readProduct 43 = .ok (.invokevirtual 216, 3) := by decide +kernel
theorem dX6_readProduct_46 : decode cX6_readProduct 46 = .ok (.ifCond .eq 8, 3) := by decide +kernel
theorem dX6_readProduct_49 : decode cX6_readProduct 49 = .ok (.bipush (-8), 2) := by decide +kernel
theorem dX6_readProduct_51 : decode cX6_readProduct 51 = .ok (.goto 5, 3) := by decide +kernel
theorem dX6_readProduct_54 : decode cX6_readProduct 54 = .ok (.bipush (-9), 2) := by decide +kernel
theorem dX6_readProduct_56 : decode cX6_readProduct 56 = .ok (.istore 4, 2) := by decide +kernel
theorem dX6_readProduct_58 : decode cX6_readProduct 58 = .ok (.aload_n 0, 1) := by decide +kernel
theorem dX6_readProduct_59 : decode cX6_readProduct 59 = .ok (.invokevirtual 52, 3) := by decide +kernel
theorem dX6_readProduct_62 : decode cX6_readProduct 62 = .ok (.aload_n 0, 1) := by decide +kernel
theorem dX6_readProduct_63 : decode cX6_readProduct 63 = .ok (.aload_n 1, 1) := by decide +kernel
theorem dX6_readProduct_64 : decode cX6_readProduct 64 = .ok (.iload_n 2, 1) := by decide +kernel
theorem dX6_readProduct_65 : decode cX6_readProduct 65 = .ok (.invokevirtual 250, 3) := by decide +kernel
theorem dX6_readProduct_68 : decode cX6_readProduct 68 = .ok (.aload_n 1, 1) := by decide +kernel
theorem dX6_readProduct_69 : decode cX6_readProduct 69 = .ok (.iload 4, 2) := by decide +kernel
theorem dX6_readProduct_71 : decode cX6_readProduct 71 = .ok (.invokevirtual 231, 3) := by decide +kernel
theorem dX6_readProduct_74 : decode cX6_readProduct 74 = .ok (.iinc 3 1, 3) := by decide +kernel
theorem dX6_readProduct_77 : decode cX6_readProduct 77 = .ok (.goto (-69), 3) := by decide +kernel
theorem dX6_readProduct_80 : decode cX6_readProduct 80 = .ok (.return_, 1) := by decide +kernel
set_option maxRecDepth 100000 in
set_option maxHeartbeats 4000000 in
theorem k_X6_readProduct {G : am_G} (hK : k_OK G) {r : Nat} {d : Nat} (hd : 10 + 7 * r ≤ d) {sh : List (Nat ⊕ (Nat × Nat))} {I : Nat → Nat → Int32} {R : Nat → Nat → Option Nat} {L : Nat → Nat → Int64} {g : Nat} {e n u : Nat} {tp : Nat → Int32} {s : Int32 × Nat} {l : List Int32} (hr : k_rd sh R e tp n) (hu : k_Rule sh R u) (hue : e + 2 ≤ u ∨ u + 3 ≤ e) (hs : k_s I e tp n s) (ht : k_st I u l) {dd : Nat} (hdd : dd + 1 + r = 6) (x : Int32) (hx : x = nI dd) (ih : ∀ (_ : k_OK G) {d : Nat} (_ : 8 + 7 * r ≤ d) {I : Nat → Nat → Int32} {s : Int32 × Nat} {l : List Int32} (hs : k_s I e tp n s) (ht : k_st I u l) (x : Int32) (hx : x = nI (dd + 1)), AM G mX6_readEither d [.ref e, .ref u, .int x] (sh, I, R, L, g) (fun v w => v = none ∧ ∃ J, w = (sh, J, R, L, g) ∧ k_rq I J e u tp n (x_ex tp n r (s, l))) (fun _ _ => False)) : AM G mX6_readProduct d [.ref e, .ref u, .int x] (sh, I, R, L, g) (fun v w => v = none ∧ ∃ J, w = (sh, J, R, L, g) ∧ k_rq I J e u tp n (x_prod tp n (x_ex tp n r) (s, l))) (fun _ _ => False) := by
  have hG := hK.1
  have he := hr.1
  have hn6 := hr.2.1
  have hf := k_fr_0 I e u
  refine AM.of (n := 2) (by decide +kernel) (Nat.le_of_ble_eq_true rfl) ?_
  show AW G mX6_readProduct d (fun v w => v = none ∧ ∃ J, w = (sh, J, R, L, g) ∧ k_rq I J e u tp n (x_prod tp n (x_ex tp n r) (s, l))) (fun _ _ => False) 0 [some (.ref e), some (.ref u), some (.int x), none, none] [] (sh, I, R, L, g) 0 0
  refine AW.aload_n dX6_readProduct_0 rfl ?_
  refine AW.aload_n dX6_readProduct_1 rfl ?_
  refine AW.iload_n dX6_readProduct_2 rfl ?_
  refine AW.callV (b := e) (As := [.ref u, .int x]) hG.2.2 (vX6_250 hG) (he.1 0 _ rfl) (k_X6_readPart hK (d := 9 + 7 * r) (Nat.le_refl _) hr hu hue (by assumption) (by assumption) hdd x (by assumption) ih) (by omega) dX6_readProduct_3 rfl rfl (Nat.le_of_ble_eq_true rfl) (fun v w9 hq9 h09 => by obtain ⟨rfl, J9, rfl, -⟩ := hq9; exact ⟨h09, rfl⟩) (by decide) (by decide) (fun _ _ hx => hx) (fun v3 w3 hq3 => ?_)
  obtain ⟨rfl, I3, rfl, hg3, hs3, ht3⟩ := hq3
  have hf3 := k_fr_t (by assumption) hg3
  show AW G mX6_readProduct d (fun v w => v = none ∧ ∃ J, w = (sh, J, R, L, g) ∧ k_rq I J e u tp n (x_prod tp n (x_ex tp n r) (s, l))) (fun _ _ => False) 6 [some (.ref e), some (.ref u), some (.int x), none, none] [] (sh, I3, R, L, g) 0 0
  refine AW.iconst 0 dX6_readProduct_6 (by decide) ?_
  refine AW.is_n [some (.ref e), some (.ref u), some (.int x), some (.int 0), none] dX6_readProduct_7 (by decide) rfl rfl ?_
  have L8 : ∀ k8, k8 ≤ 600 → ∀ (y : Int32) (J : Nat → Nat → Int32), (y = nI k8 ∧ k_fr I J e u ∧ ∃ s9 l9, k_s J e tp n s9 ∧ k_st J u l9 ∧ x_lp tp n (x_part tp n (x_ex tp n r)) (x_oP tp n) (600 - k8) (s9, l9) = x_lp tp n (x_part tp n (x_ex tp n r)) (x_oP tp n) 600 (x_part tp n (x_ex tp n r) (s, l))) → AW G mX6_readProduct d (fun v w => v = none ∧ ∃ J, w = (sh, J, R, L, g) ∧ k_rq I J e u tp n (x_prod tp n (x_ex tp n r) (s, l))) (fun _ _ => False) 8 [some (.ref e), some (.ref u), some (.int x), some (.int y), none] [] (sh, J, R, L, g) 0 0 := by
    refine am_rec 600 (fun k8 hk8 ih8 => ?_)
    intro y J hi8
    obtain ⟨hy, hfJ, s9, l9, hs9, ht9, hV⟩ := hi8
    refine AW.iload_n dX6_readProduct_8 rfl ?_
    refine AW.sipush 600 dX6_readProduct_9 (by decide) ?_
    refine AW.icmp_ge 80 dX6_readProduct_12 (by decide) (fun h12 => ?_) (fun h12 => ?_)
    · have hke := k_ge (n := 600) h12 hy rfl hk8 (by decide)
      exact AW.vret dX6_readProduct_80 rfl (by decide) (by decide) (by
        rw [hke, Nat.sub_self] at hV
        have hV : (s9, l9) = x_lp tp n (x_part tp n (x_ex tp n r)) (x_oP tp n) 600 (x_part tp n (x_ex tp n r) (s, l)) := hV
        refine ⟨rfl, J, rfl, ?_⟩
        show k_rq I J e u tp n (x_lp tp n (x_part tp n (x_ex tp n r)) (x_oP tp n) 600 (x_part tp n (x_ex tp n r) (s, l)))
        rw [← hV]
        exact ⟨hfJ, hs9, ht9⟩)
    · have hlt := k_lt (n := 600) h12 hy rfl hk8 (by decide)
      obtain ⟨f9, hf9⟩ : ∃ f, 600 - k8 = f + 1 := ⟨600 - k8 - 1, by omega⟩
      have hV9 := hV
      rw [hf9] at hV9
      refine AW.aload_n dX6_readProduct_15 rfl ?_
      refine AW.getI (fX6_39 hG).r rfl (he.1 0 _ rfl) dX6_readProduct_16 ?_
      refine AW.if_ne 80 dX6_readProduct_19 (by decide) (fun h19 => ?_) (fun h19 => ?_)
      · have q19 : ¬ s9.1 = 0 := by rw [← hs9.1]; exact h19
        exact AW.vret dX6_readProduct_80 rfl (by decide) (by decide) (by
          have hV : (s9, l9) = x_lp tp n (x_part tp n (x_ex tp n r)) (x_oP tp n) 600 (x_part tp n (x_ex tp n r) (s, l)) := by
            rw [← hV9]
            show _ = (if s9.1 = 0 ∧ ¬ x_oP tp n s9.2 = 0 then _ else _)
            rw [if_neg (fun h => q19 h.1)]
          refine ⟨rfl, J, rfl, ?_⟩
          show k_rq I J e u tp n (x_lp tp n (x_part tp n (x_ex tp n r)) (x_oP tp n) 600 (x_part tp n (x_ex tp n r) (s, l)))
          rw [← hV]
          exact ⟨hfJ, hs9, ht9⟩)
      · have q19 : s9.1 = 0 := by rw [← hs9.1]; exact h19
        refine AW.aload_n dX6_readProduct_22 rfl ?_
        refine AW.bipush 42 dX6_readProduct_23 (by decide) ?_
        refine AW.callV (b := e) (As := [.int 42]) hG.2.2 (vX6_216 hG) (he.1 0 _ rfl) (k_X6_isSign hK (d := 0) (Nat.le_refl _) hr (by assumption) 42) (by omega) dX6_readProduct_25 rfl rfl (Nat.le_of_ble_eq_true rfl) (fun v w9 hq9 h09 => by obtain ⟨rfl, rfl⟩ := hq9; exact ⟨h09, rfl⟩) (by decide) (by decide) (fun _ _ hx => hx) (fun v25 w25 hq25 => ?_)
        obtain ⟨rfl, rfl⟩ := hq25
        refine AW.nam (fun x25 ex25 => ?_)
        refine AW.if_ne 40 dX6_readProduct_28 (by decide) (fun h28 => ?_) (fun h28 => ?_)
        · rw [ex25] at h28
          have q28 := kb_1.mp h28
          refine AW.aload_n dX6_readProduct_40 rfl ?_
          refine AW.bipush 42 dX6_readProduct_41 (by decide) ?_
          refine AW.callV (b := e) (As := [.int 42]) hG.2.2 (vX6_216 hG) (he.1 0 _ rfl) (k_X6_isSign hK (d := 0) (Nat.le_refl _) hr (by assumption) 42) (by omega) dX6_readProduct_43 rfl rfl (Nat.le_of_ble_eq_true rfl) (fun v w9 hq9 h09 => by obtain ⟨rfl, rfl⟩ := hq9; exact ⟨h09, rfl⟩) (by decide) (by decide) (fun _ _ hx => hx) (fun v43 w43 hq43 => ?_)
          obtain ⟨rfl, rfl⟩ := hq43
          refine AW.nam (fun x43 ex43 => ?_)
          refine AW.if_eq 54 dX6_readProduct_46 (by decide) (fun h46 => ?_) (fun h46 => ?_)
          · rw [ex43] at h46
            have q46 := kb_0.mp h46
            exact absurd (q28.symm.trans q46) (by decide)
          · rw [ex43] at h46
            have q46 := kb_1.mp h46
            refine AW.bipush (-8) dX6_readProduct_49 (by decide) ?_
            refine AW.goto 56 dX6_readProduct_51 (by decide) ?_
            refine AW.is [some (.ref e), some (.ref u), some (.int x), some (.int y), some (.int (-8))] dX6_readProduct_56 (by decide) rfl rfl ?_
            refine AW.aload_n dX6_readProduct_58 rfl ?_
            refine AW.callV (b := e) (As := []) hG.2.2 (vX6_52 hG) (he.1 0 _ rfl) (k_X6_advS hK (d := 5) (Nat.le_refl _) hr (by assumption)) (by omega) dX6_readProduct_59 rfl rfl (Nat.le_of_ble_eq_true rfl) (fun v w9 hq9 h09 => by obtain ⟨rfl, J9, rfl, -⟩ := hq9; exact ⟨h09, rfl⟩) (by decide) (by decide) (fun _ _ hx => hx) (fun v59 w59 hq59 => ?_)
            obtain ⟨rfl, I59, rfl, hr59⟩ := hq59
            have hs59 := k_rp_i hr59
            have ht59 := k_st_r hue (by assumption) hr59
            have hf59 := k_fr_t (by assumption) (k_fr_r (u := u) hr59)
            show AW G mX6_readProduct d (fun v w => v = none ∧ ∃ J, w = (sh, J, R, L, g) ∧ k_rq I J e u tp n (x_prod tp n (x_ex tp n r) (s, l))) (fun _ _ => False) 62 [some (.ref e), some (.ref u), some (.int x), some (.int y), some (.int (-8))] [] (sh, I59, R, L, g) 0 0
            refine AW.aload_n dX6_readProduct_62 rfl ?_
            refine AW.aload_n dX6_readProduct_63 rfl ?_
            refine AW.iload_n dX6_readProduct_64 rfl ?_
            refine AW.callV (b := e) (As := [.ref u, .int x]) hG.2.2 (vX6_250 hG) (he.1 0 _ rfl) (k_X6_readPart hK (d := 9 + 7 * r) (Nat.le_refl _) hr hu hue (by assumption) (by assumption) hdd x (by assumption) ih) (by omega) dX6_readProduct_65 rfl rfl (Nat.le_of_ble_eq_true rfl) (fun v w9 hq9 h09 => by obtain ⟨rfl, J9, rfl, -⟩ := hq9; exact ⟨h09, rfl⟩) (by decide) (by decide) (fun _ _ hx => hx) (fun v65 w65 hq65 => ?_)
            obtain ⟨rfl, I65, rfl, hg65, hs65, ht65⟩ := hq65
            have hf65 := k_fr_t (by assumption) hg65
            show AW G mX6_readProduct d (fun v w => v = none ∧ ∃ J, w = (sh, J, R, L, g) ∧ k_rq I J e u tp n (x_prod tp n (x_ex tp n r) (s, l))) (fun _ _ => False) 68 [some (.ref e), some (.ref u), some (.int x), some (.int y), some (.int (-8))] [] (sh, I65, R, L, g) 0 0
            refine AW.aload_n dX6_readProduct_68 rfl ?_
            refine AW.iload dX6_readProduct_69 rfl ?_
            refine AW.callV (b := u) (As := [.int (-8)]) hG.2.2 (vX6_231 hG) (hu.1 0 _ rfl) (k_X7_addL hK (d := 0) (Nat.le_refl _) hu (by assumption) (-8)) (by omega) dX6_readProduct_71 rfl rfl (Nat.le_of_ble_eq_true rfl) (fun v w9 hq9 h09 => by obtain ⟨rfl, rfl⟩ := hq9; exact ⟨h09, rfl⟩) (by decide) (by decide) (fun _ _ hx => hx) (fun v71 w71 hq71 => ?_)
            obtain ⟨rfl, rfl⟩ := hq71
            refine AW.namI (fun I71 eI71 => ?_)
            show AW G mX6_readProduct d (fun v w => v = none ∧ ∃ J, w = (sh, J, R, L, g) ∧ k_rq I J e u tp n (x_prod tp n (x_ex tp n r) (s, l))) (fun _ _ => False) 74 [some (.ref e), some (.ref u), some (.int x), some (.int y), some (.int (-8))] [] (sh, I71, R, L, g) 0 0
            have ho71 := k_add_e eI71
            have hs71 := k_s_u hue (by assumption) ho71
            have hf71 := k_fr_t (by assumption) (k_fr_u hue ho71)
            have ht71 := k_st_e eI71 (by assumption)
            refine AW.inc (fun x74 => [some (.ref e), some (.ref u), some (.int x), some (.int x74), some (.int (-8))]) dX6_readProduct_74 rfl (by decide) rfl (fun _ => rfl) (fun x74 ex74 => ?_)
            refine AW.goto 8 dX6_readProduct_77 (by decide) ?_
            refine AW.mask [4] [some (.ref e), some (.ref u), some (.int x), some (.int x74), none] rfl ?_
            exact ih8 (k8 + 1) (by omega) (by omega) _ _ (by
              have ov : x_oP tp n s9.2 = -8 := if_pos q28
              refine ⟨k_inc (by assumption) hy, hf71, _, _, hs71, ht71, ?_⟩
              rw [← hV9, show 600 - (k8 + 1) = f9 by omega]
              show _ = (if s9.1 = 0 ∧ ¬ x_oP tp n s9.2 = 0 then _ else _)
              rw [if_pos ⟨q19, by rw [ov]; decide⟩, ov])
        · rw [ex25] at h28
          have q28 := kb_0.mp h28
          refine AW.aload_n dX6_readProduct_31 rfl ?_
          refine AW.bipush 47 dX6_readProduct_32 (by decide) ?_
          refine AW.callV (b := e) (As := [.int 47]) hG.2.2 (vX6_216 hG) (he.1 0 _ rfl) (k_X6_isSign hK (d := 0) (Nat.le_refl _) hr (by assumption) 47) (by omega) dX6_readProduct_34 rfl rfl (Nat.le_of_ble_eq_true rfl) (fun v w9 hq9 h09 => by obtain ⟨rfl, rfl⟩ := hq9; exact ⟨h09, rfl⟩) (by decide) (by decide) (fun _ _ hx => hx) (fun v34 w34 hq34 => ?_)
          obtain ⟨rfl, rfl⟩ := hq34
          refine AW.nam (fun x34 ex34 => ?_)
          refine AW.if_eq 80 dX6_readProduct_37 (by decide) (fun h37 => ?_) (fun h37 => ?_)
          · rw [ex34] at h37
            have q37 := kb_0.mp h37
            exact AW.vret dX6_readProduct_80 rfl (by decide) (by decide) (by
              have hV : (s9, l9) = x_lp tp n (x_part tp n (x_ex tp n r)) (x_oP tp n) 600 (x_part tp n (x_ex tp n r) (s, l)) := by
                rw [← hV9]
                show _ = (if s9.1 = 0 ∧ ¬ x_oP tp n s9.2 = 0 then _ else _)
                rw [if_neg (fun h => h.2 (show x_oP tp n s9.2 = 0 by unfold x_oP; rw [if_neg (by rw [q28]; decide), if_neg (by rw [q37]; decide)]))]
              refine ⟨rfl, J, rfl, ?_⟩
              show k_rq I J e u tp n (x_lp tp n (x_part tp n (x_ex tp n r)) (x_oP tp n) 600 (x_part tp n (x_ex tp n r) (s, l)))
              rw [← hV]
              exact ⟨hfJ, hs9, ht9⟩)
          · rw [ex34] at h37
            have q37 := kb_1.mp h37
            refine AW.aload_n dX6_readProduct_40 rfl ?_
            refine AW.bipush 42 dX6_readProduct_41 (by decide) ?_
            refine AW.callV (b := e) (As := [.int 42]) hG.2.2 (vX6_216 hG) (he.1 0 _ rfl) (k_X6_isSign hK (d := 0) (Nat.le_refl _) hr (by assumption) 42) (by omega) dX6_readProduct_43 rfl rfl (Nat.le_of_ble_eq_true rfl) (fun v w9 hq9 h09 => by obtain ⟨rfl, rfl⟩ := hq9; exact ⟨h09, rfl⟩) (by decide) (by decide) (fun _ _ hx => hx) (fun v43 w43 hq43 => ?_)
            obtain ⟨rfl, rfl⟩ := hq43
            refine AW.nam (fun x43 ex43 => ?_)
            refine AW.if_eq 54 dX6_readProduct_46 (by decide) (fun h46 => ?_) (fun h46 => ?_)
            · rw [ex43] at h46
              have q46 := kb_0.mp h46
              refine AW.bipush (-9) dX6_readProduct_54 (by decide) ?_
              refine AW.is [some (.ref e), some (.ref u), some (.int x), some (.int y), some (.int (-9))] dX6_readProduct_56 (by decide) rfl rfl ?_
              refine AW.aload_n dX6_readProduct_58 rfl ?_
              refine AW.callV (b := e) (As := []) hG.2.2 (vX6_52 hG) (he.1 0 _ rfl) (k_X6_advS hK (d := 5) (Nat.le_refl _) hr (by assumption)) (by omega) dX6_readProduct_59 rfl rfl (Nat.le_of_ble_eq_true rfl) (fun v w9 hq9 h09 => by obtain ⟨rfl, J9, rfl, -⟩ := hq9; exact ⟨h09, rfl⟩) (by decide) (by decide) (fun _ _ hx => hx) (fun v59 w59 hq59 => ?_)
              obtain ⟨rfl, I59, rfl, hr59⟩ := hq59
              have hs59 := k_rp_i hr59
              have ht59 := k_st_r hue (by assumption) hr59
              have hf59 := k_fr_t (by assumption) (k_fr_r (u := u) hr59)
              show AW G mX6_readProduct d (fun v w => v = none ∧ ∃ J, w = (sh, J, R, L, g) ∧ k_rq I J e u tp n (x_prod tp n (x_ex tp n r) (s, l))) (fun _ _ => False) 62 [some (.ref e), some (.ref u), some (.int x), some (.int y), some (.int (-9))] [] (sh, I59, R, L, g) 0 0
              refine AW.aload_n dX6_readProduct_62 rfl ?_
              refine AW.aload_n dX6_readProduct_63 rfl ?_
              refine AW.iload_n dX6_readProduct_64 rfl ?_
              refine AW.callV (b := e) (As := [.ref u, .int x]) hG.2.2 (vX6_250 hG) (he.1 0 _ rfl) (k_X6_readPart hK (d := 9 + 7 * r) (Nat.le_refl _) hr hu hue (by assumption) (by assumption) hdd x (by assumption) ih) (by omega) dX6_readProduct_65 rfl rfl (Nat.le_of_ble_eq_true rfl) (fun v w9 hq9 h09 => by obtain ⟨rfl, J9, rfl, -⟩ := hq9; exact ⟨h09, rfl⟩) (by decide) (by decide) (fun _ _ hx => hx) (fun v65 w65 hq65 => ?_)
              obtain ⟨rfl, I65, rfl, hg65, hs65, ht65⟩ := hq65
              have hf65 := k_fr_t (by assumption) hg65
              show AW G mX6_readProduct d (fun v w => v = none ∧ ∃ J, w = (sh, J, R, L, g) ∧ k_rq I J e u tp n (x_prod tp n (x_ex tp n r) (s, l))) (fun _ _ => False) 68 [some (.ref e), some (.ref u), some (.int x), some (.int y), some (.int (-9))] [] (sh, I65, R, L, g) 0 0
              refine AW.aload_n dX6_readProduct_68 rfl ?_
              refine AW.iload dX6_readProduct_69 rfl ?_
              refine AW.callV (b := u) (As := [.int (-9)]) hG.2.2 (vX6_231 hG) (hu.1 0 _ rfl) (k_X7_addL hK (d := 0) (Nat.le_refl _) hu (by assumption) (-9)) (by omega) dX6_readProduct_71 rfl rfl (Nat.le_of_ble_eq_true rfl) (fun v w9 hq9 h09 => by obtain ⟨rfl, rfl⟩ := hq9; exact ⟨h09, rfl⟩) (by decide) (by decide) (fun _ _ hx => hx) (fun v71 w71 hq71 => ?_)
              obtain ⟨rfl, rfl⟩ := hq71
              refine AW.namI (fun I71 eI71 => ?_)
              show AW G mX6_readProduct d (fun v w => v = none ∧ ∃ J, w = (sh, J, R, L, g) ∧ k_rq I J e u tp n (x_prod tp n (x_ex tp n r) (s, l))) (fun _ _ => False) 74 [some (.ref e), some (.ref u), some (.int x), some (.int y), some (.int (-9))] [] (sh, I71, R, L, g) 0 0
              have ho71 := k_add_e eI71
              have hs71 := k_s_u hue (by assumption) ho71
              have hf71 := k_fr_t (by assumption) (k_fr_u hue ho71)
              have ht71 := k_st_e eI71 (by assumption)
              refine AW.inc (fun x74 => [some (.ref e), some (.ref u), some (.int x), some (.int x74), some (.int (-9))]) dX6_readProduct_74 rfl (by decide) rfl (fun _ => rfl) (fun x74 ex74 => ?_)
              refine AW.goto 8 dX6_readProduct_77 (by decide) ?_
              refine AW.mask [4] [some (.ref e), some (.ref u), some (.int x), some (.int x74), none] rfl ?_
              exact ih8 (k8 + 1) (by omega) (by omega) _ _ (by
                have ov : x_oP tp n s9.2 = -9 := by unfold x_oP; rw [if_neg (by rw [q28]; decide), if_pos q37]
                refine ⟨k_inc (by assumption) hy, hf71, _, _, hs71, ht71, ?_⟩
                rw [← hV9, show 600 - (k8 + 1) = f9 by omega]
                show _ = (if s9.1 = 0 ∧ ¬ x_oP tp n s9.2 = 0 then _ else _)
                rw [if_pos ⟨q19, by rw [ov]; decide⟩, ov])
            · rw [ex43] at h46
              have q46 := kb_1.mp h46
              exact absurd (q28.symm.trans q46) (by decide)
  exact L8 0 (by omega) _ _ (⟨nI_0.symm, hf3, _, _, hs3, ht3, rfl⟩)
theorem dX6_readSum_0 : decode cX6_readSum 0 = .ok (.aload_n 0, 1) := by decide +kernel
theorem dX6_readSum_1 : decode cX6_readSum 1 = .ok (.aload_n 1, 1) := by decide +kernel
theorem dX6_readSum_2 : decode cX6_readSum 2 = .ok (.iload_n 2, 1) := by decide +kernel
theorem dX6_readSum_3 : decode cX6_readSum 3 = .ok (.invokevirtual 247, 3) := by decide +kernel
theorem dX6_readSum_6 : decode cX6_readSum 6 = .ok (.iconst 0, 1) := by decide +kernel
theorem dX6_readSum_7 : decode cX6_readSum 7 = .ok (.istore_n 3, 1) := by decide +kernel
theorem dX6_readSum_8 : decode cX6_readSum 8 = .ok (.iload_n 3, 1) := by decide +kernel
theorem dX6_readSum_9 : decode cX6_readSum 9 = .ok (.sipush 600, 3) := by decide +kernel
theorem dX6_readSum_12 : decode cX6_readSum 12 = .ok (.if_icmp .ge 68, 3) := by decide +kernel
theorem dX6_readSum_15 : decode cX6_readSum 15 = .ok (.aload_n 0, 1) := by decide +kernel
theorem dX6_readSum_16 : decode cX6_readSum 16 = .ok (.getfield 39, 3) := by decide +kernel
theorem dX6_readSum_19 : decode cX6_readSum 19 = .ok (.ifCond .ne 61, 3) := by decide +kernel
theorem dX6_readSum_22 : decode cX6_readSum 22 = .ok (.aload_n 0, 1) := by decide +kernel
theorem dX6_readSum_23 : decode cX6_readSum 23 = .ok (.bipush 43, 2) := by decide +kernel
theorem dX6_readSum_25 : decode cX6_readSum 25 = .ok (.invokevirtual 216, 3) := by decide +kernel
theorem dX6_readSum_28 : decode cX6_readSum 28 = .ok (.ifCond .ne 12, 3) := by decide +kernel
theorem dX6_readSum_31 : decode cX6_readSum 31 = .ok (.aload_n 0, 1) := by decide +kernel
theorem dX6_readSum_32 : decode cX6_readSum 32 = .ok (.bipush 45, 2) := by decide +kernel
theorem dX6_readSum_34 : decode cX6_readSum 34 = .ok (.invokevirtual 216, 3) := by decide +kernel
theorem dX6_readSum_37 : decode cX6_readSum 37 = .ok (.ifCond .eq 43, 3) := by decide +kernel
theorem dX6_readSum_40 : decode cX6_readSum 40 = .ok (.aload_n 0, 1) := by decide +kernel
theorem dX6_readSum_41 : decode cX6_readSum 41 = .ok (.bipush 43, 2) := by decide +kernel
theorem dX6_readSum_43 : decode cX6_readSum 43 = .ok (.invokevirtual 216, 3) := by decide +kernel
theorem dX6_readSum_46 : decode cX6_readSum 46 = .ok (.ifCond .eq 8, 3) := by decide +kernel
theorem dX6_readSum_49 : decode cX6_readSum 49 = .ok (.bipush (-6), 2) := by decide +kernel
theorem dX6_readSum_51 : decode cX6_readSum 51 = .ok (.goto 5, 3) := by decide +kernel
theorem dX6_readSum_54 : decode cX6_readSum 54 = .ok (.bipush (-7), 2) := by decide +kernel
theorem dX6_readSum_56 : decode cX6_readSum 56 = .ok (.istore 4, 2) := by decide +kernel
theorem dX6_readSum_58 : decode cX6_readSum 58 = .ok (.aload_n 0, 1) := by decide +kernel
theorem dX6_readSum_59 : decode cX6_readSum 59 = .ok (.invokevirtual 52, 3) := by decide +kernel
theorem dX6_readSum_62 : decode cX6_readSum 62 = .ok (.aload_n 0, 1) := by decide +kernel
theorem dX6_readSum_63 : decode cX6_readSum 63 = .ok (.aload_n 1, 1) := by decide +kernel
theorem dX6_readSum_64 : decode cX6_readSum 64 = .ok (.iload_n 2, 1) := by decide +kernel
theorem dX6_readSum_65 : decode cX6_readSum 65 = .ok (.invokevirtual 247, 3) := by decide +kernel
theorem dX6_readSum_68 : decode cX6_readSum 68 = .ok (.aload_n 1, 1) := by decide +kernel
theorem dX6_readSum_69 : decode cX6_readSum 69 = .ok (.iload 4, 2) := by decide +kernel
theorem dX6_readSum_71 : decode cX6_readSum 71 = .ok (.invokevirtual 231, 3) := by decide +kernel
theorem dX6_readSum_74 : decode cX6_readSum 74 = .ok (.iinc 3 1, 3) := by decide +kernel
theorem dX6_readSum_77 : decode cX6_readSum 77 = .ok (.goto (-69), 3) := by decide +kernel
theorem dX6_readSum_80 : decode cX6_readSum 80 = .ok (.return_, 1) := by decide +kernel
set_option maxRecDepth 100000 in
set_option maxHeartbeats 4000000 in
theorem k_X6_readSum {G : am_G} (hK : k_OK G) {r : Nat} {d : Nat} (hd : 11 + 7 * r ≤ d) {sh : List (Nat ⊕ (Nat × Nat))} {I : Nat → Nat → Int32} {R : Nat → Nat → Option Nat} {L : Nat → Nat → Int64} {g : Nat} {e n u : Nat} {tp : Nat → Int32} {s : Int32 × Nat} {l : List Int32} (hr : k_rd sh R e tp n) (hu : k_Rule sh R u) (hue : e + 2 ≤ u ∨ u + 3 ≤ e) (hs : k_s I e tp n s) (ht : k_st I u l) {dd : Nat} (hdd : dd + 1 + r = 6) (x : Int32) (hx : x = nI dd) (ih : ∀ (_ : k_OK G) {d : Nat} (_ : 8 + 7 * r ≤ d) {I : Nat → Nat → Int32} {s : Int32 × Nat} {l : List Int32} (hs : k_s I e tp n s) (ht : k_st I u l) (x : Int32) (hx : x = nI (dd + 1)), AM G mX6_readEither d [.ref e, .ref u, .int x] (sh, I, R, L, g) (fun v w => v = none ∧ ∃ J, w = (sh, J, R, L, g) ∧ k_rq I J e u tp n (x_ex tp n r (s, l))) (fun _ _ => False)) : AM G mX6_readSum d [.ref e, .ref u, .int x] (sh, I, R, L, g) (fun v w => v = none ∧ ∃ J, w = (sh, J, R, L, g) ∧ k_rq I J e u tp n (x_sum tp n (x_ex tp n r) (s, l))) (fun _ _ => False) := by
  have hG := hK.1
  have he := hr.1
  have hn6 := hr.2.1
  have hf := k_fr_0 I e u
  refine AM.of (n := 2) (by decide +kernel) (Nat.le_of_ble_eq_true rfl) ?_
  show AW G mX6_readSum d (fun v w => v = none ∧ ∃ J, w = (sh, J, R, L, g) ∧ k_rq I J e u tp n (x_sum tp n (x_ex tp n r) (s, l))) (fun _ _ => False) 0 [some (.ref e), some (.ref u), some (.int x), none, none] [] (sh, I, R, L, g) 0 0
  refine AW.aload_n dX6_readSum_0 rfl ?_
  refine AW.aload_n dX6_readSum_1 rfl ?_
  refine AW.iload_n dX6_readSum_2 rfl ?_
  refine AW.callV (b := e) (As := [.ref u, .int x]) hG.2.2 (vX6_247 hG) (he.1 0 _ rfl) (k_X6_readProduct hK (d := 10 + 7 * r) (Nat.le_refl _) hr hu hue (by assumption) (by assumption) hdd x (by assumption) ih) (by omega) dX6_readSum_3 rfl rfl (Nat.le_of_ble_eq_true rfl) (fun v w9 hq9 h09 => by obtain ⟨rfl, J9, rfl, -⟩ := hq9; exact ⟨h09, rfl⟩) (by decide) (by decide) (fun _ _ hx => hx) (fun v3 w3 hq3 => ?_)
  obtain ⟨rfl, I3, rfl, hg3, hs3, ht3⟩ := hq3
  have hf3 := k_fr_t (by assumption) hg3
  show AW G mX6_readSum d (fun v w => v = none ∧ ∃ J, w = (sh, J, R, L, g) ∧ k_rq I J e u tp n (x_sum tp n (x_ex tp n r) (s, l))) (fun _ _ => False) 6 [some (.ref e), some (.ref u), some (.int x), none, none] [] (sh, I3, R, L, g) 0 0
  refine AW.iconst 0 dX6_readSum_6 (by decide) ?_
  refine AW.is_n [some (.ref e), some (.ref u), some (.int x), some (.int 0), none] dX6_readSum_7 (by decide) rfl rfl ?_
  have L8 : ∀ k8, k8 ≤ 600 → ∀ (y : Int32) (J : Nat → Nat → Int32), (y = nI k8 ∧ k_fr I J e u ∧ ∃ s9 l9, k_s J e tp n s9 ∧ k_st J u l9 ∧ x_lp tp n (x_prod tp n (x_ex tp n r)) (x_oS tp n) (600 - k8) (s9, l9) = x_lp tp n (x_prod tp n (x_ex tp n r)) (x_oS tp n) 600 (x_prod tp n (x_ex tp n r) (s, l))) → AW G mX6_readSum d (fun v w => v = none ∧ ∃ J, w = (sh, J, R, L, g) ∧ k_rq I J e u tp n (x_sum tp n (x_ex tp n r) (s, l))) (fun _ _ => False) 8 [some (.ref e), some (.ref u), some (.int x), some (.int y), none] [] (sh, J, R, L, g) 0 0 := by
    refine am_rec 600 (fun k8 hk8 ih8 => ?_)
    intro y J hi8
    obtain ⟨hy, hfJ, s9, l9, hs9, ht9, hV⟩ := hi8
    refine AW.iload_n dX6_readSum_8 rfl ?_
    refine AW.sipush 600 dX6_readSum_9 (by decide) ?_
    refine AW.icmp_ge 80 dX6_readSum_12 (by decide) (fun h12 => ?_) (fun h12 => ?_)
    · have hke := k_ge (n := 600) h12 hy rfl hk8 (by decide)
      exact AW.vret dX6_readSum_80 rfl (by decide) (by decide) (by
        rw [hke, Nat.sub_self] at hV
        have hV : (s9, l9) = x_lp tp n (x_prod tp n (x_ex tp n r)) (x_oS tp n) 600 (x_prod tp n (x_ex tp n r) (s, l)) := hV
        refine ⟨rfl, J, rfl, ?_⟩
        show k_rq I J e u tp n (x_lp tp n (x_prod tp n (x_ex tp n r)) (x_oS tp n) 600 (x_prod tp n (x_ex tp n r) (s, l)))
        rw [← hV]
        exact ⟨hfJ, hs9, ht9⟩)
    · have hlt := k_lt (n := 600) h12 hy rfl hk8 (by decide)
      obtain ⟨f9, hf9⟩ : ∃ f, 600 - k8 = f + 1 := ⟨600 - k8 - 1, by omega⟩
      have hV9 := hV
      rw [hf9] at hV9
      refine AW.aload_n dX6_readSum_15 rfl ?_
      refine AW.getI (fX6_39 hG).r rfl (he.1 0 _ rfl) dX6_readSum_16 ?_
      refine AW.if_ne 80 dX6_readSum_19 (by decide) (fun h19 => ?_) (fun h19 => ?_)
      · have q19 : ¬ s9.1 = 0 := by rw [← hs9.1]; exact h19
        exact AW.vret dX6_readSum_80 rfl (by decide) (by decide) (by
          have hV : (s9, l9) = x_lp tp n (x_prod tp n (x_ex tp n r)) (x_oS tp n) 600 (x_prod tp n (x_ex tp n r) (s, l)) := by
            rw [← hV9]
            show _ = (if s9.1 = 0 ∧ ¬ x_oS tp n s9.2 = 0 then _ else _)
            rw [if_neg (fun h => q19 h.1)]
          refine ⟨rfl, J, rfl, ?_⟩
          show k_rq I J e u tp n (x_lp tp n (x_prod tp n (x_ex tp n r)) (x_oS tp n) 600 (x_prod tp n (x_ex tp n r) (s, l)))
          rw [← hV]
          exact ⟨hfJ, hs9, ht9⟩)
      · have q19 : s9.1 = 0 := by rw [← hs9.1]; exact h19
        refine AW.aload_n dX6_readSum_22 rfl ?_
        refine AW.bipush 43 dX6_readSum_23 (by decide) ?_
        refine AW.callV (b := e) (As := [.int 43]) hG.2.2 (vX6_216 hG) (he.1 0 _ rfl) (k_X6_isSign hK (d := 0) (Nat.le_refl _) hr (by assumption) 43) (by omega) dX6_readSum_25 rfl rfl (Nat.le_of_ble_eq_true rfl) (fun v w9 hq9 h09 => by obtain ⟨rfl, rfl⟩ := hq9; exact ⟨h09, rfl⟩) (by decide) (by decide) (fun _ _ hx => hx) (fun v25 w25 hq25 => ?_)
        obtain ⟨rfl, rfl⟩ := hq25
        refine AW.nam (fun x25 ex25 => ?_)
        refine AW.if_ne 40 dX6_readSum_28 (by decide) (fun h28 => ?_) (fun h28 => ?_)
        · rw [ex25] at h28
          have q28 := kb_1.mp h28
          refine AW.aload_n dX6_readSum_40 rfl ?_
          refine AW.bipush 43 dX6_readSum_41 (by decide) ?_
          refine AW.callV (b := e) (As := [.int 43]) hG.2.2 (vX6_216 hG) (he.1 0 _ rfl) (k_X6_isSign hK (d := 0) (Nat.le_refl _) hr (by assumption) 43) (by omega) dX6_readSum_43 rfl rfl (Nat.le_of_ble_eq_true rfl) (fun v w9 hq9 h09 => by obtain ⟨rfl, rfl⟩ := hq9; exact ⟨h09, rfl⟩) (by decide) (by decide) (fun _ _ hx => hx) (fun v43 w43 hq43 => ?_)
          obtain ⟨rfl, rfl⟩ := hq43
          refine AW.nam (fun x43 ex43 => ?_)
          refine AW.if_eq 54 dX6_readSum_46 (by decide) (fun h46 => ?_) (fun h46 => ?_)
          · rw [ex43] at h46
            have q46 := kb_0.mp h46
            exact absurd (q28.symm.trans q46) (by decide)
          · rw [ex43] at h46
            have q46 := kb_1.mp h46
            refine AW.bipush (-6) dX6_readSum_49 (by decide) ?_
            refine AW.goto 56 dX6_readSum_51 (by decide) ?_
            refine AW.is [some (.ref e), some (.ref u), some (.int x), some (.int y), some (.int (-6))] dX6_readSum_56 (by decide) rfl rfl ?_
            refine AW.aload_n dX6_readSum_58 rfl ?_
            refine AW.callV (b := e) (As := []) hG.2.2 (vX6_52 hG) (he.1 0 _ rfl) (k_X6_advS hK (d := 5) (Nat.le_refl _) hr (by assumption)) (by omega) dX6_readSum_59 rfl rfl (Nat.le_of_ble_eq_true rfl) (fun v w9 hq9 h09 => by obtain ⟨rfl, J9, rfl, -⟩ := hq9; exact ⟨h09, rfl⟩) (by decide) (by decide) (fun _ _ hx => hx) (fun v59 w59 hq59 => ?_)
            obtain ⟨rfl, I59, rfl, hr59⟩ := hq59
            have hs59 := k_rp_i hr59
            have ht59 := k_st_r hue (by assumption) hr59
            have hf59 := k_fr_t (by assumption) (k_fr_r (u := u) hr59)
            show AW G mX6_readSum d (fun v w => v = none ∧ ∃ J, w = (sh, J, R, L, g) ∧ k_rq I J e u tp n (x_sum tp n (x_ex tp n r) (s, l))) (fun _ _ => False) 62 [some (.ref e), some (.ref u), some (.int x), some (.int y), some (.int (-6))] [] (sh, I59, R, L, g) 0 0
            refine AW.aload_n dX6_readSum_62 rfl ?_
            refine AW.aload_n dX6_readSum_63 rfl ?_
            refine AW.iload_n dX6_readSum_64 rfl ?_
            refine AW.callV (b := e) (As := [.ref u, .int x]) hG.2.2 (vX6_247 hG) (he.1 0 _ rfl) (k_X6_readProduct hK (d := 10 + 7 * r) (Nat.le_refl _) hr hu hue (by assumption) (by assumption) hdd x (by assumption) ih) (by omega) dX6_readSum_65 rfl rfl (Nat.le_of_ble_eq_true rfl) (fun v w9 hq9 h09 => by obtain ⟨rfl, J9, rfl, -⟩ := hq9; exact ⟨h09, rfl⟩) (by decide) (by decide) (fun _ _ hx => hx) (fun v65 w65 hq65 => ?_)
            obtain ⟨rfl, I65, rfl, hg65, hs65, ht65⟩ := hq65
            have hf65 := k_fr_t (by assumption) hg65
            show AW G mX6_readSum d (fun v w => v = none ∧ ∃ J, w = (sh, J, R, L, g) ∧ k_rq I J e u tp n (x_sum tp n (x_ex tp n r) (s, l))) (fun _ _ => False) 68 [some (.ref e), some (.ref u), some (.int x), some (.int y), some (.int (-6))] [] (sh, I65, R, L, g) 0 0
            refine AW.aload_n dX6_readSum_68 rfl ?_
            refine AW.iload dX6_readSum_69 rfl ?_
            refine AW.callV (b := u) (As := [.int (-6)]) hG.2.2 (vX6_231 hG) (hu.1 0 _ rfl) (k_X7_addL hK (d := 0) (Nat.le_refl _) hu (by assumption) (-6)) (by omega) dX6_readSum_71 rfl rfl (Nat.le_of_ble_eq_true rfl) (fun v w9 hq9 h09 => by obtain ⟨rfl, rfl⟩ := hq9; exact ⟨h09, rfl⟩) (by decide) (by decide) (fun _ _ hx => hx) (fun v71 w71 hq71 => ?_)
            obtain ⟨rfl, rfl⟩ := hq71
            refine AW.namI (fun I71 eI71 => ?_)
            show AW G mX6_readSum d (fun v w => v = none ∧ ∃ J, w = (sh, J, R, L, g) ∧ k_rq I J e u tp n (x_sum tp n (x_ex tp n r) (s, l))) (fun _ _ => False) 74 [some (.ref e), some (.ref u), some (.int x), some (.int y), some (.int (-6))] [] (sh, I71, R, L, g) 0 0
            have ho71 := k_add_e eI71
            have hs71 := k_s_u hue (by assumption) ho71
            have hf71 := k_fr_t (by assumption) (k_fr_u hue ho71)
            have ht71 := k_st_e eI71 (by assumption)
            refine AW.inc (fun x74 => [some (.ref e), some (.ref u), some (.int x), some (.int x74), some (.int (-6))]) dX6_readSum_74 rfl (by decide) rfl (fun _ => rfl) (fun x74 ex74 => ?_)
            refine AW.goto 8 dX6_readSum_77 (by decide) ?_
            refine AW.mask [4] [some (.ref e), some (.ref u), some (.int x), some (.int x74), none] rfl ?_
            exact ih8 (k8 + 1) (by omega) (by omega) _ _ (by
              have ov : x_oS tp n s9.2 = -6 := if_pos q28
              refine ⟨k_inc (by assumption) hy, hf71, _, _, hs71, ht71, ?_⟩
              rw [← hV9, show 600 - (k8 + 1) = f9 by omega]
              show _ = (if s9.1 = 0 ∧ ¬ x_oS tp n s9.2 = 0 then _ else _)
              rw [if_pos ⟨q19, by rw [ov]; decide⟩, ov])
        · rw [ex25] at h28
          have q28 := kb_0.mp h28
          refine AW.aload_n dX6_readSum_31 rfl ?_
          refine AW.bipush 45 dX6_readSum_32 (by decide) ?_
          refine AW.callV (b := e) (As := [.int 45]) hG.2.2 (vX6_216 hG) (he.1 0 _ rfl) (k_X6_isSign hK (d := 0) (Nat.le_refl _) hr (by assumption) 45) (by omega) dX6_readSum_34 rfl rfl (Nat.le_of_ble_eq_true rfl) (fun v w9 hq9 h09 => by obtain ⟨rfl, rfl⟩ := hq9; exact ⟨h09, rfl⟩) (by decide) (by decide) (fun _ _ hx => hx) (fun v34 w34 hq34 => ?_)
          obtain ⟨rfl, rfl⟩ := hq34
          refine AW.nam (fun x34 ex34 => ?_)
          refine AW.if_eq 80 dX6_readSum_37 (by decide) (fun h37 => ?_) (fun h37 => ?_)
          · rw [ex34] at h37
            have q37 := kb_0.mp h37
            exact AW.vret dX6_readSum_80 rfl (by decide) (by decide) (by
              have hV : (s9, l9) = x_lp tp n (x_prod tp n (x_ex tp n r)) (x_oS tp n) 600 (x_prod tp n (x_ex tp n r) (s, l)) := by
                rw [← hV9]
                show _ = (if s9.1 = 0 ∧ ¬ x_oS tp n s9.2 = 0 then _ else _)
                rw [if_neg (fun h => h.2 (show x_oS tp n s9.2 = 0 by unfold x_oS; rw [if_neg (by rw [q28]; decide), if_neg (by rw [q37]; decide)]))]
              refine ⟨rfl, J, rfl, ?_⟩
              show k_rq I J e u tp n (x_lp tp n (x_prod tp n (x_ex tp n r)) (x_oS tp n) 600 (x_prod tp n (x_ex tp n r) (s, l)))
              rw [← hV]
              exact ⟨hfJ, hs9, ht9⟩)
          · rw [ex34] at h37
            have q37 := kb_1.mp h37
            refine AW.aload_n dX6_readSum_40 rfl ?_
            refine AW.bipush 43 dX6_readSum_41 (by decide) ?_
            refine AW.callV (b := e) (As := [.int 43]) hG.2.2 (vX6_216 hG) (he.1 0 _ rfl) (k_X6_isSign hK (d := 0) (Nat.le_refl _) hr (by assumption) 43) (by omega) dX6_readSum_43 rfl rfl (Nat.le_of_ble_eq_true rfl) (fun v w9 hq9 h09 => by obtain ⟨rfl, rfl⟩ := hq9; exact ⟨h09, rfl⟩) (by decide) (by decide) (fun _ _ hx => hx) (fun v43 w43 hq43 => ?_)
            obtain ⟨rfl, rfl⟩ := hq43
            refine AW.nam (fun x43 ex43 => ?_)
            refine AW.if_eq 54 dX6_readSum_46 (by decide) (fun h46 => ?_) (fun h46 => ?_)
            · rw [ex43] at h46
              have q46 := kb_0.mp h46
              refine AW.bipush (-7) dX6_readSum_54 (by decide) ?_
              refine AW.is [some (.ref e), some (.ref u), some (.int x), some (.int y), some (.int (-7))] dX6_readSum_56 (by decide) rfl rfl ?_
              refine AW.aload_n dX6_readSum_58 rfl ?_
              refine AW.callV (b := e) (As := []) hG.2.2 (vX6_52 hG) (he.1 0 _ rfl) (k_X6_advS hK (d := 5) (Nat.le_refl _) hr (by assumption)) (by omega) dX6_readSum_59 rfl rfl (Nat.le_of_ble_eq_true rfl) (fun v w9 hq9 h09 => by obtain ⟨rfl, J9, rfl, -⟩ := hq9; exact ⟨h09, rfl⟩) (by decide) (by decide) (fun _ _ hx => hx) (fun v59 w59 hq59 => ?_)
              obtain ⟨rfl, I59, rfl, hr59⟩ := hq59
              have hs59 := k_rp_i hr59
              have ht59 := k_st_r hue (by assumption) hr59
              have hf59 := k_fr_t (by assumption) (k_fr_r (u := u) hr59)
              show AW G mX6_readSum d (fun v w => v = none ∧ ∃ J, w = (sh, J, R, L, g) ∧ k_rq I J e u tp n (x_sum tp n (x_ex tp n r) (s, l))) (fun _ _ => False) 62 [some (.ref e), some (.ref u), some (.int x), some (.int y), some (.int (-7))] [] (sh, I59, R, L, g) 0 0
              refine AW.aload_n dX6_readSum_62 rfl ?_
              refine AW.aload_n dX6_readSum_63 rfl ?_
              refine AW.iload_n dX6_readSum_64 rfl ?_
              refine AW.callV (b := e) (As := [.ref u, .int x]) hG.2.2 (vX6_247 hG) (he.1 0 _ rfl) (k_X6_readProduct hK (d := 10 + 7 * r) (Nat.le_refl _) hr hu hue (by assumption) (by assumption) hdd x (by assumption) ih) (by omega) dX6_readSum_65 rfl rfl (Nat.le_of_ble_eq_true rfl) (fun v w9 hq9 h09 => by obtain ⟨rfl, J9, rfl, -⟩ := hq9; exact ⟨h09, rfl⟩) (by decide) (by decide) (fun _ _ hx => hx) (fun v65 w65 hq65 => ?_)
              obtain ⟨rfl, I65, rfl, hg65, hs65, ht65⟩ := hq65
              have hf65 := k_fr_t (by assumption) hg65
              show AW G mX6_readSum d (fun v w => v = none ∧ ∃ J, w = (sh, J, R, L, g) ∧ k_rq I J e u tp n (x_sum tp n (x_ex tp n r) (s, l))) (fun _ _ => False) 68 [some (.ref e), some (.ref u), some (.int x), some (.int y), some (.int (-7))] [] (sh, I65, R, L, g) 0 0
              refine AW.aload_n dX6_readSum_68 rfl ?_
              refine AW.iload dX6_readSum_69 rfl ?_
              refine AW.callV (b := u) (As := [.int (-7)]) hG.2.2 (vX6_231 hG) (hu.1 0 _ rfl) (k_X7_addL hK (d := 0) (Nat.le_refl _) hu (by assumption) (-7)) (by omega) dX6_readSum_71 rfl rfl (Nat.le_of_ble_eq_true rfl) (fun v w9 hq9 h09 => by obtain ⟨rfl, rfl⟩ := hq9; exact ⟨h09, rfl⟩) (by decide) (by decide) (fun _ _ hx => hx) (fun v71 w71 hq71 => ?_)
              obtain ⟨rfl, rfl⟩ := hq71
              refine AW.namI (fun I71 eI71 => ?_)
              show AW G mX6_readSum d (fun v w => v = none ∧ ∃ J, w = (sh, J, R, L, g) ∧ k_rq I J e u tp n (x_sum tp n (x_ex tp n r) (s, l))) (fun _ _ => False) 74 [some (.ref e), some (.ref u), some (.int x), some (.int y), some (.int (-7))] [] (sh, I71, R, L, g) 0 0
              have ho71 := k_add_e eI71
              have hs71 := k_s_u hue (by assumption) ho71
              have hf71 := k_fr_t (by assumption) (k_fr_u hue ho71)
              have ht71 := k_st_e eI71 (by assumption)
              refine AW.inc (fun x74 => [some (.ref e), some (.ref u), some (.int x), some (.int x74), some (.int (-7))]) dX6_readSum_74 rfl (by decide) rfl (fun _ => rfl) (fun x74 ex74 => ?_)
              refine AW.goto 8 dX6_readSum_77 (by decide) ?_
              refine AW.mask [4] [some (.ref e), some (.ref u), some (.int x), some (.int x74), none] rfl ?_
              exact ih8 (k8 + 1) (by omega) (by omega) _ _ (by
                have ov : x_oS tp n s9.2 = -7 := by unfold x_oS; rw [if_neg (by rw [q28]; decide), if_pos q37]
                refine ⟨k_inc (by assumption) hy, hf71, _, _, hs71, ht71, ?_⟩
                rw [← hV9, show 600 - (k8 + 1) = f9 by omega]
                show _ = (if s9.1 = 0 ∧ ¬ x_oS tp n s9.2 = 0 then _ else _)
                rw [if_pos ⟨q19, by rw [ov]; decide⟩, ov])
            · rw [ex43] at h46
              have q46 := kb_1.mp h46
              exact absurd (q28.symm.trans q46) (by decide)
  exact L8 0 (by omega) _ _ (⟨nI_0.symm, hf3, _, _, hs3, ht3, rfl⟩)
theorem dX6_readTest_0 : decode cX6_readTest 0 = .ok (.aload_n 0, 1) := by decide +kernel
theorem dX6_readTest_1 : decode cX6_readTest 1 = .ok (.aload_n 1, 1) := by decide +kernel
theorem dX6_readTest_2 : decode cX6_readTest 2 = .ok (.iload_n 2, 1) := by decide +kernel
theorem dX6_readTest_3 : decode cX6_readTest 3 = .ok (.invokevirtual 244, 3) := by decide +kernel
theorem dX6_readTest_6 : decode cX6_readTest 6 = .ok (.aload_n 0, 1) := by decide +kernel
theorem dX6_readTest_7 : decode cX6_readTest 7 = .ok (.getfield 39, 3) := by decide +kernel
theorem dX6_readTest_10 : decode cX6_readTest 10 = .ok (.ifCond .ne 53, 3) := by decide +kernel
theorem dX6_readTest_13 : decode cX6_readTest 13 = .ok (.aload_n 0, 1) := by decide +kernel
theorem dX6_readTest_14 : decode cX6_readTest 14 = .ok (.bipush 60, 2) := by decide +kernel
theorem dX6_readTest_16 : decode cX6_readTest 16 = .ok (.invokevirtual 216, 3) := by decide +kernel
theorem dX6_readTest_19 : decode cX6_readTest 19 = .ok (.ifCond .ne 12, 3) := by decide +kernel
theorem dX6_readTest_22 : decode cX6_readTest 22 = .ok (.aload_n 0, 1) := by decide +kernel
theorem dX6_readTest_23 : decode cX6_readTest 23 = .ok (.bipush 61, 2) := by decide +kernel
theorem dX6_readTest_25 : decode cX6_readTest 25 = .ok (.invokevirtual 216, 3) := by decide +kernel
theorem dX6_readTest_28 : decode cX6_readTest 28 = .ok (.ifCond .eq 35, 3) := by decide +kernel
theorem dX6_readTest_31 : decode cX6_readTest 31 = .ok (.aload_n 0, 1) := by decide +kernel
theorem dX6_readTest_32 : decode cX6_readTest 32 = .ok (.bipush 60, 2) := by decide +kernel
theorem dX6_readTest_34 : decode cX6_readTest 34 = .ok (.invokevirtual 216, 3) := by decide +kernel
theorem dX6_readTest_37 : decode cX6_readTest 37 = .ok (.ifCond .eq 8, 3) := by decide +kernel
theorem dX6_readTest_40 : decode cX6_readTest 40 = .ok (.bipush (-4), 2) := by decide +kernel
theorem dX6_readTest_42 : decode cX6_readTest 42 = .ok (.goto 5, 3) := by decide +kernel
theorem dX6_readTest_45 : decode cX6_readTest 45 = .ok (.bipush (-5), 2) := by decide +kernel
theorem dX6_readTest_47 : decode cX6_readTest 47 = .ok (.istore_n 3, 1) := by decide +kernel
theorem dX6_readTest_48 : decode cX6_readTest 48 = .ok (.aload_n 0, 1) := by decide +kernel
theorem dX6_readTest_49 : decode cX6_readTest 49 = .ok (.invokevirtual 52, 3) := by decide +kernel
theorem dX6_readTest_52 : decode cX6_readTest 52 = .ok (.aload_n 0, 1) := by decide +kernel
theorem dX6_readTest_53 : decode cX6_readTest 53 = .ok (.aload_n 1, 1) := by decide +kernel
theorem dX6_readTest_54 : decode cX6_readTest 54 = .ok (.iload_n 2, 1) := by decide +kernel
theorem dX6_readTest_55 : decode cX6_readTest 55 = .ok (.invokevirtual 244, 3) := by decide +kernel
theorem dX6_readTest_58 : decode cX6_readTest 58 = .ok (.aload_n 1, 1) := by decide +kernel
theorem dX6_readTest_59 : decode cX6_readTest 59 = .ok (.iload_n 3, 1) := by decide +kernel
theorem dX6_readTest_60 : decode cX6_readTest 60 = .ok (.invokevirtual 231, 3) := by decide +kernel
theorem dX6_readTest_63 : decode cX6_readTest 63 = .ok (.return_, 1) := by decide +kernel
set_option maxRecDepth 100000 in
set_option maxHeartbeats 4000000 in
theorem k_X6_readTest {G : am_G} (hK : k_OK G) {r : Nat} {d : Nat} (hd : 12 + 7 * r ≤ d) {sh : List (Nat ⊕ (Nat × Nat))} {I : Nat → Nat → Int32} {R : Nat → Nat → Option Nat} {L : Nat → Nat → Int64} {g : Nat} {e n u : Nat} {tp : Nat → Int32} {s : Int32 × Nat} {l : List Int32} (hr : k_rd sh R e tp n) (hu : k_Rule sh R u) (hue : e + 2 ≤ u ∨ u + 3 ≤ e) (hs : k_s I e tp n s) (ht : k_st I u l) {dd : Nat} (hdd : dd + 1 + r = 6) (x : Int32) (hx : x = nI dd) (ih : ∀ (_ : k_OK G) {d : Nat} (_ : 8 + 7 * r ≤ d) {I : Nat → Nat → Int32} {s : Int32 × Nat} {l : List Int32} (hs : k_s I e tp n s) (ht : k_st I u l) (x : Int32) (hx : x = nI (dd + 1)), AM G mX6_readEither d [.ref e, .ref u, .int x] (sh, I, R, L, g) (fun v w => v = none ∧ ∃ J, w = (sh, J, R, L, g) ∧ k_rq I J e u tp n (x_ex tp n r (s, l))) (fun _ _ => False)) : AM G mX6_readTest d [.ref e, .ref u, .int x] (sh, I, R, L, g) (fun v w => v = none ∧ ∃ J, w = (sh, J, R, L, g) ∧ k_rq I J e u tp n (x_test tp n (x_ex tp n r) (s, l))) (fun _ _ => False) := by
  have hG := hK.1
  have he := hr.1
  have hn6 := hr.2.1
  have hf := k_fr_0 I e u
  refine AM.of (n := 1) (by decide +kernel) (Nat.le_of_ble_eq_true rfl) ?_
  show AW G mX6_readTest d (fun v w => v = none ∧ ∃ J, w = (sh, J, R, L, g) ∧ k_rq I J e u tp n (x_test tp n (x_ex tp n r) (s, l))) (fun _ _ => False) 0 [some (.ref e), some (.ref u), some (.int x), none] [] (sh, I, R, L, g) 0 0
  refine AW.aload_n dX6_readTest_0 rfl ?_
  refine AW.aload_n dX6_readTest_1 rfl ?_
  refine AW.iload_n dX6_readTest_2 rfl ?_
  refine AW.callV (b := e) (As := [.ref u, .int x]) hG.2.2 (vX6_244 hG) (he.1 0 _ rfl) (k_X6_readSum hK (d := 11 + 7 * r) (Nat.le_refl _) hr hu hue (by assumption) (by assumption) hdd x (by assumption) ih) (by omega) dX6_readTest_3 rfl rfl (Nat.le_of_ble_eq_true rfl) (fun v w9 hq9 h09 => by obtain ⟨rfl, J9, rfl, -⟩ := hq9; exact ⟨h09, rfl⟩) (by decide) (by decide) (fun _ _ hx => hx) (fun v3 w3 hq3 => ?_)
  obtain ⟨rfl, I3, rfl, hg3, hs3, ht3⟩ := hq3
  have hf3 := k_fr_t (by assumption) hg3
  show AW G mX6_readTest d (fun v w => v = none ∧ ∃ J, w = (sh, J, R, L, g) ∧ k_rq I J e u tp n (x_test tp n (x_ex tp n r) (s, l))) (fun _ _ => False) 6 [some (.ref e), some (.ref u), some (.int x), none] [] (sh, I3, R, L, g) 0 0
  refine AW.aload_n dX6_readTest_6 rfl ?_
  refine AW.getI (fX6_39 hG).r rfl (he.1 0 _ rfl) dX6_readTest_7 ?_
  refine AW.if_ne 63 dX6_readTest_10 (by decide) (fun h10 => ?_) (fun h10 => ?_)
  · exact AW.vret dX6_readTest_63 rfl (by decide) (by decide) (⟨rfl, I3, rfl, by show k_rq I I3 e u tp n (if (x_sum tp n (x_ex tp n r) (s, l)).1.1 = 0 ∧ ¬ x_oT tp n (x_sum tp n (x_ex tp n r) (s, l)).1.2 = 0 then _ else _); rw [if_neg (fun h => h10 (hs3.1.trans h.1))]; exact ⟨hf3, hs3, ht3⟩⟩)
  · refine AW.aload_n dX6_readTest_13 rfl ?_
    refine AW.bipush 60 dX6_readTest_14 (by decide) ?_
    refine AW.callV (b := e) (As := [.int 60]) hG.2.2 (vX6_216 hG) (he.1 0 _ rfl) (k_X6_isSign hK (d := 0) (Nat.le_refl _) hr (by assumption) 60) (by omega) dX6_readTest_16 rfl rfl (Nat.le_of_ble_eq_true rfl) (fun v w9 hq9 h09 => by obtain ⟨rfl, rfl⟩ := hq9; exact ⟨h09, rfl⟩) (by decide) (by decide) (fun _ _ hx => hx) (fun v16 w16 hq16 => ?_)
    obtain ⟨rfl, rfl⟩ := hq16
    refine AW.nam (fun x16 ex16 => ?_)
    refine AW.if_ne 31 dX6_readTest_19 (by decide) (fun h19 => ?_) (fun h19 => ?_)
    · rw [ex16] at h19
      have q19 := kb_1.mp h19
      refine AW.aload_n dX6_readTest_31 rfl ?_
      refine AW.bipush 60 dX6_readTest_32 (by decide) ?_
      refine AW.callV (b := e) (As := [.int 60]) hG.2.2 (vX6_216 hG) (he.1 0 _ rfl) (k_X6_isSign hK (d := 0) (Nat.le_refl _) hr (by assumption) 60) (by omega) dX6_readTest_34 rfl rfl (Nat.le_of_ble_eq_true rfl) (fun v w9 hq9 h09 => by obtain ⟨rfl, rfl⟩ := hq9; exact ⟨h09, rfl⟩) (by decide) (by decide) (fun _ _ hx => hx) (fun v34 w34 hq34 => ?_)
      obtain ⟨rfl, rfl⟩ := hq34
      refine AW.nam (fun x34 ex34 => ?_)
      refine AW.if_eq 45 dX6_readTest_37 (by decide) (fun h37 => ?_) (fun h37 => ?_)
      · rw [ex34] at h37
        have q37 := kb_0.mp h37
        exact absurd (q19.symm.trans q37) (by decide)
      · rw [ex34] at h37
        have q37 := kb_1.mp h37
        refine AW.bipush (-4) dX6_readTest_40 (by decide) ?_
        refine AW.goto 47 dX6_readTest_42 (by decide) ?_
        refine AW.is_n [some (.ref e), some (.ref u), some (.int x), some (.int (-4))] dX6_readTest_47 (by decide) rfl rfl ?_
        refine AW.aload_n dX6_readTest_48 rfl ?_
        refine AW.callV (b := e) (As := []) hG.2.2 (vX6_52 hG) (he.1 0 _ rfl) (k_X6_advS hK (d := 5) (Nat.le_refl _) hr (by assumption)) (by omega) dX6_readTest_49 rfl rfl (Nat.le_of_ble_eq_true rfl) (fun v w9 hq9 h09 => by obtain ⟨rfl, J9, rfl, -⟩ := hq9; exact ⟨h09, rfl⟩) (by decide) (by decide) (fun _ _ hx => hx) (fun v49 w49 hq49 => ?_)
        obtain ⟨rfl, I49, rfl, hr49⟩ := hq49
        have hs49 := k_rp_i hr49
        have ht49 := k_st_r hue (by assumption) hr49
        have hf49 := k_fr_t (by assumption) (k_fr_r (u := u) hr49)
        show AW G mX6_readTest d (fun v w => v = none ∧ ∃ J, w = (sh, J, R, L, g) ∧ k_rq I J e u tp n (x_test tp n (x_ex tp n r) (s, l))) (fun _ _ => False) 52 [some (.ref e), some (.ref u), some (.int x), some (.int (-4))] [] (sh, I49, R, L, g) 0 0
        refine AW.aload_n dX6_readTest_52 rfl ?_
        refine AW.aload_n dX6_readTest_53 rfl ?_
        refine AW.iload_n dX6_readTest_54 rfl ?_
        refine AW.callV (b := e) (As := [.ref u, .int x]) hG.2.2 (vX6_244 hG) (he.1 0 _ rfl) (k_X6_readSum hK (d := 11 + 7 * r) (Nat.le_refl _) hr hu hue (by assumption) (by assumption) hdd x (by assumption) ih) (by omega) dX6_readTest_55 rfl rfl (Nat.le_of_ble_eq_true rfl) (fun v w9 hq9 h09 => by obtain ⟨rfl, J9, rfl, -⟩ := hq9; exact ⟨h09, rfl⟩) (by decide) (by decide) (fun _ _ hx => hx) (fun v55 w55 hq55 => ?_)
        obtain ⟨rfl, I55, rfl, hg55, hs55, ht55⟩ := hq55
        have hf55 := k_fr_t (by assumption) hg55
        show AW G mX6_readTest d (fun v w => v = none ∧ ∃ J, w = (sh, J, R, L, g) ∧ k_rq I J e u tp n (x_test tp n (x_ex tp n r) (s, l))) (fun _ _ => False) 58 [some (.ref e), some (.ref u), some (.int x), some (.int (-4))] [] (sh, I55, R, L, g) 0 0
        refine AW.aload_n dX6_readTest_58 rfl ?_
        refine AW.iload_n dX6_readTest_59 rfl ?_
        refine AW.callV (b := u) (As := [.int (-4)]) hG.2.2 (vX6_231 hG) (hu.1 0 _ rfl) (k_X7_addL hK (d := 0) (Nat.le_refl _) hu (by assumption) (-4)) (by omega) dX6_readTest_60 rfl rfl (Nat.le_of_ble_eq_true rfl) (fun v w9 hq9 h09 => by obtain ⟨rfl, rfl⟩ := hq9; exact ⟨h09, rfl⟩) (by decide) (by decide) (fun _ _ hx => hx) (fun v60 w60 hq60 => ?_)
        obtain ⟨rfl, rfl⟩ := hq60
        refine AW.namI (fun I60 eI60 => ?_)
        show AW G mX6_readTest d (fun v w => v = none ∧ ∃ J, w = (sh, J, R, L, g) ∧ k_rq I J e u tp n (x_test tp n (x_ex tp n r) (s, l))) (fun _ _ => False) 63 [some (.ref e), some (.ref u), some (.int x), some (.int (-4))] [] (sh, I60, R, L, g) 0 0
        have ho60 := k_add_e eI60
        have hs60 := k_s_u hue (by assumption) ho60
        have hf60 := k_fr_t (by assumption) (k_fr_u hue ho60)
        have ht60 := k_st_e eI60 (by assumption)
        exact AW.vret dX6_readTest_63 rfl (by decide) (by decide) (by
          have ov : x_oT tp n (x_sum tp n (x_ex tp n r) (s, l)).1.2 = -4 := if_pos q19
          refine ⟨rfl, I60, rfl, ?_⟩
          show k_rq I I60 e u tp n (if (x_sum tp n (x_ex tp n r) (s, l)).1.1 = 0 ∧ ¬ x_oT tp n (x_sum tp n (x_ex tp n r) (s, l)).1.2 = 0 then _ else _)
          rw [if_pos ⟨hs3.1.symm.trans h10, by rw [ov]; decide⟩, ov]
          exact ⟨hf60, hs60, ht60⟩)
    · rw [ex16] at h19
      have q19 := kb_0.mp h19
      refine AW.aload_n dX6_readTest_22 rfl ?_
      refine AW.bipush 61 dX6_readTest_23 (by decide) ?_
      refine AW.callV (b := e) (As := [.int 61]) hG.2.2 (vX6_216 hG) (he.1 0 _ rfl) (k_X6_isSign hK (d := 0) (Nat.le_refl _) hr (by assumption) 61) (by omega) dX6_readTest_25 rfl rfl (Nat.le_of_ble_eq_true rfl) (fun v w9 hq9 h09 => by obtain ⟨rfl, rfl⟩ := hq9; exact ⟨h09, rfl⟩) (by decide) (by decide) (fun _ _ hx => hx) (fun v25 w25 hq25 => ?_)
      obtain ⟨rfl, rfl⟩ := hq25
      refine AW.nam (fun x25 ex25 => ?_)
      refine AW.if_eq 63 dX6_readTest_28 (by decide) (fun h28 => ?_) (fun h28 => ?_)
      · rw [ex25] at h28
        have q28 := kb_0.mp h28
        exact AW.vret dX6_readTest_63 rfl (by decide) (by decide) (⟨rfl, I3, rfl, by show k_rq I I3 e u tp n (if (x_sum tp n (x_ex tp n r) (s, l)).1.1 = 0 ∧ ¬ x_oT tp n (x_sum tp n (x_ex tp n r) (s, l)).1.2 = 0 then _ else _); rw [if_neg (fun h => h.2 (show x_oT tp n _ = 0 by unfold x_oT; rw [if_neg (by rw [q19]; decide), if_neg (by rw [q28]; decide)]))]; exact ⟨hf3, hs3, ht3⟩⟩)
      · rw [ex25] at h28
        have q28 := kb_1.mp h28
        refine AW.aload_n dX6_readTest_31 rfl ?_
        refine AW.bipush 60 dX6_readTest_32 (by decide) ?_
        refine AW.callV (b := e) (As := [.int 60]) hG.2.2 (vX6_216 hG) (he.1 0 _ rfl) (k_X6_isSign hK (d := 0) (Nat.le_refl _) hr (by assumption) 60) (by omega) dX6_readTest_34 rfl rfl (Nat.le_of_ble_eq_true rfl) (fun v w9 hq9 h09 => by obtain ⟨rfl, rfl⟩ := hq9; exact ⟨h09, rfl⟩) (by decide) (by decide) (fun _ _ hx => hx) (fun v34 w34 hq34 => ?_)
        obtain ⟨rfl, rfl⟩ := hq34
        refine AW.nam (fun x34 ex34 => ?_)
        refine AW.if_eq 45 dX6_readTest_37 (by decide) (fun h37 => ?_) (fun h37 => ?_)
        · rw [ex34] at h37
          have q37 := kb_0.mp h37
          refine AW.bipush (-5) dX6_readTest_45 (by decide) ?_
          refine AW.is_n [some (.ref e), some (.ref u), some (.int x), some (.int (-5))] dX6_readTest_47 (by decide) rfl rfl ?_
          refine AW.aload_n dX6_readTest_48 rfl ?_
          refine AW.callV (b := e) (As := []) hG.2.2 (vX6_52 hG) (he.1 0 _ rfl) (k_X6_advS hK (d := 5) (Nat.le_refl _) hr (by assumption)) (by omega) dX6_readTest_49 rfl rfl (Nat.le_of_ble_eq_true rfl) (fun v w9 hq9 h09 => by obtain ⟨rfl, J9, rfl, -⟩ := hq9; exact ⟨h09, rfl⟩) (by decide) (by decide) (fun _ _ hx => hx) (fun v49 w49 hq49 => ?_)
          obtain ⟨rfl, I49, rfl, hr49⟩ := hq49
          have hs49 := k_rp_i hr49
          have ht49 := k_st_r hue (by assumption) hr49
          have hf49 := k_fr_t (by assumption) (k_fr_r (u := u) hr49)
          show AW G mX6_readTest d (fun v w => v = none ∧ ∃ J, w = (sh, J, R, L, g) ∧ k_rq I J e u tp n (x_test tp n (x_ex tp n r) (s, l))) (fun _ _ => False) 52 [some (.ref e), some (.ref u), some (.int x), some (.int (-5))] [] (sh, I49, R, L, g) 0 0
          refine AW.aload_n dX6_readTest_52 rfl ?_
          refine AW.aload_n dX6_readTest_53 rfl ?_
          refine AW.iload_n dX6_readTest_54 rfl ?_
          refine AW.callV (b := e) (As := [.ref u, .int x]) hG.2.2 (vX6_244 hG) (he.1 0 _ rfl) (k_X6_readSum hK (d := 11 + 7 * r) (Nat.le_refl _) hr hu hue (by assumption) (by assumption) hdd x (by assumption) ih) (by omega) dX6_readTest_55 rfl rfl (Nat.le_of_ble_eq_true rfl) (fun v w9 hq9 h09 => by obtain ⟨rfl, J9, rfl, -⟩ := hq9; exact ⟨h09, rfl⟩) (by decide) (by decide) (fun _ _ hx => hx) (fun v55 w55 hq55 => ?_)
          obtain ⟨rfl, I55, rfl, hg55, hs55, ht55⟩ := hq55
          have hf55 := k_fr_t (by assumption) hg55
          show AW G mX6_readTest d (fun v w => v = none ∧ ∃ J, w = (sh, J, R, L, g) ∧ k_rq I J e u tp n (x_test tp n (x_ex tp n r) (s, l))) (fun _ _ => False) 58 [some (.ref e), some (.ref u), some (.int x), some (.int (-5))] [] (sh, I55, R, L, g) 0 0
          refine AW.aload_n dX6_readTest_58 rfl ?_
          refine AW.iload_n dX6_readTest_59 rfl ?_
          refine AW.callV (b := u) (As := [.int (-5)]) hG.2.2 (vX6_231 hG) (hu.1 0 _ rfl) (k_X7_addL hK (d := 0) (Nat.le_refl _) hu (by assumption) (-5)) (by omega) dX6_readTest_60 rfl rfl (Nat.le_of_ble_eq_true rfl) (fun v w9 hq9 h09 => by obtain ⟨rfl, rfl⟩ := hq9; exact ⟨h09, rfl⟩) (by decide) (by decide) (fun _ _ hx => hx) (fun v60 w60 hq60 => ?_)
          obtain ⟨rfl, rfl⟩ := hq60
          refine AW.namI (fun I60 eI60 => ?_)
          show AW G mX6_readTest d (fun v w => v = none ∧ ∃ J, w = (sh, J, R, L, g) ∧ k_rq I J e u tp n (x_test tp n (x_ex tp n r) (s, l))) (fun _ _ => False) 63 [some (.ref e), some (.ref u), some (.int x), some (.int (-5))] [] (sh, I60, R, L, g) 0 0
          have ho60 := k_add_e eI60
          have hs60 := k_s_u hue (by assumption) ho60
          have hf60 := k_fr_t (by assumption) (k_fr_u hue ho60)
          have ht60 := k_st_e eI60 (by assumption)
          exact AW.vret dX6_readTest_63 rfl (by decide) (by decide) (by
            have ov : x_oT tp n (x_sum tp n (x_ex tp n r) (s, l)).1.2 = -5 := by unfold x_oT; rw [if_neg (by rw [q19]; decide), if_pos q28]
            refine ⟨rfl, I60, rfl, ?_⟩
            show k_rq I I60 e u tp n (if (x_sum tp n (x_ex tp n r) (s, l)).1.1 = 0 ∧ ¬ x_oT tp n (x_sum tp n (x_ex tp n r) (s, l)).1.2 = 0 then _ else _)
            rw [if_pos ⟨hs3.1.symm.trans h10, by rw [ov]; decide⟩, ov]
            exact ⟨hf60, hs60, ht60⟩)
        · rw [ex34] at h37
          have q37 := kb_1.mp h37
          exact absurd (q19.symm.trans q37) (by decide)
theorem dX6_readNegated_0 : decode cX6_readNegated 0 = .ok (.iconst 0, 1) := by decide +kernel
theorem dX6_readNegated_1 : decode cX6_readNegated 1 = .ok (.istore_n 3, 1) := by decide +kernel
theorem dX6_readNegated_2 : decode cX6_readNegated 2 = .ok (.iconst 0, 1) := by decide +kernel
theorem dX6_readNegated_3 : decode cX6_readNegated 3 = .ok (.istore 4, 2) := by decide +kernel
theorem dX6_readNegated_5 : decode cX6_readNegated 5 = .ok (.iload 4, 2) := by decide +kernel
theorem dX6_readNegated_7 : decode cX6_readNegated 7 = .ok (.bipush 6, 2) := by decide +kernel
theorem dX6_readNegated_9 : decode cX6_readNegated 9 = .ok (.if_icmp .ge 25, 3) := by decide +kernel
theorem dX6_readNegated_12 : decode cX6_readNegated 12 = .ok (.aload_n 0, 1) := by decide +kernel
theorem dX6_readNegated_13 : decode cX6_readNegated 13 = .ok (.ldc 239, 2) := by decide +kernel
theorem dX6_readNegated_15 : decode cX6_readNegated 15 = .ok (.invokevirtual 126, 3) := by decide +kernel
theorem dX6_readNegated_18 : decode cX6_readNegated 18 = .ok (.ifCond .eq 16, 3) := by decide +kernel
theorem dX6_readNegated_21 : decode cX6_readNegated 21 = .ok (.aload_n 0, 1) := by decide +kernel
theorem dX6_readNegated_22 : decode cX6_readNegated 22 = .ok (.invokevirtual 52, 3) := by decide +kernel
theorem dX6_readNegated_25 : decode cX6_readNegated 25 = .ok (.iinc 3 1, 3) := by decide +kernel
theorem dX6_readNegated_28 : decode cX6_readNegated 28 = .ok (.iinc 4 1, 3) := by decide +kernel
theorem dX6_readNegated_31 : decode cX6_readNegated 31 = .ok (.goto (-26), 3) := by decide +kernel
theorem dX6_readNegated_34 : decode cX6_readNegated 34 = .ok (.aload_n 0, 1) := by decide +kernel
theorem dX6_readNegated_35 : decode cX6_readNegated 35 = .ok (.ldc 239, 2) := by decide +kernel
theorem dX6_readNegated_37 : decode cX6_readNegated 37 = .ok (.invokevirtual 126, 3) := by decide +kernel
theorem dX6_readNegated_40 : decode cX6_readNegated 40 = .ok (.ifCond .eq 9, 3) := by decide +kernel
theorem dX6_readNegated_43 : decode cX6_readNegated 43 = .ok (.aload_n 0, 1) := by decide +kernel
theorem dX6_readNegated_44 : decode cX6_readNegated 44 = .ok (.iconst 2, 1) := by decide +kernel
theorem dX6_readNegated_45 : decode cX6_readNegated 45 = .ok (.invokevirtual 97, 3) := by decide +kernel
theorem dX6_readNegated_48 : decode cX6_readNegated 48 = .ok (.return_, 1) := by decide +kernel
theorem dX6_readNegated_49 : decode cX6_readNegated 49 = .ok (.aload_n 0, 1) := by decide +kernel
theorem dX6_readNegated_50 : decode cX6_readNegated 50 = .ok (.aload_n 1, 1) := by decide +kernel
theorem dX6_readNegated_51 : decode cX6_readNegated 51 = .ok (.iload_n 2, 1) := by decide +kernel
theorem dX6_readNegated_52 : decode cX6_readNegated 52 = .ok (.invokevirtual 241, 3) := by decide +kernel
theorem dX6_readNegated_55 : decode cX6_readNegated 55 = .ok (.iconst 0, 1) := by decide +kernel
theorem dX6_readNegated_56 : decode cX6_readNegated 56 = .ok (.istore 4, 2) := by decide +kernel
theorem dX6_readNegated_58 : decode cX6_readNegated 58 = .ok (.iload 4, 2) := by decide +kernel
theorem dX6_readNegated_60 : decode cX6_readNegated 60 = .ok (.iload_n 3, 1) := by decide +kernel
theorem dX6_readNegated_61 : decode cX6_readNegated 61 = .ok (.if_icmp .ge 15, 3) := by decide +kernel
theorem dX6_readNegated_64 : decode cX6_readNegated 64 = .ok (.aload_n 1, 1) := by decide +kernel
theorem dX6_readNegated_65 : decode cX6_readNegated 65 = .ok (.bipush (-3), 2) := by decide +kernel
theorem dX6_readNegated_67 : decode cX6_readNegated 67 = .ok (.invokevirtual 231, 3) := by decide +kernel
theorem dX6_readNegated_70 : decode cX6_readNegated 70 = .ok (.iinc 4 1, 3) := by decide +kernel
theorem dX6_readNegated_73 : decode cX6_readNegated 73 = .ok (.goto (-15), 3) := by decide +kernel
theorem dX6_readNegated_76 : decode cX6_readNegated 76 = .ok (.return_, 1) := by decide +kernel
set_option maxRecDepth 100000 in
set_option maxHeartbeats 4000000 in
theorem k_X6_readNegated {G : am_G} (hK : k_OK G) {r : Nat} {d : Nat} (hd : 13 + 7 * r ≤ d) {sh : List (Nat ⊕ (Nat × Nat))} {I : Nat → Nat → Int32} {R : Nat → Nat → Option Nat} {L : Nat → Nat → Int64} {g : Nat} {e n u : Nat} {tp : Nat → Int32} {s : Int32 × Nat} {l : List Int32} (hr : k_rd sh R e tp n) (hu : k_Rule sh R u) (hue : e + 2 ≤ u ∨ u + 3 ≤ e) (hs : k_s I e tp n s) (ht : k_st I u l) {dd : Nat} (hdd : dd + 1 + r = 6) (x : Int32) (hx : x = nI dd) (ih : ∀ (_ : k_OK G) {d : Nat} (_ : 8 + 7 * r ≤ d) {I : Nat → Nat → Int32} {s : Int32 × Nat} {l : List Int32} (hs : k_s I e tp n s) (ht : k_st I u l) (x : Int32) (hx : x = nI (dd + 1)), AM G mX6_readEither d [.ref e, .ref u, .int x] (sh, I, R, L, g) (fun v w => v = none ∧ ∃ J, w = (sh, J, R, L, g) ∧ k_rq I J e u tp n (x_ex tp n r (s, l))) (fun _ _ => False)) : AM G mX6_readNegated d [.ref e, .ref u, .int x] (sh, I, R, L, g) (fun v w => v = none ∧ ∃ J, w = (sh, J, R, L, g) ∧ k_rq I J e u tp n (x_neg tp n (x_ex tp n r) (s, l))) (fun _ _ => False) := by
  have hG := hK.1
  have he := hr.1
  have hn6 := hr.2.1
  have hf := k_fr_0 I e u
  refine AM.of (n := 2) (by decide +kernel) (Nat.le_of_ble_eq_true rfl) ?_
  show AW G mX6_readNegated d (fun v w => v = none ∧ ∃ J, w = (sh, J, R, L, g) ∧ k_rq I J e u tp n (x_neg tp n (x_ex tp n r) (s, l))) (fun _ _ => False) 0 [some (.ref e), some (.ref u), some (.int x), none, none] [] (sh, I, R, L, g) 0 0
  refine AW.iconst 0 dX6_readNegated_0 (by decide) ?_
  refine AW.is_n [some (.ref e), some (.ref u), some (.int x), some (.int 0), none] dX6_readNegated_1 (by decide) rfl rfl ?_
  refine AW.iconst 0 dX6_readNegated_2 (by decide) ?_
  refine AW.is [some (.ref e), some (.ref u), some (.int x), some (.int 0), some (.int 0)] dX6_readNegated_3 (by decide) rfl rfl ?_
  have L5 : ∀ k5, k5 ≤ 6 → ∀ (y z : Int32) (J : Nat → Nat → Int32), (y = nI k5 ∧ z = nI k5 ∧ k_fr I J e u ∧ ∃ s9, k_s J e tp n s9 ∧ k_st J u l ∧ ((x_nots tp n (6 - k5) s9).1 + k5, (x_nots tp n (6 - k5) s9).2) = x_nots tp n 6 s) → AW G mX6_readNegated d (fun v w => v = none ∧ ∃ J, w = (sh, J, R, L, g) ∧ k_rq I J e u tp n (x_neg tp n (x_ex tp n r) (s, l))) (fun _ _ => False) 5 [some (.ref e), some (.ref u), some (.int x), some (.int y), some (.int z)] [] (sh, J, R, L, g) 0 0 := by
    refine am_rec 6 (fun k5 hk5 ih5 => ?_)
    intro y z J hi5
    obtain ⟨hy, hz, hfJ, s9, hs9, ht9, hV⟩ := hi5
    refine AW.iload dX6_readNegated_5 rfl ?_
    refine AW.bipush 6 dX6_readNegated_7 (by decide) ?_
    refine AW.icmp_ge 34 dX6_readNegated_9 (by decide) (fun h9 => ?_) (fun h9 => ?_)
    · have hke := k_ge (n := 6) h9 hz rfl hk5 (by decide)
      have hE : x_nots tp n 6 s = (k5, s9) := by
        rw [← hV, hke]
        show (0 + 6, s9) = (6, s9)
        rfl
      refine AW.aload_n dX6_readNegated_34 rfl ?_
      refine AW.ldcS (j := 11) hK q_11 k_s_11 rfl rfl dX6_readNegated_35 ?_
      refine AW.callV (b := e) (As := [.ref (1000000 + 11)]) hG.2.2 (vX6_126 hG) (he.1 0 _ rfl) (k_X6_isWord hK (d := 4) (Nat.le_refl _) (k_txi hK k_s_11) hr (by assumption)) (by omega) dX6_readNegated_37 rfl rfl (Nat.le_of_ble_eq_true rfl) (fun v w9 hq9 h09 => by obtain ⟨rfl, rfl⟩ := hq9; exact ⟨h09, rfl⟩) (by decide) (by decide) (fun _ _ hx => hx) (fun v37 w37 hq37 => ?_)
      obtain ⟨rfl, rfl⟩ := hq37
      refine AW.nam (fun x37 ex37 => ?_)
      refine AW.if_eq 49 dX6_readNegated_40 (by decide) (fun h40 => ?_) (fun h40 => ?_)
      · rw [ex37] at h40
        have q40 := kb_0.mp h40
        refine AW.aload_n dX6_readNegated_49 rfl ?_
        refine AW.aload_n dX6_readNegated_50 rfl ?_
        refine AW.iload_n dX6_readNegated_51 rfl ?_
        refine AW.callV (b := e) (As := [.ref u, .int x]) hG.2.2 (vX6_241 hG) (he.1 0 _ rfl) (k_X6_readTest hK (d := 12 + 7 * r) (Nat.le_refl _) hr hu hue (by assumption) (by assumption) hdd x (by assumption) ih) (by omega) dX6_readNegated_52 rfl rfl (Nat.le_of_ble_eq_true rfl) (fun v w9 hq9 h09 => by obtain ⟨rfl, J9, rfl, -⟩ := hq9; exact ⟨h09, rfl⟩) (by decide) (by decide) (fun _ _ hx => hx) (fun v52 w52 hq52 => ?_)
        obtain ⟨rfl, I52, rfl, hg52, hs52, ht52⟩ := hq52
        have hf52 := k_fr_t (by assumption) hg52
        show AW G mX6_readNegated d (fun v w => v = none ∧ ∃ J, w = (sh, J, R, L, g) ∧ k_rq I J e u tp n (x_neg tp n (x_ex tp n r) (s, l))) (fun _ _ => False) 55 [some (.ref e), some (.ref u), some (.int x), some (.int y), some (.int z)] [] (sh, I52, R, L, g) 0 0
        refine AW.iconst 0 dX6_readNegated_55 (by decide) ?_
        refine AW.is [some (.ref e), some (.ref u), some (.int x), some (.int y), some (.int 0)] dX6_readNegated_56 (by decide) rfl rfl ?_
        have L58 : ∀ k58, k58 ≤ k5 → ∀ (z2 : Int32) (J2 : Nat → Nat → Int32), (z2 = nI k58 ∧ k_fr I J2 e u ∧ k_s J2 e tp n (x_test tp n (x_ex tp n r) (s9, l)).1 ∧ k_st J2 u (x_adn (x_test tp n (x_ex tp n r) (s9, l)).2 k58)) → AW G mX6_readNegated d (fun v w => v = none ∧ ∃ J, w = (sh, J, R, L, g) ∧ k_rq I J e u tp n (x_neg tp n (x_ex tp n r) (s, l))) (fun _ _ => False) 58 [some (.ref e), some (.ref u), some (.int x), some (.int y), some (.int z2)] [] (sh, J2, R, L, g) 0 0 := by
          refine am_rec k5 (fun k58 hk58 ih58 => ?_)
          intro z2 J2 hi58
          obtain ⟨hz2, hf2, hsJ, htJ⟩ := hi58
          refine AW.iload dX6_readNegated_58 rfl ?_
          refine AW.iload_n dX6_readNegated_60 rfl ?_
          refine AW.icmp_ge 76 dX6_readNegated_61 (by decide) (fun h61 => ?_) (fun h61 => ?_)
          · have hke2 := k_ge h61 hz2 hy hk58 (by omega)
            exact AW.vret dX6_readNegated_76 rfl (by decide) (by decide) (⟨rfl, J2, rfl, by unfold x_neg; rw [if_neg (show ¬ x_wd tp n (x_nots tp n 6 s).2.2 _ = true by rw [hE]; rw [q40]; decide), show (x_nots tp n 6 s).2 = s9 by rw [hE], show (x_nots tp n 6 s).1 = k5 by rw [hE]]; rw [hke2] at htJ; exact ⟨hf2, hsJ, htJ⟩⟩)
          · have hlt2 := k_lt h61 hz2 hy hk58 (by omega)
            refine AW.aload_n dX6_readNegated_64 rfl ?_
            refine AW.bipush (-3) dX6_readNegated_65 (by decide) ?_
            refine AW.callV (b := u) (As := [.int (-3)]) hG.2.2 (vX6_231 hG) (hu.1 0 _ rfl) (k_X7_addL hK (d := 0) (Nat.le_refl _) hu (by assumption) (-3)) (by omega) dX6_readNegated_67 rfl rfl (Nat.le_of_ble_eq_true rfl) (fun v w9 hq9 h09 => by obtain ⟨rfl, rfl⟩ := hq9; exact ⟨h09, rfl⟩) (by decide) (by decide) (fun _ _ hx => hx) (fun v67 w67 hq67 => ?_)
            obtain ⟨rfl, rfl⟩ := hq67
            refine AW.namI (fun I67 eI67 => ?_)
            show AW G mX6_readNegated d (fun v w => v = none ∧ ∃ J, w = (sh, J, R, L, g) ∧ k_rq I J e u tp n (x_neg tp n (x_ex tp n r) (s, l))) (fun _ _ => False) 70 [some (.ref e), some (.ref u), some (.int x), some (.int y), some (.int z2)] [] (sh, I67, R, L, g) 0 0
            have ho67 := k_add_e eI67
            have hs67 := k_s_u hue (by assumption) ho67
            have hf67 := k_fr_t (by assumption) (k_fr_u hue ho67)
            have ht67 := k_st_e eI67 (by assumption)
            refine AW.inc (fun x70 => [some (.ref e), some (.ref u), some (.int x), some (.int y), some (.int x70)]) dX6_readNegated_70 rfl (by decide) rfl (fun _ => rfl) (fun x70 ex70 => ?_)
            refine AW.goto 58 dX6_readNegated_73 (by decide) ?_
            exact ih58 (k58 + 1) (by omega) (by omega) _ _ (⟨k_inc (by assumption) hz2, hf67, hs67, ht67⟩)
        exact L58 0 (by omega) _ _ (⟨nI_0.symm, hf52, hs52, ht52⟩)
      · rw [ex37] at h40
        have q40 := kb_1.mp h40
        refine AW.aload_n dX6_readNegated_43 rfl ?_
        refine AW.iconst 2 dX6_readNegated_44 (by decide) ?_
        refine AW.callV (b := e) (As := [.int 2]) hG.2.2 (vX6_97 hG) (he.1 0 _ rfl) (k_X6_fail hK (d := 0) (Nat.le_refl _) he (by assumption) 2) (by omega) dX6_readNegated_45 rfl rfl (Nat.le_of_ble_eq_true rfl) (fun v w9 hq9 h09 => by obtain ⟨rfl, J9, rfl, -⟩ := hq9; exact ⟨h09, rfl⟩) (by decide) (by decide) (fun _ _ hx => hx) (fun v45 w45 hq45 => ?_)
        obtain ⟨rfl, I45, rfl, hr45⟩ := hq45
        have hs45 := k_rp_i hr45
        have ht45 := k_st_r hue (by assumption) hr45
        have hf45 := k_fr_t (by assumption) (k_fr_r (u := u) hr45)
        show AW G mX6_readNegated d (fun v w => v = none ∧ ∃ J, w = (sh, J, R, L, g) ∧ k_rq I J e u tp n (x_neg tp n (x_ex tp n r) (s, l))) (fun _ _ => False) 48 [some (.ref e), some (.ref u), some (.int x), some (.int y), some (.int z)] [] (sh, I45, R, L, g) 0 0
        exact AW.vret dX6_readNegated_48 rfl (by decide) (by decide) (⟨rfl, I45, rfl, by unfold x_neg; rw [if_pos (show x_wd tp n (x_nots tp n 6 s).2.2 _ = true by rw [hE]; exact q40), show (x_nots tp n 6 s).2 = s9 by rw [hE]]; exact ⟨hf45, hs45, ht45⟩⟩)
    · have hlt := k_lt (n := 6) h9 hz rfl hk5 (by decide)
      refine AW.aload_n dX6_readNegated_12 rfl ?_
      refine AW.ldcS (j := 11) hK q_11 k_s_11 rfl rfl dX6_readNegated_13 ?_
      refine AW.callV (b := e) (As := [.ref (1000000 + 11)]) hG.2.2 (vX6_126 hG) (he.1 0 _ rfl) (k_X6_isWord hK (d := 4) (Nat.le_refl _) (k_txi hK k_s_11) hr (by assumption)) (by omega) dX6_readNegated_15 rfl rfl (Nat.le_of_ble_eq_true rfl) (fun v w9 hq9 h09 => by obtain ⟨rfl, rfl⟩ := hq9; exact ⟨h09, rfl⟩) (by decide) (by decide) (fun _ _ hx => hx) (fun v15 w15 hq15 => ?_)
      obtain ⟨rfl, rfl⟩ := hq15
      refine AW.nam (fun x15 ex15 => ?_)
      refine AW.if_eq 34 dX6_readNegated_18 (by decide) (fun h18 => ?_) (fun h18 => ?_)
      · rw [ex15] at h18
        have q18 := kb_0.mp h18
        have hE : x_nots tp n 6 s = (k5, s9) := by
          rw [← hV, show 6 - k5 = (6 - (k5 + 1)) + 1 by omega]
          show ((if _ then _ else _ : Nat × (Int32 × Nat)).1 + k5, (if _ then _ else _ : Nat × (Int32 × Nat)).2) = _
          rw [if_neg (by rw [q18]; decide)]
          exact Prod.ext (Nat.zero_add _) rfl
        refine AW.aload_n dX6_readNegated_34 rfl ?_
        refine AW.ldcS (j := 11) hK q_11 k_s_11 rfl rfl dX6_readNegated_35 ?_
        refine AW.callV (b := e) (As := [.ref (1000000 + 11)]) hG.2.2 (vX6_126 hG) (he.1 0 _ rfl) (k_X6_isWord hK (d := 4) (Nat.le_refl _) (k_txi hK k_s_11) hr (by assumption)) (by omega) dX6_readNegated_37 rfl rfl (Nat.le_of_ble_eq_true rfl) (fun v w9 hq9 h09 => by obtain ⟨rfl, rfl⟩ := hq9; exact ⟨h09, rfl⟩) (by decide) (by decide) (fun _ _ hx => hx) (fun v37 w37 hq37 => ?_)
        obtain ⟨rfl, rfl⟩ := hq37
        refine AW.nam (fun x37 ex37 => ?_)
        refine AW.if_eq 49 dX6_readNegated_40 (by decide) (fun h40 => ?_) (fun h40 => ?_)
        · rw [ex37] at h40
          have q40 := kb_0.mp h40
          refine AW.aload_n dX6_readNegated_49 rfl ?_
          refine AW.aload_n dX6_readNegated_50 rfl ?_
          refine AW.iload_n dX6_readNegated_51 rfl ?_
          refine AW.callV (b := e) (As := [.ref u, .int x]) hG.2.2 (vX6_241 hG) (he.1 0 _ rfl) (k_X6_readTest hK (d := 12 + 7 * r) (Nat.le_refl _) hr hu hue (by assumption) (by assumption) hdd x (by assumption) ih) (by omega) dX6_readNegated_52 rfl rfl (Nat.le_of_ble_eq_true rfl) (fun v w9 hq9 h09 => by obtain ⟨rfl, J9, rfl, -⟩ := hq9; exact ⟨h09, rfl⟩) (by decide) (by decide) (fun _ _ hx => hx) (fun v52 w52 hq52 => ?_)
          obtain ⟨rfl, I52, rfl, hg52, hs52, ht52⟩ := hq52
          have hf52 := k_fr_t (by assumption) hg52
          show AW G mX6_readNegated d (fun v w => v = none ∧ ∃ J, w = (sh, J, R, L, g) ∧ k_rq I J e u tp n (x_neg tp n (x_ex tp n r) (s, l))) (fun _ _ => False) 55 [some (.ref e), some (.ref u), some (.int x), some (.int y), some (.int z)] [] (sh, I52, R, L, g) 0 0
          refine AW.iconst 0 dX6_readNegated_55 (by decide) ?_
          refine AW.is [some (.ref e), some (.ref u), some (.int x), some (.int y), some (.int 0)] dX6_readNegated_56 (by decide) rfl rfl ?_
          have L58 : ∀ k58, k58 ≤ k5 → ∀ (z2 : Int32) (J2 : Nat → Nat → Int32), (z2 = nI k58 ∧ k_fr I J2 e u ∧ k_s J2 e tp n (x_test tp n (x_ex tp n r) (s9, l)).1 ∧ k_st J2 u (x_adn (x_test tp n (x_ex tp n r) (s9, l)).2 k58)) → AW G mX6_readNegated d (fun v w => v = none ∧ ∃ J, w = (sh, J, R, L, g) ∧ k_rq I J e u tp n (x_neg tp n (x_ex tp n r) (s, l))) (fun _ _ => False) 58 [some (.ref e), some (.ref u), some (.int x), some (.int y), some (.int z2)] [] (sh, J2, R, L, g) 0 0 := by
            refine am_rec k5 (fun k58 hk58 ih58 => ?_)
            intro z2 J2 hi58
            obtain ⟨hz2, hf2, hsJ, htJ⟩ := hi58
            refine AW.iload dX6_readNegated_58 rfl ?_
            refine AW.iload_n dX6_readNegated_60 rfl ?_
            refine AW.icmp_ge 76 dX6_readNegated_61 (by decide) (fun h61 => ?_) (fun h61 => ?_)
            · have hke2 := k_ge h61 hz2 hy hk58 (by omega)
              exact AW.vret dX6_readNegated_76 rfl (by decide) (by decide) (⟨rfl, J2, rfl, by unfold x_neg; rw [if_neg (show ¬ x_wd tp n (x_nots tp n 6 s).2.2 _ = true by rw [hE]; rw [q40]; decide), show (x_nots tp n 6 s).2 = s9 by rw [hE], show (x_nots tp n 6 s).1 = k5 by rw [hE]]; rw [hke2] at htJ; exact ⟨hf2, hsJ, htJ⟩⟩)
            · have hlt2 := k_lt h61 hz2 hy hk58 (by omega)
              refine AW.aload_n dX6_readNegated_64 rfl ?_
              refine AW.bipush (-3) dX6_readNegated_65 (by decide) ?_
              refine AW.callV (b := u) (As := [.int (-3)]) hG.2.2 (vX6_231 hG) (hu.1 0 _ rfl) (k_X7_addL hK (d := 0) (Nat.le_refl _) hu (by assumption) (-3)) (by omega) dX6_readNegated_67 rfl rfl (Nat.le_of_ble_eq_true rfl) (fun v w9 hq9 h09 => by obtain ⟨rfl, rfl⟩ := hq9; exact ⟨h09, rfl⟩) (by decide) (by decide) (fun _ _ hx => hx) (fun v67 w67 hq67 => ?_)
              obtain ⟨rfl, rfl⟩ := hq67
              refine AW.namI (fun I67 eI67 => ?_)
              show AW G mX6_readNegated d (fun v w => v = none ∧ ∃ J, w = (sh, J, R, L, g) ∧ k_rq I J e u tp n (x_neg tp n (x_ex tp n r) (s, l))) (fun _ _ => False) 70 [some (.ref e), some (.ref u), some (.int x), some (.int y), some (.int z2)] [] (sh, I67, R, L, g) 0 0
              have ho67 := k_add_e eI67
              have hs67 := k_s_u hue (by assumption) ho67
              have hf67 := k_fr_t (by assumption) (k_fr_u hue ho67)
              have ht67 := k_st_e eI67 (by assumption)
              refine AW.inc (fun x70 => [some (.ref e), some (.ref u), some (.int x), some (.int y), some (.int x70)]) dX6_readNegated_70 rfl (by decide) rfl (fun _ => rfl) (fun x70 ex70 => ?_)
              refine AW.goto 58 dX6_readNegated_73 (by decide) ?_
              exact ih58 (k58 + 1) (by omega) (by omega) _ _ (⟨k_inc (by assumption) hz2, hf67, hs67, ht67⟩)
          exact L58 0 (by omega) _ _ (⟨nI_0.symm, hf52, hs52, ht52⟩)
        · rw [ex37] at h40
          have q40 := kb_1.mp h40
          exact absurd (q18.symm.trans q40) (by decide)
      · rw [ex15] at h18
        have q18 := kb_1.mp h18
        refine AW.aload_n dX6_readNegated_21 rfl ?_
        refine AW.callV (b := e) (As := []) hG.2.2 (vX6_52 hG) (he.1 0 _ rfl) (k_X6_advS hK (d := 5) (Nat.le_refl _) hr (by assumption)) (by omega) dX6_readNegated_22 rfl rfl (Nat.le_of_ble_eq_true rfl) (fun v w9 hq9 h09 => by obtain ⟨rfl, J9, rfl, -⟩ := hq9; exact ⟨h09, rfl⟩) (by decide) (by decide) (fun _ _ hx => hx) (fun v22 w22 hq22 => ?_)
        obtain ⟨rfl, I22, rfl, hr22⟩ := hq22
        have hs22 := k_rp_i hr22
        have ht22 := k_st_r hue (by assumption) hr22
        have hf22 := k_fr_t (by assumption) (k_fr_r (u := u) hr22)
        show AW G mX6_readNegated d (fun v w => v = none ∧ ∃ J, w = (sh, J, R, L, g) ∧ k_rq I J e u tp n (x_neg tp n (x_ex tp n r) (s, l))) (fun _ _ => False) 25 [some (.ref e), some (.ref u), some (.int x), some (.int y), some (.int z)] [] (sh, I22, R, L, g) 0 0
        refine AW.inc (fun x25 => [some (.ref e), some (.ref u), some (.int x), some (.int x25), some (.int z)]) dX6_readNegated_25 rfl (by decide) rfl (fun _ => rfl) (fun x25 ex25 => ?_)
        refine AW.inc (fun x28 => [some (.ref e), some (.ref u), some (.int x), some (.int x25), some (.int x28)]) dX6_readNegated_28 rfl (by decide) rfl (fun _ => rfl) (fun x28 ex28 => ?_)
        refine AW.goto 5 dX6_readNegated_31 (by decide) ?_
        exact ih5 (k5 + 1) (by omega) (by omega) _ _ _ (⟨k_inc ex25 hy, k_inc ex28 hz, hf22, _, hs22, ht22, by
          rw [← hV, show 6 - k5 = (6 - (k5 + 1)) + 1 by omega]
          show _ = ((if _ then _ else _ : Nat × (Int32 × Nat)).1 + k5, (if _ then _ else _ : Nat × (Int32 × Nat)).2)
          rw [if_pos q18]
          exact Prod.ext (by show _ + (k5 + 1) = _ + 1 + k5; omega) rfl⟩)
  exact L5 0 (by omega) _ _ _ (⟨nI_0.symm, nI_0.symm, hf, s, hs, ht, rfl⟩)
theorem dX6_readBoth_0 : decode cX6_readBoth 0 = .ok (.aload_n 0, 1) := by decide +kernel
theorem dX6_readBoth_1 : decode cX6_readBoth 1 = .ok (.aload_n 1, 1) := by decide +kernel
theorem dX6_readBoth_2 : decode cX6_readBoth 2 = .ok (.iload_n 2, 1) := by decide +kernel
theorem dX6_readBoth_3 : decode cX6_readBoth 3 = .ok (.invokevirtual 234, 3) := by decide +kernel
theorem dX6_readBoth_6 : decode cX6_readBoth 6 = .ok (.iconst 0, 1) := by decide +kernel
theorem dX6_readBoth_7 : decode cX6_readBoth 7 = .ok (.istore_n 3, 1) := by decide +kernel
theorem dX6_readBoth_8 : decode cX6_readBoth 8 = .ok (.iload_n 3, 1) := by decide +kernel
theorem dX6_readBoth_9 : decode cX6_readBoth 9 = .ok (.sipush 600, 3) := by decide +kernel
theorem dX6_readBoth_12 : decode cX6_readBoth 12 = .ok (.if_icmp .ge 41, 3) := by decide +kernel
theorem dX6_readBoth_15 : decode cX6_readBoth 15 = .ok (.aload_n 0, 1) := by decide +kernel
theorem dX6_readBoth_16 : decode cX6_readBoth 16 = .ok (.getfield 39, 3) := by decide +kernel
theorem dX6_readBoth_19 : decode cX6_readBoth 19 = .ok (.ifCond .ne 34, 3) := by decide +kernel
theorem dX6_readBoth_22 : decode cX6_readBoth 22 = .ok (.aload_n 0, 1) := by decide +kernel
theorem dX6_readBoth_23 : decode cX6_readBoth 23 = .ok (.ldc 237, 2) := by decide +kernel
theorem dX6_readBoth_25 : decode cX6_readBoth 25 = .ok (.invokevirtual 126, 3) := by decide +kernel
theorem dX6_readBoth_28 : decode cX6_readBoth 28 = .ok (.ifCond .eq 25, 3) := by decide +kernel
theorem dX6_readBoth_31 : decode cX6_readBoth 31 = .ok (.aload_n 0, 1) := by decide +kernel
theorem dX6_readBoth_32 : decode cX6_readBoth 32 = .ok (.invokevirtual 52, 3) := by decide +kernel
theorem dX6_readBoth_35 : decode cX6_readBoth 35 = .ok (.aload_n 0, 1) := by decide +kernel
theorem dX6_readBoth_36 : decode cX6_readBoth 36 = .ok (.aload_n 1, 1) := by decide +kernel
theorem dX6_readBoth_37 : decode cX6_readBoth 37 = .ok (.iload_n 2, 1) := by decide +kernel
theorem dX6_readBoth_38 : decode cX6_readBoth 38 = .ok (.invokevirtual 234, 3) := by decide +kernel
theorem dX6_readBoth_41 : decode cX6_readBoth 41 = .ok (.aload_n 1, 1) := by decide +kernel
theorem dX6_readBoth_42 : decode cX6_readBoth 42 = .ok (.bipush (-2), 2) := by decide +kernel
theorem dX6_readBoth_44 : decode cX6_readBoth 44 = .ok (.invokevirtual 231, 3) := by decide +kernel
theorem dX6_readBoth_47 : decode cX6_readBoth 47 = .ok (.iinc 3 1, 3) := by decide +kernel
theorem dX6_readBoth_50 : decode cX6_readBoth 50 = .ok (.goto (-42), 3) := by decide +kernel
theorem dX6_readBoth_53 : decode cX6_readBoth 53 = .ok (.return_, 1) := by decide +kernel
set_option maxRecDepth 100000 in
set_option maxHeartbeats 4000000 in
theorem k_X6_readBoth {G : am_G} (hK : k_OK G) {r : Nat} {d : Nat} (hd : 14 + 7 * r ≤ d) {sh : List (Nat ⊕ (Nat × Nat))} {I : Nat → Nat → Int32} {R : Nat → Nat → Option Nat} {L : Nat → Nat → Int64} {g : Nat} {e n u : Nat} {tp : Nat → Int32} {s : Int32 × Nat} {l : List Int32} (hr : k_rd sh R e tp n) (hu : k_Rule sh R u) (hue : e + 2 ≤ u ∨ u + 3 ≤ e) (hs : k_s I e tp n s) (ht : k_st I u l) {dd : Nat} (hdd : dd + 1 + r = 6) (x : Int32) (hx : x = nI dd) (ih : ∀ (_ : k_OK G) {d : Nat} (_ : 8 + 7 * r ≤ d) {I : Nat → Nat → Int32} {s : Int32 × Nat} {l : List Int32} (hs : k_s I e tp n s) (ht : k_st I u l) (x : Int32) (hx : x = nI (dd + 1)), AM G mX6_readEither d [.ref e, .ref u, .int x] (sh, I, R, L, g) (fun v w => v = none ∧ ∃ J, w = (sh, J, R, L, g) ∧ k_rq I J e u tp n (x_ex tp n r (s, l))) (fun _ _ => False)) : AM G mX6_readBoth d [.ref e, .ref u, .int x] (sh, I, R, L, g) (fun v w => v = none ∧ ∃ J, w = (sh, J, R, L, g) ∧ k_rq I J e u tp n (x_both tp n (x_ex tp n r) (s, l))) (fun _ _ => False) := by
  have hG := hK.1
  have he := hr.1
  have hn6 := hr.2.1
  have hf := k_fr_0 I e u
  refine AM.of (n := 1) (by decide +kernel) (Nat.le_of_ble_eq_true rfl) ?_
  show AW G mX6_readBoth d (fun v w => v = none ∧ ∃ J, w = (sh, J, R, L, g) ∧ k_rq I J e u tp n (x_both tp n (x_ex tp n r) (s, l))) (fun _ _ => False) 0 [some (.ref e), some (.ref u), some (.int x), none] [] (sh, I, R, L, g) 0 0
  refine AW.aload_n dX6_readBoth_0 rfl ?_
  refine AW.aload_n dX6_readBoth_1 rfl ?_
  refine AW.iload_n dX6_readBoth_2 rfl ?_
  refine AW.callV (b := e) (As := [.ref u, .int x]) hG.2.2 (vX6_234 hG) (he.1 0 _ rfl) (k_X6_readNegated hK (d := 13 + 7 * r) (Nat.le_refl _) hr hu hue (by assumption) (by assumption) hdd x (by assumption) ih) (by omega) dX6_readBoth_3 rfl rfl (Nat.le_of_ble_eq_true rfl) (fun v w9 hq9 h09 => by obtain ⟨rfl, J9, rfl, -⟩ := hq9; exact ⟨h09, rfl⟩) (by decide) (by decide) (fun _ _ hx => hx) (fun v3 w3 hq3 => ?_)
  obtain ⟨rfl, I3, rfl, hg3, hs3, ht3⟩ := hq3
  have hf3 := k_fr_t (by assumption) hg3
  show AW G mX6_readBoth d (fun v w => v = none ∧ ∃ J, w = (sh, J, R, L, g) ∧ k_rq I J e u tp n (x_both tp n (x_ex tp n r) (s, l))) (fun _ _ => False) 6 [some (.ref e), some (.ref u), some (.int x), none] [] (sh, I3, R, L, g) 0 0
  refine AW.iconst 0 dX6_readBoth_6 (by decide) ?_
  refine AW.is_n [some (.ref e), some (.ref u), some (.int x), some (.int 0)] dX6_readBoth_7 (by decide) rfl rfl ?_
  have L8 : ∀ k8, k8 ≤ 600 → ∀ (y : Int32) (J : Nat → Nat → Int32), (y = nI k8 ∧ k_fr I J e u ∧ ∃ s9 l9, k_s J e tp n s9 ∧ k_st J u l9 ∧ x_lp tp n (x_neg tp n (x_ex tp n r)) (x_oA tp n) (600 - k8) (s9, l9) = x_lp tp n (x_neg tp n (x_ex tp n r)) (x_oA tp n) 600 (x_neg tp n (x_ex tp n r) (s, l))) → AW G mX6_readBoth d (fun v w => v = none ∧ ∃ J, w = (sh, J, R, L, g) ∧ k_rq I J e u tp n (x_both tp n (x_ex tp n r) (s, l))) (fun _ _ => False) 8 [some (.ref e), some (.ref u), some (.int x), some (.int y)] [] (sh, J, R, L, g) 0 0 := by
    refine am_rec 600 (fun k8 hk8 ih8 => ?_)
    intro y J hi8
    obtain ⟨hy, hfJ, s9, l9, hs9, ht9, hV⟩ := hi8
    refine AW.iload_n dX6_readBoth_8 rfl ?_
    refine AW.sipush 600 dX6_readBoth_9 (by decide) ?_
    refine AW.icmp_ge 53 dX6_readBoth_12 (by decide) (fun h12 => ?_) (fun h12 => ?_)
    · have hke := k_ge (n := 600) h12 hy rfl hk8 (by decide)
      exact AW.vret dX6_readBoth_53 rfl (by decide) (by decide) (by
        rw [hke, Nat.sub_self] at hV
        have hV : (s9, l9) = x_lp tp n (x_neg tp n (x_ex tp n r)) (x_oA tp n) 600 (x_neg tp n (x_ex tp n r) (s, l)) := hV
        refine ⟨rfl, J, rfl, ?_⟩
        show k_rq I J e u tp n (x_lp tp n (x_neg tp n (x_ex tp n r)) (x_oA tp n) 600 (x_neg tp n (x_ex tp n r) (s, l)))
        rw [← hV]
        exact ⟨hfJ, hs9, ht9⟩)
    · have hlt := k_lt (n := 600) h12 hy rfl hk8 (by decide)
      obtain ⟨f9, hf9⟩ : ∃ f, 600 - k8 = f + 1 := ⟨600 - k8 - 1, by omega⟩
      have hV9 := hV
      rw [hf9] at hV9
      refine AW.aload_n dX6_readBoth_15 rfl ?_
      refine AW.getI (fX6_39 hG).r rfl (he.1 0 _ rfl) dX6_readBoth_16 ?_
      refine AW.if_ne 53 dX6_readBoth_19 (by decide) (fun h19 => ?_) (fun h19 => ?_)
      · have q19 : ¬ s9.1 = 0 := by rw [← hs9.1]; exact h19
        exact AW.vret dX6_readBoth_53 rfl (by decide) (by decide) (by
          have hV : (s9, l9) = x_lp tp n (x_neg tp n (x_ex tp n r)) (x_oA tp n) 600 (x_neg tp n (x_ex tp n r) (s, l)) := by
            rw [← hV9]
            show _ = (if s9.1 = 0 ∧ ¬ x_oA tp n s9.2 = 0 then _ else _)
            rw [if_neg (fun h => q19 h.1)]
          refine ⟨rfl, J, rfl, ?_⟩
          show k_rq I J e u tp n (x_lp tp n (x_neg tp n (x_ex tp n r)) (x_oA tp n) 600 (x_neg tp n (x_ex tp n r) (s, l)))
          rw [← hV]
          exact ⟨hfJ, hs9, ht9⟩)
      · have q19 : s9.1 = 0 := by rw [← hs9.1]; exact h19
        refine AW.aload_n dX6_readBoth_22 rfl ?_
        refine AW.ldcS (j := 18) hK q_18 k_s_18 rfl rfl dX6_readBoth_23 ?_
        refine AW.callV (b := e) (As := [.ref (1000000 + 18)]) hG.2.2 (vX6_126 hG) (he.1 0 _ rfl) (k_X6_isWord hK (d := 4) (Nat.le_refl _) (k_txi hK k_s_18) hr (by assumption)) (by omega) dX6_readBoth_25 rfl rfl (Nat.le_of_ble_eq_true rfl) (fun v w9 hq9 h09 => by obtain ⟨rfl, rfl⟩ := hq9; exact ⟨h09, rfl⟩) (by decide) (by decide) (fun _ _ hx => hx) (fun v25 w25 hq25 => ?_)
        obtain ⟨rfl, rfl⟩ := hq25
        refine AW.nam (fun x25 ex25 => ?_)
        refine AW.if_eq 53 dX6_readBoth_28 (by decide) (fun h28 => ?_) (fun h28 => ?_)
        · rw [ex25] at h28
          have q28 := kb_0.mp h28
          exact AW.vret dX6_readBoth_53 rfl (by decide) (by decide) (by
            have hV : (s9, l9) = x_lp tp n (x_neg tp n (x_ex tp n r)) (x_oA tp n) 600 (x_neg tp n (x_ex tp n r) (s, l)) := by
              rw [← hV9]
              show _ = (if s9.1 = 0 ∧ ¬ x_oA tp n s9.2 = 0 then _ else _)
              rw [if_neg (fun h => h.2 (show x_oA tp n s9.2 = 0 from if_neg (by rw [q28]; decide)))]
            refine ⟨rfl, J, rfl, ?_⟩
            show k_rq I J e u tp n (x_lp tp n (x_neg tp n (x_ex tp n r)) (x_oA tp n) 600 (x_neg tp n (x_ex tp n r) (s, l)))
            rw [← hV]
            exact ⟨hfJ, hs9, ht9⟩)
        · rw [ex25] at h28
          have q28 := kb_1.mp h28
          refine AW.aload_n dX6_readBoth_31 rfl ?_
          refine AW.callV (b := e) (As := []) hG.2.2 (vX6_52 hG) (he.1 0 _ rfl) (k_X6_advS hK (d := 5) (Nat.le_refl _) hr (by assumption)) (by omega) dX6_readBoth_32 rfl rfl (Nat.le_of_ble_eq_true rfl) (fun v w9 hq9 h09 => by obtain ⟨rfl, J9, rfl, -⟩ := hq9; exact ⟨h09, rfl⟩) (by decide) (by decide) (fun _ _ hx => hx) (fun v32 w32 hq32 => ?_)
          obtain ⟨rfl, I32, rfl, hr32⟩ := hq32
          have hs32 := k_rp_i hr32
          have ht32 := k_st_r hue (by assumption) hr32
          have hf32 := k_fr_t (by assumption) (k_fr_r (u := u) hr32)
          show AW G mX6_readBoth d (fun v w => v = none ∧ ∃ J, w = (sh, J, R, L, g) ∧ k_rq I J e u tp n (x_both tp n (x_ex tp n r) (s, l))) (fun _ _ => False) 35 [some (.ref e), some (.ref u), some (.int x), some (.int y)] [] (sh, I32, R, L, g) 0 0
          refine AW.aload_n dX6_readBoth_35 rfl ?_
          refine AW.aload_n dX6_readBoth_36 rfl ?_
          refine AW.iload_n dX6_readBoth_37 rfl ?_
          refine AW.callV (b := e) (As := [.ref u, .int x]) hG.2.2 (vX6_234 hG) (he.1 0 _ rfl) (k_X6_readNegated hK (d := 13 + 7 * r) (Nat.le_refl _) hr hu hue (by assumption) (by assumption) hdd x (by assumption) ih) (by omega) dX6_readBoth_38 rfl rfl (Nat.le_of_ble_eq_true rfl) (fun v w9 hq9 h09 => by obtain ⟨rfl, J9, rfl, -⟩ := hq9; exact ⟨h09, rfl⟩) (by decide) (by decide) (fun _ _ hx => hx) (fun v38 w38 hq38 => ?_)
          obtain ⟨rfl, I38, rfl, hg38, hs38, ht38⟩ := hq38
          have hf38 := k_fr_t (by assumption) hg38
          show AW G mX6_readBoth d (fun v w => v = none ∧ ∃ J, w = (sh, J, R, L, g) ∧ k_rq I J e u tp n (x_both tp n (x_ex tp n r) (s, l))) (fun _ _ => False) 41 [some (.ref e), some (.ref u), some (.int x), some (.int y)] [] (sh, I38, R, L, g) 0 0
          refine AW.aload_n dX6_readBoth_41 rfl ?_
          refine AW.bipush (-2) dX6_readBoth_42 (by decide) ?_
          refine AW.callV (b := u) (As := [.int (-2)]) hG.2.2 (vX6_231 hG) (hu.1 0 _ rfl) (k_X7_addL hK (d := 0) (Nat.le_refl _) hu (by assumption) (-2)) (by omega) dX6_readBoth_44 rfl rfl (Nat.le_of_ble_eq_true rfl) (fun v w9 hq9 h09 => by obtain ⟨rfl, rfl⟩ := hq9; exact ⟨h09, rfl⟩) (by decide) (by decide) (fun _ _ hx => hx) (fun v44 w44 hq44 => ?_)
          obtain ⟨rfl, rfl⟩ := hq44
          refine AW.namI (fun I44 eI44 => ?_)
          show AW G mX6_readBoth d (fun v w => v = none ∧ ∃ J, w = (sh, J, R, L, g) ∧ k_rq I J e u tp n (x_both tp n (x_ex tp n r) (s, l))) (fun _ _ => False) 47 [some (.ref e), some (.ref u), some (.int x), some (.int y)] [] (sh, I44, R, L, g) 0 0
          have ho44 := k_add_e eI44
          have hs44 := k_s_u hue (by assumption) ho44
          have hf44 := k_fr_t (by assumption) (k_fr_u hue ho44)
          have ht44 := k_st_e eI44 (by assumption)
          refine AW.inc (fun x47 => [some (.ref e), some (.ref u), some (.int x), some (.int x47)]) dX6_readBoth_47 rfl (by decide) rfl (fun _ => rfl) (fun x47 ex47 => ?_)
          refine AW.goto 8 dX6_readBoth_50 (by decide) ?_
          exact ih8 (k8 + 1) (by omega) (by omega) _ _ (by
            have ov : x_oA tp n s9.2 = -2 := if_pos q28
            refine ⟨k_inc (by assumption) hy, hf44, _, _, hs44, ht44, ?_⟩
            rw [← hV9, show 600 - (k8 + 1) = f9 by omega]
            show _ = (if s9.1 = 0 ∧ ¬ x_oA tp n s9.2 = 0 then _ else _)
            rw [if_pos ⟨q19, by rw [ov]; decide⟩, ov])
  exact L8 0 (by omega) _ _ (⟨nI_0.symm, hf3, _, _, hs3, ht3, rfl⟩)
theorem dX6_readEither_0 : decode cX6_readEither 0 = .ok (.iload_n 2, 1) := by decide +kernel
theorem dX6_readEither_1 : decode cX6_readEither 1 = .ok (.bipush 6, 2) := by decide +kernel
theorem dX6_readEither_3 : decode cX6_readEither 3 = .ok (.if_icmp .lt 38, 3) := by decide +kernel
theorem dX6_readEither_6 : decode cX6_readEither 6 = .ok (.aload_n 0, 1) := by decide +kernel
theorem dX6_readEither_7 : decode cX6_readEither 7 = .ok (.aload_n 0, 1) := by decide +kernel
theorem dX6_readEither_8 : decode cX6_readEither 8 = .ok (.getfield 55, 3) := by decide +kernel
theorem dX6_readEither_11 : decode cX6_readEither 11 = .ok (.iconst 2, 1) := by decide +kernel
theorem dX6_readEither_12 : decode cX6_readEither 12 = .ok (.if_icmp .eq 20, 3) := by decide +kernel
theorem dX6_readEither_15 : decode cX6_readEither 15 = .ok (.aload_n 0, 1) := by decide +kernel
theorem dX6_readEither_16 : decode cX6_readEither 16 = .ok (.getfield 55, 3) := by decide +kernel
theorem dX6_readEither_19 : decode cX6_readEither 19 = .ok (.iconst 1, 1) := by decide +kernel
theorem dX6_readEither_20 : decode cX6_readEither 20 = .ok (.if_icmp .eq 12, 3) := by decide +kernel
theorem dX6_readEither_23 : decode cX6_readEither 23 = .ok (.aload_n 0, 1) := by decide +kernel
theorem dX6_readEither_24 : decode cX6_readEither 24 = .ok (.bipush 40, 2) := by decide +kernel
theorem dX6_readEither_26 : decode cX6_readEither 26 = .ok (.invokevirtual 216, 3) := by decide +kernel
theorem dX6_readEither_29 : decode cX6_readEither 29 = .ok (.ifCond .eq 7, 3) := by decide +kernel
theorem dX6_readEither_32 : decode cX6_readEither 32 = .ok (.iconst 2, 1) := by decide +kernel
theorem dX6_readEither_33 : decode cX6_readEither 33 = .ok (.goto 4, 3) := by decide +kernel
theorem dX6_readEither_36 : decode cX6_readEither 36 = .ok (.iconst 1, 1) := by decide +kernel
theorem dX6_readEither_37 : decode cX6_readEither 37 = .ok (.invokevirtual 97, 3) := by decide +kernel
theorem dX6_readEither_40 : decode cX6_readEither 40 = .ok (.return_, 1) := by decide +kernel
theorem dX6_readEither_41 : decode cX6_readEither 41 = .ok (.aload_n 0, 1) := by decide +kernel
theorem dX6_readEither_42 : decode cX6_readEither 42 = .ok (.aload_n 1, 1) := by decide +kernel
theorem dX6_readEither_43 : decode cX6_readEither 43 = .ok (.iload_n 2, 1) := by decide +kernel
theorem dX6_readEither_44 : decode cX6_readEither 44 = .ok (.invokevirtual 224, 3) := by decide +kernel
theorem dX6_readEither_47 : decode cX6_readEither 47 = .ok (.iconst 0, 1) := by decide +kernel
theorem dX6_readEither_48 : decode cX6_readEither 48 = .ok (.istore_n 3, 1) := by decide +kernel
theorem dX6_readEither_49 : decode cX6_readEither 49 = .ok (.iload_n 3, 1) := by decide +kernel
theorem dX6_readEither_50 : decode cX6_readEither 50 = .ok (.sipush 600, 3) := by decide +kernel
theorem dX6_readEither_53 : decode cX6_readEither 53 = .ok (.if_icmp .ge 40, 3) := by decide +kernel
theorem dX6_readEither_56 : decode cX6_readEither 56 = .ok (.aload_n 0, 1) := by decide +kernel
theorem dX6_readEither_57 : decode cX6_readEither 57 = .ok (.getfield 39, 3) := by decide +kernel
theorem dX6_readEither_60 : decode cX6_readEither 60 = .ok (.ifCond .ne 33, 3) := by decide +kernel
theorem dX6_readEither_63 : decode cX6_readEither 63 = .ok (.aload_n 0, 1) := by decide +kernel
theorem dX6_readEither_64 : decode cX6_readEither 64 = .ok (.ldc 227, 2) := by decide +kernel
theorem dX6_readEither_66 : decode cX6_readEither 66 = .ok (.invokevirtual 126, 3) := by decide +kernel
theorem dX6_readEither_69 : decode cX6_readEither 69 = .ok (.ifCond .eq 24, 3) := by decide +kernel
theorem dX6_readEither_72 : decode cX6_readEither 72 = .ok (.aload_n 0, 1) := by decide +kernel
theorem dX6_readEither_73 : decode cX6_readEither 73 = .ok (.invokevirtual 52, 3) := by decide +kernel
theorem dX6_readEither_76 : decode cX6_readEither 76 = .ok (.aload_n 0, 1) := by decide +kernel
theorem dX6_readEither_77 : decode cX6_readEither 77 = .ok (.aload_n 1, 1) := by decide +kernel
theorem dX6_readEither_78 : decode cX6_readEither 78 = .ok (.iload_n 2, 1) := by decide +kernel
theorem dX6_readEither_79 : decode cX6_readEither 79 = .ok (.invokevirtual 224, 3) := by decide +kernel
theorem dX6_readEither_82 : decode cX6_readEither 82 = .ok (.aload_n 1, 1) := by decide +kernel
theorem dX6_readEither_83 : decode cX6_readEither 83 = .ok (.iconst (-1), 1) := by decide +kernel
theorem dX6_readEither_84 : decode cX6_readEither 84 = .ok (.invokevirtual 231, 3) := by decide +kernel
theorem dX6_readEither_87 : decode cX6_readEither 87 = .ok (.iinc 3 1, 3) := by decide +kernel
theorem dX6_readEither_90 : decode cX6_readEither 90 = .ok (.goto (-41), 3) := by decide +kernel
theorem dX6_readEither_93 : decode cX6_readEither 93 = .ok (.return_, 1) := by decide +kernel
set_option maxRecDepth 100000 in
set_option maxHeartbeats 4000000 in
theorem k_X6_readEither0 {G : am_G} (hK : k_OK G) {d : Nat} (hd : 8 ≤ d) {sh : List (Nat ⊕ (Nat × Nat))} {I : Nat → Nat → Int32} {R : Nat → Nat → Option Nat} {L : Nat → Nat → Int64} {g : Nat} {e n u : Nat} {tp : Nat → Int32} {s : Int32 × Nat} {l : List Int32} (hr : k_rd sh R e tp n) (hu : k_Rule sh R u) (hue : e + 2 ≤ u ∨ u + 3 ≤ e) (hs : k_s I e tp n s) (ht : k_st I u l) (x : Int32) (hx : x = nI 6) : AM G mX6_readEither d [.ref e, .ref u, .int x] (sh, I, R, L, g) (fun v w => v = none ∧ ∃ J, w = (sh, J, R, L, g) ∧ k_rq I J e u tp n (x_ex tp n 0 (s, l))) (fun _ _ => False) := by
  have hG := hK.1
  have he := hr.1
  have hn6 := hr.2.1
  have hf := k_fr_0 I e u
  obtain ⟨h7, z1, z2, z4, z5, z6, -⟩ := id hs
  refine AM.of (n := 1) (by decide +kernel) (Nat.le_of_ble_eq_true rfl) ?_
  show AW G mX6_readEither d (fun v w => v = none ∧ ∃ J, w = (sh, J, R, L, g) ∧ k_rq I J e u tp n (x_ex tp n 0 (s, l))) (fun _ _ => False) 0 [some (.ref e), some (.ref u), some (.int x), none] [] (sh, I, R, L, g) 0 0
  refine AW.iload_n dX6_readEither_0 rfl ?_
  refine AW.bipush 6 dX6_readEither_1 (by decide) ?_
  refine AW.icmp_lt 41 dX6_readEither_3 (by decide) (fun h3 => ?_) (fun h3 => ?_)
  · rw [hx] at h3; exact absurd h3 (by decide)
  · refine AW.aload_n dX6_readEither_6 rfl ?_
    refine AW.aload_n dX6_readEither_7 rfl ?_
    refine AW.getI (fX6_55 hG).r rfl (he.1 0 _ rfl) dX6_readEither_8 ?_
    refine AW.iconst 2 dX6_readEither_11 (by decide) ?_
    refine AW.icmp_eq 32 dX6_readEither_12 (by decide) (fun h12 => ?_) (fun h12 => ?_)
    · rw [z6] at h12
      have q12 : x_tk tp n s.2 = 2 := (x_tk_e (k := 2) (by decide)).mp h12
      refine AW.iconst 2 dX6_readEither_32 (by decide) ?_
      refine AW.goto 37 dX6_readEither_33 (by decide) ?_
      refine AW.callV (b := e) (As := [.int 2]) hG.2.2 (vX6_97 hG) (he.1 0 _ rfl) (k_X6_fail hK (d := 0) (Nat.le_refl _) he (by assumption) 2) (by omega) dX6_readEither_37 rfl rfl (Nat.le_of_ble_eq_true rfl) (fun v w9 hq9 h09 => by obtain ⟨rfl, J9, rfl, -⟩ := hq9; exact ⟨h09, rfl⟩) (by decide) (by decide) (fun _ _ hx => hx) (fun v37 w37 hq37 => ?_)
      obtain ⟨rfl, I37, rfl, hr37⟩ := hq37
      have hs37 := k_rp_i hr37
      have ht37 := k_st_r hue (by assumption) hr37
      have hf37 := k_fr_t (by assumption) (k_fr_r (u := u) hr37)
      show AW G mX6_readEither d (fun v w => v = none ∧ ∃ J, w = (sh, J, R, L, g) ∧ k_rq I J e u tp n (x_ex tp n 0 (s, l))) (fun _ _ => False) 40 [some (.ref e), some (.ref u), some (.int x), none] [] (sh, I37, R, L, g) 0 0
      exact AW.vret dX6_readEither_40 rfl (by decide) (by decide) (⟨rfl, I37, rfl, by show k_rq I I37 e u tp n (x_fail (if _ then 2 else 1) s, l); rw [if_pos (Or.inl q12)]; exact ⟨hf37, hs37, ht37⟩⟩)
    · rw [z6] at h12
      have q12 : ¬ x_tk tp n s.2 = 2 := fun h => h12 ((x_tk_e (by decide)).mpr h)
      refine AW.aload_n dX6_readEither_15 rfl ?_
      refine AW.getI (fX6_55 hG).r rfl (he.1 0 _ rfl) dX6_readEither_16 ?_
      refine AW.iconst 1 dX6_readEither_19 (by decide) ?_
      refine AW.icmp_eq 32 dX6_readEither_20 (by decide) (fun h20 => ?_) (fun h20 => ?_)
      · rw [z6] at h20
        have q20 : x_tk tp n s.2 = 1 := (x_tk_e (k := 1) (by decide)).mp h20
        refine AW.iconst 2 dX6_readEither_32 (by decide) ?_
        refine AW.goto 37 dX6_readEither_33 (by decide) ?_
        refine AW.callV (b := e) (As := [.int 2]) hG.2.2 (vX6_97 hG) (he.1 0 _ rfl) (k_X6_fail hK (d := 0) (Nat.le_refl _) he (by assumption) 2) (by omega) dX6_readEither_37 rfl rfl (Nat.le_of_ble_eq_true rfl) (fun v w9 hq9 h09 => by obtain ⟨rfl, J9, rfl, -⟩ := hq9; exact ⟨h09, rfl⟩) (by decide) (by decide) (fun _ _ hx => hx) (fun v37 w37 hq37 => ?_)
        obtain ⟨rfl, I37, rfl, hr37⟩ := hq37
        have hs37 := k_rp_i hr37
        have ht37 := k_st_r hue (by assumption) hr37
        have hf37 := k_fr_t (by assumption) (k_fr_r (u := u) hr37)
        show AW G mX6_readEither d (fun v w => v = none ∧ ∃ J, w = (sh, J, R, L, g) ∧ k_rq I J e u tp n (x_ex tp n 0 (s, l))) (fun _ _ => False) 40 [some (.ref e), some (.ref u), some (.int x), none] [] (sh, I37, R, L, g) 0 0
        exact AW.vret dX6_readEither_40 rfl (by decide) (by decide) (⟨rfl, I37, rfl, by show k_rq I I37 e u tp n (x_fail (if _ then 2 else 1) s, l); rw [if_pos (Or.inr (Or.inl q20))]; exact ⟨hf37, hs37, ht37⟩⟩)
      · rw [z6] at h20
        have q20 : ¬ x_tk tp n s.2 = 1 := fun h => h20 ((x_tk_e (by decide)).mpr h)
        refine AW.aload_n dX6_readEither_23 rfl ?_
        refine AW.bipush 40 dX6_readEither_24 (by decide) ?_
        refine AW.callV (b := e) (As := [.int 40]) hG.2.2 (vX6_216 hG) (he.1 0 _ rfl) (k_X6_isSign hK (d := 0) (Nat.le_refl _) hr (by assumption) 40) (by omega) dX6_readEither_26 rfl rfl (Nat.le_of_ble_eq_true rfl) (fun v w9 hq9 h09 => by obtain ⟨rfl, rfl⟩ := hq9; exact ⟨h09, rfl⟩) (by decide) (by decide) (fun _ _ hx => hx) (fun v26 w26 hq26 => ?_)
        obtain ⟨rfl, rfl⟩ := hq26
        refine AW.nam (fun x26 ex26 => ?_)
        refine AW.if_eq 36 dX6_readEither_29 (by decide) (fun h29 => ?_) (fun h29 => ?_)
        · rw [ex26] at h29
          have q29 := kb_0.mp h29
          refine AW.iconst 1 dX6_readEither_36 (by decide) ?_
          refine AW.callV (b := e) (As := [.int 1]) hG.2.2 (vX6_97 hG) (he.1 0 _ rfl) (k_X6_fail hK (d := 0) (Nat.le_refl _) he (by assumption) 1) (by omega) dX6_readEither_37 rfl rfl (Nat.le_of_ble_eq_true rfl) (fun v w9 hq9 h09 => by obtain ⟨rfl, J9, rfl, -⟩ := hq9; exact ⟨h09, rfl⟩) (by decide) (by decide) (fun _ _ hx => hx) (fun v37 w37 hq37 => ?_)
          obtain ⟨rfl, I37, rfl, hr37⟩ := hq37
          have hs37 := k_rp_i hr37
          have ht37 := k_st_r hue (by assumption) hr37
          have hf37 := k_fr_t (by assumption) (k_fr_r (u := u) hr37)
          show AW G mX6_readEither d (fun v w => v = none ∧ ∃ J, w = (sh, J, R, L, g) ∧ k_rq I J e u tp n (x_ex tp n 0 (s, l))) (fun _ _ => False) 40 [some (.ref e), some (.ref u), some (.int x), none] [] (sh, I37, R, L, g) 0 0
          exact AW.vret dX6_readEither_40 rfl (by decide) (by decide) (⟨rfl, I37, rfl, by show k_rq I I37 e u tp n (x_fail (if _ then 2 else 1) s, l); rw [if_neg (by rintro (h | h | h); exact q12 h; exact q20 h; rw [q29] at h; exact absurd h (by decide))]; exact ⟨hf37, hs37, ht37⟩⟩)
        · rw [ex26] at h29
          have q29 := kb_1.mp h29
          refine AW.iconst 2 dX6_readEither_32 (by decide) ?_
          refine AW.goto 37 dX6_readEither_33 (by decide) ?_
          refine AW.callV (b := e) (As := [.int 2]) hG.2.2 (vX6_97 hG) (he.1 0 _ rfl) (k_X6_fail hK (d := 0) (Nat.le_refl _) he (by assumption) 2) (by omega) dX6_readEither_37 rfl rfl (Nat.le_of_ble_eq_true rfl) (fun v w9 hq9 h09 => by obtain ⟨rfl, J9, rfl, -⟩ := hq9; exact ⟨h09, rfl⟩) (by decide) (by decide) (fun _ _ hx => hx) (fun v37 w37 hq37 => ?_)
          obtain ⟨rfl, I37, rfl, hr37⟩ := hq37
          have hs37 := k_rp_i hr37
          have ht37 := k_st_r hue (by assumption) hr37
          have hf37 := k_fr_t (by assumption) (k_fr_r (u := u) hr37)
          show AW G mX6_readEither d (fun v w => v = none ∧ ∃ J, w = (sh, J, R, L, g) ∧ k_rq I J e u tp n (x_ex tp n 0 (s, l))) (fun _ _ => False) 40 [some (.ref e), some (.ref u), some (.int x), none] [] (sh, I37, R, L, g) 0 0
          exact AW.vret dX6_readEither_40 rfl (by decide) (by decide) (⟨rfl, I37, rfl, by show k_rq I I37 e u tp n (x_fail (if _ then 2 else 1) s, l); rw [if_pos (Or.inr (Or.inr q29))]; exact ⟨hf37, hs37, ht37⟩⟩)
set_option maxRecDepth 100000 in
set_option maxHeartbeats 4000000 in
theorem k_X6_readEitherS {G : am_G} (hK : k_OK G) {r : Nat} {d : Nat} (hd : 15 + 7 * r ≤ d) {sh : List (Nat ⊕ (Nat × Nat))} {I : Nat → Nat → Int32} {R : Nat → Nat → Option Nat} {L : Nat → Nat → Int64} {g : Nat} {e n u : Nat} {tp : Nat → Int32} {s : Int32 × Nat} {l : List Int32} (hr : k_rd sh R e tp n) (hu : k_Rule sh R u) (hue : e + 2 ≤ u ∨ u + 3 ≤ e) (hs : k_s I e tp n s) (ht : k_st I u l) {dd : Nat} (hdd : dd + 1 + r = 6) (x : Int32) (hx : x = nI dd) (ih : ∀ (_ : k_OK G) {d : Nat} (_ : 8 + 7 * r ≤ d) {I : Nat → Nat → Int32} {s : Int32 × Nat} {l : List Int32} (hs : k_s I e tp n s) (ht : k_st I u l) (x : Int32) (hx : x = nI (dd + 1)), AM G mX6_readEither d [.ref e, .ref u, .int x] (sh, I, R, L, g) (fun v w => v = none ∧ ∃ J, w = (sh, J, R, L, g) ∧ k_rq I J e u tp n (x_ex tp n r (s, l))) (fun _ _ => False)) : AM G mX6_readEither d [.ref e, .ref u, .int x] (sh, I, R, L, g) (fun v w => v = none ∧ ∃ J, w = (sh, J, R, L, g) ∧ k_rq I J e u tp n (x_ex tp n (r + 1) (s, l))) (fun _ _ => False) := by
  have hG := hK.1
  have he := hr.1
  have hn6 := hr.2.1
  have hf := k_fr_0 I e u
  refine AM.of (n := 1) (by decide +kernel) (Nat.le_of_ble_eq_true rfl) ?_
  show AW G mX6_readEither d (fun v w => v = none ∧ ∃ J, w = (sh, J, R, L, g) ∧ k_rq I J e u tp n (x_ex tp n (r + 1) (s, l))) (fun _ _ => False) 0 [some (.ref e), some (.ref u), some (.int x), none] [] (sh, I, R, L, g) 0 0
  refine AW.iload_n dX6_readEither_0 rfl ?_
  refine AW.bipush 6 dX6_readEither_1 (by decide) ?_
  refine AW.icmp_lt 41 dX6_readEither_3 (by decide) (fun h3 => ?_) (fun h3 => ?_)
  · refine AW.aload_n dX6_readEither_41 rfl ?_
    refine AW.aload_n dX6_readEither_42 rfl ?_
    refine AW.iload_n dX6_readEither_43 rfl ?_
    refine AW.callV (b := e) (As := [.ref u, .int x]) hG.2.2 (vX6_224 hG) (he.1 0 _ rfl) (k_X6_readBoth hK (d := 14 + 7 * r) (Nat.le_refl _) hr hu hue (by assumption) (by assumption) hdd x (by assumption) ih) (by omega) dX6_readEither_44 rfl rfl (Nat.le_of_ble_eq_true rfl) (fun v w9 hq9 h09 => by obtain ⟨rfl, J9, rfl, -⟩ := hq9; exact ⟨h09, rfl⟩) (by decide) (by decide) (fun _ _ hx => hx) (fun v44 w44 hq44 => ?_)
    obtain ⟨rfl, I44, rfl, hg44, hs44, ht44⟩ := hq44
    have hf44 := k_fr_t (by assumption) hg44
    show AW G mX6_readEither d (fun v w => v = none ∧ ∃ J, w = (sh, J, R, L, g) ∧ k_rq I J e u tp n (x_ex tp n (r + 1) (s, l))) (fun _ _ => False) 47 [some (.ref e), some (.ref u), some (.int x), none] [] (sh, I44, R, L, g) 0 0
    refine AW.iconst 0 dX6_readEither_47 (by decide) ?_
    refine AW.is_n [some (.ref e), some (.ref u), some (.int x), some (.int 0)] dX6_readEither_48 (by decide) rfl rfl ?_
    have L49 : ∀ k49, k49 ≤ 600 → ∀ (y : Int32) (J : Nat → Nat → Int32), (y = nI k49 ∧ k_fr I J e u ∧ ∃ s9 l9, k_s J e tp n s9 ∧ k_st J u l9 ∧ x_lp tp n (x_both tp n (x_ex tp n r)) (x_oO tp n) (600 - k49) (s9, l9) = x_lp tp n (x_both tp n (x_ex tp n r)) (x_oO tp n) 600 (x_both tp n (x_ex tp n r) (s, l))) → AW G mX6_readEither d (fun v w => v = none ∧ ∃ J, w = (sh, J, R, L, g) ∧ k_rq I J e u tp n (x_ex tp n (r + 1) (s, l))) (fun _ _ => False) 49 [some (.ref e), some (.ref u), some (.int x), some (.int y)] [] (sh, J, R, L, g) 0 0 := by
      refine am_rec 600 (fun k49 hk49 ih49 => ?_)
      intro y J hi49
      obtain ⟨hy, hfJ, s9, l9, hs9, ht9, hV⟩ := hi49
      refine AW.iload_n dX6_readEither_49 rfl ?_
      refine AW.sipush 600 dX6_readEither_50 (by decide) ?_
      refine AW.icmp_ge 93 dX6_readEither_53 (by decide) (fun h53 => ?_) (fun h53 => ?_)
      · have hke := k_ge (n := 600) h53 hy rfl hk49 (by decide)
        exact AW.vret dX6_readEither_93 rfl (by decide) (by decide) (by
          rw [hke, Nat.sub_self] at hV
          have hV : (s9, l9) = x_lp tp n (x_both tp n (x_ex tp n r)) (x_oO tp n) 600 (x_both tp n (x_ex tp n r) (s, l)) := hV
          refine ⟨rfl, J, rfl, ?_⟩
          show k_rq I J e u tp n (x_lp tp n (x_both tp n (x_ex tp n r)) (x_oO tp n) 600 (x_both tp n (x_ex tp n r) (s, l)))
          rw [← hV]
          exact ⟨hfJ, hs9, ht9⟩)
      · have hlt := k_lt (n := 600) h53 hy rfl hk49 (by decide)
        obtain ⟨f9, hf9⟩ : ∃ f, 600 - k49 = f + 1 := ⟨600 - k49 - 1, by omega⟩
        have hV9 := hV
        rw [hf9] at hV9
        refine AW.aload_n dX6_readEither_56 rfl ?_
        refine AW.getI (fX6_39 hG).r rfl (he.1 0 _ rfl) dX6_readEither_57 ?_
        refine AW.if_ne 93 dX6_readEither_60 (by decide) (fun h60 => ?_) (fun h60 => ?_)
        · have q60 : ¬ s9.1 = 0 := by rw [← hs9.1]; exact h60
          exact AW.vret dX6_readEither_93 rfl (by decide) (by decide) (by
            have hV : (s9, l9) = x_lp tp n (x_both tp n (x_ex tp n r)) (x_oO tp n) 600 (x_both tp n (x_ex tp n r) (s, l)) := by
              rw [← hV9]
              show _ = (if s9.1 = 0 ∧ ¬ x_oO tp n s9.2 = 0 then _ else _)
              rw [if_neg (fun h => q60 h.1)]
            refine ⟨rfl, J, rfl, ?_⟩
            show k_rq I J e u tp n (x_lp tp n (x_both tp n (x_ex tp n r)) (x_oO tp n) 600 (x_both tp n (x_ex tp n r) (s, l)))
            rw [← hV]
            exact ⟨hfJ, hs9, ht9⟩)
        · have q60 : s9.1 = 0 := by rw [← hs9.1]; exact h60
          refine AW.aload_n dX6_readEither_63 rfl ?_
          refine AW.ldcS (j := 19) hK q_19 k_s_19 rfl rfl dX6_readEither_64 ?_
          refine AW.callV (b := e) (As := [.ref (1000000 + 19)]) hG.2.2 (vX6_126 hG) (he.1 0 _ rfl) (k_X6_isWord hK (d := 4) (Nat.le_refl _) (k_txi hK k_s_19) hr (by assumption)) (by omega) dX6_readEither_66 rfl rfl (Nat.le_of_ble_eq_true rfl) (fun v w9 hq9 h09 => by obtain ⟨rfl, rfl⟩ := hq9; exact ⟨h09, rfl⟩) (by decide) (by decide) (fun _ _ hx => hx) (fun v66 w66 hq66 => ?_)
          obtain ⟨rfl, rfl⟩ := hq66
          refine AW.nam (fun x66 ex66 => ?_)
          refine AW.if_eq 93 dX6_readEither_69 (by decide) (fun h69 => ?_) (fun h69 => ?_)
          · rw [ex66] at h69
            have q69 := kb_0.mp h69
            exact AW.vret dX6_readEither_93 rfl (by decide) (by decide) (by
              have hV : (s9, l9) = x_lp tp n (x_both tp n (x_ex tp n r)) (x_oO tp n) 600 (x_both tp n (x_ex tp n r) (s, l)) := by
                rw [← hV9]
                show _ = (if s9.1 = 0 ∧ ¬ x_oO tp n s9.2 = 0 then _ else _)
                rw [if_neg (fun h => h.2 (show x_oO tp n s9.2 = 0 from if_neg (by rw [q69]; decide)))]
              refine ⟨rfl, J, rfl, ?_⟩
              show k_rq I J e u tp n (x_lp tp n (x_both tp n (x_ex tp n r)) (x_oO tp n) 600 (x_both tp n (x_ex tp n r) (s, l)))
              rw [← hV]
              exact ⟨hfJ, hs9, ht9⟩)
          · rw [ex66] at h69
            have q69 := kb_1.mp h69
            refine AW.aload_n dX6_readEither_72 rfl ?_
            refine AW.callV (b := e) (As := []) hG.2.2 (vX6_52 hG) (he.1 0 _ rfl) (k_X6_advS hK (d := 5) (Nat.le_refl _) hr (by assumption)) (by omega) dX6_readEither_73 rfl rfl (Nat.le_of_ble_eq_true rfl) (fun v w9 hq9 h09 => by obtain ⟨rfl, J9, rfl, -⟩ := hq9; exact ⟨h09, rfl⟩) (by decide) (by decide) (fun _ _ hx => hx) (fun v73 w73 hq73 => ?_)
            obtain ⟨rfl, I73, rfl, hr73⟩ := hq73
            have hs73 := k_rp_i hr73
            have ht73 := k_st_r hue (by assumption) hr73
            have hf73 := k_fr_t (by assumption) (k_fr_r (u := u) hr73)
            show AW G mX6_readEither d (fun v w => v = none ∧ ∃ J, w = (sh, J, R, L, g) ∧ k_rq I J e u tp n (x_ex tp n (r + 1) (s, l))) (fun _ _ => False) 76 [some (.ref e), some (.ref u), some (.int x), some (.int y)] [] (sh, I73, R, L, g) 0 0
            refine AW.aload_n dX6_readEither_76 rfl ?_
            refine AW.aload_n dX6_readEither_77 rfl ?_
            refine AW.iload_n dX6_readEither_78 rfl ?_
            refine AW.callV (b := e) (As := [.ref u, .int x]) hG.2.2 (vX6_224 hG) (he.1 0 _ rfl) (k_X6_readBoth hK (d := 14 + 7 * r) (Nat.le_refl _) hr hu hue (by assumption) (by assumption) hdd x (by assumption) ih) (by omega) dX6_readEither_79 rfl rfl (Nat.le_of_ble_eq_true rfl) (fun v w9 hq9 h09 => by obtain ⟨rfl, J9, rfl, -⟩ := hq9; exact ⟨h09, rfl⟩) (by decide) (by decide) (fun _ _ hx => hx) (fun v79 w79 hq79 => ?_)
            obtain ⟨rfl, I79, rfl, hg79, hs79, ht79⟩ := hq79
            have hf79 := k_fr_t (by assumption) hg79
            show AW G mX6_readEither d (fun v w => v = none ∧ ∃ J, w = (sh, J, R, L, g) ∧ k_rq I J e u tp n (x_ex tp n (r + 1) (s, l))) (fun _ _ => False) 82 [some (.ref e), some (.ref u), some (.int x), some (.int y)] [] (sh, I79, R, L, g) 0 0
            refine AW.aload_n dX6_readEither_82 rfl ?_
            refine AW.iconst (-1) dX6_readEither_83 (by decide) ?_
            refine AW.callV (b := u) (As := [.int (-1)]) hG.2.2 (vX6_231 hG) (hu.1 0 _ rfl) (k_X7_addL hK (d := 0) (Nat.le_refl _) hu (by assumption) (-1)) (by omega) dX6_readEither_84 rfl rfl (Nat.le_of_ble_eq_true rfl) (fun v w9 hq9 h09 => by obtain ⟨rfl, rfl⟩ := hq9; exact ⟨h09, rfl⟩) (by decide) (by decide) (fun _ _ hx => hx) (fun v84 w84 hq84 => ?_)
            obtain ⟨rfl, rfl⟩ := hq84
            refine AW.namI (fun I84 eI84 => ?_)
            show AW G mX6_readEither d (fun v w => v = none ∧ ∃ J, w = (sh, J, R, L, g) ∧ k_rq I J e u tp n (x_ex tp n (r + 1) (s, l))) (fun _ _ => False) 87 [some (.ref e), some (.ref u), some (.int x), some (.int y)] [] (sh, I84, R, L, g) 0 0
            have ho84 := k_add_e eI84
            have hs84 := k_s_u hue (by assumption) ho84
            have hf84 := k_fr_t (by assumption) (k_fr_u hue ho84)
            have ht84 := k_st_e eI84 (by assumption)
            refine AW.inc (fun x87 => [some (.ref e), some (.ref u), some (.int x), some (.int x87)]) dX6_readEither_87 rfl (by decide) rfl (fun _ => rfl) (fun x87 ex87 => ?_)
            refine AW.goto 49 dX6_readEither_90 (by decide) ?_
            exact ih49 (k49 + 1) (by omega) (by omega) _ _ (by
              have ov : x_oO tp n s9.2 = -1 := if_pos q69
              refine ⟨k_inc (by assumption) hy, hf84, _, _, hs84, ht84, ?_⟩
              rw [← hV9, show 600 - (k49 + 1) = f9 by omega]
              show _ = (if s9.1 = 0 ∧ ¬ x_oO tp n s9.2 = 0 then _ else _)
              rw [if_pos ⟨q60, by rw [ov]; decide⟩, ov])
    exact L49 0 (by omega) _ _ (⟨nI_0.symm, hf44, _, _, hs44, ht44, rfl⟩)
  · exact absurd (by rw [hx]; exact (nI_ltl rfl (m := 6) rfl (by omega) (by decide)).mpr (by omega)) h3
theorem k_X6_readEither {G : am_G} (hK : k_OK G) {sh : List (Nat ⊕ (Nat × Nat))} {R : Nat → Nat → Option Nat} {L : Nat → Nat → Int64} {g : Nat} {e n u : Nat} {tp : Nat → Int32} (hr : k_rd sh R e tp n) (hu : k_Rule sh R u) (hue : e + 2 ≤ u ∨ u + 3 ≤ e) : ∀ (r dd : Nat), dd + r = 6 → ∀ {d : Nat} (_ : 8 + 7 * r ≤ d) {I : Nat → Nat → Int32} {s : Int32 × Nat} {l : List Int32} (hs : k_s I e tp n s) (ht : k_st I u l) (x : Int32) (hx : x = nI dd), AM G mX6_readEither d [.ref e, .ref u, .int x] (sh, I, R, L, g) (fun v w => v = none ∧ ∃ J, w = (sh, J, R, L, g) ∧ k_rq I J e u tp n (x_ex tp n r (s, l))) (fun _ _ => False) := by
  intro r
  induction r with
  | zero => intro dd h d hd I s l hs ht x hx; exact k_X6_readEither0 hK (by omega) hr hu hue hs ht x (by rw [hx, show dd = 6 by omega])
  | succ r ih => intro dd h d hd I s l hs ht x hx; exact k_X6_readEitherS hK (by omega) hr hu hue hs ht (by omega) x hx (fun _ _ hd => ih (dd + 1) (by omega) hd)
theorem k_X6_readRuleE {G : am_G} (hK : k_OK G) {d : Nat} (hd : 50 ≤ d) {sh : List (Nat ⊕ (Nat × Nat))} {I : Nat → Nat → Int32} {R : Nat → Nat → Option Nat} {L : Nat → Nat → Int64} {g : Nat} {e n u : Nat} {tp : Nat → Int32} {s : Int32 × Nat} {l : List Int32} (hr : k_rd sh R e tp n) (hu : k_Rule sh R u) (hue : e + 2 ≤ u ∨ u + 3 ≤ e) (hs : k_s I e tp n s) (ht : k_st I u l) : AM G mX6_readEither d [.ref e, .ref u, .int 0] (sh, I, R, L, g) (fun v w => v = none ∧ ∃ J, w = (sh, J, R, L, g) ∧ k_rq I J e u tp n (x_ex tp n 6 (s, l))) (fun _ _ => False) := k_X6_readEither hK hr hu hue 6 0 rfl hd hs ht 0 rfl
