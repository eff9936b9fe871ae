/-! READER: SIGNS, WORDS, NUMBERS, PERSONS -/
theorem x_tk_le (tp : Nat → Int32) (n a : Nat) : x_tk tp n a ≤ 4 := by
  unfold x_tk
  split
  · decide
  · split
    · decide
    · split
      · decide
      · split <;> decide
theorem x_tk_e {tp : Nat → Int32} {n a k : Nat} (hk : k ≤ 4) : nI (x_tk tp n a) = nI k ↔ x_tk tp n a = k := nI_eq (by have := x_tk_le tp n a; omega) (by omega)
theorem x_tk_lt {tp : Nat → Int32} {n a : Nat} (h : ¬ x_tk tp n a = 0) : a < n := by
  rcases Nat.lt_or_ge a n with h1 | h1
  · exact h1
  · exact absurd (show x_tk tp n a = 0 from if_pos h1) h
/-- the reader, with its tape's bytes -/
def k_rd (sh : List (Nat ⊕ (Nat × Nat))) (R : Nat → Nat → Option Nat) (e : Nat) (tp : Nat → Int32) (n : Nat) : Prop := k_Reader sh R e ∧ n ≤ 600 ∧ ∀ j, j < 600 → -128 ≤ tp j ∧ tp j < 128
theorem k_X6_advS {G : am_G} (hK : k_OK G) {d : Nat} (hd : 5 ≤ d) {sh : List (Nat ⊕ (Nat × Nat))} {I : Nat → Nat → Int32} {R : Nat → Nat → Option Nat} {L : Nat → Nat → Int64} {g : Nat} {e n : Nat} {tp : Nat → Int32} {s : Int32 × Nat} (hr : k_rd sh R e tp n) (hs : k_s I e tp n s) : AM G mX6_advance d [.ref e] (sh, I, R, L, g) (fun v w => v = none ∧ ∃ J, w = (sh, J, R, L, g) ∧ k_rp I J e tp n (x_adv tp n s)) (fun _ _ => False) := by
  obtain ⟨h7, h1, h2, h4, h5, h6, ⟨p, hp, hp5, hrun, -⟩, -⟩ := id hs
  have h := k_X6_advance hK hd (L := L) (g := g) hr.1 hr.2.1 h1 h2 hr.2.2 hp5 hp (b := s.2) (fun _ => hs.2)
  have e9 : (if I e 7 = 0 then (0, x_run x_bl tp (n - p) p) else (I e 7, s.2)) = x_adv tp n s := by unfold x_adv; rw [h7, hrun]
  rw [e9] at h
  exact h
def x_rs (tp : Nat → Int32) (n : Nat) (c : Int32) (s : Int32 × Nat) : Int32 × Nat := x_adv tp n (if x_sg tp n s.2 c = true then s else x_fail 1 s)
def x_rn (tp : Nat → Int32) (n : Nat) (lo hi : Int32) (s : Int32 × Nat) : Int32 × Nat := x_adv tp n (if ¬ x_tk tp n s.2 = 2 then x_fail 1 s else if x_nu tp n s.2 = -1 ∨ x_nu tp n s.2 < lo ∨ ¬ x_nu tp n s.2 ≤ hi then x_fail 2 s else s)
def x_rv (tp : Nat → Int32) (n : Nat) (lo hi : Int32) (s : Int32 × Nat) : Int32 := if (x_rn tp n lo hi s).1 = 0 then x_nu tp n s.2 else -1
def x_pn (tp : Nat → Int32) (n pn : Nat) (tk : Int32) (s : Int32 × Nat) : Int32 × Nat := x_adv tp n (if ¬ x_tk tp n s.2 = 2 then x_fail 1 s else if x_nu tp n s.2 = -1 then x_fail 2 s else if ¬ x_nu tp n s.2 < nI pn then x_fail 3 s else if f_has tk (x_nu tp n s.2) = true then x_fail 4 s else s)
def x_pv (tp : Nat → Int32) (n pn : Nat) (tk : Int32) (s : Int32 × Nat) : Int32 := if (x_pn tp n pn tk s).1 = 0 then x_nu tp n s.2 else -1
theorem x_fail_n {c : Int32} (hc : ¬ c = 0) (s : Int32 × Nat) : ¬ (x_fail c s).1 = 0 := by unfold x_fail; split; exact hc; assumption
theorem x_adv_0 {tp : Nat → Int32} {n : Nat} {s : Int32 × Nat} (h : (x_adv tp n s).1 = 0) : s.1 = 0 := by
  unfold x_adv at h; split at h; assumption; exact h
theorem k_rp_t {I J K : Nat → Nat → Int32} {e n : Nat} {tp : Nat → Int32} {s s' : Int32 × Nat} (h1 : k_rp I J e tp n s) (h2 : k_rp J K e tp n s') : k_rp I K e tp n s' := ⟨fun a h => (h2.1 a h).trans (h1.1 a h), fun k h => (h2.2.1 k h).trans (h1.2.1 k h), h2.2.2⟩
theorem k_rp_r {I : Nat → Nat → Int32} {e n : Nat} {tp : Nat → Int32} {s : Int32 × Nat} (h : k_s I e tp n s) : k_rp I I e tp n s := ⟨fun _ _ => rfl, fun _ _ => rfl, h⟩
theorem dX6_isSign_0 : decode cX6_isSign 0 = .ok (.aload_n 0, 1) := by decide +kernel
theorem dX6_isSign_1 : decode cX6_isSign 1 = .ok (.getfield 55, 3) := by decide +kernel
theorem dX6_isSign_4 : decode cX6_isSign 4 = .ok (.iconst 3, 1) := by decide +kernel
theorem dX6_isSign_5 : decode cX6_isSign 5 = .ok (.if_icmp .ne 20, 3) := by decide +kernel
theorem dX6_isSign_8 : decode cX6_isSign 8 = .ok (.aload_n 0, 1) := by decide +kernel
theorem dX6_isSign_9 : decode cX6_isSign 9 = .ok (.getfield 9, 3) := by decide +kernel
theorem dX6_isSign_12 : decode cX6_isSign 12 = .ok (.aload_n 0, 1) := by decide +kernel
theorem dX6_isSign_13 : decode cX6_isSign 13 = .ok (.getfield 66, 3) := by decide +kernel
theorem dX6_isSign_16 : decode cX6_isSign 16 = .ok (.baload, 1) := by decide +kernel
theorem dX6_isSign_17 : decode cX6_isSign 17 = .ok (.iload_n 1, 1) := by decide +kernel
theorem dX6_isSign_18 : decode cX6_isSign 18 = .ok (.if_icmp .ne 7, 3) := by decide +kernel
theorem dX6_isSign_21 : decode cX6_isSign 21 = .ok (.iconst 1, 1) := by decide +kernel
theorem dX6_isSign_22 : decode cX6_isSign 22 = .ok (.goto 4, 3) := by decide +kernel
theorem dX6_isSign_25 : decode cX6_isSign 25 = .ok (.iconst 0, 1) := by decide +kernel
theorem dX6_isSign_26 : decode cX6_isSign 26 = .ok (.ireturn, 1) := by decide +kernel
set_option maxRecDepth 100000 in
set_option maxHeartbeats 4000000 in
theorem k_X6_isSign {G : am_G} (hK : k_OK G) {d : Nat} (hd : 0 ≤ d) {sh : List (Nat ⊕ (Nat × Nat))} {I : Nat → Nat → Int32} {R : Nat → Nat → Option Nat} {L : Nat → Nat → Int64} {g : Nat} {e n : Nat} {tp : Nat → Int32} {s : Int32 × Nat} (hr : k_rd sh R e tp n) (hs : k_s I e tp n s) (c : Int32) : AM G mX6_isSign d [.ref e, .int c] (sh, I, R, L, g) (fun v w => v = some (.int (kb (x_sg tp n s.2 c))) ∧ w = (sh, I, R, L, g)) (fun _ _ => False) := by
  have hG := hK.1
  have he := hr.1
  have hn6 := hr.2.1
  obtain ⟨h7, z1, z2, z4, z5, z6, ⟨p, hp, hp5, hrun, hpx⟩, z8⟩ := id hs
  have hca := k_lit z4 (by omega)
  refine AM.of (n := 0) (by decide +kernel) (Nat.le_of_ble_eq_true rfl) ?_
  show AW G mX6_isSign d (fun v w => v = some (.int (kb (x_sg tp n s.2 c))) ∧ w = (sh, I, R, L, g)) (fun _ _ => False) 0 [some (.ref e), some (.int c)] [] (sh, I, R, L, g) 0 0
  refine AW.aload_n dX6_isSign_0 rfl ?_
  refine AW.getI (fX6_55 hG).r rfl (he.1 0 _ rfl) dX6_isSign_1 ?_
  refine AW.iconst 3 dX6_isSign_4 (by decide) ?_
  refine AW.icmp_ne 25 dX6_isSign_5 (by decide) (fun h5 => ?_) (fun h5 => ?_)
  · rw [z6] at h5
    have q1 : ¬ x_tk tp n s.2 = 3 := fun h => h5 ((x_tk_e (by decide)).mpr h)
    refine AW.iconst 0 dX6_isSign_25 (by decide) ?_
    exact AW.zret dX6_isSign_26 rfl (by decide) (by decide) (by decide) (⟨by unfold x_sg; rw [decide_eq_false q1]; rfl, rfl⟩)
  · rw [z6] at h5
    have q1 : x_tk tp n s.2 = 3 := (x_tk_e (k := 3) (by decide)).mp h5
    have hlt := x_tk_lt (tp := tp) (n := n) (a := s.2) (by omega)
    have hbs : vp_in (I e 4) 600 := by rw [z4]; exact vp_in_nI (by omega) (by decide)
    refine AW.aload_n dX6_isSign_8 rfl ?_
    refine AW.getR (c' := (e + 1)) (fX6_9 hG).r rfl (he.1 0 _ rfl) (he.2 (0, 0, 1) (by decide)) dX6_isSign_9 ?_
    refine AW.aload_n dX6_isSign_12 rfl ?_
    refine AW.getI (fX6_66 hG).r rfl (he.1 0 _ rfl) dX6_isSign_13 ?_
    refine AW.bald (he.1 1 _ rfl) (by first | assumption | (unfold vp_in; decide) | exact vp_in_nI (by omega) (by decide)) dX6_isSign_16 ?_
    refine AW.iload_n dX6_isSign_17 rfl ?_
    refine AW.icmp_ne 25 dX6_isSign_18 (by decide) (fun h18 => ?_) (fun h18 => ?_)
    · rw [hca, z1] at h18
      refine AW.iconst 0 dX6_isSign_25 (by decide) ?_
      exact AW.zret dX6_isSign_26 rfl (by decide) (by decide) (by decide) (⟨by unfold x_sg; rw [decide_eq_false h18, Bool.and_false]; rfl, rfl⟩)
    · rw [hca, z1] at h18
      refine AW.iconst 1 dX6_isSign_21 (by decide) ?_
      refine AW.goto 26 dX6_isSign_22 (by decide) ?_
      exact AW.zret dX6_isSign_26 rfl (by decide) (by decide) (by decide) (⟨by unfold x_sg; rw [decide_eq_true q1, decide_eq_true h18]; rfl, rfl⟩)
theorem dX6_isWord_0 : decode cX6_isWord 0 = .ok (.aload_n 0, 1) := by decide +kernel
theorem dX6_isWord_1 : decode cX6_isWord 1 = .ok (.getfield 55, 3) := by decide +kernel
theorem dX6_isWord_4 : decode cX6_isWord 4 = .ok (.iconst 1, 1) := by decide +kernel
theorem dX6_isWord_5 : decode cX6_isWord 5 = .ok (.if_icmp .ne 19, 3) := by decide +kernel
theorem dX6_isWord_8 : decode cX6_isWord 8 = .ok (.aload_n 0, 1) := by decide +kernel
theorem dX6_isWord_9 : decode cX6_isWord 9 = .ok (.getfield 36, 3) := by decide +kernel
theorem dX6_isWord_12 : decode cX6_isWord 12 = .ok (.aload_n 0, 1) := by decide +kernel
theorem dX6_isWord_13 : decode cX6_isWord 13 = .ok (.getfield 66, 3) := by decide +kernel
theorem dX6_isWord_16 : decode cX6_isWord 16 = .ok (.isub, 1) := by decide +kernel
theorem dX6_isWord_17 : decode cX6_isWord 17 = .ok (.aload_n 1, 1) := by decide +kernel
theorem dX6_isWord_18 : decode cX6_isWord 18 = .ok (.invokevirtual 86, 3) := by decide +kernel
theorem dX6_isWord_21 : decode cX6_isWord 21 = .ok (.if_icmp .eq 5, 3) := by decide +kernel
theorem dX6_isWord_24 : decode cX6_isWord 24 = .ok (.iconst 0, 1) := by decide +kernel
theorem dX6_isWord_25 : decode cX6_isWord 25 = .ok (.ireturn, 1) := by decide +kernel
theorem dX6_isWord_26 : decode cX6_isWord 26 = .ok (.iconst 0, 1) := by decide +kernel
theorem dX6_isWord_27 : decode cX6_isWord 27 = .ok (.istore_n 2, 1) := by decide +kernel
theorem dX6_isWord_28 : decode cX6_isWord 28 = .ok (.iload_n 2, 1) := by decide +kernel
theorem dX6_isWord_29 : decode cX6_isWord 29 = .ok (.aload_n 1, 1) := by decide +kernel
theorem dX6_isWord_30 : decode cX6_isWord 30 = .ok (.invokevirtual 86, 3) := by decide +kernel
theorem dX6_isWord_33 : decode cX6_isWord 33 = .ok (.if_icmp .ge 30, 3) := by decide +kernel
theorem dX6_isWord_36 : decode cX6_isWord 36 = .ok (.aload_n 0, 1) := by decide +kernel
theorem dX6_isWord_37 : decode cX6_isWord 37 = .ok (.getfield 9, 3) := by decide +kernel
theorem dX6_isWord_40 : decode cX6_isWord 40 = .ok (.aload_n 0, 1) := by decide +kernel
theorem dX6_isWord_41 : decode cX6_isWord 41 = .ok (.getfield 66, 3) := by decide +kernel
theorem dX6_isWord_44 : decode cX6_isWord 44 = .ok (.iload_n 2, 1) := by decide +kernel
theorem dX6_isWord_45 : decode cX6_isWord 45 = .ok (.iadd, 1) := by decide +kernel
theorem dX6_isWord_46 : decode cX6_isWord 46 = .ok (.baload, 1) := by decide +kernel
theorem dX6_isWord_47 : decode cX6_isWord 47 = .ok (.aload_n 1, 1) := by decide +kernel
theorem dX6_isWord_48 : decode cX6_isWord 48 = .ok (.iload_n 2, 1) := by decide +kernel
theorem dX6_isWord_49 : decode cX6_isWord 49 = .ok (.invokevirtual 90, 3) := by decide +kernel
theorem dX6_isWord_52 : decode cX6_isWord 52 = .ok (.if_icmp .eq 5, 3) := by decide +kernel
theorem dX6_isWord_55 : decode cX6_isWord 55 = .ok (.iconst 0, 1) := by decide +kernel
theorem dX6_isWord_56 : decode cX6_isWord 56 = .ok (.ireturn, 1) := by decide +kernel
theorem dX6_isWord_57 : decode cX6_isWord 57 = .ok (.iinc 2 1, 3) := by decide +kernel
theorem dX6_isWord_60 : decode cX6_isWord 60 = .ok (.goto (-32), 3) := by decide +kernel
theorem dX6_isWord_63 : decode cX6_isWord 63 = .ok (.iconst 1, 1) := by decide +kernel
theorem dX6_isWord_64 : decode cX6_isWord 64 = .ok (.ireturn, 1) := by decide +kernel
set_option maxRecDepth 100000 in
set_option maxHeartbeats 4000000 in
theorem k_X6_isWord {G : am_G} (hK : k_OK G) {d : Nat} (hd : 4 ≤ d) {sh : List (Nat ⊕ (Nat × Nat))} {I : Nat → Nat → Int32} {R : Nat → Nat → Option Nat} {L : Nat → Nat → Int64} {g : Nat} {j : Nat} {bs : List Int32} (ht : k_tx G j bs) {e n : Nat} {tp : Nat → Int32} {s : Int32 × Nat} (hr : k_rd sh R e tp n) (hs : k_s I e tp n s) : AM G mX6_isWord d [.ref e, .ref (1000000 + j)] (sh, I, R, L, g) (fun v w => v = some (.int (kb (x_wd tp n s.2 bs))) ∧ w = (sh, I, R, L, g)) (fun _ _ => False) := by
  have hG := hK.1
  have he := hr.1
  have hn6 := hr.2.1
  obtain ⟨h7, z1, z2, z4, z5, z6, ⟨p, hp, hp5, hrun, hpx⟩, z8⟩ := id hs
  have hca := k_lit z4 (by omega)
  have hL := ht.2.1
  refine AM.of (n := 1) (by decide +kernel) (Nat.le_of_ble_eq_true rfl) ?_
  show AW G mX6_isWord d (fun v w => v = some (.int (kb (x_wd tp n s.2 bs))) ∧ w = (sh, I, R, L, g)) (fun _ _ => False) 0 [some (.ref e), some (.ref (1000000 + j)), none] [] (sh, I, R, L, g) 0 0
  refine AW.aload_n dX6_isWord_0 rfl ?_
  refine AW.getI (fX6_55 hG).r rfl (he.1 0 _ rfl) dX6_isWord_1 ?_
  refine AW.iconst 1 dX6_isWord_4 (by decide) ?_
  refine AW.icmp_ne 24 dX6_isWord_5 (by decide) (fun h5 => ?_) (fun h5 => ?_)
  · rw [z6] at h5
    have q1 : ¬ x_tk tp n s.2 = 1 := fun h => h5 ((x_tk_e (by decide)).mpr h)
    refine AW.iconst 0 dX6_isWord_24 (by decide) ?_
    exact AW.zret dX6_isWord_25 rfl (by decide) (by decide) (by decide) (⟨by unfold x_wd; rw [decide_eq_false q1]; rfl, rfl⟩)
  · rw [z6] at h5
    have q1 : x_tk tp n s.2 = 1 := (x_tk_e (k := 1) (by decide)).mp h5
    have hlt := x_tk_lt (tp := tp) (n := n) (a := s.2) (by omega)
    have hxb := x_nx_b tp hlt
    have hpe := hpx hlt
    refine AW.aload_n dX6_isWord_8 rfl ?_
    refine AW.getI (fX6_36 hG).r rfl (he.1 0 _ rfl) dX6_isWord_9 ?_
    refine AW.aload_n dX6_isWord_12 rfl ?_
    refine AW.getI (fX6_66 hG).r rfl (he.1 0 _ rfl) dX6_isWord_13 ?_
    refine AW.isub dX6_isWord_16 ?_
    refine AW.aload_n dX6_isWord_17 rfl ?_
    refine AW.callX (As := []) hG.2.2 (vX6_86 hG) ht (k_length hK (d := 1) (Nat.le_refl _) ht) (by omega) dX6_isWord_18 rfl rfl (Nat.le_of_ble_eq_true rfl) (fun v w9 hq9 h09 => by obtain ⟨rfl, rfl⟩ := hq9; exact ⟨h09, rfl⟩) (by decide) (by decide) (fun _ _ hx => hx) (fun v18 w18 hq18 => ?_)
    obtain ⟨rfl, rfl⟩ := hq18
    refine AW.nam (fun x18 ex18 => ?_)
    refine AW.icmp_eq 26 dX6_isWord_21 (by decide) (fun h21 => ?_) (fun h21 => ?_)
    · rw [hp5, z4, nI_subI (by omega), ex18, hpe] at h21
      have q2 : x_nx tp n s.2 - s.2 = bs.length := (nI_eq (by omega) (by omega)).mp h21
      refine AW.iconst 0 dX6_isWord_26 (by decide) ?_
      refine AW.is_n [some (.ref e), some (.ref (1000000 + j)), some (.int 0)] dX6_isWord_27 (by decide) rfl rfl ?_
      have L28 : ∀ k28, k28 ≤ bs.length → ∀ (y : Int32), (y = nI k28 ∧ lall (fun i => decide (tp (s.2 + i) = bs.getD i 0)) k28 = true) → AW G mX6_isWord d (fun v w => v = some (.int (kb (x_wd tp n s.2 bs))) ∧ w = (sh, I, R, L, g)) (fun _ _ => False) 28 [some (.ref e), some (.ref (1000000 + j)), some (.int y)] [] (sh, I, R, L, g) 0 0 := by
        refine am_rec (bs.length) (fun k28 hk28 ih28 => ?_)
        intro y hi28
        obtain ⟨hy, ha⟩ := hi28
        refine AW.iload_n dX6_isWord_28 rfl ?_
        refine AW.aload_n dX6_isWord_29 rfl ?_
        refine AW.callX (As := []) hG.2.2 (vX6_86 hG) ht (k_length hK (d := 1) (Nat.le_refl _) ht) (by omega) dX6_isWord_30 rfl rfl (Nat.le_of_ble_eq_true rfl) (fun v w9 hq9 h09 => by obtain ⟨rfl, rfl⟩ := hq9; exact ⟨h09, rfl⟩) (by decide) (by decide) (fun _ _ hx => hx) (fun v30 w30 hq30 => ?_)
        obtain ⟨rfl, rfl⟩ := hq30
        refine AW.nam (fun x30 ex30 => ?_)
        refine AW.icmp_ge 63 dX6_isWord_33 (by decide) (fun h33 => ?_) (fun h33 => ?_)
        · have hke := k_ge h33 hy ex30 hk28 (by omega)
          rw [hke] at ha
          refine AW.iconst 1 dX6_isWord_63 (by decide) ?_
          exact AW.zret dX6_isWord_64 rfl (by decide) (by decide) (by decide) (⟨by unfold x_wd; rw [decide_eq_true q1, decide_eq_true q2, ha]; rfl, rfl⟩)
        · have hlt2 := k_lt h33 hy ex30 hk28 (by omega)
          have hix : I e 4 + y = nI (s.2 + k28) := by rw [z4, hy, nI_add]
          have hbi : vp_in (I e 4 + y) 600 := by rw [hix]; exact vp_in_nI (by omega) (by decide)
          have hci : (I e 4 + y).toNatClampNeg = s.2 + k28 := k_lit hix (by omega)
          have hby2 : vp_in y bs.length := by rw [hy]; exact vp_in_nI hlt2 (by omega)
          have hcy : y.toNatClampNeg = k28 := k_lit hy (by omega)
          refine AW.aload_n dX6_isWord_36 rfl ?_
          refine AW.getR (c' := (e + 1)) (fX6_9 hG).r rfl (he.1 0 _ rfl) (he.2 (0, 0, 1) (by decide)) dX6_isWord_37 ?_
          refine AW.aload_n dX6_isWord_40 rfl ?_
          refine AW.getI (fX6_66 hG).r rfl (he.1 0 _ rfl) dX6_isWord_41 ?_
          refine AW.iload_n dX6_isWord_44 rfl ?_
          refine AW.iadd dX6_isWord_45 ?_
          refine AW.bald (he.1 1 _ rfl) (by first | assumption | (unfold vp_in; decide) | exact vp_in_nI (by omega) (by decide)) dX6_isWord_46 ?_
          refine AW.aload_n dX6_isWord_47 rfl ?_
          refine AW.iload_n dX6_isWord_48 rfl ?_
          refine AW.callX (As := [.int y]) hG.2.2 (vX6_90 hG) ht (k_charAt hK (d := 3) (Nat.le_refl _) ht y (by assumption)) (by omega) dX6_isWord_49 rfl rfl (Nat.le_of_ble_eq_true rfl) (fun v w9 hq9 h09 => by obtain ⟨rfl, rfl⟩ := hq9; exact ⟨h09, rfl⟩) (by decide) (by decide) (fun _ _ hx => hx) (fun v49 w49 hq49 => ?_)
          obtain ⟨rfl, rfl⟩ := hq49
          refine AW.nam (fun x49 ex49 => ?_)
          refine AW.icmp_eq 57 dX6_isWord_52 (by decide) (fun h52 => ?_) (fun h52 => ?_)
          · rw [hci, z1, ex49, hcy] at h52
            refine AW.inc (fun x57 => [some (.ref e), some (.ref (1000000 + j)), some (.int x57)]) dX6_isWord_57 rfl (by decide) rfl (fun _ => rfl) (fun x57 ex57 => ?_)
            refine AW.goto 28 dX6_isWord_60 (by decide) ?_
            exact ih28 (k28 + 1) (by omega) (by omega) _ (⟨k_inc (by assumption) hy, (show (lall (fun i => decide (tp (s.2 + i) = bs.getD i 0)) k28 && decide (tp (s.2 + k28) = bs.getD k28 0)) = true by rw [ha, decide_eq_true h52]; rfl)⟩)
          · rw [hci, z1, ex49, hcy] at h52
            refine AW.iconst 0 dX6_isWord_55 (by decide) ?_
            exact AW.zret dX6_isWord_56 rfl (by decide) (by decide) (by decide) (⟨by unfold x_wd; rw [lall_no hlt2 (decide_eq_false h52), Bool.and_false, Bool.and_false]; rfl, rfl⟩)
      exact L28 0 (by omega) _ (⟨nI_0.symm, rfl⟩)
    · rw [hp5, z4, nI_subI (by omega), ex18, hpe] at h21
      have q2 : ¬ x_nx tp n s.2 - s.2 = bs.length := fun h => h21 (by rw [h])
      refine AW.iconst 0 dX6_isWord_24 (by decide) ?_
      exact AW.zret dX6_isWord_25 rfl (by decide) (by decide) (by decide) (⟨by unfold x_wd; rw [decide_eq_false q2, Bool.false_and, Bool.and_false]; rfl, rfl⟩)
theorem dX6_readSign_0 : decode cX6_readSign 0 = .ok (.aload_n 0, 1) := by decide +kernel
theorem dX6_readSign_1 : decode cX6_readSign 1 = .ok (.iload_n 1, 1) := by decide +kernel
theorem dX6_readSign_2 : decode cX6_readSign 2 = .ok (.invokevirtual 216, 3) := by decide +kernel
theorem dX6_readSign_5 : decode cX6_readSign 5 = .ok (.ifCond .ne 8, 3) := by decide +kernel
theorem dX6_readSign_8 : decode cX6_readSign 8 = .ok (.aload_n 0, 1) := by decide +kernel
theorem dX6_readSign_9 : decode cX6_readSign 9 = .ok (.iconst 1, 1) := by decide +kernel
theorem dX6_readSign_10 : decode cX6_readSign 10 = .ok (.invokevirtual 97, 3) := by decide +kernel
theorem dX6_readSign_13 : decode cX6_readSign 13 = .ok (.aload_n 0, 1) := by decide +kernel
theorem dX6_readSign_14 : decode cX6_readSign 14 = .ok (.invokevirtual 52, 3) := by decide +kernel
theorem dX6_readSign_17 : decode cX6_readSign 17 = .ok (.return_, 1) := by decide +kernel
set_option maxRecDepth 100000 in
set_option maxHeartbeats 4000000 in
theorem k_X6_readSign {G : am_G} (hK : k_OK G) {d : Nat} (hd : 6 ≤ d) {sh : List (Nat ⊕ (Nat × Nat))} {I : Nat → Nat → Int32} {R : Nat → Nat → Option Nat} {L : Nat → Nat → Int64} {g : Nat} {e n : Nat} {tp : Nat → Int32} {s : Int32 × Nat} (hr : k_rd sh R e tp n) (hs : k_s I e tp n s) (c : Int32) : AM G mX6_readSign d [.ref e, .int c] (sh, I, R, L, g) (fun v w => v = none ∧ ∃ J, w = (sh, J, R, L, g) ∧ k_rp I J e tp n (x_rs tp n c s)) (fun _ _ => False) := by
  have hG := hK.1
  have he := hr.1
  have hn6 := hr.2.1
  refine AM.of (n := 0) (by decide +kernel) (Nat.le_of_ble_eq_true rfl) ?_
  show AW G mX6_readSign d (fun v w => v = none ∧ ∃ J, w = (sh, J, R, L, g) ∧ k_rp I J e tp n (x_rs tp n c s)) (fun _ _ => False) 0 [some (.ref e), some (.int c)] [] (sh, I, R, L, g) 0 0
  refine AW.aload_n dX6_readSign_0 rfl ?_
  refine AW.iload_n dX6_readSign_1 rfl ?_
  refine AW.callV (b := e) (As := [.int c]) hG.2.2 (vX6_216 hG) (he.1 0 _ rfl) (k_X6_isSign hK (d := 0) (Nat.le_refl _) hr (by assumption) c) (by omega) dX6_readSign_2 rfl rfl (Nat.le_of_ble_eq_true rfl) (fun v w9 hq9 h09 => by obtain ⟨rfl, rfl⟩ := hq9; exact ⟨h09, rfl⟩) (by decide) (by decide) (fun _ _ hx => hx) (fun v2 w2 hq2 => ?_)
  obtain ⟨rfl, rfl⟩ := hq2
  refine AW.nam (fun x2 ex2 => ?_)
  refine AW.if_ne 13 dX6_readSign_5 (by decide) (fun h5 => ?_) (fun h5 => ?_)
  · rw [ex2] at h5
    have q1 := kb_1.mp h5
    refine AW.aload_n dX6_readSign_13 rfl ?_
    refine AW.callV (b := e) (As := []) hG.2.2 (vX6_52 hG) (he.1 0 _ rfl) (k_X6_advS hK (d := 5) (Nat.le_refl _) hr (by assumption)) (by omega) dX6_readSign_14 rfl rfl (Nat.le_of_ble_eq_true rfl) (fun v w9 hq9 h09 => by obtain ⟨rfl, J9, rfl, -⟩ := hq9; exact ⟨h09, rfl⟩) (by decide) (by decide) (fun _ _ hx => hx) (fun v14 w14 hq14 => ?_)
    obtain ⟨rfl, I14, rfl, hr14⟩ := hq14
    have hs14 := k_rp_i hr14
    show AW G mX6_readSign d (fun v w => v = none ∧ ∃ J, w = (sh, J, R, L, g) ∧ k_rp I J e tp n (x_rs tp n c s)) (fun _ _ => False) 17 [some (.ref e), some (.int c)] [] (sh, I14, R, L, g) 0 0
    exact AW.vret dX6_readSign_17 rfl (by decide) (by decide) (⟨rfl, I14, rfl, by unfold x_rs; rw [if_pos q1]; exact hr14⟩)
  · rw [ex2] at h5
    have q1 := kb_0.mp h5
    refine AW.aload_n dX6_readSign_8 rfl ?_
    refine AW.iconst 1 dX6_readSign_9 (by decide) ?_
    refine AW.callV (b := e) (As := [.int 1]) hG.2.2 (vX6_97 hG) (he.1 0 _ rfl) (k_X6_fail hK (d := 0) (Nat.le_refl _) he (by assumption) 1) (by omega) dX6_readSign_10 rfl rfl (Nat.le_of_ble_eq_true rfl) (fun v w9 hq9 h09 => by obtain ⟨rfl, J9, rfl, -⟩ := hq9; exact ⟨h09, rfl⟩) (by decide) (by decide) (fun _ _ hx => hx) (fun v10 w10 hq10 => ?_)
    obtain ⟨rfl, I10, rfl, hr10⟩ := hq10
    have hs10 := k_rp_i hr10
    show AW G mX6_readSign d (fun v w => v = none ∧ ∃ J, w = (sh, J, R, L, g) ∧ k_rp I J e tp n (x_rs tp n c s)) (fun _ _ => False) 13 [some (.ref e), some (.int c)] [] (sh, I10, R, L, g) 0 0
    refine AW.aload_n dX6_readSign_13 rfl ?_
    refine AW.callV (b := e) (As := []) hG.2.2 (vX6_52 hG) (he.1 0 _ rfl) (k_X6_advS hK (d := 5) (Nat.le_refl _) hr (by assumption)) (by omega) dX6_readSign_14 rfl rfl (Nat.le_of_ble_eq_true rfl) (fun v w9 hq9 h09 => by obtain ⟨rfl, J9, rfl, -⟩ := hq9; exact ⟨h09, rfl⟩) (by decide) (by decide) (fun _ _ hx => hx) (fun v14 w14 hq14 => ?_)
    obtain ⟨rfl, I14, rfl, hr14⟩ := hq14
    have hs14 := k_rp_i hr14
    show AW G mX6_readSign d (fun v w => v = none ∧ ∃ J, w = (sh, J, R, L, g) ∧ k_rp I J e tp n (x_rs tp n c s)) (fun _ _ => False) 17 [some (.ref e), some (.int c)] [] (sh, I14, R, L, g) 0 0
    exact AW.vret dX6_readSign_17 rfl (by decide) (by decide) (⟨rfl, I14, rfl, by unfold x_rs; rw [if_neg (by rw [q1]; decide)]; exact k_rp_t hr10 hr14⟩)
theorem dX6_readNumber_0 : decode cX6_readNumber 0 = .ok (.aload_n 0, 1) := by decide +kernel
theorem dX6_readNumber_1 : decode cX6_readNumber 1 = .ok (.getfield 76, 3) := by decide +kernel
theorem dX6_readNumber_4 : decode cX6_readNumber 4 = .ok (.istore_n 3, 1) := by decide +kernel
theorem dX6_readNumber_5 : decode cX6_readNumber 5 = .ok (.aload_n 0, 1) := by decide +kernel
theorem dX6_readNumber_6 : decode cX6_readNumber 6 = .ok (.getfield 55, 3) := by decide +kernel
theorem dX6_readNumber_9 : decode cX6_readNumber 9 = .ok (.iconst 2, 1) := by decide +kernel
theorem dX6_readNumber_10 : decode cX6_readNumber 10 = .ok (.if_icmp .eq 11, 3) := by decide +kernel
theorem dX6_readNumber_13 : decode cX6_readNumber 13 = .ok (.aload_n 0, 1) := by decide +kernel
theorem dX6_readNumber_14 : decode cX6_readNumber 14 = .ok (.iconst 1, 1) := by decide +kernel
theorem dX6_readNumber_15 : decode cX6_readNumber 15 = .ok (.invokevirtual 97, 3) := by decide +kernel
theorem dX6_readNumber_18 : decode cX6_readNumber 18 = .ok (.goto 23, 3) := by decide +kernel
theorem dX6_readNumber_21 : decode cX6_readNumber 21 = .ok (.iload_n 3, 1) := by decide +kernel
theorem dX6_readNumber_22 : decode cX6_readNumber 22 = .ok (.iconst (-1), 1) := by decide +kernel
theorem dX6_readNumber_23 : decode cX6_readNumber 23 = .ok (.if_icmp .eq 13, 3) := by decide +kernel
theorem dX6_readNumber_26 : decode cX6_readNumber 26 = .ok (.iload_n 3, 1) := by decide +kernel
theorem dX6_readNumber_27 : decode cX6_readNumber 27 = .ok (.iload_n 1, 1) := by decide +kernel
theorem dX6_readNumber_28 : decode cX6_readNumber 28 = .ok (.if_icmp .lt 8, 3) := by decide +kernel
theorem dX6_readNumber_31 : decode cX6_readNumber 31 = .ok (.iload_n 3, 1) := by decide +kernel
theorem dX6_readNumber_32 : decode cX6_readNumber 32 = .ok (.iload_n 2, 1) := by decide +kernel
theorem dX6_readNumber_33 : decode cX6_readNumber 33 = .ok (.if_icmp .le 8, 3) := by decide +kernel
theorem dX6_readNumber_36 : decode cX6_readNumber 36 = .ok (.aload_n 0, 1) := by decide +kernel
theorem dX6_readNumber_37 : decode cX6_readNumber 37 = .ok (.iconst 2, 1) := by decide +kernel
theorem dX6_readNumber_38 : decode cX6_readNumber 38 = .ok (.invokevirtual 97, 3) := by decide +kernel
theorem dX6_readNumber_41 : decode cX6_readNumber 41 = .ok (.aload_n 0, 1) := by decide +kernel
theorem dX6_readNumber_42 : decode cX6_readNumber 42 = .ok (.invokevirtual 52, 3) := by decide +kernel
theorem dX6_readNumber_45 : decode cX6_readNumber 45 = .ok (.aload_n 0, 1) := by decide +kernel
theorem dX6_readNumber_46 : decode cX6_readNumber 46 = .ok (.getfield 39, 3) := by decide +kernel
theorem dX6_readNumber_49 : decode cX6_readNumber 49 = .ok (.ifCond .ne 7, 3) := by decide +kernel
theorem dX6_readNumber_52 : decode cX6_readNumber 52 = .ok (.iload_n 3, 1) := by decide +kernel
theorem dX6_readNumber_53 : decode cX6_readNumber 53 = .ok (.goto 4, 3) := by decide +kernel
theorem dX6_readNumber_56 : decode cX6_readNumber 56 = .ok (.iconst (-1), 1) := by decide +kernel
theorem dX6_readNumber_57 : decode cX6_readNumber 57 = .ok (.ireturn, 1) := by decide +kernel
set_option maxRecDepth 100000 in
set_option maxHeartbeats 4000000 in
theorem k_X6_readNumber {G : am_G} (hK : k_OK G) {d : Nat} (hd : 6 ≤ d) {sh : List (Nat ⊕ (Nat × Nat))} {I : Nat → Nat → Int32} {R : Nat → Nat → Option Nat} {L : Nat → Nat → Int64} {g : Nat} {e n : Nat} {tp : Nat → Int32} {s : Int32 × Nat} (hr : k_rd sh R e tp n) (hs : k_s I e tp n s) (lo hi : Int32) : AM G mX6_readNumber d [.ref e, .int lo, .int hi] (sh, I, R, L, g) (fun v w => v = some (.int (x_rv tp n lo hi s)) ∧ ∃ J, w = (sh, J, R, L, g) ∧ k_rp I J e tp n (x_rn tp n lo hi s)) (fun _ _ => False) := by
  have hG := hK.1
  have he := hr.1
  have hn6 := hr.2.1
  obtain ⟨h7, z1, z2, z4, z5, z6, ⟨p, hp, hp5, hrun, hpx⟩, z8⟩ := id hs
  refine AM.of (n := 1) (by decide +kernel) (Nat.le_of_ble_eq_true rfl) ?_
  show AW G mX6_readNumber d (fun v w => v = some (.int (x_rv tp n lo hi s)) ∧ ∃ J, w = (sh, J, R, L, g) ∧ k_rp I J e tp n (x_rn tp n lo hi s)) (fun _ _ => False) 0 [some (.ref e), some (.int lo), some (.int hi), none] [] (sh, I, R, L, g) 0 0
  refine AW.aload_n dX6_readNumber_0 rfl ?_
  refine AW.getI (fX6_76 hG).r rfl (he.1 0 _ rfl) dX6_readNumber_1 ?_
  refine AW.nam (fun x4 ex4 => ?_)
  refine AW.is_n [some (.ref e), some (.int lo), some (.int hi), some (.int x4)] dX6_readNumber_4 (by decide) rfl rfl ?_
  refine AW.aload_n dX6_readNumber_5 rfl ?_
  refine AW.getI (fX6_55 hG).r rfl (he.1 0 _ rfl) dX6_readNumber_6 ?_
  refine AW.iconst 2 dX6_readNumber_9 (by decide) ?_
  refine AW.icmp_eq 21 dX6_readNumber_10 (by decide) (fun h10 => ?_) (fun h10 => ?_)
  · rw [z6] at h10
    have q1 : x_tk tp n s.2 = 2 := (x_tk_e (k := 2) (by decide)).mp h10
    have hnu : x4 = x_nu tp n s.2 := ex4.trans (z8 q1)
    refine AW.iload_n dX6_readNumber_21 rfl ?_
    refine AW.iconst (-1) dX6_readNumber_22 (by decide) ?_
    refine AW.icmp_eq 36 dX6_readNumber_23 (by decide) (fun h23 => ?_) (fun h23 => ?_)
    · have q23 := h23
      rw [hnu] at q23
      refine AW.aload_n dX6_readNumber_36 rfl ?_
      refine AW.iconst 2 dX6_readNumber_37 (by decide) ?_
      refine AW.callV (b := e) (As := [.int 2]) hG.2.2 (vX6_97 hG) (he.1 0 _ rfl) (k_X6_fail hK (d := 0) (Nat.le_refl _) he (by assumption) 2) (by omega) dX6_readNumber_38 rfl rfl (Nat.le_of_ble_eq_true rfl) (fun v w9 hq9 h09 => by obtain ⟨rfl, J9, rfl, -⟩ := hq9; exact ⟨h09, rfl⟩) (by decide) (by decide) (fun _ _ hx => hx) (fun v38 w38 hq38 => ?_)
      obtain ⟨rfl, I38, rfl, hr38⟩ := hq38
      have hs38 := k_rp_i hr38
      show AW G mX6_readNumber d (fun v w => v = some (.int (x_rv tp n lo hi s)) ∧ ∃ J, w = (sh, J, R, L, g) ∧ k_rp I J e tp n (x_rn tp n lo hi s)) (fun _ _ => False) 41 [some (.ref e), some (.int lo), some (.int hi), some (.int x4)] [] (sh, I38, R, L, g) 0 0
      refine AW.aload_n dX6_readNumber_41 rfl ?_
      refine AW.callV (b := e) (As := []) hG.2.2 (vX6_52 hG) (he.1 0 _ rfl) (k_X6_advS hK (d := 5) (Nat.le_refl _) hr (by assumption)) (by omega) dX6_readNumber_42 rfl rfl (Nat.le_of_ble_eq_true rfl) (fun v w9 hq9 h09 => by obtain ⟨rfl, J9, rfl, -⟩ := hq9; exact ⟨h09, rfl⟩) (by decide) (by decide) (fun _ _ hx => hx) (fun v42 w42 hq42 => ?_)
      obtain ⟨rfl, I42, rfl, hr42⟩ := hq42
      have hs42 := k_rp_i hr42
      show AW G mX6_readNumber d (fun v w => v = some (.int (x_rv tp n lo hi s)) ∧ ∃ J, w = (sh, J, R, L, g) ∧ k_rp I J e tp n (x_rn tp n lo hi s)) (fun _ _ => False) 45 [some (.ref e), some (.int lo), some (.int hi), some (.int x4)] [] (sh, I42, R, L, g) 0 0
      refine AW.aload_n dX6_readNumber_45 rfl ?_
      refine AW.getI (fX6_39 hG).r rfl (he.1 0 _ rfl) dX6_readNumber_46 ?_
      refine AW.if_ne 56 dX6_readNumber_49 (by decide) (fun h49 => ?_) (fun h49 => ?_)
      · refine AW.iconst (-1) dX6_readNumber_56 (by decide) ?_
        exact AW.iret dX6_readNumber_57 rfl (by decide) (by decide) (⟨by rw [show x_rv tp n lo hi s = -1 from if_neg (by unfold x_rn; rw [if_neg (fun h => h q1), if_pos (Or.inl q23)]; rw [← hs42.1]; exact h49)], I42, rfl, by unfold x_rn; rw [if_neg (fun h => h q1), if_pos (Or.inl q23)]; exact (k_rp_t hr38 hr42)⟩)
      · exact absurd (x_adv_0 (hs42.1.symm.trans h49)) (x_fail_n (by decide) _)
    · have q23 := h23
      rw [hnu] at q23
      refine AW.iload_n dX6_readNumber_26 rfl ?_
      refine AW.iload_n dX6_readNumber_27 rfl ?_
      refine AW.icmp_lt 36 dX6_readNumber_28 (by decide) (fun h28 => ?_) (fun h28 => ?_)
      · have q28 := h28
        rw [hnu] at q28
        refine AW.aload_n dX6_readNumber_36 rfl ?_
        refine AW.iconst 2 dX6_readNumber_37 (by decide) ?_
        refine AW.callV (b := e) (As := [.int 2]) hG.2.2 (vX6_97 hG) (he.1 0 _ rfl) (k_X6_fail hK (d := 0) (Nat.le_refl _) he (by assumption) 2) (by omega) dX6_readNumber_38 rfl rfl (Nat.le_of_ble_eq_true rfl) (fun v w9 hq9 h09 => by obtain ⟨rfl, J9, rfl, -⟩ := hq9; exact ⟨h09, rfl⟩) (by decide) (by decide) (fun _ _ hx => hx) (fun v38 w38 hq38 => ?_)
        obtain ⟨rfl, I38, rfl, hr38⟩ := hq38
        have hs38 := k_rp_i hr38
        show AW G mX6_readNumber d (fun v w => v = some (.int (x_rv tp n lo hi s)) ∧ ∃ J, w = (sh, J, R, L, g) ∧ k_rp I J e tp n (x_rn tp n lo hi s)) (fun _ _ => False) 41 [some (.ref e), some (.int lo), some (.int hi), some (.int x4)] [] (sh, I38, R, L, g) 0 0
        refine AW.aload_n dX6_readNumber_41 rfl ?_
        refine AW.callV (b := e) (As := []) hG.2.2 (vX6_52 hG) (he.1 0 _ rfl) (k_X6_advS hK (d := 5) (Nat.le_refl _) hr (by assumption)) (by omega) dX6_readNumber_42 rfl rfl (Nat.le_of_ble_eq_true rfl) (fun v w9 hq9 h09 => by obtain ⟨rfl, J9, rfl, -⟩ := hq9; exact ⟨h09, rfl⟩) (by decide) (by decide) (fun _ _ hx => hx) (fun v42 w42 hq42 => ?_)
        obtain ⟨rfl, I42, rfl, hr42⟩ := hq42
        have hs42 := k_rp_i hr42
        show AW G mX6_readNumber d (fun v w => v = some (.int (x_rv tp n lo hi s)) ∧ ∃ J, w = (sh, J, R, L, g) ∧ k_rp I J e tp n (x_rn tp n lo hi s)) (fun _ _ => False) 45 [some (.ref e), some (.int lo), some (.int hi), some (.int x4)] [] (sh, I42, R, L, g) 0 0
        refine AW.aload_n dX6_readNumber_45 rfl ?_
        refine AW.getI (fX6_39 hG).r rfl (he.1 0 _ rfl) dX6_readNumber_46 ?_
        refine AW.if_ne 56 dX6_readNumber_49 (by decide) (fun h49 => ?_) (fun h49 => ?_)
        · refine AW.iconst (-1) dX6_readNumber_56 (by decide) ?_
          exact AW.iret dX6_readNumber_57 rfl (by decide) (by decide) (⟨by rw [show x_rv tp n lo hi s = -1 from if_neg (by unfold x_rn; rw [if_neg (fun h => h q1), if_pos (Or.inr (Or.inl q28))]; rw [← hs42.1]; exact h49)], I42, rfl, by unfold x_rn; rw [if_neg (fun h => h q1), if_pos (Or.inr (Or.inl q28))]; exact (k_rp_t hr38 hr42)⟩)
        · exact absurd (x_adv_0 (hs42.1.symm.trans h49)) (x_fail_n (by decide) _)
      · have q28 := h28
        rw [hnu] at q28
        refine AW.iload_n dX6_readNumber_31 rfl ?_
        refine AW.iload_n dX6_readNumber_32 rfl ?_
        refine AW.icmp_le 41 dX6_readNumber_33 (by decide) (fun h33 => ?_) (fun h33 => ?_)
        · have q33 := h33
          rw [hnu] at q33
          refine AW.aload_n dX6_readNumber_41 rfl ?_
          refine AW.callV (b := e) (As := []) hG.2.2 (vX6_52 hG) (he.1 0 _ rfl) (k_X6_advS hK (d := 5) (Nat.le_refl _) hr (by assumption)) (by omega) dX6_readNumber_42 rfl rfl (Nat.le_of_ble_eq_true rfl) (fun v w9 hq9 h09 => by obtain ⟨rfl, J9, rfl, -⟩ := hq9; exact ⟨h09, rfl⟩) (by decide) (by decide) (fun _ _ hx => hx) (fun v42 w42 hq42 => ?_)
          obtain ⟨rfl, I42, rfl, hr42⟩ := hq42
          have hs42 := k_rp_i hr42
          show AW G mX6_readNumber d (fun v w => v = some (.int (x_rv tp n lo hi s)) ∧ ∃ J, w = (sh, J, R, L, g) ∧ k_rp I J e tp n (x_rn tp n lo hi s)) (fun _ _ => False) 45 [some (.ref e), some (.int lo), some (.int hi), some (.int x4)] [] (sh, I42, R, L, g) 0 0
          refine AW.aload_n dX6_readNumber_45 rfl ?_
          refine AW.getI (fX6_39 hG).r rfl (he.1 0 _ rfl) dX6_readNumber_46 ?_
          refine AW.if_ne 56 dX6_readNumber_49 (by decide) (fun h49 => ?_) (fun h49 => ?_)
          · refine AW.iconst (-1) dX6_readNumber_56 (by decide) ?_
            exact AW.iret dX6_readNumber_57 rfl (by decide) (by decide) (⟨by rw [show x_rv tp n lo hi s = -1 from if_neg (by unfold x_rn; rw [if_neg (fun h => h q1), if_neg (by rintro (h | h | h); exact q23 h; exact q28 h; exact h q33)]; rw [← hs42.1]; exact h49)], I42, rfl, by unfold x_rn; rw [if_neg (fun h => h q1), if_neg (by rintro (h | h | h); exact q23 h; exact q28 h; exact h q33)]; exact hr42⟩)
          · refine AW.iload_n dX6_readNumber_52 rfl ?_
            refine AW.goto 57 dX6_readNumber_53 (by decide) ?_
            exact AW.iret dX6_readNumber_57 rfl (by decide) (by decide) (⟨by rw [show x_rv tp n lo hi s = x_nu tp n s.2 from if_pos (by unfold x_rn; rw [if_neg (fun h => h q1), if_neg (by rintro (h | h | h); exact q23 h; exact q28 h; exact h q33)]; rw [← hs42.1]; exact h49)]; exact congrArg _ (congrArg _ hnu), I42, rfl, by unfold x_rn; rw [if_neg (fun h => h q1), if_neg (by rintro (h | h | h); exact q23 h; exact q28 h; exact h q33)]; exact hr42⟩)
        · have q33 := h33
          rw [hnu] at q33
          refine AW.aload_n dX6_readNumber_36 rfl ?_
          refine AW.iconst 2 dX6_readNumber_37 (by decide) ?_
          refine AW.callV (b := e) (As := [.int 2]) hG.2.2 (vX6_97 hG) (he.1 0 _ rfl) (k_X6_fail hK (d := 0) (Nat.le_refl _) he (by assumption) 2) (by omega) dX6_readNumber_38 rfl rfl (Nat.le_of_ble_eq_true rfl) (fun v w9 hq9 h09 => by obtain ⟨rfl, J9, rfl, -⟩ := hq9; exact ⟨h09, rfl⟩) (by decide) (by decide) (fun _ _ hx => hx) (fun v38 w38 hq38 => ?_)
          obtain ⟨rfl, I38, rfl, hr38⟩ := hq38
          have hs38 := k_rp_i hr38
          show AW G mX6_readNumber d (fun v w => v = some (.int (x_rv tp n lo hi s)) ∧ ∃ J, w = (sh, J, R, L, g) ∧ k_rp I J e tp n (x_rn tp n lo hi s)) (fun _ _ => False) 41 [some (.ref e), some (.int lo), some (.int hi), some (.int x4)] [] (sh, I38, R, L, g) 0 0
          refine AW.aload_n dX6_readNumber_41 rfl ?_
          refine AW.callV (b := e) (As := []) hG.2.2 (vX6_52 hG) (he.1 0 _ rfl) (k_X6_advS hK (d := 5) (Nat.le_refl _) hr (by assumption)) (by omega) dX6_readNumber_42 rfl rfl (Nat.le_of_ble_eq_true rfl) (fun v w9 hq9 h09 => by obtain ⟨rfl, J9, rfl, -⟩ := hq9; exact ⟨h09, rfl⟩) (by decide) (by decide) (fun _ _ hx => hx) (fun v42 w42 hq42 => ?_)
          obtain ⟨rfl, I42, rfl, hr42⟩ := hq42
          have hs42 := k_rp_i hr42
          show AW G mX6_readNumber d (fun v w => v = some (.int (x_rv tp n lo hi s)) ∧ ∃ J, w = (sh, J, R, L, g) ∧ k_rp I J e tp n (x_rn tp n lo hi s)) (fun _ _ => False) 45 [some (.ref e), some (.int lo), some (.int hi), some (.int x4)] [] (sh, I42, R, L, g) 0 0
          refine AW.aload_n dX6_readNumber_45 rfl ?_
          refine AW.getI (fX6_39 hG).r rfl (he.1 0 _ rfl) dX6_readNumber_46 ?_
          refine AW.if_ne 56 dX6_readNumber_49 (by decide) (fun h49 => ?_) (fun h49 => ?_)
          · refine AW.iconst (-1) dX6_readNumber_56 (by decide) ?_
            exact AW.iret dX6_readNumber_57 rfl (by decide) (by decide) (⟨by rw [show x_rv tp n lo hi s = -1 from if_neg (by unfold x_rn; rw [if_neg (fun h => h q1), if_pos (Or.inr (Or.inr q33))]; rw [← hs42.1]; exact h49)], I42, rfl, by unfold x_rn; rw [if_neg (fun h => h q1), if_pos (Or.inr (Or.inr q33))]; exact (k_rp_t hr38 hr42)⟩)
          · exact absurd (x_adv_0 (hs42.1.symm.trans h49)) (x_fail_n (by decide) _)
  · rw [z6] at h10
    have q1 : ¬ x_tk tp n s.2 = 2 := fun h => h10 ((x_tk_e (by decide)).mpr h)
    refine AW.aload_n dX6_readNumber_13 rfl ?_
    refine AW.iconst 1 dX6_readNumber_14 (by decide) ?_
    refine AW.callV (b := e) (As := [.int 1]) hG.2.2 (vX6_97 hG) (he.1 0 _ rfl) (k_X6_fail hK (d := 0) (Nat.le_refl _) he (by assumption) 1) (by omega) dX6_readNumber_15 rfl rfl (Nat.le_of_ble_eq_true rfl) (fun v w9 hq9 h09 => by obtain ⟨rfl, J9, rfl, -⟩ := hq9; exact ⟨h09, rfl⟩) (by decide) (by decide) (fun _ _ hx => hx) (fun v15 w15 hq15 => ?_)
    obtain ⟨rfl, I15, rfl, hr15⟩ := hq15
    have hs15 := k_rp_i hr15
    show AW G mX6_readNumber d (fun v w => v = some (.int (x_rv tp n lo hi s)) ∧ ∃ J, w = (sh, J, R, L, g) ∧ k_rp I J e tp n (x_rn tp n lo hi s)) (fun _ _ => False) 18 [some (.ref e), some (.int lo), some (.int hi), some (.int x4)] [] (sh, I15, R, L, g) 0 0
    refine AW.goto 41 dX6_readNumber_18 (by decide) ?_
    refine AW.aload_n dX6_readNumber_41 rfl ?_
    refine AW.callV (b := e) (As := []) hG.2.2 (vX6_52 hG) (he.1 0 _ rfl) (k_X6_advS hK (d := 5) (Nat.le_refl _) hr (by assumption)) (by omega) dX6_readNumber_42 rfl rfl (Nat.le_of_ble_eq_true rfl) (fun v w9 hq9 h09 => by obtain ⟨rfl, J9, rfl, -⟩ := hq9; exact ⟨h09, rfl⟩) (by decide) (by decide) (fun _ _ hx => hx) (fun v42 w42 hq42 => ?_)
    obtain ⟨rfl, I42, rfl, hr42⟩ := hq42
    have hs42 := k_rp_i hr42
    show AW G mX6_readNumber d (fun v w => v = some (.int (x_rv tp n lo hi s)) ∧ ∃ J, w = (sh, J, R, L, g) ∧ k_rp I J e tp n (x_rn tp n lo hi s)) (fun _ _ => False) 45 [some (.ref e), some (.int lo), some (.int hi), some (.int x4)] [] (sh, I42, R, L, g) 0 0
    refine AW.aload_n dX6_readNumber_45 rfl ?_
    refine AW.getI (fX6_39 hG).r rfl (he.1 0 _ rfl) dX6_readNumber_46 ?_
    refine AW.if_ne 56 dX6_readNumber_49 (by decide) (fun h49 => ?_) (fun h49 => ?_)
    · refine AW.iconst (-1) dX6_readNumber_56 (by decide) ?_
      exact AW.iret dX6_readNumber_57 rfl (by decide) (by decide) (⟨by rw [show x_rv tp n lo hi s = -1 from if_neg (by unfold x_rn; rw [if_pos q1]; rw [← hs42.1]; exact h49)], I42, rfl, by unfold x_rn; rw [if_pos q1]; exact (k_rp_t hr15 hr42)⟩)
    · exact absurd (x_adv_0 (hs42.1.symm.trans h49)) (x_fail_n (by decide) _)
theorem dX6_readPerson_0 : decode cX6_readPerson 0 = .ok (.aload_n 0, 1) := by decide +kernel
theorem dX6_readPerson_1 : decode cX6_readPerson 1 = .ok (.getfield 76, 3) := by decide +kernel
theorem dX6_readPerson_4 : decode cX6_readPerson 4 = .ok (.istore_n 3, 1) := by decide +kernel
theorem dX6_readPerson_5 : decode cX6_readPerson 5 = .ok (.aload_n 0, 1) := by decide +kernel
theorem dX6_readPerson_6 : decode cX6_readPerson 6 = .ok (.getfield 55, 3) := by decide +kernel
theorem dX6_readPerson_9 : decode cX6_readPerson 9 = .ok (.iconst 2, 1) := by decide +kernel
theorem dX6_readPerson_10 : decode cX6_readPerson 10 = .ok (.if_icmp .eq 11, 3) := by decide +kernel
theorem dX6_readPerson_13 : decode cX6_readPerson 13 = .ok (.aload_n 0, 1) := by decide +kernel
theorem dX6_readPerson_14 : decode cX6_readPerson 14 = .ok (.iconst 1, 1) := by decide +kernel
theorem dX6_readPerson_15 : decode cX6_readPerson 15 = .ok (.invokevirtual 97, 3) := by decide +kernel
theorem dX6_readPerson_18 : decode cX6_readPerson 18 = .ok (.goto 45, 3) := by decide +kernel
theorem dX6_readPerson_21 : decode cX6_readPerson 21 = .ok (.iload_n 3, 1) := by decide +kernel
theorem dX6_readPerson_22 : decode cX6_readPerson 22 = .ok (.iconst (-1), 1) := by decide +kernel
theorem dX6_readPerson_23 : decode cX6_readPerson 23 = .ok (.if_icmp .ne 11, 3) := by decide +kernel
theorem dX6_readPerson_26 : decode cX6_readPerson 26 = .ok (.aload_n 0, 1) := by decide +kernel
theorem dX6_readPerson_27 : decode cX6_readPerson 27 = .ok (.iconst 2, 1) := by decide +kernel
theorem dX6_readPerson_28 : decode cX6_readPerson 28 = .ok (.invokevirtual 97, 3) := by decide +kernel
theorem dX6_readPerson_31 : decode cX6_readPerson 31 = .ok (.goto 32, 3) := by decide +kernel
theorem dX6_readPerson_34 : decode cX6_readPerson 34 = .ok (.iload_n 3, 1) := by decide +kernel
theorem dX6_readPerson_35 : decode cX6_readPerson 35 = .ok (.aload_n 1, 1) := by decide +kernel
theorem dX6_readPerson_36 : decode cX6_readPerson 36 = .ok (.getfield 146, 3) := by decide +kernel
theorem dX6_readPerson_39 : decode cX6_readPerson 39 = .ok (.if_icmp .lt 11, 3) := by decide +kernel
theorem dX6_readPerson_42 : decode cX6_readPerson 42 = .ok (.aload_n 0, 1) := by decide +kernel
theorem dX6_readPerson_43 : decode cX6_readPerson 43 = .ok (.iconst 3, 1) := by decide +kernel
theorem dX6_readPerson_44 : decode cX6_readPerson 44 = .ok (.invokevirtual 97, 3) := by decide +kernel
theorem dX6_readPerson_47 : decode cX6_readPerson 47 = .ok (.goto 16, 3) := by decide +kernel
theorem dX6_readPerson_50 : decode cX6_readPerson 50 = .ok (.iload_n 2, 1) := by decide +kernel
theorem dX6_readPerson_51 : decode cX6_readPerson 51 = .ok (.iload_n 3, 1) := by decide +kernel
theorem dX6_readPerson_52 : decode cX6_readPerson 52 = .ok (.invokestatic 220, 3) := by decide +kernel
theorem dX6_readPerson_55 : decode cX6_readPerson 55 = .ok (.ifCond .eq 8, 3) := by decide +kernel
theorem dX6_readPerson_58 : decode cX6_readPerson 58 = .ok (.aload_n 0, 1) := by decide +kernel
theorem dX6_readPerson_59 : decode cX6_readPerson 59 = .ok (.iconst 4, 1) := by decide +kernel
theorem dX6_readPerson_60 : decode cX6_readPerson 60 = .ok (.invokevirtual 97, 3) := by decide +kernel
theorem dX6_readPerson_63 : decode cX6_readPerson 63 = .ok (.aload_n 0, 1) := by decide +kernel
theorem dX6_readPerson_64 : decode cX6_readPerson 64 = .ok (.invokevirtual 52, 3) := by decide +kernel
theorem dX6_readPerson_67 : decode cX6_readPerson 67 = .ok (.aload_n 0, 1) := by decide +kernel
theorem dX6_readPerson_68 : decode cX6_readPerson 68 = .ok (.getfield 39, 3) := by decide +kernel
theorem dX6_readPerson_71 : decode cX6_readPerson 71 = .ok (.ifCond .ne 7, 3) := by decide +kernel
theorem dX6_readPerson_74 : decode cX6_readPerson 74 = .ok (.iload_n 3, 1) := by decide +kernel
theorem dX6_readPerson_75 : decode cX6_readPerson 75 = .ok (.goto 4, 3) := by decide +kernel
theorem dX6_readPerson_78 : decode cX6_readPerson 78 = .ok (.iconst (-1), 1) := by decide +kernel
theorem dX6_readPerson_79 : decode cX6_readPerson 79 = .ok (.ireturn, 1) := by decide +kernel
set_option maxRecDepth 100000 in
set_option maxHeartbeats 4000000 in
theorem k_X6_readPerson {G : am_G} (hK : k_OK G) {d : Nat} (hd : 6 ≤ d) {sh : List (Nat ⊕ (Nat × Nat))} {I : Nat → Nat → Int32} {R : Nat → Nat → Option Nat} {L : Nat → Nat → Int64} {g : Nat} {e n : Nat} {tp : Nat → Int32} {s : Int32 × Nat} (hr : k_rd sh R e tp n) (hs : k_s I e tp n s) {t pn : Nat} (ht : k_Town sh R t) (hpn : I t 0 = nI pn) (tk : Int32) : AM G mX6_readPerson d [.ref e, .ref t, .int tk] (sh, I, R, L, g) (fun v w => v = some (.int (x_pv tp n pn tk s)) ∧ ∃ J, w = (sh, J, R, L, g) ∧ k_rp I J e tp n (x_pn tp n pn tk s)) (fun _ _ => False) := by
  have hG := hK.1
  have he := hr.1
  have hn6 := hr.2.1
  obtain ⟨h7, z1, z2, z4, z5, z6, ⟨p, hp, hp5, hrun, hpx⟩, z8⟩ := id hs
  refine AM.of (n := 1) (by decide +kernel) (Nat.le_of_ble_eq_true rfl) ?_
  show AW G mX6_readPerson d (fun v w => v = some (.int (x_pv tp n pn tk s)) ∧ ∃ J, w = (sh, J, R, L, g) ∧ k_rp I J e tp n (x_pn tp n pn tk s)) (fun _ _ => False) 0 [some (.ref e), some (.ref t), some (.int tk), none] [] (sh, I, R, L, g) 0 0
  refine AW.aload_n dX6_readPerson_0 rfl ?_
  refine AW.getI (fX6_76 hG).r rfl (he.1 0 _ rfl) dX6_readPerson_1 ?_
  refine AW.nam (fun x4 ex4 => ?_)
  refine AW.is_n [some (.ref e), some (.ref t), some (.int tk), some (.int x4)] dX6_readPerson_4 (by decide) rfl rfl ?_
  refine AW.aload_n dX6_readPerson_5 rfl ?_
  refine AW.getI (fX6_55 hG).r rfl (he.1 0 _ rfl) dX6_readPerson_6 ?_
  refine AW.iconst 2 dX6_readPerson_9 (by decide) ?_
  refine AW.icmp_eq 21 dX6_readPerson_10 (by decide) (fun h10 => ?_) (fun h10 => ?_)
  · rw [z6] at h10
    have q1 : x_tk tp n s.2 = 2 := (x_tk_e (k := 2) (by decide)).mp h10
    have hnu : x4 = x_nu tp n s.2 := ex4.trans (z8 q1)
    refine AW.iload_n dX6_readPerson_21 rfl ?_
    refine AW.iconst (-1) dX6_readPerson_22 (by decide) ?_
    refine AW.icmp_ne 34 dX6_readPerson_23 (by decide) (fun h23 => ?_) (fun h23 => ?_)
    · have q23 := h23
      rw [hnu] at q23
      refine AW.iload_n dX6_readPerson_34 rfl ?_
      refine AW.aload_n dX6_readPerson_35 rfl ?_
      refine AW.getI (fX6_146 hG).r rfl (ht.1 0 _ rfl) dX6_readPerson_36 ?_
      refine AW.icmp_lt 50 dX6_readPerson_39 (by decide) (fun h39 => ?_) (fun h39 => ?_)
      · have q39 := h39
        rw [hnu, hpn] at q39
        refine AW.iload_n dX6_readPerson_50 rfl ?_
        refine AW.iload_n dX6_readPerson_51 rfl ?_
        refine AW.callSN (As := [.int tk, .int x4]) hG.2.2 (vX6_220n hK) (kS_X10_has hG) (k_X10_has hK (d := 0) (Nat.le_refl _) tk x4) (by omega) dX6_readPerson_52 rfl rfl (Nat.le_of_ble_eq_true rfl) (fun v w9 hq9 h09 => by obtain ⟨rfl, rfl⟩ := hq9; exact ⟨h09, rfl⟩) (by decide) (by decide) (fun v52 w52 hq52 => ?_)
        obtain ⟨rfl, rfl⟩ := hq52
        refine AW.nam (fun x52 ex52 => ?_)
        refine AW.if_eq 63 dX6_readPerson_55 (by decide) (fun h55 => ?_) (fun h55 => ?_)
        · rw [ex52, hnu] at h55
          have q55 := kb_0.mp h55
          refine AW.aload_n dX6_readPerson_63 rfl ?_
          refine AW.callV (b := e) (As := []) hG.2.2 (vX6_52 hG) (he.1 0 _ rfl) (k_X6_advS hK (d := 5) (Nat.le_refl _) hr (by assumption)) (by omega) dX6_readPerson_64 rfl rfl (Nat.le_of_ble_eq_true rfl) (fun v w9 hq9 h09 => by obtain ⟨rfl, J9, rfl, -⟩ := hq9; exact ⟨h09, rfl⟩) (by decide) (by decide) (fun _ _ hx => hx) (fun v64 w64 hq64 => ?_)
          obtain ⟨rfl, I64, rfl, hr64⟩ := hq64
          have hs64 := k_rp_i hr64
          show AW G mX6_readPerson d (fun v w => v = some (.int (x_pv tp n pn tk s)) ∧ ∃ J, w = (sh, J, R, L, g) ∧ k_rp I J e tp n (x_pn tp n pn tk s)) (fun _ _ => False) 67 [some (.ref e), some (.ref t), some (.int tk), some (.int x4)] [] (sh, I64, R, L, g) 0 0
          refine AW.aload_n dX6_readPerson_67 rfl ?_
          refine AW.getI (fX6_39 hG).r rfl (he.1 0 _ rfl) dX6_readPerson_68 ?_
          refine AW.if_ne 78 dX6_readPerson_71 (by decide) (fun h71 => ?_) (fun h71 => ?_)
          · refine AW.iconst (-1) dX6_readPerson_78 (by decide) ?_
            exact AW.iret dX6_readPerson_79 rfl (by decide) (by decide) (⟨by rw [show x_pv tp n pn tk s = -1 from if_neg (by unfold x_pn; rw [if_neg (fun h => h q1), if_neg q23, if_neg (fun h => h q39), if_neg (by rw [q55]; decide)]; rw [← hs64.1]; exact h71)], I64, rfl, by unfold x_pn; rw [if_neg (fun h => h q1), if_neg q23, if_neg (fun h => h q39), if_neg (by rw [q55]; decide)]; exact hr64⟩)
          · refine AW.iload_n dX6_readPerson_74 rfl ?_
            refine AW.goto 79 dX6_readPerson_75 (by decide) ?_
            exact AW.iret dX6_readPerson_79 rfl (by decide) (by decide) (⟨by rw [show x_pv tp n pn tk s = x_nu tp n s.2 from if_pos (by unfold x_pn; rw [if_neg (fun h => h q1), if_neg q23, if_neg (fun h => h q39), if_neg (by rw [q55]; decide)]; rw [← hs64.1]; exact h71)]; exact congrArg _ (congrArg _ hnu), I64, rfl, by unfold x_pn; rw [if_neg (fun h => h q1), if_neg q23, if_neg (fun h => h q39), if_neg (by rw [q55]; decide)]; exact hr64⟩)
        · rw [ex52, hnu] at h55
          have q55 := kb_1.mp h55
          refine AW.aload_n dX6_readPerson_58 rfl ?_
          refine AW.iconst 4 dX6_readPerson_59 (by decide) ?_
          refine AW.callV (b := e) (As := [.int 4]) hG.2.2 (vX6_97 hG) (he.1 0 _ rfl) (k_X6_fail hK (d := 0) (Nat.le_refl _) he (by assumption) 4) (by omega) dX6_readPerson_60 rfl rfl (Nat.le_of_ble_eq_true rfl) (fun v w9 hq9 h09 => by obtain ⟨rfl, J9, rfl, -⟩ := hq9; exact ⟨h09, rfl⟩) (by decide) (by decide) (fun _ _ hx => hx) (fun v60 w60 hq60 => ?_)
          obtain ⟨rfl, I60, rfl, hr60⟩ := hq60
          have hs60 := k_rp_i hr60
          show AW G mX6_readPerson d (fun v w => v = some (.int (x_pv tp n pn tk s)) ∧ ∃ J, w = (sh, J, R, L, g) ∧ k_rp I J e tp n (x_pn tp n pn tk s)) (fun _ _ => False) 63 [some (.ref e), some (.ref t), some (.int tk), some (.int x4)] [] (sh, I60, R, L, g) 0 0
          refine AW.aload_n dX6_readPerson_63 rfl ?_
          refine AW.callV (b := e) (As := []) hG.2.2 (vX6_52 hG) (he.1 0 _ rfl) (k_X6_advS hK (d := 5) (Nat.le_refl _) hr (by assumption)) (by omega) dX6_readPerson_64 rfl rfl (Nat.le_of_ble_eq_true rfl) (fun v w9 hq9 h09 => by obtain ⟨rfl, J9, rfl, -⟩ := hq9; exact ⟨h09, rfl⟩) (by decide) (by decide) (fun _ _ hx => hx) (fun v64 w64 hq64 => ?_)
          obtain ⟨rfl, I64, rfl, hr64⟩ := hq64
          have hs64 := k_rp_i hr64
          show AW G mX6_readPerson d (fun v w => v = some (.int (x_pv tp n pn tk s)) ∧ ∃ J, w = (sh, J, R, L, g) ∧ k_rp I J e tp n (x_pn tp n pn tk s)) (fun _ _ => False) 67 [some (.ref e), some (.ref t), some (.int tk), some (.int x4)] [] (sh, I64, R, L, g) 0 0
          refine AW.aload_n dX6_readPerson_67 rfl ?_
          refine AW.getI (fX6_39 hG).r rfl (he.1 0 _ rfl) dX6_readPerson_68 ?_
          refine AW.if_ne 78 dX6_readPerson_71 (by decide) (fun h71 => ?_) (fun h71 => ?_)
          · refine AW.iconst (-1) dX6_readPerson_78 (by decide) ?_
            exact AW.iret dX6_readPerson_79 rfl (by decide) (by decide) (⟨by rw [show x_pv tp n pn tk s = -1 from if_neg (by unfold x_pn; rw [if_neg (fun h => h q1), if_neg q23, if_neg (fun h => h q39), if_pos q55]; rw [← hs64.1]; exact h71)], I64, rfl, by unfold x_pn; rw [if_neg (fun h => h q1), if_neg q23, if_neg (fun h => h q39), if_pos q55]; exact (k_rp_t hr60 hr64)⟩)
          · exact absurd (x_adv_0 (hs64.1.symm.trans h71)) (x_fail_n (by decide) _)
      · have q39 := h39
        rw [hnu, hpn] at q39
        refine AW.aload_n dX6_readPerson_42 rfl ?_
        refine AW.iconst 3 dX6_readPerson_43 (by decide) ?_
        refine AW.callV (b := e) (As := [.int 3]) hG.2.2 (vX6_97 hG) (he.1 0 _ rfl) (k_X6_fail hK (d := 0) (Nat.le_refl _) he (by assumption) 3) (by omega) dX6_readPerson_44 rfl rfl (Nat.le_of_ble_eq_true rfl) (fun v w9 hq9 h09 => by obtain ⟨rfl, J9, rfl, -⟩ := hq9; exact ⟨h09, rfl⟩) (by decide) (by decide) (fun _ _ hx => hx) (fun v44 w44 hq44 => ?_)
        obtain ⟨rfl, I44, rfl, hr44⟩ := hq44
        have hs44 := k_rp_i hr44
        show AW G mX6_readPerson d (fun v w => v = some (.int (x_pv tp n pn tk s)) ∧ ∃ J, w = (sh, J, R, L, g) ∧ k_rp I J e tp n (x_pn tp n pn tk s)) (fun _ _ => False) 47 [some (.ref e), some (.ref t), some (.int tk), some (.int x4)] [] (sh, I44, R, L, g) 0 0
        refine AW.goto 63 dX6_readPerson_47 (by decide) ?_
        refine AW.aload_n dX6_readPerson_63 rfl ?_
        refine AW.callV (b := e) (As := []) hG.2.2 (vX6_52 hG) (he.1 0 _ rfl) (k_X6_advS hK (d := 5) (Nat.le_refl _) hr (by assumption)) (by omega) dX6_readPerson_64 rfl rfl (Nat.le_of_ble_eq_true rfl) (fun v w9 hq9 h09 => by obtain ⟨rfl, J9, rfl, -⟩ := hq9; exact ⟨h09, rfl⟩) (by decide) (by decide) (fun _ _ hx => hx) (fun v64 w64 hq64 => ?_)
        obtain ⟨rfl, I64, rfl, hr64⟩ := hq64
        have hs64 := k_rp_i hr64
        show AW G mX6_readPerson d (fun v w => v = some (.int (x_pv tp n pn tk s)) ∧ ∃ J, w = (sh, J, R, L, g) ∧ k_rp I J e tp n (x_pn tp n pn tk s)) (fun _ _ => False) 67 [some (.ref e), some (.ref t), some (.int tk), some (.int x4)] [] (sh, I64, R, L, g) 0 0
        refine AW.aload_n dX6_readPerson_67 rfl ?_
        refine AW.getI (fX6_39 hG).r rfl (he.1 0 _ rfl) dX6_readPerson_68 ?_
        refine AW.if_ne 78 dX6_readPerson_71 (by decide) (fun h71 => ?_) (fun h71 => ?_)
        · refine AW.iconst (-1) dX6_readPerson_78 (by decide) ?_
          exact AW.iret dX6_readPerson_79 rfl (by decide) (by decide) (⟨by rw [show x_pv tp n pn tk s = -1 from if_neg (by unfold x_pn; rw [if_neg (fun h => h q1), if_neg q23, if_pos q39]; rw [← hs64.1]; exact h71)], I64, rfl, by unfold x_pn; rw [if_neg (fun h => h q1), if_neg q23, if_pos q39]; exact (k_rp_t hr44 hr64)⟩)
        · exact absurd (x_adv_0 (hs64.1.symm.trans h71)) (x_fail_n (by decide) _)
    · have q23 := h23
      rw [hnu] at q23
      refine AW.aload_n dX6_readPerson_26 rfl ?_
      refine AW.iconst 2 dX6_readPerson_27 (by decide) ?_
      refine AW.callV (b := e) (As := [.int 2]) hG.2.2 (vX6_97 hG) (he.1 0 _ rfl) (k_X6_fail hK (d := 0) (Nat.le_refl _) he (by assumption) 2) (by omega) dX6_readPerson_28 rfl rfl (Nat.le_of_ble_eq_true rfl) (fun v w9 hq9 h09 => by obtain ⟨rfl, J9, rfl, -⟩ := hq9; exact ⟨h09, rfl⟩) (by decide) (by decide) (fun _ _ hx => hx) (fun v28 w28 hq28 => ?_)
      obtain ⟨rfl, I28, rfl, hr28⟩ := hq28
      have hs28 := k_rp_i hr28
      show AW G mX6_readPerson d (fun v w => v = some (.int (x_pv tp n pn tk s)) ∧ ∃ J, w = (sh, J, R, L, g) ∧ k_rp I J e tp n (x_pn tp n pn tk s)) (fun _ _ => False) 31 [some (.ref e), some (.ref t), some (.int tk), some (.int x4)] [] (sh, I28, R, L, g) 0 0
      refine AW.goto 63 dX6_readPerson_31 (by decide) ?_
      refine AW.aload_n dX6_readPerson_63 rfl ?_
      refine AW.callV (b := e) (As := []) hG.2.2 (vX6_52 hG) (he.1 0 _ rfl) (k_X6_advS hK (d := 5) (Nat.le_refl _) hr (by assumption)) (by omega) dX6_readPerson_64 rfl rfl (Nat.le_of_ble_eq_true rfl) (fun v w9 hq9 h09 => by obtain ⟨rfl, J9, rfl, -⟩ := hq9; exact ⟨h09, rfl⟩) (by decide) (by decide) (fun _ _ hx => hx) (fun v64 w64 hq64 => ?_)
      obtain ⟨rfl, I64, rfl, hr64⟩ := hq64
      have hs64 := k_rp_i hr64
      show AW G mX6_readPerson d (fun v w => v = some (.int (x_pv tp n pn tk s)) ∧ ∃ J, w = (sh, J, R, L, g) ∧ k_rp I J e tp n (x_pn tp n pn tk s)) (fun _ _ => False) 67 [some (.ref e), some (.ref t), some (.int tk), some (.int x4)] [] (sh, I64, R, L, g) 0 0
      refine AW.aload_n dX6_readPerson_67 rfl ?_
      refine AW.getI (fX6_39 hG).r rfl (he.1 0 _ rfl) dX6_readPerson_68 ?_
      refine AW.if_ne 78 dX6_readPerson_71 (by decide) (fun h71 => ?_) (fun h71 => ?_)
      · refine AW.iconst (-1) dX6_readPerson_78 (by decide) ?_
        exact AW.iret dX6_readPerson_79 rfl (by decide) (by decide) (⟨by rw [show x_pv tp n pn tk s = -1 from if_neg (by unfold x_pn; rw [if_neg (fun h => h q1), if_pos q23]; rw [← hs64.1]; exact h71)], I64, rfl, by unfold x_pn; rw [if_neg (fun h => h q1), if_pos q23]; exact (k_rp_t hr28 hr64)⟩)
      · exact absurd (x_adv_0 (hs64.1.symm.trans h71)) (x_fail_n (by decide) _)
  · rw [z6] at h10
    have q1 : ¬ x_tk tp n s.2 = 2 := fun h => h10 ((x_tk_e (by decide)).mpr h)
    refine AW.aload_n dX6_readPerson_13 rfl ?_
    refine AW.iconst 1 dX6_readPerson_14 (by decide) ?_
    refine AW.callV (b := e) (As := [.int 1]) hG.2.2 (vX6_97 hG) (he.1 0 _ rfl) (k_X6_fail hK (d := 0) (Nat.le_refl _) he (by assumption) 1) (by omega) dX6_readPerson_15 rfl rfl (Nat.le_of_ble_eq_true rfl) (fun v w9 hq9 h09 => by obtain ⟨rfl, J9, rfl, -⟩ := hq9; exact ⟨h09, rfl⟩) (by decide) (by decide) (fun _ _ hx => hx) (fun v15 w15 hq15 => ?_)
    obtain ⟨rfl, I15, rfl, hr15⟩ := hq15
    have hs15 := k_rp_i hr15
    show AW G mX6_readPerson d (fun v w => v = some (.int (x_pv tp n pn tk s)) ∧ ∃ J, w = (sh, J, R, L, g) ∧ k_rp I J e tp n (x_pn tp n pn tk s)) (fun _ _ => False) 18 [some (.ref e), some (.ref t), some (.int tk), some (.int x4)] [] (sh, I15, R, L, g) 0 0
    refine AW.goto 63 dX6_readPerson_18 (by decide) ?_
    refine AW.aload_n dX6_readPerson_63 rfl ?_
    refine AW.callV (b := e) (As := []) hG.2.2 (vX6_52 hG) (he.1 0 _ rfl) (k_X6_advS hK (d := 5) (Nat.le_refl _) hr (by assumption)) (by omega) dX6_readPerson_64 rfl rfl (Nat.le_of_ble_eq_true rfl) (fun v w9 hq9 h09 => by obtain ⟨rfl, J9, rfl, -⟩ := hq9; exact ⟨h09, rfl⟩) (by decide) (by decide) (fun _ _ hx => hx) (fun v64 w64 hq64 => ?_)
    obtain ⟨rfl, I64, rfl, hr64⟩ := hq64
    have hs64 := k_rp_i hr64
    show AW G mX6_readPerson d (fun v w => v = some (.int (x_pv tp n pn tk s)) ∧ ∃ J, w = (sh, J, R, L, g) ∧ k_rp I J e tp n (x_pn tp n pn tk s)) (fun _ _ => False) 67 [some (.ref e), some (.ref t), some (.int tk), some (.int x4)] [] (sh, I64, R, L, g) 0 0
    refine AW.aload_n dX6_readPerson_67 rfl ?_
    refine AW.getI (fX6_39 hG).r rfl (he.1 0 _ rfl) dX6_readPerson_68 ?_
    refine AW.if_ne 78 dX6_readPerson_71 (by decide) (fun h71 => ?_) (fun h71 => ?_)
    · refine AW.iconst (-1) dX6_readPerson_78 (by decide) ?_
      exact AW.iret dX6_readPerson_79 rfl (by decide) (by decide) (⟨by rw [show x_pv tp n pn tk s = -1 from if_neg (by unfold x_pn; rw [if_pos q1]; rw [← hs64.1]; exact h71)], I64, rfl, by unfold x_pn; rw [if_pos q1]; exact (k_rp_t hr15 hr64)⟩)
    · exact absurd (x_adv_0 (hs64.1.symm.trans h71)) (x_fail_n (by decide) _)
