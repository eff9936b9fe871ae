/-! 52.ref (printed by s52.py) -/
/-! THE REFERENCE: its object is cell 101, its rows the cells behind it; words of the automatic walks -/
abbrev g_I := Nat → Nat → Int32
def kS_Mod : List (Nat ⊕ (Nat × Nat)) := [.inl 11, .inr (3, 4), .inr (3, 6), .inr (0, 12), .inr (0, 16), .inr (0, 16), .inr (0, 16), .inr (0, 12), .inr (0, 12), .inr (0, 12), .inr (0, 12), .inr (0, 12), .inr (0, 72), .inr (0, 128), .inr (0, 1200), .inr (0, 3), .inr (0, 600), .inr (0, 6), .inr (0, 8), .inr (0, 3200), .inr (0, 6), .inr (0, 64), .inr (0, 6), .inr (0, 6), .inr (0, 6), .inr (0, 6), .inr (0, 6), .inr (0, 6), .inr (0, 80), .inr (0, 8), .inr (0, 6), .inr (0, 6), .inr (0, 6), .inr (0, 4), .inr (0, 4), .inr (0, 80), .inr (0, 3200), .inr (0, 6), .inr (0, 6), .inr (0, 6), .inr (0, 4), .inr (0, 4), .inr (0, 3)]
def kR_Mod : List (Nat × Nat × Nat) := [(0, 0, 1), (0, 1, 2), (0, 3, 3), (0, 4, 4), (0, 5, 5), (0, 6, 6), (0, 7, 7), (0, 8, 8), (0, 9, 9), (0, 10, 10), (0, 11, 11), (0, 12, 12), (0, 13, 13), (0, 14, 14), (0, 15, 15), (0, 16, 16), (0, 27, 17), (0, 28, 18), (0, 29, 19), (0, 35, 20), (0, 36, 21), (0, 37, 22), (0, 38, 23), (0, 39, 24), (0, 42, 25), (0, 43, 26), (0, 47, 27), (0, 48, 28), (0, 49, 29), (0, 51, 30), (0, 52, 31), (0, 53, 32), (0, 54, 33), (0, 55, 34), (0, 61, 35), (0, 62, 36), (0, 63, 37), (0, 64, 38), (0, 65, 39), (0, 66, 40), (0, 67, 41), (0, 68, 42), (1, 0, 999932), (1, 1, 999933), (1, 2, 999934), (1, 3, 999935), (2, 0, 999936), (2, 1, 999937), (2, 2, 999938), (2, 3, 999939), (2, 4, 999940), (2, 5, 999941)]
abbrev k_Mod (sh : List (Nat ⊕ (Nat × Nat))) (R : Nat → Nat → Option Nat) : Prop := k_obj sh R 101 kS_Mod kR_Mod
abbrev g_kinds : List (List Int32) := [q_33.2.2.2.2, q_34.2.2.2.2, q_35.2.2.2.2, q_36.2.2.2.2]
abbrev g_values : List (List Int32) := [q_37.2.2.2.2, q_38.2.2.2.2, q_39.2.2.2.2, q_40.2.2.2.2, q_41.2.2.2.2, q_42.2.2.2.2]
theorem g_kinds_ok {G : am_G} {sh : List (Nat ⊕ (Nat × Nat))} {R : Nat → Nat → Option Nat} (hK : k_OK G) (hm : k_Mod sh R) : ∀ k, k < g_kinds.length → ∃ j, R 102 k = some (1000000 + j) ∧ k_tx G j (g_kinds.getD k []) := by
  intro k hk
  match k, hk with
  | 0, _ => exact ⟨33, hm.2 (1, 0, 999932) (by decide), k_txi hK k_s_33⟩
  | 1, _ => exact ⟨34, hm.2 (1, 1, 999933) (by decide), k_txi hK k_s_34⟩
  | 2, _ => exact ⟨35, hm.2 (1, 2, 999934) (by decide), k_txi hK k_s_35⟩
  | 3, _ => exact ⟨36, hm.2 (1, 3, 999935) (by decide), k_txi hK k_s_36⟩
  | k + 4, h => exact absurd h (by show ¬ k + 4 < 4; omega)
theorem g_values_ok {G : am_G} {sh : List (Nat ⊕ (Nat × Nat))} {R : Nat → Nat → Option Nat} (hK : k_OK G) (hm : k_Mod sh R) : ∀ k, k < g_values.length → ∃ j, R 103 k = some (1000000 + j) ∧ k_tx G j (g_values.getD k []) := by
  intro k hk
  match k, hk with
  | 0, _ => exact ⟨37, hm.2 (2, 0, 999936) (by decide), k_txi hK k_s_37⟩
  | 1, _ => exact ⟨38, hm.2 (2, 1, 999937) (by decide), k_txi hK k_s_38⟩
  | 2, _ => exact ⟨39, hm.2 (2, 2, 999938) (by decide), k_txi hK k_s_39⟩
  | 3, _ => exact ⟨40, hm.2 (2, 3, 999939) (by decide), k_txi hK k_s_40⟩
  | 4, _ => exact ⟨41, hm.2 (2, 4, 999940) (by decide), k_txi hK k_s_41⟩
  | 5, _ => exact ⟨42, hm.2 (2, 5, 999941) (by decide), k_txi hK k_s_42⟩
  | k + 6, h => exact absurd h (by show ¬ k + 6 < 6; omega)
def fu : Nat := 5000
def g_let {α β : Type} (x : α) (f : α → β) : β := f x
theorem g_letE {α β : Type} {x : α} {f : α → Option β} {r : β} (h : g_let x f = some r) : ∃ y, y = x ∧ f y = some r := ⟨x, rfl, h⟩
def g_bind {α β : Type} (x : Option α) (f : α → Option β) : Option β := match x with
  | some a => f a
  | none => none
theorem g_bindE {α β : Type} {x : Option α} {f : α → Option β} {r : β} (h : g_bind x f = some r) : ∃ y, x = some y ∧ f y = some r := by
  cases x with
  | none => cases h
  | some y => exact ⟨y, rfl, h⟩
def g_bind2 {α β γ : Type} (x : Option (α × β)) (f : α → β → Option γ) : Option γ := match x with
  | some a => f a.1 a.2
  | none => none
theorem g_bind2E {α β γ : Type} {x : Option (α × β)} {f : α → β → Option γ} {r : γ} (h : g_bind2 x f = some r) : ∃ y z, x = some (y, z) ∧ f y z = some r := by
  cases x with
  | none => cases h
  | some y => exact ⟨y.1, y.2, rfl, h⟩
theorem g_ifE {β : Type} {c : Prop} [Decidable c] {A : Option β} {r : β} (h : (if c then A else none) = some r) : c ∧ A = some r := by
  by_cases hc : c
  · rw [if_pos hc] at h; exact ⟨hc, h⟩
  · rw [if_neg hc] at h; cases h
theorem g_pos {β : Type} {c : Prop} [Decidable c] {A B : Option β} {r : β} (hc : c) (h : (if c then A else B) = some r) : A = some r := by rwa [if_pos hc] at h
theorem g_neg {β : Type} {c : Prop} [Decidable c] {A B : Option β} {r : β} (hc : ¬ c) (h : (if c then A else B) = some r) : B = some r := by rwa [if_neg hc] at h
theorem g_kb0 {b : Bool} (h : kb b = 0) : ¬ b = true := by rw [kb_0.mp h]; decide
def g_bool {β : Type} (x : Int32) (f : Bool → Option β) : Option β := if x = 0 then f false else if x = 1 then f true else none
theorem g_boolE {β : Type} {x : Int32} {f : Bool → Option β} {r : β} (h : g_bool x f = some r) : ∃ b, kb b = x ∧ f b = some r := by
  unfold g_bool at h
  by_cases h0 : x = 0
  · rw [if_pos h0] at h; exact ⟨false, h0.symm, h⟩
  · rw [if_neg h0] at h
    by_cases h1 : x = 1
    · rw [if_pos h1] at h; exact ⟨true, h1.symm, h⟩
    · rw [if_neg h1] at h; cases h
def g_in (i : Int32) (n : Nat) : Bool := decide (¬ (i < 0 ∨ n ≤ i.toNatClampNeg))
theorem g_in_iff {i : Int32} {n : Nat} : g_in i n = true ↔ vp_in i n := by unfold g_in vp_in; exact decide_eq_true_iff
theorem g_in_lt {i : Int32} {n : Nat} (h : g_in i n = true) : i.toNatClampNeg < n := Nat.lt_of_not_le fun h2 => g_in_iff.mp h (Or.inr h2)
theorem g_in_nI {k n : Nat} (h : k < n) (hn : n < 2 ^ 31) : g_in (nI k) n = true := g_in_iff.mpr (vp_in_nI h hn)
def g_max (x y : Int32) : Int32 := if x < y then y else x
def g_min (x y : Int32) : Int32 := if y < x then y else x
def g_abs (x : Int32) : Int32 := if 0 ≤ x then x else 0 - x
section
variable {G : am_G} {M : am_M} {d : Nat} {Rt : Option Value → am_w → Prop} {Th : String → am_w → Prop} {pc : Nat} {ls : List (Option Value)} {st : List Value} {w : am_w} {uc us : Nat}
variable {sh : List (Nat ⊕ (Nat × Nat))} {I : Nat → Nat → Int32} {R : Nat → Nat → Option Nat} {L : Nat → Nat → Int64} {g : Nat}
theorem AW.namE {x y : Int32} (e : y = x) (k : AW G M d Rt Th pc ls (.int y :: st) w uc us) : AW G M d Rt Th pc ls (.int x :: st) w uc us := e ▸ k
theorem AW.namIE {I' : Nat → Nat → Int32} (e : I' = I) (k : AW G M d Rt Th pc ls st (sh, I', R, L, g) uc us) : AW G M d Rt Th pc ls st (sh, I, R, L, g) uc us := e ▸ k
theorem AW.incE {i : Nat} {n : Int} {x : Int32} (nt : Int32) (hnt : Int32.ofInt n = nt) (ls' : List (Option Value)) (hd : decode (am_b M) pc = .ok (.iinc i n, 3)) (hl : ls[i]? = some (some (.int x))) (hn : i < am_n M) (hz : am_nl ls i = true) (he : ls.set i (some (.int (x + nt))) = ls') (k : AW G M d Rt Th (pc + 3) ls' st w uc us) : AW G M d Rt Th pc ls st w uc us := AW.iinc hd hl hn hz _ rfl (by rw [hnt, he]; exact k)
theorem AW.lcmp {x y : Int64} (hd : decode (am_b M) pc = .ok (.lcmp, 1)) (k : AW G M d Rt Th (pc + 1) ls (.int (lg_cmp x y) :: st) w uc us) : AW G M d Rt Th pc ls (.long y :: .long x :: st) w uc us := by
  intro p e s m args below meth c hC H locs la hH hL
  exact W.lcmp hC.1 hC.2.1 hd (k p e s m args below meth c hC H locs la hH hL)
end
theorem g_cmp_lt {x y : Int64} : lg_cmp x y < 0 ↔ x < y := by
  unfold lg_cmp
  by_cases h1 : y < x
  · simp only [h1, if_true]
    refine ⟨fun h => absurd h (by decide), fun h => ?_⟩
    have h2 := Int64.lt_iff_toInt_lt.mp h
    have h3 := Int64.lt_iff_toInt_lt.mp h1
    omega
  · by_cases h2 : x = y
    · subst h2
      simp only [h1, if_false]
      exact ⟨fun h => absurd h (by decide), fun h => absurd h id⟩
    · have h3 : x < y := by
        rw [Int64.lt_iff_toInt_lt] at h1 ⊢
        have : ¬ x.toInt = y.toInt := fun h => h2 (Int64.toInt_inj.mp h)
        omega
      simp [h1, h2, h3]
theorem g_cmp_gt {x y : Int64} : 0 < lg_cmp x y ↔ y < x := by
  unfold lg_cmp
  by_cases h1 : y < x
  · simp [h1]
  · by_cases h2 : x = y
    · subst h2
      simp only [h1, if_false]
      exact ⟨fun h => absurd h (by decide), fun h => absurd h id⟩
    · simp [h1, h2]
theorem dX11_isIn_0 : decode cX11_isIn 0 = .ok (.lload_n 0, 1) := by decide +kernel
theorem dX11_isIn_1 : decode cX11_isIn 1 = .ok (.lload_n 2, 1) := by decide +kernel
theorem dX11_isIn_2 : decode cX11_isIn 2 = .ok (.lcmp, 1) := by decide +kernel
theorem dX11_isIn_3 : decode cX11_isIn 3 = .ok (.ifCond .lt 14, 3) := by decide +kernel
theorem dX11_isIn_6 : decode cX11_isIn 6 = .ok (.lload_n 0, 1) := by decide +kernel
theorem dX11_isIn_7 : decode cX11_isIn 7 = .ok (.lload 4, 2) := by decide +kernel
theorem dX11_isIn_9 : decode cX11_isIn 9 = .ok (.lcmp, 1) := by decide +kernel
theorem dX11_isIn_10 : decode cX11_isIn 10 = .ok (.ifCond .gt 7, 3) := by decide +kernel
theorem dX11_isIn_13 : decode cX11_isIn 13 = .ok (.iconst 1, 1) := by decide +kernel
theorem dX11_isIn_14 : decode cX11_isIn 14 = .ok (.goto 4, 3) := by decide +kernel
theorem dX11_isIn_17 : decode cX11_isIn 17 = .ok (.iconst 0, 1) := by decide +kernel
theorem dX11_isIn_18 : decode cX11_isIn 18 = .ok (.ireturn, 1) := by decide +kernel
def b_X11_isIn (v a b : Int64) : Bool := if v < a then false else if b < v then false else true
set_option maxRecDepth 100000 in
theorem g_X11_isIn {G : am_G} (hK : k_OK G) {d : Nat} (hd : 0 ≤ d) {sh : List (Nat ⊕ (Nat × Nat))} {I : g_I} {R : Nat → Nat → Option Nat} {L : Nat → Nat → Int64} {g : Nat} (v a b : Int64) : AM G mX11_isIn d [.long v, .long a, .long b] (sh, I, R, L, g) (fun v' w => v' = some (.int (kb (b_X11_isIn v a b))) ∧ w = (sh, I, R, L, g)) (fun _ _ => False) := by
  refine AM.of (n := 0) (by decide +kernel) (Nat.le_of_ble_eq_true rfl) ?_
  show AW G mX11_isIn d (fun v' w => v' = some (.int (kb (b_X11_isIn v a b))) ∧ w = (sh, I, R, L, g)) (fun _ _ => False) 0 [some (.long v), none, some (.long a), none, some (.long b), none] [] (sh, I, R, L, g) 0 0
  refine AW.lload_n dX11_isIn_0 rfl ?_
  refine AW.lload_n dX11_isIn_1 rfl ?_
  refine AW.lcmp dX11_isIn_2 ?_
  refine AW.if_lt 17 dX11_isIn_3 (by decide) (fun h3 => ?_) (fun h3 => ?_)
  · refine AW.iconst 0 dX11_isIn_17 (by decide) ?_
    exact AW.zret dX11_isIn_18 rfl (by decide) (by decide) (by decide) ⟨by unfold b_X11_isIn; rw [if_pos (g_cmp_lt.mp h3)]; rfl, rfl⟩
  · refine AW.lload_n dX11_isIn_6 rfl ?_
    refine AW.lload dX11_isIn_7 rfl ?_
    refine AW.lcmp dX11_isIn_9 ?_
    refine AW.if_gt 17 dX11_isIn_10 (by decide) (fun h10 => ?_) (fun h10 => ?_)
    · refine AW.iconst 0 dX11_isIn_17 (by decide) ?_
      exact AW.zret dX11_isIn_18 rfl (by decide) (by decide) (by decide) ⟨by unfold b_X11_isIn; rw [if_neg (fun h => h3 (g_cmp_lt.mpr h)), if_pos (g_cmp_gt.mp h10)]; rfl, rfl⟩
    · refine AW.iconst 1 dX11_isIn_13 (by decide) ?_
      refine AW.goto 18 dX11_isIn_14 (by decide) ?_
      exact AW.zret dX11_isIn_18 rfl (by decide) (by decide) (by decide) ⟨by unfold b_X11_isIn; rw [if_neg (fun h => h3 (g_cmp_lt.mpr h)), if_neg (fun h => h10 (g_cmp_gt.mpr h))]; rfl, rfl⟩

