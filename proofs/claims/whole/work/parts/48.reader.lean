/-! READER: TOKENS -/
/-- past all bytes of a kind -/
def x_run (P : Int32 → Bool) (tp : Nat → Int32) : Nat → Nat → Nat
  | 0, p => p
  | f + 1, p => if P (tp p) then x_run P tp f (p + 1) else p
theorem x_run_b (P : Int32 → Bool) (tp : Nat → Int32) : ∀ f p, p ≤ x_run P tp f p ∧ x_run P tp f p ≤ p + f := by
  intro f
  induction f with
  | zero => intro p; exact ⟨Nat.le_refl _, Nat.le_refl _⟩
  | succ f ih =>
    intro p
    show p ≤ (if _ then _ else _) ∧ (if _ then _ else _) ≤ _
    split
    · have := ih (p + 1); omega
    · omega
def x_bl (b : Int32) : Bool := decide (b = 32) || decide (b = 10)
def x_in (lo hi b : Int32) : Bool := !decide (b < lo) && decide (b ≤ hi)
abbrev x_le : Int32 → Bool := x_in 97 122
abbrev x_di : Int32 → Bool := x_in 48 57
def x_mk (b : Int32) : Bool := decide (¬ b ≤ 0) && decide (¬ f_ix [59, 40, 41, 43, 45, 42, 47, 60, 61] b < 0)
/-- the token that begins at a: its kind, its end, its number -/
def x_tk (tp : Nat → Int32) (n a : Nat) : Nat := if n ≤ a then 0 else if x_le (tp a) then 1 else if x_di (tp a) then 2 else if x_mk (tp a) then 3 else 4
def x_nx (tp : Nat → Int32) (n a : Nat) : Nat := if x_le (tp a) then x_run x_le tp (n - a) a else if x_di (tp a) then x_run x_di tp (n - a) a else a + 1
def x_av (tp : Nat → Int32) (n a : Nat) : Nat := if n ≤ a then n else x_run x_bl tp (n - x_nx tp n a) (x_nx tp n a)
def f_nb (tp : Nat → Int32) (a k : Nat) : Int32 := if 4 < k then -1 else lfold (fun i v => 10 * v + tp (a + i) - 48) 0 k
def x_nu (tp : Nat → Int32) (n a : Nat) : Int32 := f_nb tp a (x_nx tp n a - a)
theorem x_nx_b (tp : Nat → Int32) {n a : Nat} (h : a < n) : a < x_nx tp n a ∧ x_nx tp n a ≤ n := by
  obtain ⟨f, hf⟩ : ∃ f, n - a = f + 1 := ⟨n - a - 1, by omega⟩
  unfold x_nx
  split
  · rename_i h1
    have := x_run_b x_le tp f (a + 1)
    rw [hf]; simp only [x_run, h1, if_true]; omega
  · split
    · rename_i h1
      have := x_run_b x_di tp f (a + 1)
      rw [hf]; simp only [x_run, h1, if_true]; omega
    · omega
theorem x_av_b (tp : Nat → Int32) {n a : Nat} (h : a ≤ n) : a ≤ x_av tp n a ∧ x_av tp n a ≤ n ∧ (a < n → a < x_av tp n a) := by
  unfold x_av
  split
  · omega
  · have h1 := x_nx_b tp (show a < n by omega)
    have h2 := x_run_b x_bl tp (n - x_nx tp n a) (x_nx tp n a)
    omega
/-- the reader at e stands at the token that begins at a -/
def k_lz (J : Nat → Nat → Int32) (e : Nat) (tp : Nat → Int32) (n a : Nat) : Prop := J (e + 1) = tp ∧ J e 2 = nI n ∧ J e 4 = nI a ∧ a ≤ n ∧ J e 3 = nI (x_tk tp n a) ∧ (∃ p, p ≤ n ∧ J e 5 = nI p ∧ x_run x_bl tp (n - p) p = x_av tp n a ∧ (a < n → p = x_nx tp n a)) ∧ (x_tk tp n a = 2 → J e 6 = x_nu tp n a)
/-- the same, and what was found wrong -/
def k_s (J : Nat → Nat → Int32) (e : Nat) (tp : Nat → Int32) (n : Nat) (s : Int32 × Nat) : Prop := J e 7 = s.1 ∧ k_lz J e tp n s.2
def k_rp (I J : Nat → Nat → Int32) (e : Nat) (tp : Nat → Int32) (n : Nat) (s : Int32 × Nat) : Prop := (∀ a, a ≠ e → J a = I a) ∧ (∀ k, (k < 3 ∨ 8 ≤ k) → J e k = I e k) ∧ k_s J e tp n s
def x_adv (tp : Nat → Int32) (n : Nat) (s : Int32 × Nat) : Int32 × Nat := if s.1 = 0 then (0, x_av tp n s.2) else s
def x_fail (c : Int32) (s : Int32 × Nat) : Int32 × Nat := if s.1 = 0 then (c, s.2) else s
def x_sg (tp : Nat → Int32) (n a : Nat) (c : Int32) : Bool := decide (x_tk tp n a = 3) && decide (tp a = c)
def x_wd (tp : Nat → Int32) (n a : Nat) (bs : List Int32) : Bool := decide (x_tk tp n a = 1) && (decide (x_nx tp n a - a = bs.length) && lall (fun i => decide (tp (a + i) = bs.getD i 0)) bs.length)
theorem nI_subI {a b : Nat} (h : a ≤ b) : nI b - nI a = nI (b - a) := by
  have := nI_add (b - a) a
  rw [Nat.sub_add_cancel h] at this
  rw [← this, Int32.add_sub_cancel]
theorem k_rp_i {I J : Nat → Nat → Int32} {e : Nat} {tp : Nat → Int32} {n : Nat} {s : Int32 × Nat} (h : k_rp I J e tp n s) : k_s J e tp n s := h.2.2
theorem k_s_o {I J : Nat → Nat → Int32} {e : Nat} {tp : Nat → Int32} {n : Nat} {s : Int32 × Nat} (h : k_s I e tp n s) (h0 : J e = I e) (h1 : J (e + 1) = I (e + 1)) : k_s J e tp n s := by unfold k_s k_lz at h ⊢; rw [h0, h1]; exact h
theorem dX6_blanksEnd_0 : decode cX6_blanksEnd 0 = .ok (.iload_n 1, 1) := by decide +kernel
theorem dX6_blanksEnd_1 : decode cX6_blanksEnd 1 = .ok (.istore_n 2, 1) := by decide +kernel
theorem dX6_blanksEnd_2 : decode cX6_blanksEnd 2 = .ok (.iload_n 2, 1) := by decide +kernel
theorem dX6_blanksEnd_3 : decode cX6_blanksEnd 3 = .ok (.aload_n 0, 1) := by decide +kernel
theorem dX6_blanksEnd_4 : decode cX6_blanksEnd 4 = .ok (.getfield 33, 3) := by decide +kernel
theorem dX6_blanksEnd_7 : decode cX6_blanksEnd 7 = .ok (.if_icmp .ge 33, 3) := by decide +kernel
theorem dX6_blanksEnd_10 : decode cX6_blanksEnd 10 = .ok (.aload_n 0, 1) := by decide +kernel
theorem dX6_blanksEnd_11 : decode cX6_blanksEnd 11 = .ok (.getfield 9, 3) := by decide +kernel
theorem dX6_blanksEnd_14 : decode cX6_blanksEnd 14 = .ok (.iload_n 2, 1) := by decide +kernel
theorem dX6_blanksEnd_15 : decode cX6_blanksEnd 15 = .ok (.baload, 1) := by decide +kernel
theorem dX6_blanksEnd_16 : decode cX6_blanksEnd 16 = .ok (.bipush 32, 2) := by decide +kernel
theorem dX6_blanksEnd_18 : decode cX6_blanksEnd 18 = .ok (.if_icmp .eq 16, 3) := by decide +kernel
theorem dX6_blanksEnd_21 : decode cX6_blanksEnd 21 = .ok (.aload_n 0, 1) := by decide +kernel
theorem dX6_blanksEnd_22 : decode cX6_blanksEnd 22 = .ok (.getfield 9, 3) := by decide +kernel
theorem dX6_blanksEnd_25 : decode cX6_blanksEnd 25 = .ok (.iload_n 2, 1) := by decide +kernel
theorem dX6_blanksEnd_26 : decode cX6_blanksEnd 26 = .ok (.baload, 1) := by decide +kernel
theorem dX6_blanksEnd_27 : decode cX6_blanksEnd 27 = .ok (.bipush 10, 2) := by decide +kernel
theorem dX6_blanksEnd_29 : decode cX6_blanksEnd 29 = .ok (.if_icmp .eq 5, 3) := by decide +kernel
theorem dX6_blanksEnd_32 : decode cX6_blanksEnd 32 = .ok (.iload_n 2, 1) := by decide +kernel
theorem dX6_blanksEnd_33 : decode cX6_blanksEnd 33 = .ok (.ireturn, 1) := by decide +kernel
theorem dX6_blanksEnd_34 : decode cX6_blanksEnd 34 = .ok (.iinc 2 1, 3) := by decide +kernel
theorem dX6_blanksEnd_37 : decode cX6_blanksEnd 37 = .ok (.goto (-35), 3) := by decide +kernel
theorem dX6_blanksEnd_40 : decode cX6_blanksEnd 40 = .ok (.aload_n 0, 1) := by decide +kernel
theorem dX6_blanksEnd_41 : decode cX6_blanksEnd 41 = .ok (.getfield 33, 3) := by decide +kernel
theorem dX6_blanksEnd_44 : decode cX6_blanksEnd 44 = .ok (.ireturn, 1) := by decide +kernel
set_option maxRecDepth 100000 in
set_option maxHeartbeats 4000000 in
theorem k_X6_blanksEnd {G : am_G} (hK : k_OK G) {d : Nat} (hd : 0 ≤ d) {sh : List (Nat ⊕ (Nat × Nat))} {I : Nat → Nat → Int32} {R : Nat → Nat → Option Nat} {L : Nat → Nat → Int64} {g : Nat} {e n : Nat} (he : k_Reader sh R e) (hn6 : n ≤ 600) (hend : I e 2 = nI n) (x : Int32) {p : Nat} (hx : x = nI p) (hp : p ≤ n) : AM G mX6_blanksEnd d [.ref e, .int x] (sh, I, R, L, g) (fun v w => v = some (.int (nI (x_run x_bl (I (e + 1)) (n - p) p))) ∧ w = (sh, I, R, L, g)) (fun _ _ => False) := by
  have hG := hK.1
  refine AM.of (n := 1) (by decide +kernel) (Nat.le_of_ble_eq_true rfl) ?_
  show AW G mX6_blanksEnd d (fun v w => v = some (.int (nI (x_run x_bl (I (e + 1)) (n - p) p))) ∧ w = (sh, I, R, L, g)) (fun _ _ => False) 0 [some (.ref e), some (.int x), none] [] (sh, I, R, L, g) 0 0
  refine AW.iload_n dX6_blanksEnd_0 rfl ?_
  refine AW.is_n [some (.ref e), some (.int x), some (.int x)] dX6_blanksEnd_1 (by decide) rfl rfl ?_
  have L2 : ∀ k2, k2 ≤ (n - p) → ∀ (y : Int32), (y = nI (p + k2) ∧ x_run x_bl (I (e + 1)) (n - (p + k2)) (p + k2) = x_run x_bl (I (e + 1)) (n - p) p) → AW G mX6_blanksEnd d (fun v w => v = some (.int (nI (x_run x_bl (I (e + 1)) (n - p) p))) ∧ w = (sh, I, R, L, g)) (fun _ _ => False) 2 [some (.ref e), some (.int x), some (.int y)] [] (sh, I, R, L, g) 0 0 := by
    refine am_rec ((n - p)) (fun k2 hk2 ih2 => ?_)
    intro y hi2
    obtain ⟨hy, hV⟩ := hi2
    refine AW.iload_n dX6_blanksEnd_2 rfl ?_
    refine AW.aload_n dX6_blanksEnd_3 rfl ?_
    refine AW.getI (fX6_33 hG).r rfl (he.1 0 _ rfl) dX6_blanksEnd_4 ?_
    refine AW.icmp_ge 40 dX6_blanksEnd_7 (by decide) (fun h7 => ?_) (fun h7 => ?_)
    · rw [hy, hend] at h7
      have hke : k2 = n - p := by have := (nI_leI (by omega) (by omega)).mp h7; omega
      refine AW.aload_n dX6_blanksEnd_40 rfl ?_
      refine AW.getI (fX6_33 hG).r rfl (he.1 0 _ rfl) dX6_blanksEnd_41 ?_
      exact AW.iret dX6_blanksEnd_44 rfl (by decide) (by decide) (⟨by rw [hend, ← hV, hke, show n - (p + (n - p)) = 0 by omega]; show _ = some (Value.int (nI (p + (n - p)))); rw [show p + (n - p) = n by omega], rfl⟩)
    · rw [hy, hend] at h7
      have hlt : k2 < n - p := by
        rcases Nat.lt_or_ge k2 (n - p) with h | h
        · exact h
        · exact absurd ((nI_leI (by omega) (by omega)).mpr (by omega)) h7
      have hby : vp_in y 600 := by rw [hy]; exact vp_in_nI (by omega) (by decide)
      have hcy : y.toNatClampNeg = p + k2 := k_lit hy (by omega)
      refine AW.aload_n dX6_blanksEnd_10 rfl ?_
      refine AW.getR (c' := (e + 1)) (fX6_9 hG).r rfl (he.1 0 _ rfl) (he.2 (0, 0, 1) (by decide)) dX6_blanksEnd_11 ?_
      refine AW.iload_n dX6_blanksEnd_14 rfl ?_
      refine AW.bald (he.1 1 _ rfl) (by first | assumption | (unfold vp_in; decide) | exact vp_in_nI (by omega) (by decide)) dX6_blanksEnd_15 ?_
      refine AW.bipush 32 dX6_blanksEnd_16 (by decide) ?_
      refine AW.icmp_eq 34 dX6_blanksEnd_18 (by decide) (fun h18 => ?_) (fun h18 => ?_)
      · rw [hcy] at h18
        refine AW.inc (fun x34 => [some (.ref e), some (.int x), some (.int x34)]) dX6_blanksEnd_34 rfl (by decide) rfl (fun _ => rfl) (fun x34 ex34 => ?_)
        refine AW.goto 2 dX6_blanksEnd_37 (by decide) ?_
        exact ih2 (k2 + 1) (by omega) (by omega) _ (⟨by rw [ex34, hy]; exact nI_1 _, by rw [← hV, show n - (p + k2) = (n - (p + (k2 + 1))) + 1 by omega]; show _ = (if _ then _ else _); rw [if_pos (by unfold x_bl; rw [decide_eq_true h18]; rfl)]; rfl⟩)
      · rw [hcy] at h18
        refine AW.aload_n dX6_blanksEnd_21 rfl ?_
        refine AW.getR (c' := (e + 1)) (fX6_9 hG).r rfl (he.1 0 _ rfl) (he.2 (0, 0, 1) (by decide)) dX6_blanksEnd_22 ?_
        refine AW.iload_n dX6_blanksEnd_25 rfl ?_
        refine AW.bald (he.1 1 _ rfl) (by first | assumption | (unfold vp_in; decide) | exact vp_in_nI (by omega) (by decide)) dX6_blanksEnd_26 ?_
        refine AW.bipush 10 dX6_blanksEnd_27 (by decide) ?_
        refine AW.icmp_eq 34 dX6_blanksEnd_29 (by decide) (fun h29 => ?_) (fun h29 => ?_)
        · rw [hcy] at h29
          refine AW.inc (fun x34 => [some (.ref e), some (.int x), some (.int x34)]) dX6_blanksEnd_34 rfl (by decide) rfl (fun _ => rfl) (fun x34 ex34 => ?_)
          refine AW.goto 2 dX6_blanksEnd_37 (by decide) ?_
          exact ih2 (k2 + 1) (by omega) (by omega) _ (⟨by rw [ex34, hy]; exact nI_1 _, by rw [← hV, show n - (p + k2) = (n - (p + (k2 + 1))) + 1 by omega]; show _ = (if _ then _ else _); rw [if_pos (by unfold x_bl; rw [decide_eq_true h29, Bool.or_true])]; rfl⟩)
        · rw [hcy] at h29
          refine AW.iload_n dX6_blanksEnd_32 rfl ?_
          exact AW.iret dX6_blanksEnd_33 rfl (by decide) (by decide) (⟨by rw [hy, ← hV, show n - (p + k2) = (n - (p + (k2 + 1))) + 1 by omega]; show _ = some (Value.int (nI (if _ then _ else _))); rw [if_neg (by unfold x_bl; rw [decide_eq_false h18, decide_eq_false h29]; decide)], rfl⟩)
  exact L2 0 (by omega) _ (⟨hx, rfl⟩)
theorem dX6_rowEnd_0 : decode cX6_rowEnd 0 = .ok (.iload_n 1, 1) := by decide +kernel
theorem dX6_rowEnd_1 : decode cX6_rowEnd 1 = .ok (.istore 4, 2) := by decide +kernel
theorem dX6_rowEnd_3 : decode cX6_rowEnd 3 = .ok (.iload 4, 2) := by decide +kernel
theorem dX6_rowEnd_5 : decode cX6_rowEnd 5 = .ok (.aload_n 0, 1) := by decide +kernel
theorem dX6_rowEnd_6 : decode cX6_rowEnd 6 = .ok (.getfield 33, 3) := by decide +kernel
theorem dX6_rowEnd_9 : decode cX6_rowEnd 9 = .ok (.if_icmp .ge 34, 3) := by decide +kernel
theorem dX6_rowEnd_12 : decode cX6_rowEnd 12 = .ok (.aload_n 0, 1) := by decide +kernel
theorem dX6_rowEnd_13 : decode cX6_rowEnd 13 = .ok (.getfield 9, 3) := by decide +kernel
theorem dX6_rowEnd_16 : decode cX6_rowEnd 16 = .ok (.iload 4, 2) := by decide +kernel
theorem dX6_rowEnd_18 : decode cX6_rowEnd 18 = .ok (.baload, 1) := by decide +kernel
theorem dX6_rowEnd_19 : decode cX6_rowEnd 19 = .ok (.iload_n 2, 1) := by decide +kernel
theorem dX6_rowEnd_20 : decode cX6_rowEnd 20 = .ok (.if_icmp .lt 14, 3) := by decide +kernel
theorem dX6_rowEnd_23 : decode cX6_rowEnd 23 = .ok (.aload_n 0, 1) := by decide +kernel
theorem dX6_rowEnd_24 : decode cX6_rowEnd 24 = .ok (.getfield 9, 3) := by decide +kernel
theorem dX6_rowEnd_27 : decode cX6_rowEnd 27 = .ok (.iload 4, 2) := by decide +kernel
theorem dX6_rowEnd_29 : decode cX6_rowEnd 29 = .ok (.baload, 1) := by decide +kernel
theorem dX6_rowEnd_30 : decode cX6_rowEnd 30 = .ok (.iload_n 3, 1) := by decide +kernel
theorem dX6_rowEnd_31 : decode cX6_rowEnd 31 = .ok (.if_icmp .le 6, 3) := by decide +kernel
theorem dX6_rowEnd_34 : decode cX6_rowEnd 34 = .ok (.iload 4, 2) := by decide +kernel
theorem dX6_rowEnd_36 : decode cX6_rowEnd 36 = .ok (.ireturn, 1) := by decide +kernel
theorem dX6_rowEnd_37 : decode cX6_rowEnd 37 = .ok (.iinc 4 1, 3) := by decide +kernel
theorem dX6_rowEnd_40 : decode cX6_rowEnd 40 = .ok (.goto (-37), 3) := by decide +kernel
theorem dX6_rowEnd_43 : decode cX6_rowEnd 43 = .ok (.aload_n 0, 1) := by decide +kernel
theorem dX6_rowEnd_44 : decode cX6_rowEnd 44 = .ok (.getfield 33, 3) := by decide +kernel
theorem dX6_rowEnd_47 : decode cX6_rowEnd 47 = .ok (.ireturn, 1) := by decide +kernel
set_option maxRecDepth 100000 in
set_option maxHeartbeats 4000000 in
theorem k_X6_rowEnd {G : am_G} (hK : k_OK G) {d : Nat} (hd : 0 ≤ d) {sh : List (Nat ⊕ (Nat × Nat))} {I : Nat → Nat → Int32} {R : Nat → Nat → Option Nat} {L : Nat → Nat → Int64} {g : Nat} {e n : Nat} (he : k_Reader sh R e) (hn6 : n ≤ 600) (hend : I e 2 = nI n) (x lo hi : Int32) {p : Nat} (hx : x = nI p) (hp : p ≤ n) : AM G mX6_rowEnd d [.ref e, .int x, .int lo, .int hi] (sh, I, R, L, g) (fun v w => v = some (.int (nI (x_run (x_in lo hi) (I (e + 1)) (n - p) p))) ∧ w = (sh, I, R, L, g)) (fun _ _ => False) := by
  have hG := hK.1
  refine AM.of (n := 1) (by decide +kernel) (Nat.le_of_ble_eq_true rfl) ?_
  show AW G mX6_rowEnd d (fun v w => v = some (.int (nI (x_run (x_in lo hi) (I (e + 1)) (n - p) p))) ∧ w = (sh, I, R, L, g)) (fun _ _ => False) 0 [some (.ref e), some (.int x), some (.int lo), some (.int hi), none] [] (sh, I, R, L, g) 0 0
  refine AW.iload_n dX6_rowEnd_0 rfl ?_
  refine AW.is [some (.ref e), some (.int x), some (.int lo), some (.int hi), some (.int x)] dX6_rowEnd_1 (by decide) rfl rfl ?_
  have L3 : ∀ k3, k3 ≤ (n - p) → ∀ (y : Int32), (y = nI (p + k3) ∧ x_run (x_in lo hi) (I (e + 1)) (n - (p + k3)) (p + k3) = x_run (x_in lo hi) (I (e + 1)) (n - p) p) → AW G mX6_rowEnd d (fun v w => v = some (.int (nI (x_run (x_in lo hi) (I (e + 1)) (n - p) p))) ∧ w = (sh, I, R, L, g)) (fun _ _ => False) 3 [some (.ref e), some (.int x), some (.int lo), some (.int hi), some (.int y)] [] (sh, I, R, L, g) 0 0 := by
    refine am_rec ((n - p)) (fun k3 hk3 ih3 => ?_)
    intro y hi3
    obtain ⟨hy, hV⟩ := hi3
    refine AW.iload dX6_rowEnd_3 rfl ?_
    refine AW.aload_n dX6_rowEnd_5 rfl ?_
    refine AW.getI (fX6_33 hG).r rfl (he.1 0 _ rfl) dX6_rowEnd_6 ?_
    refine AW.icmp_ge 43 dX6_rowEnd_9 (by decide) (fun h9 => ?_) (fun h9 => ?_)
    · rw [hy, hend] at h9
      have hke : k3 = n - p := by have := (nI_leI (by omega) (by omega)).mp h9; omega
      refine AW.aload_n dX6_rowEnd_43 rfl ?_
      refine AW.getI (fX6_33 hG).r rfl (he.1 0 _ rfl) dX6_rowEnd_44 ?_
      exact AW.iret dX6_rowEnd_47 rfl (by decide) (by decide) (⟨by rw [hend, ← hV, hke, show n - (p + (n - p)) = 0 by omega]; show _ = some (Value.int (nI (p + (n - p)))); rw [show p + (n - p) = n by omega], rfl⟩)
    · rw [hy, hend] at h9
      have hlt : k3 < n - p := by
        rcases Nat.lt_or_ge k3 (n - p) with h | h
        · exact h
        · exact absurd ((nI_leI (by omega) (by omega)).mpr (by omega)) h9
      have hby : vp_in y 600 := by rw [hy]; exact vp_in_nI (by omega) (by decide)
      have hcy : y.toNatClampNeg = p + k3 := k_lit hy (by omega)
      refine AW.aload_n dX6_rowEnd_12 rfl ?_
      refine AW.getR (c' := (e + 1)) (fX6_9 hG).r rfl (he.1 0 _ rfl) (he.2 (0, 0, 1) (by decide)) dX6_rowEnd_13 ?_
      refine AW.iload dX6_rowEnd_16 rfl ?_
      refine AW.bald (he.1 1 _ rfl) (by first | assumption | (unfold vp_in; decide) | exact vp_in_nI (by omega) (by decide)) dX6_rowEnd_18 ?_
      refine AW.iload_n dX6_rowEnd_19 rfl ?_
      refine AW.icmp_lt 34 dX6_rowEnd_20 (by decide) (fun h20 => ?_) (fun h20 => ?_)
      · rw [hcy] at h20
        refine AW.iload dX6_rowEnd_34 rfl ?_
        exact AW.iret dX6_rowEnd_36 rfl (by decide) (by decide) (⟨by rw [hy, ← hV, show n - (p + k3) = (n - (p + (k3 + 1))) + 1 by omega]; show _ = some (Value.int (nI (if _ then _ else _))); rw [if_neg (by unfold x_in; rw [decide_eq_true h20]; simp)], rfl⟩)
      · rw [hcy] at h20
        refine AW.aload_n dX6_rowEnd_23 rfl ?_
        refine AW.getR (c' := (e + 1)) (fX6_9 hG).r rfl (he.1 0 _ rfl) (he.2 (0, 0, 1) (by decide)) dX6_rowEnd_24 ?_
        refine AW.iload dX6_rowEnd_27 rfl ?_
        refine AW.bald (he.1 1 _ rfl) (by first | assumption | (unfold vp_in; decide) | exact vp_in_nI (by omega) (by decide)) dX6_rowEnd_29 ?_
        refine AW.iload_n dX6_rowEnd_30 rfl ?_
        refine AW.icmp_le 37 dX6_rowEnd_31 (by decide) (fun h31 => ?_) (fun h31 => ?_)
        · rw [hcy] at h31
          refine AW.inc (fun x37 => [some (.ref e), some (.int x), some (.int lo), some (.int hi), some (.int x37)]) dX6_rowEnd_37 rfl (by decide) rfl (fun _ => rfl) (fun x37 ex37 => ?_)
          refine AW.goto 3 dX6_rowEnd_40 (by decide) ?_
          exact ih3 (k3 + 1) (by omega) (by omega) _ (⟨by rw [ex37, hy]; exact nI_1 _, by rw [← hV, show n - (p + k3) = (n - (p + (k3 + 1))) + 1 by omega]; show _ = (if _ then _ else _); rw [if_pos (by unfold x_in; rw [decide_eq_false h20, decide_eq_true h31]; rfl)]; rfl⟩)
        · rw [hcy] at h31
          refine AW.iload dX6_rowEnd_34 rfl ?_
          exact AW.iret dX6_rowEnd_36 rfl (by decide) (by decide) (⟨by rw [hy, ← hV, show n - (p + k3) = (n - (p + (k3 + 1))) + 1 by omega]; show _ = some (Value.int (nI (if _ then _ else _))); rw [if_neg (by unfold x_in; rw [decide_eq_false h31, Bool.and_false]; decide)], rfl⟩)
  exact L3 0 (by omega) _ (⟨hx, rfl⟩)
theorem dX6_numberBetween_0 : decode cX6_numberBetween 0 = .ok (.iload_n 2, 1) := by decide +kernel
theorem dX6_numberBetween_1 : decode cX6_numberBetween 1 = .ok (.iload_n 1, 1) := by decide +kernel
theorem dX6_numberBetween_2 : decode cX6_numberBetween 2 = .ok (.isub, 1) := by decide +kernel
theorem dX6_numberBetween_3 : decode cX6_numberBetween 3 = .ok (.iconst 4, 1) := by decide +kernel
theorem dX6_numberBetween_4 : decode cX6_numberBetween 4 = .ok (.if_icmp .le 5, 3) := by decide +kernel
theorem dX6_numberBetween_7 : decode cX6_numberBetween 7 = .ok (.iconst (-1), 1) := by decide +kernel
theorem dX6_numberBetween_8 : decode cX6_numberBetween 8 = .ok (.ireturn, 1) := by decide +kernel
theorem dX6_numberBetween_9 : decode cX6_numberBetween 9 = .ok (.iconst 0, 1) := by decide +kernel
theorem dX6_numberBetween_10 : decode cX6_numberBetween 10 = .ok (.istore_n 3, 1) := by decide +kernel
theorem dX6_numberBetween_11 : decode cX6_numberBetween 11 = .ok (.iload_n 1, 1) := by decide +kernel
theorem dX6_numberBetween_12 : decode cX6_numberBetween 12 = .ok (.istore 4, 2) := by decide +kernel
theorem dX6_numberBetween_14 : decode cX6_numberBetween 14 = .ok (.iload 4, 2) := by decide +kernel
theorem dX6_numberBetween_16 : decode cX6_numberBetween 16 = .ok (.iload_n 2, 1) := by decide +kernel
theorem dX6_numberBetween_17 : decode cX6_numberBetween 17 = .ok (.if_icmp .ge 25, 3) := by decide +kernel
theorem dX6_numberBetween_20 : decode cX6_numberBetween 20 = .ok (.bipush 10, 2) := by decide +kernel
theorem dX6_numberBetween_22 : decode cX6_numberBetween 22 = .ok (.iload_n 3, 1) := by decide +kernel
theorem dX6_numberBetween_23 : decode cX6_numberBetween 23 = .ok (.imul, 1) := by decide +kernel
theorem dX6_numberBetween_24 : decode cX6_numberBetween 24 = .ok (.aload_n 0, 1) := by decide +kernel
theorem dX6_numberBetween_25 : decode cX6_numberBetween 25 = .ok (.getfield 9, 3) := by decide +kernel
theorem dX6_numberBetween_28 : decode cX6_numberBetween 28 = .ok (.iload 4, 2) := by decide +kernel
theorem dX6_numberBetween_30 : decode cX6_numberBetween 30 = .ok (.baload, 1) := by decide +kernel
theorem dX6_numberBetween_31 : decode cX6_numberBetween 31 = .ok (.iadd, 1) := by decide +kernel
theorem dX6_numberBetween_32 : decode cX6_numberBetween 32 = .ok (.bipush 48, 2) := by decide +kernel
theorem dX6_numberBetween_34 : decode cX6_numberBetween 34 = .ok (.isub, 1) := by decide +kernel
theorem dX6_numberBetween_35 : decode cX6_numberBetween 35 = .ok (.istore_n 3, 1) := by decide +kernel
theorem dX6_numberBetween_36 : decode cX6_numberBetween 36 = .ok (.iinc 4 1, 3) := by decide +kernel
theorem dX6_numberBetween_39 : decode cX6_numberBetween 39 = .ok (.goto (-25), 3) := by decide +kernel
theorem dX6_numberBetween_42 : decode cX6_numberBetween 42 = .ok (.iload_n 3, 1) := by decide +kernel
theorem dX6_numberBetween_43 : decode cX6_numberBetween 43 = .ok (.ireturn, 1) := by decide +kernel
set_option maxRecDepth 100000 in
set_option maxHeartbeats 4000000 in
theorem k_X6_numberBetween {G : am_G} (hK : k_OK G) {d : Nat} (hd : 0 ≤ d) {sh : List (Nat ⊕ (Nat × Nat))} {I : Nat → Nat → Int32} {R : Nat → Nat → Option Nat} {L : Nat → Nat → Int64} {g : Nat} {e : Nat} (he : k_Reader sh R e) (x y : Int32) {a b : Nat} (hx : x = nI a) (hy : y = nI b) (hab : a ≤ b) (hb6 : b ≤ 600) : AM G mX6_numberBetween d [.ref e, .int x, .int y] (sh, I, R, L, g) (fun v w => v = some (.int (f_nb (I (e + 1)) a (b - a))) ∧ w = (sh, I, R, L, g)) (fun _ _ => False) := by
  have hG := hK.1
  refine AM.of (n := 2) (by decide +kernel) (Nat.le_of_ble_eq_true rfl) ?_
  show AW G mX6_numberBetween d (fun v w => v = some (.int (f_nb (I (e + 1)) a (b - a))) ∧ w = (sh, I, R, L, g)) (fun _ _ => False) 0 [some (.ref e), some (.int x), some (.int y), none, none] [] (sh, I, R, L, g) 0 0
  refine AW.iload_n dX6_numberBetween_0 rfl ?_
  refine AW.iload_n dX6_numberBetween_1 rfl ?_
  refine AW.isub dX6_numberBetween_2 ?_
  refine AW.iconst 4 dX6_numberBetween_3 (by decide) ?_
  refine AW.icmp_le 9 dX6_numberBetween_4 (by decide) (fun h4 => ?_) (fun h4 => ?_)
  · rw [hx, hy, nI_subI hab] at h4
    have h44 : ¬ 4 < b - a := by have := (nI_lel (n := b - a) rfl (m := 4) rfl (by omega) (by decide)).mp h4; omega
    refine AW.iconst 0 dX6_numberBetween_9 (by decide) ?_
    refine AW.is_n [some (.ref e), some (.int x), some (.int y), some (.int 0), none] dX6_numberBetween_10 (by decide) rfl rfl ?_
    refine AW.iload_n dX6_numberBetween_11 rfl ?_
    refine AW.is [some (.ref e), some (.int x), some (.int y), some (.int 0), some (.int x)] dX6_numberBetween_12 (by decide) rfl rfl ?_
    have L14 : ∀ k14, k14 ≤ (b - a) → ∀ (v z : Int32), (z = nI (a + k14) ∧ v = lfold (fun i v => 10 * v + I (e + 1) (a + i) - 48) 0 k14) → AW G mX6_numberBetween d (fun v w => v = some (.int (f_nb (I (e + 1)) a (b - a))) ∧ w = (sh, I, R, L, g)) (fun _ _ => False) 14 [some (.ref e), some (.int x), some (.int y), some (.int v), some (.int z)] [] (sh, I, R, L, g) 0 0 := by
      refine am_rec ((b - a)) (fun k14 hk14 ih14 => ?_)
      intro v z hi14
      obtain ⟨hz, hv⟩ := hi14
      refine AW.iload dX6_numberBetween_14 rfl ?_
      refine AW.iload_n dX6_numberBetween_16 rfl ?_
      refine AW.icmp_ge 42 dX6_numberBetween_17 (by decide) (fun h17 => ?_) (fun h17 => ?_)
      · rw [hz, hy] at h17
        have hke : k14 = b - a := by have := (nI_leI (by omega) (by omega)).mp h17; omega
        rw [hke] at hv
        refine AW.iload_n dX6_numberBetween_42 rfl ?_
        exact AW.iret dX6_numberBetween_43 rfl (by decide) (by decide) (⟨by unfold f_nb; rw [if_neg h44, hv], rfl⟩)
      · rw [hz, hy] at h17
        have hlt : k14 < b - a := by
          rcases Nat.lt_or_ge k14 (b - a) with h | h
          · exact h
          · exact absurd ((nI_leI (by omega) (by omega)).mpr (by omega)) h17
        have hbz : vp_in z 600 := by rw [hz]; exact vp_in_nI (by omega) (by decide)
        have hcz : z.toNatClampNeg = a + k14 := k_lit hz (by omega)
        refine AW.bipush 10 dX6_numberBetween_20 (by decide) ?_
        refine AW.iload_n dX6_numberBetween_22 rfl ?_
        refine AW.imul dX6_numberBetween_23 ?_
        refine AW.aload_n dX6_numberBetween_24 rfl ?_
        refine AW.getR (c' := (e + 1)) (fX6_9 hG).r rfl (he.1 0 _ rfl) (he.2 (0, 0, 1) (by decide)) dX6_numberBetween_25 ?_
        refine AW.iload dX6_numberBetween_28 rfl ?_
        refine AW.bald (he.1 1 _ rfl) (by first | assumption | (unfold vp_in; decide) | exact vp_in_nI (by omega) (by decide)) dX6_numberBetween_30 ?_
        refine AW.iadd dX6_numberBetween_31 ?_
        refine AW.bipush 48 dX6_numberBetween_32 (by decide) ?_
        refine AW.isub dX6_numberBetween_34 ?_
        refine AW.nam (fun x35 ex35 => ?_)
        refine AW.is_n [some (.ref e), some (.int x), some (.int y), some (.int x35), some (.int z)] dX6_numberBetween_35 (by decide) rfl rfl ?_
        refine AW.inc (fun x36 => [some (.ref e), some (.int x), some (.int y), some (.int x35), some (.int x36)]) dX6_numberBetween_36 rfl (by decide) rfl (fun _ => rfl) (fun x36 ex36 => ?_)
        refine AW.goto 14 dX6_numberBetween_39 (by decide) ?_
        exact ih14 (k14 + 1) (by omega) (by omega) _ _ (⟨by rw [ex36, hz]; exact nI_1 _, by rw [ex35, hcz, hv]; rfl⟩)
    exact L14 0 (by omega) _ _ (⟨hx, rfl⟩)
  · rw [hx, hy, nI_subI hab] at h4
    have h44 : 4 < b - a := by
      rcases Nat.lt_or_ge 4 (b - a) with h | h
      · exact h
      · exact absurd ((nI_lel (n := b - a) rfl (m := 4) rfl (by omega) (by decide)).mpr h) h4
    refine AW.iconst (-1) dX6_numberBetween_7 (by decide) ?_
    exact AW.iret dX6_numberBetween_8 rfl (by decide) (by decide) (⟨by unfold f_nb; rw [if_pos h44], rfl⟩)
theorem dX6_fail_0 : decode cX6_fail 0 = .ok (.aload_n 0, 1) := by decide +kernel
theorem dX6_fail_1 : decode cX6_fail 1 = .ok (.getfield 39, 3) := by decide +kernel
theorem dX6_fail_4 : decode cX6_fail 4 = .ok (.ifCond .ne 8, 3) := by decide +kernel
theorem dX6_fail_7 : decode cX6_fail 7 = .ok (.aload_n 0, 1) := by decide +kernel
theorem dX6_fail_8 : decode cX6_fail 8 = .ok (.iload_n 1, 1) := by decide +kernel
theorem dX6_fail_9 : decode cX6_fail 9 = .ok (.putfield 39, 3) := by decide +kernel
theorem dX6_fail_12 : decode cX6_fail 12 = .ok (.return_, 1) := by decide +kernel
set_option maxRecDepth 100000 in
set_option maxHeartbeats 4000000 in
theorem k_X6_fail {G : am_G} (hK : k_OK G) {d : Nat} (hd : 0 ≤ d) {sh : List (Nat ⊕ (Nat × Nat))} {I : Nat → Nat → Int32} {R : Nat → Nat → Option Nat} {L : Nat → Nat → Int64} {g : Nat} {e n : Nat} {tp : Nat → Int32} {s : Int32 × Nat} (he : k_Reader sh R e) (hs : k_s I e tp n s) (c : Int32) : AM G mX6_fail d [.ref e, .int c] (sh, I, R, L, g) (fun v w => v = none ∧ ∃ J, w = (sh, J, R, L, g) ∧ k_rp I J e tp n (x_fail c s)) (fun _ _ => False) := by
  have hG := hK.1
  refine AM.of (n := 0) (by decide +kernel) (Nat.le_of_ble_eq_true rfl) ?_
  show AW G mX6_fail d (fun v w => v = none ∧ ∃ J, w = (sh, J, R, L, g) ∧ k_rp I J e tp n (x_fail c s)) (fun _ _ => False) 0 [some (.ref e), some (.int c)] [] (sh, I, R, L, g) 0 0
  refine AW.aload_n dX6_fail_0 rfl ?_
  refine AW.getI (fX6_39 hG).r rfl (he.1 0 _ rfl) dX6_fail_1 ?_
  refine AW.if_ne 12 dX6_fail_4 (by decide) (fun h4 => ?_) (fun h4 => ?_)
  · exact AW.vret dX6_fail_12 rfl (by decide) (by decide) (⟨rfl, I, rfl, fun _ _ => rfl, fun _ _ => rfl, by unfold x_fail; rw [if_neg (by rw [← hs.1]; exact h4)]; exact hs⟩)
  · refine AW.aload_n dX6_fail_7 rfl ?_
    refine AW.iload_n dX6_fail_8 rfl ?_
    refine AW.putI (fX6_39 hG) rfl (vp_nar_int _) rfl (he.1 0 _ rfl) dX6_fail_9 ?_
    refine AW.namI (fun I9 eI9 => ?_)
    exact AW.vret dX6_fail_12 rfl (by decide) (by decide) (⟨rfl, I9, rfl, fun a h => by rw [eI9, am_up_o _ _ _ _ h], fun k h => by rw [eI9, am_up_s]; exact upd_o (by omega), by unfold x_fail; rw [if_pos (by rw [← hs.1]; exact h4)]; refine ⟨by rw [eI9, am_up_s]; rfl, ?_⟩; have h9 := hs.2; unfold k_lz at h9 ⊢; rw [eI9, am_up_o _ _ _ _ (by omega), am_up_s]; exact h9⟩)
theorem k_i2c {b : Int32} (h : 0 ≤ b ∧ b < 128) : (b.toUInt32 % 65536).toInt32 = b := by
  obtain ⟨j, hj, rfl⟩ := k_is_of (n := 128) (Int32.not_lt.mpr h.1) h.2 (by decide)
  exact (by decide +kernel : ∀ j, j < 128 → ((nI j).toUInt32 % 65536).toInt32 = nI j) j hj
theorem dX6_advance_0 : decode cX6_advance 0 = .ok (.aload_n 0, 1) := by decide +kernel
theorem dX6_advance_1 : decode cX6_advance 1 = .ok (.getfield 39, 3) := by decide +kernel
theorem dX6_advance_4 : decode cX6_advance 4 = .ok (.ifCond .eq 4, 3) := by decide +kernel
theorem dX6_advance_7 : decode cX6_advance 7 = .ok (.return_, 1) := by decide +kernel
theorem dX6_advance_8 : decode cX6_advance 8 = .ok (.aload_n 0, 1) := by decide +kernel
theorem dX6_advance_9 : decode cX6_advance 9 = .ok (.aload_n 0, 1) := by decide +kernel
theorem dX6_advance_10 : decode cX6_advance 10 = .ok (.aload_n 0, 1) := by decide +kernel
theorem dX6_advance_11 : decode cX6_advance 11 = .ok (.getfield 36, 3) := by decide +kernel
theorem dX6_advance_14 : decode cX6_advance 14 = .ok (.invokevirtual 62, 3) := by decide +kernel
theorem dX6_advance_17 : decode cX6_advance 17 = .ok (.putfield 66, 3) := by decide +kernel
theorem dX6_advance_20 : decode cX6_advance 20 = .ok (.aload_n 0, 1) := by decide +kernel
theorem dX6_advance_21 : decode cX6_advance 21 = .ok (.getfield 66, 3) := by decide +kernel
theorem dX6_advance_24 : decode cX6_advance 24 = .ok (.aload_n 0, 1) := by decide +kernel
theorem dX6_advance_25 : decode cX6_advance 25 = .ok (.getfield 33, 3) := by decide +kernel
theorem dX6_advance_28 : decode cX6_advance 28 = .ok (.if_icmp .lt 9, 3) := by decide +kernel
theorem dX6_advance_31 : decode cX6_advance 31 = .ok (.aload_n 0, 1) := by decide +kernel
theorem dX6_advance_32 : decode cX6_advance 32 = .ok (.iconst 0, 1) := by decide +kernel
theorem dX6_advance_33 : decode cX6_advance 33 = .ok (.putfield 55, 3) := by decide +kernel
theorem dX6_advance_36 : decode cX6_advance 36 = .ok (.return_, 1) := by decide +kernel
theorem dX6_advance_37 : decode cX6_advance 37 = .ok (.aload_n 0, 1) := by decide +kernel
theorem dX6_advance_38 : decode cX6_advance 38 = .ok (.getfield 9, 3) := by decide +kernel
theorem dX6_advance_41 : decode cX6_advance 41 = .ok (.aload_n 0, 1) := by decide +kernel
theorem dX6_advance_42 : decode cX6_advance 42 = .ok (.getfield 66, 3) := by decide +kernel
theorem dX6_advance_45 : decode cX6_advance 45 = .ok (.baload, 1) := by decide +kernel
theorem dX6_advance_46 : decode cX6_advance 46 = .ok (.istore_n 1, 1) := by decide +kernel
theorem dX6_advance_47 : decode cX6_advance 47 = .ok (.iload_n 1, 1) := by decide +kernel
theorem dX6_advance_48 : decode cX6_advance 48 = .ok (.bipush 97, 2) := by decide +kernel
theorem dX6_advance_50 : decode cX6_advance 50 = .ok (.if_icmp .lt 33, 3) := by decide +kernel
theorem dX6_advance_53 : decode cX6_advance 53 = .ok (.iload_n 1, 1) := by decide +kernel
theorem dX6_advance_54 : decode cX6_advance 54 = .ok (.bipush 122, 2) := by decide +kernel
theorem dX6_advance_56 : decode cX6_advance 56 = .ok (.if_icmp .gt 27, 3) := by decide +kernel
theorem dX6_advance_59 : decode cX6_advance 59 = .ok (.aload_n 0, 1) := by decide +kernel
theorem dX6_advance_60 : decode cX6_advance 60 = .ok (.iconst 1, 1) := by decide +kernel
theorem dX6_advance_61 : decode cX6_advance 61 = .ok (.putfield 55, 3) := by decide +kernel
theorem dX6_advance_64 : decode cX6_advance 64 = .ok (.aload_n 0, 1) := by decide +kernel
theorem dX6_advance_65 : decode cX6_advance 65 = .ok (.aload_n 0, 1) := by decide +kernel
theorem dX6_advance_66 : decode cX6_advance 66 = .ok (.aload_n 0, 1) := by decide +kernel
theorem dX6_advance_67 : decode cX6_advance 67 = .ok (.getfield 66, 3) := by decide +kernel
theorem dX6_advance_70 : decode cX6_advance 70 = .ok (.bipush 97, 2) := by decide +kernel
theorem dX6_advance_72 : decode cX6_advance 72 = .ok (.bipush 122, 2) := by decide +kernel
theorem dX6_advance_74 : decode cX6_advance 74 = .ok (.invokevirtual 69, 3) := by decide +kernel
theorem dX6_advance_77 : decode cX6_advance 77 = .ok (.putfield 36, 3) := by decide +kernel
theorem dX6_advance_80 : decode cX6_advance 80 = .ok (.goto 88, 3) := by decide +kernel
theorem dX6_advance_83 : decode cX6_advance 83 = .ok (.iload_n 1, 1) := by decide +kernel
theorem dX6_advance_84 : decode cX6_advance 84 = .ok (.bipush 48, 2) := by decide +kernel
theorem dX6_advance_86 : decode cX6_advance 86 = .ok (.if_icmp .lt 49, 3) := by decide +kernel
theorem dX6_advance_89 : decode cX6_advance 89 = .ok (.iload_n 1, 1) := by decide +kernel
theorem dX6_advance_90 : decode cX6_advance 90 = .ok (.bipush 57, 2) := by decide +kernel
theorem dX6_advance_92 : decode cX6_advance 92 = .ok (.if_icmp .gt 43, 3) := by decide +kernel
theorem dX6_advance_95 : decode cX6_advance 95 = .ok (.aload_n 0, 1) := by decide +kernel
theorem dX6_advance_96 : decode cX6_advance 96 = .ok (.iconst 2, 1) := by decide +kernel
theorem dX6_advance_97 : decode cX6_advance 97 = .ok (.putfield 55, 3) := by decide +kernel
theorem dX6_advance_100 : decode cX6_advance 100 = .ok (.aload_n 0, 1) := by decide +kernel
theorem dX6_advance_101 : decode cX6_advance 101 = .ok (.aload_n 0, 1) := by decide +kernel
theorem dX6_advance_102 : decode cX6_advance 102 = .ok (.aload_n 0, 1) := by decide +kernel
theorem dX6_advance_103 : decode cX6_advance 103 = .ok (.getfield 66, 3) := by decide +kernel
theorem dX6_advance_106 : decode cX6_advance 106 = .ok (.bipush 48, 2) := by decide +kernel
theorem dX6_advance_108 : decode cX6_advance 108 = .ok (.bipush 57, 2) := by decide +kernel
theorem dX6_advance_110 : decode cX6_advance 110 = .ok (.invokevirtual 69, 3) := by decide +kernel
theorem dX6_advance_113 : decode cX6_advance 113 = .ok (.putfield 36, 3) := by decide +kernel
theorem dX6_advance_116 : decode cX6_advance 116 = .ok (.aload_n 0, 1) := by decide +kernel
theorem dX6_advance_117 : decode cX6_advance 117 = .ok (.aload_n 0, 1) := by decide +kernel
theorem dX6_advance_118 : decode cX6_advance 118 = .ok (.aload_n 0, 1) := by decide +kernel
theorem dX6_advance_119 : decode cX6_advance 119 = .ok (.getfield 66, 3) := by decide +kernel
theorem dX6_advance_122 : decode cX6_advance 122 = .ok (.aload_n 0, 1) := by decide +kernel
theorem dX6_advance_123 : decode cX6_advance 123 = .ok (.getfield 36, 3) := by decide +kernel
theorem dX6_advance_126 : decode cX6_advance 126 = .ok (.invokevirtual 73, 3) := by decide +kernel
theorem dX6_advance_129 : decode cX6_advance 129 = .ok (.putfield 76, 3) := by decide +kernel
theorem dX6_advance_132 : decode cX6_advance 132 = .ok (.goto 36, 3) := by decide +kernel
theorem dX6_advance_135 : decode cX6_advance 135 = .ok (.aload_n 0, 1) := by decide +kernel
theorem dX6_advance_136 : decode cX6_advance 136 = .ok (.iload_n 1, 1) := by decide +kernel
theorem dX6_advance_137 : decode cX6_advance 137 = .ok (.ifCond .le 17, 3) := by decide +kernel
theorem dX6_advance_140 : decode cX6_advance 140 = .ok (.ldc 79, 2) := by decide +kernel
theorem dX6_advance_142 : decode cX6_advance 142 = .ok (.iload_n 1, 1) := by decide +kernel
theorem dX6_advance_143 : decode cX6_advance 143 = .ok (.i2c, 1) := by decide +kernel
theorem dX6_advance_144 : decode cX6_advance 144 = .ok (.invokevirtual 81, 3) := by decide +kernel
theorem dX6_advance_147 : decode cX6_advance 147 = .ok (.ifCond .lt 7, 3) := by decide +kernel
theorem dX6_advance_150 : decode cX6_advance 150 = .ok (.iconst 3, 1) := by decide +kernel
theorem dX6_advance_151 : decode cX6_advance 151 = .ok (.goto 4, 3) := by decide +kernel
theorem dX6_advance_154 : decode cX6_advance 154 = .ok (.iconst 4, 1) := by decide +kernel
theorem dX6_advance_155 : decode cX6_advance 155 = .ok (.putfield 55, 3) := by decide +kernel
theorem dX6_advance_158 : decode cX6_advance 158 = .ok (.aload_n 0, 1) := by decide +kernel
theorem dX6_advance_159 : decode cX6_advance 159 = .ok (.aload_n 0, 1) := by decide +kernel
theorem dX6_advance_160 : decode cX6_advance 160 = .ok (.getfield 66, 3) := by decide +kernel
theorem dX6_advance_163 : decode cX6_advance 163 = .ok (.iconst 1, 1) := by decide +kernel
theorem dX6_advance_164 : decode cX6_advance 164 = .ok (.iadd, 1) := by decide +kernel
theorem dX6_advance_165 : decode cX6_advance 165 = .ok (.putfield 36, 3) := by decide +kernel
theorem dX6_advance_168 : decode cX6_advance 168 = .ok (.return_, 1) := by decide +kernel
set_option maxRecDepth 100000 in
set_option maxHeartbeats 4000000 in
theorem k_X6_advance {G : am_G} (hK : k_OK G) {d : Nat} (hd : 5 ≤ d) {sh : List (Nat ⊕ (Nat × Nat))} {I : Nat → Nat → Int32} {R : Nat → Nat → Option Nat} {L : Nat → Nat → Int64} {g : Nat} {e n : Nat} {tp : Nat → Int32} (he : k_Reader sh R e) (hn6 : n ≤ 600) (htp : I (e + 1) = tp) (hend : I e 2 = nI n) (hby : ∀ j, j < 600 → -128 ≤ tp j ∧ tp j < 128) {p b : Nat} (hp5 : I e 5 = nI p) (hpn : p ≤ n) (hz : ¬ I e 7 = 0 → k_lz I e tp n b) : AM G mX6_advance d [.ref e] (sh, I, R, L, g) (fun v w => v = none ∧ ∃ J, w = (sh, J, R, L, g) ∧ k_rp I J e tp n (if I e 7 = 0 then (0, x_run x_bl tp (n - p) p) else (I e 7, b))) (fun _ _ => False) := by
  have hG := hK.1
  obtain ⟨a, ha⟩ : ∃ a, a = x_run x_bl tp (n - p) p := ⟨_, rfl⟩
  have hab : p ≤ a ∧ a ≤ n := by rw [ha]; have := x_run_b x_bl tp (n - p) p; omega
  refine AM.of (n := 1) (by decide +kernel) (Nat.le_of_ble_eq_true rfl) ?_
  show AW G mX6_advance d (fun v w => v = none ∧ ∃ J, w = (sh, J, R, L, g) ∧ k_rp I J e tp n (if I e 7 = 0 then (0, x_run x_bl tp (n - p) p) else (I e 7, b))) (fun _ _ => False) 0 [some (.ref e), none] [] (sh, I, R, L, g) 0 0
  refine AW.aload_n dX6_advance_0 rfl ?_
  refine AW.getI (fX6_39 hG).r rfl (he.1 0 _ rfl) dX6_advance_1 ?_
  refine AW.if_eq 8 dX6_advance_4 (by decide) (fun h4 => ?_) (fun h4 => ?_)
  · refine AW.aload_n dX6_advance_8 rfl ?_
    refine AW.aload_n dX6_advance_9 rfl ?_
    refine AW.aload_n dX6_advance_10 rfl ?_
    refine AW.getI (fX6_36 hG).r rfl (he.1 0 _ rfl) dX6_advance_11 ?_
    refine AW.callV (b := e) (As := [.int (I e 5)]) hG.2.2 (vX6_62 hG) (he.1 0 _ rfl) (k_X6_blanksEnd hK (d := 0) (Nat.le_refl _) he hn6 (by assumption) (I e 5) (by assumption) (by omega)) (by omega) dX6_advance_14 rfl rfl (Nat.le_of_ble_eq_true rfl) (fun v w9 hq9 h09 => by obtain ⟨rfl, rfl⟩ := hq9; exact ⟨h09, rfl⟩) (by decide) (by decide) (fun _ _ hx => hx) (fun v14 w14 hq14 => ?_)
    obtain ⟨rfl, rfl⟩ := hq14
    refine AW.nam (fun x14 ex14 => ?_)
    refine AW.putI (fX6_66 hG) rfl (vp_nar_int _) rfl (he.1 0 _ rfl) dX6_advance_17 ?_
    refine AW.namI (fun I17 eI17 => ?_)
    rw [htp, ← ha] at ex14
    have h17e : I17 e = upd (I e) 4 (nI a) := by rw [eI17, am_up_s, ex14]
    have h17t : I17 (e + 1) = tp := by rw [eI17, am_up_o _ _ _ _ (by omega)]; exact htp
    have h17s : I17 e 4 = nI a := by rw [h17e]; exact pk_us
    have h17n : I17 e 2 = nI n := by rw [h17e]; exact hend
    refine AW.aload_n dX6_advance_20 rfl ?_
    refine AW.getI (fX6_66 hG).r rfl (he.1 0 _ rfl) dX6_advance_21 ?_
    refine AW.aload_n dX6_advance_24 rfl ?_
    refine AW.getI (fX6_33 hG).r rfl (he.1 0 _ rfl) dX6_advance_25 ?_
    refine AW.icmp_lt 37 dX6_advance_28 (by decide) (fun h28 => ?_) (fun h28 => ?_)
    · rw [h17s, h17n] at h28
      have hlt : a < n := (nI_ltI (by omega) (by omega)).mp h28
      have hbs : vp_in (I17 e 4) 600 := by rw [h17s]; exact vp_in_nI (by omega) (by decide)
      refine AW.aload_n dX6_advance_37 rfl ?_
      refine AW.getR (c' := (e + 1)) (fX6_9 hG).r rfl (he.1 0 _ rfl) (he.2 (0, 0, 1) (by decide)) dX6_advance_38 ?_
      refine AW.aload_n dX6_advance_41 rfl ?_
      refine AW.getI (fX6_66 hG).r rfl (he.1 0 _ rfl) dX6_advance_42 ?_
      refine AW.bald (he.1 1 _ rfl) (by first | assumption | (unfold vp_in; decide) | exact vp_in_nI (by omega) (by decide)) dX6_advance_45 ?_
      refine AW.nam (fun x46 ex46 => ?_)
      refine AW.is_n [some (.ref e), some (.int x46)] dX6_advance_46 (by decide) rfl rfl ?_
      have h46 : x46 = tp a := by rw [ex46, h17t, k_lit h17s (by omega)]
      refine AW.iload_n dX6_advance_47 rfl ?_
      refine AW.bipush 97 dX6_advance_48 (by decide) ?_
      refine AW.icmp_lt 83 dX6_advance_50 (by decide) (fun h50 => ?_) (fun h50 => ?_)
      · refine AW.iload_n dX6_advance_83 rfl ?_
        refine AW.bipush 48 dX6_advance_84 (by decide) ?_
        refine AW.icmp_lt 135 dX6_advance_86 (by decide) (fun h86 => ?_) (fun h86 => ?_)
        · refine AW.aload_n dX6_advance_135 rfl ?_
          refine AW.iload_n dX6_advance_136 rfl ?_
          refine AW.if_le 154 dX6_advance_137 (by decide) (fun h137 => ?_) (fun h137 => ?_)
          · refine AW.iconst 4 dX6_advance_154 (by decide) ?_
            refine AW.putI (fX6_55 hG) rfl (vp_nar_int _) rfl (he.1 0 _ rfl) dX6_advance_155 ?_
            refine AW.namI (fun I155 eI155 => ?_)
            refine AW.aload_n dX6_advance_158 rfl ?_
            refine AW.aload_n dX6_advance_159 rfl ?_
            refine AW.getI (fX6_66 hG).r rfl (he.1 0 _ rfl) dX6_advance_160 ?_
            refine AW.iconst 1 dX6_advance_163 (by decide) ?_
            refine AW.iadd dX6_advance_164 ?_
            refine AW.putI (fX6_36 hG) rfl (vp_nar_int _) rfl (he.1 0 _ rfl) dX6_advance_165 ?_
            refine AW.namI (fun I165 eI165 => ?_)
            exact AW.vret dX6_advance_168 rfl (by decide) (by decide) (by
              have hf0 : (if I e 7 = 0 then (0, x_run x_bl tp (n - p) p) else (I e 7, b)) = ((0 : Int32), a) := by rw [if_pos h4, ← ha]
              rw [hf0]
              have hle : ¬ x_le (tp a) = true := by show ¬ x_in 97 122 _ = _; unfold x_in; rw [← h46]; rw [decide_eq_true h50]; simp
              have hdi : ¬ x_di (tp a) = true := by show ¬ x_in 48 57 _ = _; unfold x_in; rw [← h46]; rw [decide_eq_true h86]; simp
              have hnx : x_nx tp n a = a + 1 := by unfold x_nx; rw [if_neg hle, if_neg hdi]
              have hmk : ¬ x_mk (tp a) = true := by unfold x_mk; rw [← h46]; rw [decide_eq_false (fun hh => hh h137)]; simp
              have htk : x_tk tp n a = 4 := by unfold x_tk; rw [if_neg (by omega), if_neg hle, if_neg hdi, if_neg hmk]
              have hJe : I165 e = upd (upd (upd (I e) 4 (nI a)) 3 4) 5 (nI (x_nx tp n a)) := by rw [eI165, am_up_s, eI155, am_up_s, h17e, hnx]; exact congrArg (upd _ 5) (nI_1 a)
              have hJo : ∀ b, b ≠ e → I165 b = I b := fun b h => by rw [eI165, am_up_o _ _ _ _ h, eI155, am_up_o _ _ _ _ h, eI17, am_up_o _ _ _ _ h]
              refine ⟨rfl, I165, rfl, hJo, fun k hk => ?_, by rw [hJe]; exact h4, by rw [hJo _ (by omega)]; exact htp, by rw [hJe]; exact hend, by rw [hJe]; rfl, hab.2, ?_, ⟨x_nx tp n a, (x_nx_b tp hlt).2, by rw [hJe]; rfl, by unfold x_av; rw [if_neg (by omega)], fun _ => rfl⟩, fun h => by rw [htk] at h; exact absurd h (by decide)⟩
              · rw [hJe]; rw [upd_o (by omega)]; rw [upd_o (by omega)]; rw [upd_o (by omega)]
              · rw [htk, hJe]; rfl)
          · refine AW.ldcS (j := 1) hK q_1 k_s_1 rfl rfl dX6_advance_140 ?_
            refine AW.iload_n dX6_advance_142 rfl ?_
            refine AW.i2c dX6_advance_143 ?_
            have hc9 : (0 : Int32) ≤ x46 ∧ x46 < 128 := ⟨Int32.le_of_lt (Int32.not_le.mp h137), by rw [h46]; exact (hby a (by omega)).2⟩
            have hi2 : (x46.toUInt32 % 65536).toInt32 = x46 := k_i2c hc9
            have hc9 : (0 : Int32) ≤ (x46.toUInt32 % 65536).toInt32 ∧ (x46.toUInt32 % 65536).toInt32 < 128 := by rw [hi2]; exact hc9
            refine AW.callX (As := [.int ((x46.toUInt32 % 65536).toInt32)]) hG.2.2 (vX6_81 hG) (k_txi hK k_s_1) (k_indexOf0 hK (d := 4) (Nat.le_refl _) (k_txi hK k_s_1) ((x46.toUInt32 % 65536).toInt32) (by assumption) (by decide)) (by omega) dX6_advance_144 rfl rfl (Nat.le_of_ble_eq_true rfl) (fun v w9 hq9 h09 => by obtain ⟨rfl, rfl⟩ := hq9; exact ⟨h09, rfl⟩) (by decide) (by decide) (fun _ _ hx => hx) (fun v144 w144 hq144 => ?_)
            obtain ⟨rfl, rfl⟩ := hq144
            refine AW.nam (fun x144 ex144 => ?_)
            have h144 : x144 = f_ix [59, 40, 41, 43, 45, 42, 47, 60, 61] x46 := by rw [ex144, hi2]
            refine AW.if_lt 154 dX6_advance_147 (by decide) (fun h147 => ?_) (fun h147 => ?_)
            · refine AW.iconst 4 dX6_advance_154 (by decide) ?_
              refine AW.putI (fX6_55 hG) rfl (vp_nar_int _) rfl (he.1 0 _ rfl) dX6_advance_155 ?_
              refine AW.namI (fun I155 eI155 => ?_)
              refine AW.aload_n dX6_advance_158 rfl ?_
              refine AW.aload_n dX6_advance_159 rfl ?_
              refine AW.getI (fX6_66 hG).r rfl (he.1 0 _ rfl) dX6_advance_160 ?_
              refine AW.iconst 1 dX6_advance_163 (by decide) ?_
              refine AW.iadd dX6_advance_164 ?_
              refine AW.putI (fX6_36 hG) rfl (vp_nar_int _) rfl (he.1 0 _ rfl) dX6_advance_165 ?_
              refine AW.namI (fun I165 eI165 => ?_)
              exact AW.vret dX6_advance_168 rfl (by decide) (by decide) (by
                have hf0 : (if I e 7 = 0 then (0, x_run x_bl tp (n - p) p) else (I e 7, b)) = ((0 : Int32), a) := by rw [if_pos h4, ← ha]
                rw [hf0]
                have hle : ¬ x_le (tp a) = true := by show ¬ x_in 97 122 _ = _; unfold x_in; rw [← h46]; rw [decide_eq_true h50]; simp
                have hdi : ¬ x_di (tp a) = true := by show ¬ x_in 48 57 _ = _; unfold x_in; rw [← h46]; rw [decide_eq_true h86]; simp
                have hnx : x_nx tp n a = a + 1 := by unfold x_nx; rw [if_neg hle, if_neg hdi]
                have hmk : ¬ x_mk (tp a) = true := by unfold x_mk; rw [← h46]; rw [decide_eq_false (p := ¬ f_ix _ _ < 0) (by rw [← h144]; exact fun hh => hh h147), Bool.and_false]; decide
                have htk : x_tk tp n a = 4 := by unfold x_tk; rw [if_neg (by omega), if_neg hle, if_neg hdi, if_neg hmk]
                have hJe : I165 e = upd (upd (upd (I e) 4 (nI a)) 3 4) 5 (nI (x_nx tp n a)) := by rw [eI165, am_up_s, eI155, am_up_s, h17e, hnx]; exact congrArg (upd _ 5) (nI_1 a)
                have hJo : ∀ b, b ≠ e → I165 b = I b := fun b h => by rw [eI165, am_up_o _ _ _ _ h, eI155, am_up_o _ _ _ _ h, eI17, am_up_o _ _ _ _ h]
                refine ⟨rfl, I165, rfl, hJo, fun k hk => ?_, by rw [hJe]; exact h4, by rw [hJo _ (by omega)]; exact htp, by rw [hJe]; exact hend, by rw [hJe]; rfl, hab.2, ?_, ⟨x_nx tp n a, (x_nx_b tp hlt).2, by rw [hJe]; rfl, by unfold x_av; rw [if_neg (by omega)], fun _ => rfl⟩, fun h => by rw [htk] at h; exact absurd h (by decide)⟩
                · rw [hJe]; rw [upd_o (by omega)]; rw [upd_o (by omega)]; rw [upd_o (by omega)]
                · rw [htk, hJe]; rfl)
            · refine AW.iconst 3 dX6_advance_150 (by decide) ?_
              refine AW.goto 155 dX6_advance_151 (by decide) ?_
              refine AW.putI (fX6_55 hG) rfl (vp_nar_int _) rfl (he.1 0 _ rfl) dX6_advance_155 ?_
              refine AW.namI (fun I155 eI155 => ?_)
              refine AW.aload_n dX6_advance_158 rfl ?_
              refine AW.aload_n dX6_advance_159 rfl ?_
              refine AW.getI (fX6_66 hG).r rfl (he.1 0 _ rfl) dX6_advance_160 ?_
              refine AW.iconst 1 dX6_advance_163 (by decide) ?_
              refine AW.iadd dX6_advance_164 ?_
              refine AW.putI (fX6_36 hG) rfl (vp_nar_int _) rfl (he.1 0 _ rfl) dX6_advance_165 ?_
              refine AW.namI (fun I165 eI165 => ?_)
              exact AW.vret dX6_advance_168 rfl (by decide) (by decide) (by
                have hf0 : (if I e 7 = 0 then (0, x_run x_bl tp (n - p) p) else (I e 7, b)) = ((0 : Int32), a) := by rw [if_pos h4, ← ha]
                rw [hf0]
                have hle : ¬ x_le (tp a) = true := by show ¬ x_in 97 122 _ = _; unfold x_in; rw [← h46]; rw [decide_eq_true h50]; simp
                have hdi : ¬ x_di (tp a) = true := by show ¬ x_in 48 57 _ = _; unfold x_in; rw [← h46]; rw [decide_eq_true h86]; simp
                have hnx : x_nx tp n a = a + 1 := by unfold x_nx; rw [if_neg hle, if_neg hdi]
                have hmk : x_mk (tp a) = true := by unfold x_mk; rw [← h46, decide_eq_true h137, decide_eq_true (by rw [← h144]; exact h147)]; rfl
                have htk : x_tk tp n a = 3 := by unfold x_tk; rw [if_neg (by omega), if_neg hle, if_neg hdi, if_pos hmk]
                have hJe : I165 e = upd (upd (upd (I e) 4 (nI a)) 3 3) 5 (nI (x_nx tp n a)) := by rw [eI165, am_up_s, eI155, am_up_s, h17e, hnx]; exact congrArg (upd _ 5) (nI_1 a)
                have hJo : ∀ b, b ≠ e → I165 b = I b := fun b h => by rw [eI165, am_up_o _ _ _ _ h, eI155, am_up_o _ _ _ _ h, eI17, am_up_o _ _ _ _ h]
                refine ⟨rfl, I165, rfl, hJo, fun k hk => ?_, by rw [hJe]; exact h4, by rw [hJo _ (by omega)]; exact htp, by rw [hJe]; exact hend, by rw [hJe]; rfl, hab.2, ?_, ⟨x_nx tp n a, (x_nx_b tp hlt).2, by rw [hJe]; rfl, by unfold x_av; rw [if_neg (by omega)], fun _ => rfl⟩, fun h => by rw [htk] at h; exact absurd h (by decide)⟩
                · rw [hJe]; rw [upd_o (by omega)]; rw [upd_o (by omega)]; rw [upd_o (by omega)]
                · rw [htk, hJe]; rfl)
        · refine AW.iload_n dX6_advance_89 rfl ?_
          refine AW.bipush 57 dX6_advance_90 (by decide) ?_
          refine AW.icmp_gt 135 dX6_advance_92 (by decide) (fun h92 => ?_) (fun h92 => ?_)
          · refine AW.aload_n dX6_advance_135 rfl ?_
            refine AW.iload_n dX6_advance_136 rfl ?_
            refine AW.if_le 154 dX6_advance_137 (by decide) (fun h137 => ?_) (fun h137 => ?_)
            · refine AW.iconst 4 dX6_advance_154 (by decide) ?_
              refine AW.putI (fX6_55 hG) rfl (vp_nar_int _) rfl (he.1 0 _ rfl) dX6_advance_155 ?_
              refine AW.namI (fun I155 eI155 => ?_)
              refine AW.aload_n dX6_advance_158 rfl ?_
              refine AW.aload_n dX6_advance_159 rfl ?_
              refine AW.getI (fX6_66 hG).r rfl (he.1 0 _ rfl) dX6_advance_160 ?_
              refine AW.iconst 1 dX6_advance_163 (by decide) ?_
              refine AW.iadd dX6_advance_164 ?_
              refine AW.putI (fX6_36 hG) rfl (vp_nar_int _) rfl (he.1 0 _ rfl) dX6_advance_165 ?_
              refine AW.namI (fun I165 eI165 => ?_)
              exact AW.vret dX6_advance_168 rfl (by decide) (by decide) (by
                have hf0 : (if I e 7 = 0 then (0, x_run x_bl tp (n - p) p) else (I e 7, b)) = ((0 : Int32), a) := by rw [if_pos h4, ← ha]
                rw [hf0]
                have hle : ¬ x_le (tp a) = true := by show ¬ x_in 97 122 _ = _; unfold x_in; rw [← h46]; rw [decide_eq_true h50]; simp
                have hdi : ¬ x_di (tp a) = true := by show ¬ x_in 48 57 _ = _; unfold x_in; rw [← h46]; rw [decide_eq_false (fun hh => absurd hh (Int32.not_le.mpr h92)), Bool.and_false]; decide
                have hnx : x_nx tp n a = a + 1 := by unfold x_nx; rw [if_neg hle, if_neg hdi]
                have hmk : ¬ x_mk (tp a) = true := by unfold x_mk; rw [← h46]; rw [decide_eq_false (fun hh => hh h137)]; simp
                have htk : x_tk tp n a = 4 := by unfold x_tk; rw [if_neg (by omega), if_neg hle, if_neg hdi, if_neg hmk]
                have hJe : I165 e = upd (upd (upd (I e) 4 (nI a)) 3 4) 5 (nI (x_nx tp n a)) := by rw [eI165, am_up_s, eI155, am_up_s, h17e, hnx]; exact congrArg (upd _ 5) (nI_1 a)
                have hJo : ∀ b, b ≠ e → I165 b = I b := fun b h => by rw [eI165, am_up_o _ _ _ _ h, eI155, am_up_o _ _ _ _ h, eI17, am_up_o _ _ _ _ h]
                refine ⟨rfl, I165, rfl, hJo, fun k hk => ?_, by rw [hJe]; exact h4, by rw [hJo _ (by omega)]; exact htp, by rw [hJe]; exact hend, by rw [hJe]; rfl, hab.2, ?_, ⟨x_nx tp n a, (x_nx_b tp hlt).2, by rw [hJe]; rfl, by unfold x_av; rw [if_neg (by omega)], fun _ => rfl⟩, fun h => by rw [htk] at h; exact absurd h (by decide)⟩
                · rw [hJe]; rw [upd_o (by omega)]; rw [upd_o (by omega)]; rw [upd_o (by omega)]
                · rw [htk, hJe]; rfl)
            · refine AW.ldcS (j := 1) hK q_1 k_s_1 rfl rfl dX6_advance_140 ?_
              refine AW.iload_n dX6_advance_142 rfl ?_
              refine AW.i2c dX6_advance_143 ?_
              have hc9 : (0 : Int32) ≤ x46 ∧ x46 < 128 := ⟨Int32.le_of_lt (Int32.not_le.mp h137), by rw [h46]; exact (hby a (by omega)).2⟩
              have hi2 : (x46.toUInt32 % 65536).toInt32 = x46 := k_i2c hc9
              have hc9 : (0 : Int32) ≤ (x46.toUInt32 % 65536).toInt32 ∧ (x46.toUInt32 % 65536).toInt32 < 128 := by rw [hi2]; exact hc9
              refine AW.callX (As := [.int ((x46.toUInt32 % 65536).toInt32)]) hG.2.2 (vX6_81 hG) (k_txi hK k_s_1) (k_indexOf0 hK (d := 4) (Nat.le_refl _) (k_txi hK k_s_1) ((x46.toUInt32 % 65536).toInt32) (by assumption) (by decide)) (by omega) dX6_advance_144 rfl rfl (Nat.le_of_ble_eq_true rfl) (fun v w9 hq9 h09 => by obtain ⟨rfl, rfl⟩ := hq9; exact ⟨h09, rfl⟩) (by decide) (by decide) (fun _ _ hx => hx) (fun v144 w144 hq144 => ?_)
              obtain ⟨rfl, rfl⟩ := hq144
              refine AW.nam (fun x144 ex144 => ?_)
              have h144 : x144 = f_ix [59, 40, 41, 43, 45, 42, 47, 60, 61] x46 := by rw [ex144, hi2]
              refine AW.if_lt 154 dX6_advance_147 (by decide) (fun h147 => ?_) (fun h147 => ?_)
              · refine AW.iconst 4 dX6_advance_154 (by decide) ?_
                refine AW.putI (fX6_55 hG) rfl (vp_nar_int _) rfl (he.1 0 _ rfl) dX6_advance_155 ?_
                refine AW.namI (fun I155 eI155 => ?_)
                refine AW.aload_n dX6_advance_158 rfl ?_
                refine AW.aload_n dX6_advance_159 rfl ?_
                refine AW.getI (fX6_66 hG).r rfl (he.1 0 _ rfl) dX6_advance_160 ?_
                refine AW.iconst 1 dX6_advance_163 (by decide) ?_
                refine AW.iadd dX6_advance_164 ?_
                refine AW.putI (fX6_36 hG) rfl (vp_nar_int _) rfl (he.1 0 _ rfl) dX6_advance_165 ?_
                refine AW.namI (fun I165 eI165 => ?_)
                exact AW.vret dX6_advance_168 rfl (by decide) (by decide) (by
                  have hf0 : (if I e 7 = 0 then (0, x_run x_bl tp (n - p) p) else (I e 7, b)) = ((0 : Int32), a) := by rw [if_pos h4, ← ha]
                  rw [hf0]
                  have hle : ¬ x_le (tp a) = true := by show ¬ x_in 97 122 _ = _; unfold x_in; rw [← h46]; rw [decide_eq_true h50]; simp
                  have hdi : ¬ x_di (tp a) = true := by show ¬ x_in 48 57 _ = _; unfold x_in; rw [← h46]; rw [decide_eq_false (fun hh => absurd hh (Int32.not_le.mpr h92)), Bool.and_false]; decide
                  have hnx : x_nx tp n a = a + 1 := by unfold x_nx; rw [if_neg hle, if_neg hdi]
                  have hmk : ¬ x_mk (tp a) = true := by unfold x_mk; rw [← h46]; rw [decide_eq_false (p := ¬ f_ix _ _ < 0) (by rw [← h144]; exact fun hh => hh h147), Bool.and_false]; decide
                  have htk : x_tk tp n a = 4 := by unfold x_tk; rw [if_neg (by omega), if_neg hle, if_neg hdi, if_neg hmk]
                  have hJe : I165 e = upd (upd (upd (I e) 4 (nI a)) 3 4) 5 (nI (x_nx tp n a)) := by rw [eI165, am_up_s, eI155, am_up_s, h17e, hnx]; exact congrArg (upd _ 5) (nI_1 a)
                  have hJo : ∀ b, b ≠ e → I165 b = I b := fun b h => by rw [eI165, am_up_o _ _ _ _ h, eI155, am_up_o _ _ _ _ h, eI17, am_up_o _ _ _ _ h]
                  refine ⟨rfl, I165, rfl, hJo, fun k hk => ?_, by rw [hJe]; exact h4, by rw [hJo _ (by omega)]; exact htp, by rw [hJe]; exact hend, by rw [hJe]; rfl, hab.2, ?_, ⟨x_nx tp n a, (x_nx_b tp hlt).2, by rw [hJe]; rfl, by unfold x_av; rw [if_neg (by omega)], fun _ => rfl⟩, fun h => by rw [htk] at h; exact absurd h (by decide)⟩
                  · rw [hJe]; rw [upd_o (by omega)]; rw [upd_o (by omega)]; rw [upd_o (by omega)]
                  · rw [htk, hJe]; rfl)
              · refine AW.iconst 3 dX6_advance_150 (by decide) ?_
                refine AW.goto 155 dX6_advance_151 (by decide) ?_
                refine AW.putI (fX6_55 hG) rfl (vp_nar_int _) rfl (he.1 0 _ rfl) dX6_advance_155 ?_
                refine AW.namI (fun I155 eI155 => ?_)
                refine AW.aload_n dX6_advance_158 rfl ?_
                refine AW.aload_n dX6_advance_159 rfl ?_
                refine AW.getI (fX6_66 hG).r rfl (he.1 0 _ rfl) dX6_advance_160 ?_
                refine AW.iconst 1 dX6_advance_163 (by decide) ?_
                refine AW.iadd dX6_advance_164 ?_
                refine AW.putI (fX6_36 hG) rfl (vp_nar_int _) rfl (he.1 0 _ rfl) dX6_advance_165 ?_
                refine AW.namI (fun I165 eI165 => ?_)
                exact AW.vret dX6_advance_168 rfl (by decide) (by decide) (by
                  have hf0 : (if I e 7 = 0 then (0, x_run x_bl tp (n - p) p) else (I e 7, b)) = ((0 : Int32), a) := by rw [if_pos h4, ← ha]
                  rw [hf0]
                  have hle : ¬ x_le (tp a) = true := by show ¬ x_in 97 122 _ = _; unfold x_in; rw [← h46]; rw [decide_eq_true h50]; simp
                  have hdi : ¬ x_di (tp a) = true := by show ¬ x_in 48 57 _ = _; unfold x_in; rw [← h46]; rw [decide_eq_false (fun hh => absurd hh (Int32.not_le.mpr h92)), Bool.and_false]; decide
                  have hnx : x_nx tp n a = a + 1 := by unfold x_nx; rw [if_neg hle, if_neg hdi]
                  have hmk : x_mk (tp a) = true := by unfold x_mk; rw [← h46, decide_eq_true h137, decide_eq_true (by rw [← h144]; exact h147)]; rfl
                  have htk : x_tk tp n a = 3 := by unfold x_tk; rw [if_neg (by omega), if_neg hle, if_neg hdi, if_pos hmk]
                  have hJe : I165 e = upd (upd (upd (I e) 4 (nI a)) 3 3) 5 (nI (x_nx tp n a)) := by rw [eI165, am_up_s, eI155, am_up_s, h17e, hnx]; exact congrArg (upd _ 5) (nI_1 a)
                  have hJo : ∀ b, b ≠ e → I165 b = I b := fun b h => by rw [eI165, am_up_o _ _ _ _ h, eI155, am_up_o _ _ _ _ h, eI17, am_up_o _ _ _ _ h]
                  refine ⟨rfl, I165, rfl, hJo, fun k hk => ?_, by rw [hJe]; exact h4, by rw [hJo _ (by omega)]; exact htp, by rw [hJe]; exact hend, by rw [hJe]; rfl, hab.2, ?_, ⟨x_nx tp n a, (x_nx_b tp hlt).2, by rw [hJe]; rfl, by unfold x_av; rw [if_neg (by omega)], fun _ => rfl⟩, fun h => by rw [htk] at h; exact absurd h (by decide)⟩
                  · rw [hJe]; rw [upd_o (by omega)]; rw [upd_o (by omega)]; rw [upd_o (by omega)]
                  · rw [htk, hJe]; rfl)
          · refine AW.aload_n dX6_advance_95 rfl ?_
            refine AW.iconst 2 dX6_advance_96 (by decide) ?_
            refine AW.putI (fX6_55 hG) rfl (vp_nar_int _) rfl (he.1 0 _ rfl) dX6_advance_97 ?_
            refine AW.namI (fun I97 eI97 => ?_)
            have h97t : I97 (e + 1) = tp := by rw [eI97, am_up_o _ _ _ _ (by omega)]; exact h17t
            have h97s : I97 e 4 = nI a := by rw [eI97, am_up_s]; exact h17s
            have h97n : I97 e 2 = nI n := by rw [eI97, am_up_s]; exact h17n
            refine AW.aload_n dX6_advance_100 rfl ?_
            refine AW.aload_n dX6_advance_101 rfl ?_
            refine AW.aload_n dX6_advance_102 rfl ?_
            refine AW.getI (fX6_66 hG).r rfl (he.1 0 _ rfl) dX6_advance_103 ?_
            refine AW.bipush 48 dX6_advance_106 (by decide) ?_
            refine AW.bipush 57 dX6_advance_108 (by decide) ?_
            refine AW.callV (b := e) (As := [.int (I97 e 4), .int 48, .int 57]) hG.2.2 (vX6_69 hG) (he.1 0 _ rfl) (k_X6_rowEnd hK (d := 0) (Nat.le_refl _) he hn6 (by assumption) (I97 e 4) 48 57 (by assumption) (by omega)) (by omega) dX6_advance_110 rfl rfl (Nat.le_of_ble_eq_true rfl) (fun v w9 hq9 h09 => by obtain ⟨rfl, rfl⟩ := hq9; exact ⟨h09, rfl⟩) (by decide) (by decide) (fun _ _ hx => hx) (fun v110 w110 hq110 => ?_)
            obtain ⟨rfl, rfl⟩ := hq110
            refine AW.nam (fun x110 ex110 => ?_)
            refine AW.putI (fX6_36 hG) rfl (vp_nar_int _) rfl (he.1 0 _ rfl) dX6_advance_113 ?_
            refine AW.namI (fun I113 eI113 => ?_)
            have h113t : I113 (e + 1) = tp := by rw [eI113, am_up_o _ _ _ _ (by omega)]; exact h97t
            have h113s : I113 e 4 = nI a := by rw [eI113, am_up_s]; exact h97s
            rw [h97t] at ex110
            have hrb := x_run_b (x_in 48 57) tp (n - a) a
            have h113x : I113 e 5 = nI (x_run (x_in 48 57) tp (n - a) a) := by rw [eI113, am_up_s, ex110]; exact pk_us
            refine AW.aload_n dX6_advance_116 rfl ?_
            refine AW.aload_n dX6_advance_117 rfl ?_
            refine AW.aload_n dX6_advance_118 rfl ?_
            refine AW.getI (fX6_66 hG).r rfl (he.1 0 _ rfl) dX6_advance_119 ?_
            refine AW.aload_n dX6_advance_122 rfl ?_
            refine AW.getI (fX6_36 hG).r rfl (he.1 0 _ rfl) dX6_advance_123 ?_
            refine AW.callV (b := e) (As := [.int (I113 e 4), .int (I113 e 5)]) hG.2.2 (vX6_73 hG) (he.1 0 _ rfl) (k_X6_numberBetween hK (d := 0) (Nat.le_refl _) he (I113 e 4) (I113 e 5) (by assumption) (by assumption) (by omega) (by omega)) (by omega) dX6_advance_126 rfl rfl (Nat.le_of_ble_eq_true rfl) (fun v w9 hq9 h09 => by obtain ⟨rfl, rfl⟩ := hq9; exact ⟨h09, rfl⟩) (by decide) (by decide) (fun _ _ hx => hx) (fun v126 w126 hq126 => ?_)
            obtain ⟨rfl, rfl⟩ := hq126
            refine AW.nam (fun x126 ex126 => ?_)
            refine AW.putI (fX6_76 hG) rfl (vp_nar_int _) rfl (he.1 0 _ rfl) dX6_advance_129 ?_
            refine AW.namI (fun I129 eI129 => ?_)
            refine AW.goto 168 dX6_advance_132 (by decide) ?_
            exact AW.vret dX6_advance_168 rfl (by decide) (by decide) (by
              have hf0 : (if I e 7 = 0 then (0, x_run x_bl tp (n - p) p) else (I e 7, b)) = ((0 : Int32), a) := by rw [if_pos h4, ← ha]
              rw [hf0]
              have hle : ¬ x_le (tp a) = true := by show ¬ x_in 97 122 _ = _; unfold x_in; rw [← h46]; rw [decide_eq_true h50]; simp
              have hdi : x_di (tp a) = true := by show x_in 48 57 _ = _; unfold x_in; rw [← h46, decide_eq_false h86, decide_eq_true (Int32.not_lt.mp h92)]; rfl
              have htk : x_tk tp n a = 2 := by unfold x_tk; rw [if_neg (by omega), if_neg hle, if_pos hdi]
              have hnx : x_nx tp n a = x_run x_di tp (n - a) a := by unfold x_nx; rw [if_neg hle, if_pos hdi]
              have hJe : I129 e = upd (upd (upd (upd (I e) 4 (nI a)) 3 2) 5 (nI (x_nx tp n a))) 6 (x_nu tp n a) := by rw [eI129, am_up_s, eI113, am_up_s, eI97, am_up_s, h17e, ex126, h113t, ex110]; unfold x_nu; rw [hnx]
              have hJo : ∀ b, b ≠ e → I129 b = I b := fun b h => by rw [eI129, am_up_o _ _ _ _ h, eI113, am_up_o _ _ _ _ h, eI97, am_up_o _ _ _ _ h, eI17, am_up_o _ _ _ _ h]
              refine ⟨rfl, I129, rfl, hJo, fun k hk => ?_, by rw [hJe]; exact h4, by rw [hJo _ (by omega)]; exact htp, by rw [hJe]; exact hend, by rw [hJe]; rfl, hab.2, ?_, ⟨x_nx tp n a, (x_nx_b tp hlt).2, by rw [hJe]; rfl, by unfold x_av; rw [if_neg (by omega)], fun _ => rfl⟩, fun _ => by rw [hJe]; rfl⟩
              · rw [hJe]; rw [upd_o (by omega)]; rw [upd_o (by omega)]; rw [upd_o (by omega)]; rw [upd_o (by omega)]
              · rw [htk, hJe]; rfl)
      · refine AW.iload_n dX6_advance_53 rfl ?_
        refine AW.bipush 122 dX6_advance_54 (by decide) ?_
        refine AW.icmp_gt 83 dX6_advance_56 (by decide) (fun h56 => ?_) (fun h56 => ?_)
        · refine AW.iload_n dX6_advance_83 rfl ?_
          refine AW.bipush 48 dX6_advance_84 (by decide) ?_
          refine AW.icmp_lt 135 dX6_advance_86 (by decide) (fun h86 => ?_) (fun h86 => ?_)
          · refine AW.aload_n dX6_advance_135 rfl ?_
            refine AW.iload_n dX6_advance_136 rfl ?_
            refine AW.if_le 154 dX6_advance_137 (by decide) (fun h137 => ?_) (fun h137 => ?_)
            · refine AW.iconst 4 dX6_advance_154 (by decide) ?_
              refine AW.putI (fX6_55 hG) rfl (vp_nar_int _) rfl (he.1 0 _ rfl) dX6_advance_155 ?_
              refine AW.namI (fun I155 eI155 => ?_)
              refine AW.aload_n dX6_advance_158 rfl ?_
              refine AW.aload_n dX6_advance_159 rfl ?_
              refine AW.getI (fX6_66 hG).r rfl (he.1 0 _ rfl) dX6_advance_160 ?_
              refine AW.iconst 1 dX6_advance_163 (by decide) ?_
              refine AW.iadd dX6_advance_164 ?_
              refine AW.putI (fX6_36 hG) rfl (vp_nar_int _) rfl (he.1 0 _ rfl) dX6_advance_165 ?_
              refine AW.namI (fun I165 eI165 => ?_)
              exact AW.vret dX6_advance_168 rfl (by decide) (by decide) (by
                have hf0 : (if I e 7 = 0 then (0, x_run x_bl tp (n - p) p) else (I e 7, b)) = ((0 : Int32), a) := by rw [if_pos h4, ← ha]
                rw [hf0]
                have hle : ¬ x_le (tp a) = true := by show ¬ x_in 97 122 _ = _; unfold x_in; rw [← h46]; rw [decide_eq_false (fun hh => absurd hh (Int32.not_le.mpr h56)), Bool.and_false]; decide
                have hdi : ¬ x_di (tp a) = true := by show ¬ x_in 48 57 _ = _; unfold x_in; rw [← h46]; rw [decide_eq_true h86]; simp
                have hnx : x_nx tp n a = a + 1 := by unfold x_nx; rw [if_neg hle, if_neg hdi]
                have hmk : ¬ x_mk (tp a) = true := by unfold x_mk; rw [← h46]; rw [decide_eq_false (fun hh => hh h137)]; simp
                have htk : x_tk tp n a = 4 := by unfold x_tk; rw [if_neg (by omega), if_neg hle, if_neg hdi, if_neg hmk]
                have hJe : I165 e = upd (upd (upd (I e) 4 (nI a)) 3 4) 5 (nI (x_nx tp n a)) := by rw [eI165, am_up_s, eI155, am_up_s, h17e, hnx]; exact congrArg (upd _ 5) (nI_1 a)
                have hJo : ∀ b, b ≠ e → I165 b = I b := fun b h => by rw [eI165, am_up_o _ _ _ _ h, eI155, am_up_o _ _ _ _ h, eI17, am_up_o _ _ _ _ h]
                refine ⟨rfl, I165, rfl, hJo, fun k hk => ?_, by rw [hJe]; exact h4, by rw [hJo _ (by omega)]; exact htp, by rw [hJe]; exact hend, by rw [hJe]; rfl, hab.2, ?_, ⟨x_nx tp n a, (x_nx_b tp hlt).2, by rw [hJe]; rfl, by unfold x_av; rw [if_neg (by omega)], fun _ => rfl⟩, fun h => by rw [htk] at h; exact absurd h (by decide)⟩
                · rw [hJe]; rw [upd_o (by omega)]; rw [upd_o (by omega)]; rw [upd_o (by omega)]
                · rw [htk, hJe]; rfl)
            · refine AW.ldcS (j := 1) hK q_1 k_s_1 rfl rfl dX6_advance_140 ?_
              refine AW.iload_n dX6_advance_142 rfl ?_
              refine AW.i2c dX6_advance_143 ?_
              have hc9 : (0 : Int32) ≤ x46 ∧ x46 < 128 := ⟨Int32.le_of_lt (Int32.not_le.mp h137), by rw [h46]; exact (hby a (by omega)).2⟩
              have hi2 : (x46.toUInt32 % 65536).toInt32 = x46 := k_i2c hc9
              have hc9 : (0 : Int32) ≤ (x46.toUInt32 % 65536).toInt32 ∧ (x46.toUInt32 % 65536).toInt32 < 128 := by rw [hi2]; exact hc9
              refine AW.callX (As := [.int ((x46.toUInt32 % 65536).toInt32)]) hG.2.2 (vX6_81 hG) (k_txi hK k_s_1) (k_indexOf0 hK (d := 4) (Nat.le_refl _) (k_txi hK k_s_1) ((x46.toUInt32 % 65536).toInt32) (by assumption) (by decide)) (by omega) dX6_advance_144 rfl rfl (Nat.le_of_ble_eq_true rfl) (fun v w9 hq9 h09 => by obtain ⟨rfl, rfl⟩ := hq9; exact ⟨h09, rfl⟩) (by decide) (by decide) (fun _ _ hx => hx) (fun v144 w144 hq144 => ?_)
              obtain ⟨rfl, rfl⟩ := hq144
              refine AW.nam (fun x144 ex144 => ?_)
              have h144 : x144 = f_ix [59, 40, 41, 43, 45, 42, 47, 60, 61] x46 := by rw [ex144, hi2]
              refine AW.if_lt 154 dX6_advance_147 (by decide) (fun h147 => ?_) (fun h147 => ?_)
              · refine AW.iconst 4 dX6_advance_154 (by decide) ?_
                refine AW.putI (fX6_55 hG) rfl (vp_nar_int _) rfl (he.1 0 _ rfl) dX6_advance_155 ?_
                refine AW.namI (fun I155 eI155 => ?_)
                refine AW.aload_n dX6_advance_158 rfl ?_
                refine AW.aload_n dX6_advance_159 rfl ?_
                refine AW.getI (fX6_66 hG).r rfl (he.1 0 _ rfl) dX6_advance_160 ?_
                refine AW.iconst 1 dX6_advance_163 (by decide) ?_
                refine AW.iadd dX6_advance_164 ?_
                refine AW.putI (fX6_36 hG) rfl (vp_nar_int _) rfl (he.1 0 _ rfl) dX6_advance_165 ?_
                refine AW.namI (fun I165 eI165 => ?_)
                exact AW.vret dX6_advance_168 rfl (by decide) (by decide) (by
                  have hf0 : (if I e 7 = 0 then (0, x_run x_bl tp (n - p) p) else (I e 7, b)) = ((0 : Int32), a) := by rw [if_pos h4, ← ha]
                  rw [hf0]
                  have hle : ¬ x_le (tp a) = true := by show ¬ x_in 97 122 _ = _; unfold x_in; rw [← h46]; rw [decide_eq_false (fun hh => absurd hh (Int32.not_le.mpr h56)), Bool.and_false]; decide
                  have hdi : ¬ x_di (tp a) = true := by show ¬ x_in 48 57 _ = _; unfold x_in; rw [← h46]; rw [decide_eq_true h86]; simp
                  have hnx : x_nx tp n a = a + 1 := by unfold x_nx; rw [if_neg hle, if_neg hdi]
                  have hmk : ¬ x_mk (tp a) = true := by unfold x_mk; rw [← h46]; rw [decide_eq_false (p := ¬ f_ix _ _ < 0) (by rw [← h144]; exact fun hh => hh h147), Bool.and_false]; decide
                  have htk : x_tk tp n a = 4 := by unfold x_tk; rw [if_neg (by omega), if_neg hle, if_neg hdi, if_neg hmk]
                  have hJe : I165 e = upd (upd (upd (I e) 4 (nI a)) 3 4) 5 (nI (x_nx tp n a)) := by rw [eI165, am_up_s, eI155, am_up_s, h17e, hnx]; exact congrArg (upd _ 5) (nI_1 a)
                  have hJo : ∀ b, b ≠ e → I165 b = I b := fun b h => by rw [eI165, am_up_o _ _ _ _ h, eI155, am_up_o _ _ _ _ h, eI17, am_up_o _ _ _ _ h]
                  refine ⟨rfl, I165, rfl, hJo, fun k hk => ?_, by rw [hJe]; exact h4, by rw [hJo _ (by omega)]; exact htp, by rw [hJe]; exact hend, by rw [hJe]; rfl, hab.2, ?_, ⟨x_nx tp n a, (x_nx_b tp hlt).2, by rw [hJe]; rfl, by unfold x_av; rw [if_neg (by omega)], fun _ => rfl⟩, fun h => by rw [htk] at h; exact absurd h (by decide)⟩
                  · rw [hJe]; rw [upd_o (by omega)]; rw [upd_o (by omega)]; rw [upd_o (by omega)]
                  · rw [htk, hJe]; rfl)
              · refine AW.iconst 3 dX6_advance_150 (by decide) ?_
                refine AW.goto 155 dX6_advance_151 (by decide) ?_
                refine AW.putI (fX6_55 hG) rfl (vp_nar_int _) rfl (he.1 0 _ rfl) dX6_advance_155 ?_
                refine AW.namI (fun I155 eI155 => ?_)
                refine AW.aload_n dX6_advance_158 rfl ?_
                refine AW.aload_n dX6_advance_159 rfl ?_
                refine AW.getI (fX6_66 hG).r rfl (he.1 0 _ rfl) dX6_advance_160 ?_
                refine AW.iconst 1 dX6_advance_163 (by decide) ?_
                refine AW.iadd dX6_advance_164 ?_
                refine AW.putI (fX6_36 hG) rfl (vp_nar_int _) rfl (he.1 0 _ rfl) dX6_advance_165 ?_
                refine AW.namI (fun I165 eI165 => ?_)
                exact AW.vret dX6_advance_168 rfl (by decide) (by decide) (by
                  have hf0 : (if I e 7 = 0 then (0, x_run x_bl tp (n - p) p) else (I e 7, b)) = ((0 : Int32), a) := by rw [if_pos h4, ← ha]
                  rw [hf0]
                  have hle : ¬ x_le (tp a) = true := by show ¬ x_in 97 122 _ = _; unfold x_in; rw [← h46]; rw [decide_eq_false (fun hh => absurd hh (Int32.not_le.mpr h56)), Bool.and_false]; decide
                  have hdi : ¬ x_di (tp a) = true := by show ¬ x_in 48 57 _ = _; unfold x_in; rw [← h46]; rw [decide_eq_true h86]; simp
                  have hnx : x_nx tp n a = a + 1 := by unfold x_nx; rw [if_neg hle, if_neg hdi]
                  have hmk : x_mk (tp a) = true := by unfold x_mk; rw [← h46, decide_eq_true h137, decide_eq_true (by rw [← h144]; exact h147)]; rfl
                  have htk : x_tk tp n a = 3 := by unfold x_tk; rw [if_neg (by omega), if_neg hle, if_neg hdi, if_pos hmk]
                  have hJe : I165 e = upd (upd (upd (I e) 4 (nI a)) 3 3) 5 (nI (x_nx tp n a)) := by rw [eI165, am_up_s, eI155, am_up_s, h17e, hnx]; exact congrArg (upd _ 5) (nI_1 a)
                  have hJo : ∀ b, b ≠ e → I165 b = I b := fun b h => by rw [eI165, am_up_o _ _ _ _ h, eI155, am_up_o _ _ _ _ h, eI17, am_up_o _ _ _ _ h]
                  refine ⟨rfl, I165, rfl, hJo, fun k hk => ?_, by rw [hJe]; exact h4, by rw [hJo _ (by omega)]; exact htp, by rw [hJe]; exact hend, by rw [hJe]; rfl, hab.2, ?_, ⟨x_nx tp n a, (x_nx_b tp hlt).2, by rw [hJe]; rfl, by unfold x_av; rw [if_neg (by omega)], fun _ => rfl⟩, fun h => by rw [htk] at h; exact absurd h (by decide)⟩
                  · rw [hJe]; rw [upd_o (by omega)]; rw [upd_o (by omega)]; rw [upd_o (by omega)]
                  · rw [htk, hJe]; rfl)
          · refine AW.iload_n dX6_advance_89 rfl ?_
            refine AW.bipush 57 dX6_advance_90 (by decide) ?_
            refine AW.icmp_gt 135 dX6_advance_92 (by decide) (fun h92 => ?_) (fun h92 => ?_)
            · refine AW.aload_n dX6_advance_135 rfl ?_
              refine AW.iload_n dX6_advance_136 rfl ?_
              refine AW.if_le 154 dX6_advance_137 (by decide) (fun h137 => ?_) (fun h137 => ?_)
              · refine AW.iconst 4 dX6_advance_154 (by decide) ?_
                refine AW.putI (fX6_55 hG) rfl (vp_nar_int _) rfl (he.1 0 _ rfl) dX6_advance_155 ?_
                refine AW.namI (fun I155 eI155 => ?_)
                refine AW.aload_n dX6_advance_158 rfl ?_
                refine AW.aload_n dX6_advance_159 rfl ?_
                refine AW.getI (fX6_66 hG).r rfl (he.1 0 _ rfl) dX6_advance_160 ?_
                refine AW.iconst 1 dX6_advance_163 (by decide) ?_
                refine AW.iadd dX6_advance_164 ?_
                refine AW.putI (fX6_36 hG) rfl (vp_nar_int _) rfl (he.1 0 _ rfl) dX6_advance_165 ?_
                refine AW.namI (fun I165 eI165 => ?_)
                exact AW.vret dX6_advance_168 rfl (by decide) (by decide) (by
                  have hf0 : (if I e 7 = 0 then (0, x_run x_bl tp (n - p) p) else (I e 7, b)) = ((0 : Int32), a) := by rw [if_pos h4, ← ha]
                  rw [hf0]
                  have hle : ¬ x_le (tp a) = true := by show ¬ x_in 97 122 _ = _; unfold x_in; rw [← h46]; rw [decide_eq_false (fun hh => absurd hh (Int32.not_le.mpr h56)), Bool.and_false]; decide
                  have hdi : ¬ x_di (tp a) = true := by show ¬ x_in 48 57 _ = _; unfold x_in; rw [← h46]; rw [decide_eq_false (fun hh => absurd hh (Int32.not_le.mpr h92)), Bool.and_false]; decide
                  have hnx : x_nx tp n a = a + 1 := by unfold x_nx; rw [if_neg hle, if_neg hdi]
                  have hmk : ¬ x_mk (tp a) = true := by unfold x_mk; rw [← h46]; rw [decide_eq_false (fun hh => hh h137)]; simp
                  have htk : x_tk tp n a = 4 := by unfold x_tk; rw [if_neg (by omega), if_neg hle, if_neg hdi, if_neg hmk]
                  have hJe : I165 e = upd (upd (upd (I e) 4 (nI a)) 3 4) 5 (nI (x_nx tp n a)) := by rw [eI165, am_up_s, eI155, am_up_s, h17e, hnx]; exact congrArg (upd _ 5) (nI_1 a)
                  have hJo : ∀ b, b ≠ e → I165 b = I b := fun b h => by rw [eI165, am_up_o _ _ _ _ h, eI155, am_up_o _ _ _ _ h, eI17, am_up_o _ _ _ _ h]
                  refine ⟨rfl, I165, rfl, hJo, fun k hk => ?_, by rw [hJe]; exact h4, by rw [hJo _ (by omega)]; exact htp, by rw [hJe]; exact hend, by rw [hJe]; rfl, hab.2, ?_, ⟨x_nx tp n a, (x_nx_b tp hlt).2, by rw [hJe]; rfl, by unfold x_av; rw [if_neg (by omega)], fun _ => rfl⟩, fun h => by rw [htk] at h; exact absurd h (by decide)⟩
                  · rw [hJe]; rw [upd_o (by omega)]; rw [upd_o (by omega)]; rw [upd_o (by omega)]
                  · rw [htk, hJe]; rfl)
              · refine AW.ldcS (j := 1) hK q_1 k_s_1 rfl rfl dX6_advance_140 ?_
                refine AW.iload_n dX6_advance_142 rfl ?_
                refine AW.i2c dX6_advance_143 ?_
                have hc9 : (0 : Int32) ≤ x46 ∧ x46 < 128 := ⟨Int32.le_of_lt (Int32.not_le.mp h137), by rw [h46]; exact (hby a (by omega)).2⟩
                have hi2 : (x46.toUInt32 % 65536).toInt32 = x46 := k_i2c hc9
                have hc9 : (0 : Int32) ≤ (x46.toUInt32 % 65536).toInt32 ∧ (x46.toUInt32 % 65536).toInt32 < 128 := by rw [hi2]; exact hc9
                refine AW.callX (As := [.int ((x46.toUInt32 % 65536).toInt32)]) hG.2.2 (vX6_81 hG) (k_txi hK k_s_1) (k_indexOf0 hK (d := 4) (Nat.le_refl _) (k_txi hK k_s_1) ((x46.toUInt32 % 65536).toInt32) (by assumption) (by decide)) (by omega) dX6_advance_144 rfl rfl (Nat.le_of_ble_eq_true rfl) (fun v w9 hq9 h09 => by obtain ⟨rfl, rfl⟩ := hq9; exact ⟨h09, rfl⟩) (by decide) (by decide) (fun _ _ hx => hx) (fun v144 w144 hq144 => ?_)
                obtain ⟨rfl, rfl⟩ := hq144
                refine AW.nam (fun x144 ex144 => ?_)
                have h144 : x144 = f_ix [59, 40, 41, 43, 45, 42, 47, 60, 61] x46 := by rw [ex144, hi2]
                refine AW.if_lt 154 dX6_advance_147 (by decide) (fun h147 => ?_) (fun h147 => ?_)
                · refine AW.iconst 4 dX6_advance_154 (by decide) ?_
                  refine AW.putI (fX6_55 hG) rfl (vp_nar_int _) rfl (he.1 0 _ rfl) dX6_advance_155 ?_
                  refine AW.namI (fun I155 eI155 => ?_)
                  refine AW.aload_n dX6_advance_158 rfl ?_
                  refine AW.aload_n dX6_advance_159 rfl ?_
                  refine AW.getI (fX6_66 hG).r rfl (he.1 0 _ rfl) dX6_advance_160 ?_
                  refine AW.iconst 1 dX6_advance_163 (by decide) ?_
                  refine AW.iadd dX6_advance_164 ?_
                  refine AW.putI (fX6_36 hG) rfl (vp_nar_int _) rfl (he.1 0 _ rfl) dX6_advance_165 ?_
                  refine AW.namI (fun I165 eI165 => ?_)
                  exact AW.vret dX6_advance_168 rfl (by decide) (by decide) (by
                    have hf0 : (if I e 7 = 0 then (0, x_run x_bl tp (n - p) p) else (I e 7, b)) = ((0 : Int32), a) := by rw [if_pos h4, ← ha]
                    rw [hf0]
                    have hle : ¬ x_le (tp a) = true := by show ¬ x_in 97 122 _ = _; unfold x_in; rw [← h46]; rw [decide_eq_false (fun hh => absurd hh (Int32.not_le.mpr h56)), Bool.and_false]; decide
                    have hdi : ¬ x_di (tp a) = true := by show ¬ x_in 48 57 _ = _; unfold x_in; rw [← h46]; rw [decide_eq_false (fun hh => absurd hh (Int32.not_le.mpr h92)), Bool.and_false]; decide
                    have hnx : x_nx tp n a = a + 1 := by unfold x_nx; rw [if_neg hle, if_neg hdi]
                    have hmk : ¬ x_mk (tp a) = true := by unfold x_mk; rw [← h46]; rw [decide_eq_false (p := ¬ f_ix _ _ < 0) (by rw [← h144]; exact fun hh => hh h147), Bool.and_false]; decide
                    have htk : x_tk tp n a = 4 := by unfold x_tk; rw [if_neg (by omega), if_neg hle, if_neg hdi, if_neg hmk]
                    have hJe : I165 e = upd (upd (upd (I e) 4 (nI a)) 3 4) 5 (nI (x_nx tp n a)) := by rw [eI165, am_up_s, eI155, am_up_s, h17e, hnx]; exact congrArg (upd _ 5) (nI_1 a)
                    have hJo : ∀ b, b ≠ e → I165 b = I b := fun b h => by rw [eI165, am_up_o _ _ _ _ h, eI155, am_up_o _ _ _ _ h, eI17, am_up_o _ _ _ _ h]
                    refine ⟨rfl, I165, rfl, hJo, fun k hk => ?_, by rw [hJe]; exact h4, by rw [hJo _ (by omega)]; exact htp, by rw [hJe]; exact hend, by rw [hJe]; rfl, hab.2, ?_, ⟨x_nx tp n a, (x_nx_b tp hlt).2, by rw [hJe]; rfl, by unfold x_av; rw [if_neg (by omega)], fun _ => rfl⟩, fun h => by rw [htk] at h; exact absurd h (by decide)⟩
                    · rw [hJe]; rw [upd_o (by omega)]; rw [upd_o (by omega)]; rw [upd_o (by omega)]
                    · rw [htk, hJe]; rfl)
                · refine AW.iconst 3 dX6_advance_150 (by decide) ?_
                  refine AW.goto 155 dX6_advance_151 (by decide) ?_
                  refine AW.putI (fX6_55 hG) rfl (vp_nar_int _) rfl (he.1 0 _ rfl) dX6_advance_155 ?_
                  refine AW.namI (fun I155 eI155 => ?_)
                  refine AW.aload_n dX6_advance_158 rfl ?_
                  refine AW.aload_n dX6_advance_159 rfl ?_
                  refine AW.getI (fX6_66 hG).r rfl (he.1 0 _ rfl) dX6_advance_160 ?_
                  refine AW.iconst 1 dX6_advance_163 (by decide) ?_
                  refine AW.iadd dX6_advance_164 ?_
                  refine AW.putI (fX6_36 hG) rfl (vp_nar_int _) rfl (he.1 0 _ rfl) dX6_advance_165 ?_
                  refine AW.namI (fun I165 eI165 => ?_)
                  exact AW.vret dX6_advance_168 rfl (by decide) (by decide) (by
                    have hf0 : (if I e 7 = 0 then (0, x_run x_bl tp (n - p) p) else (I e 7, b)) = ((0 : Int32), a) := by rw [if_pos h4, ← ha]
                    rw [hf0]
                    have hle : ¬ x_le (tp a) = true := by show ¬ x_in 97 122 _ = _; unfold x_in; rw [← h46]; rw [decide_eq_false (fun hh => absurd hh (Int32.not_le.mpr h56)), Bool.and_false]; decide
                    have hdi : ¬ x_di (tp a) = true := by show ¬ x_in 48 57 _ = _; unfold x_in; rw [← h46]; rw [decide_eq_false (fun hh => absurd hh (Int32.not_le.mpr h92)), Bool.and_false]; decide
                    have hnx : x_nx tp n a = a + 1 := by unfold x_nx; rw [if_neg hle, if_neg hdi]
                    have hmk : x_mk (tp a) = true := by unfold x_mk; rw [← h46, decide_eq_true h137, decide_eq_true (by rw [← h144]; exact h147)]; rfl
                    have htk : x_tk tp n a = 3 := by unfold x_tk; rw [if_neg (by omega), if_neg hle, if_neg hdi, if_pos hmk]
                    have hJe : I165 e = upd (upd (upd (I e) 4 (nI a)) 3 3) 5 (nI (x_nx tp n a)) := by rw [eI165, am_up_s, eI155, am_up_s, h17e, hnx]; exact congrArg (upd _ 5) (nI_1 a)
                    have hJo : ∀ b, b ≠ e → I165 b = I b := fun b h => by rw [eI165, am_up_o _ _ _ _ h, eI155, am_up_o _ _ _ _ h, eI17, am_up_o _ _ _ _ h]
                    refine ⟨rfl, I165, rfl, hJo, fun k hk => ?_, by rw [hJe]; exact h4, by rw [hJo _ (by omega)]; exact htp, by rw [hJe]; exact hend, by rw [hJe]; rfl, hab.2, ?_, ⟨x_nx tp n a, (x_nx_b tp hlt).2, by rw [hJe]; rfl, by unfold x_av; rw [if_neg (by omega)], fun _ => rfl⟩, fun h => by rw [htk] at h; exact absurd h (by decide)⟩
                    · rw [hJe]; rw [upd_o (by omega)]; rw [upd_o (by omega)]; rw [upd_o (by omega)]
                    · rw [htk, hJe]; rfl)
            · refine AW.aload_n dX6_advance_95 rfl ?_
              refine AW.iconst 2 dX6_advance_96 (by decide) ?_
              refine AW.putI (fX6_55 hG) rfl (vp_nar_int _) rfl (he.1 0 _ rfl) dX6_advance_97 ?_
              refine AW.namI (fun I97 eI97 => ?_)
              have h97t : I97 (e + 1) = tp := by rw [eI97, am_up_o _ _ _ _ (by omega)]; exact h17t
              have h97s : I97 e 4 = nI a := by rw [eI97, am_up_s]; exact h17s
              have h97n : I97 e 2 = nI n := by rw [eI97, am_up_s]; exact h17n
              refine AW.aload_n dX6_advance_100 rfl ?_
              refine AW.aload_n dX6_advance_101 rfl ?_
              refine AW.aload_n dX6_advance_102 rfl ?_
              refine AW.getI (fX6_66 hG).r rfl (he.1 0 _ rfl) dX6_advance_103 ?_
              refine AW.bipush 48 dX6_advance_106 (by decide) ?_
              refine AW.bipush 57 dX6_advance_108 (by decide) ?_
              refine AW.callV (b := e) (As := [.int (I97 e 4), .int 48, .int 57]) hG.2.2 (vX6_69 hG) (he.1 0 _ rfl) (k_X6_rowEnd hK (d := 0) (Nat.le_refl _) he hn6 (by assumption) (I97 e 4) 48 57 (by assumption) (by omega)) (by omega) dX6_advance_110 rfl rfl (Nat.le_of_ble_eq_true rfl) (fun v w9 hq9 h09 => by obtain ⟨rfl, rfl⟩ := hq9; exact ⟨h09, rfl⟩) (by decide) (by decide) (fun _ _ hx => hx) (fun v110 w110 hq110 => ?_)
              obtain ⟨rfl, rfl⟩ := hq110
              refine AW.nam (fun x110 ex110 => ?_)
              refine AW.putI (fX6_36 hG) rfl (vp_nar_int _) rfl (he.1 0 _ rfl) dX6_advance_113 ?_
              refine AW.namI (fun I113 eI113 => ?_)
              have h113t : I113 (e + 1) = tp := by rw [eI113, am_up_o _ _ _ _ (by omega)]; exact h97t
              have h113s : I113 e 4 = nI a := by rw [eI113, am_up_s]; exact h97s
              rw [h97t] at ex110
              have hrb := x_run_b (x_in 48 57) tp (n - a) a
              have h113x : I113 e 5 = nI (x_run (x_in 48 57) tp (n - a) a) := by rw [eI113, am_up_s, ex110]; exact pk_us
              refine AW.aload_n dX6_advance_116 rfl ?_
              refine AW.aload_n dX6_advance_117 rfl ?_
              refine AW.aload_n dX6_advance_118 rfl ?_
              refine AW.getI (fX6_66 hG).r rfl (he.1 0 _ rfl) dX6_advance_119 ?_
              refine AW.aload_n dX6_advance_122 rfl ?_
              refine AW.getI (fX6_36 hG).r rfl (he.1 0 _ rfl) dX6_advance_123 ?_
              refine AW.callV (b := e) (As := [.int (I113 e 4), .int (I113 e 5)]) hG.2.2 (vX6_73 hG) (he.1 0 _ rfl) (k_X6_numberBetween hK (d := 0) (Nat.le_refl _) he (I113 e 4) (I113 e 5) (by assumption) (by assumption) (by omega) (by omega)) (by omega) dX6_advance_126 rfl rfl (Nat.le_of_ble_eq_true rfl) (fun v w9 hq9 h09 => by obtain ⟨rfl, rfl⟩ := hq9; exact ⟨h09, rfl⟩) (by decide) (by decide) (fun _ _ hx => hx) (fun v126 w126 hq126 => ?_)
              obtain ⟨rfl, rfl⟩ := hq126
              refine AW.nam (fun x126 ex126 => ?_)
              refine AW.putI (fX6_76 hG) rfl (vp_nar_int _) rfl (he.1 0 _ rfl) dX6_advance_129 ?_
              refine AW.namI (fun I129 eI129 => ?_)
              refine AW.goto 168 dX6_advance_132 (by decide) ?_
              exact AW.vret dX6_advance_168 rfl (by decide) (by decide) (by
                have hf0 : (if I e 7 = 0 then (0, x_run x_bl tp (n - p) p) else (I e 7, b)) = ((0 : Int32), a) := by rw [if_pos h4, ← ha]
                rw [hf0]
                have hle : ¬ x_le (tp a) = true := by show ¬ x_in 97 122 _ = _; unfold x_in; rw [← h46]; rw [decide_eq_false (fun hh => absurd hh (Int32.not_le.mpr h56)), Bool.and_false]; decide
                have hdi : x_di (tp a) = true := by show x_in 48 57 _ = _; unfold x_in; rw [← h46, decide_eq_false h86, decide_eq_true (Int32.not_lt.mp h92)]; rfl
                have htk : x_tk tp n a = 2 := by unfold x_tk; rw [if_neg (by omega), if_neg hle, if_pos hdi]
                have hnx : x_nx tp n a = x_run x_di tp (n - a) a := by unfold x_nx; rw [if_neg hle, if_pos hdi]
                have hJe : I129 e = upd (upd (upd (upd (I e) 4 (nI a)) 3 2) 5 (nI (x_nx tp n a))) 6 (x_nu tp n a) := by rw [eI129, am_up_s, eI113, am_up_s, eI97, am_up_s, h17e, ex126, h113t, ex110]; unfold x_nu; rw [hnx]
                have hJo : ∀ b, b ≠ e → I129 b = I b := fun b h => by rw [eI129, am_up_o _ _ _ _ h, eI113, am_up_o _ _ _ _ h, eI97, am_up_o _ _ _ _ h, eI17, am_up_o _ _ _ _ h]
                refine ⟨rfl, I129, rfl, hJo, fun k hk => ?_, by rw [hJe]; exact h4, by rw [hJo _ (by omega)]; exact htp, by rw [hJe]; exact hend, by rw [hJe]; rfl, hab.2, ?_, ⟨x_nx tp n a, (x_nx_b tp hlt).2, by rw [hJe]; rfl, by unfold x_av; rw [if_neg (by omega)], fun _ => rfl⟩, fun _ => by rw [hJe]; rfl⟩
                · rw [hJe]; rw [upd_o (by omega)]; rw [upd_o (by omega)]; rw [upd_o (by omega)]; rw [upd_o (by omega)]
                · rw [htk, hJe]; rfl)
        · refine AW.aload_n dX6_advance_59 rfl ?_
          refine AW.iconst 1 dX6_advance_60 (by decide) ?_
          refine AW.putI (fX6_55 hG) rfl (vp_nar_int _) rfl (he.1 0 _ rfl) dX6_advance_61 ?_
          refine AW.namI (fun I61 eI61 => ?_)
          have h61t : I61 (e + 1) = tp := by rw [eI61, am_up_o _ _ _ _ (by omega)]; exact h17t
          have h61s : I61 e 4 = nI a := by rw [eI61, am_up_s]; exact h17s
          have h61n : I61 e 2 = nI n := by rw [eI61, am_up_s]; exact h17n
          refine AW.aload_n dX6_advance_64 rfl ?_
          refine AW.aload_n dX6_advance_65 rfl ?_
          refine AW.aload_n dX6_advance_66 rfl ?_
          refine AW.getI (fX6_66 hG).r rfl (he.1 0 _ rfl) dX6_advance_67 ?_
          refine AW.bipush 97 dX6_advance_70 (by decide) ?_
          refine AW.bipush 122 dX6_advance_72 (by decide) ?_
          refine AW.callV (b := e) (As := [.int (I61 e 4), .int 97, .int 122]) hG.2.2 (vX6_69 hG) (he.1 0 _ rfl) (k_X6_rowEnd hK (d := 0) (Nat.le_refl _) he hn6 (by assumption) (I61 e 4) 97 122 (by assumption) (by omega)) (by omega) dX6_advance_74 rfl rfl (Nat.le_of_ble_eq_true rfl) (fun v w9 hq9 h09 => by obtain ⟨rfl, rfl⟩ := hq9; exact ⟨h09, rfl⟩) (by decide) (by decide) (fun _ _ hx => hx) (fun v74 w74 hq74 => ?_)
          obtain ⟨rfl, rfl⟩ := hq74
          refine AW.nam (fun x74 ex74 => ?_)
          refine AW.putI (fX6_36 hG) rfl (vp_nar_int _) rfl (he.1 0 _ rfl) dX6_advance_77 ?_
          refine AW.namI (fun I77 eI77 => ?_)
          refine AW.goto 168 dX6_advance_80 (by decide) ?_
          exact AW.vret dX6_advance_168 rfl (by decide) (by decide) (by
            have hf0 : (if I e 7 = 0 then (0, x_run x_bl tp (n - p) p) else (I e 7, b)) = ((0 : Int32), a) := by rw [if_pos h4, ← ha]
            rw [hf0]
            have hle : x_le (tp a) = true := by show x_in 97 122 _ = _; unfold x_in; rw [← h46, decide_eq_false h50, decide_eq_true (Int32.not_lt.mp h56)]; rfl
            have htk : x_tk tp n a = 1 := by unfold x_tk; rw [if_neg (by omega), if_pos hle]
            have hJe : I77 e = upd (upd (upd (I e) 4 (nI a)) 3 1) 5 (nI (x_nx tp n a)) := by rw [eI77, am_up_s, eI61, am_up_s, h17e, ex74, h61t, show x_nx tp n a = x_run x_le tp (n - a) a from if_pos hle]
            have hJo : ∀ b, b ≠ e → I77 b = I b := fun b h => by rw [eI77, am_up_o _ _ _ _ h, eI61, am_up_o _ _ _ _ h, eI17, am_up_o _ _ _ _ h]
            refine ⟨rfl, I77, rfl, hJo, fun k hk => ?_, by rw [hJe]; exact h4, by rw [hJo _ (by omega)]; exact htp, by rw [hJe]; exact hend, by rw [hJe]; rfl, hab.2, ?_, ⟨x_nx tp n a, (x_nx_b tp hlt).2, by rw [hJe]; rfl, by unfold x_av; rw [if_neg (by omega)], fun _ => rfl⟩, fun h => by rw [htk] at h; exact absurd h (by decide)⟩
            · rw [hJe]; rw [upd_o (by omega)]; rw [upd_o (by omega)]; rw [upd_o (by omega)]
            · rw [htk, hJe]; rfl)
    · rw [h17s, h17n] at h28
      have hge : n ≤ a := by
        rcases Nat.lt_or_ge a n with h | h
        · exact absurd ((nI_ltI (by omega) (by omega)).mpr h) h28
        · exact h
      refine AW.aload_n dX6_advance_31 rfl ?_
      refine AW.iconst 0 dX6_advance_32 (by decide) ?_
      refine AW.putI (fX6_55 hG) rfl (vp_nar_int _) rfl (he.1 0 _ rfl) dX6_advance_33 ?_
      refine AW.namI (fun I33 eI33 => ?_)
      exact AW.vret dX6_advance_36 rfl (by decide) (by decide) (by
        have hf0 : (if I e 7 = 0 then (0, x_run x_bl tp (n - p) p) else (I e 7, b)) = ((0 : Int32), a) := by rw [if_pos h4, ← ha]
        rw [hf0]
        have hJe : I33 e = upd (upd (I e) 4 (nI a)) 3 0 := by rw [eI33, am_up_s, h17e]
        have hJo : ∀ b, b ≠ e → I33 b = I b := fun b h => by rw [eI33, am_up_o _ _ _ _ h, eI17, am_up_o _ _ _ _ h]
        refine ⟨rfl, I33, rfl, hJo, fun k hk => ?_, by rw [hJe]; exact h4, by rw [hJo _ (by omega)]; exact htp, by rw [hJe]; exact hend, by rw [hJe]; rfl, hab.2, ?_, ⟨p, hpn, by rw [hJe]; exact hp5, by rw [← ha]; unfold x_av; rw [if_pos hge]; omega, fun h => absurd h (by omega)⟩, fun h => by rw [show x_tk tp n a = 0 from if_pos hge] at h; exact absurd h (by decide)⟩
        · rw [hJe]; rw [upd_o (by omega)]; rw [upd_o (by omega)]
        · rw [(show x_tk tp n a = 0 from if_pos hge), hJe]; rfl)
  · exact AW.vret dX6_advance_7 rfl (by decide) (by decide) (⟨rfl, I, rfl, fun _ _ => rfl, fun _ _ => rfl, by rw [if_neg h4]; exact ⟨rfl, hz h4⟩⟩)
