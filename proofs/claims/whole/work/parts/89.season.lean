/-! PURE: A SEASON -/
def z_ct (P : Nat → Bool) (m : Nat) : Nat := lfold (fun l a => if P l = true then a + 1 else a) 0 m
theorem z_ct_s (P : Nat → Bool) (m : Nat) : z_ct P (m + 1) = if P m = true then z_ct P m + 1 else z_ct P m := rfl
theorem z_ct_le (P : Nat → Bool) (m : Nat) : z_ct P m ≤ m := by
  induction m with
  | zero => exact Nat.le_refl _
  | succ m ih => rw [z_ct_s]; split <;> omega
theorem z_ct_c {P Q : Nat → Bool} {m : Nat} (h : ∀ l, l < m → P l = Q l) : z_ct P m = z_ct Q m := by
  induction m with
  | zero => rfl
  | succ m ih => rw [z_ct_s, z_ct_s, ih (fun l hl => h l (by omega)), h m (by omega)]
theorem z_ct_x {P : Nat → Bool} {m r : Nat} (h : ∀ l, m ≤ l → P l = false) : z_ct P (m + r) = z_ct P m := by
  induction r with
  | zero => rfl
  | succ r ih => rw [← Nat.add_assoc, z_ct_s, ih, h (m + r) (by omega)]; rfl
theorem z_lwE {cu : Nat → Int32} {m : Nat} (hm : m ≤ 6) : ∃ s, s < 1024 ∧ lfold (fun l a => if ¬ cu l = 0 then a ||| ((1 : Int32) <<< (nI l &&& 31)) else a) 0 m = nI s ∧ f_lw cu m = nI (z_pc s) ∧ z_pc s ≤ 6 := by
  have hb : ∀ i, i < 32 → bt (lfold (fun l a => if ¬ cu l = 0 then a ||| ((1 : Int32) <<< (nI l &&& 31)) else a) 0 m) i = decide (i < m ∧ ¬ cu i = 0) := fun i hi => z_fold (by omega) hi
  obtain ⟨s, hs, e⟩ := z_of (k := 10) (x := lfold (fun l a => if ¬ cu l = 0 then a ||| ((1 : Int32) <<< (nI l &&& 31)) else a) 0 m) (by decide) (fun i h1 h2 => by rw [hb i h2]; exact decide_eq_false (fun h => by omega))
  have hpc : z_pc s = z_ct (fun i => decide (i < m ∧ ¬ cu i = 0)) m := by
    have h1 : z_pc s = z_ct (fun i => s.testBit i) 10 := rfl
    rw [h1, z_ct_c (Q := fun i => decide (i < m ∧ ¬ cu i = 0)) (fun l hl => by rw [← hb l (by omega), e, z_tb (by omega)])]
    have h2 := z_ct_x (P := fun i => decide (i < m ∧ ¬ cu i = 0)) (m := m) (r := 10 - m) (fun l hl => decide_eq_false (fun h => by omega))
    rw [show m + (10 - m) = 10 by omega] at h2
    exact h2
  have hlw : ∀ k, k ≤ 6 → f_lw cu k = nI (z_ct (fun i => decide (¬ cu i = 0)) k) := by
    intro k hk
    induction k with
    | zero => rfl
    | succ k ih =>
      show (if ¬ cu k = 0 then f_lw cu k + 1 else f_lw cu k) = _
      rw [z_ct_s, ih (by omega)]
      by_cases c : cu k = 0
      · rw [if_neg (fun h => h c), if_neg (show ¬ (decide (¬ cu k = 0) = true) from fun h => of_decide_eq_true h c)]
      · rw [if_pos c, if_pos (decide_eq_true c), nI_1]
  refine ⟨s, by omega, e, ?_, by rw [hpc]; exact Nat.le_trans (z_ct_le _ _) hm⟩
  rw [hlw m hm, hpc]
  congr 1
  refine z_ct_c fun l hl => ?_
  by_cases c : cu l = 0
  · rw [decide_eq_false (fun h => h c), decide_eq_false (fun h => h.2 c)]
  · rw [decide_eq_true (show ¬ cu l = 0 from c), decide_eq_true (show l < m ∧ ¬ cu l = 0 from ⟨hl, c⟩)]
theorem z_dn {x : Int32} {n : Nat} (h0 : 0 < n) (hn : n ≤ 8) : ∃ a, a < n ∧ f_dn x (nI n) = nI a := by
  have hb : ∃ k, k < 2 ^ 15 ∧ x >>> ((16 : Int32) &&& 31) &&& 32767 = nI k := z_of (by decide) fun i h1 h2 => by
    rw [b_and, show (32767 : Int32) = nI 32767 from rfl, z_tb h2]
    have : Nat.testBit 32767 i = false := Nat.testBit_lt_two_pow (Nat.lt_of_lt_of_le (show 32767 < 2 ^ 15 by decide) (Nat.pow_le_pow_right (by decide) h1))
    rw [this, Bool.and_false]
  obtain ⟨k, hk, e⟩ := hb
  refine ⟨k % n, Nat.mod_lt _ h0, ?_⟩
  unfold f_dn
  rw [if_pos (show (0 : Int32) < nI n from (nI_ltI (a := 0) (b := n) (by omega) (by omega)).mpr h0), e]
  exact pk_rem (by omega) (by omega) (by omega)
theorem z_drawOf {J : g_I} {n : Nat} (h0 : 0 < n) (hn : n ≤ 8) : b_X11_drawOf J (nI n) = some (f_dn (f_nx (J 101 56)) (nI n), am_up J 101 56 (f_nx (J 101 56))) := by
  have h1 : (0 : Int32) < nI n := (nI_ltI (a := 0) (b := n) (by omega) (by omega)).mpr h0
  unfold b_X11_drawOf
  rw [z_gl, if_pos (fun e => by rw [e] at h1; exact absurd h1 (by decide)), up_eq]
  unfold f_dn
  rw [if_pos h1]
  rfl
theorem z_dc98 (X : g_I) (F : Nat → Int32) : z_dc (am_uA X 98 F) 97 = ((z_dc X 97).1, (z_dc X 97).2.1, F, (z_dc X 97).2.2.2) := by
  unfold z_dc
  rw [am_uA_o _ _ F (show 97 ≠ 98 by decide), show 97 + 1 = 98 from rfl, am_uA_s, am_uA_o _ _ F (show 97 + 2 ≠ 98 by decide), am_uA_o _ _ F (show 97 + 3 ≠ 98 by decide)]
/-- the reference's world in a season -/
def z_sk (J J' : g_I) : Prop := (∀ a, a ≠ 101 → a ≠ 114 → J' a = J a) ∧ ∀ k, k ≠ 30 → k ≠ 56 → J' 101 k = J 101 k
theorem z_season1 {T : x_T} (hW : z_W T) {t : Nat} (ht3 : t = 3 ∨ t = 22) {q : g_I × Int32 × Int32 × Int32} {J : g_I} (hT : k_tw q.1 t T) (hR : z_R J T) (hD : z_D T (z_dc q.1 97) (z_dr J)) {dd : Nat} (hdd : J 101 30 = nI dd) (hd9 : dd + 1 ≤ 1059) (hsd : J 101 56 = q.2.1) : ∃ J' v, (∀ (y2 y3 x4 x5 x6 : Int32) (K : Int32 → Int32 → g_I → Option (Int32 × g_I)) (f : Nat), ¬ y2 ≤ x6 → b_X11_season_L64 y2 y3 K (f + 1) x4 x5 x6 J = b_X11_season_L64 y2 y3 K f (x4 + nI v) (if x6 = 0 then nI v else g_min x5 (nI v)) (x6 + 1) J') ∧ v ≤ 6 ∧ f_lw ((f_sn1 t T.1.length T.2.1.length q).1 92) T.2.1.length = nI v ∧ z_sk J J' ∧ J' 101 30 = nI (dd + 1) ∧ J' 101 56 = (f_sn1 t T.1.length T.2.1.length q).2.1 ∧ z_D T (z_dc (f_sn1 t T.1.length T.2.1.length q).1 97) (z_dr J') ∧ k_tw (f_sn1 t T.1.length T.2.1.length q).1 t T := by
  have h8 := hW.1.1
  have h6 := hW.2.1.1
  have hn : q.1 t 0 = nI T.1.length := hT.1.1
  -- the class's next day
  have c97 : ∀ k, am_uA q.1 97 (upd (q.1 97) 0 (q.1 97 0 + 1)) 97 k = if k = 0 then q.1 97 0 + 1 else q.1 97 k := fun k => by
    rw [am_uA_s]
    by_cases e : k = 0
    · rw [if_pos e, e, pk_us]
    · rw [if_neg e, upd_o e]
  have co : ∀ a, a ≠ 97 → am_uA q.1 97 (upd (q.1 97) 0 (q.1 97 0 + 1)) a = q.1 a := fun a h => am_uA_o _ _ _ h
  have hD1 : z_D T (z_dc (am_uA q.1 97 (upd (q.1 97) 0 (q.1 97 0 + 1))) 97) (z_dr (am_up J 101 30 (J 101 30 + 1))) := by
    have h := z_D_next hD (dd := dd) hdd hd9
    have e1 : z_dc (am_uA q.1 97 (upd (q.1 97) 0 (q.1 97 0 + 1))) 97 = ((z_dc q.1 97).1 + 1, (z_dc q.1 97).2) := by
      unfold z_dc
      rw [c97 0, if_pos rfl, c97 1, if_neg (by decide), co (97 + 1) (by decide), co (97 + 2) (by decide), co (97 + 3) (by decide)]
    have e2 : z_dr (am_up J 101 30 (J 101 30 + 1)) = ((z_dr J).1 + 1, (z_dr J).2) := by
      unfold z_dr
      rw [up_eq, up_ne (show 31 ≠ 30 by decide), am_up_o _ _ _ _ (show 114 ≠ 101 by decide), am_up_o _ _ _ _ (show 118 ≠ 101 by decide), am_up_o _ _ _ _ (show 119 ≠ 101 by decide)]
    rw [e1, e2]
    exact h
  have hT1 : k_tw (am_uA q.1 97 (upd (q.1 97) 0 (q.1 97 0 + 1))) t T := k_tw_o hT fun a h1 h2 => co a (by omega)
  -- the meeting
  have meet : ∃ J1, (∀ (y2 y3 x4 x5 x6 : Int32) (K : Int32 → Int32 → g_I → Option (Int32 × g_I)) (f : Nat), ¬ y2 ≤ x6 → b_X11_season_L64 y2 y3 K (f + 1) x4 x5 x6 J = g_bind (b_X11_cuttable J1 1) fun a6 => g_bind (b_X11_bitsOf a6) fun a9 => g_let (x4 + a9) fun a12 => if x6 = 0 then b_X11_season_L64 y2 y3 K f a12 a9 (x6 + 1) J1 else g_let (g_min x5 a9) fun a13 => b_X11_season_L64 y2 y3 K f a12 a13 (x6 + 1) J1) ∧ z_sk J J1 ∧ J1 101 30 = nI (dd + 1) ∧ J1 101 56 = f_ms (am_uA q.1 97 (upd (q.1 97) 0 (q.1 97 0 + 1))) t q.2.1 ∧ z_D T (z_dc (f_mc (am_uA q.1 97 (upd (q.1 97) 0 (q.1 97 0 + 1))) t T.1.length q.2.1) 97) (z_dr J1) := by
    have r104 : am_up J 101 30 (J 101 30 + 1) 104 0 = nI T.1.length := by rw [am_up_o _ _ _ _ (by decide)]; exact hR.1.1
    have hnt : am_uA q.1 97 (upd (q.1 97) 0 (q.1 97 0 + 1)) t 0 = nI T.1.length := by rw [co t (by omega)]; exact hn
    by_cases hz : T.1.length = 0
    · refine ⟨am_up J 101 30 (J 101 30 + 1), fun y2 y3 x4 x5 x6 K f hx => ?_, ⟨fun a h1 _ => am_up_o _ _ _ _ h1, fun k h1 _ => up_ne h1⟩, by rw [up_eq, hdd, nI_1], ?_, ?_⟩
      · conv => lhs; unfold b_X11_season_L64
        rw [z_gl, z_gl, if_neg hx, z_gl, r104, if_pos (show nI T.1.length = 0 by rw [hz]; rfl)]
        dsimp only
        rw [if_pos (show am_up J 101 30 (J 101 30 + 1) 104 0 = 0 by rw [r104, hz]; rfl), if_pos rfl]
      · unfold f_ms
        rw [hnt, if_pos (show nI T.1.length = 0 by rw [hz]; rfl), up_ne (by decide), hsd]
      · unfold f_mc
        rw [hnt, if_pos (show nI T.1.length = 0 by rw [hz]; rfl)]
        exact hD1
    · have hz0 : 0 < T.1.length := by omega
      have hzI : ¬ nI T.1.length = 0 := fun e => hz ((nI_eq (b := 0) (by omega) (by omega)).mp e)
      obtain ⟨a, ha, ea⟩ := z_dn (x := f_nx q.2.1) hz0 h8
      obtain ⟨b, hb, eb⟩ := z_dn (x := f_nx (f_nx q.2.1)) hz0 h8
      let J0 : g_I := am_up J 101 30 (J 101 30 + 1)
      let Ja : g_I := am_up J0 101 56 (f_nx (J0 101 56))
      let Jb : g_I := am_up Ja 101 56 (f_nx (Ja 101 56))
      have j0 : J0 101 56 = q.2.1 := by show am_up J 101 30 (J 101 30 + 1) 101 56 = _; rw [up_ne (by decide), hsd]
      have ja : Ja 101 56 = f_nx q.2.1 := by show am_up J0 101 56 (f_nx (J0 101 56)) 101 56 = _; rw [up_eq, j0]
      have jb : Jb 101 56 = f_nx (f_nx q.2.1) := by show am_up Ja 101 56 (f_nx (Ja 101 56)) 101 56 = _; rw [up_eq, ja]
      have jbo : ∀ c, c ≠ 101 → Jb c = J c := fun c h => by
        show am_up (am_up (am_up J 101 30 (J 101 30 + 1)) 101 56 _) 101 56 _ c = J c
        rw [am_up_o _ _ _ _ h, am_up_o _ _ _ _ h, am_up_o _ _ _ _ h]
      have jbk : ∀ k, k ≠ 30 → k ≠ 56 → Jb 101 k = J 101 k := fun k h1 h2 => by
        show am_up (am_up (am_up J 101 30 (J 101 30 + 1)) 101 56 _) 101 56 _ 101 k = J 101 k
        rw [up_ne h2, up_ne h2, up_ne h1]
      have jb30 : Jb 101 30 = nI (dd + 1) := by
        show am_up (am_up (am_up J 101 30 (J 101 30 + 1)) 101 56 _) 101 56 _ 101 30 = _
        rw [up_ne (by decide), up_ne (by decide), up_eq, hdd, nI_1]
      have eqb : z_dr Jb = z_dr (am_up J 101 30 (J 101 30 + 1)) := by
        unfold z_dr
        rw [jb30, jbk 31 (by decide) (by decide), jbo 114 (by decide), jbo 118 (by decide), jbo 119 (by decide), up_eq, up_ne (show 31 ≠ 30 by decide), am_up_o _ _ _ _ (show 114 ≠ 101 by decide), am_up_o _ _ _ _ (show 118 ≠ 101 by decide), am_up_o _ _ _ _ (show 119 ≠ 101 by decide), hdd, nI_1]
      have h104 : ∀ c : g_I, (∀ x, x ≠ 101 → c x = J x) → c 104 0 = nI T.1.length := fun c h => by rw [h 104 (by decide)]; exact hR.1.1
      have d0 : b_X11_drawOf J0 (nI T.1.length) = some (nI a, Ja) := by rw [z_drawOf hz0 h8, j0, ea, ← j0]
      have da : b_X11_drawOf Ja (nI T.1.length) = some (nI b, Jb) := by rw [z_drawOf hz0 h8, ja, eb, ← ja]
      have hJa : Ja 104 0 = nI T.1.length := h104 Ja fun x h => by
        show am_up (am_up J 101 30 (J 101 30 + 1)) 101 56 _ x = J x
        rw [am_up_o _ _ _ _ h, am_up_o _ _ _ _ h]
      have hms : f_ms (am_uA q.1 97 (upd (q.1 97) 0 (q.1 97 0 + 1))) t q.2.1 = f_nx (f_nx q.2.1) := by
        unfold f_ms
        rw [hnt, if_neg hzI]
      have hmc : f_mc (am_uA q.1 97 (upd (q.1 97) 0 (q.1 97 0 + 1))) t T.1.length q.2.1 = if nI a = nI b then am_uA q.1 97 (upd (q.1 97) 0 (q.1 97 0 + 1)) else am_uA (am_uA q.1 97 (upd (q.1 97) 0 (q.1 97 0 + 1))) 98 (f_ga ((am_uA q.1 97 (upd (q.1 97) 0 (q.1 97 0 + 1))) (t + 4)) (f_wt ((am_uA q.1 97 (upd (q.1 97) 0 (q.1 97 0 + 1))) (t + 4)) (((1 : Int32) <<< (nI a &&& 31)) ||| ((1 : Int32) <<< (nI b &&& 31))) T.1.length) ((am_uA q.1 97 (upd (q.1 97) 0 (q.1 97 0 + 1))) 97 0) T.1.length ((am_uA q.1 97 (upd (q.1 97) 0 (q.1 97 0 + 1))) 98) T.1.length) := by
        unfold f_mc
        rw [hnt, if_neg hzI, ea, eb]
      have hL : ∀ (y2 y3 x4 x5 x6 : Int32) (K : Int32 → Int32 → g_I → Option (Int32 × g_I)) (f : Nat), ¬ y2 ≤ x6 → b_X11_season_L64 y2 y3 K (f + 1) x4 x5 x6 J = g_bind (if nI a = nI b then some Jb else b_X11_meet Jb (nI a) (nI b) (Jb 101 30)) fun J1 => g_bind (b_X11_cuttable J1 1) fun a6 => g_bind (b_X11_bitsOf a6) fun a9 => g_let (x4 + a9) fun a12 => if x6 = 0 then b_X11_season_L64 y2 y3 K f a12 a9 (x6 + 1) J1 else g_let (g_min x5 a9) fun a13 => b_X11_season_L64 y2 y3 K f a12 a13 (x6 + 1) J1 := by
        intro y2 y3 x4 x5 x6 K f hx
        conv => lhs; unfold b_X11_season_L64
        rw [z_gl, z_gl, if_neg hx, z_gl, r104, if_neg hzI]
        rw [show b_X11_drawOf (am_up J 101 30 (J 101 30 + 1)) (nI T.1.length) = some (nI a, Ja) from d0]
        simp only [g_bind2]
        rw [if_neg (show ¬ Ja 104 0 = 0 by rw [hJa]; exact hzI), hJa, da]
        simp only []
        split <;> rfl
      by_cases hab : a = b
      · refine ⟨Jb, fun y2 y3 x4 x5 x6 K f hx => by rw [hL y2 y3 x4 x5 x6 K f hx, if_pos (by rw [hab])]; rfl, ⟨fun c h1 _ => jbo c h1, jbk⟩, jb30, by rw [hms]; exact jb, ?_⟩
        rw [hmc, if_pos (by rw [hab]), eqb]
        exact hD1
      · have hne : ¬ nI a = nI b := fun e => hab ((nI_eq (by omega) (by omega)).mp e)
        refine ⟨am_up (am_up Jb 114 (8 * a + b) (Jb 101 30)) 114 (8 * b + a) (Jb 101 30), fun y2 y3 x4 x5 x6 K f hx => by rw [hL y2 y3 x4 x5 x6 K f hx, if_neg hne, z_rmeet (by omega) (by omega)]; rfl, ⟨fun c h1 h2 => by rw [am_up_o _ _ _ _ h2, am_up_o _ _ _ _ h2]; exact jbo c h1, fun k h1 h2 => by rw [am_up_o _ _ _ _ (by decide), am_up_o _ _ _ _ (by decide)]; exact jbk k h1 h2⟩, by rw [am_up_o _ _ _ _ (by decide), am_up_o _ _ _ _ (by decide)]; exact jb30, by rw [am_up_o _ _ _ _ (by decide), am_up_o _ _ _ _ (by decide), hms]; exact jb, ?_⟩
        rw [hmc, if_neg hne]
        have hDb : z_D T (z_dc (am_uA q.1 97 (upd (q.1 97) 0 (q.1 97 0 + 1))) 97) (z_dr Jb) := by rw [eqb]; exact hD1
        have hrb : ∀ x y, x < T.1.length → y < T.1.length → Jb 114 (8 * x + y) ≤ Jb 101 30 := fun x y hx hy => (hDb.2.2.2.2.2.2.2.1 x y hx hy).2.1
        have hlo : -100000 < Jb 101 30 := by
          rw [jb30, z_lI, nI_toInt (by omega)]
          have : (-100000 : Int32).toInt = -100000 := by decide
          omega
        have hm := z_D_meet hW.1 (tw := (am_uA q.1 97 (upd (q.1 97) 0 (q.1 97 0 + 1))) (t + 4)) (fun k hk => (hT1.1.2.2 k hk).2.2.2) hDb (wh := Jb 101 30) hlo (Int32.le_refl _) (z_mm2 hW.1 hrb ha hb hab)
        have e97 : (am_uA q.1 97 (upd (q.1 97) 0 (q.1 97 0 + 1))) 97 0 = Jb 101 30 := hDb.1
        rw [e97]
        have e2 : z_dr (am_up (am_up Jb 114 (8 * a + b) (Jb 101 30)) 114 (8 * b + a) (Jb 101 30)) = ((z_dr Jb).1, (z_dr Jb).2.1, am_up (am_up Jb 114 (8 * a + b) (Jb 101 30)) 114 (8 * b + a) (Jb 101 30) 114, (z_dr Jb).2.2.2) := by
          have oo : ∀ c, c ≠ 114 → am_up (am_up Jb 114 (8 * a + b) (Jb 101 30)) 114 (8 * b + a) (Jb 101 30) c = Jb c := fun c h => by rw [am_up_o _ _ _ _ h, am_up_o _ _ _ _ h]
          unfold z_dr
          rw [oo 101 (by decide), oo 118 (by decide), oo 119 (by decide)]
        rw [z_dc98, e2]
        exact hm
  obtain ⟨J1, m1, m2, m3, m4, m5⟩ := meet
  -- the class's look
  have hTm : k_tw (f_mc (am_uA q.1 97 (upd (q.1 97) 0 (q.1 97 0 + 1))) t T.1.length q.2.1) t T := k_tw_o hT1 fun a h1 h2 => f_mc_o _ _ _ _ (by omega)
  have hR1 : z_R J1 T := z_R_o hR fun a h1 h2 h3 => m2.1 a (by omega) h3
  have hcu : ∀ l, l < T.2.1.length → (f_sn1 t T.1.length T.2.1.length q).1 92 l = z_cu T (J1 114) (J1 101 30) l := fun l hl => z_look92 hW hTm m5 hl
  obtain ⟨s, hs, e1, e2, e3⟩ := z_lwE (cu := (f_sn1 t T.1.length T.2.1.length q).1 92) h6
  have hc := (z_cuttable hW hR1 hcu).2
  rw [e1] at hc
  refine ⟨J1, z_pc s, fun y2 y3 x4 x5 x6 K f hx => ?_, e3, e2, m2, m3, m4, ?_, ?_⟩
  · rw [m1 y2 y3 x4 x5 x6 K f hx, hc]
    simp only [g_bind]
    rw [z_bo hs]
    simp only [g_let]
    split <;> rfl
  · have e : z_dc (f_sn1 t T.1.length T.2.1.length q).1 97 = z_dc (f_mc (am_uA q.1 97 (upd (q.1 97) 0 (q.1 97 0 + 1))) t T.1.length q.2.1) 97 := by
      have oo : ∀ c, 93 ≤ c → (f_sn1 t T.1.length T.2.1.length q).1 c = f_mc (am_uA q.1 97 (upd (q.1 97) 0 (q.1 97 0 + 1))) t T.1.length q.2.1 c := fun c h => f_look_o _ _ _ _ _ _ (by omega)
      unfold z_dc
      rw [oo 97 (by omega), oo (97 + 1) (by omega), oo (97 + 2) (by omega), oo (97 + 3) (by omega)]
    rw [e]
    exact m5
  · exact k_tw_o hTm fun a h1 h2 => f_look_o _ _ _ _ _ _ (by omega)
theorem z_sk_t {J K M : g_I} (h1 : z_sk J K) (h2 : z_sk K M) : z_sk J M := ⟨fun a g1 g2 => (h2.1 a g1 g2).trans (h1.1 a g1 g2), fun k g1 g2 => (h2.2 k g1 g2).trans (h1.2 k g1 g2)⟩
theorem z_season {T : x_T} (hW : z_W T) {t : Nat} (ht3 : t = 3 ∨ t = 22) {I J : g_I} (hT : k_tw I t T) (hR : z_R J T) (hD : z_D T (z_dc I 97) (z_dr J)) {dd : Nat} (hdd : J 101 30 = nI dd) (hd9 : dd ≤ 999) {sd : Int32} (hsd : J 101 56 = sd) {j : Nat} (hj : j ≤ 60) {x0 : Int32} (hx0 : x0 = if nI j = 0 then 0 else 6) (y3 : Int32) (K : Int32 → Int32 → g_I → Option (Int32 × g_I)) : ∃ J', b_X11_season_L64 (nI j) y3 K fu 0 0 0 J = K (f_sn t T.1.length T.2.1.length (I, sd, 0, x0) j).2.2.1 (f_sn t T.1.length T.2.1.length (I, sd, 0, x0) j).2.2.2 J' ∧ z_sk J J' ∧ z_D T (z_dc (f_sn t T.1.length T.2.1.length (I, sd, 0, x0) j).1 97) (z_dr J') ∧ k_tw (f_sn t T.1.length T.2.1.length (I, sd, 0, x0) j).1 t T := by
  have h := z_lp (F := fun f (s : Int32 × Int32 × Int32 × g_I) => b_X11_season_L64 (nI j) y3 K f s.1 s.2.1 s.2.2.1 s.2.2.2) (K := fun s => K s.1 s.2.1 s.2.2.2) (N := j) (fun i s => s.2.2.1 = nI i ∧ s.1 = (f_sn t T.1.length T.2.1.length (I, sd, 0, x0) i).2.2.1 ∧ ((i = 0 ∧ s.2.1 = 0) ∨ (0 < i ∧ s.2.1 = (f_sn t T.1.length T.2.1.length (I, sd, 0, x0) i).2.2.2)) ∧ z_sk J s.2.2.2 ∧ s.2.2.2 101 30 = nI (dd + i) ∧ s.2.2.2 101 56 = (f_sn t T.1.length T.2.1.length (I, sd, 0, x0) i).2.1 ∧ z_D T (z_dc (f_sn t T.1.length T.2.1.length (I, sd, 0, x0) i).1 97) (z_dr s.2.2.2) ∧ k_tw (f_sn t T.1.length T.2.1.length (I, sd, 0, x0) i).1 t T)
    (fun f s hP => by
      show b_X11_season_L64 (nI j) y3 K (f + 1) s.1 s.2.1 s.2.2.1 s.2.2.2 = K s.1 s.2.1 s.2.2.2
      unfold b_X11_season_L64
      rw [z_gl, z_gl, hP.1, if_pos (Int32.le_refl _)])
    (fun f i s hi hP => by
      obtain ⟨p1, p2, p3, p4, p5, p6, p7, p8⟩ := hP
      obtain ⟨J', v, e1, e2, e3, e4, e5, e6, e7, e8⟩ := z_season1 hW ht3 (q := f_sn t T.1.length T.2.1.length (I, sd, 0, x0) i) p8 (z_R_o hR fun a h1 h2 h3 => p4.1 a (by omega) h3) p7 p5 (by omega) p6
      have hst : f_sn t T.1.length T.2.1.length (I, sd, 0, x0) (i + 1) = f_sn1 t T.1.length T.2.1.length (f_sn t T.1.length T.2.1.length (I, sd, 0, x0) i) := rfl
      refine ⟨(s.1 + nI v, (if nI i = 0 then nI v else g_min s.2.1 (nI v)), nI (i + 1), J'), ?_, rfl, ?_, Or.inr ⟨by omega, ?_⟩, z_sk_t p4 e4, e5, ?_, ?_, ?_⟩
      · show b_X11_season_L64 (nI j) y3 K (f + 1) s.1 s.2.1 s.2.2.1 s.2.2.2 = b_X11_season_L64 (nI j) y3 K f (s.1 + nI v) (if nI i = 0 then nI v else g_min s.2.1 (nI v)) (nI (i + 1)) J'
        rw [p1, e1 _ _ _ _ _ _ _ (nI_ge hi (by omega)), nI_1]
      · rw [hst]
        show s.1 + nI v = (f_sn t T.1.length T.2.1.length (I, sd, 0, x0) i).2.2.1 + f_lw ((f_sn1 t T.1.length T.2.1.length (f_sn t T.1.length T.2.1.length (I, sd, 0, x0) i)).1 92) T.2.1.length
        rw [e3, p2]
      · rw [hst]
        show (if nI i = 0 then nI v else g_min s.2.1 (nI v)) = if f_lw ((f_sn1 t T.1.length T.2.1.length (f_sn t T.1.length T.2.1.length (I, sd, 0, x0) i)).1 92) T.2.1.length < (f_sn t T.1.length T.2.1.length (I, sd, 0, x0) i).2.2.2 then f_lw ((f_sn1 t T.1.length T.2.1.length (f_sn t T.1.length T.2.1.length (I, sd, 0, x0) i)).1 92) T.2.1.length else (f_sn t T.1.length T.2.1.length (I, sd, 0, x0) i).2.2.2
        rw [e3]
        rcases p3 with ⟨q1, q2⟩ | ⟨q1, q2⟩
        · subst q1
          have hj0 : ¬ nI j = 0 := fun e => by have := (nI_eq (b := 0) (by omega) (by omega)).mp e; omega
          show (if nI 0 = 0 then nI v else g_min s.2.1 (nI v)) = if nI v < x0 then nI v else x0
          rw [if_pos (show nI 0 = 0 from rfl), hx0, if_neg hj0]
          by_cases c : v < 6
          · rw [if_pos (show nI v < 6 from (nI_ltI (a := v) (b := 6) (by omega) (by omega)).mpr c)]
          · have : v = 6 := by omega
            rw [this]
            split <;> rfl
        · rw [if_neg (fun e => by have := (nI_eq (b := 0) (by omega) (by omega)).mp e; omega), q2]
          rfl
      · rw [hst]; exact e6
      · rw [hst]; exact e7
      · rw [hst]; exact e8)
    j fu 0 (0, 0, 0, J) (by omega) (by unfold fu; omega) ⟨rfl, rfl, Or.inl ⟨rfl, rfl⟩, ⟨fun _ _ _ => rfl, fun _ _ _ => rfl⟩, hdd, hsd, hD, hT⟩
  obtain ⟨s, e, -, e2, e3, e4, -, -, e7, e8⟩ := h
  refine ⟨s.2.2.2, ?_, e4, e7, e8⟩
  rw [← e2]
  rcases e3 with ⟨q1, q2⟩ | ⟨-, q2⟩
  · subst q1
    have hx : x0 = 0 := by rw [hx0, if_pos (show nI 0 = 0 from rfl)]
    refine Eq.trans e ?_
    show K s.1 s.2.1 s.2.2.2 = K s.1 x0 s.2.2.2
    rw [hx, q2]
  · rw [← q2]; exact e
