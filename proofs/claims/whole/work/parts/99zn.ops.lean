/-! THE LAW'S INVARIANT, AND WHAT EACH OPERATION KEEPS -/
def lw_sh : List (Nat ⊕ (Nat × Nat)) := kS_Main ++ kS_Mod ++ [.inr (4, 1)]
def lw_K (R : Nat → Nat → Option Nat) (t t2 : Nat) : Prop := k_Main lw_sh R ∧ k_Mod lw_sh R ∧ R 0 1 = some t ∧ R 0 2 = some t2 ∧ (t = 3 ∨ t = 22) ∧ t + t2 = 25
def lw_J (w : am_w) : Prop := ∃ (I : g_I) (R : Nat → Nat → Option Nat) (L : Nat → Nat → Int64) (t t2 : Nat) (T : x_T), w = (lw_sh, I, R, L, 1) ∧ lw_K R t t2 ∧ z_sim I t T
/-- behind the class's call: what the reference's call then gives -/
def lw_Pa {α : Type} (b : g_I → Option (α × g_I)) (tl : α → Int64) (v : Option Value) (w : am_w) : Prop := ∃ (x : Int32) (I2 : g_I) (R2 : Nat → Nat → Option Nat) (L2 : Nat → Nat → Int64) (r : α) (J : g_I), v = some (.int x) ∧ w = (lw_sh, I2, R2, L2, 1) ∧ k_Mod lw_sh R2 ∧ b I2 = some (r, J) ∧ lw_J (lw_sh, J, R2, L2, 1) ∧ J 101 2 = x ∧ (x = 0 → L2 144 0 = tl r)
/-- the same of a method that never throws: both answers are one -/
def lw_Pb {α : Type} (b : g_I → Option (α × g_I)) (tl : α → Int32) (v : Option Value) (w : am_w) : Prop := ∃ (I2 : g_I) (R2 : Nat → Nat → Option Nat) (L2 : Nat → Nat → Int64) (r : α) (J : g_I), v = some (.int (tl r)) ∧ w = (lw_sh, I2, R2, L2, 1) ∧ k_Mod lw_sh R2 ∧ b I2 = some (r, J) ∧ lw_J (lw_sh, J, R2, L2, 1)
def lw_Pn (b : g_I → Option g_I) (v : Option Value) (w : am_w) : Prop := ∃ (I2 : g_I) (R2 : Nat → Nat → Option Nat) (L2 : Nat → Nat → Int64) (J : g_I), v = none ∧ w = (lw_sh, I2, R2, L2, 1) ∧ k_Mod lw_sh R2 ∧ b I2 = some J ∧ lw_J (lw_sh, J, R2, L2, 1)
theorem lw_144 : lw_sh[144]? = some (.inr (4, 1)) := by decide
theorem lw_0 : lw_sh[0]? = some (.inl 10) := by decide
theorem lw_101 : lw_sh[101]? = some (.inl 11) := by decide
theorem lw_ok0 {α : Type} {b : g_I → Option (α × g_I)} {tl : α → Int64} {I2 : g_I} {R : Nat → Nat → Option Nat} {L : Nat → Nat → Int64} {t t2 : Nat} {T : x_T} {r : α} {y : Int64} (hk : lw_K R t t2) (h : ∃ J, b I2 = some (r, J) ∧ z_sim J t T ∧ J 101 2 = 0) (hy : y = tl r) : lw_Pa b tl (some (.int 0)) (lw_sh, I2, R, am_uL L 144 0 y, 1) := by
  obtain ⟨J, h1, h2, h3⟩ := h
  refine ⟨0, I2, R, _, r, J, rfl, rfl, hk.2.1, h1, ⟨J, R, _, t, t2, T, rfl, hk, h2⟩, h3, fun _ => ?_⟩
  rw [am_uL_s, hy]
  simp [vp_updL]
theorem lw_okT {α : Type} {b : g_I → Option (α × g_I)} {tl : α → Int64} {I2 : g_I} {R : Nat → Nat → Option Nat} {L : Nat → Nat → Int64} {t t2 : Nat} {T : x_T} {x : Int32} (hk : lw_K R t t2) (hx : x ≠ 0) (h : ∃ r J, b I2 = some (r, J) ∧ z_sim J t T ∧ J 101 2 = x) : lw_Pa b tl (some (.int x)) (lw_sh, I2, R, L, 1) := by
  obtain ⟨r, J, h1, h2, h3⟩ := h
  exact ⟨x, I2, R, _, r, J, rfl, rfl, hk.2.1, h1, ⟨J, R, _, t, t2, T, rfl, hk, h2⟩, h3, fun h => absurd h hx⟩
section LQ
variable {I : g_I} {t : Nat} {T : x_T}
theorem q_n (hS : z_sim I t T) : I t 0 = nI T.1.length := hS.2.1.1.1
theorem q_n8 (hS : z_sim I t T) : T.1.length ≤ 8 := hS.1.1.1
theorem q_m (hS : z_sim I t T) : I (t + 8) 0 = nI T.2.1.length := hS.2.1.2.1.1
theorem q_m6 (hS : z_sim I t T) : T.2.1.length ≤ 6 := hS.1.2.1.1
theorem q_len (hS : z_sim I t T) : I (t + 16) 2 = nI T.2.2.2.2.length := hS.2.1.2.2.2.2.2.1
theorem q_len6 (hS : z_sim I t T) : T.2.2.2.2.length ≤ 600 := hS.1.2.2.2.1
theorem q_k (hS : z_sim I t T) : ∃ k, k ≤ 40 ∧ I 42 5 = nI k ∧ f_aok I 42 k := by
  obtain ⟨k, h1, h2, h3, h4, -⟩ := hS.2.2.2.1
  exact ⟨k, h1, h2, h4⟩
theorem q_EC (hS : z_sim I t T) (l : Nat) (hl : l < T.2.1.length) : I (t + 13) l = nI (z_es T l).length := (hS.2.1.2.1.2.2 l hl).2.2.2.2.1
theorem q_LV (hS : z_sim I t T) : k_LV I t T.1.length T.2.1.length (fun l => z_mn T (z_es T l)) (fun l => (z_es T l).length) := by
  intro l hl
  have hf := hS.2.1.2.1.2.2 l hl
  have hE := (hS.1.2.1.2 l hl).2.2.2.2
  have h1 := z_mn_b hE
  refine ⟨?_, h1.1, h1.2, hf.2.2.2.2.1, hE.2.1, fun j hj => ?_⟩
  · have e : I (t + 14) l = x_bits (z_es T l) := hf.2.2.2.2.2.2.1
    rw [e]
    exact z_sc hS.1.1 (fun k hk => (hS.2.1.1.2.2 k hk).2.2.2) hE
  · obtain ⟨p, hp, e⟩ := hE.2.2.1 j hj
    have e2 : I (t + 15) (6 * l + j) = (z_es T l).getD j 0 := hf.2.2.2.2.2.2.2 j hj
    have h8 := hS.1.1.1
    rw [e2, e]
    exact vp_in_nI (by omega) (by decide)
theorem q_see (hS : z_sim I t T) : ∃ k, k ≤ 6 ∧ I 41 2 = nI k ∧ ∀ j, j < k → vp_in (I 56 j) 6 := by
  obtain ⟨k, h1, h2, -, h4⟩ := hS.2.2.2.2.1.1
  refine ⟨k, h1, h2, fun j hj => ?_⟩
  obtain ⟨-, e2, -, l, i, hl, hi, -, e5⟩ := h4 j hj
  have e3 : I 56 j = nI i := e2.trans e5
  have h6 := (hS.1.2.1.2 l hl).2.2.2.2.2.1
  rw [e3]
  exact vp_in_nI (by omega) (by decide)
theorem q_balk (hS : z_sim I t T) : ∃ k, k ≤ 4 ∧ I 41 6 = nI k ∧ ∀ j, j < k → vp_in (I 58 j) 8 ∧ vp_in (I 59 j) 6 := by
  obtain ⟨k, h1, h2, -, h4⟩ := hS.2.2.2.2.1.2
  refine ⟨k, h1, h2, fun j hj => ?_⟩
  obtain ⟨e1, e2, ⟨p, hp, e3⟩, l, hl, e4⟩ := h4 j hj
  have f1 : I 58 j = nI p := e1.trans e3
  have f2 : I 59 j = nI l := e2.trans e4
  have h8 := hS.1.1.1
  have h6 := hS.1.2.1.1
  rw [f1, f2]
  exact ⟨vp_in_nI (by omega) (by decide), vp_in_nI (by omega) (by decide)⟩
theorem q_fd (hS : z_sim I t T) : ∃ fd, fd ≤ 600 ∧ I 1 1 = nI fd := by
  obtain ⟨⟨fd, h1, h2, -⟩, -⟩ := hS.2.2.2.2.2.2.1
  exact ⟨fd, h1, h2⟩
theorem q_by (hS : z_sim I t T) : ∀ j, j < 600 → -128 ≤ I 2 j ∧ I 2 j < 128 := hS.2.2.2.2.2.2.1.2
theorem q_hour (hS : z_sim I t T) : ∃ a, a < 24 ∧ I 47 1 = nI a := by
  have hD := z_sim_D hS
  obtain ⟨h, h1, h2⟩ := hD.2.2.2.2.2.2.1
  exact ⟨h, h1, hD.2.1.trans h2⟩
theorem q_far (hS : z_sim I t T) : ∃ b, b ≤ 23 ∧ I t 3 = nI b ∧ T.2.2.2.1.2 = nI b := by
  obtain ⟨b, -, h2, h3⟩ := hS.1.2.2.1.2
  exact ⟨b, h2, hS.2.1.2.2.2.2.1.trans h3, h3⟩
end LQ
set_option maxHeartbeats 1000000 in
theorem o_count {G : am_G} (hK : k_OK G) (hXS : k_XS G) {w : am_w} (hJ : lw_J w) (a1 : Int32) : AMH G nL_count [(0, 9, 12, 18)] 150 [.ref 0, .int a1, .ref 144] w (lw_Pa (fun I => b_X11_count I a1) Int32.toInt64) (fun _ _ => False) := by
  obtain ⟨I, R, L, t, t2, T, rfl, hk, hS⟩ := hJ
  have ⟨hM, hMo, hR1, hR2, ht3, ht2⟩ := hk
  refine h_count hK (d' := 140) (by omega) lw_0 lw_144 (k_X10_count hK (d := 140) (by omega) hXS hM hR1 ht3 (by decide) (q_n hS) (q_n8 hS) (q_m hS) (q_m6 hS) a1) ?_ ?_
  · rintro v w' ⟨j, hj, rfl, rfl, rfl⟩
    by_cases h7 : j = 7
    · subst h7
      refine ⟨_, _, _, rfl, rfl, lw_ok0 hk (z_S_count7 ht3 hS rfl) rfl⟩
    · rw [if_neg h7]
      exact ⟨_, _, _, rfl, rfl, lw_ok0 hk (z_S_count ht3 hS hj h7) rfl⟩
  · rintro E w' ⟨rfl, rfl, hq⟩
    exact ⟨Nat.one_ne_zero, rfl, lw_okT hk (by decide) (z_T_count ht3 hS hq)⟩
set_option maxHeartbeats 1000000 in
theorem o_person {G : am_G} (hK : k_OK G) (hXS : k_XS G) {w : am_w} (hJ : lw_J w) (a1 a2 : Int32) : AMH G nL_person [(0, 10, 13, 18)] 150 [.ref 0, .int a1, .int a2, .ref 144] w (lw_Pa (fun I => b_X11_person I a1 a2) Int32.toInt64) (fun _ _ => False) := by
  obtain ⟨I, R, L, t, t2, T, rfl, hk, hS⟩ := hJ
  have ⟨hM, hMo, hR1, hR2, ht3, ht2⟩ := hk
  refine h_person hK (d' := 140) (by omega) lw_0 lw_144 (k_X10_person hK (d := 140) (by omega) hXS hM hR1 ht3 (by decide) (q_n hS) (q_n8 hS) (q_m hS) (q_m6 hS) a1 a2) ?_ ?_
  · rintro v w' ⟨a, j, ha, rfl, hj, rfl, rfl, rfl⟩
    by_cases h7 : j = 5
    · subst h7
      refine ⟨_, _, _, rfl, rfl, lw_ok0 hk (z_S_person5 ht3 hS rfl ha) rfl⟩
    · rw [if_neg h7]
      exact ⟨_, _, _, rfl, rfl, lw_ok0 hk (z_S_person ht3 hS ha (by omega)) rfl⟩
  · rintro E w' ⟨rfl, rfl, hq⟩
    exact ⟨Nat.one_ne_zero, rfl, lw_okT hk (by decide) (z_T_person ht3 hS hq)⟩
set_option maxHeartbeats 1000000 in
theorem o_loaf {G : am_G} (hK : k_OK G) (hXS : k_XS G) {w : am_w} (hJ : lw_J w) (a1 a2 : Int32) : AMH G nL_loaf [(0, 10, 13, 18)] 150 [.ref 0, .int a1, .int a2, .ref 144] w (lw_Pa (fun I => b_X11_loaf I a1 a2) Int32.toInt64) (fun _ _ => False) := by
  obtain ⟨I, R, L, t, t2, T, rfl, hk, hS⟩ := hJ
  have ⟨hM, hMo, hR1, hR2, ht3, ht2⟩ := hk
  refine h_loaf hK (d' := 140) (by omega) lw_0 lw_144 (k_X10_loaf hK (d := 140) (by omega) hXS hM hR1 ht3 (by decide) (q_n hS) (q_n8 hS) (q_m hS) (q_m6 hS) a1 a2) ?_ ?_
  · rintro v w' ⟨b, j, hb, rfl, hj, rfl, rfl, rfl⟩
    by_cases h7 : j = 7
    · subst h7
      refine ⟨_, _, _, rfl, rfl, lw_ok0 hk (z_S_loaf7 ht3 hS rfl hb) rfl⟩
    · rw [if_neg h7]
      exact ⟨_, _, _, rfl, rfl, lw_ok0 hk (z_S_loaf ht3 hS hb (by omega)) rfl⟩
  · rintro E w' ⟨rfl, rfl, hq⟩
    exact ⟨Nat.one_ne_zero, rfl, lw_okT hk (by decide) (z_T_loaf ht3 hS hq)⟩
set_option maxHeartbeats 1000000 in
theorem o_met {G : am_G} (hK : k_OK G) (hXS : k_XS G) (hN : ∀ s H, am_O G s H → va_Nc nmI nmS s) {w : am_w} (hJ : lw_J w) (a1 a2 : Int32) : AMH G nL_met [(0, 10, 13, 18), (0, 10, 17, 13)] 150 [.ref 0, .int a1, .int a2, .ref 144] w (lw_Pa (fun I => b_X11_met I a1 a2) Int32.toInt64) (fun _ _ => False) := by
  obtain ⟨I, R, L, t, t2, T, rfl, hk, hS⟩ := hJ
  have ⟨hM, hMo, hR1, hR2, ht3, ht2⟩ := hk
  refine h_met hK hN (d' := 140) (by omega) lw_0 lw_144 (k_X10_met hK (d := 140) (by omega) hXS hM hR1 ht3 (by decide) (q_n hS) (q_n8 hS) a1 a2) ?_ ?_
  · rintro v w' ⟨rfl, a, b, ha, hb, rfl, rfl, hne, rfl⟩
    exact ⟨_, _, _, rfl, rfl, lw_ok0 hk (z_S_met ht3 hS ha hb hne) rfl⟩
  · rintro E w' ⟨rfl, hq⟩
    refine ⟨Nat.one_ne_zero, ?_⟩
    rcases hq with ⟨rfl, hq⟩ | ⟨rfl, hq⟩
    · exact Or.inl ⟨rfl, lw_okT hk (by decide) (z_T_met1 ht3 hS hq)⟩
    · exact Or.inr ⟨rfl, lw_okT hk (by decide) (z_T_met2 ht3 hS hq.1 hq.2.1 hq.2.2)⟩
set_option maxHeartbeats 1000000 in
theorem o_knows {G : am_G} (hK : k_OK G) (hXS : k_XS G) {w : am_w} (hJ : lw_J w) (a1 a2 : Int32) : AMH G nL_knows [(0, 17, 20, 18)] 150 [.ref 0, .int a1, .int a2, .ref 144] w (lw_Pa (fun I => b_X11_knows I a1 a2) (fun r => if kb r = 0 then 0 else 1)) (fun _ _ => False) := by
  obtain ⟨I, R, L, t, t2, T, rfl, hk, hS⟩ := hJ
  have ⟨hM, hMo, hR1, hR2, ht3, ht2⟩ := hk
  refine h_knows hK (d' := 140) (by omega) lw_0 lw_144 (k_X10_knows hK (d := 140) (by omega) hXS hM hR1 ht3 (by decide) (q_n hS) (q_n8 hS) (q_m hS) (q_m6 hS) a1 a2) ?_ ?_
  · rintro v w' ⟨rfl, a, b, ha, hb, rfl, rfl, rfl⟩
    exact ⟨_, _, _, rfl, rfl, lw_ok0 hk (z_S_knows ht3 hS rfl ha hb) rfl⟩
  · rintro E w' ⟨rfl, rfl, hq⟩
    exact ⟨Nat.one_ne_zero, rfl, lw_okT hk (by decide) (z_T_knows ht3 hS hq)⟩
set_option maxHeartbeats 1000000 in
theorem o_may {G : am_G} (hK : k_OK G) (hXS : k_XS G) {w : am_w} (hJ : lw_J w) (a1 a2 : Int32) : AMH G nL_may [(0, 10, 13, 18)] 150 [.ref 0, .int a1, .int a2, .ref 144] w (lw_Pa (fun I => b_X11_may I a1 a2) Int32.toInt64) (fun _ _ => False) := by
  obtain ⟨I, R, L, t, t2, T, rfl, hk, hS⟩ := hJ
  have ⟨hM, hMo, hR1, hR2, ht3, ht2⟩ := hk
  refine h_may hK (d' := 140) (by omega) lw_0 lw_144 (k_X10_may hK (d := 140) (by omega) hXS hM hR1 ht3 (by decide) (q_n hS) (q_n8 hS) (q_m hS) (q_m6 hS) a1 a2) ?_ ?_
  · rintro v w' ⟨rfl, a, b, ha, hb, rfl, rfl, rfl⟩
    exact ⟨_, _, _, rfl, rfl, lw_ok0 hk (z_S_may ht3 hS rfl ha hb) rfl⟩
  · rintro E w' ⟨rfl, rfl, hq⟩
    exact ⟨Nat.one_ne_zero, rfl, lw_okT hk (by decide) (z_T_may ht3 hS hq)⟩
set_option maxHeartbeats 1000000 in
theorem o_slice {G : am_G} (hK : k_OK G) (hXS : k_XS G) {w : am_w} (hJ : lw_J w) (a1 a2 a3 : Int32) : AMH G nL_slice [(0, 12, 15, 18)] 150 [.ref 0, .int a1, .int a2, .int a3, .ref 144] w (lw_Pa (fun I => b_X11_slice I a1 a2 a3) Int32.toInt64) (fun _ _ => False) := by
  obtain ⟨I, R, L, t, t2, T, rfl, hk, hS⟩ := hJ
  have ⟨hM, hMo, hR1, hR2, ht3, ht2⟩ := hk
  refine h_slice hK (d' := 140) (by omega) lw_0 lw_144 (k_X10_slice hK (d := 140) (by omega) hXS hM hR1 ht3 (by decide) (q_n hS) (q_n8 hS) (q_m hS) (q_m6 hS) (len := T.2.2.2.2.length) (q_len hS) (q_len6 hS) (q_LV hS) a1 a2 a3) ?_ ?_
  · rintro v w' ⟨a, b, ha, hb, rfl, rfl, h1, h2, rfl, rfl⟩
    exact ⟨_, _, _, rfl, rfl, lw_ok0 hk (z_S_slice ht3 hS ha hb h1 h2 rfl) rfl⟩
  · rintro E w' ⟨rfl, rfl, hq⟩
    exact ⟨Nat.one_ne_zero, rfl, lw_okT hk (by decide) (z_T_slice ht3 hS hq)⟩
set_option maxHeartbeats 1000000 in
theorem o_cut {G : am_G} (hK : k_OK G) (hXS : k_XS G) {w : am_w} (hJ : lw_J w) (a1 a2 : Int32) : AMH G nL_cut [(0, 17, 20, 18)] 150 [.ref 0, .int a1, .int a2, .ref 144] w (lw_Pa (fun I => b_X11_cut I a1 a2) (fun r => if kb r = 0 then 0 else 1)) (fun _ _ => False) := by
  obtain ⟨I, R, L, t, t2, T, rfl, hk, hS⟩ := hJ
  have ⟨hM, hMo, hR1, hR2, ht3, ht2⟩ := hk
  obtain ⟨k, hk40, hk5, hok⟩ := q_k hS
  refine h_cut hK (d' := 140) (by omega) lw_0 lw_144 (k_X10_cut hK (d := 140) (by omega) hXS hM hR1 ht3 (by decide) (q_n hS) (q_n8 hS) (q_m hS) (q_m6 hS) hk5 hk40 hok a1 a2) ?_ ?_
  · rintro v w' ⟨a, b, ha, hb, rfl, rfl, rfl, rfl⟩
    exact ⟨_, _, _, rfl, rfl, lw_ok0 hk (z_S_cut ht3 hS rfl hk5 hk40 ha hb rfl) rfl⟩
  · rintro E w' ⟨rfl, rfl, hq⟩
    exact ⟨Nat.one_ne_zero, rfl, lw_okT hk (by decide) (z_T_cut ht3 hS hq)⟩
set_option maxHeartbeats 1000000 in
theorem o_thank {G : am_G} (hK : k_OK G) (hXS : k_XS G) {w : am_w} (hJ : lw_J w) (a1 a2 : Int32) : AMH G nL_thank [(0, 10, 13, 18)] 150 [.ref 0, .int a1, .int a2, .ref 144] w (lw_Pa (fun I => b_X11_thank I a1 a2) Int32.toInt64) (fun _ _ => False) := by
  obtain ⟨I, R, L, t, t2, T, rfl, hk, hS⟩ := hJ
  have ⟨hM, hMo, hR1, hR2, ht3, ht2⟩ := hk
  obtain ⟨k, hk40, hk5, hok⟩ := q_k hS
  refine h_thank hK (d' := 140) (by omega) lw_0 lw_144 (k_X10_thank hK (d := 140) (by omega) hXS hM hR1 ht3 (by decide) (q_n hS) (q_n8 hS) hk5 hk40 hok a1 a2) ?_ ?_
  · rintro v w' ⟨a, b, ha, hb, rfl, rfl, rfl, rfl⟩
    refine ⟨_, _, _, rfl, rfl, lw_ok0 hk (z_S_thank ht3 hS hk5 hk40 ha hb rfl) ?_⟩
    by_cases he : nI a = nI b
    · rw [if_pos he, if_pos he]
    · rw [if_neg he, if_neg he, if_neg he]
  · rintro E w' ⟨rfl, rfl, hq⟩
    exact ⟨Nat.one_ne_zero, rfl, lw_okT hk (by decide) (z_T_thank ht3 hS hq)⟩
set_option maxHeartbeats 1000000 in
theorem o_carried {G : am_G} (hK : k_OK G) (hXS : k_XS G) {w : am_w} (hJ : lw_J w) (a1 : Int32) : AMH G nL_carried [(0, 9, 12, 18)] 150 [.ref 0, .int a1, .ref 144] w (lw_Pa (fun I => b_X11_carried I a1) Int32.toInt64) (fun _ _ => False) := by
  obtain ⟨I, R, L, t, t2, T, rfl, hk, hS⟩ := hJ
  have ⟨hM, hMo, hR1, hR2, ht3, ht2⟩ := hk
  refine h_carried hK (d' := 140) (by omega) lw_0 lw_144 (k_X10_carried hK (d := 140) (by omega) hXS hM hR1 ht3 (by decide) (q_m hS) (q_m6 hS) a1) ?_ ?_
  · rintro v w' ⟨rfl, b, hb, rfl, h9, rfl⟩
    exact ⟨_, _, _, rfl, rfl, lw_ok0 hk (z_S_carried ht3 hS hb h9) rfl⟩
  · rintro E w' ⟨rfl, rfl, hq⟩
    exact ⟨Nat.one_ne_zero, rfl, lw_okT hk (by decide) (z_T_carried ht3 hS hq)⟩
set_option maxHeartbeats 1000000 in
theorem o_see {G : am_G} (hK : k_OK G) (hXS : k_XS G) {w : am_w} (hJ : lw_J w) (a1 a2 a3 : Int32) : AMH G nL_see [(0, 12, 15, 18)] 150 [.ref 0, .int a1, .int a2, .int a3, .ref 144] w (lw_Pa (fun I => b_X11_see I a1 a2 a3) Int32.toInt64) (fun _ _ => False) := by
  obtain ⟨I, R, L, t, t2, T, rfl, hk, hS⟩ := hJ
  have ⟨hM, hMo, hR1, hR2, ht3, ht2⟩ := hk
  obtain ⟨k, hk6, hk2, -⟩ := q_see hS
  refine h_see hK (d' := 140) (by omega) lw_0 lw_144 (k_X10_see hK (d := 140) (by omega) hXS hM hR1 ht3 (by decide) (q_n hS) (q_n8 hS) (q_m hS) (q_m6 hS) (q_EC hS) hk2 hk6 a1 a2 a3) ?_ ?_
  · rintro v w' ⟨b, hb, rfl, rfl, rfl⟩
    exact ⟨_, _, _, rfl, rfl, lw_ok0 hk (z_S_see ht3 hS hb hk2 hk6 Iff.rfl rfl) rfl⟩
  · rintro E w' ⟨rfl, rfl, hq⟩
    exact ⟨Nat.one_ne_zero, rfl, lw_okT hk (by decide) (z_T_see ht3 hS hq)⟩
set_option maxHeartbeats 1000000 in
theorem o_who {G : am_G} (hK : k_OK G) (hXS : k_XS G) {w : am_w} (hJ : lw_J w) (a1 : Int32) : AMH G nL_who [(0, 9, 12, 18)] 150 [.ref 0, .int a1, .ref 144] w (lw_Pa (fun I => b_X11_who I a1) Int32.toInt64) (fun _ _ => False) := by
  obtain ⟨I, R, L, t, t2, T, rfl, hk, hS⟩ := hJ
  have ⟨hM, hMo, hR1, hR2, ht3, ht2⟩ := hk
  obtain ⟨k, hk6, hk2, hv⟩ := q_see hS
  refine h_who hK (d' := 140) (by omega) lw_0 lw_144 (k_X10_who hK (d := 140) (by omega) hXS hM hR1 ht3 (by decide) (q_n hS) (q_n8 hS) (q_m hS) (q_m6 hS) (len := T.2.2.2.2.length) (q_len hS) (q_len6 hS) (q_LV hS) hk2 hk6 a1 (fun j hj _ => hv j hj)) ?_ ?_
  · rintro v w' ⟨b, hb, rfl, rfl, rfl⟩
    exact ⟨_, _, _, rfl, rfl, lw_ok0 hk (z_S_who ht3 hS hb hk2 hk6 rfl) rfl⟩
  · rintro E w' ⟨rfl, rfl, hq⟩
    exact ⟨Nat.one_ne_zero, rfl, lw_okT hk (by decide) (z_T_who ht3 hS hq)⟩
set_option maxHeartbeats 1000000 in
theorem o_balk {G : am_G} (hK : k_OK G) (hXS : k_XS G) {w : am_w} (hJ : lw_J w) (a1 a2 : Int32) : AMH G nL_balk [(0, 10, 13, 18)] 150 [.ref 0, .int a1, .int a2, .ref 144] w (lw_Pa (fun I => b_X11_balk I a1 a2) Int32.toInt64) (fun _ _ => False) := by
  obtain ⟨I, R, L, t, t2, T, rfl, hk, hS⟩ := hJ
  have ⟨hM, hMo, hR1, hR2, ht3, ht2⟩ := hk
  obtain ⟨k, hk4, hk6, -⟩ := q_balk hS
  refine h_balk hK (d' := 140) (by omega) lw_0 lw_144 (k_X10_balk hK (d := 140) (by omega) hXS hM hR1 ht3 (by decide) (q_n hS) (q_n8 hS) (q_m hS) (q_m6 hS) hk6 hk4 a1 a2) ?_ ?_
  · rintro v w' ⟨⟨a, ha, rfl⟩, ⟨b, hb, rfl⟩, rfl, rfl⟩
    exact ⟨_, _, _, rfl, rfl, lw_ok0 hk (z_S_balk ht3 hS ha hb hk6 hk4 rfl) rfl⟩
  · rintro E w' ⟨rfl, rfl, hq⟩
    exact ⟨Nat.one_ne_zero, rfl, lw_okT hk (by decide) (z_T_balk ht3 hS hq)⟩
set_option maxHeartbeats 1000000 in
theorem o_whom {G : am_G} (hK : k_OK G) (hXS : k_XS G) {w : am_w} (hJ : lw_J w) (a1 : Int32) : AMH G nL_whom [(0, 9, 12, 18)] 150 [.ref 0, .int a1, .ref 144] w (lw_Pa (fun I => b_X11_whom I a1) Int32.toInt64) (fun _ _ => False) := by
  obtain ⟨I, R, L, t, t2, T, rfl, hk, hS⟩ := hJ
  have ⟨hM, hMo, hR1, hR2, ht3, ht2⟩ := hk
  obtain ⟨k, hk4, hk6, hB⟩ := q_balk hS
  refine h_whom hK (d' := 140) (by omega) lw_0 lw_144 (k_X10_whom hK (d := 140) (by omega) hXS hM hR1 ht3 (by decide) (q_n hS) (q_n8 hS) (q_m hS) (q_m6 hS) hk6 hk4 hB a1) ?_ ?_
  · rintro v w' ⟨hwh, rfl, rfl⟩
    exact ⟨_, _, _, rfl, rfl, lw_ok0 hk (z_S_whom ht3 hS rfl hk6 hk4 hwh) rfl⟩
  · rintro E w' ⟨rfl, rfl, hq⟩
    exact ⟨Nat.one_ne_zero, rfl, lw_okT hk (by decide) (z_T_whom ht3 hS hq)⟩
set_option maxHeartbeats 1000000 in
theorem o_why {G : am_G} (hK : k_OK G) (hXS : k_XS G) {w : am_w} (hJ : lw_J w) (a1 a2 : Int32) : AMH G nL_why [(0, 10, 13, 18)] 150 [.ref 0, .int a1, .int a2, .ref 144] w (lw_Pa (fun I => b_X11_why I a1 a2) Int32.toInt64) (fun _ _ => False) := by
  obtain ⟨I, R, L, t, t2, T, rfl, hk, hS⟩ := hJ
  have ⟨hM, hMo, hR1, hR2, ht3, ht2⟩ := hk
  refine h_why hK (d' := 140) (by omega) lw_0 lw_144 (k_X10_why hK (d := 140) (by omega) hXS hM hR1 ht3 (by decide) (q_n hS) (q_n8 hS) (q_m hS) (q_m6 hS) a1 a2) ?_ ?_
  · rintro v w' ⟨rfl, b, hb, rfl, h0, h6, rfl⟩
    exact ⟨_, _, _, rfl, rfl, lw_ok0 hk (z_S_why ht3 hS rfl hb h0 h6) rfl⟩
  · rintro E w' ⟨rfl, rfl, hq⟩
    exact ⟨Nat.one_ne_zero, rfl, lw_okT hk (by decide) (z_T_why ht3 hS hq)⟩
set_option maxHeartbeats 1000000 in
theorem o_fairest {G : am_G} (hK : k_OK G) (hXS : k_XS G) {w : am_w} (hJ : lw_J w) (a1 a2 : Int32) : AMH G nL_fairest [(0, 10, 13, 18)] 150 [.ref 0, .int a1, .int a2, .ref 144] w (lw_Pa (fun I => b_X11_fairest I a1 a2) Int32.toInt64) (fun _ _ => False) := by
  obtain ⟨I, R, L, t, t2, T, rfl, hk, hS⟩ := hJ
  have ⟨hM, hMo, hR1, hR2, ht3, ht2⟩ := hk
  refine h_fairest hK (d' := 140) (by omega) lw_0 lw_144 (k_X10_fairest hK (d := 140) (by omega) hXS hM hR1 ht3 (by decide) (q_n hS) (q_n8 hS) (q_m hS) (q_m6 hS) (len := T.2.2.2.2.length) (q_len hS) (q_len6 hS) (q_LV hS) a1 a2) ?_ ?_
  · rintro v w' ⟨b, hb, rfl, h1, h2, rfl, rfl⟩
    exact ⟨_, _, _, rfl, rfl, lw_ok0 hk (z_S_fairest ht3 hS rfl hb h1 h2 rfl) rfl⟩
  · rintro E w' ⟨rfl, rfl, hq⟩
    exact ⟨Nat.one_ne_zero, rfl, lw_okT hk (by decide) (z_T_fairest ht3 hS hq)⟩
set_option maxHeartbeats 1000000 in
theorem o_game {G : am_G} (hK : k_OK G) (hXS : k_XS G) (hN : ∀ s H, am_O G s H → va_Nc nmI nmS s) {w : am_w} (hJ : lw_J w) (a1 a2 a3 : Int32) : AMH G nL_game [(0, 12, 15, 18), (0, 12, 19, 13)] 150 [.ref 0, .int a1, .int a2, .int a3, .ref 144] w (lw_Pa (fun I => b_X11_game I a1 a2 a3) Int32.toInt64) (fun _ _ => False) := by
  obtain ⟨I, R, L, t, t2, T, rfl, hk, hS⟩ := hJ
  have ⟨hM, hMo, hR1, hR2, ht3, ht2⟩ := hk
  refine h_game hK hN (d' := 140) (by omega) lw_0 lw_144 (k_X10_game hK (d := 140) (by omega) hXS hM hR1 ht3 (by decide) (q_n hS) (q_n8 hS) (q_m hS) (q_m6 hS) a1 a2 a3) ?_ ?_
  · rintro v w' ⟨p, q, hp, hq, rfl, rfl, hne, hwh, rfl, rfl⟩
    exact ⟨_, _, _, rfl, rfl, lw_ok0 hk (z_S_game ht3 hS rfl hp hq hne hwh) rfl⟩
  · rintro E w' ⟨rfl, hq⟩
    refine ⟨Nat.one_ne_zero, ?_⟩
    rcases hq with ⟨rfl, hq⟩ | ⟨rfl, hq⟩
    · exact Or.inl ⟨rfl, lw_okT hk (by decide) (z_T_game1 ht3 hS hq)⟩
    · exact Or.inr ⟨rfl, lw_okT hk (by decide) (z_T_game2 ht3 hS hq.1 hq.2.1 hq.2.2.1 hq.2.2.2)⟩
set_option maxHeartbeats 1000000 in
theorem o_season {G : am_G} (hK : k_OK G) (hXS : k_XS G) (hN : ∀ s H, am_O G s H → va_Nc nmI nmS s) {w : am_w} (hJ : lw_J w) (a1 a2 a3 : Int32) : AMH G nL_season [(0, 12, 15, 18), (0, 12, 19, 13)] 150 [.ref 0, .int a1, .int a2, .int a3, .ref 144] w (lw_Pa (fun I => b_X11_season I a1 a2 a3) Int32.toInt64) (fun _ _ => False) := by
  obtain ⟨I, R, L, t, t2, T, rfl, hk, hS⟩ := hJ
  have ⟨hM, hMo, hR1, hR2, ht3, ht2⟩ := hk
  refine h_season hK hN (d' := 140) (by omega) lw_0 lw_144 (k_X10_season hK (d := 140) (by omega) hXS hM hR1 ht3 (by decide) (q_n hS) (q_n8 hS) (q_m hS) (q_m6 hS) a1 a2 a3) ?_ ?_
  · rintro v w' ⟨j, hj, rfl, h0, h2, rfl, rfl⟩
    exact ⟨_, _, _, rfl, rfl, lw_ok0 hk (z_S_season ht3 hS hj h0 h2 rfl rfl rfl rfl rfl) rfl⟩
  · rintro E w' ⟨rfl, hq⟩
    refine ⟨Nat.one_ne_zero, ?_⟩
    rcases hq with ⟨rfl, hq⟩ | ⟨rfl, hq⟩
    · exact Or.inl ⟨rfl, lw_okT hk (by decide) (z_T_season1 ht3 hS hq)⟩
    · exact Or.inr ⟨rfl, lw_okT hk (by decide) (z_T_season2 ht3 hS hq.1 hq.2)⟩
theorem lw_swap {R : Nat → Nat → Option Nat} {t t2 : Nat} (hk : lw_K R t t2) : lw_K (am_uR (am_uR R 0 2 (some t)) 0 1 (some t2)) t2 t := by
  obtain ⟨hM, hMo, h1, h2, h3, h4⟩ := hk
  have ho : ∀ a k, (a = 0 → k ≠ 1 ∧ k ≠ 2) → am_uR (am_uR R 0 2 (some t)) 0 1 (some t2) a k = R a k := by
    intro a k h
    unfold am_uR va_up
    by_cases ha : a = 0
    · subst ha
      rw [if_pos rfl, if_neg (h rfl).1, if_pos rfl, if_neg (h rfl).2]
    · rw [if_neg ha, if_neg ha]
  refine ⟨⟨hM.1, fun q hq => ?_⟩, ⟨hMo.1, fun q hq => ?_⟩, ?_, ?_, by omega, by omega⟩
  · rw [ho _ _ (by revert q; decide)]
    exact hM.2 q hq
  · rw [ho _ _ (fun h => absurd h (by omega))]
    exact hMo.2 q hq
  · simp [am_uR, va_up]
  · simp [am_uR, va_up]
set_option maxHeartbeats 1000000 in
theorem o_town {G : am_G} (hK : k_OK G) (hXS : k_XS G) {w : am_w} (hJ : lw_J w) (a1 : Int32) : AMH G nL_town [(0, 9, 12, 13)] 150 [.ref 0, .int a1, .ref 144] w (lw_Pa (fun I => b_X11_town I a1) Int32.toInt64) (fun _ _ => False) := by
  obtain ⟨I, R, L, t, t2, T, rfl, hk, hS⟩ := hJ
  have ⟨hM, hMo, hR1, hR2, ht3, ht2⟩ := hk
  obtain ⟨fd, hf6, hfd⟩ := q_fd hS
  refine h_town hK (d' := 140) (by omega) lw_0 lw_144 (k_X10_town hK (d := 140) (by omega) hXS hM hR1 ht3 (by decide) hR2 ht2 hfd hf6 (q_by hS) a1) ?_ ?_
  · rintro v w' ⟨nn, J, hnn, rfl, hrt, ⟨hf, rfl, rfl⟩ | ⟨hf, rfl, rfl⟩⟩
    · exact ⟨_, _, _, rfl, rfl, lw_ok0 hk (z_S_townF ht3 ht2 hS hfd hf6 hnn hrt hf rfl) rfl⟩
    · exact ⟨_, _, _, rfl, rfl, lw_ok0 (lw_swap hk) (z_S_townG ht3 ht2 hS hfd hf6 hnn hrt hf rfl) rfl⟩
  · rintro E w' ⟨rfl, rfl, hq⟩
    exact ⟨Nat.one_ne_zero, rfl, lw_okT hk (by decide) (z_T_town ht3 hS hfd hf6 hq)⟩
