/-! PURE: FAIR, HOURS, UNDO, BOTH WORLDS -/
/-- a set within all: the bits of a number below a power of 2 -/
theorem z_win {b : Int32} {n : Nat} (hn : n ≤ 8) : b &&& (nI (2 ^ n - 1) ^^^ (-1)) = 0 ↔ ∃ s, s < 2 ^ n ∧ b = nI s := by
  have hp := k_pow1 (n := n) (by omega)
  rw [z_and0]
  constructor
  · intro h
    exact z_of (by omega) fun i h1 h2 => by
      cases e : bt b i with
      | false => rfl
      | true =>
        have := h i h2 e
        rw [z_com _ h2, z_all h2 (by omega), decide_eq_false (by omega)] at this
        exact absurd this (by decide)
  · rintro ⟨s, hs, rfl⟩ i hi h
    rw [z_tb hi] at h
    rw [z_com _ hi, z_all hi (by omega)]
    have hlt : i < n := Classical.byContradiction fun q => by
      have h2 := Nat.testBit_lt_two_pow (Nat.lt_of_lt_of_le hs (Nat.pow_le_pow_right (by omega) (show n ≤ i by omega)))
      rw [h] at h2
      exact absurd h2 (by decide)
    rw [decide_eq_true hlt]
    rfl
theorem z_isS {b : Int32} {n : Nat} (hn : n ≤ 8) : b_X11_isIn b.toInt64 0 (nI (2 ^ n - 1)).toInt64 = true ↔ ∃ s, s < 2 ^ n ∧ b = nI s := by
  have hp := k_pow1 (n := n) (by omega)
  rw [z_isIn, Int32.toInt_toInt64, Int32.toInt_toInt64, nI_toInt (by omega), show (0 : Int64).toInt = 0 by decide]
  constructor
  · rintro ⟨h1, h2⟩
    refine ⟨b.toInt.toNat, by omega, Int32.toInt_inj.mp ?_⟩
    rw [nI_toInt (by omega)]; omega
  · rintro ⟨s, hs, rfl⟩
    rw [nI_toInt (by omega)]
    omega
theorem z_S_fair {I Y : g_I} {t k : Nat} {T : x_T} (ht3 : t = 3 ∨ t = 22) (hS : z_sim I t T) (hk : I 42 5 = nI k) (hk40 : k ≤ 40) {b : Int32} {C : Prop} [Decidable C] (hC : C ↔ (f_bc b < 2 ∨ ¬ b &&& ((((1 : Int32) <<< (I t 0 &&& 31)) - 1) ^^^ (-1)) = 0)) (hY : Y = if C then f_ref I 1 else f_aW I t T.1.length k 2 b 0) : ∃ J, b_X11_fair Y b = some (if C then -1 else f_bc b, J) ∧ z_sim J t T ∧ J 101 2 = 0 := by
  have h8 := hS.1.1.1
  have hp := k_pow1 (n := T.1.length) (by omega)
  have hD := z_sim_D hS
  rw [show I t 0 = nI T.1.length from hS.2.1.1.1, k_all (by omega), z_win h8] at hC
  have hY9 : ∀ c, 101 ≤ c → Y c = I c := fun c q => by
    by_cases e : C
    · rw [if_pos e] at hY
      rw [hY]; exact am_uA_o _ _ _ (by omega)
    · rw [if_neg e] at hY
      exact (z_aW ht3 hk40 hY).1 c (by omega)
  have g1 : ∀ c, 102 ≤ c → am_up Y 101 2 0 c = I c := fun c q => by rw [am_up_o _ _ _ _ (by omega), hY9 c (by omega)]
  have hR : z_R (am_up Y 101 2 0) T := z_R_o hS.2.2.1 fun c q1 q2 _ => g1 c (by omega)
  unfold b_X11_fair
  rw [z_gl, hR.1.1, k_all (by omega)]
  by_cases e : C
  · rw [if_pos e] at hY
    rw [if_pos e]
    obtain ⟨z1, z2⟩ := z_rfz ht3 hS (k := 1) (by decide) rfl
    rw [← hY] at z1 z2
    refine ⟨_, ?_, z1, z2⟩
    by_cases c : b_X11_isIn b.toInt64 0 (nI (2 ^ T.1.length - 1)).toInt64 = true
    · rw [if_pos c]
      obtain ⟨s, hs, eb⟩ := (z_isS h8).mp c
      have h2 : ¬ 2 ≤ nI (z_pc s) := by
        rcases hC.mp e with q | q
        · rw [eb, z_bc s (by omega)] at q
          exact fun q2 => Int32.not_le.mpr q q2
        · exact absurd ⟨s, hs, eb⟩ q
      rw [eb, z_bo (by omega)]
      simp only [g_bind]
      rw [if_neg h2, z_rf1]; rfl
    · rw [if_neg c, z_rf1]; rfl
  · rw [if_neg e] at hY
    rw [if_neg e]
    have hb : ∃ s, s < 2 ^ T.1.length ∧ b = nI s := Classical.byContradiction fun q => e (hC.mpr (Or.inr q))
    have hb2 : ¬ f_bc b < 2 := fun q => e (hC.mpr (Or.inl q))
    obtain ⟨s, hs, eb⟩ := hb
    have hbc : f_bc b = nI (z_pc s) := by rw [eb]; exact z_bc s (by omega)
    have h2 : 2 ≤ nI (z_pc s) := by rw [← hbc]; exact Int32.not_lt.mp hb2
    obtain ⟨J1, e1, j1, j2, fin⟩ := z_keepz ht3 hS hk hk40 hY ⟨fun q => absurd q (by decide), fun q => absurd q (by decide)⟩
    have r30 : J1 101 30 = I 101 30 := j2 30 (by decide) (by decide)
    obtain ⟨J2, e2, f2⟩ := z_fairOf (I := J1) (n := T.1.length) (by rw [j1 104 (by decide) (by decide)]; exact hS.2.2.1.1.1) h8 b
    have hmm := z_mmF (J := J1) (J9 := J2) (S := b) hS.1.1 (fun x y hx hy => by rw [j1 114 (by decide) (by decide), r30]; exact (hD.2.2.2.2.2.2.2.1 x y hx hy).2.1) f2
    rw [r30, j1 114 (by decide) (by decide)] at hmm
    obtain ⟨dd, hdd, ed⟩ := hS.2.2.2.2.2.2.2.2.2.2.1
    obtain ⟨g3, g4⟩ := fin J2 (fun c q1 q2 q3 q4 => f2.1 c q2) (fun j q1 q2 => by rw [f2.1 101 (by decide)]) (by
        have hd : z_dr J2 = ((z_dr I).1, (z_dr I).2.1, J2 114, (z_dr I).2.2.2) := by
          unfold z_dr
          rw [f2.1 101 (by decide), f2.1 118 (by decide), f2.1 119 (by decide), j1 118 (by decide) (by decide), j1 119 (by decide) (by decide), r30, j2 31 (by decide) (by decide)]
        rw [hd]
        have hm2 := z_D_meet hS.1.1 (tw := z_tw T) (fun _ _ => rfl) hD (S := b) (wh := I 101 30) (M' := J2 114) (by rw [ed, z_lI, nI_toInt (by omega), show (-100000 : Int32).toInt = -100000 by decide]; omega) (Int32.le_refl _) hmm
        unfold z_ac
        rw [if_neg (by decide), if_neg (by decide), if_pos rfl, show (z_dc I 47).1 = I 101 30 from hD.1]
        have e47 : (z_dc I 47).1 = I 101 30 := hD.1
        rw [e47] at hm2
        exact hm2) (by rw [f2.1 101 (by decide), r30]; exact hS.2.2.2.2.2.2.2.2.2.2.1)
    refine ⟨_, ?_, g3, g4⟩
    rw [if_pos ((z_isS h8).mpr ⟨s, hs, eb⟩), hbc]
    have hbo : b_X11_bitsOf b = some (nI (z_pc s)) := by rw [eb]; exact z_bo (by omega)
    rw [hbo]
    simp only [g_bind]
    rw [if_pos h2, e1]
    simp only []
    rw [e2]
theorem z_is99 {x : Int32} : b_X11_isIn x.toInt64 1 99 = true ↔ ¬ (x < 1 ∨ 99 < x) := by
  rw [z_isIn, Int32.toInt_toInt64, z_lI, z_lI, show (1 : Int64).toInt = 1 by decide, show (99 : Int64).toInt = 99 by decide, show (1 : Int32).toInt = 1 by decide, show (99 : Int32).toInt = 99 by decide]
  omega
theorem z_S_hours {I Y : g_I} {t k : Nat} {T : x_T} (ht3 : t = 3 ∨ t = 22) (hS : z_sim I t T) (hk : I 42 5 = nI k) (hk40 : k ≤ 40) {x : Int32} {C : Prop} [Decidable C] (hC : C ↔ (x < 1 ∨ 99 < x ∨ ¬ I 47 0 + (I 47 1 + x) / 24 ≤ 999)) (hY : Y = if C then f_ref I 1 else f_aW I t T.1.length k 3 x 0) : ∃ J, b_X11_hours Y x = some (if C then -1 else Y 47 1, J) ∧ z_sim J t T ∧ J 101 2 = 0 := by
  have hD := z_sim_D hS
  have d0 : I 47 0 = I 101 30 := hD.1
  have d1 : I 47 1 = I 101 31 := hD.2.1
  rw [d0, d1] at hC
  have hY9 : ∀ c, 101 ≤ c → Y c = I c := fun c q => by
    by_cases e : C
    · rw [if_pos e] at hY
      rw [hY]; exact am_uA_o _ _ _ (by omega)
    · rw [if_neg e] at hY
      exact (z_aW ht3 hk40 hY).1 c (by omega)
  have g2 : ∀ j, j ≠ 2 → am_up Y 101 2 0 101 j = I 101 j := fun j q => by rw [up_ne q, hY9 101 (by omega)]
  unfold b_X11_hours
  rw [z_gl, g2 30 (by decide), g2 31 (by decide)]
  by_cases e : C
  · rw [if_pos e] at hY
    rw [if_pos e]
    obtain ⟨z1, z2⟩ := z_rfz ht3 hS (k := 1) (by decide) rfl
    rw [← hY] at z1 z2
    refine ⟨_, ?_, z1, z2⟩
    by_cases c : b_X11_isIn x.toInt64 1 99 = true
    · rw [if_pos c, if_neg (show ¬ I 101 30 + (I 101 31 + x) / 24 ≤ 999 from fun q => by
        have h1 := z_is99.mp c
        rcases hC.mp e with p | p | p
        · exact h1 (Or.inl p)
        · exact h1 (Or.inr p)
        · exact p q), z_rf1]; rfl
    · rw [if_neg c, z_rf1]; rfl
  · rw [if_neg e] at hY
    rw [if_neg e]
    have c1 : ¬ (x < 1 ∨ 99 < x) := fun q => e (hC.mpr (q.elim Or.inl (fun p => Or.inr (Or.inl p))))
    have c2 : I 101 30 + (I 101 31 + x) / 24 ≤ 999 := Classical.byContradiction fun q => e (hC.mpr (Or.inr (Or.inr q)))
    obtain ⟨h9, hh9, ex⟩ : ∃ h9, h9 ≤ 99 ∧ x = nI h9 := by
      rw [z_lI, z_lI, show (1 : Int32).toInt = 1 by decide, show (99 : Int32).toInt = 99 by decide] at c1
      refine ⟨x.toInt.toNat, by omega, Int32.toInt_inj.mp ?_⟩
      rw [nI_toInt (by omega)]; omega
    obtain ⟨dd, hdd, ed⟩ := hS.2.2.2.2.2.2.2.2.2.2.1
    obtain ⟨hh, hhh, eh⟩ := hD.2.2.2.2.2.2.1
    have eh' : I 101 31 = nI hh := eh
    obtain ⟨q1, q2⟩ := z_hrs (dd := dd) (hh := hh) (h := h9) (by omega) hhh hh9
    have hdn : dd + (hh + h9) / 24 ≤ 999 := by
      rw [ed, eh', ex, q1, show (999 : Int32) = nI 999 from rfl] at c2
      exact (nI_leI (by omega) (by omega)).mp c2
    obtain ⟨J1, e1, j1, j2, fin⟩ := z_keepz ht3 hS hk hk40 hY ⟨fun q => absurd q (by decide), fun q => absurd q (by decide)⟩
    have r30 : J1 101 30 = I 101 30 := j2 30 (by decide) (by decide)
    have r31 : J1 101 31 = I 101 31 := j2 31 (by decide) (by decide)
    generalize hM : am_up (am_up J1 101 30 (I 101 30 + (I 101 31 + x) / 24)) 101 31 ((I 101 31 + x) - (I 101 31 + x) / 24 * 24) = M
    have m1 : ∀ c, c ≠ 101 → M c = J1 c := fun c q => by rw [← hM, am_up_o _ _ _ _ q, am_up_o _ _ _ _ q]
    have m2 : ∀ j, j ≠ 30 → j ≠ 31 → M 101 j = J1 101 j := fun j p1 p2 => by rw [← hM, up_ne p2, up_ne p1]
    have m30 : M 101 30 = I 101 30 + (I 101 31 + x) / 24 := by rw [← hM, up_ne (by decide), up_eq]
    have m31 : M 101 31 = (I 101 31 + x) - (I 101 31 + x) / 24 * 24 := by rw [← hM, up_eq]
    obtain ⟨g3, g4⟩ := fin M (fun c p1 _ _ _ => m1 c p1) m2 (by
        have hd : z_dr M = ((z_dr I).1 + ((z_dr I).2.1 + nI h9) / 24, ((z_dr I).2.1 + nI h9) - ((z_dr I).2.1 + nI h9) / 24 * 24, (z_dr I).2.2) := by
          unfold z_dr
          rw [m30, m31, m1 114 (by decide), m1 118 (by decide), m1 119 (by decide), j1 114 (by decide) (by decide), j1 118 (by decide) (by decide), j1 119 (by decide) (by decide), ex]
        rw [hd]
        have hh2 := z_D_hours hD (dd := dd) (hh := hh) (h9 := h9) ed eh hhh hh9 (by omega)
        unfold z_ac
        rw [if_neg (by decide), if_neg (by decide), if_neg (by decide), ex]
        exact hh2) ⟨dd + (hh + h9) / 24, hdn, by rw [m30, ed, eh', ex, q1]⟩
    refine ⟨M, ?_, g3, g4⟩
    have yv : Y 47 1 = M 101 31 := by
      have h5 := (z_aW ht3 hk40 hY).2.2.2.2.1
      have h5' : Y 47 1 = (z_ac (I (t + 4)) T.1.length 3 x 0 (z_dc I 47)).2.1 := congrArg (fun c : z_Dy => c.2.1) h5
      rw [h5', m31, ← d1]
      unfold z_ac
      rw [if_neg (by decide), if_neg (by decide), if_neg (by decide)]
      rfl
    rw [if_pos (z_is99.mpr c1), if_pos c2, e1]
    simp only [g_bind]
    rw [z_gl, r30, r31, up_ne (show 31 ≠ 30 by decide), r31, z_gl, hM, yv]
theorem z_rpR {I : g_I} {t : Nat} {T : x_T} (ht3 : t = 3 ∨ t = 22) (hn8 : T.1.length ≤ 8) (htw : ∀ k, k < T.1.length → I (t + 4) k = z_tw T k) {kd fi se : Nat → Int32} : ∀ k : Nat, z_dc (f_rep I t T.1.length 42 kd fi se k) 47 = z_rp T (z_dc I 47) kd fi se k ∧ f_rep I t T.1.length 42 kd fi se k (t + 4) = I (t + 4) := by
  intro k
  induction k with
  | zero => exact ⟨rfl, rfl⟩
  | succ k ih =>
    refine ⟨?_, f_rep_o _ _ _ _ _ _ _ _ (by omega)⟩
    show z_dc (f_perf (f_rep I t T.1.length 42 kd fi se k) t T.1.length 47 (kd k) (fi k) (se k)) 47 = z_ac (z_tw T) T.1.length (kd k) (fi k) (se k) (z_rp T (z_dc I 47) kd fi se k)
    rw [z_dcp, ih.1, ih.2]
    exact z_acc hn8 htw _ _ _ _
theorem z_dcpD {I : g_I} {T : x_T} {b o : Nat} (hW : z_W T) (hbo : b + 4 ≤ o ∨ o + 4 ≤ b) : z_eq T (z_dc I o) (z_dc (f_dcp I b o) b) := by
  have h8 := hW.1.1
  have h6 := hW.2.1.1
  have e0 : f_dcp I b o b = upd (upd (I b) 0 (I o 0)) 1 (I o 1) := by unfold f_dcp; rw [am_uA_o _ _ _ (by omega), am_uA_o _ _ _ (by omega), am_uA_o _ _ _ (by omega), am_uA_s]
  have e1 : f_dcp I b o (b + 1) = f_cp 64 (I (o + 1)) (I (b + 1)) := by unfold f_dcp; rw [am_uA_o _ _ _ (by omega), am_uA_o _ _ _ (by omega), am_uA_s]
  have e2 : f_dcp I b o (b + 2) = f_cp 6 (I (o + 2)) (I (b + 2)) := by unfold f_dcp; rw [am_uA_o _ _ _ (by omega), am_uA_s]
  have e4 : f_dcp I b o (b + 3) = f_cp 8 (I (o + 3)) (I (b + 3)) := by unfold f_dcp; rw [am_uA_s]
  refine ⟨?_, ?_, fun x y hx hy => ?_, fun l hl => ?_, fun p hp => ?_⟩
  · show f_dcp I b o b 0 = I o 0
    rw [e0, upd_o (by decide), pk_us]
  · show f_dcp I b o b 1 = I o 1
    rw [e0, pk_us]
  · show f_dcp I b o (b + 1) _ = I (o + 1) _
    rw [e1, f_cp_in (by omega)]
  · show f_dcp I b o (b + 2) _ = I (o + 2) _
    rw [e2, f_cp_in (by omega)]
  · show f_dcp I b o (b + 3) _ = I (o + 3) _
    rw [e4, f_cp_in (by omega)]
theorem z_S_undo {I Y : g_I} {t k : Nat} {T : x_T} (ht3 : t = 3 ∨ t = 22) (hS : z_sim I t T) (hk : I 42 5 = nI k) (hk40 : k ≤ 40) (hY : Y = if k = 0 then I else f_tb I t T.1.length 42 (k - 1)) : ∃ J, b_X11_undo Y = some (if k = 0 then -1 else nI (k - 1), J) ∧ z_sim J t T ∧ J 101 2 = 0 := by
  have h8 := hS.1.1.1
  have h6 := hS.1.2.1.1
  obtain ⟨k9, q1, q2, q3, q4, q5, q6, q7⟩ := hS.2.2.2.1
  have q2' : I 42 5 = nI k9 := q2
  have ek : k9 = k := (nI_eq (by omega) (by omega)).mp (q2'.symm.trans hk)
  subst ek
  unfold b_X11_undo
  by_cases c : k9 = 0
  · rw [if_pos c] at hY
    rw [if_pos c, hY, z_gl]
    refine ⟨am_up I 101 2 0, ?_, z_J0 ht3 hS, up_eq⟩
    rw [up_ne (show 32 ≠ 2 by decide), q3, c, if_pos (show nI 0 = 0 from rfl)]
  · rw [if_neg c] at hY
    rw [if_neg c, z_gl]
    generalize hP : f_dcp (am_uA I 42 (upd (I 42) 5 (nI (k9 - 1)))) 47 43 = P
    have hY2 : Y = f_rep P t T.1.length 42 (I 51) (I 52) (I 53) (k9 - 1) := by rw [hY, ← hP]; rfl
    have oP : ∀ a, a ≠ 42 → (a < 47 ∨ 51 ≤ a) → P a = I a := fun a p1 p2 => by rw [← hP, f_dcp_o _ _ _ (by omega), am_uA_o _ _ _ p1]
    have oY : ∀ a, a ≠ 42 → (a < 47 ∨ 51 ≤ a) → Y a = I a := fun a p1 p2 => by rw [hY2, f_rep_o _ _ _ _ _ _ _ _ (by omega), oP a p1 p2]
    have y42 : Y 42 5 = nI (k9 - 1) := by rw [hY2, f_rep_o _ _ _ _ _ _ _ _ (by omega), ← hP, f_dcp_o _ _ _ (by omega), am_uA_s, pk_us]
    have e32 : am_up Y 101 2 0 101 32 = nI k9 := by rw [up_ne (by decide), oY 101 (by decide) (by decide)]; exact q3
    have hpm : nI k9 - 1 = nI (k9 - 1) := by rw [show (1 : Int32) = nI 1 from rfl, nI_subI (by omega)]
    have h80 : (80 : Int32) * nI (k9 - 1) = nI (80 * (k9 - 1)) := by rw [show (80 : Int32) = nI 80 from rfl, pk_mul]
    generalize hM : am_up (am_up Y 101 2 0) 101 32 (nI (k9 - 1)) = M
    have m1 : ∀ a, a ≠ 101 → M a = Y a := fun a p => by rw [← hM, am_up_o _ _ _ _ p, am_up_o _ _ _ _ p]
    have m2 : ∀ j, j ≠ 32 → j ≠ 2 → M 101 j = I 101 j := fun j p1 p2 => by rw [← hM, up_ne p1, up_ne p2, oY 101 (by decide) (by decide)]
    have m3 : M 101 32 = nI (k9 - 1) := by rw [← hM, up_eq]
    have m4 : M 101 2 = 0 := by rw [← hM, up_ne (by decide), up_eq]
    obtain ⟨K, e, u1, u2, u3, u4, u5, u6, u7⟩ := z_unpack (I := M) (c := 120) (n := 3200) (o := 80 * (k9 - 1)) (by decide) (by omega) (by decide)
    have m120 : M 120 = I 120 := by rw [m1 120 (by decide), oY 120 (by decide) (by decide)]
    have r1 : ∀ a, a < 101 → K a = Y a := fun a p => by rw [u1 a (by omega) (by omega) (by omega) (by omega), m1 a (by omega)]
    have r2 : ∀ a, 102 ≤ a → a ≠ 114 → a ≠ 118 → a ≠ 119 → K a = I a := fun a p p1 p2 p3 => by rw [u1 a (by omega) p1 p2 p3, m1 a (by omega), oY a (by omega) (by omega)]
    have r3 : ∀ a, a ≠ 42 → (a < 47 ∨ (51 ≤ a ∧ a < 101)) → K a = I a := fun a p1 p2 => by rw [r1 a (by omega), oY a p1 (by omega)]
    have r4 : ∀ x, x ≠ 30 → x ≠ 31 → x ≠ 32 → x ≠ 2 → K 101 x = I 101 x := fun x p1 p2 p3 p4 => by rw [u2 x p1 p2, m2 x p3 p4]
    have k32 : K 101 32 = nI (k9 - 1) := by rw [u2 32 (by decide) (by decide), m3]
    have hrow : z_eq T (z_dp (I 120) (80 * (k9 - 1))) (z_dr K) := by
      refine ⟨by show K 101 30 = _; rw [u3, m120]; rfl, by show K 101 31 = _; rw [u4, m120]; rfl, fun a b ha hb => ?_, fun l hl => ?_, fun p hp => ?_⟩
      · show K 114 (8 * a + b) = _
        rw [u5, if_pos (by omega), m120]; rfl
      · show K 118 l = _
        rw [u6, if_pos (by omega), m120]; rfl
      · show K 119 p = _
        rw [u7, if_pos (by omega), m120]; rfl
    have n9 := hS.2.2.2.2.2.2.2.2.2.2
    refine ⟨K, ?_, ⟨hS.1, k_tw_o hS.2.1 (fun a p1 p2 => r3 a (by omega) (by omega)), z_R_o hS.2.2.1 (fun a p1 p2 p3 => r2 a (by omega) p3 (by omega) (by omega)), ?_, z_Cl_o hS.2.2.2.2.1 (by rw [r3 41 (by omega) (by omega)]) (by rw [r3 41 (by omega) (by omega)]) (r4 33 (by decide) (by decide) (by decide) (by decide)) (r4 34 (by decide) (by decide) (by decide) (by decide)) (fun a p1 p2 => r3 a (by omega) (by omega)) (fun a p1 p2 => r2 a (by omega) (by omega) (by omega) (by omega)), fun j hj => ?_, z_tp_o hS.2.2.2.2.2.2.1 (by rw [r3 1 (by omega) (by omega)]) (r4 17 (by decide) (by decide) (by decide) (by decide)) (r3 2 (by omega) (by omega)) (r2 117 (by decide) (by decide) (by decide) (by decide)), ?_, z_sW_o hS.2.2.2.2.2.2.2.2.1 (by rw [r3 0 (by omega) (by omega)]) (r4 45 (by decide) (by decide) (by decide) (by decide)) (r3 89 (by omega) (by omega)) (r2 127 (by decide) (by decide) (by decide) (by decide)), z_sG_o hS.2.2.2.2.2.2.2.2.2.1 (fun a p1 p2 => r3 a (by omega) (by omega)) (fun k p1 p2 => r4 k (by omega) (by omega) (by omega) (by omega)) (fun a p1 p2 => r2 a (by omega) (by omega) (by omega) (by omega)) (by rw [r3 0 (by omega) (by omega)]), ?_, fun k2' j p1 p2 p3 => ?_, ?_, ?_⟩, by rw [u2 2 (by decide) (by decide), m4]⟩
    · rw [e32, if_neg (show ¬ nI k9 = 0 from fun q => c ((nI_eq (a := k9) (b := 0) (by omega) (by omega)).mp q)), z_gl, hpm, hM, m3, h80, e]
      simp only [g_bind]
      rw [k32]
    · unfold z_sS
      rw [z_sy_o (I := Y) (J := K) (s := 42) (fun a p1 p2 => r1 a (by omega)), k32, r2 120 (by decide) (by decide) (by decide) (by decide)]
      have hb : z_dc Y 43 = z_dc I 43 := by
        unfold z_dc
        rw [oY 43 (by decide) (by decide), oY (43 + 1) (by decide) (by decide), oY (43 + 2) (by decide) (by decide), oY (43 + 3) (by decide) (by decide)]
      have htP : ∀ k, k < T.1.length → P (t + 4) k = z_tw T k := fun k hk => by rw [oP (t + 4) (by omega) (by omega)]; exact (hS.2.1.1.2.2 k hk).2.2.2
      have hn := (z_rpR (I := P) ht3 h8 htP (kd := I 51) (fi := I 52) (se := I 53) (k9 - 1)).1
      rw [← hY2] at hn
      have hPn : z_eq T (z_dc I 43) (z_dc P 47) := by
        have h1 := z_dcpD (I := am_uA I 42 (upd (I 42) 5 (nI (k9 - 1)))) (b := 47) (o := 43) hS.1 (by omega)
        rw [hP] at h1
        have h2 : z_dc (am_uA I 42 (upd (I 42) 5 (nI (k9 - 1)))) 43 = z_dc I 43 := by
          unfold z_dc
          rw [am_uA_o _ _ _ (by decide), am_uA_o _ _ _ (by decide), am_uA_o _ _ _ (by decide), am_uA_o _ _ _ (by decide)]
        rw [h2] at h1
        exact h1
      have hsy : z_sy Y 42 = (I 51, I 52, I 53, z_dc I 43, z_rp T (z_dc P 47) (I 51) (I 52) (I 53) (k9 - 1), nI (k9 - 1)) := by
        unfold z_sy
        rw [oY (42 + 9) (by decide) (by decide), oY (42 + 10) (by decide) (by decide), oY (42 + 11) (by decide) (by decide), show 42 + 1 = 43 from rfl, show 42 + 5 = 47 from rfl, hb, hn, y42]
      rw [hsy]
      exact ⟨k9 - 1, by omega, rfl, rfl, fun i hi => q4 i (by omega), z_rp_c hS.1.1 hPn _ (fun _ _ => ⟨rfl, rfl, rfl⟩), fun j hj => q6 j (by omega), z_D_c hS.1.1 (q6 (k9 - 1) (by omega)) (z_eq_r T _) hrow⟩
    · rw [r3 54 (by omega) (by omega), r2 116 (by decide) (by decide) (by decide) (by decide)]
      exact hS.2.2.2.2.2.1 j hj
    · rw [r3 0 (by omega) (by omega), r4 26 (by decide) (by decide) (by decide) (by decide)]
      exact hS.2.2.2.2.2.2.2.1
    · rw [u3, m120]
      exact n9.2.1 k9 (k9 - 1) hk40 q3 (by omega)
    · have e2 : k9 - 1 = k2' := (nI_eq (by omega) (by omega)).mp (k32.symm.trans p2)
      rw [r2 120 (by decide) (by decide) (by decide) (by decide)]
      exact n9.2.1 k9 j hk40 q3 (by omega)
    · rw [r2 136 (by decide) (by decide) (by decide) (by decide)]
      exact n9.2.2.1
    · rw [r2 137 (by decide) (by decide) (by decide) (by decide), r4 58 (by decide) (by decide) (by decide) (by decide)]
      exact n9.2.2.2
