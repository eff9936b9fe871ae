/-! PURE: ACTS, BOTH WORLDS -/
theorem z_actA {I Y : g_I} {t n k : Nat} {kd fi se : Int32} (ht3 : t = 3 ∨ t = 22) (hY : Y = f_act I t n 42 k kd fi se) : (∀ a, (a < 42 ∨ 54 ≤ a) → Y a = I a) ∧ Y 51 = upd (I 51) k kd ∧ Y 52 = upd (I 52) k fi ∧ Y 53 = upd (I 53) k se ∧ z_dc Y 43 = z_dc I 43 ∧ z_dc Y 47 = z_ac (I (t + 4)) n kd fi se (z_dc I 47) ∧ Y 42 5 = nI (k + 1) := by
  generalize hP : am_uA (am_uA (am_uA I 51 (upd (I 51) k kd)) 52 (upd (I 52) k fi)) 53 (upd (I 53) k se) = P
  have hY2 : Y = am_uA (f_perf P t n 47 kd fi se) 42 (upd (I 42) 5 (nI (k + 1))) := by rw [hY, ← hP]; rfl
  have oP : ∀ a, (a < 51 ∨ 54 ≤ a) → P a = I a := fun a q => by rw [← hP, am_uA_o _ _ _ (by omega), am_uA_o _ _ _ (by omega), am_uA_o _ _ _ (by omega)]
  have oY : ∀ a, a ≠ 42 → (a < 47 ∨ 51 ≤ a) → Y a = P a := fun a q1 q2 => by rw [hY2, am_uA_o _ _ _ q1, f_perf_o _ _ _ _ _ _ _ (by omega)]
  refine ⟨fun a q => by rw [oY a (by omega) (by omega), oP a (by omega)], ?_, ?_, ?_, ?_, ?_, ?_⟩
  · rw [oY 51 (by decide) (by decide), ← hP, am_uA_o _ _ _ (by decide), am_uA_o _ _ _ (by decide), am_uA_s]
  · rw [oY 52 (by decide) (by decide), ← hP, am_uA_o _ _ _ (by decide), am_uA_s]
  · rw [oY 53 (by decide) (by decide), ← hP, am_uA_s]
  · unfold z_dc
    rw [oY 43 (by decide) (by decide), oY (43 + 1) (by decide) (by decide), oY (43 + 2) (by decide) (by decide), oY (43 + 3) (by decide) (by decide), oP 43 (by decide), oP (43 + 1) (by decide), oP (43 + 2) (by decide), oP (43 + 3) (by decide)]
  · have h1 : z_dc Y 47 = z_dc (f_perf P t n 47 kd fi se) 47 := by
      unfold z_dc
      rw [hY2, am_uA_o _ _ _ (show 47 ≠ 42 by decide), am_uA_o _ _ _ (show 47 + 1 ≠ 42 by decide), am_uA_o _ _ _ (show 47 + 2 ≠ 42 by decide), am_uA_o _ _ _ (show 47 + 3 ≠ 42 by decide)]
    have h2 : z_dc P 47 = z_dc I 47 := by
      unfold z_dc
      rw [oP 47 (by decide), oP (47 + 1) (by decide), oP (47 + 2) (by decide), oP (47 + 3) (by decide)]
    rw [h1, z_dcp, h2, oP (t + 4) (by omega)]
  · rw [hY2, am_uA_s, pk_us]
theorem z_dropA {I Y : g_I} {t n : Nat} (ht3 : t = 3 ∨ t = 22) (hY : Y = f_drop I t n 42) : (∀ a, (a < 42 ∨ 54 ≤ a) → Y a = I a) ∧ (∀ j, j < 39 → Y 51 j = I 51 (j + 1) ∧ Y 52 j = I 52 (j + 1) ∧ Y 53 j = I 53 (j + 1)) ∧ z_dc Y 43 = z_ac (I (t + 4)) n (I 51 0) (I 52 0) (I 53 0) (z_dc I 43) ∧ z_dc Y 47 = z_dc I 47 := by
  have o : ∀ a, a ≠ 42 → (a < 51 ∨ 53 < a) → Y a = f_perf I t n 43 (I 51 0) (I 52 0) (I 53 0) a := fun a q1 q2 => by
    rw [hY]
    unfold f_drop
    rw [am_uA_o _ _ _ q1, am_uA_o _ _ _ (by omega), am_uA_o _ _ _ (by omega), am_uA_o _ _ _ (by omega)]
  have cp : ∀ (f : Nat → Int32) (j : Nat), j < 39 → va_cpy f f 1 0 39 j = f (j + 1) := fun f j hj => by
    unfold va_cpy
    rw [if_pos (by omega)]
    congr 1
    omega
  refine ⟨fun a q => by rw [hY]; exact f_drop_o _ _ _ _ (by omega), fun j hj => ⟨?_, ?_, ?_⟩, ?_, ?_⟩
  · rw [← cp (I 51) j hj, hY]; unfold f_drop; rw [am_uA_o _ _ _ (by decide), am_uA_o _ _ _ (by decide), am_uA_o _ _ _ (by decide), am_uA_s]
  · rw [← cp (I 52) j hj, hY]; unfold f_drop; rw [am_uA_o _ _ _ (by decide), am_uA_o _ _ _ (by decide), am_uA_s]
  · rw [← cp (I 53) j hj, hY]; unfold f_drop; rw [am_uA_o _ _ _ (by decide), am_uA_s]
  · rw [← z_dcp]
    unfold z_dc
    rw [o 43 (by decide) (by decide), o (43 + 1) (by decide) (by decide), o (43 + 2) (by decide) (by decide), o (43 + 3) (by decide) (by decide)]
  · unfold z_dc
    rw [o 47 (by decide) (by decide), o (47 + 1) (by decide) (by decide), o (47 + 2) (by decide) (by decide), o (47 + 3) (by decide) (by decide), f_perf_o _ _ _ _ _ _ _ (by decide), f_perf_o _ _ _ _ _ _ _ (by decide), f_perf_o _ _ _ _ _ _ _ (by decide), f_perf_o _ _ _ _ _ _ _ (by decide)]
theorem z_aW {I Y : g_I} {t n k : Nat} {kd fi se : Int32} (ht3 : t = 3 ∨ t = 22) (hk40 : k ≤ 40) (hY : Y = f_aW I t n k kd fi se) : (∀ a, (a < 42 ∨ 54 ≤ a) → Y a = I a) ∧
    (∀ i, i < (if k = 40 then 39 else k) → Y 51 i = I 51 (if k = 40 then i + 1 else i) ∧ Y 52 i = I 52 (if k = 40 then i + 1 else i) ∧ Y 53 i = I 53 (if k = 40 then i + 1 else i)) ∧
    (Y 51 (if k = 40 then 39 else k) = kd ∧ Y 52 (if k = 40 then 39 else k) = fi ∧ Y 53 (if k = 40 then 39 else k) = se) ∧
    z_dc Y 43 = (if k = 40 then z_ac (I (t + 4)) n (I 51 0) (I 52 0) (I 53 0) (z_dc I 43) else z_dc I 43) ∧ z_dc Y 47 = z_ac (I (t + 4)) n kd fi se (z_dc I 47) ∧ Y 42 5 = nI ((if k = 40 then 39 else k) + 1) := by
  unfold f_aW at hY
  by_cases c : k = 40
  · rw [if_pos c] at hY
    simp only [if_pos c]
    obtain ⟨d1, d2, d3, d4⟩ := z_dropA (I := I) (n := n) ht3 rfl
    obtain ⟨a1, a2, a3, a4, a5, a6, a7⟩ := z_actA ht3 hY
    refine ⟨fun a q => by rw [a1 a q, d1 a q], fun i hi => ?_, ?_, by rw [a5, d3], by rw [a6, d4, d1 (t + 4) (by omega)], a7⟩
    · rw [a2, a3, a4, upd_o (by omega), upd_o (by omega), upd_o (by omega)]
      exact d2 i hi
    · rw [a2, a3, a4, pk_us, pk_us, pk_us]
      exact ⟨rfl, rfl, rfl⟩
  · rw [if_neg c] at hY
    simp only [if_neg c]
    obtain ⟨a1, a2, a3, a4, a5, a6, a7⟩ := z_actA ht3 hY
    refine ⟨a1, fun i hi => ?_, ?_, a5, a6, a7⟩
    · rw [a2, a3, a4, upd_o (by omega), upd_o (by omega), upd_o (by omega)]
      exact ⟨rfl, rfl, rfl⟩
    · rw [a2, a3, a4, pk_us, pk_us, pk_us]
      exact ⟨rfl, rfl, rfl⟩
/-- the class has acted, the reference keeps what was; then it acts likewise -/
theorem z_keepz {I Y : g_I} {t k : Nat} {T : x_T} {kd fi se : Int32} (ht3 : t = 3 ∨ t = 22) (hS : z_sim I t T) (hk : I 42 5 = nI k) (hk40 : k ≤ 40) (hY : Y = f_aW I t T.1.length k kd fi se) (ho : (kd = 0 → vp_in se 6) ∧ (kd = 1 → vp_in se 8)) : ∃ J1, b_X11_keep (am_up Y 101 2 0) = some J1 ∧ (∀ a, 102 ≤ a → a ≠ 120 → J1 a = I a) ∧ (∀ x, x ≠ 32 → x ≠ 2 → J1 101 x = I 101 x) ∧
    ∀ K : g_I, (∀ a, a ≠ 101 → a ≠ 114 → a ≠ 118 → a ≠ 119 → K a = J1 a) → (∀ j, j ≠ 30 → j ≠ 31 → K 101 j = J1 101 j) → z_D T (z_ac (z_tw T) T.1.length kd fi se (z_dc I 47)) (z_dr K) → z_9 (K 101 30) → z_sim K t T ∧ K 101 2 = 0 := by
  have h8 := hS.1.1.1
  have h6 := hS.1.2.1.1
  obtain ⟨y1, y2, y3, y4, y5, y6⟩ := z_aW ht3 hk40 hY
  obtain ⟨k9, q1, q2, q3, -⟩ := hS.2.2.2.1
  have q2' : I 42 5 = nI k9 := q2
  have ek : k9 = k := (nI_eq (by omega) (by omega)).mp (q2'.symm.trans hk)
  subst ek
  have j0 : ∀ a, 102 ≤ a → am_up Y 101 2 0 a = I a := fun a q => by rw [am_up_o _ _ _ _ (by omega), y1 a (by omega)]
  have j0s : ∀ x, x ≠ 2 → am_up Y 101 2 0 101 x = I 101 x := fun x q => by rw [up_ne q, y1 101 (by omega)]
  obtain ⟨J1, e, k1, k2, k3, k4, k5⟩ := z_keep (I := am_up Y 101 2 0) (k := k9) (by rw [j0s 32 (by decide)]; exact q3) hk40
  have hpk : ∀ j, z_pk (am_up Y 101 2 0) j = z_pk I j := fun j => by
    unfold z_pk
    rw [j0s 30 (by decide), j0s 31 (by decide), j0 114 (by decide), j0 118 (by decide), j0 119 (by decide)]
  refine ⟨J1, e, fun a p1 p2 => by rw [k1 a (by omega) p2, j0 a p1], fun x p1 p2 => by rw [k2 x p1, j0s x p2], fun K K1 K2 hD h9 => ?_⟩
  have r1 : ∀ a, a < 101 → K a = Y a := fun a p => by rw [K1 a (by omega) (by omega) (by omega) (by omega), k1 a (by omega) (by omega), am_up_o _ _ _ _ (by omega)]
  have r2 : ∀ a, 102 ≤ a → a ≠ 114 → a ≠ 118 → a ≠ 119 → a ≠ 120 → K a = I a := fun a p p1 p2 p3 p4 => by rw [K1 a (by omega) p1 p2 p3, k1 a (by omega) p4, j0 a p]
  have r3 : ∀ a, (a < 42 ∨ (54 ≤ a ∧ a < 101)) → K a = I a := fun a p => by rw [r1 a (by omega), y1 a (by omega)]
  have r4 : ∀ x, x ≠ 30 → x ≠ 31 → x ≠ 32 → x ≠ 2 → K 101 x = I 101 x := fun x p1 p2 p3 p4 => by rw [K2 x p1 p2, k2 x p3, j0s x p4]
  have hK120 : K 120 = J1 120 := K1 120 (by decide) (by decide) (by decide) (by decide)
  have htw : ∀ k, k < T.1.length → I (t + 4) k = z_tw T k := fun k hk => (hS.2.1.1.2.2 k hk).2.2.2
  have hk' : (if k9 = 40 then 39 else k9) ≤ 39 := by
    by_cases c : k9 = 40
    · rw [if_pos c]; omega
    · rw [if_neg c]; omega
  refine ⟨⟨hS.1, k_tw_o hS.2.1 (fun a p1 p2 => r3 a (by omega)), z_R_o hS.2.2.1 (fun a p1 p2 p3 => r2 a (by omega) p3 (by omega) (by omega) (by omega)), ?_, z_Cl_o hS.2.2.2.2.1 (by rw [r3 41 (by omega)]) (by rw [r3 41 (by omega)]) (r4 33 (by decide) (by decide) (by decide) (by decide)) (r4 34 (by decide) (by decide) (by decide) (by decide)) (fun a p1 p2 => r3 a (by omega)) (fun a p1 p2 => r2 a (by omega) (by omega) (by omega) (by omega) (by omega)), fun j hj => ?_, z_tp_o hS.2.2.2.2.2.2.1 (by rw [r3 1 (by omega)]) (r4 17 (by decide) (by decide) (by decide) (by decide)) (r3 2 (by omega)) (r2 117 (by decide) (by decide) (by decide) (by decide) (by decide)), ?_, z_sW_o hS.2.2.2.2.2.2.2.2.1 (by rw [r3 0 (by omega)]) (r4 45 (by decide) (by decide) (by decide) (by decide)) (r3 89 (by omega)) (r2 127 (by decide) (by decide) (by decide) (by decide) (by decide)), z_sG_o hS.2.2.2.2.2.2.2.2.2.1 (fun a p1 p2 => r3 a (by omega)) (fun k p1 p2 => r4 k (by omega) (by omega) (by omega) (by omega)) (fun a p1 p2 => r2 a (by omega) (by omega) (by omega) (by omega) (by omega)) (by rw [r3 0 (by omega)]), h9, fun k2' j p1 p2 p3 => ?_, ?_, ?_⟩, ?_⟩
  · unfold z_sS
    rw [z_sy_o (I := Y) (J := K) (s := 42) (fun a p1 p2 => r1 a (by omega))]
    refine z_So_act (s := z_sy I 42) (s' := z_sy Y 42) (rk := I 101 32) (past := I 120) (rn := z_dr I) (kd := kd) (fi := fi) (se := se) (k := k9) hS.1.1 h6 hS.2.2.2.1 q2 hk40 ho y2 y3 ?_ ?_ y6 ?_ ?_ ?_ hD
    · show z_eq T _ (z_dc Y 43)
      rw [y4]
      by_cases c : k9 = 40
      · rw [if_pos c, if_pos c, ← z_acc h8 htw]
        exact z_eq_r T _
      · rw [if_neg c, if_neg c]
        exact z_eq_r T _
    · show z_eq T _ (z_dc Y 47)
      rw [y5, ← z_acc h8 htw]
      exact z_eq_r T _
    · rw [K2 32 (by decide) (by decide), k3]
    · intro j hj
      rw [hK120, k4 j hj, j0 120 (by decide)]
    · have hr : ∀ j, j < 80 → K 120 (80 * (if k9 = 40 then 39 else k9) + j) = z_pk I j := fun j hj => by rw [hK120, k5 j hj, hpk]
      refine ⟨hr 0 (by decide), hr 1 (by decide), fun a b ha hb => ?_, fun l hl => ?_, fun p hp => ?_⟩
      · show K 120 (80 * (if k9 = 40 then 39 else k9) + 2 + (8 * a + b)) = I 114 (8 * a + b)
        rw [Nat.add_assoc, hr _ (by omega)]
        unfold z_pk
        rw [if_neg (by omega), if_neg (by omega), if_pos (by omega)]
        congr 1
        omega
      · show K 120 (80 * (if k9 = 40 then 39 else k9) + 66 + l) = I 118 l
        rw [Nat.add_assoc, hr _ (by omega)]
        unfold z_pk
        rw [if_neg (by omega), if_neg (by omega), if_neg (by omega), if_pos (by omega)]
        congr 1
        omega
      · show K 120 (80 * (if k9 = 40 then 39 else k9) + 72 + p) = I 119 p
        rw [Nat.add_assoc, hr _ (by omega)]
        unfold z_pk
        rw [if_neg (by omega), if_neg (by omega), if_neg (by omega), if_neg (by omega)]
        congr 1
        omega
  · rw [r3 54 (by omega), r2 116 (by decide) (by decide) (by decide) (by decide) (by decide)]
    exact hS.2.2.2.2.2.1 j hj
  · rw [r3 0 (by omega), r4 26 (by decide) (by decide) (by decide) (by decide)]
    exact hS.2.2.2.2.2.2.2.1
  · have e2 : (if k9 = 40 then 39 else k9) + 1 = k2' := (nI_eq (by omega) (by omega)).mp (by rw [← p2, K2 32 (by decide) (by decide), k3])
    obtain ⟨n1, n2, n3, n4⟩ := hS.2.2.2.2.2.2.2.2.2.2
    rw [hK120]
    by_cases c : j < (if k9 = 40 then 39 else k9)
    · rw [k4 (80 * j) (by omega), j0 120 (by decide)]
      by_cases c2 : k9 = 40
      · rw [if_pos c2]
        rw [if_pos c2] at c
        exact n2 k9 (j + 1) hk40 q3 (by omega)
      · rw [if_neg c2]
        rw [if_neg c2] at c
        exact n2 k9 j hk40 q3 c
    · rw [show 80 * j = 80 * (if k9 = 40 then 39 else k9) + 0 by omega, k5 0 (by decide), hpk]
      exact n1
  · rw [r2 136 (by decide) (by decide) (by decide) (by decide) (by decide)]
    exact hS.2.2.2.2.2.2.2.2.2.2.2.2.1
  · rw [r2 137 (by decide) (by decide) (by decide) (by decide) (by decide), r4 58 (by decide) (by decide) (by decide) (by decide)]
    exact hS.2.2.2.2.2.2.2.2.2.2.2.2.2
  · rw [K2 2 (by decide) (by decide), k2 2 (by decide)]
    exact up_eq
theorem z_hinR {I X : g_I} {t : Nat} {T : x_T} (ht3 : t = 3 ∨ t = 22) (hS : z_sim I t T) (hX : X = f_look I 90 t 47 T.1.length T.2.1.length) {a b : Nat} (ha : a < T.1.length) (hb : b < T.2.1.length) : f_hin X t T.1.length a b = z_may T (I 114) (I 101 30) (I 101 31) (I 118 b) a b := by
  obtain ⟨p1, p3, p4, p5⟩ := z_pre ht3 hS hX
  have ho : ∀ a, a ≠ 91 → a ≠ 92 → X a = I a := fun a h1 h2 => by rw [hX]; exact f_look_K _ _ _ _ h1 h2
  have hD := z_sim_D hS
  have d0 : X 47 0 = I 101 30 := by rw [ho 47 (by decide) (by decide)]; exact hD.1
  have d1 : X 47 1 = I 101 31 := by rw [ho 47 (by decide) (by decide)]; exact hD.2.1
  have d2 : X 49 b = I 118 b := by rw [ho 49 (by decide) (by decide)]; exact hD.2.2.2.1 b hb
  have e30 : am_up X 101 2 0 101 30 = I 101 30 := by rw [up_ne (by decide), ho 101 (by decide) (by decide)]
  have e114 : am_up X 101 2 0 114 = I 114 := by rw [am_up_o _ _ _ _ (show 114 ≠ 101 by decide), ho 114 (by decide) (by decide)]
  rw [e30, e114] at p3
  have hTX : k_tw X t T := k_tw_o hS.2.1 fun a h1 h2 => ho a (by omega) (by omega)
  rw [z_hin hS.1.1 hS.1.2.1 hTX (by rw [d0]; exact p3) ha hb, d0, d1, d2]
theorem z_S_cut {I X Y : g_I} {t k : Nat} {T : x_T} (ht3 : t = 3 ∨ t = 22) (hS : z_sim I t T) (hX : X = f_look I 90 t 47 T.1.length T.2.1.length) (hk : I 42 5 = nI k) (hk40 : k ≤ 40) {a b : Nat} (ha : a < T.1.length) (hb : b < T.2.1.length) (hY : Y = if f_hin X t T.1.length a b = 0 then f_aW X t T.1.length k 0 (nI a) (nI b) else f_ref X 1) : ∃ J, b_X11_cut Y (nI a) (nI b) = some (decide (f_hin X t T.1.length a b = 0), J) ∧ z_sim J t T ∧ J 101 2 = 0 := by
  have h8 := hS.1.1.1
  have h6 := hS.1.2.1.1
  have hSX : z_sim X t T := by rw [hX]; exact z_sim_o hS (z_kRl ht3)
  have ho : ∀ a, a ≠ 91 → a ≠ 92 → X a = I a := fun a h1 h2 => by rw [hX]; exact f_look_K _ _ _ _ h1 h2
  have hkX : X 42 5 = nI k := by rw [ho 42 (by decide) (by decide)]; exact hk
  have hh : f_hin X t T.1.length a b = z_may T (X 114) (X 101 30) (X 101 31) (X 118 b) a b := by
    rw [z_hinR ht3 hS hX ha hb, ho 114 (by decide) (by decide), ho 101 (by decide) (by decide), ho 118 (by decide) (by decide)]
  have hY9 : ∀ c, 101 ≤ c → Y c = X c := fun c q => by
    by_cases e : f_hin X t T.1.length a b = 0
    · rw [if_pos e] at hY
      exact (z_aW ht3 hk40 hY).1 c (by omega)
    · rw [if_neg e] at hY
      rw [hY]; exact am_uA_o _ _ _ (by omega)
  have g1 : ∀ c, 102 ≤ c → am_up Y 101 2 0 c = X c := fun c q => by rw [am_up_o _ _ _ _ (by omega), hY9 c (by omega)]
  have g2 : ∀ j, j ≠ 2 → am_up Y 101 2 0 101 j = X 101 j := fun j q => by rw [up_ne q, hY9 101 (by omega)]
  have hR : z_R (am_up Y 101 2 0) T := z_R_o hSX.2.2.1 fun c q1 q2 _ => g1 c (by omega)
  have hm := z_mayNow hS.1.1 hS.1.2.1 hR ha hb
  rw [g1 114 (by decide), g2 30 (by decide), g2 31 (by decide), g1 118 (by decide), ← hh] at hm
  unfold b_X11_cut
  rw [z_gl, if_pos ((z_isP hR.1.1 h8 _).mpr ⟨a, ha, rfl⟩), if_pos ((z_isL hR.2.1.1 h6 _).mpr ⟨b, hb, rfl⟩), hm]
  simp only [g_bind]
  by_cases e : f_hin X t T.1.length a b = 0
  · rw [if_pos e] at hY
    rw [if_pos e, decide_eq_true e]
    obtain ⟨J1, e1, j1, j2, fin⟩ := z_keepz ht3 hSX hkX hk40 hY ⟨fun _ => vp_in_nI (by omega) (by decide), fun q => absurd q (by decide)⟩
    obtain ⟨f1, f2⟩ := fin (am_up J1 118 b (nI a)) (fun c q1 q2 q3 q4 => am_up_o _ _ _ _ q3) (fun j q1 q2 => by rw [am_up_o _ _ _ _ (by decide)]) (by
        have hd : z_dr (am_up J1 118 b (nI a)) = ((z_dr X).1, (z_dr X).2.1, (z_dr X).2.2.1, upd (z_dr X).2.2.2.1 b (nI a), (z_dr X).2.2.2.2) := by
          unfold z_dr
          rw [am_up_o _ _ _ _ (show 101 ≠ 118 by decide), am_up_o _ _ _ _ (show 114 ≠ 118 by decide), am_up_o _ _ _ _ (show 119 ≠ 118 by decide), am_up_s, j1 114 (by decide) (by decide), j1 118 (by decide) (by decide), j1 119 (by decide) (by decide), j2 30 (by decide) (by decide), j2 31 (by decide) (by decide)]
        rw [hd]
        have hc := z_D_cut (z_sim_D hSX) (l := b) ha
        unfold z_ac
        rw [if_pos rfl, nI_clamp (by omega)]
        exact hc) (by rw [am_up_o _ _ _ _ (by decide), j2 30 (by decide) (by decide)]; exact hSX.2.2.2.2.2.2.2.2.2.2.1)
    refine ⟨_, ?_, f1, f2⟩
    rw [e1]
    simp only []
    rw [if_pos (g_in_nI (by omega) (by decide)), z_gl, nI_clamp (by omega)]
  · rw [if_neg e] at hY
    rw [if_neg e, decide_eq_false e]
    obtain ⟨z1, z2⟩ := z_rfz ht3 hSX (k := 1) (by decide) rfl
    rw [← hY] at z1 z2
    exact ⟨_, rfl, z1, z2⟩
theorem z_T_cut {I : g_I} {t : Nat} {T : x_T} (ht3 : t = 3 ∨ t = 22) (hS : z_sim I t T) {p l : Int32} (h : ¬ (k_is p T.1.length ∧ k_is l T.2.1.length)) : ∃ r J, b_X11_cut I p l = some (r, J) ∧ z_sim J t T ∧ J 101 2 = 1 := by
  have h8 := hS.1.1.1
  have h6 := hS.1.2.1.1
  have hR := (z_J0 ht3 hS).2.2.1
  refine ⟨false, am_up (am_up I 101 2 0) 101 2 1, ?_, z_simF ht3 hS 1, up_eq⟩
  unfold b_X11_cut
  rw [z_gl]
  by_cases c1 : b_X11_isPerson (am_up I 101 2 0) p = true
  · rw [if_pos c1]
    by_cases c2 : b_X11_isLoaf (am_up I 101 2 0) l = true
    · exact absurd ⟨(z_isP hR.1.1 h8 _).mp c1, (z_isL hR.2.1.1 h6 _).mp c2⟩ h
    · rw [if_neg c2]; rfl
  · rw [if_neg c1]; rfl
theorem z_S_thank {I Y : g_I} {t k : Nat} {T : x_T} (ht3 : t = 3 ∨ t = 22) (hS : z_sim I t T) (hk : I 42 5 = nI k) (hk40 : k ≤ 40) {a b : Nat} (ha : a < T.1.length) (hb : b < T.1.length) (hY : Y = if nI a = nI b then f_ref I 1 else f_aW I t T.1.length k 1 (nI a) (nI b)) : ∃ J, b_X11_thank Y (nI a) (nI b) = some (if nI a = nI b then -1 else Y 50 b, J) ∧ z_sim J t T ∧ J 101 2 = 0 := by
  have h8 := hS.1.1.1
  have hD := z_sim_D hS
  have h50 : I 50 b = I 119 b := hD.2.2.2.2.1 b hb
  have hY9 : ∀ c, 101 ≤ c → Y c = I c := fun c q => by
    by_cases e : nI a = nI b
    · rw [if_pos e] at hY
      rw [hY]; exact am_uA_o _ _ _ (by omega)
    · rw [if_neg e] at hY
      exact (z_aW ht3 hk40 hY).1 c (by omega)
  have g1 : ∀ c, 102 ≤ c → am_up Y 101 2 0 c = I c := fun c q => by rw [am_up_o _ _ _ _ (by omega), hY9 c (by omega)]
  have hR : z_R (am_up Y 101 2 0) T := z_R_o hS.2.2.1 fun c q1 q2 _ => g1 c (by omega)
  unfold b_X11_thank
  rw [z_gl, if_pos ((z_isP hR.1.1 h8 _).mpr ⟨a, ha, rfl⟩), if_pos ((z_isP hR.1.1 h8 _).mpr ⟨b, hb, rfl⟩)]
  by_cases e : nI a = nI b
  · rw [if_pos e] at hY
    rw [if_pos e, if_pos e, z_rf1]
    obtain ⟨z1, z2⟩ := z_rfz ht3 hS (k := 1) (by decide) rfl
    rw [← hY] at z1 z2
    exact ⟨_, rfl, z1, z2⟩
  · rw [if_neg e] at hY
    rw [if_neg e, if_neg e]
    have hne : a ≠ b := fun q => e (by rw [q])
    have yv : Y 50 b = I 50 b + 1 := by
      have h5 := (z_aW ht3 hk40 hY).2.2.2.2.1
      have h5' : Y 50 = (z_ac (I (t + 4)) T.1.length 1 (nI a) (nI b) (z_dc I 47)).2.2.2.2 := congrArg (fun c : z_Dy => c.2.2.2.2) h5
      rw [h5']
      unfold z_ac
      rw [if_neg (by decide), if_pos rfl, nI_clamp (by omega)]
      exact pk_us
    obtain ⟨J1, e1, j1, j2, fin⟩ := z_keepz ht3 hS hk hk40 hY ⟨fun q => absurd q (by decide), fun _ => vp_in_nI (by omega) (by decide)⟩
    have r30 : J1 101 30 = I 101 30 := j2 30 (by decide) (by decide)
    generalize hM : am_up (am_up J1 114 (8 * a + b) (J1 101 30)) 114 (8 * b + a) (J1 101 30) = M
    have m1 : ∀ c, c ≠ 114 → M c = J1 c := fun c q => by rw [← hM, am_up_o _ _ _ _ q, am_up_o _ _ _ _ q]
    obtain ⟨f1, f2⟩ := fin (am_up M 119 b (M 119 b + 1)) (fun c q1 q2 q3 q4 => by rw [am_up_o _ _ _ _ q4, m1 c q2]) (fun j q1 q2 => by rw [am_up_o _ _ _ _ (by decide), m1 101 (by decide)]) (by
        have hd : z_dr (am_up M 119 b (M 119 b + 1)) = ((z_dr I).1, (z_dr I).2.1, M 114, (z_dr I).2.2.2.1, upd (z_dr I).2.2.2.2 b ((z_dr I).2.2.2.2 b + 1)) := by
          unfold z_dr
          rw [am_up_o _ _ _ _ (show 101 ≠ 119 by decide), am_up_o _ _ _ _ (show 114 ≠ 119 by decide), am_up_o _ _ _ _ (show 118 ≠ 119 by decide), am_up_s, m1 101 (by decide), m1 118 (by decide), m1 119 (by decide), j1 118 (by decide) (by decide), j1 119 (by decide) (by decide), r30, j2 31 (by decide) (by decide)]
        rw [hd]
        obtain ⟨dd, hdd, ed⟩ := hS.2.2.2.2.2.2.2.2.2.2.1
        have hmm : z_mm T (bt (((1 : Int32) <<< (nI a &&& 31)) ||| ((1 : Int32) <<< (nI b &&& 31)))) (I 101 30) (I 114) (M 114) := fun x y hx hy => by
          have hle : I 114 (8 * x + y) ≤ I 101 30 := (hD.2.2.2.2.2.2.2.1 x y hx hy).2.1
          have hmx : g_max (I 114 (8 * x + y)) (I 101 30) = I 101 30 := z_le_a (by rcases z_mxe (I 114 (8 * x + y)) (I 101 30) with g | g <;> rw [g]; exact hle; exact Int32.le_refl _) (z_mxr _ _)
          rw [← hM, z_up2 (by omega) (by omega) (by omega) (by omega), r30, j1 114 (by decide) (by decide), hmx, b_or, b_or, z_one (by omega) (by omega), z_one (by omega) (by omega), z_one (by omega) (by omega), z_one (by omega) (by omega)]
          by_cases c : (x = a ∧ y = b) ∨ (x = b ∧ y = a)
          · rw [if_pos c, if_pos]
            simp only [Bool.or_eq_true, decide_eq_true_eq]
            omega
          · rw [if_neg c, if_neg]
            simp only [Bool.or_eq_true, decide_eq_true_eq]
            omega
        have hm2 := z_D_meet hS.1.1 (tw := z_tw T) (fun _ _ => rfl) hD (S := ((1 : Int32) <<< (nI a &&& 31)) ||| ((1 : Int32) <<< (nI b &&& 31))) (wh := I 101 30) (M' := M 114) (by rw [ed, z_lI, nI_toInt (by omega), show (-100000 : Int32).toInt = -100000 by decide]; omega) (Int32.le_refl _) hmm
        have ht2 := z_D_thank hm2 hb
        unfold z_ac
        rw [if_neg (by decide), if_pos rfl, nI_clamp (by omega), show (z_dc I 47).1 = I 101 30 from hD.1]
        have e47 : (z_dc I 47).1 = I 101 30 := hD.1
        rw [e47] at ht2
        exact ht2) (by rw [am_up_o _ _ _ _ (by decide), m1 101 (by decide), r30]; exact hS.2.2.2.2.2.2.2.2.2.2.1)
    refine ⟨_, ?_, f1, f2⟩
    rw [e1]
    simp only [g_bind]
    rw [z_rmeet (by omega) (by omega), hM]
    simp only []
    rw [if_pos (g_in_nI (by omega) (by decide)), if_pos (g_in_nI (by omega) (by decide)), z_gl, if_pos (g_in_nI (by omega) (by decide)), nI_clamp (by omega), up_eq, yv, h50, m1 119 (by decide), j1 119 (by decide) (by decide)]
theorem z_T_thank {I : g_I} {t : Nat} {T : x_T} (ht3 : t = 3 ∨ t = 22) (hS : z_sim I t T) {p q : Int32} (h : ¬ (k_is p T.1.length ∧ k_is q T.1.length)) : ∃ r J, b_X11_thank I p q = some (r, J) ∧ z_sim J t T ∧ J 101 2 = 1 := by
  have h8 := hS.1.1.1
  have hR := (z_J0 ht3 hS).2.2.1
  refine ⟨0, am_up (am_up I 101 2 0) 101 2 1, ?_, z_simF ht3 hS 1, up_eq⟩
  unfold b_X11_thank
  rw [z_gl]
  by_cases c1 : b_X11_isPerson (am_up I 101 2 0) p = true
  · rw [if_pos c1]
    by_cases c2 : b_X11_isPerson (am_up I 101 2 0) q = true
    · exact absurd ⟨(z_isP hR.1.1 h8 _).mp c1, (z_isP hR.1.1 h8 _).mp c2⟩ h
    · rw [if_neg c2]; rfl
  · rw [if_neg c1]; rfl
