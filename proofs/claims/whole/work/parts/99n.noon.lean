/-! PURE: NOON, BOTH WORLDS, THE SEARCH -/
theorem z_S_noonC {I X I2 J : g_I} {t : Nat} {T : x_T} (ht3 : t = 3 ∨ t = 22) (hS : z_sim I t T) {a9 b9 : Nat} (ha : I 47 1 = nI a9) (ha2 : a9 < 24) (hb : T.2.2.2.1.2 = nI b9) (hb2 : b9 ≤ 23) (h : f_bc (f_ub (I 49) T.2.1.length) ≤ 5) (hd : ¬ (¬ f_bc (f_ub (I 49) T.2.1.length) ≤ 0 ∧ ¬ I 47 0 ≤ 0)) (hs : k_sea (f_look I 90 t 47 T.1.length T.2.1.length) I2 J 79 t 47 90 T.1.length T.2.1.length a9 b9) (hX : (J 79 1 = 1000000 ∧ X = J) ∨ (¬ J 79 1 = 1000000 ∧ X = am_up (am_uA J 89 (f_cp 6 (J 80) (J 89))) 0 9 1)) : ∃ K, b_X11_noon X = some (if J 79 1 = 1000000 then -1 else J 79 1, K) ∧ z_sim K t T ∧ K 101 2 = 0 := by
  have h6 := hS.1.2.1.1
  have hc := z_ct_le (fun b => decide (I 118 b = -1)) T.2.1.length
  have hJI : ∀ a, (a < 79 ∨ 89 ≤ a) → a ≠ 91 → a ≠ 92 → J a = I a := fun a h1 h2 h3 => by
    rw [hs.2.2.2.2.1 a (by omega)]
    exact f_look_K _ _ _ _ h2 h3
  have hSJ : z_sim J t T := z_sim_o hS (z_kRa ht3 fun a q => hJI a (by omega) (by omega) (by omega))
  have hXJ : ∀ a, a ≠ 0 → a ≠ 89 → X a = J a := fun a h1 h2 => by
    rcases hX with ⟨-, e⟩ | ⟨-, e⟩
    · rw [e]
    · rw [e, am_up_o _ _ _ _ h1, am_uA_o _ _ _ h2]
  have hXI : ∀ a, 101 ≤ a → X a = I a := fun a h1 => by rw [hXJ a (by omega) (by omega), hJI a (by omega) (by omega) (by omega)]
  rw [z_nco hS] at h hd
  have h5 := (nI_leI (b := 5) (by omega) (by omega)).mp h
  have hR := hS.2.2.1
  obtain ⟨I6, o6, hN⟩ := (z_noonB (X := X) h6 (by rw [hXI 104 (by decide)]; exact hR.2.1.1)).2 (by rw [hXI 118 (by decide)]; exact h5)
  have o6I : ∀ a, 102 ≤ a → a ≠ 128 → I6 a = I a := fun a h1 h2 => by rw [o6 a h2, am_up_o _ _ _ _ (by omega), hXI a (by omega)]
  have o6s : ∀ k, k ≠ 2 → I6 101 k = I 101 k := fun k h1 => by rw [o6 101 (by decide), up_ne h1, hXI 101 (by decide)]
  have hdr : z_dr I6 = z_dr I := by
    unfold z_dr
    rw [o6s 30 (by decide), o6s 31 (by decide), o6I 114 (by decide) (by decide), o6I 118 (by decide) (by decide), o6I 119 (by decide) (by decide)]
  obtain ⟨I9, e9, k9, r9⟩ := z_noon (I := I) (B := I6) ht3 hS.1 hS.2.1 (z_R_o hR fun a q1 q2 _ => o6I a (by omega) (by omega)) (by rw [hdr]; exact z_sim_D hS) ha ha2 hb hb2 (by rw [o6I 118 (by decide) (by decide)]; exact h5) (by
      rintro ⟨b, q1, q2⟩
      rw [o6I 118 (by decide) (by decide)] at q2
      rw [o6s 30 (by decide), ← show I 47 0 = I 101 30 from (z_sim_D hS).1]
      have hpos : 0 < z_ct (fun b => decide (I 118 b = -1)) T.2.1.length := z_ct_p.mpr ⟨b, q1, decide_eq_true q2⟩
      have hle : I 47 0 ≤ 0 := Classical.byContradiction fun q => hd ⟨fun r => by have := (nI_leI (b := 0) (by omega) (by omega)).mp r; omega, q⟩
      obtain ⟨dd, hdd0, ed⟩ := (z_sim_D hS).2.2.2.2.2.1
      have e47 : I 47 0 = nI dd := (z_sim_D hS).1.trans ed
      rw [e47] at hle ⊢
      have hdd : dd < 2 ^ 31 := by omega
      have := (nI_leI (b := 0) hdd (by omega)).mp hle
      rw [show dd = 0 by omega]; rfl) hs (I7 := am_up I6 101 46 0) ⟨fun a h1 _ _ => am_up_o _ _ _ _ h1, fun k _ h2 => up_ne h2⟩ up_eq
  obtain ⟨n1, n2⟩ := hN I9 e9 k9
  rcases r9 with ⟨j1, j2⟩ | ⟨c0, c1, j1, j2, j3, j4⟩
  · have eX : X = J := by rcases hX with ⟨-, e⟩ | ⟨q, -⟩; exact e; exact absurd j1 q
    obtain ⟨K, m1, m2, m3⟩ := n1 j2
    rw [eX] at o6 m3
    obtain ⟨s1, s2⟩ := z_noonN ht3 hSJ o6 k9 m2 m3
    exact ⟨K, by rw [if_pos j1]; exact m1, s1, s2⟩
  · have hne : ¬ J 79 1 = 1000000 := fun q => by
      rw [j1] at q
      have := congrArg Int32.toInt q
      rw [nI_toInt (by omega), show (1000000 : Int32).toInt = 1000000 by decide] at this
      omega
    have eX : X = am_up (am_uA J 89 (f_cp 6 (J 80) (J 89))) 0 9 1 := by rcases hX with ⟨q, -⟩ | ⟨-, e⟩; exact absurd q hne; exact e
    have hK : ∀ a, a ≠ 101 → a ≠ 126 → a ≠ 127 → a ≠ 128 → am_up I9 101 45 1 a = X a := fun a h1 h2 h3 h4 => by rw [am_up_o _ _ _ _ h1, k9.1 a h1 h2 h3, o6 a h4, am_up_o _ _ _ _ h1]
    have hKs : ∀ k, k ≠ 45 → k ≠ 44 → k ≠ 46 → k ≠ 2 → am_up I9 101 45 1 101 k = J 101 k := fun k h1 h2 h3 h4 => by rw [up_ne h1, k9.2 k h2 h3, o6 101 (by decide), up_ne h4, hXJ 101 (by decide) (by decide)]
    have x0 : ∀ k, k ≠ 9 → X 0 k = J 0 k := fun k hk => by rw [eX, up_ne hk, am_uA_o _ _ _ (by decide)]
    have k0 : am_up I9 101 45 1 0 = X 0 := hK 0 (by decide) (by decide) (by decide) (by decide)
    refine ⟨am_up I9 101 45 1, ?_, z_sim_w hSJ ⟨fun a q q1 q2 => ?_, fun k q q1 => ?_, fun k _ => ?_, by rw [k0, x0 3 (by decide)], by rw [k0, x0 6 (by decide)], by rw [hK 1 (by decide) (by decide) (by decide) (by decide), hXJ 1 (by decide) (by decide)]⟩ ht3 ⟨?_, fun _ b hb1 => ?_⟩, by rw [up_ne (by decide), k9.2 2 (by decide) (by decide), o6 101 (by decide), up_eq]⟩
    · rw [if_neg hne, j1, ← j3]
      exact n2 (by rw [j2]; decide)
    · rw [hK a (by unfold z_rel at q; omega) (by unfold z_rel at q; omega) q2 (by unfold z_rel at q; omega)]
      exact hXJ a (by unfold z_rel at q; omega) q1
    · exact hKs k q1 (by unfold z_rsl at q; omega) (by unfold z_rsl at q; omega) (by unfold z_rsl at q; omega)
    · rw [hK 114 (by decide) (by decide) (by decide) (by decide), hXJ 114 (by decide) (by decide)]
    · rw [k0, eX, up_eq, up_eq]
    · rw [hK 89 (by decide) (by decide) (by decide) (by decide), eX, am_up_o _ _ _ _ (show 89 ≠ 0 by decide), am_uA_s, am_up_o _ _ _ _ (show 127 ≠ 101 by decide), ← j4 b hb1]
      exact f_cp_in (by omega)
