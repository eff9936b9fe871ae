/-! PURE: THE ROW KEPT, AND HOW MANY ARE OPEN -/
theorem z_sim127 {I : g_I} {t : Nat} {T : x_T} {f : Nat → Int32} (ht3 : t = 3 ∨ t = 22) (h : z_sim I t T) (hf : ∀ b, b < T.2.1.length → f b = I 127 b) : z_sim (am_uA I 127 f) t T := by
  obtain ⟨hW, hT, hR, hS, hC, hU, hP, hF, hw, hG, h9⟩ := h
  have o : ∀ a, a ≠ 127 → am_uA I 127 f a = I a := fun a h => am_uA_o _ _ _ h
  refine ⟨hW, k_tw_o hT (fun a h1 h2 => o a (by omega)), z_R_o hR (fun a h1 h2 h3 => o a (by omega)), ?_, z_Cl_o hC (by rw [o 41 (by decide)]) (by rw [o 41 (by decide)]) (by rw [o 101 (by decide)]) (by rw [o 101 (by decide)]) (fun a h1 h2 => o a (by omega)) (fun a h1 h2 => o a (by omega)), fun k hk => ?_, ?_, ?_, ?_, ?_, z_s9_o h9 (by rw [o 101 (by decide)]) (o 120 (by decide)) (o 136 (by decide)) (o 137 (by decide)) (by rw [o 101 (by decide)]) (by rw [o 101 (by decide)])⟩
  · unfold z_sS at hS ⊢
    rw [z_sy_o (fun a h1 h2 => o a (by omega)), o 101 (by decide), o 120 (by decide)]
    exact z_So_e hW.1 hS (z_eq_dr hW.1 (by rw [o 101 (by decide)]) (by rw [o 101 (by decide)]) (fun k _ => by rw [o 114 (by decide)]) (o 118 (by decide)) (o 119 (by decide)))
  · rw [o 54 (by decide), o 116 (by decide)]; exact hU k hk
  · unfold z_tp at hP ⊢
    rw [o 1 (by decide), o 101 (by decide), o 117 (by decide), o 2 (by decide)]
    exact hP
  · rw [o 0 (by decide), o 101 (by decide)]; exact hF
  · unfold z_sW at hw ⊢
    rw [o 0 (by decide), o 101 (by decide), o 89 (by decide), am_uA_s]
    exact ⟨hw.1, fun q b hb => (hw.2 q b hb).trans (hf b hb).symm⟩
  · unfold z_sG at hG ⊢
    rw [o 0 (by decide), o 101 (by decide), z_sy_o (fun a h1 h2 => o a (by omega)), o 73 (by decide), o 143 (by decide), o 137 (by decide), o 136 (by decide)]
    refine ⟨hG.1, fun h => ?_⟩
    obtain ⟨g1, g2, g3⟩ := hG.2 h
    exact ⟨g1, z_Cl_o g2 (by rw [o 60 (by decide)]) (by rw [o 60 (by decide)]) (by rw [o 101 (by decide)]) (by rw [o 101 (by decide)]) (fun a h1 h2 => o a (by omega)) (fun a h1 h2 => o a (by omega)), g3⟩
theorem z_ubc {ct : Nat → Int32} {m : Nat} (hm : m ≤ 6) : f_bc (f_ub ct m) = nI (z_ct (fun b => decide (ct b = -1)) m) := by
  have hb : ∀ i, i < 32 → bt (f_ub ct m) i = decide (i < m ∧ ct i = -1) := fun i hi => z_fold (by omega) hi
  obtain ⟨s, hs, e⟩ := z_of (k := m) (x := f_ub ct m) (by omega) (fun i h1 h2 => by rw [hb i h2]; exact decide_eq_false (fun h => by omega))
  have hm2 : 2 ^ m ≤ 1024 := (k_pow1 (by omega)).2
  have h9 : ∀ i, i < m → s.testBit i = decide (ct i = -1) := fun i hi => by
    rw [← z_tb (show i < 32 by omega), ← e, hb i (by omega)]
    by_cases c : ct i = -1
    · rw [decide_eq_true c]; exact decide_eq_true ⟨hi, c⟩
    · rw [decide_eq_false c]; exact decide_eq_false (fun q => c q.2)
  rw [e, z_bc s (by omega), z_pcM (by omega) hs]
  congr 1
  exact z_ct_c h9
