/-! PURE: AFTER A FAIR, WHOM THEY MET -/
theorem z_kaR {T : x_T} (hW : z_W T) {kd tw kn M M' : Nat → Int32} {dy S : Int32} (hk : ∀ k, k < T.1.length → kd k = (z_pp T k).1) (ht : ∀ k, k < T.1.length → tw k = z_tw T k) (hd : ∃ dd, dd ≤ 1059 ∧ dy = nI dd) (hr : ∀ x y, x < T.1.length → y < T.1.length → M (8 * x + y) ≤ dy) (hK : z_KR T M dy kn) (hM : z_mm T (bt S) dy M M') : z_KR T M' dy (fun p => f_ka kd tw kn (nI p) (f_wt tw S T.1.length)) := by
  intro p hp i hi
  have h8 := hW.1.1
  have hmb := z_mb2 hW.1 (co := f_wt tw S T.1.length) hp (ht p hp) hi
  rw [z_wt hW.1 ht (by omega), z_wt hW.1 ht hi] at hmb
  show bt (f_ka kd tw kn (nI p) (f_wt tw S T.1.length)) i = true ↔ _
  unfold f_ka
  rw [nI_clamp (by omega), b_or, Bool.or_eq_true, hK p hp i hi, hk p hp]
  have hif : bt (if (z_pp T p).1 = 2 then 0 else f_mb tw (nI p) (f_wt tw S T.1.length)) i = true ↔ ¬ (z_pp T p).1 = 2 ∧ bt (f_mb tw (nI p) (f_wt tw S T.1.length)) i = true := by
    by_cases e : (z_pp T p).1 = 2
    · rw [if_pos e, b_0]; exact ⟨fun h => Bool.noConfusion h, fun h => absurd e h.1⟩
    · rw [if_neg e]; exact ⟨fun h => ⟨e, h⟩, fun h => h.2⟩
  rw [hif, hmb]
  by_cases hin : i < T.1.length
  · by_cases hip : i = p
    · constructor
      · rintro (h | h)
        · exact absurd hip h.2.1
        · exact absurd (Or.inl hip) h.2.2.2
      · rintro ⟨-, h, -⟩; exact absurd hip h
    · by_cases htw : z_tw T p = nI i
      · constructor
        · rintro (h | h)
          · exact ⟨hin, hip, decide_eq_true (Or.inr (Or.inr (Or.inl htw)))⟩
          · exact absurd (Or.inr htw) h.2.2.2
        · rintro -; exact Or.inl ⟨hin, hip, decide_eq_true (Or.inr (Or.inr (Or.inl htw)))⟩
      · by_cases hb2 : (∃ x, x < T.1.length ∧ z_in T x p ∧ bt S x = true) ∧ ∃ y, y < T.1.length ∧ z_in T y i ∧ bt S y = true
        · have hl := z_ldS_in hW.1 hM hp hin (Ne.symm hip) htw hb2.1 hb2.2
          have hle : z_ld M (z_tw T) p i ≤ dy := by
            obtain ⟨x, y, hx, hy, -, -, e⟩ := z_ld_ex hW.1 M hp hin htw
            rw [e]; exact hr x y hx hy
          have hmx : g_max (z_ld M (z_tw T) p i) dy = dy := z_le_a (by rcases z_mxe (z_ld M (z_tw T) p i) dy with g | g <;> rw [g]; exact hle; exact Int32.le_refl _) (z_mxr _ _)
          rw [hmx] at hl
          obtain ⟨dd, hdd, ed⟩ := hd
          obtain ⟨⟨fo, f1, f2, ef⟩, -⟩ := hW.2.2.1
          have n1 : ¬ dy = -100000 := fun e => by
            have h9 : (nI dd).toInt = (-100000 : Int32).toInt := by rw [← ed, e]
            rw [nI_toInt (by omega)] at h9
            have : (-100000 : Int32).toInt = -100000 := by decide
            omega
          have n2 : ¬ T.2.2.2.1.1 < dy - dy := fun e => by
            rw [Int32.sub_self, ef, z_lI, nI_toInt (by omega)] at e
            have : (0 : Int32).toInt = 0 := by decide
            omega
          unfold z_kn
          rw [decide_eq_true_iff, decide_eq_true_iff, hl]
          constructor
          · rintro (⟨-, -, h⟩ | h)
            · refine ⟨hin, hip, ?_⟩
              rcases h with h | h | h | h
              · exact Or.inl h
              · exact Or.inr (Or.inl h)
              · exact Or.inr (Or.inr (Or.inl h))
              · exact Or.inr (Or.inr (Or.inr ⟨h.1, n1, n2⟩))
            · exact ⟨hin, hip, Or.inr (Or.inr (Or.inr ⟨h.1, n1, n2⟩))⟩
          · rintro ⟨-, -, h⟩
            rcases h with h | h | h | h
            · exact absurd h.symm hip
            · exact Or.inl ⟨hin, hip, Or.inr (Or.inl h)⟩
            · exact absurd h htw
            · exact Or.inr ⟨h.1, ⟨hp, hb2.1⟩, ⟨hin, hb2.2⟩, fun h => h.elim hip htw⟩
        · have hl := z_ldS_out hW.1 hM hp hin htw hb2
          unfold z_kn
          rw [hl]
          exact ⟨fun h => h.elim id fun h => absurd ⟨h.2.1.2, h.2.2.1.2⟩ hb2, Or.inl⟩
  · exact ⟨fun h => h.elim (fun h => absurd h.1 hin) fun h => absurd h.2.2.1.1 hin, fun h => absurd h.1 hin⟩
theorem z_isBalked {J : g_I} {T : x_T} (hW : z_W T) (hR : z_R J T) {k : Nat} (hk : J 101 34 = nI k) (hk4 : k ≤ 4) (hB : ∀ j, j < k → (∃ p, p < T.1.length ∧ J 134 j = nI p) ∧ ∃ l, l < T.2.1.length ∧ J 135 j = nI l) : b_X11_isBalked J = some (lall (fun j => z_ke T (J 114) (J 101 30) (J 134 j).toNatClampNeg (z_es T (J 135 j).toNatClampNeg)) k) := by
  unfold b_X11_isBalked
  have h := z_lpx (F := fun f (s : Int32) => b_X11_isBalked_L2 J (fun _ => some true) f s) (K := fun _ => some true) (N := k) (fun i s => s = nI i ∧ ∀ j, j < i → z_ke T (J 114) (J 101 30) (J 134 j).toNatClampNeg (z_es T (J 135 j).toNatClampNeg) = true) (fun o => o = some false ∧ lall (fun j => z_ke T (J 114) (J 101 30) (J 134 j).toNatClampNeg (z_es T (J 135 j).toNatClampNeg)) k = false)
    (fun f s hP => by
      show b_X11_isBalked_L2 J (fun _ => some true) (f + 1) s = some true
      unfold b_X11_isBalked_L2
      rw [hk, hP.1, if_pos (Int32.le_refl _)])
    (fun f i s hi hP => by
      obtain ⟨⟨p, hp, ep⟩, l, hl, el⟩ := hB i hi
      have hstep : b_X11_isBalked_L2 J (fun _ => some true) (f + 1) s = if z_ke T (J 114) (J 101 30) p (z_es T l) = true then b_X11_isBalked_L2 J (fun _ => some true) f (nI (i + 1)) else some false := by
        conv => lhs; unfold b_X11_isBalked_L2
        rw [hk, hP.1, if_neg (nI_ge hi (by omega)), if_pos (g_in_nI (by omega) (by decide)), if_pos (g_in_nI (by omega) (by decide)), nI_clamp (by omega), ep, el, z_knowsEater hW.1 hR.1 hR.2.2.1 hW.2.1 hR.2.1 hp hl, nI_1]
        rfl
      have h8 := hW.1.1
      have h6 := hW.2.1.1
      cases e : z_ke T (J 114) (J 101 30) p (z_es T l)
      · refine Or.inr ⟨?_, ?_⟩
        · show b_X11_isBalked_L2 J (fun _ => some true) (f + 1) s = some false
          rw [hstep, e]; rfl
        · refine lall_no hi ?_
          show z_ke T (J 114) (J 101 30) (J 134 i).toNatClampNeg (z_es T (J 135 i).toNatClampNeg) = false
          rw [ep, el, nI_clamp (by omega), nI_clamp (by omega), e]
      · refine Or.inl ⟨nI (i + 1), ?_, rfl, fun j hj => ?_⟩
        · show b_X11_isBalked_L2 J (fun _ => some true) (f + 1) s = b_X11_isBalked_L2 J (fun _ => some true) f (nI (i + 1))
          rw [hstep, e]; rfl
        · by_cases ej : j = i
          · rw [ej, ep, el, nI_clamp (by omega), nI_clamp (by omega), e]
          · exact hP.2 j (by omega))
    k fu 0 0 (by omega) (by unfold fu; omega) ⟨rfl, fun j hj => absurd hj (Nat.not_lt_zero j)⟩
  rcases h with ⟨s, e, -, h2⟩ | ⟨e, h2⟩
  · rw [show b_X11_isBalked_L2 J (fun _ => some true) fu 0 = some true from e, lall_iff.mpr h2]
  · rw [show b_X11_isBalked_L2 J (fun _ => some true) fu 0 = some false from e, h2]
/-- one couple met today -/
theorem z_mm2 {T : x_T} (hW : z_Wp T) {J : g_I} {dy : Int32} (hr : ∀ x y, x < T.1.length → y < T.1.length → J 114 (8 * x + y) ≤ dy) {a b : Nat} (ha : a < T.1.length) (hb : b < T.1.length) (hab : a ≠ b) : z_mm T (bt (((1 : Int32) <<< (nI a &&& 31)) ||| ((1 : Int32) <<< (nI b &&& 31)))) dy (J 114) (am_up (am_up J 114 (8 * a + b) dy) 114 (8 * b + a) dy 114) := by
  have h8 := hW.1
  intro x y hx hy
  have hS : ∀ z, z < T.1.length → (bt (((1 : Int32) <<< (nI a &&& 31)) ||| ((1 : Int32) <<< (nI b &&& 31))) z = true ↔ z = a ∨ z = b) := fun z hz => by
    rw [b_or, z_one (by omega) (by omega), z_one (by omega) (by omega), Bool.or_eq_true, decide_eq_true_iff, decide_eq_true_iff]
  have hmx : g_max (J 114 (8 * x + y)) dy = dy := z_le_a (by rcases z_mxe (J 114 (8 * x + y)) dy with g | g <;> rw [g]; exact hr x y hx hy; exact Int32.le_refl _) (z_mxr _ _)
  rw [z_up2 (by omega) (by omega) (by omega) (by omega), hmx]
  by_cases e : (x = a ∧ y = b) ∨ (x = b ∧ y = a)
  · rw [if_pos e, if_pos ⟨by omega, (hS x hx).mpr (by omega), (hS y hy).mpr (by omega)⟩]
  · rw [if_neg e, if_neg (fun h => by have h1 := (hS x hx).mp h.2.1; have h2 := (hS y hy).mp h.2.2; have h3 := h.1; omega)]
theorem z_up4 {J : g_I} {a b : Nat} {d : Int32} (hs : J 114 (8 * b + a) = J 114 (8 * a + b)) : am_up (am_up (am_up (am_up J 114 (8 * a + b) d) 114 (8 * b + a) d) 114 (8 * a + b) (J 114 (8 * a + b))) 114 (8 * b + a) (J 114 (8 * a + b)) = J := by
  funext c
  by_cases e : c = 114
  · subst e
    rw [am_up_s, am_up_s, am_up_s, am_up_s]
    funext k
    by_cases e1 : k = 8 * b + a
    · rw [e1, pk_us, hs]
    · rw [upd_o e1]
      by_cases e2 : k = 8 * a + b
      · rw [e2, pk_us]
      · rw [upd_o e2, upd_o e1, upd_o e2]
  · rw [am_up_o _ _ _ _ e, am_up_o _ _ _ _ e, am_up_o _ _ _ _ e, am_up_o _ _ _ _ e]
theorem z_hasK {T : x_T} (hW : z_Wp T) {M kn : Nat → Int32} {dy : Int32} (hK : z_KR T M dy kn) {a b : Nat} (ha : a < T.1.length) (hb : b < T.1.length) (hab : a ≠ b) : f_has (kn a) (nI b) = z_kn T M dy a b := by
  have h8 := hW.1
  rw [z_has (by omega), Bool.eq_iff_iff, hK a ha b (by omega)]
  exact ⟨fun h => h.2.2, fun h => ⟨hb, Ne.symm hab, h⟩⟩
theorem z_ebal {J : g_I} {T : x_T} (hW : z_W T) (hR : z_R J T) (hd : z_dok T (z_dr J)) {kd tw kn eb bp bl : Nat → Int32} (hkd : ∀ k, k < T.1.length → kd k = (z_pp T k).1) (ht : ∀ k, k < T.1.length → tw k = z_tw T k) (hK : z_KR T (J 114) (J 101 30) kn) (heb : ∀ l, l < T.2.1.length → eb l = x_bits (z_es T l)) {k : Nat} (hk : J 101 34 = nI k) (hk4 : k ≤ 4) (hB : ∀ j, j < k → bp j = J 134 j ∧ bl j = J 135 j ∧ (∃ p, p < T.1.length ∧ J 134 j = nI p) ∧ ∃ l, l < T.2.1.length ∧ J 135 j = nI l) {a b : Nat} (ha : a < T.1.length) (hb : b < T.1.length) (hab : a ≠ b) : b_X11_isBalked (am_up (am_up J 114 (8 * a + b) (J 101 30)) 114 (8 * b + a) (J 101 30)) = some (f_eb kd tw kn eb bp bl (f_wt tw (((1 : Int32) <<< (nI a &&& 31)) ||| ((1 : Int32) <<< (nI b &&& 31))) T.1.length) k) := by
  have h8 := hW.1.1
  have h6 := hW.2.1.1
  have ho : ∀ c, c ≠ 114 → am_up (am_up J 114 (8 * a + b) (J 101 30)) 114 (8 * b + a) (J 101 30) c = J c := fun c h => by rw [am_up_o _ _ _ _ h, am_up_o _ _ _ _ h]
  have hr : ∀ x y, x < T.1.length → y < T.1.length → J 114 (8 * x + y) ≤ J 101 30 := fun x y hx hy => (hd.2.2.1 x y hx hy).2.1
  have hka := z_kaR hW hkd ht hd.1 hr hK (z_mm2 hW.1 hr ha hb hab)
  rw [z_isBalked hW (z_R_o hR fun c _ _ h => ho c h) (k := k) (by rw [ho 101 (by decide)]; exact hk) hk4 (by rw [ho 134 (by decide), ho 135 (by decide)]; exact fun j hj => (hB j hj).2.2)]
  congr 1
  unfold f_eb
  rw [Bool.eq_iff_iff, lall_iff, lall_iff]
  refine forall_congr' fun j => forall_congr' fun hj => ?_
  obtain ⟨b1, b2, ⟨p, hp, ep⟩, l, hl, el⟩ := hB j hj
  have h := z_keC hW.1 hka (hW.2.1.2 l hl).2.2.2.2 hp
  show z_ke T (am_up (am_up J 114 (8 * a + b) (J 101 30)) 114 (8 * b + a) (J 101 30) 114) (am_up (am_up J 114 (8 * a + b) (J 101 30)) 114 (8 * b + a) (J 101 30) 101 30) (am_up (am_up J 114 (8 * a + b) (J 101 30)) 114 (8 * b + a) (J 101 30) 134 j).toNatClampNeg (z_es T (am_up (am_up J 114 (8 * a + b) (J 101 30)) 114 (8 * b + a) (J 101 30) 135 j).toNatClampNeg) = true ↔ decide (¬ f_ka kd tw kn (bp j) (f_wt tw (((1 : Int32) <<< (nI a &&& 31)) ||| ((1 : Int32) <<< (nI b &&& 31))) T.1.length) &&& eb (bl j).toNatClampNeg = 0) = true
  rw [ho 134 (by decide), ho 135 (by decide), ho 101 (by decide), b1, b2, ep, el, nI_clamp (by omega), nI_clamp (by omega), heb l hl, decide_eq_true_iff, h, show (z_dr J).fst = J 101 30 from rfl]
  cases z_ke T (am_up (am_up J 114 (8 * a + b) (J 101 30)) 114 (8 * b + a) (J 101 30) 114) (J 101 30) p (z_es T l)
  · exact ⟨fun h => Bool.noConfusion h, fun h => absurd rfl h⟩
  · exact ⟨fun _ h => Bool.noConfusion h, fun _ => rfl⟩
theorem z_whom {J : g_I} {T : x_T} (hW : z_W T) (hR : z_R J T) (hd : z_dok T (z_dr J)) {kd tw kn eb bp bl : Nat → Int32} (hkd : ∀ k, k < T.1.length → kd k = (z_pp T k).1) (ht : ∀ k, k < T.1.length → tw k = z_tw T k) (hK : z_KR T (J 114) (J 101 30) kn) (heb : ∀ l, l < T.2.1.length → eb l = x_bits (z_es T l)) {k : Nat} (hk : J 101 34 = nI k) (hk4 : k ≤ 4) (hB : ∀ j, j < k → bp j = J 134 j ∧ bl j = J 135 j ∧ (∃ p, p < T.1.length ∧ J 134 j = nI p) ∧ ∃ l, l < T.2.1.length ∧ J 135 j = nI l) (P : Nat → Nat → Bool) (hP : ∀ a b, P a b = (!(f_has (kn a) (nI b) && f_has (kn b) (nI a)) && f_eb kd tw kn eb bp bl (f_wt tw (((1 : Int32) <<< (nI a &&& 31)) ||| ((1 : Int32) <<< (nI b &&& 31))) T.1.length) k)) (y1 : Int32) (K : Int32 → Int32 → g_I → Option (Int32 × g_I)) : b_X11_whom_L27 y1 K fu 0 (-1) 0 J = K (f_wm P T.1.length T.1.length).1 (f_wm P T.1.length T.1.length).2 J := by
  have h8 := hW.1.1
  have inner : ∀ (K : Int32 → Int32 → g_I → Option (Int32 × g_I)) (a c : Nat) (w : Int32 × Int32), a < T.1.length → c ≤ 500 → z_mf c w → b_X11_whom_L44 y1 (nI a) K fu w.1 w.2 (nI (a + 1)) J = K (f_wm1 P a (T.1.length - (a + 1)) w).1 (f_wm1 P a (T.1.length - (a + 1)) w).2 J ∧ z_mf (c + (T.1.length - (a + 1))) (f_wm1 P a (T.1.length - (a + 1)) w) := by
    intro K a c w ha hc5 hw
    have h := z_lp (F := fun f (s : (Int32 × Int32) × Int32) => b_X11_whom_L44 y1 (nI a) K f s.1.1 s.1.2 s.2 J) (K := fun s => K s.1.1 s.1.2 J) (N := T.1.length - (a + 1)) (fun i s => s.2 = nI (a + 1 + i) ∧ s.1 = f_wm1 P a i w ∧ z_mf (c + i) s.1)
      (fun f s hP => by
        show b_X11_whom_L44 y1 (nI a) K (f + 1) s.1.1 s.1.2 s.2 J = _
        unfold b_X11_whom_L44
        rw [z_gl, hR.1.1, hP.1, show a + 1 + (T.1.length - (a + 1)) = T.1.length by omega, if_pos (Int32.le_refl _)])
      (fun f i s hi hQ => by
        obtain ⟨s1, s2, s3⟩ := hQ
        obtain ⟨m1, m2⟩ := z_mf_s (P := P) (a := a) (b := a + 1 + i) (by omega) (by omega) (by omega) s3
        refine ⟨(f_wm2 P a (a + 1 + i) s.1, nI (a + 1 + (i + 1))), ?_, rfl, by rw [s2]; rfl, m1⟩
        show b_X11_whom_L44 y1 (nI a) K (f + 1) s.1.1 s.1.2 s.2 J = b_X11_whom_L44 y1 (nI a) K f (f_wm2 P a (a + 1 + i) s.1).1 (f_wm2 P a (a + 1 + i) s.1).2 (nI (a + 1 + i + 1)) J
        have hb : a + 1 + i < T.1.length := by omega
        have hsy : J 114 (8 * (a + 1 + i) + a) = J 114 (8 * a + (a + 1 + i)) := (hd.2.2.1 (a + 1 + i) a hb ha).2.2
        conv => lhs; unfold b_X11_whom_L44
        rw [z_gl, hR.1.1, s1, if_neg (nI_ge hb (by omega)), z_isKnown hW.1 hR.1 hR.2.2.1 ha hb, z_isKnown hW.1 hR.1 hR.2.2.1 hb ha, m2, hP a (a + 1 + i), z_hasK hW.1 hK ha hb (by omega), z_hasK hW.1 hK hb ha (by omega)]
        simp only [g_bind]
        rw [z_cpl, if_pos (g_in_nI (by omega) (by decide)), nI_clamp (by omega)]
        rw [z_gl, z_rmeet (by omega) (by omega)]
        simp only [g_bind]
        rw [z_ebal hW hR hd hkd ht hK heb hk hk4 hB ha hb (by omega)]
        simp only [g_bind]
        rw [z_gl, z_rmeet (by omega) (by omega)]
        simp only [g_bind]
        rw [z_up4 hsy, nI_1]
        cases z_kn T (J 114) (J 101 30) a (a + 1 + i) <;> cases z_kn T (J 114) (J 101 30) (a + 1 + i) a <;> cases f_eb kd tw kn eb bp bl (f_wt tw (((1 : Int32) <<< (nI a &&& 31)) ||| ((1 : Int32) <<< (nI (a + 1 + i) &&& 31))) T.1.length) k <;> by_cases e : s.1.2 = -1 <;> simp [kb, e, g_let])
      (T.1.length - (a + 1)) fu 0 (w, nI (a + 1)) (by omega) (by unfold fu; omega) ⟨rfl, rfl, hw⟩
    obtain ⟨s, e, -, e2, e3⟩ := h
    rw [← e2]
    exact ⟨e, e3⟩
  have h := z_lp (F := fun f (s : (Int32 × Int32) × Int32) => b_X11_whom_L27 y1 K f s.1.1 s.1.2 s.2 J) (K := fun s => K s.1.1 s.1.2 J) (N := T.1.length) (fun i s => s.2 = nI i ∧ s.1 = f_wm P T.1.length i ∧ z_mf (8 * i) s.1)
    (fun f s hP => by show b_X11_whom_L27 y1 K (f + 1) s.1.1 s.1.2 s.2 J = _; unfold b_X11_whom_L27; rw [hR.1.1, hP.1, if_pos (Int32.le_refl _)])
    (fun f i s hi hP => by
      obtain ⟨s1, s2, s3⟩ := hP
      obtain ⟨i1, i2⟩ := inner (fun (a24 : Int32) (a25 : Int32) (I26 : g_I) => b_X11_whom_L27 y1 K f a24 a25 (nI (i + 1)) I26) i (8 * i) s.1 hi (by omega) s3
      refine ⟨(f_wm1 P i (T.1.length - (i + 1)) s.1, nI (i + 1)), ?_, rfl, by rw [s2]; rfl, ?_⟩
      · show b_X11_whom_L27 y1 K (f + 1) s.1.1 s.1.2 s.2 J = _
        conv => lhs; unfold b_X11_whom_L27
        rw [hR.1.1, s1, if_neg (nI_ge hi (by omega)), nI_1]
        exact i1
      · rcases i2 with g | ⟨k, j, g1, g2, g3⟩
        · exact Or.inl g
        · exact Or.inr ⟨k, j, g1, by omega, g3⟩)
    T.1.length fu 0 ((0, -1), 0) (by omega) (by unfold fu; omega) ⟨rfl, rfl, Or.inl ⟨rfl, rfl⟩⟩
  obtain ⟨s, e, -, e2, -⟩ := h
  rw [← e2]
  exact e
