/-! PURE: WHO CUT IT, THE FAIREST -/
theorem z_eaC {I : g_I} {t : Nat} {T : x_T} (hW : z_W T) (hT : k_tw I t T) {p l : Nat} (hp : p < T.1.length) (hl : l < T.2.1.length) : f_pair (I (t + 4)) (nI p) &&& I (t + 14) l = 0 ↔ z_ea T p l = false := by
  have h8 := hW.1.1
  have hE := (hW.2.1.2 l hl).2.2.2.2
  rw [(hT.2.1.2.2 l hl).2.2.2.2.2.2.1, z_meet hW.1 hE]
  unfold z_ea
  rw [decide_eq_false_iff_not]
  constructor
  · rintro h (h1 | h1)
    · exact absurd ((z_pair hW.1 hp (hT.1.2.2 p hp).2.2.2 (by omega)).mpr (Or.inl rfl)) (by rw [h p hp h1]; decide)
    · obtain ⟨q, hq, e⟩ := z_em hE h1
      rw [e] at h1
      exact absurd ((z_pair hW.1 hp (hT.1.2.2 p hp).2.2.2 (show q < 32 by omega)).mpr (Or.inr e)) (by rw [h q hq h1]; decide)
  · intro h q hq h1
    cases e : bt (f_pair (I (t + 4)) (nI p)) q
    · rfl
    · rcases (z_pair hW.1 hp (hT.1.2.2 p hp).2.2.2 (show q < 32 by omega)).mp e with h2 | h2
      · exact absurd (Or.inl (h2 ▸ h1)) h
      · exact absurd (Or.inr (by rw [h2]; exact h1)) h
theorem z_keC {T : x_T} (hW : z_Wp T) {M kn : Nat → Int32} {dy : Int32} (hK : z_KR T M dy kn) {es : List Int32} (hE : z_We T es) {p : Nat} (hp : p < T.1.length) : kn p &&& x_bits es = 0 ↔ z_ke T M dy p es = false := by
  have h8 := hW.1
  rw [z_meet hW hE]
  unfold z_ke
  rw [List.any_eq_false]
  constructor
  · intro h e he
    obtain ⟨q, hq, rfl⟩ := z_em hE he
    rw [nI_clamp (by omega), Bool.and_eq_true, Bool.not_eq_true', decide_eq_false_iff_not]
    rintro ⟨h1, h2⟩
    exact absurd ((hK p hp q (by omega)).mpr ⟨hq, fun e => h1 (by rw [e]), h2⟩) (by rw [h q hq he]; decide)
  · intro h q hq h1
    cases e : bt (kn p) q
    · rfl
    · obtain ⟨-, h2, h3⟩ := (hK p hp q (by omega)).mp e
      have h4 := h _ h1
      rw [nI_clamp (by omega), h3, Bool.and_true, Bool.not_eq_true', decide_eq_false_iff_not] at h4
      exact absurd (fun e => h2 ((nI_eq (by omega) (by omega)).mp e)) h4
/-- the reference's world behind some tellings of slices -/
def z_kT (J J' : g_I) : Prop := (∀ a, a ≠ 101 → (a < 121 ∨ 125 < a) → J' a = J a) ∧ ∀ k, k ≠ 40 → k ≠ 41 → J' 101 k = J 101 k
theorem z_kT_r (J : g_I) : z_kT J J := ⟨fun _ _ _ => rfl, fun _ _ _ => rfl⟩
theorem z_kT_t {J K L : g_I} (h1 : z_kT J K) (h2 : z_kT K L) : z_kT J L := ⟨fun a x y => (h2.1 a x y).trans (h1.1 a x y), fun k x y => (h2.2 k x y).trans (h1.2 k x y)⟩
theorem z_kT_R {J J' : g_I} {T : x_T} (h : z_kT J J') (hR : z_R J T) : z_R J' T := z_R_o hR (fun a h1 h2 _ => h.1 a (by omega) (by omega))
theorem z_kT_k {J J' : g_I} {t : Nat} (ht : t = 3 ∨ t = 22) (h : z_kT J J') : z_keepR J J' t := ⟨fun a ha => h.1 a (by unfold z_rel at ha; omega) (by unfold z_rel at ha; omega), fun k hk => h.2 k (by unfold z_rsl at hk; omega) (by unfold z_rsl at hk; omega), fun k _ => by rw [h.1 114 (by decide) (by decide)], by rw [h.1 0 (by decide) (by decide)], by rw [h.1 0 (by decide) (by decide)], by rw [h.1 0 (by decide) (by decide)], by rw [h.1 1 (by decide) (by decide)]⟩
theorem z_who {I J : g_I} {t : Nat} {T : x_T} (hW : z_W T) (hT : k_tw I t T) (hR : z_R J T) {b ks : Nat} (hb : b < T.2.1.length) (ht3 : t = 3 ∨ t = 22) (hth : ∀ p, p < T.1.length → I 50 p = J 119 p) (hks : ks ≤ 6) (h33 : J 101 33 = nI ks) (hs : ∀ j, j < ks → I 55 j = J 131 j ∧ I 56 j = J 132 j ∧ I 57 j = J 133 j ∧ ∃ l i, l < T.2.1.length ∧ i < (z_es T l).length ∧ J 131 j = nI l ∧ J 132 j = nI i) (K : Int32 → g_I → Option (Int32 × g_I)) : ∃ J', b_X11_who_L23 (nI b) K fu 0 0 J = K (f_wh I t b T.2.2.2.2.length (z_mn T (z_es T b)) (z_es T b).length ks (nI b) T.1.length).2 J' ∧ z_kT J J' := by
  have h8 := hW.1.1
  have h6 := hW.2.1.1
  have hE := (hW.2.1.2 b hb).2.2.2.2
  have he6 := hE.2.1
  have inner : ∀ (I' : g_I) (y2 y3 : Int32) (K : Int32 → Option (Int32 × g_I)) (gt : Nat → Int32) (c : Bool), z_kT J I' → (∀ i, i < (z_es T b).length → I' 125 i = gt i) → b_X11_who_L63 I' (nI b) y2 y3 K fu (kb c) 0 = K (kb (c && f_sf (I 55) (I 56) (I 57) gt (nI b) ks)) := by
    intro I' y2 y3 K gt c hk hg
    unfold f_sf
    exact z_fl (F := fun f x y => b_X11_who_L63 I' (nI b) y2 y3 K f x y) (K := K) (N := ks)
      (fun f a => by show b_X11_who_L63 I' (nI b) y2 y3 K (f + 1) a _ = _; unfold b_X11_who_L63; rw [hk.2 33 (by decide) (by decide), h33, if_pos (Int32.le_refl _)])
      (fun f i hi => by show b_X11_who_L63 I' (nI b) y2 y3 K (f + 1) 0 _ = _; unfold b_X11_who_L63; rw [hk.2 33 (by decide) (by decide), h33, if_neg (nI_ge hi (by omega)), if_pos rfl])
      (fun f i hi => by
        obtain ⟨g1, g2, g3, l, j, g4, g5, g6, g7⟩ := hs i hi
        show b_X11_who_L63 I' (nI b) y2 y3 K (f + 1) 1 (nI i) = b_X11_who_L63 I' (nI b) y2 y3 K f _ _
        conv => lhs; unfold b_X11_who_L63
        rw [hk.2 33 (by decide) (by decide), h33, if_neg (nI_ge hi (by omega)), if_neg (show ¬ (1 : Int32) = 0 by decide), if_pos (g_in_nI (by omega) (by decide)), nI_clamp (by omega), hk.1 131 (by decide) (by decide), hk.1 132 (by decide) (by decide), hk.1 133 (by decide) (by decide), nI_1, g1, g2, g3]
        by_cases e : J 131 i = nI b
        · have el : l = b := (nI_eq (by omega) (by omega)).mp (g6.symm.trans e)
          subst el
          rw [if_pos e, if_pos (g_in_nI (by omega) (by decide)), g7, if_pos (g_in_nI (by omega) (by decide)), if_pos (g_in_nI (by omega) (by decide)), nI_clamp (by omega), hg j g5, decide_eq_true e]
          by_cases e2 : gt j = J 133 i
          · rw [if_pos e2, decide_eq_false (fun h => h e2)]; rfl
          · rw [if_neg e2, decide_eq_true e2]; rfl
        · rw [if_neg e, decide_eq_false e]; rfl) c (by omega)
  have hwo : ∀ i a, a ≠ t + 18 → (a < 93 ∨ 97 ≤ a) → (f_wh I t b T.2.2.2.2.length (z_mn T (z_es T b)) (z_es T b).length ks (nI b) i).1 a = I a := fun i a h1 h2 => f_wh_o I t b _ _ _ ks (nI b) i h1 h2
  have h := z_lp (F := fun f (s : Int32 × Int32 × g_I) => b_X11_who_L23 (nI b) K f s.1 s.2.1 s.2.2) (K := fun s => K s.1 s.2.2) (N := T.1.length) (fun i s => s.2.1 = nI i ∧ s.1 = (f_wh I t b T.2.2.2.2.length (z_mn T (z_es T b)) (z_es T b).length ks (nI b) i).2 ∧ z_kT J s.2.2)
    (fun f s hP => by
      show b_X11_who_L23 (nI b) K (f + 1) s.1 s.2.1 s.2.2 = K s.1 s.2.2
      unfold b_X11_who_L23
      rw [z_gl, hP.2.2.1 104 (by decide) (by decide), hR.1.1, hP.1, if_pos (Int32.le_refl _)])
    (fun f i s hi hP => by
      obtain ⟨s1, s2, s3⟩ := hP
      have hR' := z_kT_R s3 hR
      have hTw : k_tw (f_wh I t b T.2.2.2.2.length (z_mn T (z_es T b)) (z_es T b).length ks (nI b) i).1 t T := k_tw_o hT (fun a h1 h2 => hwo i a (by omega) (by omega))
      have hstep : f_wh I t b T.2.2.2.2.length (z_mn T (z_es T b)) (z_es T b).length ks (nI b) (i + 1) = f_wh1 t b T.2.2.2.2.length (z_mn T (z_es T b)) (z_es T b).length ks (nI b) i (f_wh I t b T.2.2.2.2.length (z_mn T (z_es T b)) (z_es T b).length ks (nI b) i) := rfl
      show ∃ s', b_X11_who_L23 (nI b) K (f + 1) s.1 s.2.1 s.2.2 = _ ∧ _
      have hea := z_eats hW.1 hR'.1 hW.2.1 hR'.2.1 hi hb
      have hc := z_eaC hW hTw hi hb
      by_cases e : z_ea T i b = true
      · have hcl : f_wh I t b T.2.2.2.2.length (z_mn T (z_es T b)) (z_es T b).length ks (nI b) (i + 1) = f_wh I t b T.2.2.2.2.length (z_mn T (z_es T b)) (z_es T b).length ks (nI b) i := by
          rw [hstep]
          unfold f_wh1
          rw [if_pos (decide_eq_true (show ¬ f_pair ((f_wh I t b T.2.2.2.2.length (z_mn T (z_es T b)) (z_es T b).length ks (nI b) i).1 (t + 4)) (nI i) &&& (f_wh I t b T.2.2.2.2.length (z_mn T (z_es T b)) (z_es T b).length ks (nI b) i).1 (t + 14) b = 0 from fun h => by rw [hc.mp h] at e; exact Bool.noConfusion e))]
        refine ⟨(s.1, nI (i + 1), s.2.2), ?_, rfl, by rw [hcl]; exact s2, s3⟩
        show b_X11_who_L23 (nI b) K (f + 1) s.1 s.2.1 s.2.2 = b_X11_who_L23 (nI b) K f s.1 (nI (i + 1)) s.2.2
        conv => lhs; unfold b_X11_who_L23
        rw [z_gl, s3.1 104 (by decide) (by decide), hR.1.1, s1, if_neg (nI_ge hi (by omega)), hea]
        simp only [g_bind]
        rw [if_pos e, if_pos trivial]
        have := inner s.2.2 s.1 (nI i) (fun (a2 : Int32) => if a2 = 0 then g_let (s.1 ||| 0) fun a3 => b_X11_who_L23 (nI b) K f a3 (nI i + 1) s.2.2 else g_let (s.1 ||| ((1 : Int32) <<< (nI i &&& 31))) fun a4 => b_X11_who_L23 (nI b) K f a4 (nI i + 1) s.2.2) (fun i => s.2.2 125 i) false s3 (fun _ _ => rfl)
        refine Eq.trans this ?_
        rw [Bool.false_and, if_pos (show kb false = 0 from rfl), z_gl, Int32.or_zero, nI_1]
      · have e' : z_ea T i b = false := by cases h : z_ea T i b; rfl; exact absurd h e
        obtain ⟨J1, q1, q2, q3, -, -, -, q4⟩ := z_tellSlices (I := (f_wh I t b T.2.2.2.2.length (z_mn T (z_es T b)) (z_es T b).length ks (nI b) i).1) (J := s.2.2) (t := t) hW hTw hR' hi hb (by rw [hwo i 50 (by omega) (by omega), s3.1 119 (by decide) (by decide)]; exact hth i hi)
        have hk1 : z_kT J J1 := z_kT_t s3 ⟨q2, q3⟩
        have hrow : ∀ a, 55 ≤ a → a ≤ 57 → (f_div (f_wh I t b T.2.2.2.2.length (z_mn T (z_es T b)) (z_es T b).length ks (nI b) i).1 93 t 47 i b T.2.2.2.2.length (z_mn T (z_es T b)) (z_es T b).length) a = I a := fun a h1 h2 => by rw [f_div_o (by omega) (by omega)]; exact hwo i a (by omega) (by omega)
        have h95 : (f_div (f_wh I t b T.2.2.2.2.length (z_mn T (z_es T b)) (z_es T b).length ks (nI b) i).1 93 t 47 i b T.2.2.2.2.length (z_mn T (z_es T b)) (z_es T b).length) 95 = f_G2 (f_wh I t b T.2.2.2.2.length (z_mn T (z_es T b)) (z_es T b).length ks (nI b) i).1 93 t 47 i b T.2.2.2.2.length (z_mn T (z_es T b)) (z_es T b).length := f_w5_C
        have hcl : (f_wh I t b T.2.2.2.2.length (z_mn T (z_es T b)) (z_es T b).length ks (nI b) (i + 1)).2 = if f_sf (I 55) (I 56) (I 57) (f_G2 (f_wh I t b T.2.2.2.2.length (z_mn T (z_es T b)) (z_es T b).length ks (nI b) i).1 93 t 47 i b T.2.2.2.2.length (z_mn T (z_es T b)) (z_es T b).length) (nI b) ks = true then s.1 ||| ((1 : Int32) <<< (nI i &&& 31)) else s.1 := by
          rw [hstep, s2]
          unfold f_wh1
          rw [if_neg (show ¬ (decide (¬ f_pair ((f_wh I t b T.2.2.2.2.length (z_mn T (z_es T b)) (z_es T b).length ks (nI b) i).1 (t + 4)) (nI i) &&& (f_wh I t b T.2.2.2.2.length (z_mn T (z_es T b)) (z_es T b).length ks (nI b) i).1 (t + 14) b = 0) = true) from fun h => of_decide_eq_true h (hc.mpr e')), hrow 55 (by omega) (by omega), hrow 56 (by omega) (by omega), hrow 57 (by omega) (by omega), h95]
          split <;> rfl
        refine ⟨((f_wh I t b T.2.2.2.2.length (z_mn T (z_es T b)) (z_es T b).length ks (nI b) (i + 1)).2, nI (i + 1), J1), ?_, rfl, rfl, hk1⟩
        show b_X11_who_L23 (nI b) K (f + 1) s.1 s.2.1 s.2.2 = b_X11_who_L23 (nI b) K f _ (nI (i + 1)) J1
        conv => lhs; unfold b_X11_who_L23
        rw [z_gl, s3.1 104 (by decide) (by decide), hR.1.1, s1, if_neg (nI_ge hi (by omega)), hea]
        simp only [g_bind]
        rw [if_neg e, if_neg (show ¬ (1 : Int32) = 0 by decide), q1]
        have := inner J1 s.1 (nI i) (fun (a2 : Int32) => if a2 = 0 then g_let (s.1 ||| 0) fun a3 => b_X11_who_L23 (nI b) K f a3 (nI i + 1) J1 else g_let (s.1 ||| ((1 : Int32) <<< (nI i &&& 31))) fun a4 => b_X11_who_L23 (nI b) K f a4 (nI i + 1) J1) (f_G2 (f_wh I t b T.2.2.2.2.length (z_mn T (z_es T b)) (z_es T b).length ks (nI b) i).1 93 t 47 i b T.2.2.2.2.length (z_mn T (z_es T b)) (z_es T b).length) true hk1 q4
        refine Eq.trans this ?_
        rw [Bool.true_and, hcl]
        cases f_sf (I 55) (I 56) (I 57) (f_G2 (f_wh I t b T.2.2.2.2.length (z_mn T (z_es T b)) (z_es T b).length ks (nI b) i).1 93 t 47 i b T.2.2.2.2.length (z_mn T (z_es T b)) (z_es T b).length) (nI b) ks
        · rw [if_pos (show kb false = 0 from rfl), z_gl, Int32.or_zero, nI_1]; rfl
        · rw [if_neg (show ¬ kb true = 0 by decide), z_gl, nI_1]; rfl)
    T.1.length fu 0 (0, 0, J) (by omega) (by unfold fu; omega) ⟨rfl, rfl, z_kT_r J⟩
  obtain ⟨s, e, -, s2, s3⟩ := h
  rw [s2] at e
  exact ⟨s.2.2, e, s3⟩
theorem z_fairest {I J : g_I} {t : Nat} {T : x_T} (hW : z_W T) (hT : k_tw I t T) (hR : z_R J T) {b : Nat} (hb : b < T.2.1.length) (ht3 : t = 3 ∨ t = 22) (hth : ∀ p, p < T.1.length → I 50 p = J 119 p) {cu : Int32} (hcu : cu = z_cu T (J 114) (J 101 30) b) (x : Int32) (hx : x = -1 ∨ ∃ i, i < (z_es T b).length ∧ x = nI i) (K : Int32 → g_I → Option (Int32 × g_I)) : ∃ J', b_X11_fairest_L47 (nI b) x K fu (-1) 0 0 J = K (f_fa I t b T.2.2.2.2.length (z_mn T (z_es T b)) (z_es T b).length cu x T.1.length).2.1 J' ∧ z_kT J J' := by
  have h8 := hW.1.1
  have hfo : ∀ i a, a ≠ t + 18 → (a < 93 ∨ 97 ≤ a) → (f_fa I t b T.2.2.2.2.length (z_mn T (z_es T b)) (z_es T b).length cu x i).1 a = I a := fun i a h1 h2 => f_fa_o I t b _ _ _ cu x i h1 h2
  have h := z_lp (F := fun f (s : Int32 × Int32 × Int32 × g_I) => b_X11_fairest_L47 (nI b) x K f s.1 s.2.1 s.2.2.1 s.2.2.2) (K := fun s => K s.1 s.2.2.2) (N := T.1.length) (fun i s => s.2.2.1 = nI i ∧ (s.1, s.2.1) = (f_fa I t b T.2.2.2.2.length (z_mn T (z_es T b)) (z_es T b).length cu x i).2 ∧ z_kT J s.2.2.2)
    (fun f s hP => by
      show b_X11_fairest_L47 (nI b) x K (f + 1) s.1 s.2.1 s.2.2.1 s.2.2.2 = K s.1 s.2.2.2
      unfold b_X11_fairest_L47
      rw [hP.2.2.1 104 (by decide) (by decide), hR.1.1, hP.1, if_pos (Int32.le_refl _)])
    (fun f i s hi hP => by
      obtain ⟨s1, s2, s3⟩ := hP
      have hR' := z_kT_R s3 hR
      have hTw : k_tw (f_fa I t b T.2.2.2.2.length (z_mn T (z_es T b)) (z_es T b).length cu x i).1 t T := k_tw_o hT (fun a h1 h2 => hfo i a (by omega) (by omega))
      have hstep : f_fa I t b T.2.2.2.2.length (z_mn T (z_es T b)) (z_es T b).length cu x (i + 1) = f_fa1 t b T.2.2.2.2.length (z_mn T (z_es T b)) (z_es T b).length cu x i (f_fa I t b T.2.2.2.2.length (z_mn T (z_es T b)) (z_es T b).length cu x i) := rfl
      have hcan := z_canCut hW.1 hW.2.1 hR' hi hb
      rw [s3.1 114 (by decide) (by decide), s3.2 30 (by decide) (by decide)] at hcan
      have hhas : f_has cu (nI i) = z_can T (J 114) (J 101 30) i b := by
        rw [z_has (by omega), hcu]
        exact z_iff ((z_cu_b hW.1 (by omega)).trans ⟨fun h => h.2, fun h => ⟨hi, h⟩⟩)
      show ∃ s', b_X11_fairest_L47 (nI b) x K (f + 1) s.1 s.2.1 s.2.2.1 s.2.2.2 = _ ∧ _
      have hun : b_X11_fairest_L47 (nI b) x K (f + 1) s.1 s.2.1 s.2.2.1 s.2.2.2 = if z_can T (J 114) (J 101 30) i b = true then g_bind2 (b_X11_goodFor s.2.2.2 (nI i) (nI b) x) fun a8 I9 => if s.1 = (-1) then b_X11_fairest_L47 (nI b) x K f (nI i) a8 (nI (i + 1)) I9 else if s.2.1 < a8 then b_X11_fairest_L47 (nI b) x K f (nI i) a8 (nI (i + 1)) I9 else b_X11_fairest_L47 (nI b) x K f s.1 s.2.1 (nI (i + 1)) I9 else b_X11_fairest_L47 (nI b) x K f s.1 s.2.1 (nI (i + 1)) s.2.2.2 := by
        conv => lhs; unfold b_X11_fairest_L47
        rw [s3.1 104 (by decide) (by decide), hR.1.1, s1, if_neg (nI_ge hi (by omega)), hcan, nI_1]
        rfl
      rw [hun]
      by_cases e : z_can T (J 114) (J 101 30) i b = true
      · rw [if_pos e]
        obtain ⟨J1, q1, q2, q3⟩ := z_goodFor (I := (f_fa I t b T.2.2.2.2.length (z_mn T (z_es T b)) (z_es T b).length cu x i).1) (J := s.2.2.2) (t := t) hW hTw hR' hi hb (by rw [hfo i 50 (by omega) (by omega), s3.1 119 (by decide) (by decide)]; exact hth i hi) x hx
        have hk1 : z_kT J J1 := z_kT_t s3 ⟨q2, q3⟩
        rw [q1]
        simp only [g_bind2]
        rw [hstep]
        unfold f_fa1
        rw [hhas, if_pos e, ← s2]
        by_cases e1 : s.1 = -1
        · rw [if_pos e1, if_pos (Or.inl e1)]
          exact ⟨(nI i, _, nI (i + 1), J1), rfl, rfl, rfl, hk1⟩
        · rw [if_neg e1]
          by_cases e2 : s.2.1 < (if x = -1 then -((f_div (f_fa I t b T.2.2.2.2.length (z_mn T (z_es T b)) (z_es T b).length cu x i).1 93 t 47 i b T.2.2.2.2.length (z_mn T (z_es T b)) (z_es T b).length) 94 0 - (f_div (f_fa I t b T.2.2.2.2.length (z_mn T (z_es T b)) (z_es T b).length cu x i).1 93 t 47 i b T.2.2.2.2.length (z_mn T (z_es T b)) (z_es T b).length) 94 (z_mn T (z_es T b) - 1)) else (f_div (f_fa I t b T.2.2.2.2.length (z_mn T (z_es T b)) (z_es T b).length cu x i).1 93 t 47 i b T.2.2.2.2.length (z_mn T (z_es T b)) (z_es T b).length) 95 x.toNatClampNeg)
          · rw [if_pos e2, if_pos (Or.inr e2)]
            exact ⟨(nI i, _, nI (i + 1), J1), rfl, rfl, rfl, hk1⟩
          · rw [if_neg e2, if_neg (fun h => h.elim e1 e2)]
            exact ⟨(s.1, s.2.1, nI (i + 1), J1), rfl, rfl, rfl, hk1⟩
      · rw [if_neg e]
        refine ⟨(s.1, s.2.1, nI (i + 1), s.2.2.2), rfl, rfl, ?_, s3⟩
        rw [hstep]
        unfold f_fa1
        rw [hhas, if_neg e]
        exact s2)
    T.1.length fu 0 (-1, 0, 0, J) (by omega) (by unfold fu; omega) ⟨rfl, rfl, z_kT_r J⟩
  obtain ⟨s, e, -, s2, s3⟩ := h
  have e2 : s.1 = (f_fa I t b T.2.2.2.2.length (z_mn T (z_es T b)) (z_es T b).length cu x T.1.length).2.1 := congrArg Prod.fst s2
  refine ⟨s.2.2.2, ?_, s3⟩
  rw [← e2]
  exact e
