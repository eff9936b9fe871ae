/-! READER: LINES, GOING ON -/
theorem k_tp_o {I J : Nat → Nat → Int32} {t : Nat} {ps : List x_P} (h : k_tp I t ps) (h0 : J t 0 = I t 0) (ho : ∀ a, t < a → a < t + 5 → J a = I a) : k_tp J t ps := by
  unfold k_tp at h ⊢
  rw [h0, ho (t + 1) (by omega) (by omega), ho (t + 2) (by omega) (by omega), ho (t + 3) (by omega) (by omega), ho (t + 4) (by omega) (by omega)]
  exact h
theorem k_tl_o {I J : Nat → Nat → Int32} {t : Nat} {ls : List x_L} (h : k_tl I t ls) (ho : ∀ a, t + 8 ≤ a → a < t + 16 → J a = I a) : k_tl J t ls := by
  unfold k_tl k_lf at h ⊢
  rw [ho (t + 8) (by omega) (by omega), ho (t + 9) (by omega) (by omega), ho (t + 10) (by omega) (by omega), ho (t + 11) (by omega) (by omega), ho (t + 12) (by omega) (by omega), ho (t + 13) (by omega) (by omega), ho (t + 14) (by omega) (by omega), ho (t + 15) (by omega) (by omega)]
  exact h
theorem k_tm_o {I J : Nat → Nat → Int32} {t : Nat} {ms : List x_P} (h : k_tm I t ms) (h0 : J t 1 = I t 1) (ho : ∀ a, t + 5 ≤ a → a < t + 8 → J a = I a) : k_tm J t ms := by
  unfold k_tm at h ⊢
  rw [h0, ho (t + 5) (by omega) (by omega), ho (t + 6) (by omega) (by omega), ho (t + 7) (by omega) (by omega)]
  exact h
theorem k_st_o {I J : Nat → Nat → Int32} {u : Nat} {l : List Int32} (h : k_st I u l) (h0 : J u = I u) (h1 : J (u + 1) = I (u + 1)) : k_st J u l := by
  unfold k_st at h ⊢
  rw [h0, h1]
  exact h
theorem k_s_k {I J : Nat → Nat → Int32} {e n : Nat} {tp : Nat → Int32} {s : Int32 × Nat} (h : k_s I e tp n s) (h1 : J (e + 1) = I (e + 1)) (h0 : ∀ k, k < 8 → J e k = I e k) : k_s J e tp n s := by
  unfold k_s k_lz at h ⊢
  rw [h1, h0 7 (by omega), h0 2 (by omega), h0 4 (by omega), h0 3 (by omega), h0 5 (by omega), h0 6 (by omega)]
  exact h
theorem up_ne {I : Nat → Nat → Int32} {c k : Nat} {x : Int32} {j : Nat} (h : j ≠ k) : am_up I c k x c j = I c j := by rw [am_up_s, upd_o h]
theorem up_eq {I : Nat → Nat → Int32} {c k : Nat} {x : Int32} : am_up I c k x c k = x := by rw [am_up_s, pk_us]
/-- a flag of the reader is set -/
theorem k_sf {I J : Nat → Nat → Int32} {e n t k : Nat} {tp : Nat → Int32} {s : Int32 × Nat} (hk : 8 ≤ k) (h : J = am_up I e k 1) (hs : k_s I e tp n s) : k_s J e tp n s := by
  subst h
  exact k_s_k hs (am_up_o _ _ _ _ (by omega)) (fun j hj => up_ne (by omega))
theorem k_ff {I J : Nat → Nat → Int32} {e t k : Nat} (hk : 8 ≤ k) (h : J = am_up I e k 1) : k_ft I J e t := by
  subst h
  exact ⟨fun a ha _ => am_up_o _ _ _ _ ha, fun j hj => up_ne (by omega)⟩
theorem k_twf {I J : Nat → Nat → Int32} {e t k : Nat} {T : x_T} (het : e + 2 ≤ t ∨ t + 19 ≤ e) (h : J = am_up I e k 1) (hT : k_tw I t T) : k_tw J t T := by
  subst h
  exact k_tw_o hT (fun a _ _ => am_up_o _ _ _ _ (by omega))
theorem k_tw_fo {I J : Nat → Nat → Int32} {t : Nat} {v : Int32} {T : x_T} (h : J = am_up I t 2 v) (hT : k_tw I t T) : k_tw J t (T.1, T.2.1, T.2.2.1, (v, T.2.2.2.1.2), T.2.2.2.2) := by
  subst h
  obtain ⟨h1, h2, h3, h4, h5, h6⟩ := hT
  exact ⟨k_tp_o h1 (up_ne (by decide)) (fun a _ _ => am_up_o _ _ _ _ (by omega)), k_tl_o h2 (fun a _ _ => am_up_o _ _ _ _ (by omega)), k_tm_o h3 (up_ne (by decide)) (fun a _ _ => am_up_o _ _ _ _ (by omega)), up_eq, (up_ne (by decide)).trans h5, k_st_o h6 (am_up_o _ _ _ _ (by omega)) (am_up_o _ _ _ _ (by omega))⟩
theorem k_tw_no {I J : Nat → Nat → Int32} {t : Nat} {v : Int32} {T : x_T} (h : J = am_up I t 3 v) (hT : k_tw I t T) : k_tw J t (T.1, T.2.1, T.2.2.1, (T.2.2.2.1.1, v), T.2.2.2.2) := by
  subst h
  obtain ⟨h1, h2, h3, h4, h5, h6⟩ := hT
  exact ⟨k_tp_o h1 (up_ne (by decide)) (fun a _ _ => am_up_o _ _ _ _ (by omega)), k_tl_o h2 (fun a _ _ => am_up_o _ _ _ _ (by omega)), k_tm_o h3 (up_ne (by decide)) (fun a _ _ => am_up_o _ _ _ _ (by omega)), (up_ne (by decide)).trans h4, up_eq, k_st_o h6 (am_up_o _ _ _ _ (by omega)) (am_up_o _ _ _ _ (by omega))⟩
theorem k_tw_ru {I J : Nat → Nat → Int32} {e t : Nat} {l : List Int32} {T : x_T} (het : e + 2 ≤ t ∨ t + 19 ≤ e) (hf : k_fr I J e (t + 16)) (hT : k_tw I t T) (hl : k_st J (t + 16) l) : k_tw J t (T.1, T.2.1, T.2.2.1, T.2.2.2.1, l) := by
  obtain ⟨h1, h2, h3, h4, h5, h6⟩ := hT
  have ho : ∀ a, t ≤ a → a < t + 16 → J a = I a := fun a x y => hf.1 a (by omega) (by omega) (by omega)
  have ht := ho t (by omega) (by omega)
  exact ⟨k_tp_o h1 (by rw [ht]) (fun a _ _ => ho a (by omega) (by omega)), k_tl_o h2 (fun a _ _ => ho a (by omega) (by omega)), k_tm_o h3 (by rw [ht]) (fun a _ _ => ho a (by omega) (by omega)), by rw [ht]; exact h4, by rw [ht]; exact h5, hl⟩
theorem k_ft_ru {I J : Nat → Nat → Int32} {e t : Nat} (hf : k_fr I J e (t + 16)) : k_ft I J e t := ⟨fun a h1 h2 => hf.1 a h1 (by omega) (by omega), fun k hk => hf.2 k (Or.inl hk)⟩
theorem k_fl_ru {I J : Nat → Nat → Int32} {e t : Nat} {fl : x_F} (hf : k_fr I J e (t + 16)) (h : k_fl I e fl) : k_fl J e fl := ⟨(hf.2 8 (by omega)).trans h.1, (hf.2 9 (by omega)).trans h.2.1, (hf.2 10 (by omega)).trans h.2.2⟩
theorem k_fl8 {I J : Nat → Nat → Int32} {e : Nat} {fl : x_F} (h : J = am_up I e 8 1) (hl : k_fl I e fl) : k_fl J e (1, fl.2) := by subst h; exact ⟨up_eq, (up_ne (by decide)).trans hl.2.1, (up_ne (by decide)).trans hl.2.2⟩
theorem k_fl9 {I J : Nat → Nat → Int32} {e : Nat} {fl : x_F} (h : J = am_up I e 9 1) (hl : k_fl I e fl) : k_fl J e (fl.1, 1, fl.2.2) := by subst h; exact ⟨(up_ne (by decide)).trans hl.1, up_eq, (up_ne (by decide)).trans hl.2.2⟩
theorem k_fl10 {I J : Nat → Nat → Int32} {e : Nat} {fl : x_F} (h : J = am_up I e 10 1) (hl : k_fl I e fl) : k_fl J e (fl.1, fl.2.1, 1) := by subst h; exact ⟨(up_ne (by decide)).trans hl.1, (up_ne (by decide)).trans hl.2.1, up_eq⟩
def x_forg (tp : Nat → Int32) (n : Nat) (q : x_K) : x_K :=
  let s1 := x_adv tp n (if q.2.2.1 = 0 then q.1 else x_fail 5 q.1)
  (x_rn tp n 1 999 s1, (q.2.1.1, q.2.1.2.1, q.2.1.2.2.1, (x_rv tp n 1 999 s1, q.2.1.2.2.2.1.2), q.2.1.2.2.2.2), (1, q.2.2.2))
def x_noon (tp : Nat → Int32) (n : Nat) (q : x_K) : x_K :=
  let s1 := x_adv tp n (if q.2.2.2.1 = 0 then q.1 else x_fail 5 q.1)
  (x_rn tp n 1 23 s1, (q.2.1.1, q.2.1.2.1, q.2.1.2.2.1, (q.2.1.2.2.2.1.1, x_rv tp n 1 23 s1), q.2.1.2.2.2.2), (q.2.2.1, 1, q.2.2.2.2))
def x_rule (tp : Nat → Int32) (n : Nat) (q : x_K) : x_K :=
  if q.2.2.2.2 = 0 then ((x_ex tp n 6 (x_adv tp n q.1, q.2.1.2.2.2.2)).1, (q.2.1.1, q.2.1.2.1, q.2.1.2.2.1, q.2.1.2.2.2.1, (x_ex tp n 6 (x_adv tp n q.1, q.2.1.2.2.2.2)).2), (q.2.2.1, q.2.2.2.1, 1))
  else (x_fail 5 q.1, q.2)
theorem dX6_readForgetting_0 : decode cX6_readForgetting 0 = .ok (.aload_n 0, 1) := by decide +kernel
theorem dX6_readForgetting_1 : decode cX6_readForgetting 1 = .ok (.getfield 42, 3) := by decide +kernel
theorem dX6_readForgetting_4 : decode cX6_readForgetting 4 = .ok (.ifCond .eq 8, 3) := by decide +kernel
theorem dX6_readForgetting_7 : decode cX6_readForgetting 7 = .ok (.aload_n 0, 1) := by decide +kernel
theorem dX6_readForgetting_8 : decode cX6_readForgetting 8 = .ok (.iconst 5, 1) := by decide +kernel
theorem dX6_readForgetting_9 : decode cX6_readForgetting 9 = .ok (.invokevirtual 97, 3) := by decide +kernel
theorem dX6_readForgetting_12 : decode cX6_readForgetting 12 = .ok (.aload_n 0, 1) := by decide +kernel
theorem dX6_readForgetting_13 : decode cX6_readForgetting 13 = .ok (.iconst 1, 1) := by decide +kernel
theorem dX6_readForgetting_14 : decode cX6_readForgetting 14 = .ok (.putfield 42, 3) := by decide +kernel
theorem dX6_readForgetting_17 : decode cX6_readForgetting 17 = .ok (.aload_n 0, 1) := by decide +kernel
theorem dX6_readForgetting_18 : decode cX6_readForgetting 18 = .ok (.invokevirtual 52, 3) := by decide +kernel
theorem dX6_readForgetting_21 : decode cX6_readForgetting 21 = .ok (.aload_n 1, 1) := by decide +kernel
theorem dX6_readForgetting_22 : decode cX6_readForgetting 22 = .ok (.aload_n 0, 1) := by decide +kernel
theorem dX6_readForgetting_23 : decode cX6_readForgetting 23 = .ok (.iconst 1, 1) := by decide +kernel
theorem dX6_readForgetting_24 : decode cX6_readForgetting 24 = .ok (.sipush 999, 3) := by decide +kernel
theorem dX6_readForgetting_27 : decode cX6_readForgetting 27 = .ok (.invokevirtual 153, 3) := by decide +kernel
theorem dX6_readForgetting_30 : decode cX6_readForgetting 30 = .ok (.putfield 202, 3) := by decide +kernel
theorem dX6_readForgetting_33 : decode cX6_readForgetting 33 = .ok (.return_, 1) := by decide +kernel
set_option maxRecDepth 100000 in
set_option maxHeartbeats 4000000 in
theorem k_X6_readForgetting {G : am_G} (hK : k_OK G) {d : Nat} (hd : 7 ≤ d) {sh : List (Nat ⊕ (Nat × Nat))} {I : Nat → Nat → Int32} {R : Nat → Nat → Option Nat} {L : Nat → Nat → Int64} {g : Nat} {e n t : Nat} {tp : Nat → Int32} {s : Int32 × Nat} {T : x_T} {fl : x_F} (hr : k_rd sh R e tp n) (ht : k_Town sh R t) (het : e + 2 ≤ t ∨ t + 19 ≤ e) (hs : k_s I e tp n s) (hl : k_fl I e fl) (hT : k_tw I t T) : AM G mX6_readForgetting d [.ref e, .ref t] (sh, I, R, L, g) (fun v w => v = none ∧ ∃ J, w = (sh, J, R, L, g) ∧ k_rt I J e t tp n (x_forg tp n (s, T, fl))) (fun _ _ => False) := by
  have hG := hK.1
  have he := hr.1
  have hn6 := hr.2.1
  have hf := k_ft_0 I e t
  refine AM.of (n := 0) (by decide +kernel) (Nat.le_of_ble_eq_true rfl) ?_
  show AW G mX6_readForgetting d (fun v w => v = none ∧ ∃ J, w = (sh, J, R, L, g) ∧ k_rt I J e t tp n (x_forg tp n (s, T, fl))) (fun _ _ => False) 0 [some (.ref e), some (.ref t)] [] (sh, I, R, L, g) 0 0
  have J12 : ∀ (J : Nat → Nat → Int32) (s9 : Int32 × Nat), (s9 = (if fl.1 = 0 then s else x_fail 5 s) ∧ k_ft I J e t ∧ k_s J e tp n s9 ∧ k_fl J e fl ∧ k_tw J t T) → AW G mX6_readForgetting d (fun v w => v = none ∧ ∃ J, w = (sh, J, R, L, g) ∧ k_rt I J e t tp n (x_forg tp n (s, T, fl))) (fun _ _ => False) 12 [some (.ref e), some (.ref t)] [] (sh, J, R, L, g) 0 0 := by
    intro J s9 hi12
    obtain ⟨hs0, hfJ, hsJ, hlJ, hTJ⟩ := hi12
    refine AW.aload_n dX6_readForgetting_12 rfl ?_
    refine AW.iconst 1 dX6_readForgetting_13 (by decide) ?_
    refine AW.putI (fX6_42 hG) rfl (by decide) (by decide) (he.1 0 _ rfl) dX6_readForgetting_14 ?_
    refine AW.namI (fun I14 eI14 => ?_)
    have hsB := k_sf (t := t) (by decide) eI14 hsJ
    have hfB := k_ft_t hfJ (k_ff (t := t) (by decide) eI14)
    have hTB := k_twf het eI14 hTJ
    have hlB := k_fl8 eI14 hlJ
    clear hsJ hTJ hlJ hfJ hs hT hl hf
    refine AW.aload_n dX6_readForgetting_17 rfl ?_
    refine AW.callV (b := e) (As := []) hG.2.2 (vX6_52 hG) (he.1 0 _ rfl) (k_X6_advS hK (d := 5) (Nat.le_refl _) hr (by assumption)) (by omega) dX6_readForgetting_18 rfl rfl (Nat.le_of_ble_eq_true rfl) (fun v w9 hq9 h09 => by obtain ⟨rfl, J9, rfl, -⟩ := hq9; exact ⟨h09, rfl⟩) (by decide) (by decide) (fun _ _ hx => hx) (fun v18 w18 hq18 => ?_)
    obtain ⟨rfl, I18, rfl, hr18⟩ := hq18
    have hs18 := k_rp_i hr18
    have hT18 := k_tw_r het (by assumption) hr18
    have hl18 := k_fl_r (by assumption) hr18
    have hf18 := k_ft_t (by assumption) (k_ft_r (t := t) hr18)
    show AW G mX6_readForgetting d (fun v w => v = none ∧ ∃ J, w = (sh, J, R, L, g) ∧ k_rt I J e t tp n (x_forg tp n (s, T, fl))) (fun _ _ => False) 21 [some (.ref e), some (.ref t)] [] (sh, I18, R, L, g) 0 0
    refine AW.aload_n dX6_readForgetting_21 rfl ?_
    refine AW.aload_n dX6_readForgetting_22 rfl ?_
    refine AW.iconst 1 dX6_readForgetting_23 (by decide) ?_
    refine AW.sipush 999 dX6_readForgetting_24 (by decide) ?_
    refine AW.callV (b := e) (As := [.int 1, .int 999]) hG.2.2 (vX6_153 hG) (he.1 0 _ rfl) (k_X6_readNumber hK (d := 6) (Nat.le_refl _) hr (by assumption) 1 999) (by omega) dX6_readForgetting_27 rfl rfl (Nat.le_of_ble_eq_true rfl) (fun v w9 hq9 h09 => by obtain ⟨rfl, J9, rfl, -⟩ := hq9; exact ⟨h09, rfl⟩) (by decide) (by decide) (fun _ _ hx => hx) (fun v27 w27 hq27 => ?_)
    obtain ⟨rfl, I27, rfl, hr27⟩ := hq27
    have hs27 := k_rp_i hr27
    have hT27 := k_tw_r het (by assumption) hr27
    have hl27 := k_fl_r (by assumption) hr27
    have hf27 := k_ft_t (by assumption) (k_ft_r (t := t) hr27)
    refine AW.nam (fun x27 ex27 => ?_)
    refine AW.putI (fX6_202 hG) rfl (vp_nar_int _) rfl (ht.1 0 _ rfl) dX6_readForgetting_30 ?_
    refine AW.namI (fun I30 eI30 => ?_)
    exact AW.vret dX6_readForgetting_33 rfl (by decide) (by decide) (by
      have ho : ∀ a, (a < t ∨ t + 19 ≤ a) → I30 a = I27 a := fun a h => by rw [eI30, am_up_o _ _ _ _ (by omega)]
      refine ⟨rfl, I30, rfl, k_ft_t hf27 (k_ft_w het ho), by have := k_s_w het hs27 ho; rw [hs0] at this; exact this, by have := k_fl_w het hl27 ho; exact this, fun h => ?_⟩
      have h9 := k_tw_fo eI30 hT27
      rw [ex27, hs0] at h9
      exact h9)
  refine AW.aload_n dX6_readForgetting_0 rfl ?_
  refine AW.getI (fX6_42 hG).r rfl (he.1 0 _ rfl) dX6_readForgetting_1 ?_
  refine AW.if_eq 12 dX6_readForgetting_4 (by decide) (fun h4 => ?_) (fun h4 => ?_)
  · have q4 : fl.1 = 0 := hl.1.symm.trans h4
    exact J12 I _ ⟨by rw [if_pos q4], hf, hs, hl, hT⟩
  · have q4 : ¬ fl.1 = 0 := fun h => h4 (hl.1.trans h)
    refine AW.aload_n dX6_readForgetting_7 rfl ?_
    refine AW.iconst 5 dX6_readForgetting_8 (by decide) ?_
    refine AW.callV (b := e) (As := [.int 5]) hG.2.2 (vX6_97 hG) (he.1 0 _ rfl) (k_X6_fail hK (d := 0) (Nat.le_refl _) he (by assumption) 5) (by omega) dX6_readForgetting_9 rfl rfl (Nat.le_of_ble_eq_true rfl) (fun v w9 hq9 h09 => by obtain ⟨rfl, J9, rfl, -⟩ := hq9; exact ⟨h09, rfl⟩) (by decide) (by decide) (fun _ _ hx => hx) (fun v9 w9 hq9 => ?_)
    obtain ⟨rfl, I9, rfl, hr9⟩ := hq9
    have hs9 := k_rp_i hr9
    have hT9 := k_tw_r het (by assumption) hr9
    have hl9 := k_fl_r (by assumption) hr9
    have hf9 := k_ft_t (by assumption) (k_ft_r (t := t) hr9)
    show AW G mX6_readForgetting d (fun v w => v = none ∧ ∃ J, w = (sh, J, R, L, g) ∧ k_rt I J e t tp n (x_forg tp n (s, T, fl))) (fun _ _ => False) 12 [some (.ref e), some (.ref t)] [] (sh, I9, R, L, g) 0 0
    exact J12 I9 _ ⟨by rw [if_neg q4], hf9, hs9, hl9, hT9⟩
theorem dX6_readNoonHour_0 : decode cX6_readNoonHour 0 = .ok (.aload_n 0, 1) := by decide +kernel
theorem dX6_readNoonHour_1 : decode cX6_readNoonHour 1 = .ok (.getfield 46, 3) := by decide +kernel
theorem dX6_readNoonHour_4 : decode cX6_readNoonHour 4 = .ok (.ifCond .eq 8, 3) := by decide +kernel
theorem dX6_readNoonHour_7 : decode cX6_readNoonHour 7 = .ok (.aload_n 0, 1) := by decide +kernel
theorem dX6_readNoonHour_8 : decode cX6_readNoonHour 8 = .ok (.iconst 5, 1) := by decide +kernel
theorem dX6_readNoonHour_9 : decode cX6_readNoonHour 9 = .ok (.invokevirtual 97, 3) := by decide +kernel
theorem dX6_readNoonHour_12 : decode cX6_readNoonHour 12 = .ok (.aload_n 0, 1) := by decide +kernel
theorem dX6_readNoonHour_13 : decode cX6_readNoonHour 13 = .ok (.iconst 1, 1) := by decide +kernel
theorem dX6_readNoonHour_14 : decode cX6_readNoonHour 14 = .ok (.putfield 46, 3) := by decide +kernel
theorem dX6_readNoonHour_17 : decode cX6_readNoonHour 17 = .ok (.aload_n 0, 1) := by decide +kernel
theorem dX6_readNoonHour_18 : decode cX6_readNoonHour 18 = .ok (.invokevirtual 52, 3) := by decide +kernel
theorem dX6_readNoonHour_21 : decode cX6_readNoonHour 21 = .ok (.aload_n 1, 1) := by decide +kernel
theorem dX6_readNoonHour_22 : decode cX6_readNoonHour 22 = .ok (.aload_n 0, 1) := by decide +kernel
theorem dX6_readNoonHour_23 : decode cX6_readNoonHour 23 = .ok (.iconst 1, 1) := by decide +kernel
theorem dX6_readNoonHour_24 : decode cX6_readNoonHour 24 = .ok (.bipush 23, 2) := by decide +kernel
theorem dX6_readNoonHour_26 : decode cX6_readNoonHour 26 = .ok (.invokevirtual 153, 3) := by decide +kernel
theorem dX6_readNoonHour_29 : decode cX6_readNoonHour 29 = .ok (.putfield 205, 3) := by decide +kernel
theorem dX6_readNoonHour_32 : decode cX6_readNoonHour 32 = .ok (.return_, 1) := by decide +kernel
set_option maxRecDepth 100000 in
set_option maxHeartbeats 4000000 in
theorem k_X6_readNoonHour {G : am_G} (hK : k_OK G) {d : Nat} (hd : 7 ≤ d) {sh : List (Nat ⊕ (Nat × Nat))} {I : Nat → Nat → Int32} {R : Nat → Nat → Option Nat} {L : Nat → Nat → Int64} {g : Nat} {e n t : Nat} {tp : Nat → Int32} {s : Int32 × Nat} {T : x_T} {fl : x_F} (hr : k_rd sh R e tp n) (ht : k_Town sh R t) (het : e + 2 ≤ t ∨ t + 19 ≤ e) (hs : k_s I e tp n s) (hl : k_fl I e fl) (hT : k_tw I t T) : AM G mX6_readNoonHour d [.ref e, .ref t] (sh, I, R, L, g) (fun v w => v = none ∧ ∃ J, w = (sh, J, R, L, g) ∧ k_rt I J e t tp n (x_noon tp n (s, T, fl))) (fun _ _ => False) := by
  have hG := hK.1
  have he := hr.1
  have hn6 := hr.2.1
  have hf := k_ft_0 I e t
  refine AM.of (n := 0) (by decide +kernel) (Nat.le_of_ble_eq_true rfl) ?_
  show AW G mX6_readNoonHour d (fun v w => v = none ∧ ∃ J, w = (sh, J, R, L, g) ∧ k_rt I J e t tp n (x_noon tp n (s, T, fl))) (fun _ _ => False) 0 [some (.ref e), some (.ref t)] [] (sh, I, R, L, g) 0 0
  have J12 : ∀ (J : Nat → Nat → Int32) (s9 : Int32 × Nat), (s9 = (if fl.2.1 = 0 then s else x_fail 5 s) ∧ k_ft I J e t ∧ k_s J e tp n s9 ∧ k_fl J e fl ∧ k_tw J t T) → AW G mX6_readNoonHour d (fun v w => v = none ∧ ∃ J, w = (sh, J, R, L, g) ∧ k_rt I J e t tp n (x_noon tp n (s, T, fl))) (fun _ _ => False) 12 [some (.ref e), some (.ref t)] [] (sh, J, R, L, g) 0 0 := by
    intro J s9 hi12
    obtain ⟨hs0, hfJ, hsJ, hlJ, hTJ⟩ := hi12
    refine AW.aload_n dX6_readNoonHour_12 rfl ?_
    refine AW.iconst 1 dX6_readNoonHour_13 (by decide) ?_
    refine AW.putI (fX6_46 hG) rfl (by decide) (by decide) (he.1 0 _ rfl) dX6_readNoonHour_14 ?_
    refine AW.namI (fun I14 eI14 => ?_)
    have hsB := k_sf (t := t) (by decide) eI14 hsJ
    have hfB := k_ft_t hfJ (k_ff (t := t) (by decide) eI14)
    have hTB := k_twf het eI14 hTJ
    have hlB := k_fl9 eI14 hlJ
    clear hsJ hTJ hlJ hfJ hs hT hl hf
    refine AW.aload_n dX6_readNoonHour_17 rfl ?_
    refine AW.callV (b := e) (As := []) hG.2.2 (vX6_52 hG) (he.1 0 _ rfl) (k_X6_advS hK (d := 5) (Nat.le_refl _) hr (by assumption)) (by omega) dX6_readNoonHour_18 rfl rfl (Nat.le_of_ble_eq_true rfl) (fun v w9 hq9 h09 => by obtain ⟨rfl, J9, rfl, -⟩ := hq9; exact ⟨h09, rfl⟩) (by decide) (by decide) (fun _ _ hx => hx) (fun v18 w18 hq18 => ?_)
    obtain ⟨rfl, I18, rfl, hr18⟩ := hq18
    have hs18 := k_rp_i hr18
    have hT18 := k_tw_r het (by assumption) hr18
    have hl18 := k_fl_r (by assumption) hr18
    have hf18 := k_ft_t (by assumption) (k_ft_r (t := t) hr18)
    show AW G mX6_readNoonHour d (fun v w => v = none ∧ ∃ J, w = (sh, J, R, L, g) ∧ k_rt I J e t tp n (x_noon tp n (s, T, fl))) (fun _ _ => False) 21 [some (.ref e), some (.ref t)] [] (sh, I18, R, L, g) 0 0
    refine AW.aload_n dX6_readNoonHour_21 rfl ?_
    refine AW.aload_n dX6_readNoonHour_22 rfl ?_
    refine AW.iconst 1 dX6_readNoonHour_23 (by decide) ?_
    refine AW.bipush 23 dX6_readNoonHour_24 (by decide) ?_
    refine AW.callV (b := e) (As := [.int 1, .int 23]) hG.2.2 (vX6_153 hG) (he.1 0 _ rfl) (k_X6_readNumber hK (d := 6) (Nat.le_refl _) hr (by assumption) 1 23) (by omega) dX6_readNoonHour_26 rfl rfl (Nat.le_of_ble_eq_true rfl) (fun v w9 hq9 h09 => by obtain ⟨rfl, J9, rfl, -⟩ := hq9; exact ⟨h09, rfl⟩) (by decide) (by decide) (fun _ _ hx => hx) (fun v26 w26 hq26 => ?_)
    obtain ⟨rfl, I26, rfl, hr26⟩ := hq26
    have hs26 := k_rp_i hr26
    have hT26 := k_tw_r het (by assumption) hr26
    have hl26 := k_fl_r (by assumption) hr26
    have hf26 := k_ft_t (by assumption) (k_ft_r (t := t) hr26)
    refine AW.nam (fun x26 ex26 => ?_)
    refine AW.putI (fX6_205 hG) rfl (vp_nar_int _) rfl (ht.1 0 _ rfl) dX6_readNoonHour_29 ?_
    refine AW.namI (fun I29 eI29 => ?_)
    exact AW.vret dX6_readNoonHour_32 rfl (by decide) (by decide) (by
      have ho : ∀ a, (a < t ∨ t + 19 ≤ a) → I29 a = I26 a := fun a h => by rw [eI29, am_up_o _ _ _ _ (by omega)]
      refine ⟨rfl, I29, rfl, k_ft_t hf26 (k_ft_w het ho), by have := k_s_w het hs26 ho; rw [hs0] at this; exact this, by have := k_fl_w het hl26 ho; exact this, fun h => ?_⟩
      have h9 := k_tw_no eI29 hT26
      rw [ex26, hs0] at h9
      exact h9)
  refine AW.aload_n dX6_readNoonHour_0 rfl ?_
  refine AW.getI (fX6_46 hG).r rfl (he.1 0 _ rfl) dX6_readNoonHour_1 ?_
  refine AW.if_eq 12 dX6_readNoonHour_4 (by decide) (fun h4 => ?_) (fun h4 => ?_)
  · have q4 : fl.2.1 = 0 := hl.2.1.symm.trans h4
    exact J12 I _ ⟨by rw [if_pos q4], hf, hs, hl, hT⟩
  · have q4 : ¬ fl.2.1 = 0 := fun h => h4 (hl.2.1.trans h)
    refine AW.aload_n dX6_readNoonHour_7 rfl ?_
    refine AW.iconst 5 dX6_readNoonHour_8 (by decide) ?_
    refine AW.callV (b := e) (As := [.int 5]) hG.2.2 (vX6_97 hG) (he.1 0 _ rfl) (k_X6_fail hK (d := 0) (Nat.le_refl _) he (by assumption) 5) (by omega) dX6_readNoonHour_9 rfl rfl (Nat.le_of_ble_eq_true rfl) (fun v w9 hq9 h09 => by obtain ⟨rfl, J9, rfl, -⟩ := hq9; exact ⟨h09, rfl⟩) (by decide) (by decide) (fun _ _ hx => hx) (fun v9 w9 hq9 => ?_)
    obtain ⟨rfl, I9, rfl, hr9⟩ := hq9
    have hs9 := k_rp_i hr9
    have hT9 := k_tw_r het (by assumption) hr9
    have hl9 := k_fl_r (by assumption) hr9
    have hf9 := k_ft_t (by assumption) (k_ft_r (t := t) hr9)
    show AW G mX6_readNoonHour d (fun v w => v = none ∧ ∃ J, w = (sh, J, R, L, g) ∧ k_rt I J e t tp n (x_noon tp n (s, T, fl))) (fun _ _ => False) 12 [some (.ref e), some (.ref t)] [] (sh, I9, R, L, g) 0 0
    exact J12 I9 _ ⟨by rw [if_neg q4], hf9, hs9, hl9, hT9⟩
theorem dX6_readRule_0 : decode cX6_readRule 0 = .ok (.aload_n 0, 1) := by decide +kernel
theorem dX6_readRule_1 : decode cX6_readRule 1 = .ok (.getfield 49, 3) := by decide +kernel
theorem dX6_readRule_4 : decode cX6_readRule 4 = .ok (.ifCond .eq 9, 3) := by decide +kernel
theorem dX6_readRule_7 : decode cX6_readRule 7 = .ok (.aload_n 0, 1) := by decide +kernel
theorem dX6_readRule_8 : decode cX6_readRule 8 = .ok (.iconst 5, 1) := by decide +kernel
theorem dX6_readRule_9 : decode cX6_readRule 9 = .ok (.invokevirtual 97, 3) := by decide +kernel
theorem dX6_readRule_12 : decode cX6_readRule 12 = .ok (.return_, 1) := by decide +kernel
theorem dX6_readRule_13 : decode cX6_readRule 13 = .ok (.aload_n 0, 1) := by decide +kernel
theorem dX6_readRule_14 : decode cX6_readRule 14 = .ok (.iconst 1, 1) := by decide +kernel
theorem dX6_readRule_15 : decode cX6_readRule 15 = .ok (.putfield 49, 3) := by decide +kernel
theorem dX6_readRule_18 : decode cX6_readRule 18 = .ok (.aload_n 0, 1) := by decide +kernel
theorem dX6_readRule_19 : decode cX6_readRule 19 = .ok (.invokevirtual 52, 3) := by decide +kernel
theorem dX6_readRule_22 : decode cX6_readRule 22 = .ok (.aload_n 0, 1) := by decide +kernel
theorem dX6_readRule_23 : decode cX6_readRule 23 = .ok (.aload_n 1, 1) := by decide +kernel
theorem dX6_readRule_24 : decode cX6_readRule 24 = .ok (.getfield 208, 3) := by decide +kernel
theorem dX6_readRule_27 : decode cX6_readRule 27 = .ok (.iconst 0, 1) := by decide +kernel
theorem dX6_readRule_28 : decode cX6_readRule 28 = .ok (.invokevirtual 212, 3) := by decide +kernel
theorem dX6_readRule_31 : decode cX6_readRule 31 = .ok (.return_, 1) := by decide +kernel
set_option maxRecDepth 100000 in
set_option maxHeartbeats 4000000 in
theorem k_X6_readRule {G : am_G} (hK : k_OK G) {d : Nat} (hd : 51 ≤ d) {sh : List (Nat ⊕ (Nat × Nat))} {I : Nat → Nat → Int32} {R : Nat → Nat → Option Nat} {L : Nat → Nat → Int64} {g : Nat} {e n t : Nat} {tp : Nat → Int32} {s : Int32 × Nat} {T : x_T} {fl : x_F} (hr : k_rd sh R e tp n) (ht : k_Town sh R t) (het : e + 2 ≤ t ∨ t + 19 ≤ e) (hs : k_s I e tp n s) (hl : k_fl I e fl) (hT : k_tw I t T) : AM G mX6_readRule d [.ref e, .ref t] (sh, I, R, L, g) (fun v w => v = none ∧ ∃ J, w = (sh, J, R, L, g) ∧ k_rt I J e t tp n (x_rule tp n (s, T, fl))) (fun _ _ => False) := by
  have hG := hK.1
  have he := hr.1
  have hn6 := hr.2.1
  have hf := k_ft_0 I e t
  refine AM.of (n := 0) (by decide +kernel) (Nat.le_of_ble_eq_true rfl) ?_
  show AW G mX6_readRule d (fun v w => v = none ∧ ∃ J, w = (sh, J, R, L, g) ∧ k_rt I J e t tp n (x_rule tp n (s, T, fl))) (fun _ _ => False) 0 [some (.ref e), some (.ref t)] [] (sh, I, R, L, g) 0 0
  refine AW.aload_n dX6_readRule_0 rfl ?_
  refine AW.getI (fX6_49 hG).r rfl (he.1 0 _ rfl) dX6_readRule_1 ?_
  refine AW.if_eq 13 dX6_readRule_4 (by decide) (fun h4 => ?_) (fun h4 => ?_)
  · have q4 : fl.2.2 = 0 := hl.2.2.symm.trans h4
    refine AW.aload_n dX6_readRule_13 rfl ?_
    refine AW.iconst 1 dX6_readRule_14 (by decide) ?_
    refine AW.putI (fX6_49 hG) rfl (by decide) (by decide) (he.1 0 _ rfl) dX6_readRule_15 ?_
    refine AW.namI (fun I15 eI15 => ?_)
    have hsB := k_sf (t := t) (by decide) eI15 hs
    have hfB := k_ft_t hf (k_ff (t := t) (by decide) eI15)
    have hTB := k_twf het eI15 hT
    have hlB := k_fl10 eI15 hl
    clear hs hT hl hf
    refine AW.aload_n dX6_readRule_18 rfl ?_
    refine AW.callV (b := e) (As := []) hG.2.2 (vX6_52 hG) (he.1 0 _ rfl) (k_X6_advS hK (d := 5) (Nat.le_refl _) hr (by assumption)) (by omega) dX6_readRule_19 rfl rfl (Nat.le_of_ble_eq_true rfl) (fun v w9 hq9 h09 => by obtain ⟨rfl, J9, rfl, -⟩ := hq9; exact ⟨h09, rfl⟩) (by decide) (by decide) (fun _ _ hx => hx) (fun v19 w19 hq19 => ?_)
    obtain ⟨rfl, I19, rfl, hr19⟩ := hq19
    have hs19 := k_rp_i hr19
    have hT19 := k_tw_r het (by assumption) hr19
    have hl19 := k_fl_r (by assumption) hr19
    have hf19 := k_ft_t (by assumption) (k_ft_r (t := t) hr19)
    show AW G mX6_readRule d (fun v w => v = none ∧ ∃ J, w = (sh, J, R, L, g) ∧ k_rt I J e t tp n (x_rule tp n (s, T, fl))) (fun _ _ => False) 22 [some (.ref e), some (.ref t)] [] (sh, I19, R, L, g) 0 0
    have hst := hT19.2.2.2.2.2
    refine AW.aload_n dX6_readRule_22 rfl ?_
    refine AW.aload_n dX6_readRule_23 rfl ?_
    refine AW.getR (c' := (t + 16)) (fX6_208 hG) rfl (ht.1 0 _ rfl) (ht.2 (0, 12, 16) (by decide)) dX6_readRule_24 ?_
    refine AW.iconst 0 dX6_readRule_27 (by decide) ?_
    refine AW.callV (b := e) (As := [.ref (t + 16), .int 0]) hG.2.2 (vX6_212 hG) (he.1 0 _ rfl) (k_X6_readRuleE hK (d := 50) (Nat.le_refl _) hr (k_sub_Town_16 ht) (by omega) (by assumption) (by assumption)) (by omega) dX6_readRule_28 rfl rfl (Nat.le_of_ble_eq_true rfl) (fun v w9 hq9 h09 => by obtain ⟨rfl, J9, rfl, -⟩ := hq9; exact ⟨h09, rfl⟩) (by decide) (by decide) (fun _ _ hx => hx) (fun v28 w28 hq28 => ?_)
    obtain ⟨rfl, I28, rfl, hg28⟩ := hq28
    show AW G mX6_readRule d (fun v w => v = none ∧ ∃ J, w = (sh, J, R, L, g) ∧ k_rt I J e t tp n (x_rule tp n (s, T, fl))) (fun _ _ => False) 31 [some (.ref e), some (.ref t)] [] (sh, I28, R, L, g) 0 0
    exact AW.vret dX6_readRule_31 rfl (by decide) (by decide) (⟨rfl, I28, rfl, by unfold x_rule; rw [if_pos q4]; exact ⟨k_ft_t hf19 (k_ft_ru hg28.1), hg28.2.1, k_fl_ru hg28.1 hl19, fun _ => k_tw_ru het hg28.1 hT19 hg28.2.2⟩⟩)
  · have q4 : ¬ fl.2.2 = 0 := fun h => h4 (hl.2.2.trans h)
    refine AW.aload_n dX6_readRule_7 rfl ?_
    refine AW.iconst 5 dX6_readRule_8 (by decide) ?_
    refine AW.callV (b := e) (As := [.int 5]) hG.2.2 (vX6_97 hG) (he.1 0 _ rfl) (k_X6_fail hK (d := 0) (Nat.le_refl _) he (by assumption) 5) (by omega) dX6_readRule_9 rfl rfl (Nat.le_of_ble_eq_true rfl) (fun v w9 hq9 h09 => by obtain ⟨rfl, J9, rfl, -⟩ := hq9; exact ⟨h09, rfl⟩) (by decide) (by decide) (fun _ _ hx => hx) (fun v9 w9 hq9 => ?_)
    obtain ⟨rfl, I9, rfl, hr9⟩ := hq9
    have hs9 := k_rp_i hr9
    have hT9 := k_tw_r het (by assumption) hr9
    have hl9 := k_fl_r (by assumption) hr9
    have hf9 := k_ft_t (by assumption) (k_ft_r (t := t) hr9)
    show AW G mX6_readRule d (fun v w => v = none ∧ ∃ J, w = (sh, J, R, L, g) ∧ k_rt I J e t tp n (x_rule tp n (s, T, fl))) (fun _ _ => False) 12 [some (.ref e), some (.ref t)] [] (sh, I9, R, L, g) 0 0
    exact AW.vret dX6_readRule_12 rfl (by decide) (by decide) (⟨rfl, I9, rfl, by unfold x_rule; rw [if_neg q4]; exact ⟨hf9, hs9, hl9, fun _ => hT9⟩⟩)
