/-! READER: MEETINGS, LOAVES -/
def f_am (I : Nat → Nat → Int32) (t m : Nat) (a o d : Int32) : Nat → Nat → Int32 := am_uA (am_uA (am_uA (am_uA I (t + 5) (upd (I (t + 5)) m a)) (t + 6) (upd (I (t + 6)) m o)) (t + 7) (upd (I (t + 7)) m d)) t (upd (I t) 1 (I t 1 + 1))
theorem f_am_o {I : Nat → Nat → Int32} {t m : Nat} {x y z : Int32} : ∀ a, a ≠ t → (a < t + 5 ∨ t + 8 ≤ a) → f_am I t m x y z a = I a := fun a h1 h => by unfold f_am; simp (disch := omega) only [am_uA_o]
theorem k_tw_mt {I : Nat → Nat → Int32} {t : Nat} {T : x_T} (hT : k_tw I t T) (h16 : T.2.2.1.length < 16) (x y z : Int32) : k_tw (f_am I t T.2.2.1.length x y z) t (T.1, T.2.1, T.2.2.1 ++ [(x, y, z)], T.2.2.2) := by
  obtain ⟨h1, h2, h3, h4, h5, h6⟩ := hT
  have et : ∀ k, k ≠ 1 → f_am I t T.2.2.1.length x y z t k = I t k := fun k hk => by unfold f_am; rw [am_uA_s, upd_o hk]
  have e5 : f_am I t T.2.2.1.length x y z (t + 5) = upd (I (t + 5)) T.2.2.1.length x := by unfold f_am; simp (disch := omega) only [am_uA_o, am_uA_s]
  have e6 : f_am I t T.2.2.1.length x y z (t + 6) = upd (I (t + 6)) T.2.2.1.length y := by unfold f_am; simp (disch := omega) only [am_uA_o, am_uA_s]
  have e7 : f_am I t T.2.2.1.length x y z (t + 7) = upd (I (t + 7)) T.2.2.1.length z := by unfold f_am; simp (disch := omega) only [am_uA_o, am_uA_s]
  refine ⟨k_tp_o h1 (et 0 (by decide)) (fun a _ _ => f_am_o a (by omega) (by omega)), k_tl_o h2 (fun a _ _ => f_am_o a (by omega) (by omega)), ?_, (et 2 (by decide)).trans h4, (et 3 (by decide)).trans h5, k_st_o h6 (f_am_o _ (by omega) (by omega)) (f_am_o _ (by omega) (by omega))⟩
  have hl : (T.2.2.1 ++ [(x, y, z)]).length = T.2.2.1.length + 1 := by rw [List.length_append]; rfl
  unfold k_tm
  rw [hl, e5, e6, e7]
  refine ⟨by unfold f_am; rw [am_uA_s, pk_us, h3.1, nI_1], h16, fun j hj => ?_⟩
  by_cases e : j = T.2.2.1.length
  · rw [e, getD_eq, pk_us, pk_us, pk_us]; exact ⟨rfl, rfl, rfl⟩
  · rw [getD_lt (by omega), upd_o e, upd_o e, upd_o e]; exact h3.2.2 j (by omega)
def x_mtk (s2 : Int32 × Nat) (v : Int32) : Int32 := if s2.1 = 0 then (1 : Int32) <<< (v &&& 31) else 0
def x_me1 (tp : Nat → Int32) (n : Nat) (s : Int32 × Nat) (ms : List x_P) : Int32 × Nat := x_adv tp n (if 16 ≤ ms.length then x_fail 2 s else s)
def x_meet (tp : Nat → Int32) (n : Nat) (q : x_K) : x_K :=
  let s1 := x_me1 tp n q.1 q.2.1.2.2.1
  let s2 := x_pn tp n q.2.1.1.length 0 s1
  let v1 := x_pv tp n q.2.1.1.length 0 s1
  let s3 := x_pn tp n q.2.1.1.length (x_mtk s2 v1) s2
  let s4 := x_rn tp n 0 999 s3
  (s4, (if s4.1 = 0 then (q.2.1.1, q.2.1.2.1, q.2.1.2.2.1 ++ [(v1, x_pv tp n q.2.1.1.length (x_mtk s2 v1) s2, x_rv tp n 0 999 s3)], q.2.1.2.2.2) else q.2.1), q.2.2)
theorem dX6_readMeeting_0 : decode cX6_readMeeting 0 = .ok (.aload_n 1, 1) := by decide +kernel
theorem dX6_readMeeting_1 : decode cX6_readMeeting 1 = .ok (.getfield 196, 3) := by decide +kernel
theorem dX6_readMeeting_4 : decode cX6_readMeeting 4 = .ok (.bipush 16, 2) := by decide +kernel
theorem dX6_readMeeting_6 : decode cX6_readMeeting 6 = .ok (.if_icmp .lt 8, 3) := by decide +kernel
theorem dX6_readMeeting_9 : decode cX6_readMeeting 9 = .ok (.aload_n 0, 1) := by decide +kernel
theorem dX6_readMeeting_10 : decode cX6_readMeeting 10 = .ok (.iconst 2, 1) := by decide +kernel
theorem dX6_readMeeting_11 : decode cX6_readMeeting 11 = .ok (.invokevirtual 97, 3) := by decide +kernel
theorem dX6_readMeeting_14 : decode cX6_readMeeting 14 = .ok (.aload_n 0, 1) := by decide +kernel
theorem dX6_readMeeting_15 : decode cX6_readMeeting 15 = .ok (.invokevirtual 52, 3) := by decide +kernel
theorem dX6_readMeeting_18 : decode cX6_readMeeting 18 = .ok (.aload_n 0, 1) := by decide +kernel
theorem dX6_readMeeting_19 : decode cX6_readMeeting 19 = .ok (.aload_n 1, 1) := by decide +kernel
theorem dX6_readMeeting_20 : decode cX6_readMeeting 20 = .ok (.iconst 0, 1) := by decide +kernel
theorem dX6_readMeeting_21 : decode cX6_readMeeting 21 = .ok (.invokevirtual 188, 3) := by decide +kernel
theorem dX6_readMeeting_24 : decode cX6_readMeeting 24 = .ok (.istore_n 2, 1) := by decide +kernel
theorem dX6_readMeeting_25 : decode cX6_readMeeting 25 = .ok (.aload_n 0, 1) := by decide +kernel
theorem dX6_readMeeting_26 : decode cX6_readMeeting 26 = .ok (.aload_n 1, 1) := by decide +kernel
theorem dX6_readMeeting_27 : decode cX6_readMeeting 27 = .ok (.aload_n 0, 1) := by decide +kernel
theorem dX6_readMeeting_28 : decode cX6_readMeeting 28 = .ok (.getfield 39, 3) := by decide +kernel
theorem dX6_readMeeting_31 : decode cX6_readMeeting 31 = .ok (.ifCond .ne 9, 3) := by decide +kernel
theorem dX6_readMeeting_34 : decode cX6_readMeeting 34 = .ok (.iconst 1, 1) := by decide +kernel
theorem dX6_readMeeting_35 : decode cX6_readMeeting 35 = .ok (.iload_n 2, 1) := by decide +kernel
theorem dX6_readMeeting_36 : decode cX6_readMeeting 36 = .ok (.ishl, 1) := by decide +kernel
theorem dX6_readMeeting_37 : decode cX6_readMeeting 37 = .ok (.goto 4, 3) := by decide +kernel
theorem dX6_readMeeting_40 : decode cX6_readMeeting 40 = .ok (.iconst 0, 1) := by decide +kernel
theorem dX6_readMeeting_41 : decode cX6_readMeeting 41 = .ok (.invokevirtual 188, 3) := by decide +kernel
theorem dX6_readMeeting_44 : decode cX6_readMeeting 44 = .ok (.istore_n 3, 1) := by decide +kernel
theorem dX6_readMeeting_45 : decode cX6_readMeeting 45 = .ok (.aload_n 0, 1) := by decide +kernel
theorem dX6_readMeeting_46 : decode cX6_readMeeting 46 = .ok (.iconst 0, 1) := by decide +kernel
theorem dX6_readMeeting_47 : decode cX6_readMeeting 47 = .ok (.sipush 999, 3) := by decide +kernel
theorem dX6_readMeeting_50 : decode cX6_readMeeting 50 = .ok (.invokevirtual 153, 3) := by decide +kernel
theorem dX6_readMeeting_53 : decode cX6_readMeeting 53 = .ok (.istore 4, 2) := by decide +kernel
theorem dX6_readMeeting_55 : decode cX6_readMeeting 55 = .ok (.aload_n 0, 1) := by decide +kernel
theorem dX6_readMeeting_56 : decode cX6_readMeeting 56 = .ok (.getfield 39, 3) := by decide +kernel
theorem dX6_readMeeting_59 : decode cX6_readMeeting 59 = .ok (.ifCond .ne 11, 3) := by decide +kernel
theorem dX6_readMeeting_62 : decode cX6_readMeeting 62 = .ok (.aload_n 1, 1) := by decide +kernel
theorem dX6_readMeeting_63 : decode cX6_readMeeting 63 = .ok (.iload_n 2, 1) := by decide +kernel
theorem dX6_readMeeting_64 : decode cX6_readMeeting 64 = .ok (.iload_n 3, 1) := by decide +kernel
theorem dX6_readMeeting_65 : decode cX6_readMeeting 65 = .ok (.iload 4, 2) := by decide +kernel
theorem dX6_readMeeting_67 : decode cX6_readMeeting 67 = .ok (.invokevirtual 199, 3) := by decide +kernel
theorem dX6_readMeeting_70 : decode cX6_readMeeting 70 = .ok (.return_, 1) := by decide +kernel
set_option maxRecDepth 100000 in
set_option maxHeartbeats 4000000 in
theorem k_X6_readMeeting {G : am_G} (hK : k_OK G) {d : Nat} (hd : 7 ≤ d) {sh : List (Nat ⊕ (Nat × Nat))} {I : Nat → Nat → Int32} {R : Nat → Nat → Option Nat} {L : Nat → Nat → Int64} {g : Nat} {e n t : Nat} {tp : Nat → Int32} {s : Int32 × Nat} {T : x_T} {fl : x_F} (hr : k_rd sh R e tp n) (ht : k_Town sh R t) (het : e + 2 ≤ t ∨ t + 19 ≤ e) (hs : k_s I e tp n s) (hl : k_fl I e fl) (hT : k_tw I t T) : AM G mX6_readMeeting d [.ref e, .ref t] (sh, I, R, L, g) (fun v w => v = none ∧ ∃ J, w = (sh, J, R, L, g) ∧ k_rt I J e t tp n (x_meet tp n (s, T, fl))) (fun _ _ => False) := by
  have hG := hK.1
  have he := hr.1
  have hn6 := hr.2.1
  have hf := k_ft_0 I e t
  have hm9 := hT.2.2.1.1
  have hm16 := hT.2.2.1.2.1
  refine AM.of (n := 3) (by decide +kernel) (Nat.le_of_ble_eq_true rfl) ?_
  show AW G mX6_readMeeting d (fun v w => v = none ∧ ∃ J, w = (sh, J, R, L, g) ∧ k_rt I J e t tp n (x_meet tp n (s, T, fl))) (fun _ _ => False) 0 [some (.ref e), some (.ref t), none, none, none] [] (sh, I, R, L, g) 0 0
  have J41 : ∀ (J : Nat → Nat → Int32) (x2 tk : Int32) (s2 : Int32 × Nat), (s2 = x_pn tp n T.1.length 0 (x_me1 tp n s T.2.2.1) ∧ x2 = x_pv tp n T.1.length 0 (x_me1 tp n s T.2.2.1) ∧ tk = x_mtk s2 x2 ∧ k_ft I J e t ∧ k_s J e tp n s2 ∧ k_fl J e fl ∧ k_tw J t T) → AW G mX6_readMeeting d (fun v w => v = none ∧ ∃ J, w = (sh, J, R, L, g) ∧ k_rt I J e t tp n (x_meet tp n (s, T, fl))) (fun _ _ => False) 41 [some (.ref e), some (.ref t), some (.int x2), none, none] [.int tk, .ref t, .ref e] (sh, J, R, L, g) 0 0 := by
    intro J x2 tk s2 hi41
    obtain ⟨hs2, hx2, htk, hfJ, hsJ, hlJ, hTJ⟩ := hi41
    clear hs hl hT hf hm9
    have hpn := hTJ.1.1
    refine AW.callV (b := e) (As := [.ref t, .int tk]) hG.2.2 (vX6_188 hG) (he.1 0 _ rfl) (k_X6_readPerson hK (d := 6) (Nat.le_refl _) hr (by assumption) ht (by assumption) tk) (by omega) dX6_readMeeting_41 rfl rfl (Nat.le_of_ble_eq_true rfl) (fun v w9 hq9 h09 => by obtain ⟨rfl, J9, rfl, -⟩ := hq9; exact ⟨h09, rfl⟩) (by decide) (by decide) (fun _ _ hx => hx) (fun v41 w41 hq41 => ?_)
    obtain ⟨rfl, I41, rfl, hr41⟩ := hq41
    have hs41 := k_rp_i hr41
    have hT41 := k_tw_r het (by assumption) hr41
    have hl41 := k_fl_r (by assumption) hr41
    have hf41 := k_ft_t (by assumption) (k_ft_r (t := t) hr41)
    refine AW.nam (fun x41 ex41 => ?_)
    refine AW.is_n [some (.ref e), some (.ref t), some (.int x2), some (.int x41), none] dX6_readMeeting_44 (by decide) rfl rfl ?_
    refine AW.aload_n dX6_readMeeting_45 rfl ?_
    refine AW.iconst 0 dX6_readMeeting_46 (by decide) ?_
    refine AW.sipush 999 dX6_readMeeting_47 (by decide) ?_
    refine AW.callV (b := e) (As := [.int 0, .int 999]) hG.2.2 (vX6_153 hG) (he.1 0 _ rfl) (k_X6_readNumber hK (d := 6) (Nat.le_refl _) hr (by assumption) 0 999) (by omega) dX6_readMeeting_50 rfl rfl (Nat.le_of_ble_eq_true rfl) (fun v w9 hq9 h09 => by obtain ⟨rfl, J9, rfl, -⟩ := hq9; exact ⟨h09, rfl⟩) (by decide) (by decide) (fun _ _ hx => hx) (fun v50 w50 hq50 => ?_)
    obtain ⟨rfl, I50, rfl, hr50⟩ := hq50
    have hs50 := k_rp_i hr50
    have hT50 := k_tw_r het (by assumption) hr50
    have hl50 := k_fl_r (by assumption) hr50
    have hf50 := k_ft_t (by assumption) (k_ft_r (t := t) hr50)
    refine AW.nam (fun x50 ex50 => ?_)
    refine AW.is [some (.ref e), some (.ref t), some (.int x2), some (.int x41), some (.int x50)] dX6_readMeeting_53 (by decide) rfl rfl ?_
    refine AW.aload_n dX6_readMeeting_55 rfl ?_
    refine AW.getI (fX6_39 hG).r rfl (he.1 0 _ rfl) dX6_readMeeting_56 ?_
    refine AW.if_ne 70 dX6_readMeeting_59 (by decide) (fun h59 => ?_) (fun h59 => ?_)
    · have q59 := fun h => h59 (hs50.1.trans h)
      exact AW.vret dX6_readMeeting_70 rfl (by decide) (by decide) (⟨rfl, I50, rfl, hf50, by subst hs2 hx2 htk; exact hs50, hl50, fun h => absurd (by subst hs2 hx2 htk; exact h) q59⟩)
    · have q59 := hs50.1.symm.trans h59
      have h8 := x_pn_0 (x_rn_0 q59)
      rw [hs2] at h8
      have h9 := x_adv_0 (x_pn_0 h8)
      have w16 : T.2.2.1.length < 16 := by
        rcases Nat.lt_or_ge T.2.2.1.length 16 with h | h
        · exact h
        · rw [if_pos h] at h9; exact absurd h9 (x_fail_n (by decide) _)
      have hm50 := hT50.2.2.1.1
      refine AW.aload_n dX6_readMeeting_62 rfl ?_
      refine AW.iload_n dX6_readMeeting_63 rfl ?_
      refine AW.iload_n dX6_readMeeting_64 rfl ?_
      refine AW.iload dX6_readMeeting_65 rfl ?_
      refine AW.callV (b := t) (As := [.int x2, .int x41, .int x50]) hG.2.2 (vX6_199 hG) (ht.1 0 _ rfl) (k_X9_addMet hK (d := 0) (Nat.le_refl _) ht hm50 w16 _ _ _) (by omega) dX6_readMeeting_67 rfl rfl (Nat.le_of_ble_eq_true rfl) (fun v w9 hq9 h09 => by obtain ⟨rfl, rfl⟩ := hq9; exact ⟨h09, rfl⟩) (by decide) (by decide) (fun _ _ hx => hx) (fun v67 w67 hq67 => ?_)
      obtain ⟨rfl, rfl⟩ := hq67
      refine AW.namI (fun I67 eI67 => ?_)
      show AW G mX6_readMeeting d (fun v w => v = none ∧ ∃ J, w = (sh, J, R, L, g) ∧ k_rt I J e t tp n (x_meet tp n (s, T, fl))) (fun _ _ => False) 70 [some (.ref e), some (.ref t), some (.int x2), some (.int x41), some (.int x50)] [] (sh, I67, R, L, g) 0 0
      exact AW.vret dX6_readMeeting_70 rfl (by decide) (by decide) (by
        have e9 : I67 = f_am I50 t T.2.2.1.length x2 x41 x50 := eI67
        have ho : ∀ a, (a < t ∨ t + 19 ≤ a) → I67 a = I50 a := fun a h => by rw [e9, f_am_o a (by omega) (by omega)]
        refine ⟨rfl, I67, rfl, k_ft_t hf50 (k_ft_w het ho), by have := k_s_w het hs50 ho; subst hs2 hx2 htk; exact this, k_fl_w het hl50 ho, fun h => ?_⟩
        have h9 := k_tw_mt hT50 w16 x2 x41 x50
        rw [← e9] at h9
        show k_tw I67 t (if _ then _ else _)
        subst hs2 hx2 htk
        rw [if_pos q59]
        rw [ex41, ex50] at h9
        exact h9)
  have J14 : ∀ (J : Nat → Nat → Int32) (s9 : Int32 × Nat), (s9 = (if 16 ≤ T.2.2.1.length then x_fail 2 s else s) ∧ k_ft I J e t ∧ k_s J e tp n s9 ∧ k_fl J e fl ∧ k_tw J t T) → AW G mX6_readMeeting d (fun v w => v = none ∧ ∃ J, w = (sh, J, R, L, g) ∧ k_rt I J e t tp n (x_meet tp n (s, T, fl))) (fun _ _ => False) 14 [some (.ref e), some (.ref t), none, none, none] [] (sh, J, R, L, g) 0 0 := by
    intro J s9 hi14
    obtain ⟨hs0, hfJ, hsJ, hlJ, hTJ⟩ := hi14
    clear hs hl hT hf hm9
    refine AW.aload_n dX6_readMeeting_14 rfl ?_
    refine AW.callV (b := e) (As := []) hG.2.2 (vX6_52 hG) (he.1 0 _ rfl) (k_X6_advS hK (d := 5) (Nat.le_refl _) hr (by assumption)) (by omega) dX6_readMeeting_15 rfl rfl (Nat.le_of_ble_eq_true rfl) (fun v w9 hq9 h09 => by obtain ⟨rfl, J9, rfl, -⟩ := hq9; exact ⟨h09, rfl⟩) (by decide) (by decide) (fun _ _ hx => hx) (fun v15 w15 hq15 => ?_)
    obtain ⟨rfl, I15, rfl, hr15⟩ := hq15
    have hs15 := k_rp_i hr15
    have hT15 := k_tw_r het (by assumption) hr15
    have hl15 := k_fl_r (by assumption) hr15
    have hf15 := k_ft_t (by assumption) (k_ft_r (t := t) hr15)
    show AW G mX6_readMeeting d (fun v w => v = none ∧ ∃ J, w = (sh, J, R, L, g) ∧ k_rt I J e t tp n (x_meet tp n (s, T, fl))) (fun _ _ => False) 18 [some (.ref e), some (.ref t), none, none, none] [] (sh, I15, R, L, g) 0 0
    have hpn := hT15.1.1
    refine AW.aload_n dX6_readMeeting_18 rfl ?_
    refine AW.aload_n dX6_readMeeting_19 rfl ?_
    refine AW.iconst 0 dX6_readMeeting_20 (by decide) ?_
    refine AW.callV (b := e) (As := [.ref t, .int 0]) hG.2.2 (vX6_188 hG) (he.1 0 _ rfl) (k_X6_readPerson hK (d := 6) (Nat.le_refl _) hr (by assumption) ht (by assumption) 0) (by omega) dX6_readMeeting_21 rfl rfl (Nat.le_of_ble_eq_true rfl) (fun v w9 hq9 h09 => by obtain ⟨rfl, J9, rfl, -⟩ := hq9; exact ⟨h09, rfl⟩) (by decide) (by decide) (fun _ _ hx => hx) (fun v21 w21 hq21 => ?_)
    obtain ⟨rfl, I21, rfl, hr21⟩ := hq21
    have hs21 := k_rp_i hr21
    have hT21 := k_tw_r het (by assumption) hr21
    have hl21 := k_fl_r (by assumption) hr21
    have hf21 := k_ft_t (by assumption) (k_ft_r (t := t) hr21)
    refine AW.nam (fun x21 ex21 => ?_)
    refine AW.is_n [some (.ref e), some (.ref t), some (.int x21), none, none] dX6_readMeeting_24 (by decide) rfl rfl ?_
    refine AW.aload_n dX6_readMeeting_25 rfl ?_
    refine AW.aload_n dX6_readMeeting_26 rfl ?_
    refine AW.aload_n dX6_readMeeting_27 rfl ?_
    refine AW.getI (fX6_39 hG).r rfl (he.1 0 _ rfl) dX6_readMeeting_28 ?_
    refine AW.if_ne 40 dX6_readMeeting_31 (by decide) (fun h31 => ?_) (fun h31 => ?_)
    · have q31 := fun h => h31 (hs21.1.trans h)
      refine AW.iconst 0 dX6_readMeeting_40 (by decide) ?_
      exact J41 I21 x21 _ _ ⟨by unfold x_me1; rw [hs0], by rw [ex21]; unfold x_me1; rw [hs0], by unfold x_mtk; rw [if_neg q31], hf21, hs21, hl21, hT21⟩
    · have q31 := hs21.1.symm.trans h31
      refine AW.iconst 1 dX6_readMeeting_34 (by decide) ?_
      refine AW.iload_n dX6_readMeeting_35 rfl ?_
      refine AW.ishl dX6_readMeeting_36 ?_
      refine AW.goto 41 dX6_readMeeting_37 (by decide) ?_
      exact J41 I21 x21 _ _ ⟨by unfold x_me1; rw [hs0], by rw [ex21]; unfold x_me1; rw [hs0], by unfold x_mtk; rw [if_pos q31], hf21, hs21, hl21, hT21⟩
  refine AW.aload_n dX6_readMeeting_0 rfl ?_
  refine AW.getI (fX6_196 hG).r rfl (ht.1 0 _ rfl) dX6_readMeeting_1 ?_
  refine AW.bipush 16 dX6_readMeeting_4 (by decide) ?_
  refine AW.icmp_lt 14 dX6_readMeeting_6 (by decide) (fun h6 => ?_) (fun h6 => ?_)
  · have q6 : ¬ 16 ≤ T.2.2.1.length := by have := (nI_ltl hm9 (m := 16) rfl (by omega) (by decide)).mp h6; omega
    exact J14 I _ ⟨by rw [if_neg q6], hf, hs, hl, hT⟩
  · have q6 : 16 ≤ T.2.2.1.length := by
      rcases Nat.lt_or_ge T.2.2.1.length 16 with h | h
      · exact absurd ((nI_ltl hm9 (m := 16) rfl (by omega) (by decide)).mpr h) h6
      · exact h
    refine AW.aload_n dX6_readMeeting_9 rfl ?_
    refine AW.iconst 2 dX6_readMeeting_10 (by decide) ?_
    refine AW.callV (b := e) (As := [.int 2]) hG.2.2 (vX6_97 hG) (he.1 0 _ rfl) (k_X6_fail hK (d := 0) (Nat.le_refl _) he (by assumption) 2) (by omega) dX6_readMeeting_11 rfl rfl (Nat.le_of_ble_eq_true rfl) (fun v w9 hq9 h09 => by obtain ⟨rfl, J9, rfl, -⟩ := hq9; exact ⟨h09, rfl⟩) (by decide) (by decide) (fun _ _ hx => hx) (fun v11 w11 hq11 => ?_)
    obtain ⟨rfl, I11, rfl, hr11⟩ := hq11
    have hs11 := k_rp_i hr11
    have hT11 := k_tw_r het (by assumption) hr11
    have hl11 := k_fl_r (by assumption) hr11
    have hf11 := k_ft_t (by assumption) (k_ft_r (t := t) hr11)
    show AW G mX6_readMeeting d (fun v w => v = none ∧ ∃ J, w = (sh, J, R, L, g) ∧ k_rt I J e t tp n (x_meet tp n (s, T, fl))) (fun _ _ => False) 14 [some (.ref e), some (.ref t), none, none, none] [] (sh, I11, R, L, g) 0 0
    exact J14 I11 _ ⟨by rw [if_pos q6], hf11, hs11, hl11, hT11⟩
