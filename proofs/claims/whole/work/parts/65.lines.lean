/-! READER: LOAVES, THE LINE, THE WHOLE TEXT -/
def x_est (tp : Nat → Int32) (n pn i : Nat) (q : (Int32 × Nat) × List Int32) : (Int32 × Nat) × List Int32 :=
  (x_pn tp n pn (x_bits q.2) (if i = 6 then x_fail 2 q.1 else q.1), if (x_pn tp n pn (x_bits q.2) (if i = 6 then x_fail 2 q.1 else q.1)).1 = 0 then q.2 ++ [x_pv tp n pn (x_bits q.2) (if i = 6 then x_fail 2 q.1 else q.1)] else q.2)
def x_eat (tp : Nat → Int32) (n pn : Nat) : Nat → Nat → (Int32 × Nat) × List Int32 → (Int32 × Nat) × List Int32
  | 0, _, q => q
  | f + 1, i, q => if q.1.1 = 0 ∧ (i = 0 ∨ x_tk tp n q.1.2 = 2) then x_eat tp n pn f (i + 1) (x_est tp n pn i q) else q
def x_bread (tp : Nat → Int32) (n : Nat) (q : x_K) : x_K :=
  if 6 ≤ q.2.1.2.1.length then (x_fail 2 q.1, q.2)
  else
    let s1 := x_adv tp n q.1
    let s2 := x_rn tp n 0 9 s1
    let s3 := x_rn tp n 1 999 s2
    let s4 := x_rn tp n 0 23 s3
    let s5 := x_rn tp n 1 23 s4
    let z := x_eat tp n q.2.1.1.length 7 0 (s5, [])
    (z.1, (q.2.1.1, q.2.1.2.1 ++ [((x_rv tp n 0 9 s1, x_rv tp n 1 999 s2, x_rv tp n 0 23 s3, x_rv tp n 1 23 s4), z.2)], q.2.1.2.2), q.2.2)
theorem k_Bc {J B K : Nat → Nat → Int32} {e n : Nat} {tp : Nat → Int32} {s : Int32 × Nat} (h : ∀ a, a ≠ e → J a = B a) (hr : k_rp J K e tp n s) : ∀ a, a ≠ e → K a = B a := fun a ha => (hr.1 a ha).trans (h a ha)
theorem k_Bu {J B K : Nat → Nat → Int32} {e c k : Nat} {v : Int32} (h : ∀ a, a ≠ e → J a = B a) (hc : c ≠ e) (hK : K = am_up J c k v) : ∀ a, a ≠ e → K a = am_up B c k v a := fun a ha => by
  subst hK
  by_cases e1 : a = c
  · subst e1; rw [am_up_s, am_up_s, h a ha]
  · rw [am_up_o _ _ _ _ e1, am_up_o _ _ _ _ e1, h a ha]
theorem k_up_t {I J : Nat → Nat → Int32} {t c k : Nat} {v : Int32} (hc : t ≤ c ∧ c < t + 19) (h : J = am_up I c k v) : ∀ a, (a < t ∨ t + 19 ≤ a) → J a = I a := fun a ha => by rw [h, am_up_o _ _ _ _ (by omega)]
/-- what is written behind the loaves that are told -/
theorem k_tw_x {I J : Nat → Nat → Int32} {t c : Nat} {v : Int32} {T : x_T} (hc : t + 9 ≤ c ∧ c ≤ t + 14) (h : J = am_up I c T.2.1.length v) (hT : k_tw I t T) : k_tw J t T := by
  subst h
  obtain ⟨h1, h2, h3, h4, h5, h6⟩ := hT
  have et : am_up I c T.2.1.length v t = I t := am_up_o _ _ _ _ (by omega)
  refine ⟨k_tp_o h1 (by rw [et]) (fun a _ _ => am_up_o _ _ _ _ (by omega)), ?_, k_tm_o h3 (by rw [et]) (fun a _ _ => am_up_o _ _ _ _ (by omega)), by rw [et]; exact h4, by rw [et]; exact h5, k_st_o h6 (am_up_o _ _ _ _ (by omega)) (am_up_o _ _ _ _ (by omega))⟩
  have key : ∀ a j, j < T.2.1.length → am_up I c T.2.1.length v a j = I a j := fun a j hj => by
    by_cases e1 : a = c
    · subst e1; exact up_ne (by omega)
    · rw [am_up_o _ _ _ _ e1]
  refine ⟨by rw [am_up_o _ _ _ _ (by omega)]; exact h2.1, h2.2.1, fun j hj => ?_⟩
  obtain ⟨q1, q2, q3, q4, q5, q6, q7, q8⟩ := h2.2.2 j hj
  refine ⟨(key _ _ hj).trans q1, (key _ _ hj).trans q2, (key _ _ hj).trans q3, (key _ _ hj).trans q4, (key _ _ hj).trans q5, q6, (key _ _ hj).trans q7, fun i hi => ?_⟩
  rw [am_up_o _ _ _ _ (by omega)]
  exact q8 i hi
/-- a loaf more, without eaters -/
theorem k_tw_lo {I J : Nat → Nat → Int32} {t : Nat} {T : x_T} {v1 v2 v3 v4 : Int32} (h : J = am_up I (t + 8) 0 (nI (T.2.1.length + 1))) (hT : k_tw I t T) (h6 : T.2.1.length < 6) (e1 : I (t + 9) T.2.1.length = v1) (e2 : I (t + 10) T.2.1.length = v2) (e3 : I (t + 11) T.2.1.length = v3) (e4 : I (t + 12) T.2.1.length = v4) (e5 : I (t + 13) T.2.1.length = 0) (e6 : I (t + 14) T.2.1.length = 0) : k_tw J t (T.1, T.2.1 ++ [((v1, v2, v3, v4), [])], T.2.2) := by
  subst h
  obtain ⟨h1, h2, h3, h4, h5, h7⟩ := hT
  have ho : ∀ a, a ≠ t + 8 → am_up I (t + 8) 0 (nI (T.2.1.length + 1)) a = I a := fun a ha => am_up_o _ _ _ _ ha
  have et := ho t (by omega)
  refine ⟨k_tp_o h1 (by rw [et]) (fun a _ _ => ho a (by omega)), ?_, k_tm_o h3 (by rw [et]) (fun a _ _ => ho a (by omega)), by rw [et]; exact h4, by rw [et]; exact h5, k_st_o h7 (ho _ (by omega)) (ho _ (by omega))⟩
  have hl : (T.2.1 ++ [((v1, v2, v3, v4), ([] : List Int32))]).length = T.2.1.length + 1 := by rw [List.length_append]; rfl
  refine ⟨by rw [hl]; exact up_eq, by rw [hl]; exact h6, fun j hj => ?_⟩
  rw [hl] at hj
  unfold k_lf
  rw [ho (t + 9) (by omega), ho (t + 10) (by omega), ho (t + 11) (by omega), ho (t + 12) (by omega), ho (t + 13) (by omega), ho (t + 14) (by omega), ho (t + 15) (by omega)]
  by_cases e : j = T.2.1.length
  · rw [e, getD_eq]
    exact ⟨e1, e2, e3, e4, e5, Nat.zero_le _, e6, fun i hi => absurd hi (Nat.not_lt_zero i)⟩
  · rw [getD_lt (by omega)]; exact h2.2.2 j (by omega)
def f_ae (I : Nat → Nat → Int32) (t lf ec : Nat) (p : Int32) : Nat → Nat → Int32 := am_uA (am_uA (am_uA I (t + 15) (upd (I (t + 15)) (6 * lf + ec) p)) (t + 13) (upd (I (t + 13)) lf (nI (ec + 1)))) (t + 14) (upd (I (t + 14)) lf (I (t + 14) lf ||| ((1 : Int32) <<< (p &&& 31))))
theorem f_ae_o {I : Nat → Nat → Int32} {t lf ec : Nat} {p : Int32} : ∀ a, (a < t + 13 ∨ t + 16 ≤ a) → f_ae I t lf ec p a = I a := fun a h => by unfold f_ae; simp (disch := omega) only [am_uA_o]
theorem x_bits_ap (es : List Int32) (p : Int32) : x_bits (es ++ [p]) = x_bits es ||| ((1 : Int32) <<< (p &&& 31)) := by unfold x_bits; rw [List.foldl_append]; rfl
theorem k_tw_ea {I : Nat → Nat → Int32} {t : Nat} {A : List x_P} {ls : List x_L} {C : List x_P × (Int32 × Int32) × List Int32} {h : Int32 × Int32 × Int32 × Int32} {es : List Int32} (hT : k_tw I t (A, ls ++ [(h, es)], C)) (h6 : es.length < 6) (p : Int32) : k_tw (f_ae I t ls.length es.length p) t (A, ls ++ [(h, es ++ [p])], C) := by
  obtain ⟨h1, h2, h3, h4, h5, h7⟩ := hT
  have et := f_ae_o (I := I) (t := t) (lf := ls.length) (ec := es.length) (p := p) t (by omega)
  refine ⟨k_tp_o h1 (by rw [et]) (fun a _ _ => f_ae_o a (by omega)), ?_, k_tm_o h3 (by rw [et]) (fun a _ _ => f_ae_o a (by omega)), by rw [et]; exact h4, by rw [et]; exact h5, k_st_o h7 (f_ae_o _ (by omega)) (f_ae_o _ (by omega))⟩
  have hl : (ls ++ [(h, es)]).length = ls.length + 1 := by rw [List.length_append]; rfl
  have hl2 : (ls ++ [(h, es ++ [p])]).length = ls.length + 1 := by rw [List.length_append]; rfl
  obtain ⟨g1, g2, g3⟩ := h2
  rw [hl] at g1 g2 g3
  have e13 : f_ae I t ls.length es.length p (t + 13) = upd (I (t + 13)) ls.length (nI (es.length + 1)) := by unfold f_ae; simp (disch := omega) only [am_uA_o, am_uA_s]
  have e14 : f_ae I t ls.length es.length p (t + 14) = upd (I (t + 14)) ls.length (I (t + 14) ls.length ||| ((1 : Int32) <<< (p &&& 31))) := by unfold f_ae; simp (disch := omega) only [am_uA_o, am_uA_s]
  have e15 : f_ae I t ls.length es.length p (t + 15) = upd (I (t + 15)) (6 * ls.length + es.length) p := by unfold f_ae; simp (disch := omega) only [am_uA_o, am_uA_s]
  unfold k_tl
  rw [hl2]
  refine ⟨by rw [f_ae_o _ (by omega)]; exact g1, g2, fun j hj => ?_⟩
  unfold k_lf
  rw [f_ae_o (t + 9) (by omega), f_ae_o (t + 10) (by omega), f_ae_o (t + 11) (by omega), f_ae_o (t + 12) (by omega), e13, e14, e15]
  have g4 := g3 j hj
  unfold k_lf at g4
  by_cases e : j = ls.length
  · subst e
    rw [getD_eq] at g4 ⊢
    obtain ⟨q1, q2, q3, q4, q5, q6, q7, q8⟩ := g4
    have hl3 : (es ++ [p]).length = es.length + 1 := by rw [List.length_append]; rfl
    rw [pk_us, pk_us]
    refine ⟨q1, q2, q3, q4, by show _ = nI (es ++ [p]).length; rw [hl3], by show (es ++ [p]).length ≤ 6; rw [hl3]; exact h6, by show _ = x_bits (es ++ [p]); rw [x_bits_ap, q7], fun i hi => ?_⟩
    show _ = (es ++ [p]).getD i 0
    have hi : i < es.length + 1 := by rw [← hl3]; exact hi
    by_cases e9 : i = es.length
    · rw [e9, pk_us, getD_eq]
    · rw [upd_o (by omega), getD_lt (by omega)]; exact q8 i (by show i < es.length; omega)
  · rw [getD_lt (by omega)] at g4 ⊢
    obtain ⟨q1, q2, q3, q4, q5, q6, q7, q8⟩ := g4
    rw [upd_o e, upd_o e]
    refine ⟨q1, q2, q3, q4, q5, q6, q7, fun i hi => ?_⟩
    rw [upd_o (by omega)]
    exact q8 i hi
theorem dX6_readBread_0 : decode cX6_readBread 0 = .ok (.aload_n 1, 1) := by decide +kernel
theorem dX6_readBread_1 : decode cX6_readBread 1 = .ok (.getfield 160, 3) := by decide +kernel
theorem dX6_readBread_4 : decode cX6_readBread 4 = .ok (.astore_n 2, 1) := by decide +kernel
theorem dX6_readBread_5 : decode cX6_readBread 5 = .ok (.aload_n 2, 1) := by decide +kernel
theorem dX6_readBread_6 : decode cX6_readBread 6 = .ok (.getfield 164, 3) := by decide +kernel
theorem dX6_readBread_9 : decode cX6_readBread 9 = .ok (.istore_n 3, 1) := by decide +kernel
theorem dX6_readBread_10 : decode cX6_readBread 10 = .ok (.iload_n 3, 1) := by decide +kernel
theorem dX6_readBread_11 : decode cX6_readBread 11 = .ok (.bipush 6, 2) := by decide +kernel
theorem dX6_readBread_13 : decode cX6_readBread 13 = .ok (.if_icmp .lt 9, 3) := by decide +kernel
theorem dX6_readBread_16 : decode cX6_readBread 16 = .ok (.aload_n 0, 1) := by decide +kernel
theorem dX6_readBread_17 : decode cX6_readBread 17 = .ok (.iconst 2, 1) := by decide +kernel
theorem dX6_readBread_18 : decode cX6_readBread 18 = .ok (.invokevirtual 97, 3) := by decide +kernel
theorem dX6_readBread_21 : decode cX6_readBread 21 = .ok (.return_, 1) := by decide +kernel
theorem dX6_readBread_22 : decode cX6_readBread 22 = .ok (.aload_n 0, 1) := by decide +kernel
theorem dX6_readBread_23 : decode cX6_readBread 23 = .ok (.invokevirtual 52, 3) := by decide +kernel
theorem dX6_readBread_26 : decode cX6_readBread 26 = .ok (.aload_n 2, 1) := by decide +kernel
theorem dX6_readBread_27 : decode cX6_readBread 27 = .ok (.getfield 169, 3) := by decide +kernel
theorem dX6_readBread_30 : decode cX6_readBread 30 = .ok (.iload_n 3, 1) := by decide +kernel
theorem dX6_readBread_31 : decode cX6_readBread 31 = .ok (.aload_n 0, 1) := by decide +kernel
theorem dX6_readBread_32 : decode cX6_readBread 32 = .ok (.iconst 0, 1) := by decide +kernel
theorem dX6_readBread_33 : decode cX6_readBread 33 = .ok (.bipush 9, 2) := by decide +kernel
theorem dX6_readBread_35 : decode cX6_readBread 35 = .ok (.invokevirtual 153, 3) := by decide +kernel
theorem dX6_readBread_38 : decode cX6_readBread 38 = .ok (.iastore, 1) := by decide +kernel
theorem dX6_readBread_39 : decode cX6_readBread 39 = .ok (.aload_n 2, 1) := by decide +kernel
theorem dX6_readBread_40 : decode cX6_readBread 40 = .ok (.getfield 173, 3) := by decide +kernel
theorem dX6_readBread_43 : decode cX6_readBread 43 = .ok (.iload_n 3, 1) := by decide +kernel
theorem dX6_readBread_44 : decode cX6_readBread 44 = .ok (.aload_n 0, 1) := by decide +kernel
theorem dX6_readBread_45 : decode cX6_readBread 45 = .ok (.iconst 1, 1) := by decide +kernel
theorem dX6_readBread_46 : decode cX6_readBread 46 = .ok (.sipush 999, 3) := by decide +kernel
theorem dX6_readBread_49 : decode cX6_readBread 49 = .ok (.invokevirtual 153, 3) := by decide +kernel
theorem dX6_readBread_52 : decode cX6_readBread 52 = .ok (.iastore, 1) := by decide +kernel
theorem dX6_readBread_53 : decode cX6_readBread 53 = .ok (.aload_n 2, 1) := by decide +kernel
theorem dX6_readBread_54 : decode cX6_readBread 54 = .ok (.getfield 176, 3) := by decide +kernel
theorem dX6_readBread_57 : decode cX6_readBread 57 = .ok (.iload_n 3, 1) := by decide +kernel
theorem dX6_readBread_58 : decode cX6_readBread 58 = .ok (.aload_n 0, 1) := by decide +kernel
theorem dX6_readBread_59 : decode cX6_readBread 59 = .ok (.iconst 0, 1) := by decide +kernel
theorem dX6_readBread_60 : decode cX6_readBread 60 = .ok (.bipush 23, 2) := by decide +kernel
theorem dX6_readBread_62 : decode cX6_readBread 62 = .ok (.invokevirtual 153, 3) := by decide +kernel
theorem dX6_readBread_65 : decode cX6_readBread 65 = .ok (.iastore, 1) := by decide +kernel
theorem dX6_readBread_66 : decode cX6_readBread 66 = .ok (.aload_n 2, 1) := by decide +kernel
theorem dX6_readBread_67 : decode cX6_readBread 67 = .ok (.getfield 179, 3) := by decide +kernel
theorem dX6_readBread_70 : decode cX6_readBread 70 = .ok (.iload_n 3, 1) := by decide +kernel
theorem dX6_readBread_71 : decode cX6_readBread 71 = .ok (.aload_n 0, 1) := by decide +kernel
theorem dX6_readBread_72 : decode cX6_readBread 72 = .ok (.iconst 1, 1) := by decide +kernel
theorem dX6_readBread_73 : decode cX6_readBread 73 = .ok (.bipush 23, 2) := by decide +kernel
theorem dX6_readBread_75 : decode cX6_readBread 75 = .ok (.invokevirtual 153, 3) := by decide +kernel
theorem dX6_readBread_78 : decode cX6_readBread 78 = .ok (.iastore, 1) := by decide +kernel
theorem dX6_readBread_79 : decode cX6_readBread 79 = .ok (.aload_n 2, 1) := by decide +kernel
theorem dX6_readBread_80 : decode cX6_readBread 80 = .ok (.getfield 182, 3) := by decide +kernel
theorem dX6_readBread_83 : decode cX6_readBread 83 = .ok (.iload_n 3, 1) := by decide +kernel
theorem dX6_readBread_84 : decode cX6_readBread 84 = .ok (.iconst 0, 1) := by decide +kernel
theorem dX6_readBread_85 : decode cX6_readBread 85 = .ok (.iastore, 1) := by decide +kernel
theorem dX6_readBread_86 : decode cX6_readBread 86 = .ok (.aload_n 2, 1) := by decide +kernel
theorem dX6_readBread_87 : decode cX6_readBread 87 = .ok (.getfield 185, 3) := by decide +kernel
theorem dX6_readBread_90 : decode cX6_readBread 90 = .ok (.iload_n 3, 1) := by decide +kernel
theorem dX6_readBread_91 : decode cX6_readBread 91 = .ok (.iconst 0, 1) := by decide +kernel
theorem dX6_readBread_92 : decode cX6_readBread 92 = .ok (.iastore, 1) := by decide +kernel
theorem dX6_readBread_93 : decode cX6_readBread 93 = .ok (.aload_n 2, 1) := by decide +kernel
theorem dX6_readBread_94 : decode cX6_readBread 94 = .ok (.dup, 1) := by decide +kernel
theorem dX6_readBread_95 : decode cX6_readBread 95 = .ok (.getfield 164, 3) := by decide +kernel
theorem dX6_readBread_98 : decode cX6_readBread 98 = .ok (.iconst 1, 1) := by decide +kernel
theorem dX6_readBread_99 : decode cX6_readBread 99 = .ok (.iadd, 1) := by decide +kernel
theorem dX6_readBread_100 : decode cX6_readBread 100 = .ok (.putfield 164, 3) := by decide +kernel
theorem dX6_readBread_103 : decode cX6_readBread 103 = .ok (.iconst 0, 1) := by decide +kernel
theorem dX6_readBread_104 : decode cX6_readBread 104 = .ok (.istore 4, 2) := by decide +kernel
theorem dX6_readBread_106 : decode cX6_readBread 106 = .ok (.iload 4, 2) := by decide +kernel
theorem dX6_readBread_108 : decode cX6_readBread 108 = .ok (.bipush 6, 2) := by decide +kernel
theorem dX6_readBread_110 : decode cX6_readBread 110 = .ok (.if_icmp .gt 68, 3) := by decide +kernel
theorem dX6_readBread_113 : decode cX6_readBread 113 = .ok (.aload_n 0, 1) := by decide +kernel
theorem dX6_readBread_114 : decode cX6_readBread 114 = .ok (.getfield 39, 3) := by decide +kernel
theorem dX6_readBread_117 : decode cX6_readBread 117 = .ok (.ifCond .ne 61, 3) := by decide +kernel
theorem dX6_readBread_120 : decode cX6_readBread 120 = .ok (.iload 4, 2) := by decide +kernel
theorem dX6_readBread_122 : decode cX6_readBread 122 = .ok (.ifCond .eq 11, 3) := by decide +kernel
theorem dX6_readBread_125 : decode cX6_readBread 125 = .ok (.aload_n 0, 1) := by decide +kernel
theorem dX6_readBread_126 : decode cX6_readBread 126 = .ok (.getfield 55, 3) := by decide +kernel
theorem dX6_readBread_129 : decode cX6_readBread 129 = .ok (.iconst 2, 1) := by decide +kernel
theorem dX6_readBread_130 : decode cX6_readBread 130 = .ok (.if_icmp .ne 48, 3) := by decide +kernel
theorem dX6_readBread_133 : decode cX6_readBread 133 = .ok (.iload 4, 2) := by decide +kernel
theorem dX6_readBread_135 : decode cX6_readBread 135 = .ok (.bipush 6, 2) := by decide +kernel
theorem dX6_readBread_137 : decode cX6_readBread 137 = .ok (.if_icmp .ne 8, 3) := by decide +kernel
theorem dX6_readBread_140 : decode cX6_readBread 140 = .ok (.aload_n 0, 1) := by decide +kernel
theorem dX6_readBread_141 : decode cX6_readBread 141 = .ok (.iconst 2, 1) := by decide +kernel
theorem dX6_readBread_142 : decode cX6_readBread 142 = .ok (.invokevirtual 97, 3) := by decide +kernel
theorem dX6_readBread_145 : decode cX6_readBread 145 = .ok (.aload_n 0, 1) := by decide +kernel
theorem dX6_readBread_146 : decode cX6_readBread 146 = .ok (.aload_n 1, 1) := by decide +kernel
theorem dX6_readBread_147 : decode cX6_readBread 147 = .ok (.aload_n 2, 1) := by decide +kernel
theorem dX6_readBread_148 : decode cX6_readBread 148 = .ok (.getfield 185, 3) := by decide +kernel
theorem dX6_readBread_151 : decode cX6_readBread 151 = .ok (.iload_n 3, 1) := by decide +kernel
theorem dX6_readBread_152 : decode cX6_readBread 152 = .ok (.iaload, 1) := by decide +kernel
theorem dX6_readBread_153 : decode cX6_readBread 153 = .ok (.invokevirtual 188, 3) := by decide +kernel
theorem dX6_readBread_156 : decode cX6_readBread 156 = .ok (.istore 5, 2) := by decide +kernel
theorem dX6_readBread_158 : decode cX6_readBread 158 = .ok (.aload_n 0, 1) := by decide +kernel
theorem dX6_readBread_159 : decode cX6_readBread 159 = .ok (.getfield 39, 3) := by decide +kernel
theorem dX6_readBread_162 : decode cX6_readBread 162 = .ok (.ifCond .ne 10, 3) := by decide +kernel
theorem dX6_readBread_165 : decode cX6_readBread 165 = .ok (.aload_n 2, 1) := by decide +kernel
theorem dX6_readBread_166 : decode cX6_readBread 166 = .ok (.iload_n 3, 1) := by decide +kernel
theorem dX6_readBread_167 : decode cX6_readBread 167 = .ok (.iload 5, 2) := by decide +kernel
theorem dX6_readBread_169 : decode cX6_readBread 169 = .ok (.invokevirtual 192, 3) := by decide +kernel
theorem dX6_readBread_172 : decode cX6_readBread 172 = .ok (.iinc 4 1, 3) := by decide +kernel
theorem dX6_readBread_175 : decode cX6_readBread 175 = .ok (.goto (-69), 3) := by decide +kernel
theorem dX6_readBread_178 : decode cX6_readBread 178 = .ok (.return_, 1) := by decide +kernel
set_option maxRecDepth 100000 in
set_option maxHeartbeats 4000000 in
theorem k_X6_readBread {G : am_G} (hK : k_OK G) {d : Nat} (hd : 7 ≤ d) {sh : List (Nat ⊕ (Nat × Nat))} {I : Nat → Nat → Int32} {R : Nat → Nat → Option Nat} {L : Nat → Nat → Int64} {g : Nat} {e n t : Nat} {tp : Nat → Int32} {s : Int32 × Nat} {T : x_T} {fl : x_F} (hr : k_rd sh R e tp n) (ht : k_Town sh R t) (het : e + 2 ≤ t ∨ t + 19 ≤ e) (hs : k_s I e tp n s) (hl : k_fl I e fl) (hT : k_tw I t T) : AM G mX6_readBread d [.ref e, .ref t] (sh, I, R, L, g) (fun v w => v = none ∧ ∃ J, w = (sh, J, R, L, g) ∧ k_rt I J e t tp n (x_bread tp n (s, T, fl))) (fun _ _ => False) := by
  have hG := hK.1
  have he := hr.1
  have hn6 := hr.2.1
  have hf := k_ft_0 I e t
  have hm9 := hT.2.1.1
  have hm6 := hT.2.1.2.1
  refine AM.of (n := 4) (by decide +kernel) (Nat.le_of_ble_eq_true rfl) ?_
  show AW G mX6_readBread d (fun v w => v = none ∧ ∃ J, w = (sh, J, R, L, g) ∧ k_rt I J e t tp n (x_bread tp n (s, T, fl))) (fun _ _ => False) 0 [some (.ref e), some (.ref t), none, none, none, none] [] (sh, I, R, L, g) 0 0
  refine AW.aload_n dX6_readBread_0 rfl ?_
  refine AW.getR (c' := (t + 8)) (fX6_160 hG) rfl (ht.1 0 _ rfl) (ht.2 (0, 11, 8) (by decide)) dX6_readBread_1 ?_
  refine AW.as_n [some (.ref e), some (.ref t), some (.ref (t + 8)), none, none, none] dX6_readBread_4 (by decide) rfl rfl ?_
  refine AW.aload_n dX6_readBread_5 rfl ?_
  refine AW.getI (fX6_164 hG).r rfl (ht.1 8 _ rfl) dX6_readBread_6 ?_
  refine AW.nam (fun x9 ex9 => ?_)
  refine AW.is_n [some (.ref e), some (.ref t), some (.ref (t + 8)), some (.int x9), none, none] dX6_readBread_9 (by decide) rfl rfl ?_
  refine AW.iload_n dX6_readBread_10 rfl ?_
  refine AW.bipush 6 dX6_readBread_11 (by decide) ?_
  refine AW.icmp_lt 22 dX6_readBread_13 (by decide) (fun h13 => ?_) (fun h13 => ?_)
  · have q13 : T.2.1.length < 6 := (nI_ltl (ex9.trans hm9) (m := 6) rfl (by omega) (by decide)).mp h13
    have hcx : x9.toNatClampNeg = T.2.1.length := k_lit (ex9.trans hm9) (by omega)
    have hbx : vp_in x9 6 := by rw [(ex9.trans hm9)]; exact vp_in_nI q13 (by decide)
    refine AW.aload_n dX6_readBread_22 rfl ?_
    refine AW.callV (b := e) (As := []) hG.2.2 (vX6_52 hG) (he.1 0 _ rfl) (k_X6_advS hK (d := 5) (Nat.le_refl _) hr (by assumption)) (by omega) dX6_readBread_23 rfl rfl (Nat.le_of_ble_eq_true rfl) (fun v w9 hq9 h09 => by obtain ⟨rfl, J9, rfl, -⟩ := hq9; exact ⟨h09, rfl⟩) (by decide) (by decide) (fun _ _ hx => hx) (fun v23 w23 hq23 => ?_)
    obtain ⟨rfl, I23, rfl, hr23⟩ := hq23
    have hs23 := k_rp_i hr23
    have hT23 := k_tw_r het (by assumption) hr23
    have hl23 := k_fl_r (by assumption) hr23
    have hf23 := k_ft_t (by assumption) (k_ft_r (t := t) hr23)
    show AW G mX6_readBread d (fun v w => v = none ∧ ∃ J, w = (sh, J, R, L, g) ∧ k_rt I J e t tp n (x_bread tp n (s, T, fl))) (fun _ _ => False) 26 [some (.ref e), some (.ref t), some (.ref (t + 8)), some (.int x9), none, none] [] (sh, I23, R, L, g) 0 0
    have hB : ∀ a, a ≠ e → I23 a = I a := hr23.1
    refine AW.aload_n dX6_readBread_26 rfl ?_
    refine AW.getR (c' := (t + 9)) (fX6_169 hG) rfl (ht.1 8 _ rfl) (ht.2 (8, 1, 9) (by decide)) dX6_readBread_27 ?_
    refine AW.iload_n dX6_readBread_30 rfl ?_
    refine AW.aload_n dX6_readBread_31 rfl ?_
    refine AW.iconst 0 dX6_readBread_32 (by decide) ?_
    refine AW.bipush 9 dX6_readBread_33 (by decide) ?_
    refine AW.callV (b := e) (As := [.int 0, .int 9]) hG.2.2 (vX6_153 hG) (he.1 0 _ rfl) (k_X6_readNumber hK (d := 6) (Nat.le_refl _) hr (by assumption) 0 9) (by omega) dX6_readBread_35 rfl rfl (Nat.le_of_ble_eq_true rfl) (fun v w9 hq9 h09 => by obtain ⟨rfl, J9, rfl, -⟩ := hq9; exact ⟨h09, rfl⟩) (by decide) (by decide) (fun _ _ hx => hx) (fun v35 w35 hq35 => ?_)
    obtain ⟨rfl, I35, rfl, hr35⟩ := hq35
    have hs35 := k_rp_i hr35
    have hT35 := k_tw_r het (by assumption) hr35
    have hl35 := k_fl_r (by assumption) hr35
    have hf35 := k_ft_t (by assumption) (k_ft_r (t := t) hr35)
    refine AW.nam (fun x35 ex35 => ?_)
    have hB := k_Bc hB hr35
    refine AW.iast (ht.1 9 _ rfl) (by first | assumption | (unfold vp_in; decide) | exact vp_in_nI (by omega) (by decide)) dX6_readBread_38 ?_
    refine AW.namI (fun I38 eI38 => ?_)
    have eI38 : I38 = am_up I35 (t + 9) T.2.1.length x35 := by rw [eI38, hcx]
    have ho38 := k_up_t (t := t) (by omega) eI38
    have hs38 := k_s_w het hs35 ho38
    have hl38 := k_fl_w het hl35 ho38
    have hf38 := k_ft_t hf35 (k_ft_w het ho38)
    have hT38 := k_tw_x (by omega) eI38 hT35
    have hB := k_Bu hB (by omega) eI38
    refine AW.aload_n dX6_readBread_39 rfl ?_
    refine AW.getR (c' := (t + 10)) (fX6_173 hG) rfl (ht.1 8 _ rfl) (ht.2 (8, 2, 10) (by decide)) dX6_readBread_40 ?_
    refine AW.iload_n dX6_readBread_43 rfl ?_
    refine AW.aload_n dX6_readBread_44 rfl ?_
    refine AW.iconst 1 dX6_readBread_45 (by decide) ?_
    refine AW.sipush 999 dX6_readBread_46 (by decide) ?_
    refine AW.callV (b := e) (As := [.int 1, .int 999]) hG.2.2 (vX6_153 hG) (he.1 0 _ rfl) (k_X6_readNumber hK (d := 6) (Nat.le_refl _) hr (by assumption) 1 999) (by omega) dX6_readBread_49 rfl rfl (Nat.le_of_ble_eq_true rfl) (fun v w9 hq9 h09 => by obtain ⟨rfl, J9, rfl, -⟩ := hq9; exact ⟨h09, rfl⟩) (by decide) (by decide) (fun _ _ hx => hx) (fun v49 w49 hq49 => ?_)
    obtain ⟨rfl, I49, rfl, hr49⟩ := hq49
    have hs49 := k_rp_i hr49
    have hT49 := k_tw_r het (by assumption) hr49
    have hl49 := k_fl_r (by assumption) hr49
    have hf49 := k_ft_t (by assumption) (k_ft_r (t := t) hr49)
    refine AW.nam (fun x49 ex49 => ?_)
    have hB := k_Bc hB hr49
    refine AW.iast (ht.1 10 _ rfl) (by first | assumption | (unfold vp_in; decide) | exact vp_in_nI (by omega) (by decide)) dX6_readBread_52 ?_
    refine AW.namI (fun I52 eI52 => ?_)
    have eI52 : I52 = am_up I49 (t + 10) T.2.1.length x49 := by rw [eI52, hcx]
    have ho52 := k_up_t (t := t) (by omega) eI52
    have hs52 := k_s_w het hs49 ho52
    have hl52 := k_fl_w het hl49 ho52
    have hf52 := k_ft_t hf49 (k_ft_w het ho52)
    have hT52 := k_tw_x (by omega) eI52 hT49
    have hB := k_Bu hB (by omega) eI52
    refine AW.aload_n dX6_readBread_53 rfl ?_
    refine AW.getR (c' := (t + 11)) (fX6_176 hG) rfl (ht.1 8 _ rfl) (ht.2 (8, 3, 11) (by decide)) dX6_readBread_54 ?_
    refine AW.iload_n dX6_readBread_57 rfl ?_
    refine AW.aload_n dX6_readBread_58 rfl ?_
    refine AW.iconst 0 dX6_readBread_59 (by decide) ?_
    refine AW.bipush 23 dX6_readBread_60 (by decide) ?_
    refine AW.callV (b := e) (As := [.int 0, .int 23]) hG.2.2 (vX6_153 hG) (he.1 0 _ rfl) (k_X6_readNumber hK (d := 6) (Nat.le_refl _) hr (by assumption) 0 23) (by omega) dX6_readBread_62 rfl rfl (Nat.le_of_ble_eq_true rfl) (fun v w9 hq9 h09 => by obtain ⟨rfl, J9, rfl, -⟩ := hq9; exact ⟨h09, rfl⟩) (by decide) (by decide) (fun _ _ hx => hx) (fun v62 w62 hq62 => ?_)
    obtain ⟨rfl, I62, rfl, hr62⟩ := hq62
    have hs62 := k_rp_i hr62
    have hT62 := k_tw_r het (by assumption) hr62
    have hl62 := k_fl_r (by assumption) hr62
    have hf62 := k_ft_t (by assumption) (k_ft_r (t := t) hr62)
    refine AW.nam (fun x62 ex62 => ?_)
    have hB := k_Bc hB hr62
    refine AW.iast (ht.1 11 _ rfl) (by first | assumption | (unfold vp_in; decide) | exact vp_in_nI (by omega) (by decide)) dX6_readBread_65 ?_
    refine AW.namI (fun I65 eI65 => ?_)
    have eI65 : I65 = am_up I62 (t + 11) T.2.1.length x62 := by rw [eI65, hcx]
    have ho65 := k_up_t (t := t) (by omega) eI65
    have hs65 := k_s_w het hs62 ho65
    have hl65 := k_fl_w het hl62 ho65
    have hf65 := k_ft_t hf62 (k_ft_w het ho65)
    have hT65 := k_tw_x (by omega) eI65 hT62
    have hB := k_Bu hB (by omega) eI65
    refine AW.aload_n dX6_readBread_66 rfl ?_
    refine AW.getR (c' := (t + 12)) (fX6_179 hG) rfl (ht.1 8 _ rfl) (ht.2 (8, 4, 12) (by decide)) dX6_readBread_67 ?_
    refine AW.iload_n dX6_readBread_70 rfl ?_
    refine AW.aload_n dX6_readBread_71 rfl ?_
    refine AW.iconst 1 dX6_readBread_72 (by decide) ?_
    refine AW.bipush 23 dX6_readBread_73 (by decide) ?_
    refine AW.callV (b := e) (As := [.int 1, .int 23]) hG.2.2 (vX6_153 hG) (he.1 0 _ rfl) (k_X6_readNumber hK (d := 6) (Nat.le_refl _) hr (by assumption) 1 23) (by omega) dX6_readBread_75 rfl rfl (Nat.le_of_ble_eq_true rfl) (fun v w9 hq9 h09 => by obtain ⟨rfl, J9, rfl, -⟩ := hq9; exact ⟨h09, rfl⟩) (by decide) (by decide) (fun _ _ hx => hx) (fun v75 w75 hq75 => ?_)
    obtain ⟨rfl, I75, rfl, hr75⟩ := hq75
    have hs75 := k_rp_i hr75
    have hT75 := k_tw_r het (by assumption) hr75
    have hl75 := k_fl_r (by assumption) hr75
    have hf75 := k_ft_t (by assumption) (k_ft_r (t := t) hr75)
    refine AW.nam (fun x75 ex75 => ?_)
    have hB := k_Bc hB hr75
    refine AW.iast (ht.1 12 _ rfl) (by first | assumption | (unfold vp_in; decide) | exact vp_in_nI (by omega) (by decide)) dX6_readBread_78 ?_
    refine AW.namI (fun I78 eI78 => ?_)
    have eI78 : I78 = am_up I75 (t + 12) T.2.1.length x75 := by rw [eI78, hcx]
    have ho78 := k_up_t (t := t) (by omega) eI78
    have hs78 := k_s_w het hs75 ho78
    have hl78 := k_fl_w het hl75 ho78
    have hf78 := k_ft_t hf75 (k_ft_w het ho78)
    have hT78 := k_tw_x (by omega) eI78 hT75
    have hB := k_Bu hB (by omega) eI78
    refine AW.aload_n dX6_readBread_79 rfl ?_
    refine AW.getR (c' := (t + 13)) (fX6_182 hG) rfl (ht.1 8 _ rfl) (ht.2 (8, 5, 13) (by decide)) dX6_readBread_80 ?_
    refine AW.iload_n dX6_readBread_83 rfl ?_
    refine AW.iconst 0 dX6_readBread_84 (by decide) ?_
    refine AW.iast (ht.1 13 _ rfl) (by first | assumption | (unfold vp_in; decide) | exact vp_in_nI (by omega) (by decide)) dX6_readBread_85 ?_
    refine AW.namI (fun I85 eI85 => ?_)
    have eI85 : I85 = am_up I78 (t + 13) T.2.1.length 0 := by rw [eI85, hcx]
    have ho85 := k_up_t (t := t) (by omega) eI85
    have hs85 := k_s_w het hs78 ho85
    have hl85 := k_fl_w het hl78 ho85
    have hf85 := k_ft_t hf78 (k_ft_w het ho85)
    have hT85 := k_tw_x (by omega) eI85 hT78
    have hB := k_Bu hB (by omega) eI85
    refine AW.aload_n dX6_readBread_86 rfl ?_
    refine AW.getR (c' := (t + 14)) (fX6_185 hG) rfl (ht.1 8 _ rfl) (ht.2 (8, 6, 14) (by decide)) dX6_readBread_87 ?_
    refine AW.iload_n dX6_readBread_90 rfl ?_
    refine AW.iconst 0 dX6_readBread_91 (by decide) ?_
    refine AW.iast (ht.1 14 _ rfl) (by first | assumption | (unfold vp_in; decide) | exact vp_in_nI (by omega) (by decide)) dX6_readBread_92 ?_
    refine AW.namI (fun I92 eI92 => ?_)
    have eI92 : I92 = am_up I85 (t + 14) T.2.1.length 0 := by rw [eI92, hcx]
    have ho92 := k_up_t (t := t) (by omega) eI92
    have hs92 := k_s_w het hs85 ho92
    have hl92 := k_fl_w het hl85 ho92
    have hf92 := k_ft_t hf85 (k_ft_w het ho92)
    have hT92 := k_tw_x (by omega) eI92 hT85
    have hB := k_Bu hB (by omega) eI92
    refine AW.aload_n dX6_readBread_93 rfl ?_
    refine AW.dup dX6_readBread_94 rfl ?_
    refine AW.getI (fX6_164 hG).r rfl (ht.1 8 _ rfl) dX6_readBread_95 ?_
    refine AW.iconst 1 dX6_readBread_98 (by decide) ?_
    refine AW.iadd dX6_readBread_99 ?_
    refine AW.putI (fX6_164 hG) rfl (vp_nar_int _) rfl (ht.1 8 _ rfl) dX6_readBread_100 ?_
    refine AW.namI (fun I100 eI100 => ?_)
    have eI100 : I100 = am_up I92 (t + 8) 0 (nI (T.2.1.length + 1)) := by rw [eI100, hT92.2.1.1, nI_1]
    have ho100 := k_up_t (t := t) (by omega) eI100
    have hs100 := k_s_w het hs92 ho100
    have hl100 := k_fl_w het hl92 ho100
    have hf100 := k_ft_t hf92 (k_ft_w het ho100)
    have hT100 := k_tw_lo (v1 := x35) (v2 := x49) (v3 := x62) (v4 := x75) eI100 hT92 q13 (by rw [hB _ (by omega)]; simp (disch := omega) only [am_up_o, up_eq]) (by rw [hB _ (by omega)]; simp (disch := omega) only [am_up_o, up_eq]) (by rw [hB _ (by omega)]; simp (disch := omega) only [am_up_o, up_eq]) (by rw [hB _ (by omega)]; simp (disch := omega) only [am_up_o, up_eq]) (by rw [hB _ (by omega)]; simp (disch := omega) only [am_up_o, up_eq]) (by rw [hB _ (by omega)]; exact up_eq)
    rw [ex35, ex49, ex62, ex75] at hT100
    refine AW.iconst 0 dX6_readBread_103 (by decide) ?_
    refine AW.is [some (.ref e), some (.ref t), some (.ref (t + 8)), some (.int x9), some (.int 0), none] dX6_readBread_104 (by decide) rfl rfl ?_
    have L106 : ∀ k106, k106 ≤ 7 → ∀ (y : Int32) (J : Nat → Nat → Int32), (y = nI k106 ∧ k_ft I J e t ∧ ∃ s9 es, k_s J e tp n s9 ∧ k_fl J e fl ∧ k_tw J t (T.1, T.2.1 ++ [((x_rv tp n 0 9 (x_adv tp n s), x_rv tp n 1 999 (x_rn tp n 0 9 (x_adv tp n s)), x_rv tp n 0 23 (x_rn tp n 1 999 (x_rn tp n 0 9 (x_adv tp n s))), x_rv tp n 1 23 (x_rn tp n 0 23 (x_rn tp n 1 999 (x_rn tp n 0 9 (x_adv tp n s))))), es)], T.2.2) ∧ (s9.1 = 0 → es.length = k106) ∧ es.length ≤ 6 ∧ x_eat tp n T.1.length (7 - k106) k106 (s9, es) = x_eat tp n T.1.length 7 0 ((x_rn tp n 1 23 (x_rn tp n 0 23 (x_rn tp n 1 999 (x_rn tp n 0 9 (x_adv tp n s))))), [])) → AW G mX6_readBread d (fun v w => v = none ∧ ∃ J, w = (sh, J, R, L, g) ∧ k_rt I J e t tp n (x_bread tp n (s, T, fl))) (fun _ _ => False) 106 [some (.ref e), some (.ref t), some (.ref (t + 8)), some (.int x9), some (.int y), none] [] (sh, J, R, L, g) 0 0 := by
      refine am_rec 7 (fun k106 hk106 ih106 => ?_)
      intro y J hi106
      obtain ⟨hy, hf9, s9, es, hs9, hl9, hT9, hel, hes6, hV⟩ := hi106
      clear hf100 hs100 hl100 hT100
      refine AW.iload dX6_readBread_106 rfl ?_
      refine AW.bipush 6 dX6_readBread_108 (by decide) ?_
      refine AW.icmp_gt 178 dX6_readBread_110 (by decide) (fun h110 => ?_) (fun h110 => ?_)
      · have hk7 : k106 = 7 := by
          rcases Nat.lt_or_ge k106 7 with h | h
          · exact absurd h110 (by rw [hy]; exact nI_nlt (b := k106) (a := 6) (by omega) (by decide))
          · omega
        exact AW.vret dX6_readBread_178 rfl (by decide) (by decide) (by
          have hV2 : (s9, es) = x_eat tp n T.1.length 7 0 ((x_rn tp n 1 23 (x_rn tp n 0 23 (x_rn tp n 1 999 (x_rn tp n 0 9 (x_adv tp n s))))), []) := by
            rw [← hV, show 7 - k106 = 0 by omega]; rfl
          refine ⟨rfl, J, rfl, ?_⟩
          unfold x_bread
          rw [if_neg (show ¬ 6 ≤ T.2.1.length by omega)]
          show k_rt I J e t tp n ((x_eat tp n T.1.length 7 0 ((x_rn tp n 1 23 (x_rn tp n 0 23 (x_rn tp n 1 999 (x_rn tp n 0 9 (x_adv tp n s))))), [])).1, (T.1, T.2.1 ++ [((x_rv tp n 0 9 (x_adv tp n s), x_rv tp n 1 999 (x_rn tp n 0 9 (x_adv tp n s)), x_rv tp n 0 23 (x_rn tp n 1 999 (x_rn tp n 0 9 (x_adv tp n s))), x_rv tp n 1 23 (x_rn tp n 0 23 (x_rn tp n 1 999 (x_rn tp n 0 9 (x_adv tp n s))))), (x_eat tp n T.1.length 7 0 ((x_rn tp n 1 23 (x_rn tp n 0 23 (x_rn tp n 1 999 (x_rn tp n 0 9 (x_adv tp n s))))), [])).2)], T.2.2), fl)
          rw [← hV2]
          exact ⟨hf9, hs9, hl9, fun _ => hT9⟩)
      · have hk7 : k106 < 7 := by
          rcases Nat.lt_or_ge k106 7 with h | h
          · exact h
          · exact absurd (by rw [hy]; exact nI_lt (a := 6) (b := k106) (by omega) (by omega)) h110
        refine AW.aload_n dX6_readBread_113 rfl ?_
        refine AW.getI (fX6_39 hG).r rfl (he.1 0 _ rfl) dX6_readBread_114 ?_
        refine AW.if_ne 178 dX6_readBread_117 (by decide) (fun h117 => ?_) (fun h117 => ?_)
        · have q117 : ¬ s9.1 = 0 := fun h => h117 (hs9.1.trans h)
          exact AW.vret dX6_readBread_178 rfl (by decide) (by decide) (by
            have hV2 : (s9, es) = x_eat tp n T.1.length 7 0 ((x_rn tp n 1 23 (x_rn tp n 0 23 (x_rn tp n 1 999 (x_rn tp n 0 9 (x_adv tp n s))))), []) := by
              rw [← hV, show 7 - k106 = (7 - (k106 + 1)) + 1 by omega]
              show _ = (if s9.1 = 0 ∧ (k106 = 0 ∨ x_tk tp n s9.2 = 2) then _ else _)
              rw [if_neg (fun h => q117 h.1)]
            refine ⟨rfl, J, rfl, ?_⟩
            unfold x_bread
            rw [if_neg (show ¬ 6 ≤ T.2.1.length by omega)]
            show k_rt I J e t tp n ((x_eat tp n T.1.length 7 0 ((x_rn tp n 1 23 (x_rn tp n 0 23 (x_rn tp n 1 999 (x_rn tp n 0 9 (x_adv tp n s))))), [])).1, (T.1, T.2.1 ++ [((x_rv tp n 0 9 (x_adv tp n s), x_rv tp n 1 999 (x_rn tp n 0 9 (x_adv tp n s)), x_rv tp n 0 23 (x_rn tp n 1 999 (x_rn tp n 0 9 (x_adv tp n s))), x_rv tp n 1 23 (x_rn tp n 0 23 (x_rn tp n 1 999 (x_rn tp n 0 9 (x_adv tp n s))))), (x_eat tp n T.1.length 7 0 ((x_rn tp n 1 23 (x_rn tp n 0 23 (x_rn tp n 1 999 (x_rn tp n 0 9 (x_adv tp n s))))), [])).2)], T.2.2), fl)
            rw [← hV2]
            exact ⟨hf9, hs9, hl9, fun _ => hT9⟩)
        · have q117 : s9.1 = 0 := hs9.1.symm.trans h117
          refine AW.iload dX6_readBread_120 rfl ?_
          refine AW.if_eq 133 dX6_readBread_122 (by decide) (fun h122 => ?_) (fun h122 => ?_)
          · refine AW.iload dX6_readBread_133 rfl ?_
            refine AW.bipush 6 dX6_readBread_135 (by decide) ?_
            refine AW.icmp_ne 145 dX6_readBread_137 (by decide) (fun h137 => ?_) (fun h137 => ?_)
            · have hi6 : ¬ k106 = 6 := fun h => h137 (by rw [hy, h]; rfl)
              have es6 : (if k106 = 6 then x_fail 2 s9 else s9) = s9 := if_neg hi6
              have hpn := hT9.1.1
              have h14 : J (t + 14) x9.toNatClampNeg = x_bits es := by
                have h2 := (hT9.2.1.2.2 T.2.1.length (by show _ < (T.2.1 ++ [_]).length; rw [List.length_append]; exact Nat.lt_succ_self _)).2.2.2.2.2.2.1
                rw [getD_eq] at h2; rw [hcx]; exact h2
              refine AW.aload_n dX6_readBread_145 rfl ?_
              refine AW.aload_n dX6_readBread_146 rfl ?_
              refine AW.aload_n dX6_readBread_147 rfl ?_
              refine AW.getR (c' := (t + 14)) (fX6_185 hG) rfl (ht.1 8 _ rfl) (ht.2 (8, 6, 14) (by decide)) dX6_readBread_148 ?_
              refine AW.iload_n dX6_readBread_151 rfl ?_
              refine AW.iald (ht.1 14 _ rfl) (by first | assumption | (unfold vp_in; decide) | exact vp_in_nI (by omega) (by decide)) dX6_readBread_152 ?_
              refine AW.callV (b := e) (As := [.ref t, .int (J (t + 14) x9.toNatClampNeg)]) hG.2.2 (vX6_188 hG) (he.1 0 _ rfl) (k_X6_readPerson hK (d := 6) (Nat.le_refl _) hr (by assumption) ht (by assumption) (J (t + 14) x9.toNatClampNeg)) (by omega) dX6_readBread_153 rfl rfl (Nat.le_of_ble_eq_true rfl) (fun v w9 hq9 h09 => by obtain ⟨rfl, J9, rfl, -⟩ := hq9; exact ⟨h09, rfl⟩) (by decide) (by decide) (fun _ _ hx => hx) (fun v153 w153 hq153 => ?_)
              obtain ⟨rfl, I153, rfl, hr153⟩ := hq153
              have hs153 := k_rp_i hr153
              have hT153 := k_tw_r het (by assumption) hr153
              have hl153 := k_fl_r (by assumption) hr153
              have hf153 := k_ft_t (by assumption) (k_ft_r (t := t) hr153)
              refine AW.nam (fun x153 ex153 => ?_)
              rw [h14] at hr153 hs153 ex153
              refine AW.is [some (.ref e), some (.ref t), some (.ref (t + 8)), some (.int x9), some (.int y), some (.int x153)] dX6_readBread_156 (by decide) rfl rfl ?_
              refine AW.aload_n dX6_readBread_158 rfl ?_
              refine AW.getI (fX6_39 hG).r rfl (he.1 0 _ rfl) dX6_readBread_159 ?_
              refine AW.if_ne 172 dX6_readBread_162 (by decide) (fun h162 => ?_) (fun h162 => ?_)
              · have q162 := fun h => h162 (hs153.1.trans h)
                refine AW.inc (fun x172 => [some (.ref e), some (.ref t), some (.ref (t + 8)), some (.int x9), some (.int x172), some (.int x153)]) dX6_readBread_172 rfl (by decide) rfl (fun _ => rfl) (fun x172 ex172 => ?_)
                refine AW.goto 106 dX6_readBread_175 (by decide) ?_
                refine AW.mask [5] [some (.ref e), some (.ref t), some (.ref (t + 8)), some (.int x9), some (.int x172), none] rfl ?_
                exact ih106 (k106 + 1) (by omega) (by omega) _ _ (by
                  have hc9 : s9.1 = 0 ∧ (k106 = 0 ∨ x_tk tp n s9.2 = 2) := ⟨q117, Or.inl ((nI_eq (by omega) (by decide)).mp (hy.symm.trans h122))⟩
                  have e1 : x_est tp n T.1.length k106 (s9, es) = (x_pn tp n T.1.length (x_bits es) s9, es) := by
                    unfold x_est
                    show (x_pn tp n T.1.length (x_bits es) (if k106 = 6 then x_fail 2 s9 else s9), (if (x_pn tp n T.1.length (x_bits es) (if k106 = 6 then x_fail 2 s9 else s9)).1 = 0 then es ++ [x_pv tp n T.1.length (x_bits es) (if k106 = 6 then x_fail 2 s9 else s9)] else es)) = _
                    rw [es6, if_neg q162]
                  refine ⟨k_inc (by assumption) hy, hf153, x_pn tp n T.1.length (x_bits es) s9, es, hs153, hl153, hT153, fun h => absurd h q162, hes6, ?_⟩
                  rw [← hV, show 7 - k106 = (7 - (k106 + 1)) + 1 by omega]
                  show _ = (if s9.1 = 0 ∧ (k106 = 0 ∨ x_tk tp n s9.2 = 2) then _ else _)
                  rw [if_pos hc9, e1])
              · have q162 := hs153.1.symm.trans h162
                have hi6 : ¬ k106 = 6 := fun h => absurd (x_pn_0 q162) (by have := es6; rw [if_pos h] at this; first | (rw [← this]; exact x_fail_n (by decide) _) | exact x_fail_n (by decide) _)
                have hek := hel q117
                have hes5 : es.length < 6 := by omega
                have hec := (hT153.2.1.2.2 T.2.1.length (by show _ < (T.2.1 ++ [_]).length; rw [List.length_append]; exact Nat.lt_succ_self _)).2.2.2.2.1
                rw [getD_eq] at hec
                refine AW.aload_n dX6_readBread_165 rfl ?_
                refine AW.iload_n dX6_readBread_166 rfl ?_
                refine AW.iload dX6_readBread_167 rfl ?_
                refine AW.callV (b := (t + 8)) (As := [.int x9, .int x153]) hG.2.2 (vX6_192 hG) (ht.1 8 _ rfl) (k_X3_addEater hK (d := 0) (Nat.le_refl _) (k_sub_Town_8 ht) _ _ (ex9.trans hm9) q13 hec hes5) (by omega) dX6_readBread_169 rfl rfl (Nat.le_of_ble_eq_true rfl) (fun v w9 hq9 h09 => by obtain ⟨rfl, rfl⟩ := hq9; exact ⟨h09, rfl⟩) (by decide) (by decide) (fun _ _ hx => hx) (fun v169 w169 hq169 => ?_)
                obtain ⟨rfl, rfl⟩ := hq169
                refine AW.namI (fun I169 eI169 => ?_)
                show AW G mX6_readBread d (fun v w => v = none ∧ ∃ J, w = (sh, J, R, L, g) ∧ k_rt I J e t tp n (x_bread tp n (s, T, fl))) (fun _ _ => False) 172 [some (.ref e), some (.ref t), some (.ref (t + 8)), some (.int x9), some (.int y), some (.int x153)] [] (sh, I169, R, L, g) 0 0
                have eI169 : I169 = f_ae I153 t T.2.1.length es.length x153 := eI169
                refine AW.inc (fun x172 => [some (.ref e), some (.ref t), some (.ref (t + 8)), some (.int x9), some (.int x172), some (.int x153)]) dX6_readBread_172 rfl (by decide) rfl (fun _ => rfl) (fun x172 ex172 => ?_)
                refine AW.goto 106 dX6_readBread_175 (by decide) ?_
                refine AW.mask [5] [some (.ref e), some (.ref t), some (.ref (t + 8)), some (.int x9), some (.int x172), none] rfl ?_
                exact ih106 (k106 + 1) (by omega) (by omega) _ _ (by
                  have hc9 : s9.1 = 0 ∧ (k106 = 0 ∨ x_tk tp n s9.2 = 2) := ⟨q117, Or.inl ((nI_eq (by omega) (by decide)).mp (hy.symm.trans h122))⟩
                  have e1 : x_est tp n T.1.length k106 (s9, es) = (x_pn tp n T.1.length (x_bits es) s9, es ++ [x153]) := by
                    unfold x_est
                    show (x_pn tp n T.1.length (x_bits es) (if k106 = 6 then x_fail 2 s9 else s9), (if (x_pn tp n T.1.length (x_bits es) (if k106 = 6 then x_fail 2 s9 else s9)).1 = 0 then es ++ [x_pv tp n T.1.length (x_bits es) (if k106 = 6 then x_fail 2 s9 else s9)] else es)) = _
                    rw [es6, if_pos q162, ex153]
                  have ho : ∀ a, (a < t ∨ t + 19 ≤ a) → I169 a = I153 a := fun a h => by rw [eI169, f_ae_o a (by omega)]
                  have hT169 := k_tw_ea hT153 hes5 x153
                  rw [← eI169] at hT169
                  refine ⟨k_inc (by assumption) hy, k_ft_t hf153 (k_ft_w het ho), x_pn tp n T.1.length (x_bits es) s9, es ++ [x153], k_s_w het hs153 ho, k_fl_w het hl153 ho, hT169, fun _ => by rw [List.length_append]; show es.length + 1 = _; omega, by rw [List.length_append]; exact hes5, ?_⟩
                  rw [← hV, show 7 - k106 = (7 - (k106 + 1)) + 1 by omega]
                  show _ = (if s9.1 = 0 ∧ (k106 = 0 ∨ x_tk tp n s9.2 = 2) then _ else _)
                  rw [if_pos hc9, e1])
            · refine AW.aload_n dX6_readBread_140 rfl ?_
              refine AW.iconst 2 dX6_readBread_141 (by decide) ?_
              refine AW.callV (b := e) (As := [.int 2]) hG.2.2 (vX6_97 hG) (he.1 0 _ rfl) (k_X6_fail hK (d := 0) (Nat.le_refl _) he (by assumption) 2) (by omega) dX6_readBread_142 rfl rfl (Nat.le_of_ble_eq_true rfl) (fun v w9 hq9 h09 => by obtain ⟨rfl, J9, rfl, -⟩ := hq9; exact ⟨h09, rfl⟩) (by decide) (by decide) (fun _ _ hx => hx) (fun v142 w142 hq142 => ?_)
              obtain ⟨rfl, I142, rfl, hr142⟩ := hq142
              have hs142 := k_rp_i hr142
              have hT142 := k_tw_r het (by assumption) hr142
              have hl142 := k_fl_r (by assumption) hr142
              have hf142 := k_ft_t (by assumption) (k_ft_r (t := t) hr142)
              show AW G mX6_readBread d (fun v w => v = none ∧ ∃ J, w = (sh, J, R, L, g) ∧ k_rt I J e t tp n (x_bread tp n (s, T, fl))) (fun _ _ => False) 145 [some (.ref e), some (.ref t), some (.ref (t + 8)), some (.int x9), some (.int y), none] [] (sh, I142, R, L, g) 0 0
              have hi6 : k106 = 6 := (nI_eq (by omega) (by decide)).mp (hy.symm.trans h137)
              have es6 : (if k106 = 6 then x_fail 2 s9 else s9) = x_fail 2 s9 := if_pos hi6
              have hpn := hT142.1.1
              have h14 : I142 (t + 14) x9.toNatClampNeg = x_bits es := by
                have h2 := (hT142.2.1.2.2 T.2.1.length (by show _ < (T.2.1 ++ [_]).length; rw [List.length_append]; exact Nat.lt_succ_self _)).2.2.2.2.2.2.1
                rw [getD_eq] at h2; rw [hcx]; exact h2
              refine AW.aload_n dX6_readBread_145 rfl ?_
              refine AW.aload_n dX6_readBread_146 rfl ?_
              refine AW.aload_n dX6_readBread_147 rfl ?_
              refine AW.getR (c' := (t + 14)) (fX6_185 hG) rfl (ht.1 8 _ rfl) (ht.2 (8, 6, 14) (by decide)) dX6_readBread_148 ?_
              refine AW.iload_n dX6_readBread_151 rfl ?_
              refine AW.iald (ht.1 14 _ rfl) (by first | assumption | (unfold vp_in; decide) | exact vp_in_nI (by omega) (by decide)) dX6_readBread_152 ?_
              refine AW.callV (b := e) (As := [.ref t, .int (I142 (t + 14) x9.toNatClampNeg)]) hG.2.2 (vX6_188 hG) (he.1 0 _ rfl) (k_X6_readPerson hK (d := 6) (Nat.le_refl _) hr (by assumption) ht (by assumption) (I142 (t + 14) x9.toNatClampNeg)) (by omega) dX6_readBread_153 rfl rfl (Nat.le_of_ble_eq_true rfl) (fun v w9 hq9 h09 => by obtain ⟨rfl, J9, rfl, -⟩ := hq9; exact ⟨h09, rfl⟩) (by decide) (by decide) (fun _ _ hx => hx) (fun v153 w153 hq153 => ?_)
              obtain ⟨rfl, I153, rfl, hr153⟩ := hq153
              have hs153 := k_rp_i hr153
              have hT153 := k_tw_r het (by assumption) hr153
              have hl153 := k_fl_r (by assumption) hr153
              have hf153 := k_ft_t (by assumption) (k_ft_r (t := t) hr153)
              refine AW.nam (fun x153 ex153 => ?_)
              rw [h14] at hr153 hs153 ex153
              refine AW.is [some (.ref e), some (.ref t), some (.ref (t + 8)), some (.int x9), some (.int y), some (.int x153)] dX6_readBread_156 (by decide) rfl rfl ?_
              refine AW.aload_n dX6_readBread_158 rfl ?_
              refine AW.getI (fX6_39 hG).r rfl (he.1 0 _ rfl) dX6_readBread_159 ?_
              refine AW.if_ne 172 dX6_readBread_162 (by decide) (fun h162 => ?_) (fun h162 => ?_)
              · have q162 := fun h => h162 (hs153.1.trans h)
                refine AW.inc (fun x172 => [some (.ref e), some (.ref t), some (.ref (t + 8)), some (.int x9), some (.int x172), some (.int x153)]) dX6_readBread_172 rfl (by decide) rfl (fun _ => rfl) (fun x172 ex172 => ?_)
                refine AW.goto 106 dX6_readBread_175 (by decide) ?_
                refine AW.mask [5] [some (.ref e), some (.ref t), some (.ref (t + 8)), some (.int x9), some (.int x172), none] rfl ?_
                exact ih106 (k106 + 1) (by omega) (by omega) _ _ (by
                  have hc9 : s9.1 = 0 ∧ (k106 = 0 ∨ x_tk tp n s9.2 = 2) := ⟨q117, Or.inl ((nI_eq (by omega) (by decide)).mp (hy.symm.trans h122))⟩
                  have e1 : x_est tp n T.1.length k106 (s9, es) = (x_pn tp n T.1.length (x_bits es) (x_fail 2 s9), es) := by
                    unfold x_est
                    show (x_pn tp n T.1.length (x_bits es) (if k106 = 6 then x_fail 2 s9 else s9), (if (x_pn tp n T.1.length (x_bits es) (if k106 = 6 then x_fail 2 s9 else s9)).1 = 0 then es ++ [x_pv tp n T.1.length (x_bits es) (if k106 = 6 then x_fail 2 s9 else s9)] else es)) = _
                    rw [es6, if_neg q162]
                  refine ⟨k_inc (by assumption) hy, hf153, x_pn tp n T.1.length (x_bits es) (x_fail 2 s9), es, hs153, hl153, hT153, fun h => absurd h q162, hes6, ?_⟩
                  rw [← hV, show 7 - k106 = (7 - (k106 + 1)) + 1 by omega]
                  show _ = (if s9.1 = 0 ∧ (k106 = 0 ∨ x_tk tp n s9.2 = 2) then _ else _)
                  rw [if_pos hc9, e1])
              · have q162 := hs153.1.symm.trans h162
                have hi6 : ¬ k106 = 6 := fun h => absurd (x_pn_0 q162) (by have := es6; rw [if_pos h] at this; first | (rw [← this]; exact x_fail_n (by decide) _) | exact x_fail_n (by decide) _)
                have hek := hel q117
                have hes5 : es.length < 6 := by omega
                have hec := (hT153.2.1.2.2 T.2.1.length (by show _ < (T.2.1 ++ [_]).length; rw [List.length_append]; exact Nat.lt_succ_self _)).2.2.2.2.1
                rw [getD_eq] at hec
                refine AW.aload_n dX6_readBread_165 rfl ?_
                refine AW.iload_n dX6_readBread_166 rfl ?_
                refine AW.iload dX6_readBread_167 rfl ?_
                refine AW.callV (b := (t + 8)) (As := [.int x9, .int x153]) hG.2.2 (vX6_192 hG) (ht.1 8 _ rfl) (k_X3_addEater hK (d := 0) (Nat.le_refl _) (k_sub_Town_8 ht) _ _ (ex9.trans hm9) q13 hec hes5) (by omega) dX6_readBread_169 rfl rfl (Nat.le_of_ble_eq_true rfl) (fun v w9 hq9 h09 => by obtain ⟨rfl, rfl⟩ := hq9; exact ⟨h09, rfl⟩) (by decide) (by decide) (fun _ _ hx => hx) (fun v169 w169 hq169 => ?_)
                obtain ⟨rfl, rfl⟩ := hq169
                refine AW.namI (fun I169 eI169 => ?_)
                show AW G mX6_readBread d (fun v w => v = none ∧ ∃ J, w = (sh, J, R, L, g) ∧ k_rt I J e t tp n (x_bread tp n (s, T, fl))) (fun _ _ => False) 172 [some (.ref e), some (.ref t), some (.ref (t + 8)), some (.int x9), some (.int y), some (.int x153)] [] (sh, I169, R, L, g) 0 0
                have eI169 : I169 = f_ae I153 t T.2.1.length es.length x153 := eI169
                refine AW.inc (fun x172 => [some (.ref e), some (.ref t), some (.ref (t + 8)), some (.int x9), some (.int x172), some (.int x153)]) dX6_readBread_172 rfl (by decide) rfl (fun _ => rfl) (fun x172 ex172 => ?_)
                refine AW.goto 106 dX6_readBread_175 (by decide) ?_
                refine AW.mask [5] [some (.ref e), some (.ref t), some (.ref (t + 8)), some (.int x9), some (.int x172), none] rfl ?_
                exact ih106 (k106 + 1) (by omega) (by omega) _ _ (by
                  have hc9 : s9.1 = 0 ∧ (k106 = 0 ∨ x_tk tp n s9.2 = 2) := ⟨q117, Or.inl ((nI_eq (by omega) (by decide)).mp (hy.symm.trans h122))⟩
                  have e1 : x_est tp n T.1.length k106 (s9, es) = (x_pn tp n T.1.length (x_bits es) (x_fail 2 s9), es ++ [x153]) := by
                    unfold x_est
                    show (x_pn tp n T.1.length (x_bits es) (if k106 = 6 then x_fail 2 s9 else s9), (if (x_pn tp n T.1.length (x_bits es) (if k106 = 6 then x_fail 2 s9 else s9)).1 = 0 then es ++ [x_pv tp n T.1.length (x_bits es) (if k106 = 6 then x_fail 2 s9 else s9)] else es)) = _
                    rw [es6, if_pos q162, ex153]
                  have ho : ∀ a, (a < t ∨ t + 19 ≤ a) → I169 a = I153 a := fun a h => by rw [eI169, f_ae_o a (by omega)]
                  have hT169 := k_tw_ea hT153 hes5 x153
                  rw [← eI169] at hT169
                  refine ⟨k_inc (by assumption) hy, k_ft_t hf153 (k_ft_w het ho), x_pn tp n T.1.length (x_bits es) (x_fail 2 s9), es ++ [x153], k_s_w het hs153 ho, k_fl_w het hl153 ho, hT169, fun _ => by rw [List.length_append]; show es.length + 1 = _; omega, by rw [List.length_append]; exact hes5, ?_⟩
                  rw [← hV, show 7 - k106 = (7 - (k106 + 1)) + 1 by omega]
                  show _ = (if s9.1 = 0 ∧ (k106 = 0 ∨ x_tk tp n s9.2 = 2) then _ else _)
                  rw [if_pos hc9, e1])
          · refine AW.aload_n dX6_readBread_125 rfl ?_
            refine AW.getI (fX6_55 hG).r rfl (he.1 0 _ rfl) dX6_readBread_126 ?_
            refine AW.iconst 2 dX6_readBread_129 (by decide) ?_
            refine AW.icmp_ne 178 dX6_readBread_130 (by decide) (fun h130 => ?_) (fun h130 => ?_)
            · rw [hs9.2.2.2.2.2.1] at h130
              have q130 : ¬ x_tk tp n s9.2 = 2 := fun h => h130 ((x_tk_e (by decide)).mpr h)
              exact AW.vret dX6_readBread_178 rfl (by decide) (by decide) (by
                have hV2 : (s9, es) = x_eat tp n T.1.length 7 0 ((x_rn tp n 1 23 (x_rn tp n 0 23 (x_rn tp n 1 999 (x_rn tp n 0 9 (x_adv tp n s))))), []) := by
                  rw [← hV, show 7 - k106 = (7 - (k106 + 1)) + 1 by omega]
                  show _ = (if s9.1 = 0 ∧ (k106 = 0 ∨ x_tk tp n s9.2 = 2) then _ else _)
                  rw [if_neg (fun h => h.2.elim (fun h0 => h122 (by rw [hy, h0]; rfl)) q130)]
                refine ⟨rfl, J, rfl, ?_⟩
                unfold x_bread
                rw [if_neg (show ¬ 6 ≤ T.2.1.length by omega)]
                show k_rt I J e t tp n ((x_eat tp n T.1.length 7 0 ((x_rn tp n 1 23 (x_rn tp n 0 23 (x_rn tp n 1 999 (x_rn tp n 0 9 (x_adv tp n s))))), [])).1, (T.1, T.2.1 ++ [((x_rv tp n 0 9 (x_adv tp n s), x_rv tp n 1 999 (x_rn tp n 0 9 (x_adv tp n s)), x_rv tp n 0 23 (x_rn tp n 1 999 (x_rn tp n 0 9 (x_adv tp n s))), x_rv tp n 1 23 (x_rn tp n 0 23 (x_rn tp n 1 999 (x_rn tp n 0 9 (x_adv tp n s))))), (x_eat tp n T.1.length 7 0 ((x_rn tp n 1 23 (x_rn tp n 0 23 (x_rn tp n 1 999 (x_rn tp n 0 9 (x_adv tp n s))))), [])).2)], T.2.2), fl)
                rw [← hV2]
                exact ⟨hf9, hs9, hl9, fun _ => hT9⟩)
            · rw [hs9.2.2.2.2.2.1] at h130
              have q130 : x_tk tp n s9.2 = 2 := (x_tk_e (k := 2) (by decide)).mp h130
              refine AW.iload dX6_readBread_133 rfl ?_
              refine AW.bipush 6 dX6_readBread_135 (by decide) ?_
              refine AW.icmp_ne 145 dX6_readBread_137 (by decide) (fun h137 => ?_) (fun h137 => ?_)
              · have hi6 : ¬ k106 = 6 := fun h => h137 (by rw [hy, h]; rfl)
                have es6 : (if k106 = 6 then x_fail 2 s9 else s9) = s9 := if_neg hi6
                have hpn := hT9.1.1
                have h14 : J (t + 14) x9.toNatClampNeg = x_bits es := by
                  have h2 := (hT9.2.1.2.2 T.2.1.length (by show _ < (T.2.1 ++ [_]).length; rw [List.length_append]; exact Nat.lt_succ_self _)).2.2.2.2.2.2.1
                  rw [getD_eq] at h2; rw [hcx]; exact h2
                refine AW.aload_n dX6_readBread_145 rfl ?_
                refine AW.aload_n dX6_readBread_146 rfl ?_
                refine AW.aload_n dX6_readBread_147 rfl ?_
                refine AW.getR (c' := (t + 14)) (fX6_185 hG) rfl (ht.1 8 _ rfl) (ht.2 (8, 6, 14) (by decide)) dX6_readBread_148 ?_
                refine AW.iload_n dX6_readBread_151 rfl ?_
                refine AW.iald (ht.1 14 _ rfl) (by first | assumption | (unfold vp_in; decide) | exact vp_in_nI (by omega) (by decide)) dX6_readBread_152 ?_
                refine AW.callV (b := e) (As := [.ref t, .int (J (t + 14) x9.toNatClampNeg)]) hG.2.2 (vX6_188 hG) (he.1 0 _ rfl) (k_X6_readPerson hK (d := 6) (Nat.le_refl _) hr (by assumption) ht (by assumption) (J (t + 14) x9.toNatClampNeg)) (by omega) dX6_readBread_153 rfl rfl (Nat.le_of_ble_eq_true rfl) (fun v w9 hq9 h09 => by obtain ⟨rfl, J9, rfl, -⟩ := hq9; exact ⟨h09, rfl⟩) (by decide) (by decide) (fun _ _ hx => hx) (fun v153 w153 hq153 => ?_)
                obtain ⟨rfl, I153, rfl, hr153⟩ := hq153
                have hs153 := k_rp_i hr153
                have hT153 := k_tw_r het (by assumption) hr153
                have hl153 := k_fl_r (by assumption) hr153
                have hf153 := k_ft_t (by assumption) (k_ft_r (t := t) hr153)
                refine AW.nam (fun x153 ex153 => ?_)
                rw [h14] at hr153 hs153 ex153
                refine AW.is [some (.ref e), some (.ref t), some (.ref (t + 8)), some (.int x9), some (.int y), some (.int x153)] dX6_readBread_156 (by decide) rfl rfl ?_
                refine AW.aload_n dX6_readBread_158 rfl ?_
                refine AW.getI (fX6_39 hG).r rfl (he.1 0 _ rfl) dX6_readBread_159 ?_
                refine AW.if_ne 172 dX6_readBread_162 (by decide) (fun h162 => ?_) (fun h162 => ?_)
                · have q162 := fun h => h162 (hs153.1.trans h)
                  refine AW.inc (fun x172 => [some (.ref e), some (.ref t), some (.ref (t + 8)), some (.int x9), some (.int x172), some (.int x153)]) dX6_readBread_172 rfl (by decide) rfl (fun _ => rfl) (fun x172 ex172 => ?_)
                  refine AW.goto 106 dX6_readBread_175 (by decide) ?_
                  refine AW.mask [5] [some (.ref e), some (.ref t), some (.ref (t + 8)), some (.int x9), some (.int x172), none] rfl ?_
                  exact ih106 (k106 + 1) (by omega) (by omega) _ _ (by
                    have hc9 : s9.1 = 0 ∧ (k106 = 0 ∨ x_tk tp n s9.2 = 2) := ⟨q117, Or.inr q130⟩
                    have e1 : x_est tp n T.1.length k106 (s9, es) = (x_pn tp n T.1.length (x_bits es) s9, es) := by
                      unfold x_est
                      show (x_pn tp n T.1.length (x_bits es) (if k106 = 6 then x_fail 2 s9 else s9), (if (x_pn tp n T.1.length (x_bits es) (if k106 = 6 then x_fail 2 s9 else s9)).1 = 0 then es ++ [x_pv tp n T.1.length (x_bits es) (if k106 = 6 then x_fail 2 s9 else s9)] else es)) = _
                      rw [es6, if_neg q162]
                    refine ⟨k_inc (by assumption) hy, hf153, x_pn tp n T.1.length (x_bits es) s9, es, hs153, hl153, hT153, fun h => absurd h q162, hes6, ?_⟩
                    rw [← hV, show 7 - k106 = (7 - (k106 + 1)) + 1 by omega]
                    show _ = (if s9.1 = 0 ∧ (k106 = 0 ∨ x_tk tp n s9.2 = 2) then _ else _)
                    rw [if_pos hc9, e1])
                · have q162 := hs153.1.symm.trans h162
                  have hi6 : ¬ k106 = 6 := fun h => absurd (x_pn_0 q162) (by have := es6; rw [if_pos h] at this; first | (rw [← this]; exact x_fail_n (by decide) _) | exact x_fail_n (by decide) _)
                  have hek := hel q117
                  have hes5 : es.length < 6 := by omega
                  have hec := (hT153.2.1.2.2 T.2.1.length (by show _ < (T.2.1 ++ [_]).length; rw [List.length_append]; exact Nat.lt_succ_self _)).2.2.2.2.1
                  rw [getD_eq] at hec
                  refine AW.aload_n dX6_readBread_165 rfl ?_
                  refine AW.iload_n dX6_readBread_166 rfl ?_
                  refine AW.iload dX6_readBread_167 rfl ?_
                  refine AW.callV (b := (t + 8)) (As := [.int x9, .int x153]) hG.2.2 (vX6_192 hG) (ht.1 8 _ rfl) (k_X3_addEater hK (d := 0) (Nat.le_refl _) (k_sub_Town_8 ht) _ _ (ex9.trans hm9) q13 hec hes5) (by omega) dX6_readBread_169 rfl rfl (Nat.le_of_ble_eq_true rfl) (fun v w9 hq9 h09 => by obtain ⟨rfl, rfl⟩ := hq9; exact ⟨h09, rfl⟩) (by decide) (by decide) (fun _ _ hx => hx) (fun v169 w169 hq169 => ?_)
                  obtain ⟨rfl, rfl⟩ := hq169
                  refine AW.namI (fun I169 eI169 => ?_)
                  show AW G mX6_readBread d (fun v w => v = none ∧ ∃ J, w = (sh, J, R, L, g) ∧ k_rt I J e t tp n (x_bread tp n (s, T, fl))) (fun _ _ => False) 172 [some (.ref e), some (.ref t), some (.ref (t + 8)), some (.int x9), some (.int y), some (.int x153)] [] (sh, I169, R, L, g) 0 0
                  have eI169 : I169 = f_ae I153 t T.2.1.length es.length x153 := eI169
                  refine AW.inc (fun x172 => [some (.ref e), some (.ref t), some (.ref (t + 8)), some (.int x9), some (.int x172), some (.int x153)]) dX6_readBread_172 rfl (by decide) rfl (fun _ => rfl) (fun x172 ex172 => ?_)
                  refine AW.goto 106 dX6_readBread_175 (by decide) ?_
                  refine AW.mask [5] [some (.ref e), some (.ref t), some (.ref (t + 8)), some (.int x9), some (.int x172), none] rfl ?_
                  exact ih106 (k106 + 1) (by omega) (by omega) _ _ (by
                    have hc9 : s9.1 = 0 ∧ (k106 = 0 ∨ x_tk tp n s9.2 = 2) := ⟨q117, Or.inr q130⟩
                    have e1 : x_est tp n T.1.length k106 (s9, es) = (x_pn tp n T.1.length (x_bits es) s9, es ++ [x153]) := by
                      unfold x_est
                      show (x_pn tp n T.1.length (x_bits es) (if k106 = 6 then x_fail 2 s9 else s9), (if (x_pn tp n T.1.length (x_bits es) (if k106 = 6 then x_fail 2 s9 else s9)).1 = 0 then es ++ [x_pv tp n T.1.length (x_bits es) (if k106 = 6 then x_fail 2 s9 else s9)] else es)) = _
                      rw [es6, if_pos q162, ex153]
                    have ho : ∀ a, (a < t ∨ t + 19 ≤ a) → I169 a = I153 a := fun a h => by rw [eI169, f_ae_o a (by omega)]
                    have hT169 := k_tw_ea hT153 hes5 x153
                    rw [← eI169] at hT169
                    refine ⟨k_inc (by assumption) hy, k_ft_t hf153 (k_ft_w het ho), x_pn tp n T.1.length (x_bits es) s9, es ++ [x153], k_s_w het hs153 ho, k_fl_w het hl153 ho, hT169, fun _ => by rw [List.length_append]; show es.length + 1 = _; omega, by rw [List.length_append]; exact hes5, ?_⟩
                    rw [← hV, show 7 - k106 = (7 - (k106 + 1)) + 1 by omega]
                    show _ = (if s9.1 = 0 ∧ (k106 = 0 ∨ x_tk tp n s9.2 = 2) then _ else _)
                    rw [if_pos hc9, e1])
              · refine AW.aload_n dX6_readBread_140 rfl ?_
                refine AW.iconst 2 dX6_readBread_141 (by decide) ?_
                refine AW.callV (b := e) (As := [.int 2]) hG.2.2 (vX6_97 hG) (he.1 0 _ rfl) (k_X6_fail hK (d := 0) (Nat.le_refl _) he (by assumption) 2) (by omega) dX6_readBread_142 rfl rfl (Nat.le_of_ble_eq_true rfl) (fun v w9 hq9 h09 => by obtain ⟨rfl, J9, rfl, -⟩ := hq9; exact ⟨h09, rfl⟩) (by decide) (by decide) (fun _ _ hx => hx) (fun v142 w142 hq142 => ?_)
                obtain ⟨rfl, I142, rfl, hr142⟩ := hq142
                have hs142 := k_rp_i hr142
                have hT142 := k_tw_r het (by assumption) hr142
                have hl142 := k_fl_r (by assumption) hr142
                have hf142 := k_ft_t (by assumption) (k_ft_r (t := t) hr142)
                show AW G mX6_readBread d (fun v w => v = none ∧ ∃ J, w = (sh, J, R, L, g) ∧ k_rt I J e t tp n (x_bread tp n (s, T, fl))) (fun _ _ => False) 145 [some (.ref e), some (.ref t), some (.ref (t + 8)), some (.int x9), some (.int y), none] [] (sh, I142, R, L, g) 0 0
                have hi6 : k106 = 6 := (nI_eq (by omega) (by decide)).mp (hy.symm.trans h137)
                have es6 : (if k106 = 6 then x_fail 2 s9 else s9) = x_fail 2 s9 := if_pos hi6
                have hpn := hT142.1.1
                have h14 : I142 (t + 14) x9.toNatClampNeg = x_bits es := by
                  have h2 := (hT142.2.1.2.2 T.2.1.length (by show _ < (T.2.1 ++ [_]).length; rw [List.length_append]; exact Nat.lt_succ_self _)).2.2.2.2.2.2.1
                  rw [getD_eq] at h2; rw [hcx]; exact h2
                refine AW.aload_n dX6_readBread_145 rfl ?_
                refine AW.aload_n dX6_readBread_146 rfl ?_
                refine AW.aload_n dX6_readBread_147 rfl ?_
                refine AW.getR (c' := (t + 14)) (fX6_185 hG) rfl (ht.1 8 _ rfl) (ht.2 (8, 6, 14) (by decide)) dX6_readBread_148 ?_
                refine AW.iload_n dX6_readBread_151 rfl ?_
                refine AW.iald (ht.1 14 _ rfl) (by first | assumption | (unfold vp_in; decide) | exact vp_in_nI (by omega) (by decide)) dX6_readBread_152 ?_
                refine AW.callV (b := e) (As := [.ref t, .int (I142 (t + 14) x9.toNatClampNeg)]) hG.2.2 (vX6_188 hG) (he.1 0 _ rfl) (k_X6_readPerson hK (d := 6) (Nat.le_refl _) hr (by assumption) ht (by assumption) (I142 (t + 14) x9.toNatClampNeg)) (by omega) dX6_readBread_153 rfl rfl (Nat.le_of_ble_eq_true rfl) (fun v w9 hq9 h09 => by obtain ⟨rfl, J9, rfl, -⟩ := hq9; exact ⟨h09, rfl⟩) (by decide) (by decide) (fun _ _ hx => hx) (fun v153 w153 hq153 => ?_)
                obtain ⟨rfl, I153, rfl, hr153⟩ := hq153
                have hs153 := k_rp_i hr153
                have hT153 := k_tw_r het (by assumption) hr153
                have hl153 := k_fl_r (by assumption) hr153
                have hf153 := k_ft_t (by assumption) (k_ft_r (t := t) hr153)
                refine AW.nam (fun x153 ex153 => ?_)
                rw [h14] at hr153 hs153 ex153
                refine AW.is [some (.ref e), some (.ref t), some (.ref (t + 8)), some (.int x9), some (.int y), some (.int x153)] dX6_readBread_156 (by decide) rfl rfl ?_
                refine AW.aload_n dX6_readBread_158 rfl ?_
                refine AW.getI (fX6_39 hG).r rfl (he.1 0 _ rfl) dX6_readBread_159 ?_
                refine AW.if_ne 172 dX6_readBread_162 (by decide) (fun h162 => ?_) (fun h162 => ?_)
                · have q162 := fun h => h162 (hs153.1.trans h)
                  refine AW.inc (fun x172 => [some (.ref e), some (.ref t), some (.ref (t + 8)), some (.int x9), some (.int x172), some (.int x153)]) dX6_readBread_172 rfl (by decide) rfl (fun _ => rfl) (fun x172 ex172 => ?_)
                  refine AW.goto 106 dX6_readBread_175 (by decide) ?_
                  refine AW.mask [5] [some (.ref e), some (.ref t), some (.ref (t + 8)), some (.int x9), some (.int x172), none] rfl ?_
                  exact ih106 (k106 + 1) (by omega) (by omega) _ _ (by
                    have hc9 : s9.1 = 0 ∧ (k106 = 0 ∨ x_tk tp n s9.2 = 2) := ⟨q117, Or.inr q130⟩
                    have e1 : x_est tp n T.1.length k106 (s9, es) = (x_pn tp n T.1.length (x_bits es) (x_fail 2 s9), es) := by
                      unfold x_est
                      show (x_pn tp n T.1.length (x_bits es) (if k106 = 6 then x_fail 2 s9 else s9), (if (x_pn tp n T.1.length (x_bits es) (if k106 = 6 then x_fail 2 s9 else s9)).1 = 0 then es ++ [x_pv tp n T.1.length (x_bits es) (if k106 = 6 then x_fail 2 s9 else s9)] else es)) = _
                      rw [es6, if_neg q162]
                    refine ⟨k_inc (by assumption) hy, hf153, x_pn tp n T.1.length (x_bits es) (x_fail 2 s9), es, hs153, hl153, hT153, fun h => absurd h q162, hes6, ?_⟩
                    rw [← hV, show 7 - k106 = (7 - (k106 + 1)) + 1 by omega]
                    show _ = (if s9.1 = 0 ∧ (k106 = 0 ∨ x_tk tp n s9.2 = 2) then _ else _)
                    rw [if_pos hc9, e1])
                · have q162 := hs153.1.symm.trans h162
                  have hi6 : ¬ k106 = 6 := fun h => absurd (x_pn_0 q162) (by have := es6; rw [if_pos h] at this; first | (rw [← this]; exact x_fail_n (by decide) _) | exact x_fail_n (by decide) _)
                  have hek := hel q117
                  have hes5 : es.length < 6 := by omega
                  have hec := (hT153.2.1.2.2 T.2.1.length (by show _ < (T.2.1 ++ [_]).length; rw [List.length_append]; exact Nat.lt_succ_self _)).2.2.2.2.1
                  rw [getD_eq] at hec
                  refine AW.aload_n dX6_readBread_165 rfl ?_
                  refine AW.iload_n dX6_readBread_166 rfl ?_
                  refine AW.iload dX6_readBread_167 rfl ?_
                  refine AW.callV (b := (t + 8)) (As := [.int x9, .int x153]) hG.2.2 (vX6_192 hG) (ht.1 8 _ rfl) (k_X3_addEater hK (d := 0) (Nat.le_refl _) (k_sub_Town_8 ht) _ _ (ex9.trans hm9) q13 hec hes5) (by omega) dX6_readBread_169 rfl rfl (Nat.le_of_ble_eq_true rfl) (fun v w9 hq9 h09 => by obtain ⟨rfl, rfl⟩ := hq9; exact ⟨h09, rfl⟩) (by decide) (by decide) (fun _ _ hx => hx) (fun v169 w169 hq169 => ?_)
                  obtain ⟨rfl, rfl⟩ := hq169
                  refine AW.namI (fun I169 eI169 => ?_)
                  show AW G mX6_readBread d (fun v w => v = none ∧ ∃ J, w = (sh, J, R, L, g) ∧ k_rt I J e t tp n (x_bread tp n (s, T, fl))) (fun _ _ => False) 172 [some (.ref e), some (.ref t), some (.ref (t + 8)), some (.int x9), some (.int y), some (.int x153)] [] (sh, I169, R, L, g) 0 0
                  have eI169 : I169 = f_ae I153 t T.2.1.length es.length x153 := eI169
                  refine AW.inc (fun x172 => [some (.ref e), some (.ref t), some (.ref (t + 8)), some (.int x9), some (.int x172), some (.int x153)]) dX6_readBread_172 rfl (by decide) rfl (fun _ => rfl) (fun x172 ex172 => ?_)
                  refine AW.goto 106 dX6_readBread_175 (by decide) ?_
                  refine AW.mask [5] [some (.ref e), some (.ref t), some (.ref (t + 8)), some (.int x9), some (.int x172), none] rfl ?_
                  exact ih106 (k106 + 1) (by omega) (by omega) _ _ (by
                    have hc9 : s9.1 = 0 ∧ (k106 = 0 ∨ x_tk tp n s9.2 = 2) := ⟨q117, Or.inr q130⟩
                    have e1 : x_est tp n T.1.length k106 (s9, es) = (x_pn tp n T.1.length (x_bits es) (x_fail 2 s9), es ++ [x153]) := by
                      unfold x_est
                      show (x_pn tp n T.1.length (x_bits es) (if k106 = 6 then x_fail 2 s9 else s9), (if (x_pn tp n T.1.length (x_bits es) (if k106 = 6 then x_fail 2 s9 else s9)).1 = 0 then es ++ [x_pv tp n T.1.length (x_bits es) (if k106 = 6 then x_fail 2 s9 else s9)] else es)) = _
                      rw [es6, if_pos q162, ex153]
                    have ho : ∀ a, (a < t ∨ t + 19 ≤ a) → I169 a = I153 a := fun a h => by rw [eI169, f_ae_o a (by omega)]
                    have hT169 := k_tw_ea hT153 hes5 x153
                    rw [← eI169] at hT169
                    refine ⟨k_inc (by assumption) hy, k_ft_t hf153 (k_ft_w het ho), x_pn tp n T.1.length (x_bits es) (x_fail 2 s9), es ++ [x153], k_s_w het hs153 ho, k_fl_w het hl153 ho, hT169, fun _ => by rw [List.length_append]; show es.length + 1 = _; omega, by rw [List.length_append]; exact hes5, ?_⟩
                    rw [← hV, show 7 - k106 = (7 - (k106 + 1)) + 1 by omega]
                    show _ = (if s9.1 = 0 ∧ (k106 = 0 ∨ x_tk tp n s9.2 = 2) then _ else _)
                    rw [if_pos hc9, e1])
    exact L106 0 (by omega) _ _ (⟨nI_0.symm, hf100, _, [], hs100, hl100, hT100, fun _ => rfl, by decide, rfl⟩)
  · have q13 : 6 ≤ T.2.1.length := by
      rcases Nat.lt_or_ge T.2.1.length 6 with h | h
      · exact absurd ((nI_ltl (ex9.trans hm9) (m := 6) rfl (by omega) (by decide)).mpr h) h13
      · exact h
    refine AW.aload_n dX6_readBread_16 rfl ?_
    refine AW.iconst 2 dX6_readBread_17 (by decide) ?_
    refine AW.callV (b := e) (As := [.int 2]) hG.2.2 (vX6_97 hG) (he.1 0 _ rfl) (k_X6_fail hK (d := 0) (Nat.le_refl _) he (by assumption) 2) (by omega) dX6_readBread_18 rfl rfl (Nat.le_of_ble_eq_true rfl) (fun v w9 hq9 h09 => by obtain ⟨rfl, J9, rfl, -⟩ := hq9; exact ⟨h09, rfl⟩) (by decide) (by decide) (fun _ _ hx => hx) (fun v18 w18 hq18 => ?_)
    obtain ⟨rfl, I18, rfl, hr18⟩ := hq18
    have hs18 := k_rp_i hr18
    have hT18 := k_tw_r het (by assumption) hr18
    have hl18 := k_fl_r (by assumption) hr18
    have hf18 := k_ft_t (by assumption) (k_ft_r (t := t) hr18)
    show AW G mX6_readBread d (fun v w => v = none ∧ ∃ J, w = (sh, J, R, L, g) ∧ k_rt I J e t tp n (x_bread tp n (s, T, fl))) (fun _ _ => False) 21 [some (.ref e), some (.ref t), some (.ref (t + 8)), some (.int x9), none, none] [] (sh, I18, R, L, g) 0 0
    exact AW.vret dX6_readBread_21 rfl (by decide) (by decide) (⟨rfl, I18, rfl, by unfold x_bread; rw [if_pos q13]; exact ⟨hf18, hs18, hl18, fun _ => hT18⟩⟩)
