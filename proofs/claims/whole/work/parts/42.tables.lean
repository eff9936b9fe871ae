/-! TABLES, COUPLES, GAMES, SAFE, WHO, FAIREST -/
theorem k_is_out {x : Int32} {n : Nat} (h : x.toInt < 0 ∨ (n : Int) ≤ x.toInt) (hn : n < 2 ^ 31) : ¬ k_is x n := by
  refine k_is_no ?_ hn
  rcases h with h | h
  · exact Or.inl (Int32.lt_iff_toInt_lt.mpr h)
  · exact Or.inr (Int32.le_iff_toInt_le.mpr (by rw [nI_toInt hn]; exact h))
def f_ct (I : Nat → Nat → Int32) (t n m j : Nat) : Int32 :=
  if j = 0 then I t 0 else if j = 1 then I (t + 8) 0 else if j = 2 then I t 2 else if j = 3 then I t 3 else if j = 4 then I 47 0 else if j = 5 then I 47 1
  else if j = 6 then I (t + 8) 0 - f_bc (f_ub (I 49) m) else if j = 7 then f_cu ((f_look I 90 t 47 n m) 91) n n else if j = 8 then I 42 5 else if j = 9 then I 41 2 else if j = 10 then I 41 6 else if j = 11 then I 1 1 else I 54 (j - 12)
def f_pe (I : Nat → Nat → Int32) (t n m a j : Nat) : Int32 := if j = 0 then I (t + 1) a else if j = 1 then I (t + 2) a else if j = 2 then I (t + 3) a else if j = 3 then I (t + 4) a else if j = 4 then I 50 a else (f_look I 90 t 47 n m) 91 a
def f_lo (I : Nat → Nat → Int32) (t n m b j : Nat) : Int32 := if j = 0 then I (t + 9) b else if j = 1 then I (t + 10) b else if j = 2 then I (t + 11) b else if j = 3 then I (t + 12) b else if j = 4 then I (t + 14) b else if j = 5 then f_sc (I (t + 4)) (I (t + 14) b) n else if j = 6 then I 49 b else f_pw (f_look I 90 t 47 n m) t n b 0 n
abbrev pX10_count : am_M := (yX10_count, cX10_count, 3, (some .int), 1, 6)
theorem dX10_count_0 : decode cX10_count 0 = .ok (.aload_n 0, 1) := by decide +kernel
theorem dX10_count_1 : decode cX10_count 1 = .ok (.getfield 33, 3) := by decide +kernel
theorem dX10_count_4 : decode cX10_count 4 = .ok (.getfield 110, 3) := by decide +kernel
theorem dX10_count_7 : decode cX10_count 7 = .ok (.getfield 114, 3) := by decide +kernel
theorem dX10_count_10 : decode cX10_count 10 = .ok (.astore_n 2, 1) := by decide +kernel
theorem dX10_count_11 : decode cX10_count 11 = .ok (.iload_n 1, 1) := by decide +kernel
theorem dX10_count_12 : decode cX10_count 12 = .ok (.tableswitch 208 0 14 #[76, 84, 95, 103, 111, 116, 121, 144, 160, 171, 179, 187, 195, 195, 195], 76) := by decide +kernel
theorem dX10_count_88 : decode cX10_count 88 = .ok (.aload_n 0, 1) := by decide +kernel
theorem dX10_count_89 : decode cX10_count 89 = .ok (.getfield 19, 3) := by decide +kernel
theorem dX10_count_92 : decode cX10_count 92 = .ok (.getfield 119, 3) := by decide +kernel
theorem dX10_count_95 : decode cX10_count 95 = .ok (.ireturn, 1) := by decide +kernel
theorem dX10_count_96 : decode cX10_count 96 = .ok (.aload_n 0, 1) := by decide +kernel
theorem dX10_count_97 : decode cX10_count 97 = .ok (.getfield 19, 3) := by decide +kernel
theorem dX10_count_100 : decode cX10_count 100 = .ok (.getfield 122, 3) := by decide +kernel
theorem dX10_count_103 : decode cX10_count 103 = .ok (.getfield 126, 3) := by decide +kernel
theorem dX10_count_106 : decode cX10_count 106 = .ok (.ireturn, 1) := by decide +kernel
theorem dX10_count_107 : decode cX10_count 107 = .ok (.aload_n 0, 1) := by decide +kernel
theorem dX10_count_108 : decode cX10_count 108 = .ok (.getfield 19, 3) := by decide +kernel
theorem dX10_count_111 : decode cX10_count 111 = .ok (.getfield 131, 3) := by decide +kernel
theorem dX10_count_114 : decode cX10_count 114 = .ok (.ireturn, 1) := by decide +kernel
theorem dX10_count_115 : decode cX10_count 115 = .ok (.aload_n 0, 1) := by decide +kernel
theorem dX10_count_116 : decode cX10_count 116 = .ok (.getfield 19, 3) := by decide +kernel
theorem dX10_count_119 : decode cX10_count 119 = .ok (.getfield 134, 3) := by decide +kernel
theorem dX10_count_122 : decode cX10_count 122 = .ok (.ireturn, 1) := by decide +kernel
theorem dX10_count_123 : decode cX10_count 123 = .ok (.aload_n 2, 1) := by decide +kernel
theorem dX10_count_124 : decode cX10_count 124 = .ok (.getfield 137, 3) := by decide +kernel
theorem dX10_count_127 : decode cX10_count 127 = .ok (.ireturn, 1) := by decide +kernel
theorem dX10_count_128 : decode cX10_count 128 = .ok (.aload_n 2, 1) := by decide +kernel
theorem dX10_count_129 : decode cX10_count 129 = .ok (.getfield 140, 3) := by decide +kernel
theorem dX10_count_132 : decode cX10_count 132 = .ok (.ireturn, 1) := by decide +kernel
theorem dX10_count_133 : decode cX10_count 133 = .ok (.aload_n 0, 1) := by decide +kernel
theorem dX10_count_134 : decode cX10_count 134 = .ok (.getfield 19, 3) := by decide +kernel
theorem dX10_count_137 : decode cX10_count 137 = .ok (.getfield 122, 3) := by decide +kernel
theorem dX10_count_140 : decode cX10_count 140 = .ok (.getfield 126, 3) := by decide +kernel
theorem dX10_count_143 : decode cX10_count 143 = .ok (.aload_n 2, 1) := by decide +kernel
theorem dX10_count_144 : decode cX10_count 144 = .ok (.aload_n 0, 1) := by decide +kernel
theorem dX10_count_145 : decode cX10_count 145 = .ok (.getfield 19, 3) := by decide +kernel
theorem dX10_count_148 : decode cX10_count 148 = .ok (.getfield 122, 3) := by decide +kernel
theorem dX10_count_151 : decode cX10_count 151 = .ok (.invokevirtual 143, 3) := by decide +kernel
theorem dX10_count_154 : decode cX10_count 154 = .ok (.isub, 1) := by decide +kernel
theorem dX10_count_155 : decode cX10_count 155 = .ok (.ireturn, 1) := by decide +kernel
theorem dX10_count_156 : decode cX10_count 156 = .ok (.aload_n 0, 1) := by decide +kernel
theorem dX10_count_157 : decode cX10_count 157 = .ok (.invokevirtual 147, 3) := by decide +kernel
theorem dX10_count_160 : decode cX10_count 160 = .ok (.aload_n 0, 1) := by decide +kernel
theorem dX10_count_161 : decode cX10_count 161 = .ok (.getfield 54, 3) := by decide +kernel
theorem dX10_count_164 : decode cX10_count 164 = .ok (.aload_n 0, 1) := by decide +kernel
theorem dX10_count_165 : decode cX10_count 165 = .ok (.getfield 19, 3) := by decide +kernel
theorem dX10_count_168 : decode cX10_count 168 = .ok (.invokevirtual 150, 3) := by decide +kernel
theorem dX10_count_171 : decode cX10_count 171 = .ok (.ireturn, 1) := by decide +kernel
theorem dX10_count_172 : decode cX10_count 172 = .ok (.aload_n 0, 1) := by decide +kernel
theorem dX10_count_173 : decode cX10_count 173 = .ok (.getfield 33, 3) := by decide +kernel
theorem dX10_count_176 : decode cX10_count 176 = .ok (.getfield 110, 3) := by decide +kernel
theorem dX10_count_179 : decode cX10_count 179 = .ok (.getfield 154, 3) := by decide +kernel
theorem dX10_count_182 : decode cX10_count 182 = .ok (.ireturn, 1) := by decide +kernel
theorem dX10_count_183 : decode cX10_count 183 = .ok (.aload_n 0, 1) := by decide +kernel
theorem dX10_count_184 : decode cX10_count 184 = .ok (.getfield 33, 3) := by decide +kernel
theorem dX10_count_187 : decode cX10_count 187 = .ok (.getfield 157, 3) := by decide +kernel
theorem dX10_count_190 : decode cX10_count 190 = .ok (.ireturn, 1) := by decide +kernel
theorem dX10_count_191 : decode cX10_count 191 = .ok (.aload_n 0, 1) := by decide +kernel
theorem dX10_count_192 : decode cX10_count 192 = .ok (.getfield 33, 3) := by decide +kernel
theorem dX10_count_195 : decode cX10_count 195 = .ok (.getfield 160, 3) := by decide +kernel
theorem dX10_count_198 : decode cX10_count 198 = .ok (.ireturn, 1) := by decide +kernel
theorem dX10_count_199 : decode cX10_count 199 = .ok (.aload_n 0, 1) := by decide +kernel
theorem dX10_count_200 : decode cX10_count 200 = .ok (.getfield 10, 3) := by decide +kernel
theorem dX10_count_203 : decode cX10_count 203 = .ok (.getfield 79, 3) := by decide +kernel
theorem dX10_count_206 : decode cX10_count 206 = .ok (.ireturn, 1) := by decide +kernel
theorem dX10_count_207 : decode cX10_count 207 = .ok (.aload_n 0, 1) := by decide +kernel
theorem dX10_count_208 : decode cX10_count 208 = .ok (.getfield 33, 3) := by decide +kernel
theorem dX10_count_211 : decode cX10_count 211 = .ok (.getfield 100, 3) := by decide +kernel
theorem dX10_count_214 : decode cX10_count 214 = .ok (.iload_n 1, 1) := by decide +kernel
theorem dX10_count_215 : decode cX10_count 215 = .ok (.bipush 12, 2) := by decide +kernel
theorem dX10_count_217 : decode cX10_count 217 = .ok (.isub, 1) := by decide +kernel
theorem dX10_count_218 : decode cX10_count 218 = .ok (.iaload, 1) := by decide +kernel
theorem dX10_count_219 : decode cX10_count 219 = .ok (.ireturn, 1) := by decide +kernel
theorem dX10_count_220 : decode cX10_count 220 = .ok (.new 163, 3) := by decide +kernel
theorem dX10_count_223 : decode cX10_count 223 = .ok (.dup, 1) := by decide +kernel
theorem dX10_count_224 : decode cX10_count 224 = .ok (.ldc 165, 2) := by decide +kernel
theorem dX10_count_226 : decode cX10_count 226 = .ok (.invokespecial 167, 3) := by decide +kernel
theorem dX10_count_229 : decode cX10_count 229 = .ok (.athrow, 1) := by decide +kernel
set_option maxRecDepth 100000 in
set_option maxHeartbeats 4000000 in
theorem k_X10_count {G : am_G} (hK : k_OK G) {d : Nat} (hd : 8 ≤ d) {sh : List (Nat ⊕ (Nat × Nat))} {I : Nat → Nat → Int32} {R : Nat → Nat → Option Nat} {L : Nat → Nat → Int64} {g : Nat} (hXS : k_XS G) {t : Nat} (hM : k_Main sh R) (hRt : R 0 1 = some t) (ht3 : t = 3 ∨ t = 22) (hg : g ≠ 0) {n m : Nat} (hn : I t 0 = nI n) (hn8 : n ≤ 8) (hm : I (t + 8) 0 = nI m) (hm6 : m ≤ 6) (wh : Int32) : AM G pX10_count d [.ref 0, .int wh] (sh, I, R, L, g) (fun v w => ∃ j, j < 15 ∧ wh = nI j ∧ v = some (.int (f_ct I t n m j)) ∧ w = (sh, if j = 7 then f_look I 90 t 47 n m else I, R, L, g)) (fun E w => w = (sh, I, R, L, g) ∧ E = "java/util/NoSuchElementException" ∧ ¬ k_is wh 15) := by
  have hG := hK.1
  have ht : k_Town sh R t := by rcases ht3 with rfl | rfl; exact kM_3 hM; exact kM_22 hM
  have o41 := kM_41 hM
  have o42 := kM_42 hM
  have o43 := kM_43 hM
  have o47 := kM_47 hM
  have o60 := kM_60 hM
  have o90 := kM_90 hM
  have o93 := kM_93 hM
  have o97 := kM_97 hM
  have o79 := kM_79 hM
  have o1 := kM_1 hM
  refine AM.of (n := 1) (by decide +kernel) (Nat.le_of_ble_eq_true rfl) ?_
  show AW G pX10_count d (fun v w => ∃ j, j < 15 ∧ wh = nI j ∧ v = some (.int (f_ct I t n m j)) ∧ w = (sh, if j = 7 then f_look I 90 t 47 n m else I, R, L, g)) (fun E w => w = (sh, I, R, L, g) ∧ E = "java/util/NoSuchElementException" ∧ ¬ k_is wh 15) 0 [some (.ref 0), some (.int wh), none] [] (sh, I, R, L, g) 0 0
  refine AW.aload_n dX10_count_0 rfl ?_
  refine AW.getR (c' := 41) (fX10_33 hG).r rfl (hM.1 0 _ rfl) (hM.2 (0, 4, 41) (by decide)) dX10_count_1 ?_
  refine AW.getR (c' := 42) (fX10_110 hG) rfl (o41.1 0 _ rfl) (o41.2 (0, 0, 1) (by decide)) dX10_count_4 ?_
  refine AW.getR (c' := 47) (fX10_114 hG) rfl (o42.1 0 _ rfl) (o42.2 (0, 1, 5) (by decide)) dX10_count_7 ?_
  refine AW.as_n [some (.ref 0), some (.int wh), some (.ref 47)] dX10_count_10 (by decide) rfl rfl ?_
  refine AW.iload_n dX10_count_11 rfl ?_
  refine AW.nam (fun x12 ex12 => ?_)
  by_cases hs12_0 : x12 = 0
  · subst hs12_0
    refine AW.tabIn 88 dX10_count_12 (by decide) (by decide) rfl (by decide) ?_
    refine AW.aload_n dX10_count_88 rfl ?_
    refine AW.getR (fX10_19 hG).r rfl (hM.1 0 _ rfl) hRt dX10_count_89 ?_
    refine AW.getI (fX10_119 hG).r rfl (ht.1 0 _ rfl) dX10_count_92 ?_
    exact AW.iret dX10_count_95 rfl (by decide) (by decide) (⟨0, by decide, ex12.symm, rfl, rfl⟩)
  by_cases hs12_1 : x12 = 1
  · subst hs12_1
    refine AW.tabIn 96 dX10_count_12 (by decide) (by decide) rfl (by decide) ?_
    refine AW.aload_n dX10_count_96 rfl ?_
    refine AW.getR (fX10_19 hG).r rfl (hM.1 0 _ rfl) hRt dX10_count_97 ?_
    refine AW.getR (c' := (t + 8)) (fX10_122 hG) rfl (ht.1 0 _ rfl) (ht.2 (0, 11, 8) (by decide)) dX10_count_100 ?_
    refine AW.getI (fX10_126 hG).r rfl (ht.1 8 _ rfl) dX10_count_103 ?_
    exact AW.iret dX10_count_106 rfl (by decide) (by decide) (⟨1, by decide, ex12.symm, rfl, rfl⟩)
  by_cases hs12_2 : x12 = 2
  · subst hs12_2
    refine AW.tabIn 107 dX10_count_12 (by decide) (by decide) rfl (by decide) ?_
    refine AW.aload_n dX10_count_107 rfl ?_
    refine AW.getR (fX10_19 hG).r rfl (hM.1 0 _ rfl) hRt dX10_count_108 ?_
    refine AW.getI (fX10_131 hG).r rfl (ht.1 0 _ rfl) dX10_count_111 ?_
    exact AW.iret dX10_count_114 rfl (by decide) (by decide) (⟨2, by decide, ex12.symm, rfl, rfl⟩)
  by_cases hs12_3 : x12 = 3
  · subst hs12_3
    refine AW.tabIn 115 dX10_count_12 (by decide) (by decide) rfl (by decide) ?_
    refine AW.aload_n dX10_count_115 rfl ?_
    refine AW.getR (fX10_19 hG).r rfl (hM.1 0 _ rfl) hRt dX10_count_116 ?_
    refine AW.getI (fX10_134 hG).r rfl (ht.1 0 _ rfl) dX10_count_119 ?_
    exact AW.iret dX10_count_122 rfl (by decide) (by decide) (⟨3, by decide, ex12.symm, rfl, rfl⟩)
  by_cases hs12_4 : x12 = 4
  · subst hs12_4
    refine AW.tabIn 123 dX10_count_12 (by decide) (by decide) rfl (by decide) ?_
    refine AW.aload_n dX10_count_123 rfl ?_
    refine AW.getI (fX10_137 hG).r rfl (o47.1 0 _ rfl) dX10_count_124 ?_
    exact AW.iret dX10_count_127 rfl (by decide) (by decide) (⟨4, by decide, ex12.symm, rfl, rfl⟩)
  by_cases hs12_5 : x12 = 5
  · subst hs12_5
    refine AW.tabIn 128 dX10_count_12 (by decide) (by decide) rfl (by decide) ?_
    refine AW.aload_n dX10_count_128 rfl ?_
    refine AW.getI (fX10_140 hG).r rfl (o47.1 0 _ rfl) dX10_count_129 ?_
    exact AW.iret dX10_count_132 rfl (by decide) (by decide) (⟨5, by decide, ex12.symm, rfl, rfl⟩)
  by_cases hs12_6 : x12 = 6
  · subst hs12_6
    refine AW.tabIn 133 dX10_count_12 (by decide) (by decide) rfl (by decide) ?_
    refine AW.aload_n dX10_count_133 rfl ?_
    refine AW.getR (fX10_19 hG).r rfl (hM.1 0 _ rfl) hRt dX10_count_134 ?_
    refine AW.getR (c' := (t + 8)) (fX10_122 hG) rfl (ht.1 0 _ rfl) (ht.2 (0, 11, 8) (by decide)) dX10_count_137 ?_
    refine AW.getI (fX10_126 hG).r rfl (ht.1 8 _ rfl) dX10_count_140 ?_
    refine AW.aload_n dX10_count_143 rfl ?_
    refine AW.aload_n dX10_count_144 rfl ?_
    refine AW.getR (fX10_19 hG).r rfl (hM.1 0 _ rfl) hRt dX10_count_145 ?_
    refine AW.getR (c' := (t + 8)) (fX10_122 hG) rfl (ht.1 0 _ rfl) (ht.2 (0, 11, 8) (by decide)) dX10_count_148 ?_
    refine AW.callV (b := 47) (As := [.ref (t + 8)]) hG.2.2 (vX10_143 hG) (o47.1 0 _ rfl) (k_X2_uncut hK (d := 1) (Nat.le_refl _) o47 (k_sub_Town_8 ht) (by first | assumption) (by first | assumption)) (by omega) dX10_count_151 rfl rfl (Nat.le_of_ble_eq_true rfl) (fun v w9 hq9 h09 => by obtain ⟨rfl, rfl⟩ := hq9; exact ⟨h09, rfl⟩) (by decide) (by decide) (fun _ _ hx => absurd hx id) (fun v151 w151 hq151 => ?_)
    obtain ⟨rfl, rfl⟩ := hq151
    refine AW.nam (fun x151 ex151 => ?_)
    refine AW.isub dX10_count_154 ?_
    exact AW.iret dX10_count_155 rfl (by decide) (by decide) (⟨6, by decide, ex12.symm, by rw [ex151]; rfl, rfl⟩)
  by_cases hs12_7 : x12 = 7
  · subst hs12_7
    refine AW.tabIn 156 dX10_count_12 (by decide) (by decide) rfl (by decide) ?_
    refine AW.aload_n dX10_count_156 rfl ?_
    refine AW.callV (b := 0) (As := []) hG.2.2 (vX10_147 hG) (hM.1 0 _ rfl) (k_X10_lookAround hK (d := 3) (Nat.le_refl _) hXS hM hRt ht3 (by assumption) (by assumption) (by assumption) (by assumption)) (by omega) dX10_count_157 rfl rfl (Nat.le_of_ble_eq_true rfl) (fun v w9 hq9 h09 => by obtain ⟨rfl, rfl⟩ := hq9; exact ⟨h09, rfl⟩) (by decide) (by decide) (fun _ _ hx => absurd hx id) (fun v157 w157 hq157 => ?_)
    obtain ⟨rfl, rfl⟩ := hq157
    refine AW.namI (fun I157 eI157 => ?_)
    show AW G pX10_count d (fun v w => ∃ j, j < 15 ∧ wh = nI j ∧ v = some (.int (f_ct I t n m j)) ∧ w = (sh, if j = 7 then f_look I 90 t 47 n m else I, R, L, g)) (fun E w => w = (sh, I, R, L, g) ∧ E = "java/util/NoSuchElementException" ∧ ¬ k_is wh 15) 160 [some (.ref 0), some (.int wh), some (.ref 47)] [] (sh, I157, R, L, g) 0 0
    have hJn : I157 t 0 = nI n := by rw [eI157, f_look_K _ _ _ _ (by omega) (by omega)]; exact hn
    have hJm : I157 (t + 8) 0 = nI m := by rw [eI157, f_look_K _ _ _ _ (by omega) (by omega)]; exact hm
    refine AW.aload_n dX10_count_160 rfl ?_
    refine AW.getR (c' := 90) (fX10_54 hG).r rfl (hM.1 0 _ rfl) (hM.2 (0, 10, 90) (by decide)) dX10_count_161 ?_
    refine AW.aload_n dX10_count_164 rfl ?_
    refine AW.getR (fX10_19 hG).r rfl (hM.1 0 _ rfl) hRt dX10_count_165 ?_
    refine AW.callV (b := 90) (As := [.ref t]) hG.2.2 (vX10_150 hG) (o90.1 0 _ rfl) (k_X1_couples hK (d := 2) (Nat.le_refl _) o90 ht (by assumption) (by assumption)) (by omega) dX10_count_168 rfl rfl (Nat.le_of_ble_eq_true rfl) (fun v w9 hq9 h09 => by obtain ⟨rfl, rfl⟩ := hq9; exact ⟨h09, rfl⟩) (by decide) (by decide) (fun _ _ hx => absurd hx id) (fun v168 w168 hq168 => ?_)
    obtain ⟨rfl, rfl⟩ := hq168
    refine AW.nam (fun x168 ex168 => ?_)
    exact AW.iret dX10_count_171 rfl (by decide) (by decide) (⟨7, by decide, ex12.symm, by rw [ex168, eI157]; rfl, by rw [eI157]; rfl⟩)
  by_cases hs12_8 : x12 = 8
  · subst hs12_8
    refine AW.tabIn 172 dX10_count_12 (by decide) (by decide) rfl (by decide) ?_
    refine AW.aload_n dX10_count_172 rfl ?_
    refine AW.getR (c' := 41) (fX10_33 hG).r rfl (hM.1 0 _ rfl) (hM.2 (0, 4, 41) (by decide)) dX10_count_173 ?_
    refine AW.getR (c' := 42) (fX10_110 hG) rfl (o41.1 0 _ rfl) (o41.2 (0, 0, 1) (by decide)) dX10_count_176 ?_
    refine AW.getI (fX10_154 hG).r rfl (o42.1 0 _ rfl) dX10_count_179 ?_
    exact AW.iret dX10_count_182 rfl (by decide) (by decide) (⟨8, by decide, ex12.symm, rfl, rfl⟩)
  by_cases hs12_9 : x12 = 9
  · subst hs12_9
    refine AW.tabIn 183 dX10_count_12 (by decide) (by decide) rfl (by decide) ?_
    refine AW.aload_n dX10_count_183 rfl ?_
    refine AW.getR (c' := 41) (fX10_33 hG).r rfl (hM.1 0 _ rfl) (hM.2 (0, 4, 41) (by decide)) dX10_count_184 ?_
    refine AW.getI (fX10_157 hG).r rfl (o41.1 0 _ rfl) dX10_count_187 ?_
    exact AW.iret dX10_count_190 rfl (by decide) (by decide) (⟨9, by decide, ex12.symm, rfl, rfl⟩)
  by_cases hs12_10 : x12 = 10
  · subst hs12_10
    refine AW.tabIn 191 dX10_count_12 (by decide) (by decide) rfl (by decide) ?_
    refine AW.aload_n dX10_count_191 rfl ?_
    refine AW.getR (c' := 41) (fX10_33 hG).r rfl (hM.1 0 _ rfl) (hM.2 (0, 4, 41) (by decide)) dX10_count_192 ?_
    refine AW.getI (fX10_160 hG).r rfl (o41.1 0 _ rfl) dX10_count_195 ?_
    exact AW.iret dX10_count_198 rfl (by decide) (by decide) (⟨10, by decide, ex12.symm, rfl, rfl⟩)
  by_cases hs12_11 : x12 = 11
  · subst hs12_11
    refine AW.tabIn 199 dX10_count_12 (by decide) (by decide) rfl (by decide) ?_
    refine AW.aload_n dX10_count_199 rfl ?_
    refine AW.getR (c' := 1) (fX10_10 hG).r rfl (hM.1 0 _ rfl) (hM.2 (0, 0, 1) (by decide)) dX10_count_200 ?_
    refine AW.getI (fX10_79 hG).r rfl (o1.1 0 _ rfl) dX10_count_203 ?_
    exact AW.iret dX10_count_206 rfl (by decide) (by decide) (⟨11, by decide, ex12.symm, rfl, rfl⟩)
  by_cases hs12_12 : x12 = 12
  · subst hs12_12
    refine AW.tabIn 207 dX10_count_12 (by decide) (by decide) rfl (by decide) ?_
    refine AW.aload_n dX10_count_207 rfl ?_
    refine AW.getR (c' := 41) (fX10_33 hG).r rfl (hM.1 0 _ rfl) (hM.2 (0, 4, 41) (by decide)) dX10_count_208 ?_
    refine AW.getR (c' := 54) (fX10_100 hG) rfl (o41.1 0 _ rfl) (o41.2 (0, 1, 13) (by decide)) dX10_count_211 ?_
    refine AW.iload_n dX10_count_214 rfl ?_
    refine AW.bipush 12 dX10_count_215 (by decide) ?_
    refine AW.isub dX10_count_217 ?_
    refine AW.iald (o41.1 13 _ rfl) (by rw [← ex12]; unfold vp_in; decide) dX10_count_218 ?_
    exact AW.iret dX10_count_219 rfl (by decide) (by decide) (⟨12, by decide, ex12.symm, by rw [← ex12]; rfl, rfl⟩)
  by_cases hs12_13 : x12 = 13
  · subst hs12_13
    refine AW.tabIn 207 dX10_count_12 (by decide) (by decide) rfl (by decide) ?_
    refine AW.aload_n dX10_count_207 rfl ?_
    refine AW.getR (c' := 41) (fX10_33 hG).r rfl (hM.1 0 _ rfl) (hM.2 (0, 4, 41) (by decide)) dX10_count_208 ?_
    refine AW.getR (c' := 54) (fX10_100 hG) rfl (o41.1 0 _ rfl) (o41.2 (0, 1, 13) (by decide)) dX10_count_211 ?_
    refine AW.iload_n dX10_count_214 rfl ?_
    refine AW.bipush 12 dX10_count_215 (by decide) ?_
    refine AW.isub dX10_count_217 ?_
    refine AW.iald (o41.1 13 _ rfl) (by rw [← ex12]; unfold vp_in; decide) dX10_count_218 ?_
    exact AW.iret dX10_count_219 rfl (by decide) (by decide) (⟨13, by decide, ex12.symm, by rw [← ex12]; rfl, rfl⟩)
  by_cases hs12_14 : x12 = 14
  · subst hs12_14
    refine AW.tabIn 207 dX10_count_12 (by decide) (by decide) rfl (by decide) ?_
    refine AW.aload_n dX10_count_207 rfl ?_
    refine AW.getR (c' := 41) (fX10_33 hG).r rfl (hM.1 0 _ rfl) (hM.2 (0, 4, 41) (by decide)) dX10_count_208 ?_
    refine AW.getR (c' := 54) (fX10_100 hG) rfl (o41.1 0 _ rfl) (o41.2 (0, 1, 13) (by decide)) dX10_count_211 ?_
    refine AW.iload_n dX10_count_214 rfl ?_
    refine AW.bipush 12 dX10_count_215 (by decide) ?_
    refine AW.isub dX10_count_217 ?_
    refine AW.iald (o41.1 13 _ rfl) (by rw [← ex12]; unfold vp_in; decide) dX10_count_218 ?_
    exact AW.iret dX10_count_219 rfl (by decide) (by decide) (⟨14, by decide, ex12.symm, by rw [← ex12]; rfl, rfl⟩)
  have ht12 : x12.toInt < 0 ∨ 14 < x12.toInt := by
    have h90 : ¬ x12.toInt = 0 := fun h => hs12_0 (Int32.toInt_inj.mp (h.trans (by decide)))
    have h91 : ¬ x12.toInt = 1 := fun h => hs12_1 (Int32.toInt_inj.mp (h.trans (by decide)))
    have h92 : ¬ x12.toInt = 2 := fun h => hs12_2 (Int32.toInt_inj.mp (h.trans (by decide)))
    have h93 : ¬ x12.toInt = 3 := fun h => hs12_3 (Int32.toInt_inj.mp (h.trans (by decide)))
    have h94 : ¬ x12.toInt = 4 := fun h => hs12_4 (Int32.toInt_inj.mp (h.trans (by decide)))
    have h95 : ¬ x12.toInt = 5 := fun h => hs12_5 (Int32.toInt_inj.mp (h.trans (by decide)))
    have h96 : ¬ x12.toInt = 6 := fun h => hs12_6 (Int32.toInt_inj.mp (h.trans (by decide)))
    have h97 : ¬ x12.toInt = 7 := fun h => hs12_7 (Int32.toInt_inj.mp (h.trans (by decide)))
    have h98 : ¬ x12.toInt = 8 := fun h => hs12_8 (Int32.toInt_inj.mp (h.trans (by decide)))
    have h99 : ¬ x12.toInt = 9 := fun h => hs12_9 (Int32.toInt_inj.mp (h.trans (by decide)))
    have h910 : ¬ x12.toInt = 10 := fun h => hs12_10 (Int32.toInt_inj.mp (h.trans (by decide)))
    have h911 : ¬ x12.toInt = 11 := fun h => hs12_11 (Int32.toInt_inj.mp (h.trans (by decide)))
    have h912 : ¬ x12.toInt = 12 := fun h => hs12_12 (Int32.toInt_inj.mp (h.trans (by decide)))
    have h913 : ¬ x12.toInt = 13 := fun h => hs12_13 (Int32.toInt_inj.mp (h.trans (by decide)))
    have h914 : ¬ x12.toInt = 14 := fun h => hs12_14 (Int32.toInt_inj.mp (h.trans (by decide)))
    omega
  refine AW.tabOut 220 dX10_count_12 ht12 (by decide) ?_
  exact AW.throwN (hXS.1 165 (by decide)) dX10_count_220 dX10_count_223 dX10_count_224 dX10_count_226 dX10_count_229 (by omega) (Nat.le_of_ble_eq_true rfl) (by decide) (by decide) hg (⟨rfl, rfl, k_is_out (by rw [← ex12]; omega) (by decide)⟩)
abbrev pX10_person : am_M := (yX10_person, cX10_person, 3, (some .int), 2, 12)
theorem dX10_person_0 : decode cX10_person 0 = .ok (.aload_n 0, 1) := by decide +kernel
theorem dX10_person_1 : decode cX10_person 1 = .ok (.iload_n 1, 1) := by decide +kernel
theorem dX10_person_2 : decode cX10_person 2 = .ok (.invokevirtual 168, 3) := by decide +kernel
theorem dX10_person_5 : decode cX10_person 5 = .ok (.iload_n 2, 1) := by decide +kernel
theorem dX10_person_6 : decode cX10_person 6 = .ok (.tableswitch 108 0 5 #[38, 48, 58, 68, 78, 94], 38) := by decide +kernel
theorem dX10_person_44 : decode cX10_person 44 = .ok (.aload_n 0, 1) := by decide +kernel
theorem dX10_person_45 : decode cX10_person 45 = .ok (.getfield 19, 3) := by decide +kernel
theorem dX10_person_48 : decode cX10_person 48 = .ok (.getfield 171, 3) := by decide +kernel
theorem dX10_person_51 : decode cX10_person 51 = .ok (.iload_n 1, 1) := by decide +kernel
theorem dX10_person_52 : decode cX10_person 52 = .ok (.iaload, 1) := by decide +kernel
theorem dX10_person_53 : decode cX10_person 53 = .ok (.ireturn, 1) := by decide +kernel
theorem dX10_person_54 : decode cX10_person 54 = .ok (.aload_n 0, 1) := by decide +kernel
theorem dX10_person_55 : decode cX10_person 55 = .ok (.getfield 19, 3) := by decide +kernel
theorem dX10_person_58 : decode cX10_person 58 = .ok (.getfield 174, 3) := by decide +kernel
theorem dX10_person_61 : decode cX10_person 61 = .ok (.iload_n 1, 1) := by decide +kernel
theorem dX10_person_62 : decode cX10_person 62 = .ok (.iaload, 1) := by decide +kernel
theorem dX10_person_63 : decode cX10_person 63 = .ok (.ireturn, 1) := by decide +kernel
theorem dX10_person_64 : decode cX10_person 64 = .ok (.aload_n 0, 1) := by decide +kernel
theorem dX10_person_65 : decode cX10_person 65 = .ok (.getfield 19, 3) := by decide +kernel
theorem dX10_person_68 : decode cX10_person 68 = .ok (.getfield 177, 3) := by decide +kernel
theorem dX10_person_71 : decode cX10_person 71 = .ok (.iload_n 1, 1) := by decide +kernel
theorem dX10_person_72 : decode cX10_person 72 = .ok (.iaload, 1) := by decide +kernel
theorem dX10_person_73 : decode cX10_person 73 = .ok (.ireturn, 1) := by decide +kernel
theorem dX10_person_74 : decode cX10_person 74 = .ok (.aload_n 0, 1) := by decide +kernel
theorem dX10_person_75 : decode cX10_person 75 = .ok (.getfield 19, 3) := by decide +kernel
theorem dX10_person_78 : decode cX10_person 78 = .ok (.getfield 180, 3) := by decide +kernel
theorem dX10_person_81 : decode cX10_person 81 = .ok (.iload_n 1, 1) := by decide +kernel
theorem dX10_person_82 : decode cX10_person 82 = .ok (.iaload, 1) := by decide +kernel
theorem dX10_person_83 : decode cX10_person 83 = .ok (.ireturn, 1) := by decide +kernel
theorem dX10_person_84 : decode cX10_person 84 = .ok (.aload_n 0, 1) := by decide +kernel
theorem dX10_person_85 : decode cX10_person 85 = .ok (.getfield 33, 3) := by decide +kernel
theorem dX10_person_88 : decode cX10_person 88 = .ok (.getfield 110, 3) := by decide +kernel
theorem dX10_person_91 : decode cX10_person 91 = .ok (.getfield 114, 3) := by decide +kernel
theorem dX10_person_94 : decode cX10_person 94 = .ok (.getfield 183, 3) := by decide +kernel
theorem dX10_person_97 : decode cX10_person 97 = .ok (.iload_n 1, 1) := by decide +kernel
theorem dX10_person_98 : decode cX10_person 98 = .ok (.iaload, 1) := by decide +kernel
theorem dX10_person_99 : decode cX10_person 99 = .ok (.ireturn, 1) := by decide +kernel
theorem dX10_person_100 : decode cX10_person 100 = .ok (.aload_n 0, 1) := by decide +kernel
theorem dX10_person_101 : decode cX10_person 101 = .ok (.invokevirtual 147, 3) := by decide +kernel
theorem dX10_person_104 : decode cX10_person 104 = .ok (.aload_n 0, 1) := by decide +kernel
theorem dX10_person_105 : decode cX10_person 105 = .ok (.getfield 54, 3) := by decide +kernel
theorem dX10_person_108 : decode cX10_person 108 = .ok (.getfield 186, 3) := by decide +kernel
theorem dX10_person_111 : decode cX10_person 111 = .ok (.iload_n 1, 1) := by decide +kernel
theorem dX10_person_112 : decode cX10_person 112 = .ok (.iaload, 1) := by decide +kernel
theorem dX10_person_113 : decode cX10_person 113 = .ok (.ireturn, 1) := by decide +kernel
theorem dX10_person_114 : decode cX10_person 114 = .ok (.new 163, 3) := by decide +kernel
theorem dX10_person_117 : decode cX10_person 117 = .ok (.dup, 1) := by decide +kernel
theorem dX10_person_118 : decode cX10_person 118 = .ok (.ldc 189, 2) := by decide +kernel
theorem dX10_person_120 : decode cX10_person 120 = .ok (.invokespecial 167, 3) := by decide +kernel
theorem dX10_person_123 : decode cX10_person 123 = .ok (.athrow, 1) := by decide +kernel
set_option maxRecDepth 100000 in
set_option maxHeartbeats 4000000 in
theorem k_X10_person {G : am_G} (hK : k_OK G) {d : Nat} (hd : 8 ≤ d) {sh : List (Nat ⊕ (Nat × Nat))} {I : Nat → Nat → Int32} {R : Nat → Nat → Option Nat} {L : Nat → Nat → Int64} {g : Nat} (hXS : k_XS G) {t : Nat} (hM : k_Main sh R) (hRt : R 0 1 = some t) (ht3 : t = 3 ∨ t = 22) (hg : g ≠ 0) {n m : Nat} (hn : I t 0 = nI n) (hn8 : n ≤ 8) (hm : I (t + 8) 0 = nI m) (hm6 : m ≤ 6) (p wh : Int32) : AM G pX10_person d [.ref 0, .int p, .int wh] (sh, I, R, L, g) (fun v w => ∃ a j, a < n ∧ p = nI a ∧ j < 6 ∧ wh = nI j ∧ v = some (.int (f_pe I t n m a j)) ∧ w = (sh, if j = 5 then f_look I 90 t 47 n m else I, R, L, g)) (fun E w => w = (sh, I, R, L, g) ∧ E = "java/util/NoSuchElementException" ∧ ¬ (k_is p n ∧ k_is wh 6)) := by
  have hG := hK.1
  have ht : k_Town sh R t := by rcases ht3 with rfl | rfl; exact kM_3 hM; exact kM_22 hM
  have o41 := kM_41 hM
  have o42 := kM_42 hM
  have o43 := kM_43 hM
  have o47 := kM_47 hM
  have o60 := kM_60 hM
  have o90 := kM_90 hM
  have o93 := kM_93 hM
  have o97 := kM_97 hM
  have o79 := kM_79 hM
  have o1 := kM_1 hM
  refine AM.of (n := 0) (by decide +kernel) (Nat.le_of_ble_eq_true rfl) ?_
  show AW G pX10_person d (fun v w => ∃ a j, a < n ∧ p = nI a ∧ j < 6 ∧ wh = nI j ∧ v = some (.int (f_pe I t n m a j)) ∧ w = (sh, if j = 5 then f_look I 90 t 47 n m else I, R, L, g)) (fun E w => w = (sh, I, R, L, g) ∧ E = "java/util/NoSuchElementException" ∧ ¬ (k_is p n ∧ k_is wh 6)) 0 [some (.ref 0), some (.int p), some (.int wh)] [] (sh, I, R, L, g) 0 0
  refine AW.aload_n dX10_person_0 rfl ?_
  refine AW.iload_n dX10_person_1 rfl ?_
  refine AW.callV (b := 0) (As := [.int p]) hG.2.2 (vX10_168 hG) (hM.1 0 _ rfl) (k_X10_requirePerson hK (d := 7) (Nat.le_refl _) hXS hM hRt ht3 hg (by assumption) (by assumption) p) (by omega) dX10_person_2 rfl rfl (Nat.le_of_ble_eq_true rfl) (fun v w9 hq9 h09 => absurd (by obtain ⟨-, e9, -⟩ := hq9; rw [e9] at h09; exact h09) hg) (by decide) (by decide) (fun E w9 h9 => ⟨h9.2.1, h9.1, fun h => h9.2.2 h.1⟩) (fun v2 w2 hq2 => ?_)
  obtain ⟨rfl, rfl, his2⟩ := hq2
  show AW G pX10_person d (fun v w => ∃ a j, a < n ∧ p = nI a ∧ j < 6 ∧ wh = nI j ∧ v = some (.int (f_pe I t n m a j)) ∧ w = (sh, if j = 5 then f_look I 90 t 47 n m else I, R, L, g)) (fun E w => w = (sh, I, R, L, g) ∧ E = "java/util/NoSuchElementException" ∧ ¬ (k_is p n ∧ k_is wh 6)) 5 [some (.ref 0), some (.int p), some (.int wh)] [] (sh, I, R, L, g) 1 6
  obtain ⟨a, ha, hpa⟩ := id his2
  have hbp : vp_in p 8 := k_is_in his2 hn8 (by decide)
  have hcp : p.toNatClampNeg = a := k_lit hpa (by omega)
  refine AW.iload_n dX10_person_5 rfl ?_
  refine AW.nam (fun x6 ex6 => ?_)
  by_cases hs6_0 : x6 = 0
  · subst hs6_0
    refine AW.tabIn 44 dX10_person_6 (by decide) (by decide) rfl (by decide) ?_
    refine AW.aload_n dX10_person_44 rfl ?_
    refine AW.getR (fX10_19 hG).r rfl (hM.1 0 _ rfl) hRt dX10_person_45 ?_
    refine AW.getR (c' := (t + 1)) (fX10_171 hG) rfl (ht.1 0 _ rfl) (ht.2 (0, 4, 1) (by decide)) dX10_person_48 ?_
    refine AW.iload_n dX10_person_51 rfl ?_
    refine AW.iald (ht.1 1 _ rfl) (by first | assumption | (unfold vp_in; decide) | exact vp_in_nI (by omega) (by decide)) dX10_person_52 ?_
    exact AW.iret dX10_person_53 rfl (by decide) (by decide) (⟨a, 0, ha, hpa, by decide, ex6.symm, by rw [hcp]; rfl, rfl⟩)
  by_cases hs6_1 : x6 = 1
  · subst hs6_1
    refine AW.tabIn 54 dX10_person_6 (by decide) (by decide) rfl (by decide) ?_
    refine AW.aload_n dX10_person_54 rfl ?_
    refine AW.getR (fX10_19 hG).r rfl (hM.1 0 _ rfl) hRt dX10_person_55 ?_
    refine AW.getR (c' := (t + 2)) (fX10_174 hG) rfl (ht.1 0 _ rfl) (ht.2 (0, 5, 2) (by decide)) dX10_person_58 ?_
    refine AW.iload_n dX10_person_61 rfl ?_
    refine AW.iald (ht.1 2 _ rfl) (by first | assumption | (unfold vp_in; decide) | exact vp_in_nI (by omega) (by decide)) dX10_person_62 ?_
    exact AW.iret dX10_person_63 rfl (by decide) (by decide) (⟨a, 1, ha, hpa, by decide, ex6.symm, by rw [hcp]; rfl, rfl⟩)
  by_cases hs6_2 : x6 = 2
  · subst hs6_2
    refine AW.tabIn 64 dX10_person_6 (by decide) (by decide) rfl (by decide) ?_
    refine AW.aload_n dX10_person_64 rfl ?_
    refine AW.getR (fX10_19 hG).r rfl (hM.1 0 _ rfl) hRt dX10_person_65 ?_
    refine AW.getR (c' := (t + 3)) (fX10_177 hG) rfl (ht.1 0 _ rfl) (ht.2 (0, 6, 3) (by decide)) dX10_person_68 ?_
    refine AW.iload_n dX10_person_71 rfl ?_
    refine AW.iald (ht.1 3 _ rfl) (by first | assumption | (unfold vp_in; decide) | exact vp_in_nI (by omega) (by decide)) dX10_person_72 ?_
    exact AW.iret dX10_person_73 rfl (by decide) (by decide) (⟨a, 2, ha, hpa, by decide, ex6.symm, by rw [hcp]; rfl, rfl⟩)
  by_cases hs6_3 : x6 = 3
  · subst hs6_3
    refine AW.tabIn 74 dX10_person_6 (by decide) (by decide) rfl (by decide) ?_
    refine AW.aload_n dX10_person_74 rfl ?_
    refine AW.getR (fX10_19 hG).r rfl (hM.1 0 _ rfl) hRt dX10_person_75 ?_
    refine AW.getR (c' := (t + 4)) (fX10_180 hG) rfl (ht.1 0 _ rfl) (ht.2 (0, 7, 4) (by decide)) dX10_person_78 ?_
    refine AW.iload_n dX10_person_81 rfl ?_
    refine AW.iald (ht.1 4 _ rfl) (by first | assumption | (unfold vp_in; decide) | exact vp_in_nI (by omega) (by decide)) dX10_person_82 ?_
    exact AW.iret dX10_person_83 rfl (by decide) (by decide) (⟨a, 3, ha, hpa, by decide, ex6.symm, by rw [hcp]; rfl, rfl⟩)
  by_cases hs6_4 : x6 = 4
  · subst hs6_4
    refine AW.tabIn 84 dX10_person_6 (by decide) (by decide) rfl (by decide) ?_
    refine AW.aload_n dX10_person_84 rfl ?_
    refine AW.getR (c' := 41) (fX10_33 hG).r rfl (hM.1 0 _ rfl) (hM.2 (0, 4, 41) (by decide)) dX10_person_85 ?_
    refine AW.getR (c' := 42) (fX10_110 hG) rfl (o41.1 0 _ rfl) (o41.2 (0, 0, 1) (by decide)) dX10_person_88 ?_
    refine AW.getR (c' := 47) (fX10_114 hG) rfl (o42.1 0 _ rfl) (o42.2 (0, 1, 5) (by decide)) dX10_person_91 ?_
    refine AW.getR (c' := 50) (fX10_183 hG) rfl (o47.1 0 _ rfl) (o47.2 (0, 4, 3) (by decide)) dX10_person_94 ?_
    refine AW.iload_n dX10_person_97 rfl ?_
    refine AW.iald (o47.1 3 _ rfl) (by first | assumption | (unfold vp_in; decide) | exact vp_in_nI (by omega) (by decide)) dX10_person_98 ?_
    exact AW.iret dX10_person_99 rfl (by decide) (by decide) (⟨a, 4, ha, hpa, by decide, ex6.symm, by rw [hcp]; rfl, rfl⟩)
  by_cases hs6_5 : x6 = 5
  · subst hs6_5
    refine AW.tabIn 100 dX10_person_6 (by decide) (by decide) rfl (by decide) ?_
    refine AW.aload_n dX10_person_100 rfl ?_
    refine AW.callV (b := 0) (As := []) hG.2.2 (vX10_147 hG) (hM.1 0 _ rfl) (k_X10_lookAround hK (d := 3) (Nat.le_refl _) hXS hM hRt ht3 (by assumption) (by assumption) (by assumption) (by assumption)) (by omega) dX10_person_101 rfl rfl (Nat.le_of_ble_eq_true rfl) (fun v w9 hq9 h09 => by obtain ⟨rfl, rfl⟩ := hq9; exact ⟨h09, rfl⟩) (by decide) (by decide) (fun _ _ hx => absurd hx id) (fun v101 w101 hq101 => ?_)
    obtain ⟨rfl, rfl⟩ := hq101
    refine AW.namI (fun I101 eI101 => ?_)
    show AW G pX10_person d (fun v w => ∃ a j, a < n ∧ p = nI a ∧ j < 6 ∧ wh = nI j ∧ v = some (.int (f_pe I t n m a j)) ∧ w = (sh, if j = 5 then f_look I 90 t 47 n m else I, R, L, g)) (fun E w => w = (sh, I, R, L, g) ∧ E = "java/util/NoSuchElementException" ∧ ¬ (k_is p n ∧ k_is wh 6)) 104 [some (.ref 0), some (.int p), some (.int wh)] [] (sh, I101, R, L, g) 1 6
    refine AW.aload_n dX10_person_104 rfl ?_
    refine AW.getR (c' := 90) (fX10_54 hG).r rfl (hM.1 0 _ rfl) (hM.2 (0, 10, 90) (by decide)) dX10_person_105 ?_
    refine AW.getR (c' := 91) (fX10_186 hG) rfl (o90.1 0 _ rfl) (o90.2 (0, 0, 1) (by decide)) dX10_person_108 ?_
    refine AW.iload_n dX10_person_111 rfl ?_
    refine AW.iald (o90.1 1 _ rfl) (by first | assumption | (unfold vp_in; decide) | exact vp_in_nI (by omega) (by decide)) dX10_person_112 ?_
    exact AW.iret dX10_person_113 rfl (by decide) (by decide) (⟨a, 5, ha, hpa, by decide, ex6.symm, by rw [hcp, eI101]; rfl, by rw [eI101]; rfl⟩)
  have ht6 : x6.toInt < 0 ∨ 5 < x6.toInt := by
    have h90 : ¬ x6.toInt = 0 := fun h => hs6_0 (Int32.toInt_inj.mp (h.trans (by decide)))
    have h91 : ¬ x6.toInt = 1 := fun h => hs6_1 (Int32.toInt_inj.mp (h.trans (by decide)))
    have h92 : ¬ x6.toInt = 2 := fun h => hs6_2 (Int32.toInt_inj.mp (h.trans (by decide)))
    have h93 : ¬ x6.toInt = 3 := fun h => hs6_3 (Int32.toInt_inj.mp (h.trans (by decide)))
    have h94 : ¬ x6.toInt = 4 := fun h => hs6_4 (Int32.toInt_inj.mp (h.trans (by decide)))
    have h95 : ¬ x6.toInt = 5 := fun h => hs6_5 (Int32.toInt_inj.mp (h.trans (by decide)))
    omega
  refine AW.tabOut 114 dX10_person_6 ht6 (by decide) ?_
  exact AW.throwN (hXS.1 189 (by decide)) dX10_person_114 dX10_person_117 dX10_person_118 dX10_person_120 dX10_person_123 (by omega) (Nat.le_of_ble_eq_true rfl) (by decide) (by decide) hg (⟨rfl, rfl, fun h => k_is_out (by rw [← ex6]; omega) (by decide) h.2⟩)
abbrev pX10_loaf : am_M := (yX10_loaf, cX10_loaf, 4, (some .int), 2, 12)
theorem dX10_loaf_0 : decode cX10_loaf 0 = .ok (.aload_n 0, 1) := by decide +kernel
theorem dX10_loaf_1 : decode cX10_loaf 1 = .ok (.iload_n 1, 1) := by decide +kernel
theorem dX10_loaf_2 : decode cX10_loaf 2 = .ok (.invokevirtual 191, 3) := by decide +kernel
theorem dX10_loaf_5 : decode cX10_loaf 5 = .ok (.aload_n 0, 1) := by decide +kernel
theorem dX10_loaf_6 : decode cX10_loaf 6 = .ok (.getfield 19, 3) := by decide +kernel
theorem dX10_loaf_9 : decode cX10_loaf 9 = .ok (.getfield 122, 3) := by decide +kernel
theorem dX10_loaf_12 : decode cX10_loaf 12 = .ok (.astore_n 3, 1) := by decide +kernel
theorem dX10_loaf_13 : decode cX10_loaf 13 = .ok (.iload_n 2, 1) := by decide +kernel
theorem dX10_loaf_14 : decode cX10_loaf 14 = .ok (.tableswitch 113 0 7 #[46, 53, 60, 67, 74, 81, 90, 106], 46) := by decide +kernel
theorem dX10_loaf_60 : decode cX10_loaf 60 = .ok (.aload_n 3, 1) := by decide +kernel
theorem dX10_loaf_61 : decode cX10_loaf 61 = .ok (.getfield 194, 3) := by decide +kernel
theorem dX10_loaf_64 : decode cX10_loaf 64 = .ok (.iload_n 1, 1) := by decide +kernel
theorem dX10_loaf_65 : decode cX10_loaf 65 = .ok (.iaload, 1) := by decide +kernel
theorem dX10_loaf_66 : decode cX10_loaf 66 = .ok (.ireturn, 1) := by decide +kernel
theorem dX10_loaf_67 : decode cX10_loaf 67 = .ok (.aload_n 3, 1) := by decide +kernel
theorem dX10_loaf_68 : decode cX10_loaf 68 = .ok (.getfield 195, 3) := by decide +kernel
theorem dX10_loaf_71 : decode cX10_loaf 71 = .ok (.iload_n 1, 1) := by decide +kernel
theorem dX10_loaf_72 : decode cX10_loaf 72 = .ok (.iaload, 1) := by decide +kernel
theorem dX10_loaf_73 : decode cX10_loaf 73 = .ok (.ireturn, 1) := by decide +kernel
theorem dX10_loaf_74 : decode cX10_loaf 74 = .ok (.aload_n 3, 1) := by decide +kernel
theorem dX10_loaf_75 : decode cX10_loaf 75 = .ok (.getfield 198, 3) := by decide +kernel
theorem dX10_loaf_78 : decode cX10_loaf 78 = .ok (.iload_n 1, 1) := by decide +kernel
theorem dX10_loaf_79 : decode cX10_loaf 79 = .ok (.iaload, 1) := by decide +kernel
theorem dX10_loaf_80 : decode cX10_loaf 80 = .ok (.ireturn, 1) := by decide +kernel
theorem dX10_loaf_81 : decode cX10_loaf 81 = .ok (.aload_n 3, 1) := by decide +kernel
theorem dX10_loaf_82 : decode cX10_loaf 82 = .ok (.getfield 201, 3) := by decide +kernel
theorem dX10_loaf_85 : decode cX10_loaf 85 = .ok (.iload_n 1, 1) := by decide +kernel
theorem dX10_loaf_86 : decode cX10_loaf 86 = .ok (.iaload, 1) := by decide +kernel
theorem dX10_loaf_87 : decode cX10_loaf 87 = .ok (.ireturn, 1) := by decide +kernel
theorem dX10_loaf_88 : decode cX10_loaf 88 = .ok (.aload_n 3, 1) := by decide +kernel
theorem dX10_loaf_89 : decode cX10_loaf 89 = .ok (.getfield 204, 3) := by decide +kernel
theorem dX10_loaf_92 : decode cX10_loaf 92 = .ok (.iload_n 1, 1) := by decide +kernel
theorem dX10_loaf_93 : decode cX10_loaf 93 = .ok (.iaload, 1) := by decide +kernel
theorem dX10_loaf_94 : decode cX10_loaf 94 = .ok (.ireturn, 1) := by decide +kernel
theorem dX10_loaf_95 : decode cX10_loaf 95 = .ok (.aload_n 0, 1) := by decide +kernel
theorem dX10_loaf_96 : decode cX10_loaf 96 = .ok (.getfield 19, 3) := by decide +kernel
theorem dX10_loaf_99 : decode cX10_loaf 99 = .ok (.iload_n 1, 1) := by decide +kernel
theorem dX10_loaf_100 : decode cX10_loaf 100 = .ok (.invokevirtual 207, 3) := by decide +kernel
theorem dX10_loaf_103 : decode cX10_loaf 103 = .ok (.ireturn, 1) := by decide +kernel
theorem dX10_loaf_104 : decode cX10_loaf 104 = .ok (.aload_n 0, 1) := by decide +kernel
theorem dX10_loaf_105 : decode cX10_loaf 105 = .ok (.getfield 33, 3) := by decide +kernel
theorem dX10_loaf_108 : decode cX10_loaf 108 = .ok (.getfield 110, 3) := by decide +kernel
theorem dX10_loaf_111 : decode cX10_loaf 111 = .ok (.getfield 114, 3) := by decide +kernel
theorem dX10_loaf_114 : decode cX10_loaf 114 = .ok (.getfield 211, 3) := by decide +kernel
theorem dX10_loaf_117 : decode cX10_loaf 117 = .ok (.iload_n 1, 1) := by decide +kernel
theorem dX10_loaf_118 : decode cX10_loaf 118 = .ok (.iaload, 1) := by decide +kernel
theorem dX10_loaf_119 : decode cX10_loaf 119 = .ok (.ireturn, 1) := by decide +kernel
theorem dX10_loaf_120 : decode cX10_loaf 120 = .ok (.aload_n 0, 1) := by decide +kernel
theorem dX10_loaf_121 : decode cX10_loaf 121 = .ok (.iload_n 1, 1) := by decide +kernel
theorem dX10_loaf_122 : decode cX10_loaf 122 = .ok (.iconst 0, 1) := by decide +kernel
theorem dX10_loaf_123 : decode cX10_loaf 123 = .ok (.invokevirtual 214, 3) := by decide +kernel
theorem dX10_loaf_126 : decode cX10_loaf 126 = .ok (.ireturn, 1) := by decide +kernel
theorem dX10_loaf_127 : decode cX10_loaf 127 = .ok (.new 163, 3) := by decide +kernel
theorem dX10_loaf_130 : decode cX10_loaf 130 = .ok (.dup, 1) := by decide +kernel
theorem dX10_loaf_131 : decode cX10_loaf 131 = .ok (.ldc 218, 2) := by decide +kernel
theorem dX10_loaf_133 : decode cX10_loaf 133 = .ok (.invokespecial 167, 3) := by decide +kernel
theorem dX10_loaf_136 : decode cX10_loaf 136 = .ok (.athrow, 1) := by decide +kernel
set_option maxRecDepth 100000 in
set_option maxHeartbeats 4000000 in
theorem k_X10_loaf {G : am_G} (hK : k_OK G) {d : Nat} (hd : 8 ≤ d) {sh : List (Nat ⊕ (Nat × Nat))} {I : Nat → Nat → Int32} {R : Nat → Nat → Option Nat} {L : Nat → Nat → Int64} {g : Nat} (hXS : k_XS G) {t : Nat} (hM : k_Main sh R) (hRt : R 0 1 = some t) (ht3 : t = 3 ∨ t = 22) (hg : g ≠ 0) {n m : Nat} (hn : I t 0 = nI n) (hn8 : n ≤ 8) (hm : I (t + 8) 0 = nI m) (hm6 : m ≤ 6) (l wh : Int32) : AM G pX10_loaf d [.ref 0, .int l, .int wh] (sh, I, R, L, g) (fun v w => ∃ b j, b < m ∧ l = nI b ∧ j < 8 ∧ wh = nI j ∧ v = some (.int (f_lo I t n m b j)) ∧ w = (sh, if j = 7 then f_look I 90 t 47 n m else I, R, L, g)) (fun E w => w = (sh, I, R, L, g) ∧ E = "java/util/NoSuchElementException" ∧ ¬ (k_is l m ∧ k_is wh 8)) := by
  have hG := hK.1
  have ht : k_Town sh R t := by rcases ht3 with rfl | rfl; exact kM_3 hM; exact kM_22 hM
  have o41 := kM_41 hM
  have o42 := kM_42 hM
  have o43 := kM_43 hM
  have o47 := kM_47 hM
  have o60 := kM_60 hM
  have o90 := kM_90 hM
  have o93 := kM_93 hM
  have o97 := kM_97 hM
  have o79 := kM_79 hM
  have o1 := kM_1 hM
  refine AM.of (n := 1) (by decide +kernel) (Nat.le_of_ble_eq_true rfl) ?_
  show AW G pX10_loaf d (fun v w => ∃ b j, b < m ∧ l = nI b ∧ j < 8 ∧ wh = nI j ∧ v = some (.int (f_lo I t n m b j)) ∧ w = (sh, if j = 7 then f_look I 90 t 47 n m else I, R, L, g)) (fun E w => w = (sh, I, R, L, g) ∧ E = "java/util/NoSuchElementException" ∧ ¬ (k_is l m ∧ k_is wh 8)) 0 [some (.ref 0), some (.int l), some (.int wh), none] [] (sh, I, R, L, g) 0 0
  refine AW.aload_n dX10_loaf_0 rfl ?_
  refine AW.iload_n dX10_loaf_1 rfl ?_
  refine AW.callV (b := 0) (As := [.int l]) hG.2.2 (vX10_191 hG) (hM.1 0 _ rfl) (k_X10_requireLoaf hK (d := 7) (Nat.le_refl _) hXS hM hRt ht3 hg (by assumption) (by assumption) l) (by omega) dX10_loaf_2 rfl rfl (Nat.le_of_ble_eq_true rfl) (fun v w9 hq9 h09 => absurd (by obtain ⟨-, e9, -⟩ := hq9; rw [e9] at h09; exact h09) hg) (by decide) (by decide) (fun E w9 h9 => ⟨h9.2.1, h9.1, fun h => h9.2.2 h.1⟩) (fun v2 w2 hq2 => ?_)
  obtain ⟨rfl, rfl, his2⟩ := hq2
  show AW G pX10_loaf d (fun v w => ∃ b j, b < m ∧ l = nI b ∧ j < 8 ∧ wh = nI j ∧ v = some (.int (f_lo I t n m b j)) ∧ w = (sh, if j = 7 then f_look I 90 t 47 n m else I, R, L, g)) (fun E w => w = (sh, I, R, L, g) ∧ E = "java/util/NoSuchElementException" ∧ ¬ (k_is l m ∧ k_is wh 8)) 5 [some (.ref 0), some (.int l), some (.int wh), none] [] (sh, I, R, L, g) 1 6
  obtain ⟨b, hb, hlb⟩ := id his2
  have hb6 : b < 6 := by omega
  have hbl : vp_in l 6 := k_is_in his2 hm6 (by decide)
  have hcl : l.toNatClampNeg = b := k_lit hlb (by omega)
  refine AW.aload_n dX10_loaf_5 rfl ?_
  refine AW.getR (fX10_19 hG).r rfl (hM.1 0 _ rfl) hRt dX10_loaf_6 ?_
  refine AW.getR (c' := (t + 8)) (fX10_122 hG) rfl (ht.1 0 _ rfl) (ht.2 (0, 11, 8) (by decide)) dX10_loaf_9 ?_
  refine AW.as_n [some (.ref 0), some (.int l), some (.int wh), some (.ref (t + 8))] dX10_loaf_12 (by decide) rfl rfl ?_
  refine AW.iload_n dX10_loaf_13 rfl ?_
  refine AW.nam (fun x14 ex14 => ?_)
  by_cases hs14_0 : x14 = 0
  · subst hs14_0
    refine AW.tabIn 60 dX10_loaf_14 (by decide) (by decide) rfl (by decide) ?_
    refine AW.aload_n dX10_loaf_60 rfl ?_
    refine AW.getR (c' := (t + 9)) (fX10_194 hG) rfl (ht.1 8 _ rfl) (ht.2 (8, 1, 9) (by decide)) dX10_loaf_61 ?_
    refine AW.iload_n dX10_loaf_64 rfl ?_
    refine AW.iald (ht.1 9 _ rfl) (by first | assumption | (unfold vp_in; decide) | exact vp_in_nI (by omega) (by decide)) dX10_loaf_65 ?_
    exact AW.iret dX10_loaf_66 rfl (by decide) (by decide) (⟨b, 0, hb, hlb, by decide, ex14.symm, by rw [hcl]; rfl, rfl⟩)
  by_cases hs14_1 : x14 = 1
  · subst hs14_1
    refine AW.tabIn 67 dX10_loaf_14 (by decide) (by decide) rfl (by decide) ?_
    refine AW.aload_n dX10_loaf_67 rfl ?_
    refine AW.getR (c' := (t + 10)) (fX10_195 hG) rfl (ht.1 8 _ rfl) (ht.2 (8, 2, 10) (by decide)) dX10_loaf_68 ?_
    refine AW.iload_n dX10_loaf_71 rfl ?_
    refine AW.iald (ht.1 10 _ rfl) (by first | assumption | (unfold vp_in; decide) | exact vp_in_nI (by omega) (by decide)) dX10_loaf_72 ?_
    exact AW.iret dX10_loaf_73 rfl (by decide) (by decide) (⟨b, 1, hb, hlb, by decide, ex14.symm, by rw [hcl]; rfl, rfl⟩)
  by_cases hs14_2 : x14 = 2
  · subst hs14_2
    refine AW.tabIn 74 dX10_loaf_14 (by decide) (by decide) rfl (by decide) ?_
    refine AW.aload_n dX10_loaf_74 rfl ?_
    refine AW.getR (c' := (t + 11)) (fX10_198 hG) rfl (ht.1 8 _ rfl) (ht.2 (8, 3, 11) (by decide)) dX10_loaf_75 ?_
    refine AW.iload_n dX10_loaf_78 rfl ?_
    refine AW.iald (ht.1 11 _ rfl) (by first | assumption | (unfold vp_in; decide) | exact vp_in_nI (by omega) (by decide)) dX10_loaf_79 ?_
    exact AW.iret dX10_loaf_80 rfl (by decide) (by decide) (⟨b, 2, hb, hlb, by decide, ex14.symm, by rw [hcl]; rfl, rfl⟩)
  by_cases hs14_3 : x14 = 3
  · subst hs14_3
    refine AW.tabIn 81 dX10_loaf_14 (by decide) (by decide) rfl (by decide) ?_
    refine AW.aload_n dX10_loaf_81 rfl ?_
    refine AW.getR (c' := (t + 12)) (fX10_201 hG) rfl (ht.1 8 _ rfl) (ht.2 (8, 4, 12) (by decide)) dX10_loaf_82 ?_
    refine AW.iload_n dX10_loaf_85 rfl ?_
    refine AW.iald (ht.1 12 _ rfl) (by first | assumption | (unfold vp_in; decide) | exact vp_in_nI (by omega) (by decide)) dX10_loaf_86 ?_
    exact AW.iret dX10_loaf_87 rfl (by decide) (by decide) (⟨b, 3, hb, hlb, by decide, ex14.symm, by rw [hcl]; rfl, rfl⟩)
  by_cases hs14_4 : x14 = 4
  · subst hs14_4
    refine AW.tabIn 88 dX10_loaf_14 (by decide) (by decide) rfl (by decide) ?_
    refine AW.aload_n dX10_loaf_88 rfl ?_
    refine AW.getR (c' := (t + 14)) (fX10_204 hG) rfl (ht.1 8 _ rfl) (ht.2 (8, 6, 14) (by decide)) dX10_loaf_89 ?_
    refine AW.iload_n dX10_loaf_92 rfl ?_
    refine AW.iald (ht.1 14 _ rfl) (by first | assumption | (unfold vp_in; decide) | exact vp_in_nI (by omega) (by decide)) dX10_loaf_93 ?_
    exact AW.iret dX10_loaf_94 rfl (by decide) (by decide) (⟨b, 4, hb, hlb, by decide, ex14.symm, by rw [hcl]; rfl, rfl⟩)
  by_cases hs14_5 : x14 = 5
  · subst hs14_5
    refine AW.tabIn 95 dX10_loaf_14 (by decide) (by decide) rfl (by decide) ?_
    refine AW.aload_n dX10_loaf_95 rfl ?_
    refine AW.getR (fX10_19 hG).r rfl (hM.1 0 _ rfl) hRt dX10_loaf_96 ?_
    refine AW.iload_n dX10_loaf_99 rfl ?_
    refine AW.callV (b := t) (As := [.int l]) hG.2.2 (vX10_207 hG) (ht.1 0 _ rfl) (k_X9_sliceCount hK (d := 1) (Nat.le_refl _) ht (by assumption) (by assumption) l (by first | assumption | exact vp_in_nI (by omega) (by decide))) (by omega) dX10_loaf_100 rfl rfl (Nat.le_of_ble_eq_true rfl) (fun v w9 hq9 h09 => by obtain ⟨rfl, rfl⟩ := hq9; exact ⟨h09, rfl⟩) (by decide) (by decide) (fun _ _ hx => absurd hx id) (fun v100 w100 hq100 => ?_)
    obtain ⟨rfl, rfl⟩ := hq100
    refine AW.nam (fun x100 ex100 => ?_)
    exact AW.iret dX10_loaf_103 rfl (by decide) (by decide) (⟨b, 5, hb, hlb, by decide, ex14.symm, by rw [ex100, hcl]; rfl, rfl⟩)
  by_cases hs14_6 : x14 = 6
  · subst hs14_6
    refine AW.tabIn 104 dX10_loaf_14 (by decide) (by decide) rfl (by decide) ?_
    refine AW.aload_n dX10_loaf_104 rfl ?_
    refine AW.getR (c' := 41) (fX10_33 hG).r rfl (hM.1 0 _ rfl) (hM.2 (0, 4, 41) (by decide)) dX10_loaf_105 ?_
    refine AW.getR (c' := 42) (fX10_110 hG) rfl (o41.1 0 _ rfl) (o41.2 (0, 0, 1) (by decide)) dX10_loaf_108 ?_
    refine AW.getR (c' := 47) (fX10_114 hG) rfl (o42.1 0 _ rfl) (o42.2 (0, 1, 5) (by decide)) dX10_loaf_111 ?_
    refine AW.getR (c' := 49) (fX10_211 hG) rfl (o47.1 0 _ rfl) (o47.2 (0, 3, 2) (by decide)) dX10_loaf_114 ?_
    refine AW.iload_n dX10_loaf_117 rfl ?_
    refine AW.iald (o47.1 2 _ rfl) (by first | assumption | (unfold vp_in; decide) | exact vp_in_nI (by omega) (by decide)) dX10_loaf_118 ?_
    exact AW.iret dX10_loaf_119 rfl (by decide) (by decide) (⟨b, 6, hb, hlb, by decide, ex14.symm, by rw [hcl]; rfl, rfl⟩)
  by_cases hs14_7 : x14 = 7
  · subst hs14_7
    refine AW.tabIn 120 dX10_loaf_14 (by decide) (by decide) rfl (by decide) ?_
    refine AW.aload_n dX10_loaf_120 rfl ?_
    refine AW.iload_n dX10_loaf_121 rfl ?_
    refine AW.iconst 0 dX10_loaf_122 (by decide) ?_
    refine AW.callV (b := 0) (As := [.int l, .int 0]) hG.2.2 (vX10_214 hG) (hM.1 0 _ rfl) (k_X10_peopleWith hK (d := 4) (Nat.le_refl _) hXS hM hRt ht3 (by assumption) (by assumption) (by assumption) (by assumption) l 0 (by assumption) (by assumption)) (by omega) dX10_loaf_123 rfl rfl (Nat.le_of_ble_eq_true rfl) (fun v w9 hq9 h09 => by obtain ⟨rfl, rfl⟩ := hq9; exact ⟨h09, rfl⟩) (by decide) (by decide) (fun _ _ hx => absurd hx id) (fun v123 w123 hq123 => ?_)
    obtain ⟨rfl, rfl⟩ := hq123
    refine AW.namI (fun I123 eI123 => ?_)
    refine AW.nam (fun x123 ex123 => ?_)
    exact AW.iret dX10_loaf_126 rfl (by decide) (by decide) (⟨b, 7, hb, hlb, by decide, ex14.symm, by rw [ex123]; rfl, by rw [eI123]; rfl⟩)
  have ht14 : x14.toInt < 0 ∨ 7 < x14.toInt := by
    have h90 : ¬ x14.toInt = 0 := fun h => hs14_0 (Int32.toInt_inj.mp (h.trans (by decide)))
    have h91 : ¬ x14.toInt = 1 := fun h => hs14_1 (Int32.toInt_inj.mp (h.trans (by decide)))
    have h92 : ¬ x14.toInt = 2 := fun h => hs14_2 (Int32.toInt_inj.mp (h.trans (by decide)))
    have h93 : ¬ x14.toInt = 3 := fun h => hs14_3 (Int32.toInt_inj.mp (h.trans (by decide)))
    have h94 : ¬ x14.toInt = 4 := fun h => hs14_4 (Int32.toInt_inj.mp (h.trans (by decide)))
    have h95 : ¬ x14.toInt = 5 := fun h => hs14_5 (Int32.toInt_inj.mp (h.trans (by decide)))
    have h96 : ¬ x14.toInt = 6 := fun h => hs14_6 (Int32.toInt_inj.mp (h.trans (by decide)))
    have h97 : ¬ x14.toInt = 7 := fun h => hs14_7 (Int32.toInt_inj.mp (h.trans (by decide)))
    omega
  refine AW.tabOut 127 dX10_loaf_14 ht14 (by decide) ?_
  exact AW.throwN (hXS.1 218 (by decide)) dX10_loaf_127 dX10_loaf_130 dX10_loaf_131 dX10_loaf_133 dX10_loaf_136 (by omega) (Nat.le_of_ble_eq_true rfl) (by decide) (by decide) hg (⟨rfl, rfl, fun h => k_is_out (by rw [← ex14]; omega) (by decide) h.2⟩)
/-- the couples that would explain what was balked at: how many, the first -/
def f_wm2 (P : Nat → Nat → Bool) (a b : Nat) (q : Int32 × Int32) : Int32 × Int32 := if P a b then (q.1 + 1, if q.1 = 0 then 10 * nI a + nI b else q.2) else q
def f_wm1 (P : Nat → Nat → Bool) (a c : Nat) (q : Int32 × Int32) : Int32 × Int32 := lfold (fun j q => f_wm2 P a (a + 1 + j) q) q c
def f_wm (P : Nat → Nat → Bool) (n k : Nat) : Int32 × Int32 := lfold (fun a q => f_wm1 P a (n - (a + 1)) q) (0, -1) k
def f_gm1 (P : Nat → Nat → Bool) (a c : Nat) (q : Int32 × Int32) : Int32 × Int32 := lfold (fun j q => f_wm2 P a j q) q c
def f_gm (P : Nat → Nat → Bool) (n k : Nat) : Int32 × Int32 := lfold (fun a q => f_gm1 P a n q) (0, -1) k
/-- may a couple explain it -/
def f_wP (I : Nat → Nat → Int32) (t n k a b : Nat) : Bool := !(f_has (I 91 a) (nI b) && f_has (I 91 b) (nI a)) && f_eb (I (t + 1)) (I (t + 4)) (I 91) (I (t + 14)) (I 58) (I 59) (f_wt (I (t + 4)) (((1 : Int32) <<< (nI a &&& 31)) ||| ((1 : Int32) <<< (nI b &&& 31))) n) k
def f_gP (I : Nat → Nat → Int32) (t m p q a b : Nat) : Bool := f_bs (I 92) (I (t + 10)) p a b m && f_bs (I 92) (I (t + 10)) q b a m
theorem f_wm2_n {P : Nat → Nat → Bool} {a b : Nat} {q : Int32 × Int32} (h : P a b = false) : f_wm2 P a b q = q := if_neg (by rw [h]; decide)
theorem f_wm2_0 {P : Nat → Nat → Bool} {a b : Nat} {q : Int32 × Int32} (h : P a b = true) (h0 : q.1 = 0) : f_wm2 P a b q = (q.1 + 1, 10 * nI a + nI b) := by unfold f_wm2; rw [if_pos h, if_pos h0]
theorem f_wm2_1 {P : Nat → Nat → Bool} {a b : Nat} {q : Int32 × Int32} (h : P a b = true) (h0 : ¬ q.1 = 0) : f_wm2 P a b q = (q.1 + 1, q.2) := by unfold f_wm2; rw [if_pos h, if_neg h0]
abbrev pX10_whom : am_M := (yX10_whom, cX10_whom, 6, (some .int), 1, 6)
theorem dX10_whom_0 : decode cX10_whom 0 = .ok (.iload_n 1, 1) := by decide +kernel
theorem dX10_whom_1 : decode cX10_whom 1 = .ok (.ifCond .eq 19, 3) := by decide +kernel
theorem dX10_whom_4 : decode cX10_whom 4 = .ok (.iload_n 1, 1) := by decide +kernel
theorem dX10_whom_5 : decode cX10_whom 5 = .ok (.iconst 1, 1) := by decide +kernel
theorem dX10_whom_6 : decode cX10_whom 6 = .ok (.if_icmp .eq 14, 3) := by decide +kernel
theorem dX10_whom_9 : decode cX10_whom 9 = .ok (.new 163, 3) := by decide +kernel
theorem dX10_whom_12 : decode cX10_whom 12 = .ok (.dup, 1) := by decide +kernel
theorem dX10_whom_13 : decode cX10_whom 13 = .ok (.ldc_w 344, 3) := by decide +kernel
theorem dX10_whom_16 : decode cX10_whom 16 = .ok (.invokespecial 167, 3) := by decide +kernel
theorem dX10_whom_19 : decode cX10_whom 19 = .ok (.athrow, 1) := by decide +kernel
theorem dX10_whom_20 : decode cX10_whom 20 = .ok (.aload_n 0, 1) := by decide +kernel
theorem dX10_whom_21 : decode cX10_whom 21 = .ok (.invokevirtual 147, 3) := by decide +kernel
theorem dX10_whom_24 : decode cX10_whom 24 = .ok (.iconst 0, 1) := by decide +kernel
theorem dX10_whom_25 : decode cX10_whom 25 = .ok (.istore_n 2, 1) := by decide +kernel
theorem dX10_whom_26 : decode cX10_whom 26 = .ok (.iconst (-1), 1) := by decide +kernel
theorem dX10_whom_27 : decode cX10_whom 27 = .ok (.istore_n 3, 1) := by decide +kernel
theorem dX10_whom_28 : decode cX10_whom 28 = .ok (.iconst 0, 1) := by decide +kernel
theorem dX10_whom_29 : decode cX10_whom 29 = .ok (.istore 4, 2) := by decide +kernel
theorem dX10_whom_31 : decode cX10_whom 31 = .ok (.iload 4, 2) := by decide +kernel
theorem dX10_whom_33 : decode cX10_whom 33 = .ok (.aload_n 0, 1) := by decide +kernel
theorem dX10_whom_34 : decode cX10_whom 34 = .ok (.getfield 19, 3) := by decide +kernel
theorem dX10_whom_37 : decode cX10_whom 37 = .ok (.getfield 119, 3) := by decide +kernel
theorem dX10_whom_40 : decode cX10_whom 40 = .ok (.if_icmp .ge 78, 3) := by decide +kernel
theorem dX10_whom_43 : decode cX10_whom 43 = .ok (.iload 4, 2) := by decide +kernel
theorem dX10_whom_45 : decode cX10_whom 45 = .ok (.iconst 1, 1) := by decide +kernel
theorem dX10_whom_46 : decode cX10_whom 46 = .ok (.iadd, 1) := by decide +kernel
theorem dX10_whom_47 : decode cX10_whom 47 = .ok (.istore 5, 2) := by decide +kernel
theorem dX10_whom_49 : decode cX10_whom 49 = .ok (.iload 5, 2) := by decide +kernel
theorem dX10_whom_51 : decode cX10_whom 51 = .ok (.aload_n 0, 1) := by decide +kernel
theorem dX10_whom_52 : decode cX10_whom 52 = .ok (.getfield 19, 3) := by decide +kernel
theorem dX10_whom_55 : decode cX10_whom 55 = .ok (.getfield 119, 3) := by decide +kernel
theorem dX10_whom_58 : decode cX10_whom 58 = .ok (.if_icmp .ge 54, 3) := by decide +kernel
theorem dX10_whom_61 : decode cX10_whom 61 = .ok (.aload_n 0, 1) := by decide +kernel
theorem dX10_whom_62 : decode cX10_whom 62 = .ok (.getfield 54, 3) := by decide +kernel
theorem dX10_whom_65 : decode cX10_whom 65 = .ok (.iload 4, 2) := by decide +kernel
theorem dX10_whom_67 : decode cX10_whom 67 = .ok (.iload 5, 2) := by decide +kernel
theorem dX10_whom_69 : decode cX10_whom 69 = .ok (.invokevirtual 346, 3) := by decide +kernel
theorem dX10_whom_72 : decode cX10_whom 72 = .ok (.ifCond .ne 34, 3) := by decide +kernel
theorem dX10_whom_75 : decode cX10_whom 75 = .ok (.aload_n 0, 1) := by decide +kernel
theorem dX10_whom_76 : decode cX10_whom 76 = .ok (.iload 4, 2) := by decide +kernel
theorem dX10_whom_78 : decode cX10_whom 78 = .ok (.iload 5, 2) := by decide +kernel
theorem dX10_whom_80 : decode cX10_whom 80 = .ok (.invokevirtual 349, 3) := by decide +kernel
theorem dX10_whom_83 : decode cX10_whom 83 = .ok (.ifCond .eq 23, 3) := by decide +kernel
theorem dX10_whom_86 : decode cX10_whom 86 = .ok (.iload_n 2, 1) := by decide +kernel
theorem dX10_whom_87 : decode cX10_whom 87 = .ok (.ifCond .ne 14, 3) := by decide +kernel
theorem dX10_whom_90 : decode cX10_whom 90 = .ok (.bipush 10, 2) := by decide +kernel
theorem dX10_whom_92 : decode cX10_whom 92 = .ok (.iload 4, 2) := by decide +kernel
theorem dX10_whom_94 : decode cX10_whom 94 = .ok (.imul, 1) := by decide +kernel
theorem dX10_whom_95 : decode cX10_whom 95 = .ok (.iload 5, 2) := by decide +kernel
theorem dX10_whom_97 : decode cX10_whom 97 = .ok (.iadd, 1) := by decide +kernel
theorem dX10_whom_98 : decode cX10_whom 98 = .ok (.goto 4, 3) := by decide +kernel
theorem dX10_whom_101 : decode cX10_whom 101 = .ok (.iload_n 3, 1) := by decide +kernel
theorem dX10_whom_102 : decode cX10_whom 102 = .ok (.istore_n 3, 1) := by decide +kernel
theorem dX10_whom_103 : decode cX10_whom 103 = .ok (.iinc 2 1, 3) := by decide +kernel
theorem dX10_whom_106 : decode cX10_whom 106 = .ok (.iinc 5 1, 3) := by decide +kernel
theorem dX10_whom_109 : decode cX10_whom 109 = .ok (.goto (-60), 3) := by decide +kernel
theorem dX10_whom_112 : decode cX10_whom 112 = .ok (.iinc 4 1, 3) := by decide +kernel
theorem dX10_whom_115 : decode cX10_whom 115 = .ok (.goto (-84), 3) := by decide +kernel
theorem dX10_whom_118 : decode cX10_whom 118 = .ok (.iload_n 1, 1) := by decide +kernel
theorem dX10_whom_119 : decode cX10_whom 119 = .ok (.ifCond .ne 7, 3) := by decide +kernel
theorem dX10_whom_122 : decode cX10_whom 122 = .ok (.iload_n 2, 1) := by decide +kernel
theorem dX10_whom_123 : decode cX10_whom 123 = .ok (.goto 4, 3) := by decide +kernel
theorem dX10_whom_126 : decode cX10_whom 126 = .ok (.iload_n 3, 1) := by decide +kernel
theorem dX10_whom_127 : decode cX10_whom 127 = .ok (.ireturn, 1) := by decide +kernel
set_option maxRecDepth 100000 in
set_option maxHeartbeats 4000000 in
theorem k_X10_whom {G : am_G} (hK : k_OK G) {d : Nat} (hd : 8 ≤ d) {sh : List (Nat ⊕ (Nat × Nat))} {I : Nat → Nat → Int32} {R : Nat → Nat → Option Nat} {L : Nat → Nat → Int64} {g : Nat} (hXS : k_XS G) {t : Nat} (hM : k_Main sh R) (hRt : R 0 1 = some t) (ht3 : t = 3 ∨ t = 22) (hg : g ≠ 0) {n m : Nat} (hn : I t 0 = nI n) (hn8 : n ≤ 8) (hm : I (t + 8) 0 = nI m) (hm6 : m ≤ 6) {k : Nat} (hk : I 41 6 = nI k) (hk4 : k ≤ 4) (hB : ∀ j, j < k → vp_in (I 58 j) 8 ∧ vp_in (I 59 j) 6) (wh : Int32) : AM G pX10_whom d [.ref 0, .int wh] (sh, I, R, L, g) (fun v w => (wh = 0 ∨ wh = 1) ∧ v = some (.int (if wh = 0 then (f_wm (f_wP (f_look I 90 t 47 n m) t n k) n n).1 else (f_wm (f_wP (f_look I 90 t 47 n m) t n k) n n).2)) ∧ w = (sh, f_look I 90 t 47 n m, R, L, g)) (fun E w => w = (sh, I, R, L, g) ∧ E = "java/util/NoSuchElementException" ∧ ¬ (wh = 0 ∨ wh = 1)) := by
  have hG := hK.1
  have ht : k_Town sh R t := by rcases ht3 with rfl | rfl; exact kM_3 hM; exact kM_22 hM
  have o41 := kM_41 hM
  have o42 := kM_42 hM
  have o43 := kM_43 hM
  have o47 := kM_47 hM
  have o60 := kM_60 hM
  have o90 := kM_90 hM
  have o93 := kM_93 hM
  have o97 := kM_97 hM
  have o79 := kM_79 hM
  have o1 := kM_1 hM
  refine AM.of (n := 4) (by decide +kernel) (Nat.le_of_ble_eq_true rfl) ?_
  show AW G pX10_whom d (fun v w => (wh = 0 ∨ wh = 1) ∧ v = some (.int (if wh = 0 then (f_wm (f_wP (f_look I 90 t 47 n m) t n k) n n).1 else (f_wm (f_wP (f_look I 90 t 47 n m) t n k) n n).2)) ∧ w = (sh, f_look I 90 t 47 n m, R, L, g)) (fun E w => w = (sh, I, R, L, g) ∧ E = "java/util/NoSuchElementException" ∧ ¬ (wh = 0 ∨ wh = 1)) 0 [some (.ref 0), some (.int wh), none, none, none, none] [] (sh, I, R, L, g) 0 0
  refine AW.iload_n dX10_whom_0 rfl ?_
  refine AW.if_eq 20 dX10_whom_1 (by decide) (fun h1 => ?_) (fun h1 => ?_)
  · have hw : wh = 0 ∨ wh = 1 := Or.inl h1
    refine AW.aload_n dX10_whom_20 rfl ?_
    refine AW.callV (b := 0) (As := []) hG.2.2 (vX10_147 hG) (hM.1 0 _ rfl) (k_X10_lookAround hK (d := 3) (Nat.le_refl _) hXS hM hRt ht3 (by assumption) (by assumption) (by assumption) (by assumption)) (by omega) dX10_whom_21 rfl rfl (Nat.le_of_ble_eq_true rfl) (fun v w9 hq9 h09 => by obtain ⟨rfl, rfl⟩ := hq9; exact ⟨h09, rfl⟩) (by decide) (by decide) (fun _ _ hx => absurd hx id) (fun v21 w21 hq21 => ?_)
    obtain ⟨rfl, rfl⟩ := hq21
    refine AW.namI (fun I21 eI21 => ?_)
    show AW G pX10_whom d (fun v w => (wh = 0 ∨ wh = 1) ∧ v = some (.int (if wh = 0 then (f_wm (f_wP (f_look I 90 t 47 n m) t n k) n n).1 else (f_wm (f_wP (f_look I 90 t 47 n m) t n k) n n).2)) ∧ w = (sh, f_look I 90 t 47 n m, R, L, g)) (fun E w => w = (sh, I, R, L, g) ∧ E = "java/util/NoSuchElementException" ∧ ¬ (wh = 0 ∨ wh = 1)) 24 [some (.ref 0), some (.int wh), none, none, none, none] [] (sh, I21, R, L, g) 0 0
    have hJn : I21 t 0 = nI n := by rw [eI21, f_look_K _ _ _ _ (by omega) (by omega)]; exact hn
    have hJm : I21 (t + 8) 0 = nI m := by rw [eI21, f_look_K _ _ _ _ (by omega) (by omega)]; exact hm
    have hJk : I21 41 6 = nI k := by rw [eI21, f_look_K _ _ _ _ (by omega) (by omega)]; exact hk
    have hJB : ∀ j, j < k → vp_in (I21 58 j) 8 ∧ vp_in (I21 59 j) 6 := fun j hj => by rw [eI21, f_look_K _ _ _ _ (by omega) (by omega), f_look_K _ _ _ _ (by omega) (by omega)]; exact hB j hj
    refine AW.iconst 0 dX10_whom_24 (by decide) ?_
    refine AW.is_n [some (.ref 0), some (.int wh), some (.int 0), none, none, none] dX10_whom_25 (by decide) rfl rfl ?_
    refine AW.iconst (-1) dX10_whom_26 (by decide) ?_
    refine AW.is_n [some (.ref 0), some (.int wh), some (.int 0), some (.int (-1)), none, none] dX10_whom_27 (by decide) rfl rfl ?_
    refine AW.iconst 0 dX10_whom_28 (by decide) ?_
    refine AW.is [some (.ref 0), some (.int wh), some (.int 0), some (.int (-1)), some (.int 0), none] dX10_whom_29 (by decide) rfl rfl ?_
    have L31 : ∀ k31, k31 ≤ n → ∀ (a b x : Int32), (x = nI k31 ∧ a = (f_wm (f_wP I21 t n k) n k31).1 ∧ b = (f_wm (f_wP I21 t n k) n k31).2) → AW G pX10_whom d (fun v w => (wh = 0 ∨ wh = 1) ∧ v = some (.int (if wh = 0 then (f_wm (f_wP (f_look I 90 t 47 n m) t n k) n n).1 else (f_wm (f_wP (f_look I 90 t 47 n m) t n k) n n).2)) ∧ w = (sh, f_look I 90 t 47 n m, R, L, g)) (fun E w => w = (sh, I, R, L, g) ∧ E = "java/util/NoSuchElementException" ∧ ¬ (wh = 0 ∨ wh = 1)) 31 [some (.ref 0), some (.int wh), some (.int a), some (.int b), some (.int x), none] [] (sh, I21, R, L, g) 0 0 := by
      refine am_rec n (fun k31 hk31 ih31 => ?_)
      intro a b x hi31
      obtain ⟨hx, ha, hb⟩ := hi31
      refine AW.iload dX10_whom_31 rfl ?_
      refine AW.aload_n dX10_whom_33 rfl ?_
      refine AW.getR (fX10_19 hG).r rfl (hM.1 0 _ rfl) hRt dX10_whom_34 ?_
      refine AW.getI (fX10_119 hG).r rfl (ht.1 0 _ rfl) dX10_whom_37 ?_
      refine AW.icmp_ge 118 dX10_whom_40 (by decide) (fun h40 => ?_) (fun h40 => ?_)
      · have hke := k_ge h40 hx hJn hk31 (by omega)
        rw [hke] at ha hb
        refine AW.iload_n dX10_whom_118 rfl ?_
        refine AW.if_ne 126 dX10_whom_119 (by decide) (fun h119 => ?_) (fun h119 => ?_)
        · refine AW.iload_n dX10_whom_126 rfl ?_
          exact AW.iret dX10_whom_127 rfl (by decide) (by decide) (⟨hw, by rw [if_neg h119, hb, eI21], by rw [eI21]⟩)
        · refine AW.iload_n dX10_whom_122 rfl ?_
          refine AW.goto 127 dX10_whom_123 (by decide) ?_
          exact AW.iret dX10_whom_127 rfl (by decide) (by decide) (⟨hw, by rw [if_pos h119, ha, eI21], by rw [eI21]⟩)
      · have hlt := k_lt h40 hx hJn hk31 (by omega)
        have hbx : vp_in x 8 := by rw [hx]; exact vp_in_nI (by omega) (by decide)
        have hcx : x.toNatClampNeg = k31 := k_lit hx (by omega)
        refine AW.iload dX10_whom_43 rfl ?_
        refine AW.iconst 1 dX10_whom_45 (by decide) ?_
        refine AW.iadd dX10_whom_46 ?_
        refine AW.nam (fun x47 ex47 => ?_)
        refine AW.is [some (.ref 0), some (.int wh), some (.int a), some (.int b), some (.int x), some (.int x47)] dX10_whom_47 (by decide) rfl rfl ?_
        have L49 : ∀ k49, k49 ≤ n → ∀ (a2 b2 y : Int32), (k31 < k49 ∧ y = nI k49 ∧ a2 = (f_wm1 (f_wP I21 t n k) k31 (k49 - (k31 + 1)) (f_wm (f_wP I21 t n k) n k31)).1 ∧ b2 = (f_wm1 (f_wP I21 t n k) k31 (k49 - (k31 + 1)) (f_wm (f_wP I21 t n k) n k31)).2) → AW G pX10_whom d (fun v w => (wh = 0 ∨ wh = 1) ∧ v = some (.int (if wh = 0 then (f_wm (f_wP (f_look I 90 t 47 n m) t n k) n n).1 else (f_wm (f_wP (f_look I 90 t 47 n m) t n k) n n).2)) ∧ w = (sh, f_look I 90 t 47 n m, R, L, g)) (fun E w => w = (sh, I, R, L, g) ∧ E = "java/util/NoSuchElementException" ∧ ¬ (wh = 0 ∨ wh = 1)) 49 [some (.ref 0), some (.int wh), some (.int a2), some (.int b2), some (.int x), some (.int y)] [] (sh, I21, R, L, g) 0 0 := by
          refine am_rec n (fun k49 hk49 ih49 => ?_)
          intro a2 b2 y hi49
          obtain ⟨hkk, hy, ha2, hb2⟩ := hi49
          refine AW.iload dX10_whom_49 rfl ?_
          refine AW.aload_n dX10_whom_51 rfl ?_
          refine AW.getR (fX10_19 hG).r rfl (hM.1 0 _ rfl) hRt dX10_whom_52 ?_
          refine AW.getI (fX10_119 hG).r rfl (ht.1 0 _ rfl) dX10_whom_55 ?_
          refine AW.icmp_ge 112 dX10_whom_58 (by decide) (fun h58 => ?_) (fun h58 => ?_)
          · have hke := k_ge h58 hy hJn hk49 (by omega)
            refine AW.inc (fun x112 => [some (.ref 0), some (.int wh), some (.int a2), some (.int b2), some (.int x112), some (.int y)]) dX10_whom_112 rfl (by decide) rfl (fun _ => rfl) (fun x112 ex112 => ?_)
            refine AW.goto 31 dX10_whom_115 (by decide) ?_
            refine AW.mask [5] [some (.ref 0), some (.int wh), some (.int a2), some (.int b2), some (.int x112), none] rfl ?_
            exact ih31 (k31 + 1) (by omega) (by omega) _ _ _ (⟨k_inc (by assumption) hx, by rw [ha2, hke]; rfl, by rw [hb2, hke]; rfl⟩)
          · have hlt2 := k_lt h58 hy hJn hk49 (by omega)
            have hby : vp_in y 8 := by rw [hy]; exact vp_in_nI (by omega) (by decide)
            have hcy : y.toNatClampNeg = k49 := k_lit hy (by omega)
            refine AW.aload_n dX10_whom_61 rfl ?_
            refine AW.getR (c' := 90) (fX10_54 hG).r rfl (hM.1 0 _ rfl) (hM.2 (0, 10, 90) (by decide)) dX10_whom_62 ?_
            refine AW.iload dX10_whom_65 rfl ?_
            refine AW.iload dX10_whom_67 rfl ?_
            refine AW.callV (b := 90) (As := [.int x, .int y]) hG.2.2 (vX10_346 hG) (o90.1 0 _ rfl) (k_X1_both hK (d := 1) (Nat.le_refl _) o90 x y (by assumption) (by assumption)) (by omega) dX10_whom_69 rfl rfl (Nat.le_of_ble_eq_true rfl) (fun v w9 hq9 h09 => by obtain ⟨rfl, rfl⟩ := hq9; exact ⟨h09, rfl⟩) (by decide) (by decide) (fun _ _ hx => absurd hx id) (fun v69 w69 hq69 => ?_)
            obtain ⟨rfl, rfl⟩ := hq69
            refine AW.nam (fun x69 ex69 => ?_)
            refine AW.if_ne 106 dX10_whom_72 (by decide) (fun h72 => ?_) (fun h72 => ?_)
            · rw [ex69, hcx, hcy, hx, hy] at h72
              have q1 := kb_1.mp h72
              refine AW.inc (fun x106 => [some (.ref 0), some (.int wh), some (.int a2), some (.int b2), some (.int x), some (.int x106)]) dX10_whom_106 rfl (by decide) rfl (fun _ => rfl) (fun x106 ex106 => ?_)
              refine AW.goto 49 dX10_whom_109 (by decide) ?_
              exact ih49 (k49 + 1) (by omega) (by omega) _ _ _ (⟨by omega, k_inc (by assumption) hy, by rw [show k49 + 1 - (k31 + 1) = (k49 - (k31 + 1)) + 1 by omega]; show _ = (f_wm2 (f_wP I21 t n k) k31 (k31 + 1 + (k49 - (k31 + 1))) (f_wm1 (f_wP I21 t n k) k31 (k49 - (k31 + 1)) (f_wm (f_wP I21 t n k) n k31))).1; rw [show k31 + 1 + (k49 - (k31 + 1)) = k49 by omega]; rw [f_wm2_n (by unfold f_wP; rw [q1]; rfl)]; exact ha2, by rw [show k49 + 1 - (k31 + 1) = (k49 - (k31 + 1)) + 1 by omega]; show _ = (f_wm2 (f_wP I21 t n k) k31 (k31 + 1 + (k49 - (k31 + 1))) (f_wm1 (f_wP I21 t n k) k31 (k49 - (k31 + 1)) (f_wm (f_wP I21 t n k) n k31))).2; rw [show k31 + 1 + (k49 - (k31 + 1)) = k49 by omega]; rw [f_wm2_n (by unfold f_wP; rw [q1]; rfl)]; exact hb2⟩)
            · rw [ex69, hcx, hcy, hx, hy] at h72
              have q1 := kb_0.mp h72
              refine AW.aload_n dX10_whom_75 rfl ?_
              refine AW.iload dX10_whom_76 rfl ?_
              refine AW.iload dX10_whom_78 rfl ?_
              refine AW.callV (b := 0) (As := [.int x, .int y]) hG.2.2 (vX10_349 hG) (hM.1 0 _ rfl) (k_X10_explainsBalking hK (d := 4) (Nat.le_refl _) hXS hM hRt ht3 (by assumption) (by assumption) (by assumption) (by assumption) (by assumption) x y) (by omega) dX10_whom_80 rfl rfl (Nat.le_of_ble_eq_true rfl) (fun v w9 hq9 h09 => by obtain ⟨rfl, rfl⟩ := hq9; exact ⟨h09, rfl⟩) (by decide) (by decide) (fun _ _ hx => absurd hx id) (fun v80 w80 hq80 => ?_)
              obtain ⟨rfl, rfl⟩ := hq80
              refine AW.nam (fun x80 ex80 => ?_)
              refine AW.if_eq 106 dX10_whom_83 (by decide) (fun h83 => ?_) (fun h83 => ?_)
              · rw [ex80, hx, hy] at h83
                have q2 := kb_0.mp h83
                refine AW.inc (fun x106 => [some (.ref 0), some (.int wh), some (.int a2), some (.int b2), some (.int x), some (.int x106)]) dX10_whom_106 rfl (by decide) rfl (fun _ => rfl) (fun x106 ex106 => ?_)
                refine AW.goto 49 dX10_whom_109 (by decide) ?_
                exact ih49 (k49 + 1) (by omega) (by omega) _ _ _ (⟨by omega, k_inc (by assumption) hy, by rw [show k49 + 1 - (k31 + 1) = (k49 - (k31 + 1)) + 1 by omega]; show _ = (f_wm2 (f_wP I21 t n k) k31 (k31 + 1 + (k49 - (k31 + 1))) (f_wm1 (f_wP I21 t n k) k31 (k49 - (k31 + 1)) (f_wm (f_wP I21 t n k) n k31))).1; rw [show k31 + 1 + (k49 - (k31 + 1)) = k49 by omega]; rw [f_wm2_n (by unfold f_wP; rw [q1, q2]; rfl)]; exact ha2, by rw [show k49 + 1 - (k31 + 1) = (k49 - (k31 + 1)) + 1 by omega]; show _ = (f_wm2 (f_wP I21 t n k) k31 (k31 + 1 + (k49 - (k31 + 1))) (f_wm1 (f_wP I21 t n k) k31 (k49 - (k31 + 1)) (f_wm (f_wP I21 t n k) n k31))).2; rw [show k31 + 1 + (k49 - (k31 + 1)) = k49 by omega]; rw [f_wm2_n (by unfold f_wP; rw [q1, q2]; rfl)]; exact hb2⟩)
              · rw [ex80, hx, hy] at h83
                have q2 := kb_1.mp h83
                refine AW.iload_n dX10_whom_86 rfl ?_
                refine AW.if_ne 101 dX10_whom_87 (by decide) (fun h87 => ?_) (fun h87 => ?_)
                · refine AW.iload_n dX10_whom_101 rfl ?_
                  refine AW.is_n [some (.ref 0), some (.int wh), some (.int a2), some (.int b2), some (.int x), some (.int y)] dX10_whom_102 (by decide) rfl rfl ?_
                  refine AW.inc (fun x103 => [some (.ref 0), some (.int wh), some (.int x103), some (.int b2), some (.int x), some (.int y)]) dX10_whom_103 rfl (by decide) rfl (fun _ => rfl) (fun x103 ex103 => ?_)
                  refine AW.inc (fun x106 => [some (.ref 0), some (.int wh), some (.int x103), some (.int b2), some (.int x), some (.int x106)]) dX10_whom_106 rfl (by decide) rfl (fun _ => rfl) (fun x106 ex106 => ?_)
                  refine AW.goto 49 dX10_whom_109 (by decide) ?_
                  exact ih49 (k49 + 1) (by omega) (by omega) _ _ _ (⟨by omega, k_inc (by assumption) hy, by rw [show k49 + 1 - (k31 + 1) = (k49 - (k31 + 1)) + 1 by omega]; show _ = (f_wm2 (f_wP I21 t n k) k31 (k31 + 1 + (k49 - (k31 + 1))) (f_wm1 (f_wP I21 t n k) k31 (k49 - (k31 + 1)) (f_wm (f_wP I21 t n k) n k31))).1; rw [show k31 + 1 + (k49 - (k31 + 1)) = k49 by omega]; rw [f_wm2_1 (by unfold f_wP; rw [q1, q2]; rfl) (fun h => h87 (ha2.trans h)), ex103, ha2]; rfl, by rw [show k49 + 1 - (k31 + 1) = (k49 - (k31 + 1)) + 1 by omega]; show _ = (f_wm2 (f_wP I21 t n k) k31 (k31 + 1 + (k49 - (k31 + 1))) (f_wm1 (f_wP I21 t n k) k31 (k49 - (k31 + 1)) (f_wm (f_wP I21 t n k) n k31))).2; rw [show k31 + 1 + (k49 - (k31 + 1)) = k49 by omega]; rw [f_wm2_1 (by unfold f_wP; rw [q1, q2]; rfl) (fun h => h87 (ha2.trans h))]; exact hb2⟩)
                · refine AW.bipush 10 dX10_whom_90 (by decide) ?_
                  refine AW.iload dX10_whom_92 rfl ?_
                  refine AW.imul dX10_whom_94 ?_
                  refine AW.iload dX10_whom_95 rfl ?_
                  refine AW.iadd dX10_whom_97 ?_
                  refine AW.goto 102 dX10_whom_98 (by decide) ?_
                  refine AW.nam (fun x102 ex102 => ?_)
                  refine AW.is_n [some (.ref 0), some (.int wh), some (.int a2), some (.int x102), some (.int x), some (.int y)] dX10_whom_102 (by decide) rfl rfl ?_
                  refine AW.inc (fun x103 => [some (.ref 0), some (.int wh), some (.int x103), some (.int x102), some (.int x), some (.int y)]) dX10_whom_103 rfl (by decide) rfl (fun _ => rfl) (fun x103 ex103 => ?_)
                  refine AW.inc (fun x106 => [some (.ref 0), some (.int wh), some (.int x103), some (.int x102), some (.int x), some (.int x106)]) dX10_whom_106 rfl (by decide) rfl (fun _ => rfl) (fun x106 ex106 => ?_)
                  refine AW.goto 49 dX10_whom_109 (by decide) ?_
                  exact ih49 (k49 + 1) (by omega) (by omega) _ _ _ (⟨by omega, k_inc (by assumption) hy, by rw [show k49 + 1 - (k31 + 1) = (k49 - (k31 + 1)) + 1 by omega]; show _ = (f_wm2 (f_wP I21 t n k) k31 (k31 + 1 + (k49 - (k31 + 1))) (f_wm1 (f_wP I21 t n k) k31 (k49 - (k31 + 1)) (f_wm (f_wP I21 t n k) n k31))).1; rw [show k31 + 1 + (k49 - (k31 + 1)) = k49 by omega]; rw [f_wm2_0 (by unfold f_wP; rw [q1, q2]; rfl) (ha2.symm.trans h87), ex103, ha2]; rfl, by rw [show k49 + 1 - (k31 + 1) = (k49 - (k31 + 1)) + 1 by omega]; show _ = (f_wm2 (f_wP I21 t n k) k31 (k31 + 1 + (k49 - (k31 + 1))) (f_wm1 (f_wP I21 t n k) k31 (k49 - (k31 + 1)) (f_wm (f_wP I21 t n k) n k31))).2; rw [show k31 + 1 + (k49 - (k31 + 1)) = k49 by omega]; rw [f_wm2_0 (by unfold f_wP; rw [q1, q2]; rfl) (ha2.symm.trans h87), ex102, hx, hy]⟩)
        exact L49 (k31 + 1) (by omega) _ _ _ (⟨by omega, by rw [ex47, hx]; exact nI_1 _, by rw [Nat.sub_self]; exact ha, by rw [Nat.sub_self]; exact hb⟩)
    exact L31 0 (by omega) _ _ _ (⟨nI_0.symm, rfl, rfl⟩)
  · refine AW.iload_n dX10_whom_4 rfl ?_
    refine AW.iconst 1 dX10_whom_5 (by decide) ?_
    refine AW.icmp_eq 20 dX10_whom_6 (by decide) (fun h6 => ?_) (fun h6 => ?_)
    · have hw : wh = 0 ∨ wh = 1 := Or.inr h6
      refine AW.aload_n dX10_whom_20 rfl ?_
      refine AW.callV (b := 0) (As := []) hG.2.2 (vX10_147 hG) (hM.1 0 _ rfl) (k_X10_lookAround hK (d := 3) (Nat.le_refl _) hXS hM hRt ht3 (by assumption) (by assumption) (by assumption) (by assumption)) (by omega) dX10_whom_21 rfl rfl (Nat.le_of_ble_eq_true rfl) (fun v w9 hq9 h09 => by obtain ⟨rfl, rfl⟩ := hq9; exact ⟨h09, rfl⟩) (by decide) (by decide) (fun _ _ hx => absurd hx id) (fun v21 w21 hq21 => ?_)
      obtain ⟨rfl, rfl⟩ := hq21
      refine AW.namI (fun I21 eI21 => ?_)
      show AW G pX10_whom d (fun v w => (wh = 0 ∨ wh = 1) ∧ v = some (.int (if wh = 0 then (f_wm (f_wP (f_look I 90 t 47 n m) t n k) n n).1 else (f_wm (f_wP (f_look I 90 t 47 n m) t n k) n n).2)) ∧ w = (sh, f_look I 90 t 47 n m, R, L, g)) (fun E w => w = (sh, I, R, L, g) ∧ E = "java/util/NoSuchElementException" ∧ ¬ (wh = 0 ∨ wh = 1)) 24 [some (.ref 0), some (.int wh), none, none, none, none] [] (sh, I21, R, L, g) 0 0
      have hJn : I21 t 0 = nI n := by rw [eI21, f_look_K _ _ _ _ (by omega) (by omega)]; exact hn
      have hJm : I21 (t + 8) 0 = nI m := by rw [eI21, f_look_K _ _ _ _ (by omega) (by omega)]; exact hm
      have hJk : I21 41 6 = nI k := by rw [eI21, f_look_K _ _ _ _ (by omega) (by omega)]; exact hk
      have hJB : ∀ j, j < k → vp_in (I21 58 j) 8 ∧ vp_in (I21 59 j) 6 := fun j hj => by rw [eI21, f_look_K _ _ _ _ (by omega) (by omega), f_look_K _ _ _ _ (by omega) (by omega)]; exact hB j hj
      refine AW.iconst 0 dX10_whom_24 (by decide) ?_
      refine AW.is_n [some (.ref 0), some (.int wh), some (.int 0), none, none, none] dX10_whom_25 (by decide) rfl rfl ?_
      refine AW.iconst (-1) dX10_whom_26 (by decide) ?_
      refine AW.is_n [some (.ref 0), some (.int wh), some (.int 0), some (.int (-1)), none, none] dX10_whom_27 (by decide) rfl rfl ?_
      refine AW.iconst 0 dX10_whom_28 (by decide) ?_
      refine AW.is [some (.ref 0), some (.int wh), some (.int 0), some (.int (-1)), some (.int 0), none] dX10_whom_29 (by decide) rfl rfl ?_
      have L31 : ∀ k31, k31 ≤ n → ∀ (a b x : Int32), (x = nI k31 ∧ a = (f_wm (f_wP I21 t n k) n k31).1 ∧ b = (f_wm (f_wP I21 t n k) n k31).2) → AW G pX10_whom d (fun v w => (wh = 0 ∨ wh = 1) ∧ v = some (.int (if wh = 0 then (f_wm (f_wP (f_look I 90 t 47 n m) t n k) n n).1 else (f_wm (f_wP (f_look I 90 t 47 n m) t n k) n n).2)) ∧ w = (sh, f_look I 90 t 47 n m, R, L, g)) (fun E w => w = (sh, I, R, L, g) ∧ E = "java/util/NoSuchElementException" ∧ ¬ (wh = 0 ∨ wh = 1)) 31 [some (.ref 0), some (.int wh), some (.int a), some (.int b), some (.int x), none] [] (sh, I21, R, L, g) 0 0 := by
        refine am_rec n (fun k31 hk31 ih31 => ?_)
        intro a b x hi31
        obtain ⟨hx, ha, hb⟩ := hi31
        refine AW.iload dX10_whom_31 rfl ?_
        refine AW.aload_n dX10_whom_33 rfl ?_
        refine AW.getR (fX10_19 hG).r rfl (hM.1 0 _ rfl) hRt dX10_whom_34 ?_
        refine AW.getI (fX10_119 hG).r rfl (ht.1 0 _ rfl) dX10_whom_37 ?_
        refine AW.icmp_ge 118 dX10_whom_40 (by decide) (fun h40 => ?_) (fun h40 => ?_)
        · have hke := k_ge h40 hx hJn hk31 (by omega)
          rw [hke] at ha hb
          refine AW.iload_n dX10_whom_118 rfl ?_
          refine AW.if_ne 126 dX10_whom_119 (by decide) (fun h119 => ?_) (fun h119 => ?_)
          · refine AW.iload_n dX10_whom_126 rfl ?_
            exact AW.iret dX10_whom_127 rfl (by decide) (by decide) (⟨hw, by rw [if_neg h119, hb, eI21], by rw [eI21]⟩)
          · refine AW.iload_n dX10_whom_122 rfl ?_
            refine AW.goto 127 dX10_whom_123 (by decide) ?_
            exact AW.iret dX10_whom_127 rfl (by decide) (by decide) (⟨hw, by rw [if_pos h119, ha, eI21], by rw [eI21]⟩)
        · have hlt := k_lt h40 hx hJn hk31 (by omega)
          have hbx : vp_in x 8 := by rw [hx]; exact vp_in_nI (by omega) (by decide)
          have hcx : x.toNatClampNeg = k31 := k_lit hx (by omega)
          refine AW.iload dX10_whom_43 rfl ?_
          refine AW.iconst 1 dX10_whom_45 (by decide) ?_
          refine AW.iadd dX10_whom_46 ?_
          refine AW.nam (fun x47 ex47 => ?_)
          refine AW.is [some (.ref 0), some (.int wh), some (.int a), some (.int b), some (.int x), some (.int x47)] dX10_whom_47 (by decide) rfl rfl ?_
          have L49 : ∀ k49, k49 ≤ n → ∀ (a2 b2 y : Int32), (k31 < k49 ∧ y = nI k49 ∧ a2 = (f_wm1 (f_wP I21 t n k) k31 (k49 - (k31 + 1)) (f_wm (f_wP I21 t n k) n k31)).1 ∧ b2 = (f_wm1 (f_wP I21 t n k) k31 (k49 - (k31 + 1)) (f_wm (f_wP I21 t n k) n k31)).2) → AW G pX10_whom d (fun v w => (wh = 0 ∨ wh = 1) ∧ v = some (.int (if wh = 0 then (f_wm (f_wP (f_look I 90 t 47 n m) t n k) n n).1 else (f_wm (f_wP (f_look I 90 t 47 n m) t n k) n n).2)) ∧ w = (sh, f_look I 90 t 47 n m, R, L, g)) (fun E w => w = (sh, I, R, L, g) ∧ E = "java/util/NoSuchElementException" ∧ ¬ (wh = 0 ∨ wh = 1)) 49 [some (.ref 0), some (.int wh), some (.int a2), some (.int b2), some (.int x), some (.int y)] [] (sh, I21, R, L, g) 0 0 := by
            refine am_rec n (fun k49 hk49 ih49 => ?_)
            intro a2 b2 y hi49
            obtain ⟨hkk, hy, ha2, hb2⟩ := hi49
            refine AW.iload dX10_whom_49 rfl ?_
            refine AW.aload_n dX10_whom_51 rfl ?_
            refine AW.getR (fX10_19 hG).r rfl (hM.1 0 _ rfl) hRt dX10_whom_52 ?_
            refine AW.getI (fX10_119 hG).r rfl (ht.1 0 _ rfl) dX10_whom_55 ?_
            refine AW.icmp_ge 112 dX10_whom_58 (by decide) (fun h58 => ?_) (fun h58 => ?_)
            · have hke := k_ge h58 hy hJn hk49 (by omega)
              refine AW.inc (fun x112 => [some (.ref 0), some (.int wh), some (.int a2), some (.int b2), some (.int x112), some (.int y)]) dX10_whom_112 rfl (by decide) rfl (fun _ => rfl) (fun x112 ex112 => ?_)
              refine AW.goto 31 dX10_whom_115 (by decide) ?_
              refine AW.mask [5] [some (.ref 0), some (.int wh), some (.int a2), some (.int b2), some (.int x112), none] rfl ?_
              exact ih31 (k31 + 1) (by omega) (by omega) _ _ _ (⟨k_inc (by assumption) hx, by rw [ha2, hke]; rfl, by rw [hb2, hke]; rfl⟩)
            · have hlt2 := k_lt h58 hy hJn hk49 (by omega)
              have hby : vp_in y 8 := by rw [hy]; exact vp_in_nI (by omega) (by decide)
              have hcy : y.toNatClampNeg = k49 := k_lit hy (by omega)
              refine AW.aload_n dX10_whom_61 rfl ?_
              refine AW.getR (c' := 90) (fX10_54 hG).r rfl (hM.1 0 _ rfl) (hM.2 (0, 10, 90) (by decide)) dX10_whom_62 ?_
              refine AW.iload dX10_whom_65 rfl ?_
              refine AW.iload dX10_whom_67 rfl ?_
              refine AW.callV (b := 90) (As := [.int x, .int y]) hG.2.2 (vX10_346 hG) (o90.1 0 _ rfl) (k_X1_both hK (d := 1) (Nat.le_refl _) o90 x y (by assumption) (by assumption)) (by omega) dX10_whom_69 rfl rfl (Nat.le_of_ble_eq_true rfl) (fun v w9 hq9 h09 => by obtain ⟨rfl, rfl⟩ := hq9; exact ⟨h09, rfl⟩) (by decide) (by decide) (fun _ _ hx => absurd hx id) (fun v69 w69 hq69 => ?_)
              obtain ⟨rfl, rfl⟩ := hq69
              refine AW.nam (fun x69 ex69 => ?_)
              refine AW.if_ne 106 dX10_whom_72 (by decide) (fun h72 => ?_) (fun h72 => ?_)
              · rw [ex69, hcx, hcy, hx, hy] at h72
                have q1 := kb_1.mp h72
                refine AW.inc (fun x106 => [some (.ref 0), some (.int wh), some (.int a2), some (.int b2), some (.int x), some (.int x106)]) dX10_whom_106 rfl (by decide) rfl (fun _ => rfl) (fun x106 ex106 => ?_)
                refine AW.goto 49 dX10_whom_109 (by decide) ?_
                exact ih49 (k49 + 1) (by omega) (by omega) _ _ _ (⟨by omega, k_inc (by assumption) hy, by rw [show k49 + 1 - (k31 + 1) = (k49 - (k31 + 1)) + 1 by omega]; show _ = (f_wm2 (f_wP I21 t n k) k31 (k31 + 1 + (k49 - (k31 + 1))) (f_wm1 (f_wP I21 t n k) k31 (k49 - (k31 + 1)) (f_wm (f_wP I21 t n k) n k31))).1; rw [show k31 + 1 + (k49 - (k31 + 1)) = k49 by omega]; rw [f_wm2_n (by unfold f_wP; rw [q1]; rfl)]; exact ha2, by rw [show k49 + 1 - (k31 + 1) = (k49 - (k31 + 1)) + 1 by omega]; show _ = (f_wm2 (f_wP I21 t n k) k31 (k31 + 1 + (k49 - (k31 + 1))) (f_wm1 (f_wP I21 t n k) k31 (k49 - (k31 + 1)) (f_wm (f_wP I21 t n k) n k31))).2; rw [show k31 + 1 + (k49 - (k31 + 1)) = k49 by omega]; rw [f_wm2_n (by unfold f_wP; rw [q1]; rfl)]; exact hb2⟩)
              · rw [ex69, hcx, hcy, hx, hy] at h72
                have q1 := kb_0.mp h72
                refine AW.aload_n dX10_whom_75 rfl ?_
                refine AW.iload dX10_whom_76 rfl ?_
                refine AW.iload dX10_whom_78 rfl ?_
                refine AW.callV (b := 0) (As := [.int x, .int y]) hG.2.2 (vX10_349 hG) (hM.1 0 _ rfl) (k_X10_explainsBalking hK (d := 4) (Nat.le_refl _) hXS hM hRt ht3 (by assumption) (by assumption) (by assumption) (by assumption) (by assumption) x y) (by omega) dX10_whom_80 rfl rfl (Nat.le_of_ble_eq_true rfl) (fun v w9 hq9 h09 => by obtain ⟨rfl, rfl⟩ := hq9; exact ⟨h09, rfl⟩) (by decide) (by decide) (fun _ _ hx => absurd hx id) (fun v80 w80 hq80 => ?_)
                obtain ⟨rfl, rfl⟩ := hq80
                refine AW.nam (fun x80 ex80 => ?_)
                refine AW.if_eq 106 dX10_whom_83 (by decide) (fun h83 => ?_) (fun h83 => ?_)
                · rw [ex80, hx, hy] at h83
                  have q2 := kb_0.mp h83
                  refine AW.inc (fun x106 => [some (.ref 0), some (.int wh), some (.int a2), some (.int b2), some (.int x), some (.int x106)]) dX10_whom_106 rfl (by decide) rfl (fun _ => rfl) (fun x106 ex106 => ?_)
                  refine AW.goto 49 dX10_whom_109 (by decide) ?_
                  exact ih49 (k49 + 1) (by omega) (by omega) _ _ _ (⟨by omega, k_inc (by assumption) hy, by rw [show k49 + 1 - (k31 + 1) = (k49 - (k31 + 1)) + 1 by omega]; show _ = (f_wm2 (f_wP I21 t n k) k31 (k31 + 1 + (k49 - (k31 + 1))) (f_wm1 (f_wP I21 t n k) k31 (k49 - (k31 + 1)) (f_wm (f_wP I21 t n k) n k31))).1; rw [show k31 + 1 + (k49 - (k31 + 1)) = k49 by omega]; rw [f_wm2_n (by unfold f_wP; rw [q1, q2]; rfl)]; exact ha2, by rw [show k49 + 1 - (k31 + 1) = (k49 - (k31 + 1)) + 1 by omega]; show _ = (f_wm2 (f_wP I21 t n k) k31 (k31 + 1 + (k49 - (k31 + 1))) (f_wm1 (f_wP I21 t n k) k31 (k49 - (k31 + 1)) (f_wm (f_wP I21 t n k) n k31))).2; rw [show k31 + 1 + (k49 - (k31 + 1)) = k49 by omega]; rw [f_wm2_n (by unfold f_wP; rw [q1, q2]; rfl)]; exact hb2⟩)
                · rw [ex80, hx, hy] at h83
                  have q2 := kb_1.mp h83
                  refine AW.iload_n dX10_whom_86 rfl ?_
                  refine AW.if_ne 101 dX10_whom_87 (by decide) (fun h87 => ?_) (fun h87 => ?_)
                  · refine AW.iload_n dX10_whom_101 rfl ?_
                    refine AW.is_n [some (.ref 0), some (.int wh), some (.int a2), some (.int b2), some (.int x), some (.int y)] dX10_whom_102 (by decide) rfl rfl ?_
                    refine AW.inc (fun x103 => [some (.ref 0), some (.int wh), some (.int x103), some (.int b2), some (.int x), some (.int y)]) dX10_whom_103 rfl (by decide) rfl (fun _ => rfl) (fun x103 ex103 => ?_)
                    refine AW.inc (fun x106 => [some (.ref 0), some (.int wh), some (.int x103), some (.int b2), some (.int x), some (.int x106)]) dX10_whom_106 rfl (by decide) rfl (fun _ => rfl) (fun x106 ex106 => ?_)
                    refine AW.goto 49 dX10_whom_109 (by decide) ?_
                    exact ih49 (k49 + 1) (by omega) (by omega) _ _ _ (⟨by omega, k_inc (by assumption) hy, by rw [show k49 + 1 - (k31 + 1) = (k49 - (k31 + 1)) + 1 by omega]; show _ = (f_wm2 (f_wP I21 t n k) k31 (k31 + 1 + (k49 - (k31 + 1))) (f_wm1 (f_wP I21 t n k) k31 (k49 - (k31 + 1)) (f_wm (f_wP I21 t n k) n k31))).1; rw [show k31 + 1 + (k49 - (k31 + 1)) = k49 by omega]; rw [f_wm2_1 (by unfold f_wP; rw [q1, q2]; rfl) (fun h => h87 (ha2.trans h)), ex103, ha2]; rfl, by rw [show k49 + 1 - (k31 + 1) = (k49 - (k31 + 1)) + 1 by omega]; show _ = (f_wm2 (f_wP I21 t n k) k31 (k31 + 1 + (k49 - (k31 + 1))) (f_wm1 (f_wP I21 t n k) k31 (k49 - (k31 + 1)) (f_wm (f_wP I21 t n k) n k31))).2; rw [show k31 + 1 + (k49 - (k31 + 1)) = k49 by omega]; rw [f_wm2_1 (by unfold f_wP; rw [q1, q2]; rfl) (fun h => h87 (ha2.trans h))]; exact hb2⟩)
                  · refine AW.bipush 10 dX10_whom_90 (by decide) ?_
                    refine AW.iload dX10_whom_92 rfl ?_
                    refine AW.imul dX10_whom_94 ?_
                    refine AW.iload dX10_whom_95 rfl ?_
                    refine AW.iadd dX10_whom_97 ?_
                    refine AW.goto 102 dX10_whom_98 (by decide) ?_
                    refine AW.nam (fun x102 ex102 => ?_)
                    refine AW.is_n [some (.ref 0), some (.int wh), some (.int a2), some (.int x102), some (.int x), some (.int y)] dX10_whom_102 (by decide) rfl rfl ?_
                    refine AW.inc (fun x103 => [some (.ref 0), some (.int wh), some (.int x103), some (.int x102), some (.int x), some (.int y)]) dX10_whom_103 rfl (by decide) rfl (fun _ => rfl) (fun x103 ex103 => ?_)
                    refine AW.inc (fun x106 => [some (.ref 0), some (.int wh), some (.int x103), some (.int x102), some (.int x), some (.int x106)]) dX10_whom_106 rfl (by decide) rfl (fun _ => rfl) (fun x106 ex106 => ?_)
                    refine AW.goto 49 dX10_whom_109 (by decide) ?_
                    exact ih49 (k49 + 1) (by omega) (by omega) _ _ _ (⟨by omega, k_inc (by assumption) hy, by rw [show k49 + 1 - (k31 + 1) = (k49 - (k31 + 1)) + 1 by omega]; show _ = (f_wm2 (f_wP I21 t n k) k31 (k31 + 1 + (k49 - (k31 + 1))) (f_wm1 (f_wP I21 t n k) k31 (k49 - (k31 + 1)) (f_wm (f_wP I21 t n k) n k31))).1; rw [show k31 + 1 + (k49 - (k31 + 1)) = k49 by omega]; rw [f_wm2_0 (by unfold f_wP; rw [q1, q2]; rfl) (ha2.symm.trans h87), ex103, ha2]; rfl, by rw [show k49 + 1 - (k31 + 1) = (k49 - (k31 + 1)) + 1 by omega]; show _ = (f_wm2 (f_wP I21 t n k) k31 (k31 + 1 + (k49 - (k31 + 1))) (f_wm1 (f_wP I21 t n k) k31 (k49 - (k31 + 1)) (f_wm (f_wP I21 t n k) n k31))).2; rw [show k31 + 1 + (k49 - (k31 + 1)) = k49 by omega]; rw [f_wm2_0 (by unfold f_wP; rw [q1, q2]; rfl) (ha2.symm.trans h87), ex102, hx, hy]⟩)
          exact L49 (k31 + 1) (by omega) _ _ _ (⟨by omega, by rw [ex47, hx]; exact nI_1 _, by rw [Nat.sub_self]; exact ha, by rw [Nat.sub_self]; exact hb⟩)
      exact L31 0 (by omega) _ _ _ (⟨nI_0.symm, rfl, rfl⟩)
    · exact AW.throwNW (hXS.1 344 (by decide)) dX10_whom_9 dX10_whom_12 dX10_whom_13 dX10_whom_16 dX10_whom_19 (by omega) (Nat.le_of_ble_eq_true rfl) (by decide) (by decide) hg (⟨rfl, rfl, by rintro (h | h); exact h1 h; exact h6 h⟩)
abbrev pX10_game : am_M := (yX10_game, cX10_game, 8, (some .int), 4, 24)
theorem dX10_game_0 : decode cX10_game 0 = .ok (.aload_n 0, 1) := by decide +kernel
theorem dX10_game_1 : decode cX10_game 1 = .ok (.iload_n 1, 1) := by decide +kernel
theorem dX10_game_2 : decode cX10_game 2 = .ok (.invokevirtual 168, 3) := by decide +kernel
theorem dX10_game_5 : decode cX10_game 5 = .ok (.aload_n 0, 1) := by decide +kernel
theorem dX10_game_6 : decode cX10_game 6 = .ok (.iload_n 2, 1) := by decide +kernel
theorem dX10_game_7 : decode cX10_game 7 = .ok (.invokevirtual 168, 3) := by decide +kernel
theorem dX10_game_10 : decode cX10_game 10 = .ok (.iload_n 3, 1) := by decide +kernel
theorem dX10_game_11 : decode cX10_game 11 = .ok (.ifCond .eq 19, 3) := by decide +kernel
theorem dX10_game_14 : decode cX10_game 14 = .ok (.iload_n 3, 1) := by decide +kernel
theorem dX10_game_15 : decode cX10_game 15 = .ok (.iconst 1, 1) := by decide +kernel
theorem dX10_game_16 : decode cX10_game 16 = .ok (.if_icmp .eq 14, 3) := by decide +kernel
theorem dX10_game_19 : decode cX10_game 19 = .ok (.new 163, 3) := by decide +kernel
theorem dX10_game_22 : decode cX10_game 22 = .ok (.dup, 1) := by decide +kernel
theorem dX10_game_23 : decode cX10_game 23 = .ok (.ldc_w 368, 3) := by decide +kernel
theorem dX10_game_26 : decode cX10_game 26 = .ok (.invokespecial 167, 3) := by decide +kernel
theorem dX10_game_29 : decode cX10_game 29 = .ok (.athrow, 1) := by decide +kernel
theorem dX10_game_30 : decode cX10_game 30 = .ok (.iload_n 1, 1) := by decide +kernel
theorem dX10_game_31 : decode cX10_game 31 = .ok (.iload_n 2, 1) := by decide +kernel
theorem dX10_game_32 : decode cX10_game 32 = .ok (.if_icmp .ne 13, 3) := by decide +kernel
theorem dX10_game_35 : decode cX10_game 35 = .ok (.new 86, 3) := by decide +kernel
theorem dX10_game_38 : decode cX10_game 38 = .ok (.dup, 1) := by decide +kernel
theorem dX10_game_39 : decode cX10_game 39 = .ok (.ldc 220, 2) := by decide +kernel
theorem dX10_game_41 : decode cX10_game 41 = .ok (.invokespecial 90, 3) := by decide +kernel
theorem dX10_game_44 : decode cX10_game 44 = .ok (.athrow, 1) := by decide +kernel
theorem dX10_game_45 : decode cX10_game 45 = .ok (.aload_n 0, 1) := by decide +kernel
theorem dX10_game_46 : decode cX10_game 46 = .ok (.invokevirtual 147, 3) := by decide +kernel
theorem dX10_game_49 : decode cX10_game 49 = .ok (.iconst 0, 1) := by decide +kernel
theorem dX10_game_50 : decode cX10_game 50 = .ok (.istore 4, 2) := by decide +kernel
theorem dX10_game_52 : decode cX10_game 52 = .ok (.iconst (-1), 1) := by decide +kernel
theorem dX10_game_53 : decode cX10_game 53 = .ok (.istore 5, 2) := by decide +kernel
theorem dX10_game_55 : decode cX10_game 55 = .ok (.iconst 0, 1) := by decide +kernel
theorem dX10_game_56 : decode cX10_game 56 = .ok (.istore 6, 2) := by decide +kernel
theorem dX10_game_58 : decode cX10_game 58 = .ok (.iload 6, 2) := by decide +kernel
theorem dX10_game_60 : decode cX10_game 60 = .ok (.aload_n 0, 1) := by decide +kernel
theorem dX10_game_61 : decode cX10_game 61 = .ok (.getfield 19, 3) := by decide +kernel
theorem dX10_game_64 : decode cX10_game 64 = .ok (.getfield 122, 3) := by decide +kernel
theorem dX10_game_67 : decode cX10_game 67 = .ok (.getfield 126, 3) := by decide +kernel
theorem dX10_game_70 : decode cX10_game 70 = .ok (.if_icmp .ge 80, 3) := by decide +kernel
theorem dX10_game_73 : decode cX10_game 73 = .ok (.iconst 0, 1) := by decide +kernel
theorem dX10_game_74 : decode cX10_game 74 = .ok (.istore 7, 2) := by decide +kernel
theorem dX10_game_76 : decode cX10_game 76 = .ok (.iload 7, 2) := by decide +kernel
theorem dX10_game_78 : decode cX10_game 78 = .ok (.aload_n 0, 1) := by decide +kernel
theorem dX10_game_79 : decode cX10_game 79 = .ok (.getfield 19, 3) := by decide +kernel
theorem dX10_game_82 : decode cX10_game 82 = .ok (.getfield 122, 3) := by decide +kernel
theorem dX10_game_85 : decode cX10_game 85 = .ok (.getfield 126, 3) := by decide +kernel
theorem dX10_game_88 : decode cX10_game 88 = .ok (.if_icmp .ge 56, 3) := by decide +kernel
theorem dX10_game_91 : decode cX10_game 91 = .ok (.aload_n 0, 1) := by decide +kernel
theorem dX10_game_92 : decode cX10_game 92 = .ok (.iload_n 1, 1) := by decide +kernel
theorem dX10_game_93 : decode cX10_game 93 = .ok (.iload 6, 2) := by decide +kernel
theorem dX10_game_95 : decode cX10_game 95 = .ok (.iload 7, 2) := by decide +kernel
theorem dX10_game_97 : decode cX10_game 97 = .ok (.invokevirtual 370, 3) := by decide +kernel
theorem dX10_game_100 : decode cX10_game 100 = .ok (.ifCond .eq 38, 3) := by decide +kernel
theorem dX10_game_103 : decode cX10_game 103 = .ok (.aload_n 0, 1) := by decide +kernel
theorem dX10_game_104 : decode cX10_game 104 = .ok (.iload_n 2, 1) := by decide +kernel
theorem dX10_game_105 : decode cX10_game 105 = .ok (.iload 7, 2) := by decide +kernel
theorem dX10_game_107 : decode cX10_game 107 = .ok (.iload 6, 2) := by decide +kernel
theorem dX10_game_109 : decode cX10_game 109 = .ok (.invokevirtual 370, 3) := by decide +kernel
theorem dX10_game_112 : decode cX10_game 112 = .ok (.ifCond .eq 26, 3) := by decide +kernel
theorem dX10_game_115 : decode cX10_game 115 = .ok (.iload 4, 2) := by decide +kernel
theorem dX10_game_117 : decode cX10_game 117 = .ok (.ifCond .ne 14, 3) := by decide +kernel
theorem dX10_game_120 : decode cX10_game 120 = .ok (.bipush 10, 2) := by decide +kernel
theorem dX10_game_122 : decode cX10_game 122 = .ok (.iload 6, 2) := by decide +kernel
theorem dX10_game_124 : decode cX10_game 124 = .ok (.imul, 1) := by decide +kernel
theorem dX10_game_125 : decode cX10_game 125 = .ok (.iload 7, 2) := by decide +kernel
theorem dX10_game_127 : decode cX10_game 127 = .ok (.iadd, 1) := by decide +kernel
theorem dX10_game_128 : decode cX10_game 128 = .ok (.goto 5, 3) := by decide +kernel
theorem dX10_game_131 : decode cX10_game 131 = .ok (.iload 5, 2) := by decide +kernel
theorem dX10_game_133 : decode cX10_game 133 = .ok (.istore 5, 2) := by decide +kernel
theorem dX10_game_135 : decode cX10_game 135 = .ok (.iinc 4 1, 3) := by decide +kernel
theorem dX10_game_138 : decode cX10_game 138 = .ok (.iinc 7 1, 3) := by decide +kernel
theorem dX10_game_141 : decode cX10_game 141 = .ok (.goto (-65), 3) := by decide +kernel
theorem dX10_game_144 : decode cX10_game 144 = .ok (.iinc 6 1, 3) := by decide +kernel
theorem dX10_game_147 : decode cX10_game 147 = .ok (.goto (-89), 3) := by decide +kernel
theorem dX10_game_150 : decode cX10_game 150 = .ok (.iload_n 3, 1) := by decide +kernel
theorem dX10_game_151 : decode cX10_game 151 = .ok (.ifCond .ne 8, 3) := by decide +kernel
theorem dX10_game_154 : decode cX10_game 154 = .ok (.iload 4, 2) := by decide +kernel
theorem dX10_game_156 : decode cX10_game 156 = .ok (.goto 5, 3) := by decide +kernel
theorem dX10_game_159 : decode cX10_game 159 = .ok (.iload 5, 2) := by decide +kernel
theorem dX10_game_161 : decode cX10_game 161 = .ok (.ireturn, 1) := by decide +kernel
set_option maxRecDepth 100000 in
set_option maxHeartbeats 4000000 in
theorem k_X10_game {G : am_G} (hK : k_OK G) {d : Nat} (hd : 8 ≤ d) {sh : List (Nat ⊕ (Nat × Nat))} {I : Nat → Nat → Int32} {R : Nat → Nat → Option Nat} {L : Nat → Nat → Int64} {g : Nat} (hXS : k_XS G) {t : Nat} (hM : k_Main sh R) (hRt : R 0 1 = some t) (ht3 : t = 3 ∨ t = 22) (hg : g ≠ 0) {n m : Nat} (hn : I t 0 = nI n) (hn8 : n ≤ 8) (hm : I (t + 8) 0 = nI m) (hm6 : m ≤ 6) (p q wh : Int32) : AM G pX10_game d [.ref 0, .int p, .int q, .int wh] (sh, I, R, L, g) (fun v w => ∃ pa qb, pa < n ∧ qb < n ∧ p = nI pa ∧ q = nI qb ∧ ¬ p = q ∧ (wh = 0 ∨ wh = 1) ∧ v = some (.int (if wh = 0 then (f_gm (f_gP (f_look I 90 t 47 n m) t m pa qb) m m).1 else (f_gm (f_gP (f_look I 90 t 47 n m) t m pa qb) m m).2)) ∧ w = (sh, f_look I 90 t 47 n m, R, L, g)) (fun E w => w = (sh, I, R, L, g) ∧ ((E = "java/util/NoSuchElementException" ∧ ¬ (k_is p n ∧ k_is q n ∧ (wh = 0 ∨ wh = 1))) ∨ (E = "java/lang/IllegalArgumentException" ∧ k_is p n ∧ k_is q n ∧ (wh = 0 ∨ wh = 1) ∧ p = q))) := by
  have hG := hK.1
  have ht : k_Town sh R t := by rcases ht3 with rfl | rfl; exact kM_3 hM; exact kM_22 hM
  have o41 := kM_41 hM
  have o42 := kM_42 hM
  have o43 := kM_43 hM
  have o47 := kM_47 hM
  have o60 := kM_60 hM
  have o90 := kM_90 hM
  have o93 := kM_93 hM
  have o97 := kM_97 hM
  have o79 := kM_79 hM
  have o1 := kM_1 hM
  refine AM.of (n := 4) (by decide +kernel) (Nat.le_of_ble_eq_true rfl) ?_
  show AW G pX10_game d (fun v w => ∃ pa qb, pa < n ∧ qb < n ∧ p = nI pa ∧ q = nI qb ∧ ¬ p = q ∧ (wh = 0 ∨ wh = 1) ∧ v = some (.int (if wh = 0 then (f_gm (f_gP (f_look I 90 t 47 n m) t m pa qb) m m).1 else (f_gm (f_gP (f_look I 90 t 47 n m) t m pa qb) m m).2)) ∧ w = (sh, f_look I 90 t 47 n m, R, L, g)) (fun E w => w = (sh, I, R, L, g) ∧ ((E = "java/util/NoSuchElementException" ∧ ¬ (k_is p n ∧ k_is q n ∧ (wh = 0 ∨ wh = 1))) ∨ (E = "java/lang/IllegalArgumentException" ∧ k_is p n ∧ k_is q n ∧ (wh = 0 ∨ wh = 1) ∧ p = q))) 0 [some (.ref 0), some (.int p), some (.int q), some (.int wh), none, none, none, none] [] (sh, I, R, L, g) 0 0
  refine AW.aload_n dX10_game_0 rfl ?_
  refine AW.iload_n dX10_game_1 rfl ?_
  refine AW.callV (b := 0) (As := [.int p]) hG.2.2 (vX10_168 hG) (hM.1 0 _ rfl) (k_X10_requirePerson hK (d := 7) (Nat.le_refl _) hXS hM hRt ht3 hg (by assumption) (by assumption) p) (by omega) dX10_game_2 rfl rfl (Nat.le_of_ble_eq_true rfl) (fun v w9 hq9 h09 => absurd (by obtain ⟨-, e9, -⟩ := hq9; rw [e9] at h09; exact h09) hg) (by decide) (by decide) (fun E w9 h9 => ⟨h9.2.1, Or.inl ⟨h9.1, fun h => h9.2.2 h.1⟩⟩) (fun v2 w2 hq2 => ?_)
  obtain ⟨rfl, rfl, his2⟩ := hq2
  show AW G pX10_game d (fun v w => ∃ pa qb, pa < n ∧ qb < n ∧ p = nI pa ∧ q = nI qb ∧ ¬ p = q ∧ (wh = 0 ∨ wh = 1) ∧ v = some (.int (if wh = 0 then (f_gm (f_gP (f_look I 90 t 47 n m) t m pa qb) m m).1 else (f_gm (f_gP (f_look I 90 t 47 n m) t m pa qb) m m).2)) ∧ w = (sh, f_look I 90 t 47 n m, R, L, g)) (fun E w => w = (sh, I, R, L, g) ∧ ((E = "java/util/NoSuchElementException" ∧ ¬ (k_is p n ∧ k_is q n ∧ (wh = 0 ∨ wh = 1))) ∨ (E = "java/lang/IllegalArgumentException" ∧ k_is p n ∧ k_is q n ∧ (wh = 0 ∨ wh = 1) ∧ p = q))) 5 [some (.ref 0), some (.int p), some (.int q), some (.int wh), none, none, none, none] [] (sh, I, R, L, g) 1 6
  refine AW.aload_n dX10_game_5 rfl ?_
  refine AW.iload_n dX10_game_6 rfl ?_
  refine AW.callV (b := 0) (As := [.int q]) hG.2.2 (vX10_168 hG) (hM.1 0 _ rfl) (k_X10_requirePerson hK (d := 7) (Nat.le_refl _) hXS hM hRt ht3 hg (by assumption) (by assumption) q) (by omega) dX10_game_7 rfl rfl (Nat.le_of_ble_eq_true rfl) (fun v w9 hq9 h09 => absurd (by obtain ⟨-, e9, -⟩ := hq9; rw [e9] at h09; exact h09) hg) (by decide) (by decide) (fun E w9 h9 => ⟨h9.2.1, Or.inl ⟨h9.1, fun h => h9.2.2 h.2.1⟩⟩) (fun v7 w7 hq7 => ?_)
  obtain ⟨rfl, rfl, his7⟩ := hq7
  show AW G pX10_game d (fun v w => ∃ pa qb, pa < n ∧ qb < n ∧ p = nI pa ∧ q = nI qb ∧ ¬ p = q ∧ (wh = 0 ∨ wh = 1) ∧ v = some (.int (if wh = 0 then (f_gm (f_gP (f_look I 90 t 47 n m) t m pa qb) m m).1 else (f_gm (f_gP (f_look I 90 t 47 n m) t m pa qb) m m).2)) ∧ w = (sh, f_look I 90 t 47 n m, R, L, g)) (fun E w => w = (sh, I, R, L, g) ∧ ((E = "java/util/NoSuchElementException" ∧ ¬ (k_is p n ∧ k_is q n ∧ (wh = 0 ∨ wh = 1))) ∨ (E = "java/lang/IllegalArgumentException" ∧ k_is p n ∧ k_is q n ∧ (wh = 0 ∨ wh = 1) ∧ p = q))) 10 [some (.ref 0), some (.int p), some (.int q), some (.int wh), none, none, none, none] [] (sh, I, R, L, g) 2 12
  obtain ⟨pa, hpa, hpe⟩ := id his2
  obtain ⟨qb, hqb, hqe⟩ := id his7
  refine AW.iload_n dX10_game_10 rfl ?_
  refine AW.if_eq 30 dX10_game_11 (by decide) (fun h11 => ?_) (fun h11 => ?_)
  · have hw : wh = 0 ∨ wh = 1 := Or.inl h11
    refine AW.iload_n dX10_game_30 rfl ?_
    refine AW.iload_n dX10_game_31 rfl ?_
    refine AW.icmp_ne 45 dX10_game_32 (by decide) (fun h32 => ?_) (fun h32 => ?_)
    · refine AW.aload_n dX10_game_45 rfl ?_
      refine AW.callV (b := 0) (As := []) hG.2.2 (vX10_147 hG) (hM.1 0 _ rfl) (k_X10_lookAround hK (d := 3) (Nat.le_refl _) hXS hM hRt ht3 (by assumption) (by assumption) (by assumption) (by assumption)) (by omega) dX10_game_46 rfl rfl (Nat.le_of_ble_eq_true rfl) (fun v w9 hq9 h09 => by obtain ⟨rfl, rfl⟩ := hq9; exact ⟨h09, rfl⟩) (by decide) (by decide) (fun _ _ hx => absurd hx id) (fun v46 w46 hq46 => ?_)
      obtain ⟨rfl, rfl⟩ := hq46
      refine AW.namI (fun I46 eI46 => ?_)
      show AW G pX10_game d (fun v w => ∃ pa qb, pa < n ∧ qb < n ∧ p = nI pa ∧ q = nI qb ∧ ¬ p = q ∧ (wh = 0 ∨ wh = 1) ∧ v = some (.int (if wh = 0 then (f_gm (f_gP (f_look I 90 t 47 n m) t m pa qb) m m).1 else (f_gm (f_gP (f_look I 90 t 47 n m) t m pa qb) m m).2)) ∧ w = (sh, f_look I 90 t 47 n m, R, L, g)) (fun E w => w = (sh, I, R, L, g) ∧ ((E = "java/util/NoSuchElementException" ∧ ¬ (k_is p n ∧ k_is q n ∧ (wh = 0 ∨ wh = 1))) ∨ (E = "java/lang/IllegalArgumentException" ∧ k_is p n ∧ k_is q n ∧ (wh = 0 ∨ wh = 1) ∧ p = q))) 49 [some (.ref 0), some (.int p), some (.int q), some (.int wh), none, none, none, none] [] (sh, I46, R, L, g) 2 12
      have hJn : I46 t 0 = nI n := by rw [eI46, f_look_K _ _ _ _ (by omega) (by omega)]; exact hn
      have hJm : I46 (t + 8) 0 = nI m := by rw [eI46, f_look_K _ _ _ _ (by omega) (by omega)]; exact hm
      refine AW.iconst 0 dX10_game_49 (by decide) ?_
      refine AW.is [some (.ref 0), some (.int p), some (.int q), some (.int wh), some (.int 0), none, none, none] dX10_game_50 (by decide) rfl rfl ?_
      refine AW.iconst (-1) dX10_game_52 (by decide) ?_
      refine AW.is [some (.ref 0), some (.int p), some (.int q), some (.int wh), some (.int 0), some (.int (-1)), none, none] dX10_game_53 (by decide) rfl rfl ?_
      refine AW.iconst 0 dX10_game_55 (by decide) ?_
      refine AW.is [some (.ref 0), some (.int p), some (.int q), some (.int wh), some (.int 0), some (.int (-1)), some (.int 0), none] dX10_game_56 (by decide) rfl rfl ?_
      have L58 : ∀ k58, k58 ≤ m → ∀ (a b x : Int32), (x = nI k58 ∧ a = (f_gm (f_gP I46 t m pa qb) m k58).1 ∧ b = (f_gm (f_gP I46 t m pa qb) m k58).2) → AW G pX10_game d (fun v w => ∃ pa qb, pa < n ∧ qb < n ∧ p = nI pa ∧ q = nI qb ∧ ¬ p = q ∧ (wh = 0 ∨ wh = 1) ∧ v = some (.int (if wh = 0 then (f_gm (f_gP (f_look I 90 t 47 n m) t m pa qb) m m).1 else (f_gm (f_gP (f_look I 90 t 47 n m) t m pa qb) m m).2)) ∧ w = (sh, f_look I 90 t 47 n m, R, L, g)) (fun E w => w = (sh, I, R, L, g) ∧ ((E = "java/util/NoSuchElementException" ∧ ¬ (k_is p n ∧ k_is q n ∧ (wh = 0 ∨ wh = 1))) ∨ (E = "java/lang/IllegalArgumentException" ∧ k_is p n ∧ k_is q n ∧ (wh = 0 ∨ wh = 1) ∧ p = q))) 58 [some (.ref 0), some (.int p), some (.int q), some (.int wh), some (.int a), some (.int b), some (.int x), none] [] (sh, I46, R, L, g) 2 12 := by
        refine am_rec m (fun k58 hk58 ih58 => ?_)
        intro a b x hi58
        obtain ⟨hx, ha, hb⟩ := hi58
        refine AW.iload dX10_game_58 rfl ?_
        refine AW.aload_n dX10_game_60 rfl ?_
        refine AW.getR (fX10_19 hG).r rfl (hM.1 0 _ rfl) hRt dX10_game_61 ?_
        refine AW.getR (c' := (t + 8)) (fX10_122 hG) rfl (ht.1 0 _ rfl) (ht.2 (0, 11, 8) (by decide)) dX10_game_64 ?_
        refine AW.getI (fX10_126 hG).r rfl (ht.1 8 _ rfl) dX10_game_67 ?_
        refine AW.icmp_ge 150 dX10_game_70 (by decide) (fun h70 => ?_) (fun h70 => ?_)
        · have hke := k_ge h70 hx hJm hk58 (by omega)
          rw [hke] at ha hb
          refine AW.iload_n dX10_game_150 rfl ?_
          refine AW.if_ne 159 dX10_game_151 (by decide) (fun h151 => ?_) (fun h151 => ?_)
          · refine AW.iload dX10_game_159 rfl ?_
            exact AW.iret dX10_game_161 rfl (by decide) (by decide) (⟨pa, qb, hpa, hqb, hpe, hqe, h32, hw, by rw [if_neg h151, hb, eI46], by rw [eI46]⟩)
          · refine AW.iload dX10_game_154 rfl ?_
            refine AW.goto 161 dX10_game_156 (by decide) ?_
            exact AW.iret dX10_game_161 rfl (by decide) (by decide) (⟨pa, qb, hpa, hqb, hpe, hqe, h32, hw, by rw [if_pos h151, ha, eI46], by rw [eI46]⟩)
        · have hlt := k_lt h70 hx hJm hk58 (by omega)
          refine AW.iconst 0 dX10_game_73 (by decide) ?_
          refine AW.is [some (.ref 0), some (.int p), some (.int q), some (.int wh), some (.int a), some (.int b), some (.int x), some (.int 0)] dX10_game_74 (by decide) rfl rfl ?_
          have L76 : ∀ k76, k76 ≤ m → ∀ (a2 b2 y : Int32), (y = nI k76 ∧ a2 = (f_gm1 (f_gP I46 t m pa qb) k58 k76 (f_gm (f_gP I46 t m pa qb) m k58)).1 ∧ b2 = (f_gm1 (f_gP I46 t m pa qb) k58 k76 (f_gm (f_gP I46 t m pa qb) m k58)).2) → AW G pX10_game d (fun v w => ∃ pa qb, pa < n ∧ qb < n ∧ p = nI pa ∧ q = nI qb ∧ ¬ p = q ∧ (wh = 0 ∨ wh = 1) ∧ v = some (.int (if wh = 0 then (f_gm (f_gP (f_look I 90 t 47 n m) t m pa qb) m m).1 else (f_gm (f_gP (f_look I 90 t 47 n m) t m pa qb) m m).2)) ∧ w = (sh, f_look I 90 t 47 n m, R, L, g)) (fun E w => w = (sh, I, R, L, g) ∧ ((E = "java/util/NoSuchElementException" ∧ ¬ (k_is p n ∧ k_is q n ∧ (wh = 0 ∨ wh = 1))) ∨ (E = "java/lang/IllegalArgumentException" ∧ k_is p n ∧ k_is q n ∧ (wh = 0 ∨ wh = 1) ∧ p = q))) 76 [some (.ref 0), some (.int p), some (.int q), some (.int wh), some (.int a2), some (.int b2), some (.int x), some (.int y)] [] (sh, I46, R, L, g) 2 12 := by
            refine am_rec m (fun k76 hk76 ih76 => ?_)
            intro a2 b2 y hi76
            obtain ⟨hy, ha2, hb2⟩ := hi76
            refine AW.iload dX10_game_76 rfl ?_
            refine AW.aload_n dX10_game_78 rfl ?_
            refine AW.getR (fX10_19 hG).r rfl (hM.1 0 _ rfl) hRt dX10_game_79 ?_
            refine AW.getR (c' := (t + 8)) (fX10_122 hG) rfl (ht.1 0 _ rfl) (ht.2 (0, 11, 8) (by decide)) dX10_game_82 ?_
            refine AW.getI (fX10_126 hG).r rfl (ht.1 8 _ rfl) dX10_game_85 ?_
            refine AW.icmp_ge 144 dX10_game_88 (by decide) (fun h88 => ?_) (fun h88 => ?_)
            · have hke := k_ge h88 hy hJm hk76 (by omega)
              refine AW.inc (fun x144 => [some (.ref 0), some (.int p), some (.int q), some (.int wh), some (.int a2), some (.int b2), some (.int x144), some (.int y)]) dX10_game_144 rfl (by decide) rfl (fun _ => rfl) (fun x144 ex144 => ?_)
              refine AW.goto 58 dX10_game_147 (by decide) ?_
              refine AW.mask [7] [some (.ref 0), some (.int p), some (.int q), some (.int wh), some (.int a2), some (.int b2), some (.int x144), none] rfl ?_
              exact ih58 (k58 + 1) (by omega) (by omega) _ _ _ (⟨k_inc (by assumption) hx, by rw [ha2, hke]; rfl, by rw [hb2, hke]; rfl⟩)
            · have hlt2 := k_lt h88 hy hJm hk76 (by omega)
              refine AW.aload_n dX10_game_91 rfl ?_
              refine AW.iload_n dX10_game_92 rfl ?_
              refine AW.iload dX10_game_93 rfl ?_
              refine AW.iload dX10_game_95 rfl ?_
              refine AW.callV (b := 0) (As := [.int p, .int x, .int y]) hG.2.2 (vX10_370 hG) (hM.1 0 _ rfl) (k_X10_isBestChoice hK (d := 2) (Nat.le_refl _) hXS hM hRt ht3 (by assumption) (by assumption) p x y _ _ _ (by assumption) (by assumption) (by omega) (by assumption)) (by omega) dX10_game_97 rfl rfl (Nat.le_of_ble_eq_true rfl) (fun v w9 hq9 h09 => by obtain ⟨rfl, rfl⟩ := hq9; exact ⟨h09, rfl⟩) (by decide) (by decide) (fun _ _ hx => absurd hx id) (fun v97 w97 hq97 => ?_)
              obtain ⟨rfl, rfl⟩ := hq97
              refine AW.nam (fun x97 ex97 => ?_)
              refine AW.if_eq 138 dX10_game_100 (by decide) (fun h100 => ?_) (fun h100 => ?_)
              · rw [ex97] at h100
                have q1 := kb_0.mp h100
                refine AW.inc (fun x138 => [some (.ref 0), some (.int p), some (.int q), some (.int wh), some (.int a2), some (.int b2), some (.int x), some (.int x138)]) dX10_game_138 rfl (by decide) rfl (fun _ => rfl) (fun x138 ex138 => ?_)
                refine AW.goto 76 dX10_game_141 (by decide) ?_
                exact ih76 (k76 + 1) (by omega) (by omega) _ _ _ (⟨k_inc (by assumption) hy, (show _ = (f_wm2 (f_gP I46 t m pa qb) k58 k76 (f_gm1 (f_gP I46 t m pa qb) k58 k76 (f_gm (f_gP I46 t m pa qb) m k58))).1 by rw [f_wm2_n (by unfold f_gP; rw [q1]; rfl)]; exact ha2), (show _ = (f_wm2 (f_gP I46 t m pa qb) k58 k76 (f_gm1 (f_gP I46 t m pa qb) k58 k76 (f_gm (f_gP I46 t m pa qb) m k58))).2 by rw [f_wm2_n (by unfold f_gP; rw [q1]; rfl)]; exact hb2)⟩)
              · rw [ex97] at h100
                have q1 := kb_1.mp h100
                refine AW.aload_n dX10_game_103 rfl ?_
                refine AW.iload_n dX10_game_104 rfl ?_
                refine AW.iload dX10_game_105 rfl ?_
                refine AW.iload dX10_game_107 rfl ?_
                refine AW.callV (b := 0) (As := [.int q, .int y, .int x]) hG.2.2 (vX10_370 hG) (hM.1 0 _ rfl) (k_X10_isBestChoice hK (d := 2) (Nat.le_refl _) hXS hM hRt ht3 (by assumption) (by assumption) q y x _ _ _ (by assumption) (by assumption) (by omega) (by assumption)) (by omega) dX10_game_109 rfl rfl (Nat.le_of_ble_eq_true rfl) (fun v w9 hq9 h09 => by obtain ⟨rfl, rfl⟩ := hq9; exact ⟨h09, rfl⟩) (by decide) (by decide) (fun _ _ hx => absurd hx id) (fun v109 w109 hq109 => ?_)
                obtain ⟨rfl, rfl⟩ := hq109
                refine AW.nam (fun x109 ex109 => ?_)
                refine AW.if_eq 138 dX10_game_112 (by decide) (fun h112 => ?_) (fun h112 => ?_)
                · rw [ex109] at h112
                  have q2 := kb_0.mp h112
                  refine AW.inc (fun x138 => [some (.ref 0), some (.int p), some (.int q), some (.int wh), some (.int a2), some (.int b2), some (.int x), some (.int x138)]) dX10_game_138 rfl (by decide) rfl (fun _ => rfl) (fun x138 ex138 => ?_)
                  refine AW.goto 76 dX10_game_141 (by decide) ?_
                  exact ih76 (k76 + 1) (by omega) (by omega) _ _ _ (⟨k_inc (by assumption) hy, (show _ = (f_wm2 (f_gP I46 t m pa qb) k58 k76 (f_gm1 (f_gP I46 t m pa qb) k58 k76 (f_gm (f_gP I46 t m pa qb) m k58))).1 by rw [f_wm2_n (by unfold f_gP; rw [q1, q2]; rfl)]; exact ha2), (show _ = (f_wm2 (f_gP I46 t m pa qb) k58 k76 (f_gm1 (f_gP I46 t m pa qb) k58 k76 (f_gm (f_gP I46 t m pa qb) m k58))).2 by rw [f_wm2_n (by unfold f_gP; rw [q1, q2]; rfl)]; exact hb2)⟩)
                · rw [ex109] at h112
                  have q2 := kb_1.mp h112
                  refine AW.iload dX10_game_115 rfl ?_
                  refine AW.if_ne 131 dX10_game_117 (by decide) (fun h117 => ?_) (fun h117 => ?_)
                  · refine AW.iload dX10_game_131 rfl ?_
                    refine AW.is [some (.ref 0), some (.int p), some (.int q), some (.int wh), some (.int a2), some (.int b2), some (.int x), some (.int y)] dX10_game_133 (by decide) rfl rfl ?_
                    refine AW.inc (fun x135 => [some (.ref 0), some (.int p), some (.int q), some (.int wh), some (.int x135), some (.int b2), some (.int x), some (.int y)]) dX10_game_135 rfl (by decide) rfl (fun _ => rfl) (fun x135 ex135 => ?_)
                    refine AW.inc (fun x138 => [some (.ref 0), some (.int p), some (.int q), some (.int wh), some (.int x135), some (.int b2), some (.int x), some (.int x138)]) dX10_game_138 rfl (by decide) rfl (fun _ => rfl) (fun x138 ex138 => ?_)
                    refine AW.goto 76 dX10_game_141 (by decide) ?_
                    exact ih76 (k76 + 1) (by omega) (by omega) _ _ _ (⟨k_inc (by assumption) hy, (show _ = (f_wm2 (f_gP I46 t m pa qb) k58 k76 (f_gm1 (f_gP I46 t m pa qb) k58 k76 (f_gm (f_gP I46 t m pa qb) m k58))).1 by rw [f_wm2_1 (by unfold f_gP; rw [q1, q2]; rfl) (fun h => h117 (ha2.trans h)), ex135, ha2]; rfl), (show _ = (f_wm2 (f_gP I46 t m pa qb) k58 k76 (f_gm1 (f_gP I46 t m pa qb) k58 k76 (f_gm (f_gP I46 t m pa qb) m k58))).2 by rw [f_wm2_1 (by unfold f_gP; rw [q1, q2]; rfl) (fun h => h117 (ha2.trans h))]; exact hb2)⟩)
                  · refine AW.bipush 10 dX10_game_120 (by decide) ?_
                    refine AW.iload dX10_game_122 rfl ?_
                    refine AW.imul dX10_game_124 ?_
                    refine AW.iload dX10_game_125 rfl ?_
                    refine AW.iadd dX10_game_127 ?_
                    refine AW.goto 133 dX10_game_128 (by decide) ?_
                    refine AW.nam (fun x133 ex133 => ?_)
                    refine AW.is [some (.ref 0), some (.int p), some (.int q), some (.int wh), some (.int a2), some (.int x133), some (.int x), some (.int y)] dX10_game_133 (by decide) rfl rfl ?_
                    refine AW.inc (fun x135 => [some (.ref 0), some (.int p), some (.int q), some (.int wh), some (.int x135), some (.int x133), some (.int x), some (.int y)]) dX10_game_135 rfl (by decide) rfl (fun _ => rfl) (fun x135 ex135 => ?_)
                    refine AW.inc (fun x138 => [some (.ref 0), some (.int p), some (.int q), some (.int wh), some (.int x135), some (.int x133), some (.int x), some (.int x138)]) dX10_game_138 rfl (by decide) rfl (fun _ => rfl) (fun x138 ex138 => ?_)
                    refine AW.goto 76 dX10_game_141 (by decide) ?_
                    exact ih76 (k76 + 1) (by omega) (by omega) _ _ _ (⟨k_inc (by assumption) hy, (show _ = (f_wm2 (f_gP I46 t m pa qb) k58 k76 (f_gm1 (f_gP I46 t m pa qb) k58 k76 (f_gm (f_gP I46 t m pa qb) m k58))).1 by rw [f_wm2_0 (by unfold f_gP; rw [q1, q2]; rfl) (ha2.symm.trans h117), ex135, ha2]; rfl), (show _ = (f_wm2 (f_gP I46 t m pa qb) k58 k76 (f_gm1 (f_gP I46 t m pa qb) k58 k76 (f_gm (f_gP I46 t m pa qb) m k58))).2 by rw [f_wm2_0 (by unfold f_gP; rw [q1, q2]; rfl) (ha2.symm.trans h117), ex133, hx, hy])⟩)
          exact L76 0 (by omega) _ _ _ (⟨nI_0.symm, ha, hb⟩)
      exact L58 0 (by omega) _ _ _ (⟨nI_0.symm, rfl, rfl⟩)
    · exact AW.throwS (hXS.2 220 (by decide)) dX10_game_35 dX10_game_38 dX10_game_39 dX10_game_41 dX10_game_44 (by omega) (Nat.le_of_ble_eq_true rfl) (by decide) (by decide) hg (⟨rfl, Or.inr ⟨rfl, his2, his7, hw, h32⟩⟩)
  · refine AW.iload_n dX10_game_14 rfl ?_
    refine AW.iconst 1 dX10_game_15 (by decide) ?_
    refine AW.icmp_eq 30 dX10_game_16 (by decide) (fun h16 => ?_) (fun h16 => ?_)
    · have hw : wh = 0 ∨ wh = 1 := Or.inr h16
      refine AW.iload_n dX10_game_30 rfl ?_
      refine AW.iload_n dX10_game_31 rfl ?_
      refine AW.icmp_ne 45 dX10_game_32 (by decide) (fun h32 => ?_) (fun h32 => ?_)
      · refine AW.aload_n dX10_game_45 rfl ?_
        refine AW.callV (b := 0) (As := []) hG.2.2 (vX10_147 hG) (hM.1 0 _ rfl) (k_X10_lookAround hK (d := 3) (Nat.le_refl _) hXS hM hRt ht3 (by assumption) (by assumption) (by assumption) (by assumption)) (by omega) dX10_game_46 rfl rfl (Nat.le_of_ble_eq_true rfl) (fun v w9 hq9 h09 => by obtain ⟨rfl, rfl⟩ := hq9; exact ⟨h09, rfl⟩) (by decide) (by decide) (fun _ _ hx => absurd hx id) (fun v46 w46 hq46 => ?_)
        obtain ⟨rfl, rfl⟩ := hq46
        refine AW.namI (fun I46 eI46 => ?_)
        show AW G pX10_game d (fun v w => ∃ pa qb, pa < n ∧ qb < n ∧ p = nI pa ∧ q = nI qb ∧ ¬ p = q ∧ (wh = 0 ∨ wh = 1) ∧ v = some (.int (if wh = 0 then (f_gm (f_gP (f_look I 90 t 47 n m) t m pa qb) m m).1 else (f_gm (f_gP (f_look I 90 t 47 n m) t m pa qb) m m).2)) ∧ w = (sh, f_look I 90 t 47 n m, R, L, g)) (fun E w => w = (sh, I, R, L, g) ∧ ((E = "java/util/NoSuchElementException" ∧ ¬ (k_is p n ∧ k_is q n ∧ (wh = 0 ∨ wh = 1))) ∨ (E = "java/lang/IllegalArgumentException" ∧ k_is p n ∧ k_is q n ∧ (wh = 0 ∨ wh = 1) ∧ p = q))) 49 [some (.ref 0), some (.int p), some (.int q), some (.int wh), none, none, none, none] [] (sh, I46, R, L, g) 2 12
        have hJn : I46 t 0 = nI n := by rw [eI46, f_look_K _ _ _ _ (by omega) (by omega)]; exact hn
        have hJm : I46 (t + 8) 0 = nI m := by rw [eI46, f_look_K _ _ _ _ (by omega) (by omega)]; exact hm
        refine AW.iconst 0 dX10_game_49 (by decide) ?_
        refine AW.is [some (.ref 0), some (.int p), some (.int q), some (.int wh), some (.int 0), none, none, none] dX10_game_50 (by decide) rfl rfl ?_
        refine AW.iconst (-1) dX10_game_52 (by decide) ?_
        refine AW.is [some (.ref 0), some (.int p), some (.int q), some (.int wh), some (.int 0), some (.int (-1)), none, none] dX10_game_53 (by decide) rfl rfl ?_
        refine AW.iconst 0 dX10_game_55 (by decide) ?_
        refine AW.is [some (.ref 0), some (.int p), some (.int q), some (.int wh), some (.int 0), some (.int (-1)), some (.int 0), none] dX10_game_56 (by decide) rfl rfl ?_
        have L58 : ∀ k58, k58 ≤ m → ∀ (a b x : Int32), (x = nI k58 ∧ a = (f_gm (f_gP I46 t m pa qb) m k58).1 ∧ b = (f_gm (f_gP I46 t m pa qb) m k58).2) → AW G pX10_game d (fun v w => ∃ pa qb, pa < n ∧ qb < n ∧ p = nI pa ∧ q = nI qb ∧ ¬ p = q ∧ (wh = 0 ∨ wh = 1) ∧ v = some (.int (if wh = 0 then (f_gm (f_gP (f_look I 90 t 47 n m) t m pa qb) m m).1 else (f_gm (f_gP (f_look I 90 t 47 n m) t m pa qb) m m).2)) ∧ w = (sh, f_look I 90 t 47 n m, R, L, g)) (fun E w => w = (sh, I, R, L, g) ∧ ((E = "java/util/NoSuchElementException" ∧ ¬ (k_is p n ∧ k_is q n ∧ (wh = 0 ∨ wh = 1))) ∨ (E = "java/lang/IllegalArgumentException" ∧ k_is p n ∧ k_is q n ∧ (wh = 0 ∨ wh = 1) ∧ p = q))) 58 [some (.ref 0), some (.int p), some (.int q), some (.int wh), some (.int a), some (.int b), some (.int x), none] [] (sh, I46, R, L, g) 2 12 := by
          refine am_rec m (fun k58 hk58 ih58 => ?_)
          intro a b x hi58
          obtain ⟨hx, ha, hb⟩ := hi58
          refine AW.iload dX10_game_58 rfl ?_
          refine AW.aload_n dX10_game_60 rfl ?_
          refine AW.getR (fX10_19 hG).r rfl (hM.1 0 _ rfl) hRt dX10_game_61 ?_
          refine AW.getR (c' := (t + 8)) (fX10_122 hG) rfl (ht.1 0 _ rfl) (ht.2 (0, 11, 8) (by decide)) dX10_game_64 ?_
          refine AW.getI (fX10_126 hG).r rfl (ht.1 8 _ rfl) dX10_game_67 ?_
          refine AW.icmp_ge 150 dX10_game_70 (by decide) (fun h70 => ?_) (fun h70 => ?_)
          · have hke := k_ge h70 hx hJm hk58 (by omega)
            rw [hke] at ha hb
            refine AW.iload_n dX10_game_150 rfl ?_
            refine AW.if_ne 159 dX10_game_151 (by decide) (fun h151 => ?_) (fun h151 => ?_)
            · refine AW.iload dX10_game_159 rfl ?_
              exact AW.iret dX10_game_161 rfl (by decide) (by decide) (⟨pa, qb, hpa, hqb, hpe, hqe, h32, hw, by rw [if_neg h151, hb, eI46], by rw [eI46]⟩)
            · refine AW.iload dX10_game_154 rfl ?_
              refine AW.goto 161 dX10_game_156 (by decide) ?_
              exact AW.iret dX10_game_161 rfl (by decide) (by decide) (⟨pa, qb, hpa, hqb, hpe, hqe, h32, hw, by rw [if_pos h151, ha, eI46], by rw [eI46]⟩)
          · have hlt := k_lt h70 hx hJm hk58 (by omega)
            refine AW.iconst 0 dX10_game_73 (by decide) ?_
            refine AW.is [some (.ref 0), some (.int p), some (.int q), some (.int wh), some (.int a), some (.int b), some (.int x), some (.int 0)] dX10_game_74 (by decide) rfl rfl ?_
            have L76 : ∀ k76, k76 ≤ m → ∀ (a2 b2 y : Int32), (y = nI k76 ∧ a2 = (f_gm1 (f_gP I46 t m pa qb) k58 k76 (f_gm (f_gP I46 t m pa qb) m k58)).1 ∧ b2 = (f_gm1 (f_gP I46 t m pa qb) k58 k76 (f_gm (f_gP I46 t m pa qb) m k58)).2) → AW G pX10_game d (fun v w => ∃ pa qb, pa < n ∧ qb < n ∧ p = nI pa ∧ q = nI qb ∧ ¬ p = q ∧ (wh = 0 ∨ wh = 1) ∧ v = some (.int (if wh = 0 then (f_gm (f_gP (f_look I 90 t 47 n m) t m pa qb) m m).1 else (f_gm (f_gP (f_look I 90 t 47 n m) t m pa qb) m m).2)) ∧ w = (sh, f_look I 90 t 47 n m, R, L, g)) (fun E w => w = (sh, I, R, L, g) ∧ ((E = "java/util/NoSuchElementException" ∧ ¬ (k_is p n ∧ k_is q n ∧ (wh = 0 ∨ wh = 1))) ∨ (E = "java/lang/IllegalArgumentException" ∧ k_is p n ∧ k_is q n ∧ (wh = 0 ∨ wh = 1) ∧ p = q))) 76 [some (.ref 0), some (.int p), some (.int q), some (.int wh), some (.int a2), some (.int b2), some (.int x), some (.int y)] [] (sh, I46, R, L, g) 2 12 := by
              refine am_rec m (fun k76 hk76 ih76 => ?_)
              intro a2 b2 y hi76
              obtain ⟨hy, ha2, hb2⟩ := hi76
              refine AW.iload dX10_game_76 rfl ?_
              refine AW.aload_n dX10_game_78 rfl ?_
              refine AW.getR (fX10_19 hG).r rfl (hM.1 0 _ rfl) hRt dX10_game_79 ?_
              refine AW.getR (c' := (t + 8)) (fX10_122 hG) rfl (ht.1 0 _ rfl) (ht.2 (0, 11, 8) (by decide)) dX10_game_82 ?_
              refine AW.getI (fX10_126 hG).r rfl (ht.1 8 _ rfl) dX10_game_85 ?_
              refine AW.icmp_ge 144 dX10_game_88 (by decide) (fun h88 => ?_) (fun h88 => ?_)
              · have hke := k_ge h88 hy hJm hk76 (by omega)
                refine AW.inc (fun x144 => [some (.ref 0), some (.int p), some (.int q), some (.int wh), some (.int a2), some (.int b2), some (.int x144), some (.int y)]) dX10_game_144 rfl (by decide) rfl (fun _ => rfl) (fun x144 ex144 => ?_)
                refine AW.goto 58 dX10_game_147 (by decide) ?_
                refine AW.mask [7] [some (.ref 0), some (.int p), some (.int q), some (.int wh), some (.int a2), some (.int b2), some (.int x144), none] rfl ?_
                exact ih58 (k58 + 1) (by omega) (by omega) _ _ _ (⟨k_inc (by assumption) hx, by rw [ha2, hke]; rfl, by rw [hb2, hke]; rfl⟩)
              · have hlt2 := k_lt h88 hy hJm hk76 (by omega)
                refine AW.aload_n dX10_game_91 rfl ?_
                refine AW.iload_n dX10_game_92 rfl ?_
                refine AW.iload dX10_game_93 rfl ?_
                refine AW.iload dX10_game_95 rfl ?_
                refine AW.callV (b := 0) (As := [.int p, .int x, .int y]) hG.2.2 (vX10_370 hG) (hM.1 0 _ rfl) (k_X10_isBestChoice hK (d := 2) (Nat.le_refl _) hXS hM hRt ht3 (by assumption) (by assumption) p x y _ _ _ (by assumption) (by assumption) (by omega) (by assumption)) (by omega) dX10_game_97 rfl rfl (Nat.le_of_ble_eq_true rfl) (fun v w9 hq9 h09 => by obtain ⟨rfl, rfl⟩ := hq9; exact ⟨h09, rfl⟩) (by decide) (by decide) (fun _ _ hx => absurd hx id) (fun v97 w97 hq97 => ?_)
                obtain ⟨rfl, rfl⟩ := hq97
                refine AW.nam (fun x97 ex97 => ?_)
                refine AW.if_eq 138 dX10_game_100 (by decide) (fun h100 => ?_) (fun h100 => ?_)
                · rw [ex97] at h100
                  have q1 := kb_0.mp h100
                  refine AW.inc (fun x138 => [some (.ref 0), some (.int p), some (.int q), some (.int wh), some (.int a2), some (.int b2), some (.int x), some (.int x138)]) dX10_game_138 rfl (by decide) rfl (fun _ => rfl) (fun x138 ex138 => ?_)
                  refine AW.goto 76 dX10_game_141 (by decide) ?_
                  exact ih76 (k76 + 1) (by omega) (by omega) _ _ _ (⟨k_inc (by assumption) hy, (show _ = (f_wm2 (f_gP I46 t m pa qb) k58 k76 (f_gm1 (f_gP I46 t m pa qb) k58 k76 (f_gm (f_gP I46 t m pa qb) m k58))).1 by rw [f_wm2_n (by unfold f_gP; rw [q1]; rfl)]; exact ha2), (show _ = (f_wm2 (f_gP I46 t m pa qb) k58 k76 (f_gm1 (f_gP I46 t m pa qb) k58 k76 (f_gm (f_gP I46 t m pa qb) m k58))).2 by rw [f_wm2_n (by unfold f_gP; rw [q1]; rfl)]; exact hb2)⟩)
                · rw [ex97] at h100
                  have q1 := kb_1.mp h100
                  refine AW.aload_n dX10_game_103 rfl ?_
                  refine AW.iload_n dX10_game_104 rfl ?_
                  refine AW.iload dX10_game_105 rfl ?_
                  refine AW.iload dX10_game_107 rfl ?_
                  refine AW.callV (b := 0) (As := [.int q, .int y, .int x]) hG.2.2 (vX10_370 hG) (hM.1 0 _ rfl) (k_X10_isBestChoice hK (d := 2) (Nat.le_refl _) hXS hM hRt ht3 (by assumption) (by assumption) q y x _ _ _ (by assumption) (by assumption) (by omega) (by assumption)) (by omega) dX10_game_109 rfl rfl (Nat.le_of_ble_eq_true rfl) (fun v w9 hq9 h09 => by obtain ⟨rfl, rfl⟩ := hq9; exact ⟨h09, rfl⟩) (by decide) (by decide) (fun _ _ hx => absurd hx id) (fun v109 w109 hq109 => ?_)
                  obtain ⟨rfl, rfl⟩ := hq109
                  refine AW.nam (fun x109 ex109 => ?_)
                  refine AW.if_eq 138 dX10_game_112 (by decide) (fun h112 => ?_) (fun h112 => ?_)
                  · rw [ex109] at h112
                    have q2 := kb_0.mp h112
                    refine AW.inc (fun x138 => [some (.ref 0), some (.int p), some (.int q), some (.int wh), some (.int a2), some (.int b2), some (.int x), some (.int x138)]) dX10_game_138 rfl (by decide) rfl (fun _ => rfl) (fun x138 ex138 => ?_)
                    refine AW.goto 76 dX10_game_141 (by decide) ?_
                    exact ih76 (k76 + 1) (by omega) (by omega) _ _ _ (⟨k_inc (by assumption) hy, (show _ = (f_wm2 (f_gP I46 t m pa qb) k58 k76 (f_gm1 (f_gP I46 t m pa qb) k58 k76 (f_gm (f_gP I46 t m pa qb) m k58))).1 by rw [f_wm2_n (by unfold f_gP; rw [q1, q2]; rfl)]; exact ha2), (show _ = (f_wm2 (f_gP I46 t m pa qb) k58 k76 (f_gm1 (f_gP I46 t m pa qb) k58 k76 (f_gm (f_gP I46 t m pa qb) m k58))).2 by rw [f_wm2_n (by unfold f_gP; rw [q1, q2]; rfl)]; exact hb2)⟩)
                  · rw [ex109] at h112
                    have q2 := kb_1.mp h112
                    refine AW.iload dX10_game_115 rfl ?_
                    refine AW.if_ne 131 dX10_game_117 (by decide) (fun h117 => ?_) (fun h117 => ?_)
                    · refine AW.iload dX10_game_131 rfl ?_
                      refine AW.is [some (.ref 0), some (.int p), some (.int q), some (.int wh), some (.int a2), some (.int b2), some (.int x), some (.int y)] dX10_game_133 (by decide) rfl rfl ?_
                      refine AW.inc (fun x135 => [some (.ref 0), some (.int p), some (.int q), some (.int wh), some (.int x135), some (.int b2), some (.int x), some (.int y)]) dX10_game_135 rfl (by decide) rfl (fun _ => rfl) (fun x135 ex135 => ?_)
                      refine AW.inc (fun x138 => [some (.ref 0), some (.int p), some (.int q), some (.int wh), some (.int x135), some (.int b2), some (.int x), some (.int x138)]) dX10_game_138 rfl (by decide) rfl (fun _ => rfl) (fun x138 ex138 => ?_)
                      refine AW.goto 76 dX10_game_141 (by decide) ?_
                      exact ih76 (k76 + 1) (by omega) (by omega) _ _ _ (⟨k_inc (by assumption) hy, (show _ = (f_wm2 (f_gP I46 t m pa qb) k58 k76 (f_gm1 (f_gP I46 t m pa qb) k58 k76 (f_gm (f_gP I46 t m pa qb) m k58))).1 by rw [f_wm2_1 (by unfold f_gP; rw [q1, q2]; rfl) (fun h => h117 (ha2.trans h)), ex135, ha2]; rfl), (show _ = (f_wm2 (f_gP I46 t m pa qb) k58 k76 (f_gm1 (f_gP I46 t m pa qb) k58 k76 (f_gm (f_gP I46 t m pa qb) m k58))).2 by rw [f_wm2_1 (by unfold f_gP; rw [q1, q2]; rfl) (fun h => h117 (ha2.trans h))]; exact hb2)⟩)
                    · refine AW.bipush 10 dX10_game_120 (by decide) ?_
                      refine AW.iload dX10_game_122 rfl ?_
                      refine AW.imul dX10_game_124 ?_
                      refine AW.iload dX10_game_125 rfl ?_
                      refine AW.iadd dX10_game_127 ?_
                      refine AW.goto 133 dX10_game_128 (by decide) ?_
                      refine AW.nam (fun x133 ex133 => ?_)
                      refine AW.is [some (.ref 0), some (.int p), some (.int q), some (.int wh), some (.int a2), some (.int x133), some (.int x), some (.int y)] dX10_game_133 (by decide) rfl rfl ?_
                      refine AW.inc (fun x135 => [some (.ref 0), some (.int p), some (.int q), some (.int wh), some (.int x135), some (.int x133), some (.int x), some (.int y)]) dX10_game_135 rfl (by decide) rfl (fun _ => rfl) (fun x135 ex135 => ?_)
                      refine AW.inc (fun x138 => [some (.ref 0), some (.int p), some (.int q), some (.int wh), some (.int x135), some (.int x133), some (.int x), some (.int x138)]) dX10_game_138 rfl (by decide) rfl (fun _ => rfl) (fun x138 ex138 => ?_)
                      refine AW.goto 76 dX10_game_141 (by decide) ?_
                      exact ih76 (k76 + 1) (by omega) (by omega) _ _ _ (⟨k_inc (by assumption) hy, (show _ = (f_wm2 (f_gP I46 t m pa qb) k58 k76 (f_gm1 (f_gP I46 t m pa qb) k58 k76 (f_gm (f_gP I46 t m pa qb) m k58))).1 by rw [f_wm2_0 (by unfold f_gP; rw [q1, q2]; rfl) (ha2.symm.trans h117), ex135, ha2]; rfl), (show _ = (f_wm2 (f_gP I46 t m pa qb) k58 k76 (f_gm1 (f_gP I46 t m pa qb) k58 k76 (f_gm (f_gP I46 t m pa qb) m k58))).2 by rw [f_wm2_0 (by unfold f_gP; rw [q1, q2]; rfl) (ha2.symm.trans h117), ex133, hx, hy])⟩)
            exact L76 0 (by omega) _ _ _ (⟨nI_0.symm, ha, hb⟩)
        exact L58 0 (by omega) _ _ _ (⟨nI_0.symm, rfl, rfl⟩)
      · exact AW.throwS (hXS.2 220 (by decide)) dX10_game_35 dX10_game_38 dX10_game_39 dX10_game_41 dX10_game_44 (by omega) (Nat.le_of_ble_eq_true rfl) (by decide) (by decide) hg (⟨rfl, Or.inr ⟨rfl, his2, his7, hw, h32⟩⟩)
    · exact AW.throwNW (hXS.1 368 (by decide)) dX10_game_19 dX10_game_22 dX10_game_23 dX10_game_26 dX10_game_29 (by omega) (Nat.le_of_ble_eq_true rfl) (by decide) (by decide) hg (⟨rfl, Or.inl ⟨rfl, fun h => by rcases h.2.2 with h | h; exact h11 h; exact h16 h⟩⟩)
/-- the first that passes a test -/
def lfst (P : Nat → Bool) : Nat → Option Nat
  | 0 => none
  | k + 1 => match lfst P k with
    | some j => some j
    | none => if P k then some k else none
theorem lfst_s {P : Nat → Bool} {k j n : Nat} (h : lfst P k = some j) (hn : k ≤ n) : lfst P n = some j := by
  induction n with
  | zero => have : k = 0 := by omega
            subst this; exact h
  | succ n ih =>
    rcases Nat.lt_or_ge n k with h1 | h1
    · have : k = n + 1 := by omega
      subst this; exact h
    · simp only [lfst, ih h1]
theorem lfst_1 {P : Nat → Bool} {k : Nat} (h : lfst P k = none) (hp : P k = true) : lfst P (k + 1) = some k := by simp only [lfst, h, hp, if_true]
theorem lfst_0 {P : Nat → Bool} {k : Nat} (h : lfst P k = none) (hp : P k = false) : lfst P (k + 1) = none := by simp [lfst, h, hp]
def f_se (Q : Nat → Nat → Bool) (n N : Nat) : Int32 := match lfst (fun c => (lfst (Q (n - c)) N).isSome) (n - 1) with
  | none => -1
  | some c => match lfst (Q (n - c)) N with
    | none => -1
    | some s => nI s
def f_sQ (I : Nat → Nat → Int32) (t n m : Nat) (cb : Int32) (j s : Nat) : Bool := decide (¬ s = 0) && (decide (f_bc (nI s) = nI j) && f_lc (I (t + 1)) (I (t + 4)) (I 91) (I 92) (I (t + 14)) (nI s) cb n m)
theorem dX10_safe_0 : decode cX10_safe 0 = .ok (.aload_n 0, 1) := by decide +kernel
theorem dX10_safe_1 : decode cX10_safe 1 = .ok (.invokevirtual 147, 3) := by decide +kernel
theorem dX10_safe_4 : decode cX10_safe 4 = .ok (.aload_n 0, 1) := by decide +kernel
theorem dX10_safe_5 : decode cX10_safe 5 = .ok (.invokevirtual 294, 3) := by decide +kernel
theorem dX10_safe_8 : decode cX10_safe 8 = .ok (.istore_n 1, 1) := by decide +kernel
theorem dX10_safe_9 : decode cX10_safe 9 = .ok (.aload_n 0, 1) := by decide +kernel
theorem dX10_safe_10 : decode cX10_safe 10 = .ok (.getfield 19, 3) := by decide +kernel
theorem dX10_safe_13 : decode cX10_safe 13 = .ok (.invokevirtual 258, 3) := by decide +kernel
theorem dX10_safe_16 : decode cX10_safe 16 = .ok (.istore_n 2, 1) := by decide +kernel
theorem dX10_safe_17 : decode cX10_safe 17 = .ok (.aload_n 0, 1) := by decide +kernel
theorem dX10_safe_18 : decode cX10_safe 18 = .ok (.getfield 19, 3) := by decide +kernel
theorem dX10_safe_21 : decode cX10_safe 21 = .ok (.getfield 119, 3) := by decide +kernel
theorem dX10_safe_24 : decode cX10_safe 24 = .ok (.istore_n 3, 1) := by decide +kernel
theorem dX10_safe_25 : decode cX10_safe 25 = .ok (.iload_n 3, 1) := by decide +kernel
theorem dX10_safe_26 : decode cX10_safe 26 = .ok (.iconst 2, 1) := by decide +kernel
theorem dX10_safe_27 : decode cX10_safe 27 = .ok (.if_icmp .lt 46, 3) := by decide +kernel
theorem dX10_safe_30 : decode cX10_safe 30 = .ok (.iconst 1, 1) := by decide +kernel
theorem dX10_safe_31 : decode cX10_safe 31 = .ok (.istore 4, 2) := by decide +kernel
theorem dX10_safe_33 : decode cX10_safe 33 = .ok (.iload 4, 2) := by decide +kernel
theorem dX10_safe_35 : decode cX10_safe 35 = .ok (.iload_n 2, 1) := by decide +kernel
theorem dX10_safe_36 : decode cX10_safe 36 = .ok (.if_icmp .gt 31, 3) := by decide +kernel
theorem dX10_safe_39 : decode cX10_safe 39 = .ok (.iload 4, 2) := by decide +kernel
theorem dX10_safe_41 : decode cX10_safe 41 = .ok (.invokestatic 253, 3) := by decide +kernel
theorem dX10_safe_44 : decode cX10_safe 44 = .ok (.iload_n 3, 1) := by decide +kernel
theorem dX10_safe_45 : decode cX10_safe 45 = .ok (.if_icmp .ne 16, 3) := by decide +kernel
theorem dX10_safe_48 : decode cX10_safe 48 = .ok (.aload_n 0, 1) := by decide +kernel
theorem dX10_safe_49 : decode cX10_safe 49 = .ok (.iload 4, 2) := by decide +kernel
theorem dX10_safe_51 : decode cX10_safe 51 = .ok (.iload_n 1, 1) := by decide +kernel
theorem dX10_safe_52 : decode cX10_safe 52 = .ok (.invokevirtual 297, 3) := by decide +kernel
theorem dX10_safe_55 : decode cX10_safe 55 = .ok (.ifCond .eq 6, 3) := by decide +kernel
theorem dX10_safe_58 : decode cX10_safe 58 = .ok (.iload 4, 2) := by decide +kernel
theorem dX10_safe_60 : decode cX10_safe 60 = .ok (.ireturn, 1) := by decide +kernel
theorem dX10_safe_61 : decode cX10_safe 61 = .ok (.iinc 4 1, 3) := by decide +kernel
theorem dX10_safe_64 : decode cX10_safe 64 = .ok (.goto (-31), 3) := by decide +kernel
theorem dX10_safe_67 : decode cX10_safe 67 = .ok (.iinc 3 (-1), 3) := by decide +kernel
theorem dX10_safe_70 : decode cX10_safe 70 = .ok (.goto (-45), 3) := by decide +kernel
theorem dX10_safe_73 : decode cX10_safe 73 = .ok (.iconst (-1), 1) := by decide +kernel
theorem dX10_safe_74 : decode cX10_safe 74 = .ok (.ireturn, 1) := by decide +kernel
set_option maxRecDepth 100000 in
set_option maxHeartbeats 4000000 in
theorem k_X10_safe {G : am_G} (hK : k_OK G) {d : Nat} (hd : 8 ≤ d) {sh : List (Nat ⊕ (Nat × Nat))} {I : Nat → Nat → Int32} {R : Nat → Nat → Option Nat} {L : Nat → Nat → Int64} {g : Nat} (hXS : k_XS G) {t : Nat} (hM : k_Main sh R) (hRt : R 0 1 = some t) (ht3 : t = 3 ∨ t = 22) {n m : Nat} (hn : I t 0 = nI n) (hn8 : n ≤ 8) (hm : I (t + 8) 0 = nI m) (hm6 : m ≤ 6) : AM G mX10_safe d [.ref 0] (sh, I, R, L, g) (fun v w => v = some (.int (f_se (f_sQ (f_look I 90 t 47 n m) t n m (f_cb (I 49) ((f_look I 90 t 47 n m) 92) m)) n (2 ^ n))) ∧ w = (sh, f_look I 90 t 47 n m, R, L, g)) (fun _ _ => False) := by
  have hG := hK.1
  have ht : k_Town sh R t := by rcases ht3 with rfl | rfl; exact kM_3 hM; exact kM_22 hM
  have o41 := kM_41 hM
  have o42 := kM_42 hM
  have o43 := kM_43 hM
  have o47 := kM_47 hM
  have o60 := kM_60 hM
  have o90 := kM_90 hM
  have o93 := kM_93 hM
  have o97 := kM_97 hM
  have o79 := kM_79 hM
  have o1 := kM_1 hM
  refine AM.of (n := 4) (by decide +kernel) (Nat.le_of_ble_eq_true rfl) ?_
  show AW G mX10_safe d (fun v w => v = some (.int (f_se (f_sQ (f_look I 90 t 47 n m) t n m (f_cb (I 49) ((f_look I 90 t 47 n m) 92) m)) n (2 ^ n))) ∧ w = (sh, f_look I 90 t 47 n m, R, L, g)) (fun _ _ => False) 0 [some (.ref 0), none, none, none, none] [] (sh, I, R, L, g) 0 0
  refine AW.aload_n dX10_safe_0 rfl ?_
  refine AW.callV (b := 0) (As := []) hG.2.2 (vX10_147 hG) (hM.1 0 _ rfl) (k_X10_lookAround hK (d := 3) (Nat.le_refl _) hXS hM hRt ht3 (by assumption) (by assumption) (by assumption) (by assumption)) (by omega) dX10_safe_1 rfl rfl (Nat.le_of_ble_eq_true rfl) (fun v w9 hq9 h09 => by obtain ⟨rfl, rfl⟩ := hq9; exact ⟨h09, rfl⟩) (by decide) (by decide) (fun _ _ hx => hx) (fun v1 w1 hq1 => ?_)
  obtain ⟨rfl, rfl⟩ := hq1
  refine AW.namI (fun I1 eI1 => ?_)
  show AW G mX10_safe d (fun v w => v = some (.int (f_se (f_sQ (f_look I 90 t 47 n m) t n m (f_cb (I 49) ((f_look I 90 t 47 n m) 92) m)) n (2 ^ n))) ∧ w = (sh, f_look I 90 t 47 n m, R, L, g)) (fun _ _ => False) 4 [some (.ref 0), none, none, none, none] [] (sh, I1, R, L, g) 0 0
  have hJn : I1 t 0 = nI n := by rw [eI1, f_look_K _ _ _ _ (by omega) (by omega)]; exact hn
  have hJm : I1 (t + 8) 0 = nI m := by rw [eI1, f_look_K _ _ _ _ (by omega) (by omega)]; exact hm
  have q49 : I1 49 = I 49 := by rw [eI1, f_look_K _ _ _ _ (by omega) (by omega)]
  refine AW.aload_n dX10_safe_4 rfl ?_
  refine AW.callV (b := 0) (As := []) hG.2.2 (vX10_294 hG) (hM.1 0 _ rfl) (k_X10_cuttableLoaves hK (d := 0) (Nat.le_refl _) hXS hM hRt ht3 (by assumption) (by assumption)) (by omega) dX10_safe_5 rfl rfl (Nat.le_of_ble_eq_true rfl) (fun v w9 hq9 h09 => by obtain ⟨rfl, rfl⟩ := hq9; exact ⟨h09, rfl⟩) (by decide) (by decide) (fun _ _ hx => hx) (fun v5 w5 hq5 => ?_)
  obtain ⟨rfl, rfl⟩ := hq5
  refine AW.nam (fun x5 ex5 => ?_)
  rw [q49] at ex5
  refine AW.is_n [some (.ref 0), some (.int x5), none, none, none] dX10_safe_8 (by decide) rfl rfl ?_
  refine AW.aload_n dX10_safe_9 rfl ?_
  refine AW.getR (fX10_19 hG).r rfl (hM.1 0 _ rfl) hRt dX10_safe_10 ?_
  refine AW.callV (b := t) (As := []) hG.2.2 (vX10_258 hG) (ht.1 0 _ rfl) (k_X9_allPeople hK (d := 0) (Nat.le_refl _) ht) (by omega) dX10_safe_13 rfl rfl (Nat.le_of_ble_eq_true rfl) (fun v w9 hq9 h09 => by obtain ⟨rfl, rfl⟩ := hq9; exact ⟨h09, rfl⟩) (by decide) (by decide) (fun _ _ hx => hx) (fun v13 w13 hq13 => ?_)
  obtain ⟨rfl, rfl⟩ := hq13
  refine AW.nam (fun x13 ex13 => ?_)
  have hal : x13 = nI (2 ^ n - 1) := by rw [ex13, hJn]; exact k_all (by omega)
  have hpw := k_pow1 (n := n) (by omega)
  refine AW.is_n [some (.ref 0), some (.int x5), some (.int x13), none, none] dX10_safe_16 (by decide) rfl rfl ?_
  refine AW.aload_n dX10_safe_17 rfl ?_
  refine AW.getR (fX10_19 hG).r rfl (hM.1 0 _ rfl) hRt dX10_safe_18 ?_
  refine AW.getI (fX10_119 hG).r rfl (ht.1 0 _ rfl) dX10_safe_21 ?_
  refine AW.nam (fun x24 ex24 => ?_)
  refine AW.is_n [some (.ref 0), some (.int x5), some (.int x13), some (.int x24), none] dX10_safe_24 (by decide) rfl rfl ?_
  have L25 : ∀ k25, k25 ≤ (n - 1) → ∀ (z : Int32), (z = nI (n - k25) ∧ lfst (fun c => (lfst ((f_sQ I1 t n m x5) (n - c)) (2 ^ n)).isSome) k25 = none) → AW G mX10_safe d (fun v w => v = some (.int (f_se (f_sQ (f_look I 90 t 47 n m) t n m (f_cb (I 49) ((f_look I 90 t 47 n m) 92) m)) n (2 ^ n))) ∧ w = (sh, f_look I 90 t 47 n m, R, L, g)) (fun _ _ => False) 25 [some (.ref 0), some (.int x5), some (.int x13), some (.int z), none] [] (sh, I1, R, L, g) 0 0 := by
    refine am_rec ((n - 1)) (fun k25 hk25 ih25 => ?_)
    intro z hi25
    obtain ⟨hz, ha⟩ := hi25
    refine AW.iload_n dX10_safe_25 rfl ?_
    refine AW.iconst 2 dX10_safe_26 (by decide) ?_
    refine AW.icmp_lt 73 dX10_safe_27 (by decide) (fun h27 => ?_) (fun h27 => ?_)
    · have hke : k25 = n - 1 := by
        rcases Nat.lt_or_ge k25 (n - 1) with h | h
        · exact absurd ((nI_ltl hz (m := 2) rfl (by omega) (by decide)).mp h27) (by omega)
        · omega
      rw [hke] at ha
      refine AW.iconst (-1) dX10_safe_73 (by decide) ?_
      exact AW.iret dX10_safe_74 rfl (by decide) (by decide) (⟨by rw [← eI1, ← ex5]; unfold f_se; rw [ha], by rw [eI1]⟩)
    · have hlt : k25 < n - 1 := by
        rcases Nat.lt_or_ge k25 (n - 1) with h | h
        · exact h
        · exact absurd ((nI_ltl hz (m := 2) rfl (by omega) (by decide)).mpr (by omega)) h27
      refine AW.iconst 1 dX10_safe_30 (by decide) ?_
      refine AW.is [some (.ref 0), some (.int x5), some (.int x13), some (.int z), some (.int 1)] dX10_safe_31 (by decide) rfl rfl ?_
      have L33 : ∀ k33, k33 ≤ (2 ^ n) → ∀ (x : Int32), (1 ≤ k33 ∧ x = nI k33 ∧ lfst ((f_sQ I1 t n m x5) (n - k25)) k33 = none) → AW G mX10_safe d (fun v w => v = some (.int (f_se (f_sQ (f_look I 90 t 47 n m) t n m (f_cb (I 49) ((f_look I 90 t 47 n m) 92) m)) n (2 ^ n))) ∧ w = (sh, f_look I 90 t 47 n m, R, L, g)) (fun _ _ => False) 33 [some (.ref 0), some (.int x5), some (.int x13), some (.int z), some (.int x)] [] (sh, I1, R, L, g) 0 0 := by
        refine am_rec ((2 ^ n)) (fun k33 hk33 ih33 => ?_)
        intro x hi33
        obtain ⟨h1k, hx, ha2⟩ := hi33
        refine AW.iload dX10_safe_33 rfl ?_
        refine AW.iload_n dX10_safe_35 rfl ?_
        refine AW.icmp_gt 67 dX10_safe_36 (by decide) (fun h36 => ?_) (fun h36 => ?_)
        · rw [hx, hal] at h36
          have hke : k33 = 2 ^ n := by have := (nI_ltI (by omega) (by omega)).mp h36; omega
          refine AW.inc (fun x67 => [some (.ref 0), some (.int x5), some (.int x13), some (.int x67), some (.int x)]) dX10_safe_67 rfl (by decide) rfl (fun _ => rfl) (fun x67 ex67 => ?_)
          refine AW.goto 25 dX10_safe_70 (by decide) ?_
          refine AW.mask [4] [some (.ref 0), some (.int x5), some (.int x13), some (.int x67), none] rfl ?_
          exact ih25 (k25 + 1) (by omega) (by omega) _ (⟨by rw [ex67, hz, show n - k25 = n - (k25 + 1) + 1 by omega]; exact pk_m1 _, lfst_0 ha (by rw [← hke, ha2]; rfl)⟩)
        · rw [hx, hal] at h36
          have hlt3 : k33 < 2 ^ n := by
            rcases Nat.lt_or_ge k33 (2 ^ n) with h | h
            · exact h
            · exact absurd ((nI_ltI (by omega) (by omega)).mpr (by omega)) h36
          refine AW.iload dX10_safe_39 rfl ?_
          refine AW.callS (As := [.int x]) hG.2.2 (vX10_253 hG) (k_bitCount hK (d := 0) (Nat.le_refl _) x) (by omega) dX10_safe_41 rfl rfl (Nat.le_of_ble_eq_true rfl) (fun v w9 hq9 h09 => by obtain ⟨rfl, rfl⟩ := hq9; exact ⟨h09, rfl⟩) (by decide) (by decide) (fun _ _ hx => hx) (fun v41 w41 hq41 => ?_)
          obtain ⟨rfl, rfl⟩ := hq41
          refine AW.nam (fun x41 ex41 => ?_)
          refine AW.iload_n dX10_safe_44 rfl ?_
          refine AW.icmp_ne 61 dX10_safe_45 (by decide) (fun h45 => ?_) (fun h45 => ?_)
          · rw [ex41, hx, hz] at h45
            refine AW.inc (fun x61 => [some (.ref 0), some (.int x5), some (.int x13), some (.int z), some (.int x61)]) dX10_safe_61 rfl (by decide) rfl (fun _ => rfl) (fun x61 ex61 => ?_)
            refine AW.goto 33 dX10_safe_64 (by decide) ?_
            exact ih33 (k33 + 1) (by omega) (by omega) _ (⟨by omega, k_inc (by assumption) hx, lfst_0 ha2 (by unfold f_sQ; rw [decide_eq_false h45, Bool.false_and, Bool.and_false])⟩)
          · rw [ex41, hx, hz] at h45
            refine AW.aload_n dX10_safe_48 rfl ?_
            refine AW.iload dX10_safe_49 rfl ?_
            refine AW.iload_n dX10_safe_51 rfl ?_
            refine AW.callV (b := 0) (As := [.int x, .int x5]) hG.2.2 (vX10_297 hG) (hM.1 0 _ rfl) (k_X10_leavesCuttable hK (d := 4) (Nat.le_refl _) hXS hM hRt ht3 (by assumption) (by assumption) (by assumption) (by assumption) x x5) (by omega) dX10_safe_52 rfl rfl (Nat.le_of_ble_eq_true rfl) (fun v w9 hq9 h09 => by obtain ⟨rfl, rfl⟩ := hq9; exact ⟨h09, rfl⟩) (by decide) (by decide) (fun _ _ hx => hx) (fun v52 w52 hq52 => ?_)
            obtain ⟨rfl, rfl⟩ := hq52
            refine AW.nam (fun x52 ex52 => ?_)
            refine AW.if_eq 61 dX10_safe_55 (by decide) (fun h55 => ?_) (fun h55 => ?_)
            · rw [ex52, hx] at h55
              have q2 := kb_0.mp h55
              refine AW.inc (fun x61 => [some (.ref 0), some (.int x5), some (.int x13), some (.int z), some (.int x61)]) dX10_safe_61 rfl (by decide) rfl (fun _ => rfl) (fun x61 ex61 => ?_)
              refine AW.goto 33 dX10_safe_64 (by decide) ?_
              exact ih33 (k33 + 1) (by omega) (by omega) _ (⟨by omega, k_inc (by assumption) hx, lfst_0 ha2 (by unfold f_sQ; rw [q2, Bool.and_false, Bool.and_false])⟩)
            · rw [ex52, hx] at h55
              have q2 := kb_1.mp h55
              refine AW.iload dX10_safe_58 rfl ?_
              exact AW.iret dX10_safe_60 rfl (by decide) (by decide) (⟨by have e1 : lfst ((f_sQ I1 t n m x5) (n - k25)) (2 ^ n) = some k33 := lfst_s (lfst_1 ha2 (by unfold f_sQ; rw [q2, decide_eq_true (by omega), decide_eq_true h45]; rfl)) hlt3; have e2 := lfst_s (n := n - 1) (lfst_1 ha (by rw [e1]; rfl)) hlt; rw [← eI1, ← ex5]; unfold f_se; rw [e2]; simp only [e1]; rw [hx], by rw [eI1]⟩)
      exact L33 1 (by omega) _ (⟨Nat.le_refl _, rfl, rfl⟩)
  exact L25 0 (by omega) _ (⟨by rw [ex24]; exact hJn, rfl⟩)
