/-! FIELDS, ARRAYS, NEW CELLS -/
section AMHP
variable {G : am_G} {M : am_M} {d : Nat} {Rt : Option Value → am_w → Prop} {Th : String → am_w → Prop} {pc : Nat} {ls : List (Option Value)} {st : List Value} {sh : List (Nat ⊕ (Nat × Nat))} {I : Nat → Nat → Int32} {R : Nat → Nat → Option Nat} {L : Nat → Nat → Int64} {g : Nat} {uc us : Nat}
/-- the field k of the class ci, by the entry idx of own's pool: its type, whether it is final -/
def am_F (G : am_G) (own : String) (idx ci k : Nat) (ty : FieldType) (fin : Bool) : Prop :=
  ∃ (C : String) (T : u_T) (N : Nat) (ty0 : Nat → FieldType), (am_cl G)[ci]? = some (C, T, N) ∧ k < N ∧ (∀ w ∈ u_ws C T N, w ∈ am_Ts G) ∧ (∀ k, k < N → parseFieldDescriptor (T k).2.2.1 = some (ty0 k)) ∧
    (∀ a, a < N → ∀ b, b < N → a ≠ b → (T a).2.1 ≠ (T b).2.1) ∧ Cond.fieldLink own idx (T k).1 (T k).2.1 (T k).2.2.1 ∈ am_Ts G ∧ (T k).2.2.2 = fin ∧ ty0 k = ty ∧ (fin = true → (T k).1 = own)
/-- the same for reading alone -/
def am_Fr (G : am_G) (own : String) (idx ci k : Nat) (ty : FieldType) : Prop :=
  ∃ (C : String) (T : u_T) (N : Nat) (ty0 : Nat → FieldType), (am_cl G)[ci]? = some (C, T, N) ∧ k < N ∧ (∀ w ∈ u_ws C T N, w ∈ am_Ts G) ∧ (∀ k, k < N → parseFieldDescriptor (T k).2.2.1 = some (ty0 k)) ∧
    (∀ a, a < N → ∀ b, b < N → a ≠ b → (T a).2.1 ≠ (T b).2.1) ∧ Cond.fieldLink own idx (T k).1 (T k).2.1 (T k).2.2.1 ∈ am_Ts G ∧ ty0 k = ty
theorem am_F.r {G : am_G} {own : String} {idx ci k : Nat} {ty : FieldType} {fin : Bool} (h : am_F G own idx ci k ty fin) : am_Fr G own idx ci k ty := by
  obtain ⟨C, T, N, ty0, h1, h2, h3, h4, h5, h6, h7, h8, h9⟩ := h
  exact ⟨C, T, N, ty0, h1, h2, h3, h4, h5, h6, h8⟩
theorem am_fl_at {G : am_G} {q : vw_C} {I : Nat → Nat → Int32} {R : Nat → Nat → Option Nat} {c k : Nat} (hk : k < q.2.2) : (am_fl G q I R c)[k]? = some (if am_ir q.2.1 k then va_rf ((R c k).map (am_ad G)) else .int (I c k)) := by
  simp only [am_fl, List.getElem?_map, List.getElem?_range hk, Option.map_some]
theorem am_fl_len {G : am_G} {q : vw_C} {I : Nat → Nat → Int32} {R : Nat → Nat → Option Nat} {c : Nat} : (am_fl G q I R c).length = q.2.2 := by simp [am_fl]
theorem am_ir_of {T : u_T} {k : Nat} {ty : FieldType} (h : parseFieldDescriptor (T k).2.2.1 = some ty) : am_ir T k = am_rt ty := by unfold am_ir; rw [h]
theorem am_getD {cl : List vw_C} {ci : Nat} {q : vw_C} (h : cl[ci]? = some q) : cl.getD ci am_c0 = q := by simp [List.getD, h]
theorem am_fl_setI {G : am_G} {q : vw_C} {c k : Nat} {x : Int32} (hk : k < q.2.2) (hr : am_ir q.2.1 k = false) : (am_fl G q I R c).set k (.int x) = am_fl G q (am_up I c k x) R c := by
  refine List.ext_getElem? fun j => ?_
  rw [List.getElem?_set]
  by_cases hj : k = j
  · subst hj
    rw [if_pos rfl, if_pos (by rw [am_fl_len]; exact hk), am_fl_at hk, hr, am_up_s]
    simp [upd]
  · rw [if_neg hj]
    by_cases hl : j < q.2.2
    · rw [am_fl_at hl, am_fl_at hl, am_up_s]
      simp [upd, show ¬ j = k from fun h => hj h.symm]
    · rw [List.getElem?_eq_none (by rw [am_fl_len]; omega), List.getElem?_eq_none (by rw [am_fl_len]; omega)]
theorem am_fl_setR {G : am_G} {q : vw_C} {c k : Nat} {x : Option Nat} (hk : k < q.2.2) (hr : am_ir q.2.1 k = true) : (am_fl G q I R c).set k (va_rf (x.map (am_ad G))) = am_fl G q I (am_uR R c k x) c := by
  refine List.ext_getElem? fun j => ?_
  rw [List.getElem?_set]
  by_cases hj : k = j
  · subst hj
    rw [if_pos rfl, if_pos (by rw [am_fl_len]; exact hk), am_fl_at hk, hr, am_uR_s]
    simp [va_up]
  · rw [if_neg hj]
    by_cases hl : j < q.2.2
    · rw [am_fl_at hl, am_fl_at hl, am_uR_s]
      simp [va_up, show ¬ j = k from fun h => hj h.symm]
    · rw [List.getElem?_eq_none (by rw [am_fl_len]; omega), List.getElem?_eq_none (by rw [am_fl_len]; omega)]
theorem am_rf (G : am_G) (r : Option Nat) : am_v G (va_rf r) = va_rf (r.map (am_ad G)) := by cases r <;> rfl
theorem AW.getI {idx ci k c : Nat} {ty : FieldType} (hf : am_Fr G (am_y M).cls idx ci k ty) (hty : am_rt ty = false) (hs : sh[c]? = some (.inl ci)) (hd : decode (am_b M) pc = .ok (.getfield idx, 3))
    (kk : AW G M d Rt Th (pc + 3) ls (.int (I c k) :: st) (sh, I, R, L, g) uc us) : AW G M d Rt Th pc ls (.ref c :: st) (sh, I, R, L, g) uc us := by
  intro p e s m args below meth c0 hC H locs la hH hL
  obtain ⟨C, T, N, ty0, h1, h2, h3, h4, h5, h6, h8⟩ := hf
  have hat := am_at (G := G) (w := (sh, I, R, L, g)) hs
  have hv : (am_fl G (C, T, N) I R c)[k]? = some (.int (I c k)) := by
    rw [am_fl_at (q := (C, T, N)) h2, am_ir_of (h4 k h2), h8, hty]; rfl
  simp only [am_ce, am_getD h1] at hat
  show W _ _ _ _ _ _ _ _ _ _ _ _ _ _ _ (F0 m pc la (.ref (am_ad G c) :: st.map (am_v G)))
  rw [am_adc (w := (sh, I, R, L, g)) hH.2.2 hs]
  exact va_get (D := am_D G) (ci := ci) (v := .int (I c k)) hC.1 hC.2.1 hC.2.2.2.2.1 h3 hC.2.2.2.1 hC.2.2.2.2.2.2.2.2.1 hH.1 c hat h1 k h2 (hC.2.2.2.2.1 _ h6) (fun _ h => h) hv hd (kk p e s m args below meth c0 hC H locs la hH hL)
theorem AW.getR {idx ci k c c' : Nat} {ty : FieldType} (hf : am_Fr G (am_y M).cls idx ci k ty) (hty : am_rt ty = true) (hs : sh[c]? = some (.inl ci)) (hr : R c k = some c') (hd : decode (am_b M) pc = .ok (.getfield idx, 3))
    (kk : AW G M d Rt Th (pc + 3) ls (.ref c' :: st) (sh, I, R, L, g) uc us) : AW G M d Rt Th pc ls (.ref c :: st) (sh, I, R, L, g) uc us := by
  intro p e s m args below meth c0 hC H locs la hH hL
  obtain ⟨C, T, N, ty0, h1, h2, h3, h4, h5, h6, h8⟩ := hf
  have hat := am_at (G := G) (w := (sh, I, R, L, g)) hs
  have hv : (am_fl G (C, T, N) I R c)[k]? = some (.ref (am_ad G c')) := by
    rw [am_fl_at (q := (C, T, N)) h2, am_ir_of (h4 k h2), h8, hty, hr]; rfl
  simp only [am_ce, am_getD h1] at hat
  show W _ _ _ _ _ _ _ _ _ _ _ _ _ _ _ (F0 m pc la (.ref (am_ad G c) :: st.map (am_v G)))
  rw [am_adc (w := (sh, I, R, L, g)) hH.2.2 hs]
  exact va_get (D := am_D G) (ci := ci) (v := .ref (am_ad G c')) hC.1 hC.2.1 hC.2.2.2.2.1 h3 hC.2.2.2.1 hC.2.2.2.2.2.2.2.2.1 hH.1 c hat h1 k h2 (hC.2.2.2.2.1 _ h6) (fun _ h => h) hv hd (kk p e s m args below meth c0 hC H locs la hH hL)
/-- the world behind a write to one of its cells -/
theorem am_H.put {w w' : am_w} {s : State} {H H1 : Heap} {locs locs1 : List Loc} (h : am_H G w s H locs uc) (hsh : w'.1 = w.1) (hg : w'.2.2.2.2 = w.2.2.2.2) (hP : va_P (am_D G) (am_cl G) (am_ws G w') H1) (hS : va_S (am_A G) s.heap H1 locs1) : am_H G w' s H1 locs1 uc :=
  ⟨hP, hS, by rw [hsh]; exact h.2.2.1, fun h0 => by rw [hsh]; exact h.2.2.2 (by rw [← hg]; exact h0)⟩
theorem AW.putI {idx ci k c : Nat} {x : Int32} {ty : FieldType} (hf : am_F G (am_y M).cls idx ci k ty false) (hty : am_rt ty = false) (hn : narrow ty (.int x) = .int x) (hfit : fits ty (.int x) = true) (hs : sh[c]? = some (.inl ci)) (hd : decode (am_b M) pc = .ok (.putfield idx, 3))
    (kk : AW G M d Rt Th (pc + 3) ls st (sh, am_up I c k x, R, L, g) uc us) : AW G M d Rt Th pc ls (.int x :: .ref c :: st) (sh, I, R, L, g) uc us := by
  intro p e s m args below meth c0 hC H locs la hH hL
  obtain ⟨C, T, N, ty0, h1, h2, h3, h4, h5, h6, h7, h8, h9⟩ := hf
  have hat := am_at (G := G) (w := (sh, I, R, L, g)) hs
  have hir : am_ir T k = false := by rw [am_ir_of (h4 k h2), h8]; exact hty
  have hset := am_set (G := G) (g := g) (R := R) (L := L) (R' := R) (L' := L) (I := I) (I' := am_up I c k x) hs (fun a ha => ⟨am_up_o I c k x ha, rfl, rfl⟩)
  simp only [am_ce, am_getD h1] at hat hset
  rw [← am_fl_setI (q := (C, T, N)) h2 hir] at hset
  show W _ _ _ _ _ _ _ _ _ _ _ _ _ _ _ (F0 m pc la (.int x :: .ref (am_ad G c) :: st.map (am_v G)))
  rw [am_adc (w := (sh, I, R, L, g)) hH.2.2 hs]
  refine va_put (D := am_D G) (ci := ci) (v := .int x) (ty := ty) hC.1 hC.2.1 hC.2.2.2.2.1 h3 ty0 h4 h5 hC.2.2.2.1 hC.2.2.2.2.2.2.2.2.1 hH.1 (am_dis G _) hH.2.1 c hat h1 k h2 (hC.2.2.2.2.1 _ h6) (fun _ h => h) h7 (by rw [h4 k h2, h8]) hn hfit (by rw [am_fl_len]; exact h2) hd (fun H1 locs1 hP hD hS => ?_)
  rw [hset] at hP
  exact kk p e s m args below meth c0 hC H1 locs1 la (hH.put (w' := (sh, am_up I c k x, R, L, g)) rfl rfl hP hS) hL
/-- a final field, in the constructor -/
theorem AW.putIF {idx ci k c : Nat} {x : Int32} {ty : FieldType} (hf : am_F G (am_y M).cls idx ci k ty true) (hin : (am_y M).name = "<init>") (hty : am_rt ty = false) (hn : narrow ty (.int x) = .int x) (hfit : fits ty (.int x) = true) (hs : sh[c]? = some (.inl ci)) (hd : decode (am_b M) pc = .ok (.putfield idx, 3))
    (kk : AW G M d Rt Th (pc + 3) ls st (sh, am_up I c k x, R, L, g) uc us) : AW G M d Rt Th pc ls (.int x :: .ref c :: st) (sh, I, R, L, g) uc us := by
  intro p e s m args below meth c0 hC H locs la hH hL
  obtain ⟨C, T, N, ty0, h1, h2, h3, h4, h5, h6, h7, h8, h9⟩ := hf
  have hat := am_at (G := G) (w := (sh, I, R, L, g)) hs
  have hir : am_ir T k = false := by rw [am_ir_of (h4 k h2), h8]; exact hty
  have hset := am_set (G := G) (g := g) (R := R) (L := L) (R' := R) (L' := L) (I := I) (I' := am_up I c k x) hs (fun a ha => ⟨am_up_o I c k x ha, rfl, rfl⟩)
  simp only [am_ce, am_getD h1] at hat hset
  rw [← am_fl_setI (q := (C, T, N)) h2 hir] at hset
  show W _ _ _ _ _ _ _ _ _ _ _ _ _ _ _ (F0 m pc la (.int x :: .ref (am_ad G c) :: st.map (am_v G)))
  rw [am_adc (w := (sh, I, R, L, g)) hH.2.2 hs]
  refine va_putF (D := am_D G) (ci := ci) (v := .int x) (ty := ty) hC.1 hC.2.1 hC.2.2.2.2.1 h3 ty0 h4 h5 hC.2.2.2.1 hC.2.2.2.2.2.2.2.2.1 hH.1 (am_dis G _) hH.2.1 c hat h1 k h2 (hC.2.2.2.2.1 _ h6) (fun _ h => h) h7 (hC.2.2.2.2.2.2.2.1.trans hin) (h9 rfl) (by rw [h4 k h2, h8]) hn hfit (by rw [am_fl_len]; exact h2) hd (fun H1 locs1 hP hD hS => ?_)
  rw [hset] at hP
  exact kk p e s m args below meth c0 hC H1 locs1 la (hH.put (w' := (sh, am_up I c k x, R, L, g)) rfl rfl hP hS) hL
theorem am_fitsR {ty : FieldType} (h : am_rt ty = true) (a : Nat) : narrow ty (.ref a) = .ref a ∧ fits ty (.ref a) = true := by
  cases ty <;> first | exact ⟨rfl, rfl⟩ | (exfalso; revert h; decide) | cases h
theorem AW.putR {idx ci k c c' : Nat} {ty : FieldType} (hf : am_F G (am_y M).cls idx ci k ty false) (hty : am_rt ty = true) (hs : sh[c]? = some (.inl ci)) (hd : decode (am_b M) pc = .ok (.putfield idx, 3))
    (kk : AW G M d Rt Th (pc + 3) ls st (sh, I, am_uR R c k (some c'), L, g) uc us) : AW G M d Rt Th pc ls (.ref c' :: .ref c :: st) (sh, I, R, L, g) uc us := by
  intro p e s m args below meth c0 hC H locs la hH hL
  obtain ⟨C, T, N, ty0, h1, h2, h3, h4, h5, h6, h7, h8, h9⟩ := hf
  have hat := am_at (G := G) (w := (sh, I, R, L, g)) hs
  have hir : am_ir T k = true := by rw [am_ir_of (h4 k h2), h8]; exact hty
  have hset := am_set (G := G) (g := g) (R := R) (L := L) (R' := am_uR R c k (some c')) (L' := L) (I := I) (I' := I) hs (fun a ha => ⟨rfl, am_uR_o R c k (some c') ha, rfl⟩)
  simp only [am_ce, am_getD h1] at hat hset
  rw [← am_fl_setR (q := (C, T, N)) h2 hir] at hset
  show W _ _ _ _ _ _ _ _ _ _ _ _ _ _ _ (F0 m pc la (.ref (am_ad G c') :: .ref (am_ad G c) :: st.map (am_v G)))
  rw [am_adc (w := (sh, I, R, L, g)) hH.2.2 hs]
  refine va_put (D := am_D G) (ci := ci) (v := .ref (am_ad G c')) (ty := ty) hC.1 hC.2.1 hC.2.2.2.2.1 h3 ty0 h4 h5 hC.2.2.2.1 hC.2.2.2.2.2.2.2.2.1 hH.1 (am_dis G _) hH.2.1 c hat h1 k h2 (hC.2.2.2.2.1 _ h6) (fun _ h => h) h7 (by rw [h4 k h2, h8]) (am_fitsR hty _).1 (am_fitsR hty _).2 (by rw [am_fl_len]; exact h2) hd (fun H1 locs1 hP hD hS => ?_)
  rw [show (Value.ref (am_ad G c') = va_rf ((some c').map (am_ad G))) from rfl, hset] at hP
  exact kk p e s m args below meth c0 hC H1 locs1 la (hH.put (w' := (sh, I, am_uR R c k (some c'), L, g)) rfl rfl hP hS) hL
theorem AW.putRF {idx ci k c c' : Nat} {ty : FieldType} (hf : am_F G (am_y M).cls idx ci k ty true) (hin : (am_y M).name = "<init>") (hty : am_rt ty = true) (hs : sh[c]? = some (.inl ci)) (hd : decode (am_b M) pc = .ok (.putfield idx, 3))
    (kk : AW G M d Rt Th (pc + 3) ls st (sh, I, am_uR R c k (some c'), L, g) uc us) : AW G M d Rt Th pc ls (.ref c' :: .ref c :: st) (sh, I, R, L, g) uc us := by
  intro p e s m args below meth c0 hC H locs la hH hL
  obtain ⟨C, T, N, ty0, h1, h2, h3, h4, h5, h6, h7, h8, h9⟩ := hf
  have hat := am_at (G := G) (w := (sh, I, R, L, g)) hs
  have hir : am_ir T k = true := by rw [am_ir_of (h4 k h2), h8]; exact hty
  have hset := am_set (G := G) (g := g) (R := R) (L := L) (R' := am_uR R c k (some c')) (L' := L) (I := I) (I' := I) hs (fun a ha => ⟨rfl, am_uR_o R c k (some c') ha, rfl⟩)
  simp only [am_ce, am_getD h1] at hat hset
  rw [← am_fl_setR (q := (C, T, N)) h2 hir] at hset
  show W _ _ _ _ _ _ _ _ _ _ _ _ _ _ _ (F0 m pc la (.ref (am_ad G c') :: .ref (am_ad G c) :: st.map (am_v G)))
  rw [am_adc (w := (sh, I, R, L, g)) hH.2.2 hs]
  refine va_putF (D := am_D G) (ci := ci) (v := .ref (am_ad G c')) (ty := ty) hC.1 hC.2.1 hC.2.2.2.2.1 h3 ty0 h4 h5 hC.2.2.2.1 hC.2.2.2.2.2.2.2.2.1 hH.1 (am_dis G _) hH.2.1 c hat h1 k h2 (hC.2.2.2.2.1 _ h6) (fun _ h => h) h7 (hC.2.2.2.2.2.2.2.1.trans hin) (h9 rfl) (by rw [h4 k h2, h8]) (am_fitsR hty _).1 (am_fitsR hty _).2 (by rw [am_fl_len]; exact h2) hd (fun H1 locs1 hP hD hS => ?_)
  rw [show (Value.ref (am_ad G c') = va_rf ((some c').map (am_ad G))) from rfl, hset] at hP
  exact kk p e s m args below meth c0 hC H1 locs1 la (hH.put (w' := (sh, I, am_uR R c k (some c'), L, g)) rfl rfl hP hS) hL
theorem AW.iald {c n : Nat} {i : Int32} (hs : sh[c]? = some (.inr (0, n))) (hi : vp_in i n) (hd : decode (am_b M) pc = .ok (.iaload, 1))
    (kk : AW G M d Rt Th (pc + 1) ls (.int (I c i.toNatClampNeg) :: st) (sh, I, R, L, g) uc us) : AW G M d Rt Th pc ls (.int i :: .ref c :: st) (sh, I, R, L, g) uc us := by
  intro p e s m args below meth c0 hC H locs la hH hL
  have hat := am_at (G := G) (w := (sh, I, R, L, g)) hs
  show W _ _ _ _ _ _ _ _ _ _ _ _ _ _ _ (F0 m pc la (.int i :: .ref (am_ad G c) :: st.map (am_v G)))
  rw [am_adc (w := (sh, I, R, L, g)) hH.2.2 hs]
  exact va_iald (D := am_D G) hC.1 hC.2.1 hC.2.2.2.2.2.2.2.2.1 hH.1 c 0 hat rfl hi hd (kk p e s m args below meth c0 hC H locs la hH hL)
theorem AW.bald {c n : Nat} {i : Int32} (hs : sh[c]? = some (.inr (1, n))) (hi : vp_in i n) (hd : decode (am_b M) pc = .ok (.baload, 1))
    (kk : AW G M d Rt Th (pc + 1) ls (.int (I c i.toNatClampNeg) :: st) (sh, I, R, L, g) uc us) : AW G M d Rt Th pc ls (.int i :: .ref c :: st) (sh, I, R, L, g) uc us := by
  intro p e s m args below meth c0 hC H locs la hH hL
  have hat := am_at (G := G) (w := (sh, I, R, L, g)) hs
  show W _ _ _ _ _ _ _ _ _ _ _ _ _ _ _ (F0 m pc la (.int i :: .ref (am_ad G c) :: st.map (am_v G)))
  rw [am_adc (w := (sh, I, R, L, g)) hH.2.2 hs]
  exact va_bald (D := am_D G) hC.1 hC.2.1 hC.2.2.2.2.2.2.2.2.1 hH.1 c 1 hat rfl hi hd (kk p e s m args below meth c0 hC H locs la hH hL)
theorem AW.zald {c n : Nat} {i : Int32} (hs : sh[c]? = some (.inr (2, n))) (hi : vp_in i n) (hd : decode (am_b M) pc = .ok (.baload, 1))
    (kk : AW G M d Rt Th (pc + 1) ls (.int (I c i.toNatClampNeg) :: st) (sh, I, R, L, g) uc us) : AW G M d Rt Th pc ls (.int i :: .ref c :: st) (sh, I, R, L, g) uc us := by
  intro p e s m args below meth c0 hC H locs la hH hL
  have hat := am_at (G := G) (w := (sh, I, R, L, g)) hs
  show W _ _ _ _ _ _ _ _ _ _ _ _ _ _ _ (F0 m pc la (.int i :: .ref (am_ad G c) :: st.map (am_v G)))
  rw [am_adc (w := (sh, I, R, L, g)) hH.2.2 hs]
  exact va_zald (D := am_D G) hC.1 hC.2.1 hC.2.2.2.2.2.2.2.2.1 hH.1 c 2 hat rfl hi hd (kk p e s m args below meth c0 hC H locs la hH hL)
theorem AW.lald {c n : Nat} {i : Int32} (hs : sh[c]? = some (.inr (4, n))) (hi : vp_in i n) (hd : decode (am_b M) pc = .ok (.laload, 1))
    (kk : AW G M d Rt Th (pc + 1) ls (.long (L c i.toNatClampNeg) :: st) (sh, I, R, L, g) uc us) : AW G M d Rt Th pc ls (.int i :: .ref c :: st) (sh, I, R, L, g) uc us := by
  intro p e s m args below meth c0 hC H locs la hH hL
  have hat := am_at (G := G) (w := (sh, I, R, L, g)) hs
  show W _ _ _ _ _ _ _ _ _ _ _ _ _ _ _ (F0 m pc la (.int i :: .ref (am_ad G c) :: st.map (am_v G)))
  rw [am_adc (w := (sh, I, R, L, g)) hH.2.2 hs]
  exact va_lald (D := am_D G) hC.1 hC.2.1 hC.2.2.2.2.2.2.2.2.1 hH.1 c 4 hat rfl hi hd (kk p e s m args below meth c0 hC H locs la hH hL)
theorem AW.aald {c n c' : Nat} {i : Int32} (hs : sh[c]? = some (.inr (3, n))) (hi : vp_in i n) (hr : R c i.toNatClampNeg = some c') (hd : decode (am_b M) pc = .ok (.aaload, 1))
    (kk : AW G M d Rt Th (pc + 1) ls (.ref c' :: st) (sh, I, R, L, g) uc us) : AW G M d Rt Th pc ls (.int i :: .ref c :: st) (sh, I, R, L, g) uc us := by
  intro p e s m args below meth c0 hC H locs la hH hL
  have hat := am_at (G := G) (w := (sh, I, R, L, g)) hs
  show W _ _ _ _ _ _ _ _ _ _ _ _ _ _ _ (F0 m pc la (.int i :: .ref (am_ad G c) :: st.map (am_v G)))
  rw [am_adc (w := (sh, I, R, L, g)) hH.2.2 hs]
  have key := kk p e s m args below meth c0 hC H locs la hH hL
  refine va_aldq (D := am_D G) hC.1 hC.2.1 hC.2.2.2.2.2.2.2.2.1 hH.1 c 3 hat rfl hi hd ?_
  show W _ _ _ _ _ _ _ _ _ _ _ _ _ _ _ (F0 m (pc + 1) la (va_rf ((R c i.toNatClampNeg).map (am_ad G)) :: st.map (am_v G)))
  rw [hr]
  exact key
theorem AW.alen {c n t : Nat} {v : Int32} (hs : sh[c]? = some (.inr (t, n))) (ht : t < 5) (hv : Int32.ofNat n = v) (hd : decode (am_b M) pc = .ok (.arraylength, 1))
    (kk : AW G M d Rt Th (pc + 1) ls (.int v :: st) (sh, I, R, L, g) uc us) : AW G M d Rt Th pc ls (.ref c :: st) (sh, I, R, L, g) uc us := by
  intro p e s m args below meth c0 hC H locs la hH hL
  have hat := am_at (G := G) (w := (sh, I, R, L, g)) hs
  show W _ _ _ _ _ _ _ _ _ _ _ _ _ _ _ (F0 m pc la (.ref (am_ad G c) :: st.map (am_v G)))
  rw [am_adc (w := (sh, I, R, L, g)) hH.2.2 hs]
  have key := kk p e s m args below meth c0 hC H locs la hH hL
  rcases (show t = 0 ∨ t = 1 ∨ t = 2 ∨ t = 3 ∨ t = 4 by omega) with rfl | rfl | rfl | rfl | rfl
  · exact va_alen (D := am_D G) hC.1 hC.2.1 hC.2.2.2.2.2.2.2.2.1 hH.1 c 0 hat rfl hv hd key
  · exact va_alen (D := am_D G) hC.1 hC.2.1 hC.2.2.2.2.2.2.2.2.1 hH.1 c 1 hat rfl hv hd key
  · exact va_alen (D := am_D G) hC.1 hC.2.1 hC.2.2.2.2.2.2.2.2.1 hH.1 c 2 hat rfl hv hd key
  · exact va_alen (D := am_D G) hC.1 hC.2.1 hC.2.2.2.2.2.2.2.2.1 hH.1 c 3 hat rfl hv hd key
  · exact va_alen (D := am_D G) hC.1 hC.2.1 hC.2.2.2.2.2.2.2.2.1 hH.1 c 4 hat rfl hv hd key
theorem AW.iast {c n : Nat} {i x : Int32} (hs : sh[c]? = some (.inr (0, n))) (hi : vp_in i n) (hd : decode (am_b M) pc = .ok (.iastore, 1))
    (kk : AW G M d Rt Th (pc + 1) ls st (sh, am_up I c i.toNatClampNeg x, R, L, g) uc us) : AW G M d Rt Th pc ls (.int x :: .int i :: .ref c :: st) (sh, I, R, L, g) uc us := by
  intro p e s m args below meth c0 hC H locs la hH hL
  have hat := am_at (G := G) (w := (sh, I, R, L, g)) hs
  have hset := am_set (G := G) (g := g) (R := R) (L := L) (R' := R) (L' := L) (I := I) (I' := am_up I c i.toNatClampNeg x) hs (fun a ha => ⟨am_up_o I c _ _ ha, rfl, rfl⟩)
  simp only [am_ce, am_up_s] at hat hset
  show W _ _ _ _ _ _ _ _ _ _ _ _ _ _ _ (F0 m pc la (.int x :: .int i :: .ref (am_ad G c) :: st.map (am_v G)))
  rw [am_adc (w := (sh, I, R, L, g)) hH.2.2 hs]
  refine va_iast (D := am_D G) hC.1 hC.2.1 hC.2.2.2.2.2.2.2.2.1 hH.1 (am_dis G _) hH.2.1 c 0 hat rfl hi hd (fun H1 locs1 hP hD hS => ?_)
  rw [hset] at hP
  exact kk p e s m args below meth c0 hC H1 locs1 la (hH.put (w' := (sh, am_up I c i.toNatClampNeg x, R, L, g)) rfl rfl hP hS) hL
theorem AW.bast {c n : Nat} {i x : Int32} (hs : sh[c]? = some (.inr (1, n))) (hi : vp_in i n) (hd : decode (am_b M) pc = .ok (.bastore, 1))
    (kk : AW G M d Rt Th (pc + 1) ls st (sh, am_up I c i.toNatClampNeg (vp_nar .byte x), R, L, g) uc us) : AW G M d Rt Th pc ls (.int x :: .int i :: .ref c :: st) (sh, I, R, L, g) uc us := by
  intro p e s m args below meth c0 hC H locs la hH hL
  have hat := am_at (G := G) (w := (sh, I, R, L, g)) hs
  have hset := am_set (G := G) (g := g) (R := R) (L := L) (R' := R) (L' := L) (I := I) (I' := am_up I c i.toNatClampNeg (vp_nar .byte x)) hs (fun a ha => ⟨am_up_o I c _ _ ha, rfl, rfl⟩)
  simp only [am_ce, am_up_s] at hat hset
  show W _ _ _ _ _ _ _ _ _ _ _ _ _ _ _ (F0 m pc la (.int x :: .int i :: .ref (am_ad G c) :: st.map (am_v G)))
  rw [am_adc (w := (sh, I, R, L, g)) hH.2.2 hs]
  refine va_bast (D := am_D G) hC.1 hC.2.1 hC.2.2.2.2.2.2.2.2.1 hH.1 (am_dis G _) hH.2.1 c 1 hat rfl hi hd (fun H1 locs1 hP hD hS => ?_)
  rw [hset] at hP
  exact kk p e s m args below meth c0 hC H1 locs1 la (hH.put (w' := (sh, am_up I c i.toNatClampNeg (vp_nar .byte x), R, L, g)) rfl rfl hP hS) hL
theorem AW.zast {c n : Nat} {i x : Int32} (hs : sh[c]? = some (.inr (2, n))) (hi : vp_in i n) (hd : decode (am_b M) pc = .ok (.bastore, 1))
    (kk : AW G M d Rt Th (pc + 1) ls st (sh, am_up I c i.toNatClampNeg (vp_nar .boolean x), R, L, g) uc us) : AW G M d Rt Th pc ls (.int x :: .int i :: .ref c :: st) (sh, I, R, L, g) uc us := by
  intro p e s m args below meth c0 hC H locs la hH hL
  have hat := am_at (G := G) (w := (sh, I, R, L, g)) hs
  have hset := am_set (G := G) (g := g) (R := R) (L := L) (R' := R) (L' := L) (I := I) (I' := am_up I c i.toNatClampNeg (vp_nar .boolean x)) hs (fun a ha => ⟨am_up_o I c _ _ ha, rfl, rfl⟩)
  simp only [am_ce, am_up_s] at hat hset
  show W _ _ _ _ _ _ _ _ _ _ _ _ _ _ _ (F0 m pc la (.int x :: .int i :: .ref (am_ad G c) :: st.map (am_v G)))
  rw [am_adc (w := (sh, I, R, L, g)) hH.2.2 hs]
  refine va_zast (D := am_D G) hC.1 hC.2.1 hC.2.2.2.2.2.2.2.2.1 hH.1 (am_dis G _) hH.2.1 c 2 hat rfl hi hd (fun H1 locs1 hP hD hS => ?_)
  rw [hset] at hP
  exact kk p e s m args below meth c0 hC H1 locs1 la (hH.put (w' := (sh, am_up I c i.toNatClampNeg (vp_nar .boolean x), R, L, g)) rfl rfl hP hS) hL
theorem AW.last {c n : Nat} {i : Int32} {x : Int64} (hs : sh[c]? = some (.inr (4, n))) (hi : vp_in i n) (hd : decode (am_b M) pc = .ok (.lastore, 1))
    (kk : AW G M d Rt Th (pc + 1) ls st (sh, I, R, am_uL L c i.toNatClampNeg x, g) uc us) : AW G M d Rt Th pc ls (.long x :: .int i :: .ref c :: st) (sh, I, R, L, g) uc us := by
  intro p e s m args below meth c0 hC H locs la hH hL
  have hat := am_at (G := G) (w := (sh, I, R, L, g)) hs
  have hset := am_set (G := G) (g := g) (R := R) (L := L) (R' := R) (L' := am_uL L c i.toNatClampNeg x) (I := I) (I' := I) hs (fun a ha => ⟨rfl, rfl, am_uL_o L c _ _ ha⟩)
  simp only [am_ce, am_uL_s] at hat hset
  show W _ _ _ _ _ _ _ _ _ _ _ _ _ _ _ (F0 m pc la (.long x :: .int i :: .ref (am_ad G c) :: st.map (am_v G)))
  rw [am_adc (w := (sh, I, R, L, g)) hH.2.2 hs]
  refine va_last (D := am_D G) hC.1 hC.2.1 hC.2.2.2.2.2.2.2.2.1 hH.1 (am_dis G _) hH.2.1 c 4 hat rfl hi hd (fun H1 locs1 hP hD hS => ?_)
  rw [hset] at hP
  exact kk p e s m args below meth c0 hC H1 locs1 la (hH.put (w' := (sh, I, R, am_uL L c i.toNatClampNeg x, g)) rfl rfl hP hS) hL
end AMHP
