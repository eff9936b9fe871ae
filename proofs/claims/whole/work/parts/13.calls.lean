/-! A METHOD'S CONTRACT OUT OF ITS WALK; CALLS -/
section AMC
variable {G : am_G} {M : am_M} {d : Nat} {Rt : Option Value → am_w → Prop} {Th : String → am_w → Prop} {pc : Nat} {ls : List (Option Value)} {st : List Value} {w : am_w} {uc us : Nat}
def am_l0 : List Value → List (Option Value)
  | [] => []
  | v :: vs => if v.category = 2 then some v :: none :: am_l0 vs else some v :: am_l0 vs
theorem am_l0_in (G : am_G) : ∀ (vs : List Value) (n o i : Nat) (v : Value), (am_l0 vs ++ List.replicate n none)[i]? = some (some v) → (o + i, am_v G v) ∈ lv_args o (vs.map (am_v G)) := by
  intro vs
  induction vs with
  | nil =>
    intro n o i v h
    simp only [am_l0, List.nil_append] at h
    have := List.eq_of_mem_replicate (List.mem_of_getElem? h)
    cases this
  | cons u vs ih =>
    intro n o i v h
    by_cases hc : u.category = 2
    · simp only [am_l0, if_pos hc] at h
      have hc' : (am_v G u).category = 2 := (am_cat G u).trans hc
      match i, h with
      | 0, h =>
        have h1 : some u = some v := by simpa using h
        cases h1
        exact List.mem_cons_self
      | 1, h =>
        exfalso
        revert h
        simp
      | i + 2, h =>
        have h1 : (am_l0 vs ++ List.replicate n none)[i]? = some (some v) := by simpa using h
        have h2 := ih n (o + 2) i v h1
        refine List.mem_cons_of_mem _ ?_
        rw [if_pos hc', show o + (i + 2) = o + 2 + i by omega]
        exact h2
    · simp only [am_l0, if_neg hc] at h
      have hc' : ¬ (am_v G u).category = 2 := fun q => hc ((am_cat G u).symm.trans q)
      match i, h with
      | 0, h =>
        have h1 : some u = some v := by simpa using h
        cases h1
        exact List.mem_cons_self
      | i + 1, h =>
        have h1 : (am_l0 vs ++ List.replicate n none)[i]? = some (some v) := by simpa using h
        have h2 := ih n (o + 1) i v h1
        refine List.mem_cons_of_mem _ ?_
        rw [if_neg hc', show o + (i + 1) = o + 1 + i by omega]
        exact h2
theorem am_lg_len (G : am_G) (vs : List Value) : (lg_sl (vs.map (am_v G))).length = (lg_sl vs).length := by
  induction vs with
  | nil => rfl
  | cons v vs ih =>
    simp only [lg_sl, List.map_cons, List.flatMap_cons, List.length_append] at ih ⊢
    rw [ih]
    cases v <;> rfl
/-- a contract out of the walk -/
theorem AM.of {vs : List Value} {n : Nat} (hy : plainName (am_y M).cls = true) (hl : (lg_sl vs).length ≤ am_n M) (k : AW G M d Rt Th 0 (am_l0 vs ++ List.replicate n none) [] w 0 0) : AM G M d vs w Rt Th := by
  refine vx_ofW (cc := am_b M) (maxL := am_n M) (ret := am_t M) hy rfl ?_
  intro p e s m args below meth c s₁ B hml hex hv
  obtain ⟨rfl, hW, hO⟩ := hv
  have hown : s.vm.findClass (am_y M).cls = some m.cls := findClass_of_methodNamed B.named
  have hts := atoms_spec (ws := am_words G M) B.pre
  have hC : am_C G M p s m (vs.map (am_v G)).toArray meth c := ⟨B.exec, B.bytes, hml, hown, fun w hw => hts w (List.mem_cons_of_mem _ hw), B.returns, B.notSynchronized, (name_of_methodNamed B.named B.method).1, hW.2.1, hW.2.2.2, hO, hex⟩
  have hl := lv_entry (vs.map (am_v G)) (n := am_n M) (by rw [am_lg_len]; exact hl)
  rw [lg_entry_eq]
  generalize (lg_sl (vs.map (am_v G)) ++ List.replicate (am_n M - (lg_sl (vs.map (am_v G))).length) Slot.unset).toArray = la at hl ⊢
  have hL : am_Ls G (am_n M) (am_l0 vs ++ List.replicate n none) la := ⟨hl.1, hl.2.1, fun i v h => hl.2.2 (i, am_v G v) (by have := am_l0_in G vs n 0 i v h; rwa [Nat.zero_add] at this)⟩
  exact k p e s m _ below meth c hC s.heap [] la ⟨hW.1, va_S.rf, hW.2.2.1.1, fun g0 => hW.2.2.1.2 g0⟩ hL
theorem AM.imp {vs : List Value} {Rt' : Option Value → am_w → Prop} {Th' : String → am_w → Prop} (h : AM G M d vs w Rt Th) (h1 : ∀ v w', Rt v w' → Rt' v w') (h2 : ∀ E w', Th E w' → Th' E w') : AM G M d vs w Rt' Th' := by
  intro p e ha hc hk s m args below hf happ hP hK
  obtain ⟨n, o, a1, a2, a3, hq⟩ := h p e ha hc hk s m args below hf happ hP hK
  refine ⟨n, o, a1, a2, a3, ?_⟩
  rcases hq with ⟨⟨⟨v, w', e1, r1, w1⟩, f1⟩, hL⟩ | ⟨q, eo, E, ce, L, ⟨⟨w', t1, w1⟩, f1⟩, hrest⟩
  · exact Or.inl ⟨⟨⟨v, w', e1, h1 _ _ r1, w1⟩, f1⟩, hL⟩
  · exact Or.inr ⟨q, eo, E, ce, L, ⟨⟨w', h2 _ _ t1, w1⟩, f1⟩, hrest⟩
/-- one that never throws, as the kit's own contract -/
theorem AM.met {vs : List Value} (h : AM G M d vs w Rt (fun _ _ => False)) : Met (am_l G) (am_y M) (am_words G M) (am_rm M d) (am_Pc G vs w) (am_Q G Rt) (am_mc M) (am_ms M) (am_A G) := by
  intro p e ha hc hk s m args below hf happ hP hK
  obtain ⟨n, o, a1, a2, a3, hq⟩ := h p e ha hc hk s m args below hf happ hP hK
  refine ⟨n, o, a1, a2, a3, ?_⟩
  rcases hq with hq | ⟨q, eo, E, ce, L, ⟨⟨w', t1, w1⟩, f1⟩, hrest⟩
  · exact hq
  · exact absurd t1 id
theorem am_Pc_blind (hG : am_ok G) (vs : List Value) : FrameBlind (am_Pc G vs w) := fun a U g mk q =>
  ⟨q.1, ⟨q.2.1.1, va_K.moved (u := U) (U := U.calling g mk a) (Vm.Alike.refl U.vm) q.2.1.2.1, q.2.1.2.2.1, q.2.1.2.2.2⟩, hG.1 U (U.calling g mk a) U.heap U.heap q.2.2 (State.WarmedH.refl U) (fun _ _ _ => rfl)⟩
theorem am_Pc_at (hG : am_ok G) {vs : List Value} {p : Program} {s U : State} {m : MethodId} {args : Array Value} {meth : Method} {c : Code} {H : Heap} {locs : List Loc} (hC : am_C G M p s m args meth c) (hH : am_H G w s H locs uc) (hz : H.size ≤ s.heap.size + uc) (hU : U.heap = H) (hW : s.WarmedH U.vm) : am_Pc G vs w (vs.map (am_v G)).toArray U :=
  ⟨rfl, hH.W hC hz hU hW.alike, by rw [hU]; exact hG.1 s U s.heap H hC.2.2.2.2.2.2.2.2.2.2.1 hW hH.2.1.2.1⟩
/-- the words of a call -/
def am_cB (G : am_G) (M' : am_M) (n : Nat) : Prop := Cond.initialized (am_y M').cls ∈ am_Ts G ∧ Cond.code (am_y M') (am_b M') (am_n M') (am_t M') ∈ am_Ts G ∧ ((am_y M').cls ≠ "java/lang/invoke/MethodHandle" ∧ (am_y M').cls ≠ "java/lang/invoke/VarHandle" ∧ (parseMethodDescriptor (am_y M').desc).map (fun d => d.parameters.length) = some n) ∧ am_n M' ≤ 40
def am_cV (G : am_G) (own : String) (idx : Nat) (M' : am_M) (n ci : Nat) : Prop := am_cB G M' n ∧ Cond.methodLink own idx (am_y M') ∈ am_Ts G ∧ Cond.instanceMethod (am_y M') ∈ am_Ts G ∧ Cond.selects (am_y M').cls (am_y M') (am_y M') ∈ am_Ts G ∧ ∃ (T : u_T) (N : Nat), (am_cl G)[ci]? = some ((am_y M').cls, T, N)
def am_cS (G : am_G) (own : String) (idx : Nat) (M' : am_M) (n : Nat) : Prop := am_cB G M' n ∧ Cond.methodLink own idx (am_y M') ∈ am_Ts G ∧ Cond.static (am_y M') ∈ am_Ts G
def am_cI (G : am_G) (own : String) (idx : Nat) (M' : am_M) (n : Nat) : Prop := am_cB G M' n ∧ Cond.methodLink own idx (am_y M') ∈ am_Ts G ∧ (am_y M').name = "<init>" ∧ Cond.instanceMethod (am_y M') ∈ am_Ts G
theorem am_good (hG : am_ok G) {M' : am_M} {n : Nat} (h : am_cB G M' n) : GoodIn (am_Ts G) (am_words G M') := fun w hw => (List.mem_cons.mp hw).elim (fun e => by rw [e]; exact ⟨h.2.1, hG.2 _ h.2.1⟩) (fun h2 => ⟨h2, hG.2 _ h2⟩)
theorem am_CB (hG : am_ok G) {M' : am_M} {d' n idx : Nat} {p : Program} {s : State} {m : MethodId} {args : Array Value} {meth : Method} {c : Code} (hC : am_C G M p s m args meth c) (h : am_cB G M' n) (hl : Cond.methodLink (am_y M).cls idx (am_y M') ∈ am_Ts G) (hdd : d' + 1 ≤ d) :
    CallB (am_rm M d) s args (am_y M).cls idx (am_y M') (am_b M') (am_n M') (am_t M') (am_words G M') (am_rm M' d') (am_mc M') (am_ms M') n := by
  refine callB_of (Ts := am_Ts G) n hC.2.2.2.2.1 (am_good hG h) rfl rfl rfl (hC.2.2.2.2.1 _ h.1) (hC.2.2.2.2.1 _ hl) h.2.2.1 ⟨hdd, ?_⟩
  have := h.2.2.2
  show 8 + (am_n M' + 11) + 64 * d' ≤ 64 * d
  omega
/-- behind a call -/
theorem am_back {M' : am_M} {Rt' : Option Value → am_w → Prop} {Th' : String → am_w → Prop} {p : Program} {e : Env} {s : State} {m : MethodId} {args : Array Value} {below : List Frame} {meth : Method} {c : Code} {H : Heap} {locs : List Loc} {la : Array Slot} {st0 : List Value} {a : Array Value}
    (hC : am_C G M p s m args meth c) (hH : am_H G w s H locs uc) (hL : am_Ls G (am_n M) ls la)
    (hr : vx_Run p (am_l G) e (am_rm M d) s m args below meth c H locs uc us (am_mc M') (am_ms M') (F0 m pc la (st0.map (am_v G))) (st.map (am_v G)) (am_Q G Rt' a) (am_X G Th') (am_A G))
    (hg : ∀ v w', Rt' v w' → w'.2.2.2.2 = 0 → w.2.2.2.2 = 0 ∧ w'.1.length = w.1.length + am_mc M') (hu : uc + am_mc M' ≤ am_mc M) (hv : us + am_ms M' ≤ am_ms M)
    (hx : ∀ E w', Th' E w' → Th E w') (kk : ∀ v w', Rt' v w' → AW G M d Rt Th (pc + 3) ls (v.toList ++ st) w' (uc + am_mc M') (us + am_ms M')) :
    W p (am_l G) e (am_rm M d) s m args below meth c H locs uc us (vx_MQ below (am_Q G Rt) (am_X G Th) args s (am_mc M) (am_ms M) (am_A G)) (F0 m pc la (st0.map (am_v G))) := by
  intro T hT X
  rcases hr T hT X with ⟨v, st₀, t, T', L, h0, X', hL', e1, e2, ⟨⟨v', w', hv', hp, hw'⟩, hF⟩, st'⟩ | ⟨q, st₀, t, T', L, E, ce, h0, X', hL', e1, e2, ⟨⟨w', hp, hw'⟩, hF⟩, hce, hcv, hcl, st'⟩
  · cases hv'
    obtain ⟨k1, k2, k3⟩ := vx_keep (A0 := am_A G) (A1 := am_A G) (free := am_A G) h0 e1 hH.2.1 (fun _ _ h => h) (fun _ h => h) hL' hF
    have hH' : am_H G w' s T'.heap (locs ++ L) (uc + am_mc M') := ⟨by rw [e1]; exact hw'.1, k3, hw'.2.2.1.1, fun g0 => by
      obtain ⟨g1, g2⟩ := hg _ _ hp g0
      have := hH.2.2.2 g1
      omega⟩
    have key := kk v' w' hp p e s m args below meth c hC T'.heap (locs ++ L) la hH' hL T' rfl X'
    obtain ⟨t2, a1, b1⟩ := key
    refine ⟨t2, st' t2 ?_, b1⟩
    have hst : (v'.toList ++ st).map (am_v G) = (v'.map (am_v G)).toList ++ st.map (am_v G) := by cases v' <;> rfl
    rw [hst] at a1
    exact a1
  · obtain ⟨k1, k2, k3⟩ := vx_keep (A0 := am_A G) (A1 := am_A G) (free := am_A G) h0 e1 hH.2.1 (fun _ _ h => h) (fun _ h => h) hL' hF
    have hal : s.vm.Alike t.vm := by rw [← e2]; exact X'.warmed.alike
    have key := vx_out (p := p) (l := am_l G) (e := e) (R := am_rm M d) (s := s) (m := m) (args := args) (below := below) (meth := meth) (c := c) (ls := la) (rest := st.map (am_v G)) (Qc := am_Q G Rt) (XC := am_X G Th) (free := am_A G) (pc := pc) (E := E) (ce := ce) (q := q) (H := T'.heap) (locs := locs ++ L) (cells := uc + am_mc M') (slots := us + am_ms M') (mc := am_mc M) (ms := am_ms M)
      (fun x hx9 => absurd (hC.2.2.2.2.2.2.2.2.2.2.2 x hx9) id) hC.2.2.2.2.2.2.1 (by rw [e1]; exact hce) hcv hcl (fun u hu9 hvm => ⟨⟨w', hx _ _ hp, by rw [hu9, e1]; exact hw'.1, va_K.moved hvm hC.2.2.2.2.2.2.2.2.1, by rw [hu9, e1]; exact hw'.2.2.1, by rw [hu9, e1]; exact hw'.2.2.2⟩, k3.F hu9⟩) k3.2.2 hu hv
    obtain ⟨t2, a1, b1⟩ := key T' rfl X'
    exact ⟨t2, st'.trans a1, b1⟩
theorem AW.callV {M' : am_M} {d' idx n ci b : Nat} {As st0 : List Value} {Rt' : Option Value → am_w → Prop} {Th' : String → am_w → Prop} (hG : am_ok G) (hc : am_cV G (am_y M).cls idx M' n ci) (hs : w.1[b]? = some (.inl ci)) (hM : AM G M' d' (.ref b :: As) w Rt' Th') (hdd : d' + 1 ≤ d)
    (hd : decode (am_b M) pc = .ok (.invokevirtual idx, 3)) (hst : st0 = As.reverse ++ .ref b :: st) (hn : As.length = n) (h8 : (st.map fun v => v.category).sum ≤ 8) (hg : ∀ v w', Rt' v w' → w'.2.2.2.2 = 0 → w.2.2.2.2 = 0 ∧ w'.1.length = w.1.length + am_mc M') (hu : uc + am_mc M' ≤ am_mc M) (hv : us + am_ms M' ≤ am_ms M)
    (hx : ∀ E w', Th' E w' → Th E w') (kk : ∀ v w', Rt' v w' → AW G M d Rt Th (pc + 3) ls (v.toList ++ st) w' (uc + am_mc M') (us + am_ms M')) : AW G M d Rt Th pc ls st0 w uc us := by
  intro p e s m args below meth c hC H locs la hH hL
  refine am_sized fun hz => ?_
  obtain ⟨hB, hl, hi, hse, T, N, hci⟩ := hc
  have hat := am_at (G := G) hs
  have hrecv := va_recv (D := am_D G) hC.2.2.2.2.2.2.2.2.1 hH.1 hci (he := hat)
  rw [← am_adc hH.2.2 hs] at hrecv
  have hcw : CallW (am_rm M d) s args (am_y M).cls (am_y M').cls idx (am_y M') (am_b M') (am_n M') (am_t M') (am_words G M') (am_rm M' d') (am_mc M') (am_ms M') n := ⟨am_CB hG hC hB hl hdd, hC.2.2.2.2.1 _ hi, hC.2.2.2.2.1 _ hse⟩
  refine am_back (M' := M') (a := (Value.ref (am_ad G b) :: As.map (am_v G)).toArray) hC hH hL (vx_runV (g := F0 m pc la (st0.map (am_v G))) (As := As.map (am_v G)) (rest := st.map (am_v G)) (b := am_ad G b) (Ts := am_Ts G) (C := (am_y M').cls) ⟨hC.1, hC.2.1, hC.2.2.1, hC.2.2.2.1, hC.2.2.2.2.1⟩ hM hcw ⟨am_Pc_blind hG _, hrecv, fun U hU hW => am_Pc_at hG (vs := .ref b :: As) hC hH hz hU hW⟩ rfl (by rw [List.length_map]; exact hn) hL.1 ?_ (lv_room (by rw [am_catS]; exact h8)) hd ⟨hu, hv⟩) hg hu hv hx kk
  show st0.map (am_v G) = (As.map (am_v G)).reverse ++ Value.ref (am_ad G b) :: st.map (am_v G)
  rw [hst, List.map_append, List.map_reverse]
  rfl
theorem AW.callS {M' : am_M} {d' idx n : Nat} {As st0 : List Value} {Rt' : Option Value → am_w → Prop} {Th' : String → am_w → Prop} (hG : am_ok G) (hc : am_cS G (am_y M).cls idx M' n) (hM : AM G M' d' As w Rt' Th') (hdd : d' + 1 ≤ d)
    (hd : decode (am_b M) pc = .ok (.invokestatic idx, 3)) (hst : st0 = As.reverse ++ st) (hn : As.length = n) (h8 : (st.map fun v => v.category).sum ≤ 8) (hg : ∀ v w', Rt' v w' → w'.2.2.2.2 = 0 → w.2.2.2.2 = 0 ∧ w'.1.length = w.1.length + am_mc M') (hu : uc + am_mc M' ≤ am_mc M) (hv : us + am_ms M' ≤ am_ms M)
    (hx : ∀ E w', Th' E w' → Th E w') (kk : ∀ v w', Rt' v w' → AW G M d Rt Th (pc + 3) ls (v.toList ++ st) w' (uc + am_mc M') (us + am_ms M')) : AW G M d Rt Th pc ls st0 w uc us := by
  intro p e s m args below meth c hC H locs la hH hL
  refine am_sized fun hz => ?_
  obtain ⟨hB, hl, hi⟩ := hc
  refine am_back (M' := M') (a := (As.map (am_v G)).toArray) hC hH hL (vx_runS (g := F0 m pc la (st0.map (am_v G))) (As := As.map (am_v G)) (rest := st.map (am_v G)) (Ts := am_Ts G) ⟨hC.1, hC.2.1, hC.2.2.1, hC.2.2.2.1, hC.2.2.2.2.1⟩ hM ⟨am_CB hG hC hB hl hdd, hC.2.2.2.2.1 _ hi⟩ ⟨am_Pc_blind hG _, fun U hU hW => am_Pc_at hG (vs := As) hC hH hz hU hW⟩ rfl (by rw [List.length_map]; exact hn) hL.1 ?_ (lv_room (by rw [am_catS]; exact h8)) hd ⟨hu, hv⟩) hg hu hv hx kk
  show st0.map (am_v G) = (As.map (am_v G)).reverse ++ st.map (am_v G)
  rw [hst, List.map_append, List.map_reverse]
/-- the kit's run of one that never throws -/
theorem am_runX {p : Program} {l : Launch} {e : Env} {R : Room} {s : State} {m : MethodId} {args : Array Value} {below : List Frame} {meth : Method} {c : Code} {H : Heap} {locs : List Loc} {cells slots mc ms : Nat} {g : JFrame} {rest : List Value} {Qa : State → Outcome → State → Prop} {XC : String → State → State → Prop} {free : Addr → Prop}
    (h : va_Run p l e R s m args below meth c H locs cells slots mc ms g rest Qa free) : vx_Run p l e R s m args below meth c H locs cells slots mc ms g rest Qa XC free := fun T hT X => Or.inl (h T hT X)
theorem AW.callI {M' : am_M} {d' idx n b : Nat} {As st0 : List Value} {Rt' : Option Value → am_w → Prop} (hG : am_ok G) (hc : am_cI G (am_y M).cls idx M' n) (hr0 : am_t M' = none) (hM : AM G M' d' (.ref b :: As) w Rt' (fun _ _ => False)) (hdd : d' + 1 ≤ d)
    (hd : decode (am_b M) pc = .ok (.invokespecial idx, 3)) (hst : st0 = As.reverse ++ .ref b :: st) (hn : As.length = n) (h8 : (st.map fun v => v.category).sum ≤ 8) (hg : ∀ v w', Rt' v w' → w'.2.2.2.2 = 0 → w.2.2.2.2 = 0 ∧ w'.1.length = w.1.length + am_mc M') (hu : uc + am_mc M' ≤ am_mc M) (hv : us + am_ms M' ≤ am_ms M)
    (kk : ∀ v w', Rt' v w' → AW G M d Rt Th (pc + 3) ls (v.toList ++ st) w' (uc + am_mc M') (us + am_ms M')) : AW G M d Rt Th pc ls st0 w uc us := by
  intro p e s m args below meth c hC H locs la hH hL
  refine am_sized fun hz => ?_
  obtain ⟨hB, hl, hi0, hi⟩ := hc
  have hCB := am_CB (d := d) (d' := d') hG hC hB hl hdd
  rw [hr0] at hCB
  refine am_back (M' := M') (Th' := fun _ _ => False) (a := (Value.ref (am_ad G b) :: As.map (am_v G)).toArray) hC hH hL (am_runX (va_runI (g := F0 m pc la (st0.map (am_v G))) (As := As.map (am_v G)) (rest := st.map (am_v G)) (b := am_ad G b) (Ts := am_Ts G) ⟨hC.1, hC.2.1, hC.2.2.1, hC.2.2.2.1, hC.2.2.2.2.1⟩ hM.met ⟨hCB, hi0, hC.2.2.2.2.1 _ hi⟩ ⟨am_Pc_blind hG _, fun U hU hW => am_Pc_at hG (vs := .ref b :: As) hC hH hz hU hW⟩ rfl (by rw [List.length_map]; exact hn) hL.1 ?_ (lv_room (by rw [am_catS]; exact h8)) hd ⟨hu, hv⟩)) hg hu hv (fun _ _ h => absurd h id) kk
  show st0.map (am_v G) = (As.map (am_v G)).reverse ++ Value.ref (am_ad G b) :: st.map (am_v G)
  rw [hst, List.map_append, List.map_reverse]
  rfl
/-- private members of a nest mate: their links stand outside -/
def am_cN (G : am_G) (own : String) (idx : Nat) (M' : am_M) (host : String) (n : Nat) : Prop := am_cB G M' n ∧ ∀ (s : State) (H : Heap), am_O G s H → va_Nw (.methodLinkNest own idx (am_y M') host) s
theorem am_CN (hG : am_ok G) {M' : am_M} {host : String} {d' n idx : Nat} {p : Program} {s : State} {m : MethodId} {args : Array Value} {meth : Method} {c : Code} (hC : am_C G M p s m args meth c) (h : am_cN G (am_y M).cls idx M' host n) (hdd : d' + 1 ≤ d) :
    va_CN (am_rm M d) s args (am_y M).cls idx (am_y M') host (am_b M') (am_n M') (am_t M') (am_words G M') (am_rm M' d') (am_mc M') (am_ms M') n := by
  refine va_cnB (Ts := am_Ts G) n hC.2.2.2.2.1 (am_good hG h.1) rfl rfl rfl (h.2 _ _ hC.2.2.2.2.2.2.2.2.2.2.1) (hC.2.2.2.2.1 _ h.1.1) h.1.2.2.1 ⟨hdd, ?_⟩
  have := h.1.2.2.2
  show 8 + (am_n M' + 11) + 64 * d' ≤ 64 * d
  omega
theorem AW.callSN {M' : am_M} {host : String} {d' idx n : Nat} {As st0 : List Value} {Rt' : Option Value → am_w → Prop} (hG : am_ok G) (hc : am_cN G (am_y M).cls idx M' host n) (hi : Cond.static (am_y M') ∈ am_Ts G) (hM : AM G M' d' As w Rt' (fun _ _ => False)) (hdd : d' + 1 ≤ d)
    (hd : decode (am_b M) pc = .ok (.invokestatic idx, 3)) (hst : st0 = As.reverse ++ st) (hn : As.length = n) (h8 : (st.map fun v => v.category).sum ≤ 8) (hg : ∀ v w', Rt' v w' → w'.2.2.2.2 = 0 → w.2.2.2.2 = 0 ∧ w'.1.length = w.1.length + am_mc M') (hu : uc + am_mc M' ≤ am_mc M) (hv : us + am_ms M' ≤ am_ms M)
    (kk : ∀ v w', Rt' v w' → AW G M d Rt Th (pc + 3) ls (v.toList ++ st) w' (uc + am_mc M') (us + am_ms M')) : AW G M d Rt Th pc ls st0 w uc us := by
  intro p e s m args below meth c hC H locs la hH hL
  refine am_sized fun hz => ?_
  refine am_back (M' := M') (Th' := fun _ _ => False) (a := (As.map (am_v G)).toArray) hC hH hL (am_runX (va_runSN (g := F0 m pc la (st0.map (am_v G))) (As := As.map (am_v G)) (rest := st.map (am_v G)) (Ts := am_Ts G) (host := host) ⟨hC.1, hC.2.1, hC.2.2.1, hC.2.2.2.1, hC.2.2.2.2.1⟩ hM.met ⟨am_CN hG hC hc hdd, hC.2.2.2.2.1 _ hi, trivial⟩ ⟨am_Pc_blind hG _, fun U hU hW => am_Pc_at hG (vs := As) hC hH hz hU hW⟩ rfl (by rw [List.length_map]; exact hn) hL.1 ?_ (lv_room (by rw [am_catS]; exact h8)) hd ⟨hu, hv⟩)) hg hu hv (fun _ _ h => absurd h id) kk
  show st0.map (am_v G) = (As.map (am_v G)).reverse ++ st.map (am_v G)
  rw [hst, List.map_append, List.map_reverse]
theorem AW.callIN {M' : am_M} {host : String} {d' idx n b : Nat} {As st0 : List Value} {Rt' : Option Value → am_w → Prop} (hG : am_ok G) (hc : am_cN G (am_y M).cls idx M' host n) (hi0 : (am_y M').name = "<init>") (hi : Cond.instanceMethod (am_y M') ∈ am_Ts G) (hr0 : am_t M' = none) (hM : AM G M' d' (.ref b :: As) w Rt' (fun _ _ => False)) (hdd : d' + 1 ≤ d)
    (hd : decode (am_b M) pc = .ok (.invokespecial idx, 3)) (hst : st0 = As.reverse ++ .ref b :: st) (hn : As.length = n) (h8 : (st.map fun v => v.category).sum ≤ 8) (hg : ∀ v w', Rt' v w' → w'.2.2.2.2 = 0 → w.2.2.2.2 = 0 ∧ w'.1.length = w.1.length + am_mc M') (hu : uc + am_mc M' ≤ am_mc M) (hv : us + am_ms M' ≤ am_ms M)
    (kk : ∀ v w', Rt' v w' → AW G M d Rt Th (pc + 3) ls (v.toList ++ st) w' (uc + am_mc M') (us + am_ms M')) : AW G M d Rt Th pc ls st0 w uc us := by
  intro p e s m args below meth c hC H locs la hH hL
  refine am_sized fun hz => ?_
  have hCN := am_CN (d := d) (d' := d') hG hC hc hdd
  rw [hr0] at hCN
  refine am_back (M' := M') (Th' := fun _ _ => False) (a := (Value.ref (am_ad G b) :: As.map (am_v G)).toArray) hC hH hL (am_runX (va_runIN (g := F0 m pc la (st0.map (am_v G))) (As := As.map (am_v G)) (rest := st.map (am_v G)) (b := am_ad G b) (Ts := am_Ts G) (host := host) ⟨hC.1, hC.2.1, hC.2.2.1, hC.2.2.2.1, hC.2.2.2.2.1⟩ hM.met ⟨hCN, hi0, hC.2.2.2.2.1 _ hi⟩ ⟨am_Pc_blind hG _, fun U hU hW => am_Pc_at hG (vs := .ref b :: As) hC hH hz hU hW⟩ rfl (by rw [List.length_map]; exact hn) hL.1 ?_ (lv_room (by rw [am_catS]; exact h8)) hd ⟨hu, hv⟩)) hg hu hv (fun _ _ h => absurd h id) kk
  show st0.map (am_v G) = (As.map (am_v G)).reverse ++ Value.ref (am_ad G b) :: st.map (am_v G)
  rw [hst, List.map_append, List.map_reverse]
  rfl
end AMC
