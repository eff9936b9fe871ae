/-! METHODS WITH HANDLERS: the judgement AH, as AW, with the table's rows -/
section AHD
def am_CH (G : am_G) (M : am_M) (hh : List (Nat × Nat × Nat × Nat)) (p : Program) (s : State) (m : MethodId) (args : Array Value) (meth : Method) (c : Code) : Prop :=
  p.tables.exec = Jvm.exec ∧ c.code = am_b M ∧ c.maxLocals = am_n M ∧ s.vm.findClass (am_y M).cls = some m.cls ∧ (∀ w ∈ am_Ts G, w.before args s = true) ∧ meth.sig.returnType = am_t M ∧ meth.locks = false ∧ meth.name = (am_y M).name ∧ va_K (am_D G) (am_cl G) (am_tys G) s ∧ am_h G ≤ s.heap.size ∧ am_O G s s.heap ∧ c.exceptionTable.toList.map (fun h => (h.startPc, h.endPc, h.handlerPc, h.catchType)) = hh
def AH (G : am_G) (M : am_M) (hh : List (Nat × Nat × Nat × Nat)) (d : Nat) (Rt : Option Value → am_w → Prop) (Th : String → am_w → Prop) (pc : Nat) (ls : List (Option Value)) (st : List Value) (w : am_w) (uc us : Nat) : Prop :=
  ∀ (p : Program) (e : Env) (s : State) (m : MethodId) (args : Array Value) (below : List Frame) (meth : Method) (c : Code), am_CH G M hh p s m args meth c →
    ∀ (H : Heap) (locs : List Loc) (la : Array Slot), am_H G w s H locs uc → am_Ls G (am_n M) ls la →
      W p (am_l G) e (am_rm M d) s m args below meth c H locs uc us (vx_MQ below (am_Q G Rt) (am_X G Th) args s (am_mc M) (am_ms M) (am_A G)) (F0 m pc la (st.map (am_v G)))
def am_wordsH (G : am_G) (M : am_M) (hh : List (Nat × Nat × Nat × Nat)) : List Cond := Cond.codeWith (am_y M) (am_b M) (am_n M) (am_t M) hh :: am_Ts G
def AMH (G : am_G) (M : am_M) (hh : List (Nat × Nat × Nat × Nat)) (d : Nat) (args : List Value) (w : am_w) (Rt : Option Value → am_w → Prop) (Th : String → am_w → Prop) : Prop :=
  vx_Met (am_l G) (am_y M) (am_wordsH G M hh) (am_rm M d) (am_Pc G args w) (am_Q G Rt) (am_X G Th) (am_mc M) (am_ms M) (am_A G)
variable {G : am_G} {M : am_M} {hh : List (Nat × Nat × Nat × Nat)} {d : Nat} {Rt : Option Value → am_w → Prop} {Th : String → am_w → Prop} {pc : Nat} {ls : List (Option Value)} {st : List Value} {w : am_w} {uc us : Nat}
variable {sh : List (Nat ⊕ (Nat × Nat))} {I : Nat → Nat → Int32} {R : Nat → Nat → Option Nat} {L : Nat → Nat → Int64} {g : Nat}
theorem am_H.WH {w : am_w} {p : Program} {s t : State} {m : MethodId} {args : Array Value} {meth : Method} {c : Code} {H : Heap} {locs : List Loc} {uc : Nat} (h : am_H G w s H locs uc) (hC : am_CH G M hh p s m args meth c) (hz : H.size ≤ s.heap.size + uc) (ht : t.heap = H) (hv : s.vm.Alike t.vm) : am_W G w t := by
  have h0 : am_h G ≤ H.size := Nat.le_trans hC.2.2.2.2.2.2.2.2.2.1 h.2.1.1
  refine ⟨by rw [ht]; exact h.1, va_K.moved hv hC.2.2.2.2.2.2.2.2.1, by rw [ht]; exact h.tight hz h0, by rw [ht]; exact h0⟩
theorem am_Pc_atH (hG : am_ok G) {vs : List Value} {p : Program} {s U : State} {m : MethodId} {args : Array Value} {meth : Method} {c : Code} {H : Heap} {locs : List Loc} (hC : am_CH G M hh p s m args meth c) (hH : am_H G w s H locs uc) (hz : H.size ≤ s.heap.size + uc) (hU : U.heap = H) (hW : s.WarmedH U.vm) : am_Pc G vs w (vs.map (am_v G)).toArray U :=
  ⟨rfl, hH.WH hC hz hU hW.alike, by rw [hU]; exact hG.1 s U s.heap H hC.2.2.2.2.2.2.2.2.2.2.1 hW hH.2.1.2.1⟩
theorem am_CBH (hG : am_ok G) {M' : am_M} {d' n idx : Nat} {p : Program} {s : State} {m : MethodId} {args : Array Value} {meth : Method} {c : Code} (hC : am_CH G M hh p s m args meth c) (h : am_cB G M' n) (hl : Cond.methodLink (am_y M).cls idx (am_y M') ∈ am_Ts G) (hdd : d' + 1 ≤ d) :
    CallB (am_rm M d) s args (am_y M).cls idx (am_y M') (am_b M') (am_n M') (am_t M') (am_words G M') (am_rm M' d') (am_mc M') (am_ms M') n := by
  refine callB_of (Ts := am_Ts G) n hC.2.2.2.2.1 (am_good hG h) rfl rfl rfl (hC.2.2.2.2.1 _ h.1) (hC.2.2.2.2.1 _ hl) h.2.2.1 ⟨hdd, ?_⟩
  have := h.2.2.2
  show 8 + (am_n M' + 11) + 64 * d' ≤ 64 * d
  omega
theorem AH.iconst {n : Int} (v : Int32) (hd : decode (am_b M) pc = .ok (.iconst n, 1)) (hv : Int32.ofInt n = v) (k : AH G M hh d Rt Th (pc + 1) ls (.int v :: st) w uc us) : AH G M hh d Rt Th pc ls st w uc us := by
  intro p e s m args below meth c hC H locs la hH hL
  exact lv_iconst hC.1 hC.2.1 hd hv (k p e s m args below meth c hC H locs la hH hL)
theorem AH.aload_n {i : Fin 4} {x : Nat} (hd : decode (am_b M) pc = .ok (.aload_n i, 1)) (hl : ls[(i : Nat)]? = some (some (.ref x))) (k : AH G M hh d Rt Th (pc + 1) ls (.ref x :: st) w uc us) : AH G M hh d Rt Th pc ls st w uc us := by
  intro p e s m args below meth c hC H locs la hH hL
  exact lv_aload_n hC.1 hC.2.1 hd rfl (hL.2.2 _ _ hl) (k p e s m args below meth c hC H locs la hH hL)
theorem AH.aload {i : Nat} {x : Nat} (hd : decode (am_b M) pc = .ok (.aload i, 2)) (hl : ls[i]? = some (some (.ref x))) (k : AH G M hh d Rt Th (pc + 2) ls (.ref x :: st) w uc us) : AH G M hh d Rt Th pc ls st w uc us := by
  intro p e s m args below meth c hC H locs la hH hL
  exact lv_aload hC.1 hC.2.1 hd (hL.2.2 _ _ hl) (k p e s m args below meth c hC H locs la hH hL)
theorem AH.iload_n {i : Fin 4} {x : Int32} (hd : decode (am_b M) pc = .ok (.iload_n i, 1)) (hl : ls[(i : Nat)]? = some (some (.int x))) (k : AH G M hh d Rt Th (pc + 1) ls (.int x :: st) w uc us) : AH G M hh d Rt Th pc ls st w uc us := by
  intro p e s m args below meth c hC H locs la hH hL
  exact lv_iload_n hC.1 hC.2.1 hd rfl (hL.2.2 _ _ hl) (k p e s m args below meth c hC H locs la hH hL)
theorem AH.iload {i : Nat} {x : Int32} (hd : decode (am_b M) pc = .ok (.iload i, 2)) (hl : ls[i]? = some (some (.int x))) (k : AH G M hh d Rt Th (pc + 2) ls (.int x :: st) w uc us) : AH G M hh d Rt Th pc ls st w uc us := by
  intro p e s m args below meth c hC H locs la hH hL
  exact lv_iload hC.1 hC.2.1 hd (hL.2.2 _ _ hl) (k p e s m args below meth c hC H locs la hH hL)
theorem AH.i2l {x : Int32} (hd : decode (am_b M) pc = .ok (.i2l, 1))  (k : AH G M hh d Rt Th (pc + 1) ls (.long x.toInt64 :: st) w uc us) : AH G M hh d Rt Th pc ls (.int x :: st) w uc us := by
  intro p e s m args below meth c hC H locs la hH hL
  exact lv_i2l hC.1 hC.2.1 hd rfl (k p e s m args below meth c hC H locs la hH hL)
theorem AH.lconst {n : Fin 2} (v : Int64) (hd : decode (am_b M) pc = .ok (.lconst n, 1)) (hv : Int64.ofNat (n : Nat) = v) (k : AH G M hh d Rt Th (pc + 1) ls (.long v :: st) w uc us) : AH G M hh d Rt Th pc ls st w uc us := by
  intro p e s m args below meth c hC H locs la hH hL
  exact lv_lconst hC.1 hC.2.1 hd hv (k p e s m args below meth c hC H locs la hH hL)
theorem AH.goto {off : Int} (tgt : Nat) (hd : decode (am_b M) pc = .ok (.goto off, 3)) (ht : (pc : Int) + off = (tgt : Int)) (k : AH G M hh d Rt Th tgt ls st w uc us) : AH G M hh d Rt Th pc ls st w uc us := by
  intro p e s m args below meth c hC H locs la hH hL
  exact lv_goto hC.1 hC.2.1 hd ht (k p e s m args below meth c hC H locs la hH hL)
theorem AH.if_eq {x : Int32} {off : Int} (tgt : Nat) (hd : decode (am_b M) pc = .ok (.ifCond .eq off, 3)) (ht : (pc : Int) + off = (tgt : Int)) (k1 : x = 0 → AH G M hh d Rt Th tgt ls st w uc us) (k2 : ¬ (x = 0) → AH G M hh d Rt Th (pc + 3) ls st w uc us) : AH G M hh d Rt Th pc ls (.int x :: st) w uc us := by
  intro p e s m args below meth c hC H locs la hH hL
  exact lv_if_eq hC.1 hC.2.1 hd ht (fun h => k1 h p e s m args below meth c hC H locs la hH hL) (fun h => k2 h p e s m args below meth c hC H locs la hH hL)
theorem AH.last {c n : Nat} {i : Int32} {x : Int64} (hs : sh[c]? = some (.inr (4, n))) (hi : vp_in i n) (hd : decode (am_b M) pc = .ok (.lastore, 1))
    (kk : AH G M hh d Rt Th (pc + 1) ls st (sh, I, R, am_uL L c i.toNatClampNeg x, g) uc us) : AH G M hh d Rt Th pc ls (.long x :: .int i :: .ref c :: st) (sh, I, R, L, g) uc us := by
  intro p e s m args below meth c0 hC H locs la hH hL
  have hat := am_at (G := G) (w := (sh, I, R, L, g)) hs
  have hset := am_set (G := G) (g := g) (R := R) (L := L) (R' := R) (L' := am_uL L c i.toNatClampNeg x) (I := I) (I' := I) hs (fun a ha => ⟨rfl, rfl, am_uL_o L c _ _ ha⟩)
  simp only [am_ce, am_uL_s] at hat hset
  show W _ _ _ _ _ _ _ _ _ _ _ _ _ _ _ (F0 m pc la (.long x :: .int i :: .ref (am_ad G c) :: st.map (am_v G)))
  rw [am_adc (w := (sh, I, R, L, g)) hH.2.2 hs]
  refine va_last (D := am_D G) hC.1 hC.2.1 hC.2.2.2.2.2.2.2.2.1 hH.1 (am_dis G _) hH.2.1 c 4 hat rfl hi hd (fun H1 locs1 hP hD hS => ?_)
  rw [hset] at hP
  exact kk p e s m args below meth c0 hC H1 locs1 la (hH.put (w' := (sh, I, R, am_uL L c i.toNatClampNeg x, g)) rfl rfl hP hS) hL
theorem AH.iret {x : Int32} (hd : decode (am_b M) pc = .ok (.ireturn, 1)) (hr : am_t M = some .int) (hu : uc ≤ am_mc M) (hv : us ≤ am_ms M) (k : Rt (some (.int x)) w) : AH G M hh d Rt Th pc ls [.int x] w uc us := by
  intro p e s m args below meth c hC H locs la hH hL
  refine am_sized fun hz => W.widen hu hv (vx_ret ?_)
  exact W.iret hC.1 hC.2.1 (hC.2.2.2.2.2.1.trans hr) (fun t ht hW => ⟨⟨_, w, rfl, k, hH.WH hC hz ht hW.alike⟩, hH.2.1.F ht⟩) hH.2.1.2.2 hd hC.2.2.2.2.2.2.1
/-- the row that takes E, thrown at pc: its handler -/
def ah_take (G : am_G) (own : String) (hh : List (Nat × Nat × Nat × Nat)) (pc : Nat) (E : String) (hpc : Nat) : Prop :=
  (∃ (a b t : Nat) (rest : List (Nat × Nat × Nat × Nat)) (nm : String), hh = (a, b, hpc, t) :: rest ∧ a ≤ pc ∧ pc < b ∧ t ≠ 0 ∧ Cond.classLink own t nm ∈ am_Ts G ∧ ∀ s H, am_O G s H → va_Nw (.castable E nm) s) ∨
  (∃ (r0 : Nat × Nat × Nat × Nat) (a b t : Nat) (rest : List (Nat × Nat × Nat × Nat)) (nm nm0 : String), hh = r0 :: (a, b, hpc, t) :: rest ∧ r0.2.2.2 ≠ 0 ∧ Cond.classLink own r0.2.2.2 nm0 ∈ am_Ts G ∧ (∀ s H, am_O G s H → va_Nc E nm0 s) ∧ a ≤ pc ∧ pc < b ∧ t ≠ 0 ∧ Cond.classLink own t nm ∈ am_Ts G ∧ ∀ s H, am_O G s H → va_Nw (.castable E nm) s)
/-- the handler: it lays the throwable aside and answers a number -/
def ah_hd (M : am_M) (hpc : Nat) (x : Int32) : Prop :=
  (∃ (i : Fin 4) (n : Int), decode (am_b M) hpc = .ok (.astore_n i, 1) ∧ (i : Nat) < am_n M ∧ decode (am_b M) (hpc + 1) = .ok (.iconst n, 1) ∧ Int32.ofInt n = x ∧ decode (am_b M) (hpc + 2) = .ok (.ireturn, 1)) ∨
  (∃ (i : Nat) (n : Int), decode (am_b M) hpc = .ok (.astore i, 2) ∧ i < am_n M ∧ decode (am_b M) (hpc + 2) = .ok (.iconst n, 1) ∧ Int32.ofInt n = x ∧ decode (am_b M) (hpc + 3) = .ok (.ireturn, 1))
theorem ah_end {hpc : Nat} {x : Int32} {q : Addr} {p : Program} {e : Env} {s : State} {m : MethodId} {args : Array Value} {below : List Frame} {meth : Method} {c : Code} {H : Heap} {locs : List Loc} {la : Array Slot} (hC : am_CH G M hh p s m args meth c) (hH : am_H G w s H locs uc) (hL : am_Ls G (am_n M) ls la) (hd : ah_hd M hpc x) (hr : am_t M = some .int) (hu : uc ≤ am_mc M) (hv : us ≤ am_ms M) (k : Rt (some (.int x)) w) :
    W p (am_l G) e (am_rm M d) s m args below meth c H locs uc us (vx_MQ below (am_Q G Rt) (am_X G Th) args s (am_mc M) (am_ms M) (am_A G)) (F0 m hpc la [.ref q]) := by
  have key : ∀ (la2 : Array Slot) (pc2 : Nat), decode (am_b M) pc2 = .ok (.ireturn, 1) → W p (am_l G) e (am_rm M d) s m args below meth c H locs uc us (vx_MQ below (am_Q G Rt) (am_X G Th) args s (am_mc M) (am_ms M) (am_A G)) (F0 m pc2 la2 [.int x]) := by
    intro la2 pc2 h9
    refine am_sized fun hz => W.widen hu hv (vx_ret ?_)
    exact W.iret hC.1 hC.2.1 (hC.2.2.2.2.2.1.trans hr) (fun t ht hW => ⟨⟨_, w, rfl, k, hH.WH hC hz ht hW.alike⟩, hH.2.1.F ht⟩) hH.2.1.2.2 h9 hC.2.2.2.2.2.2.1
  rcases hd with ⟨i, n, d1, hi, d2, d3, d4⟩ | ⟨i, n, d1, hi, d2, d3, d4⟩
  · exact lv_astore_n hC.1 hC.2.1 d1 rfl hL.has hi rfl (fun la2 hl2 => lv_iconst hC.1 hC.2.1 d2 d3 (key la2 _ d4))
  · exact lv_astore hC.1 hC.2.1 d1 hL.has hi rfl (fun la2 hl2 => lv_iconst hC.1 hC.2.1 d2 d3 (key la2 _ d4))
theorem AH.callV {M' : am_M} {d' idx n ci b : Nat} {As st0 : List Value} {Rt' : Option Value → am_w → Prop} {Th' : String → am_w → Prop} (hG : am_ok G) (hc : am_cV G (am_y M).cls idx M' n ci) (hs : w.1[b]? = some (.inl ci)) (hM : AM G M' d' (.ref b :: As) w Rt' Th') (hdd : d' + 1 ≤ d)
    (hd : decode (am_b M) pc = .ok (.invokevirtual idx, 3)) (hst : st0 = As.reverse ++ .ref b :: st) (hn : As.length = n) (h8 : (st.map fun v => v.category).sum ≤ 8) (hg : ∀ v w', Rt' v w' → w'.2.2.2.2 ≠ 0) (hu : uc + am_mc M' ≤ am_mc M) (hv : us + am_ms M' ≤ am_ms M) (hr : am_t M = some .int)
    (hx : ∀ E w', Th' E w' → w'.2.2.2.2 ≠ 0 ∧ ∃ (hpc : Nat) (x : Int32), ah_take G (am_y M).cls hh pc E hpc ∧ ah_hd M hpc x ∧ Rt (some (.int x)) w') (kk : ∀ v w', Rt' v w' → AH G M hh d Rt Th (pc + 3) ls (v.toList ++ st) w' (uc + am_mc M') (us + am_ms M')) : AH G M hh d Rt Th pc ls st0 w uc us := by
  intro p e s m args below meth c hC H locs la hH hL
  refine am_sized fun hz => ?_
  obtain ⟨hB, hl, hi, hse, T0, N0, hci⟩ := hc
  have hat := am_at (G := G) hs
  have hrecv := va_recv (D := am_D G) hC.2.2.2.2.2.2.2.2.1 hH.1 hci (he := hat)
  rw [← am_adc hH.2.2 hs] at hrecv
  have hcw : CallW (am_rm M d) s args (am_y M).cls (am_y M').cls idx (am_y M') (am_b M') (am_n M') (am_t M') (am_words G M') (am_rm M' d') (am_mc M') (am_ms M') n := ⟨am_CBH hG hC hB hl hdd, hC.2.2.2.2.1 _ hi, hC.2.2.2.2.1 _ hse⟩
  have hrun := vx_runV (p := p) (e := e) (below := below) (meth := meth) (locs := locs) (cells := uc) (slots := us) (g := F0 m pc la (st0.map (am_v G))) (As := As.map (am_v G)) (rest := st.map (am_v G)) (b := am_ad G b) (Ts := am_Ts G) (C := (am_y M').cls) ⟨hC.1, hC.2.1, hC.2.2.1, hC.2.2.2.1, hC.2.2.2.2.1⟩ hM hcw ⟨am_Pc_blind hG _, hrecv, fun U hU hW => am_Pc_atH hG (vs := .ref b :: As) hC hH hz hU hW⟩ rfl (by rw [List.length_map]; exact hn) hL.1 (by
    show st0.map (am_v G) = (As.map (am_v G)).reverse ++ Value.ref (am_ad G b) :: st.map (am_v G)
    rw [hst, List.map_append, List.map_reverse]
    rfl) (lv_room (by rw [am_catS]; exact h8)) hd ⟨hu, hv⟩
  intro T hT X
  rcases hrun T hT X with ⟨v, st₀, t, T', L, h0, X', hL', e1, e2, ⟨⟨v', w', hv', hp, hw'⟩, hF⟩, st'⟩ | ⟨q, st₀, t, T', L, E, ce, h0, X', hL', e1, e2, ⟨⟨w', hp, hw'⟩, hF⟩, hce, hcv, hcl, st'⟩
  · cases hv'
    obtain ⟨k1, k2, k3⟩ := vx_keep (A0 := am_A G) (A1 := am_A G) (free := am_A G) h0 e1 hH.2.1 (fun _ _ h => h) (fun _ h => h) hL' hF
    have hH' : am_H G w' s T'.heap (locs ++ L) (uc + am_mc M') := ⟨by rw [e1]; exact hw'.1, k3, hw'.2.2.1.1, fun g0 => absurd g0 (hg _ _ hp)⟩
    have key := kk v' w' hp p e s m args below meth c hC T'.heap (locs ++ L) la hH' hL T' rfl X'
    obtain ⟨t2, a1, b1⟩ := key
    refine ⟨t2, st' t2 ?_, b1⟩
    have hst : (v'.toList ++ st).map (am_v G) = (v'.map (am_v G)).toList ++ st.map (am_v G) := by cases v' <;> rfl
    rw [hst] at a1
    exact a1
  · obtain ⟨k1, k2, k3⟩ := vx_keep (A0 := am_A G) (A1 := am_A G) (free := am_A G) h0 e1 hH.2.1 (fun _ _ h => h) (fun _ h => h) hL' hF
    obtain ⟨hg0, hpc, x, htk, hhd, hrt⟩ := hx _ _ hp
    have hH' : am_H G w' s T'.heap (locs ++ L) (uc + am_mc M') := ⟨by rw [e1]; exact hw'.1, k3, hw'.2.2.1.1, fun g0 => absurd g0 hg0⟩
    have hTs := hC.2.2.2.2.1
    have hO := hC.2.2.2.2.2.2.2.2.2.2.1
    have htb := hC.2.2.2.2.2.2.2.2.2.2.2
    rcases htk with ⟨a, b9, t9, rest, nm, rfl, p1, p2, p3, p4, p5⟩ | ⟨r0, a, b9, t9, rest, nm, nm0, rfl, q1, q2, q3, p1, p2, p3, p4, p5⟩
    · obtain ⟨x9, suf, hl9, hr9, -⟩ := List.map_eq_cons_iff.mp htb
      have f1 : x9.startPc = a := congrArg (fun r : Nat × Nat × Nat × Nat => r.1) hr9
      have f2 : x9.endPc = b9 := congrArg (fun r : Nat × Nat × Nat × Nat => r.2.1) hr9
      have f3 : x9.handlerPc = hpc := congrArg (fun r : Nat × Nat × Nat × Nat => r.2.2.1) hr9
      have f4 : x9.catchType = t9 := congrArg (fun r : Nat × Nat × Nat × Nat => r.2.2.2) hr9
      have hcov : covers x9 pc = true := by simp [covers, f1, f2, p1, p2]
      have key := vx_catch (p := p) (l := am_l G) (e := e) (R := am_rm M d) (s := s) (m := m) (args := args) (below := below) (meth := meth) (c := c) (H := T'.heap) (locs := locs ++ L) (cells := uc + am_mc M') (slots := us + am_ms M') (Q := vx_MQ below (am_Q G Rt) (am_X G Th) args s (am_mc M) (am_ms M) (am_A G)) (pc := pc) (ls := la) (rest := st.map (am_v G)) (own := (am_y M).cls) (name := nm) (E := E) (ce := ce) (q := q)
        hC.2.2.2.1 [] x9 suf hl9 (fun z hz => by cases hz) hcov (by rw [f4]; exact p3) (by rw [f4]; exact hTs _ p4) (va_Nw.use (A := args) rfl (p5 s _ hO)) (by rw [e1]; exact hce) hcv hcl (by rw [f3]; exact ah_end hC hH' hL hhd hr hu hv hrt)
      obtain ⟨t2, a1, b1⟩ := key T' rfl X'
      exact ⟨t2, st'.trans a1, b1⟩
    · obtain ⟨z9, suf0, hl0, hr0, hs0⟩ := List.map_eq_cons_iff.mp htb
      obtain ⟨x9, suf, hl9, hr9, -⟩ := List.map_eq_cons_iff.mp hs0
      have f1 : x9.startPc = a := congrArg (fun r : Nat × Nat × Nat × Nat => r.1) hr9
      have f2 : x9.endPc = b9 := congrArg (fun r : Nat × Nat × Nat × Nat => r.2.1) hr9
      have f3 : x9.handlerPc = hpc := congrArg (fun r : Nat × Nat × Nat × Nat => r.2.2.1) hr9
      have f4 : x9.catchType = t9 := congrArg (fun r : Nat × Nat × Nat × Nat => r.2.2.2) hr9
      have f5 : z9.catchType = r0.2.2.2 := congrArg (fun r : Nat × Nat × Nat × Nat => r.2.2.2) hr0
      have hcov : covers x9 pc = true := by simp [covers, f1, f2, p1, p2]
      have key := vx_catch (p := p) (l := am_l G) (e := e) (R := am_rm M d) (s := s) (m := m) (args := args) (below := below) (meth := meth) (c := c) (H := T'.heap) (locs := locs ++ L) (cells := uc + am_mc M') (slots := us + am_ms M') (Q := vx_MQ below (am_Q G Rt) (am_X G Th) args s (am_mc M) (am_ms M) (am_A G)) (pc := pc) (ls := la) (rest := st.map (am_v G)) (own := (am_y M).cls) (name := nm) (E := E) (ce := ce) (q := q)
        hC.2.2.2.1 [z9] x9 suf (by rw [hl0, hl9]; rfl) (fun z hz => by
          rw [List.mem_singleton] at hz
          subst hz
          exact Or.inr ⟨by rw [f5]; exact q1, nm0, by rw [f5]; exact hTs _ q2, q3 s _ hO⟩) hcov (by rw [f4]; exact p3) (by rw [f4]; exact hTs _ p4) (va_Nw.use (A := args) rfl (p5 s _ hO)) (by rw [e1]; exact hce) hcv hcl (by rw [f3]; exact ah_end hC hH' hL hhd hr hu hv hrt)
      obtain ⟨t2, a1, b1⟩ := key T' rfl X'
      exact ⟨t2, st'.trans a1, b1⟩
/-- a contract out of the walk -/
theorem AMH.of {vs : List Value} {n : Nat} (hy : plainName (am_y M).cls = true) (hl : (lg_sl vs).length ≤ am_n M) (k : AH G M hh d Rt Th 0 (am_l0 vs ++ List.replicate n none) [] w 0 0) : AMH G M hh d vs w Rt Th := by
  refine vx_ofWH (cc := am_b M) (maxL := am_n M) (ret := am_t M) (hh := hh) hy rfl ?_
  intro p e s m args below meth c s₁ B hml hv
  obtain ⟨rfl, hW, hO⟩ := hv
  have hown : s.vm.findClass (am_y M).cls = some m.cls := findClass_of_methodNamed B.named
  have hts := atoms_spec (ws := am_wordsH G M hh) B.pre
  have htb : c.exceptionTable.toList.map (fun h => (h.startPc, h.endPc, h.handlerPc, h.catchType)) = hh := by
    obtain ⟨m9, meth9, c9, hn9, h1, h2, h3, h4, h5, -⟩ := Cond.codeWith_spec (hts _ List.mem_cons_self)
    cases B.named.symm.trans hn9
    cases Option.some.inj (h1.symm.trans B.method)
    cases Option.some.inj (h2.symm.trans (Stand.of_body B).code)
    exact h5
  have hC : am_CH G M hh p s m (vs.map (am_v G)).toArray meth c := ⟨B.exec, B.bytes, hml, hown, fun w hw => hts w (List.mem_cons_of_mem _ hw), B.returns, B.notSynchronized, (name_of_methodNamed B.named B.method).1, hW.2.1, hW.2.2.2, hO, htb⟩
  have hl := lv_entry (vs.map (am_v G)) (n := am_n M) (by rw [am_lg_len]; exact hl)
  rw [lg_entry_eq]
  generalize (lg_sl (vs.map (am_v G)) ++ List.replicate (am_n M - (lg_sl (vs.map (am_v G))).length) Slot.unset).toArray = la at hl ⊢
  have hL : am_Ls G (am_n M) (am_l0 vs ++ List.replicate n none) la := ⟨hl.1, hl.2.1, fun i v h => hl.2.2 (i, am_v G v) (by have := am_l0_in G vs n 0 i v h; rwa [Nat.zero_add] at this)⟩
  exact k p e s m _ below meth c hC s.heap [] la ⟨hW.1, va_S.rf, hW.2.2.1.1, fun g0 => hW.2.2.1.2 g0⟩ hL
end AHD
