/-! MATH, COPIES, THROWS, NEW CELLS, THE END OF THE TIGHT WORLD -/
section AMM
variable {G : am_G} {M : am_M} {d : Nat} {Rt : Option Value → am_w → Prop} {Th : String → am_w → Prop} {pc : Nat} {ls : List (Option Value)} {st : List Value} {w : am_w} {uc us : Nat}
variable {sh : List (Nat ⊕ (Nat × Nat))} {I : Nat → Nat → Int32} {R : Nat → Nat → Option Nat} {L : Nat → Nat → Int64} {g : Nat}
theorem AW.mmax {idx : Nat} {x y : Int32} (h1 : Cond.methodLink (am_y M).cls idx Lib.Math.max.name ∈ am_Ts G) (h2 : Cond.static Lib.Math.max.name ∈ am_Ts G ∧ Cond.initialized "java/lang/Math" ∈ am_Ts G ∧ Cond.code Lib.Math.max.name Lib.Math.max.code 2 (some .int) ∈ am_Ts G) (hd : decode (am_b M) pc = .ok (.invokestatic idx, 3)) (hdd : 1 ≤ d) (h8 : (st.map fun v => v.category).sum ≤ 8) (hu : uc ≤ am_mc M) (hv : us ≤ am_ms M)
    (k : AW G M d Rt Th (pc + 3) ls (.int (if x < y then y else x) :: st) w uc us) : AW G M d Rt Th pc ls (.int y :: .int x :: st) w uc us := by
  intro p e s m args below meth c hC H locs la hH hL
  have hT := hC.2.2.2.2.1
  exact va_mmax hC.1 hC.2.1 (hC.2.2.1.trans hL.1.symm) hC.2.2.2.1 (hT _ h1) (hT _ h2.1) (hT _ h2.2.1) (hT _ h2.2.2) hdd (by rw [am_catS]; show _ + 13 ≤ 64 * d; omega) hu hv hd (k p e s m args below meth c hC H locs la hH hL)
theorem AW.mmin {idx : Nat} {x y : Int32} (h1 : Cond.methodLink (am_y M).cls idx Lib.Math.min.name ∈ am_Ts G) (h2 : Cond.static Lib.Math.min.name ∈ am_Ts G ∧ Cond.initialized "java/lang/Math" ∈ am_Ts G ∧ Cond.code Lib.Math.min.name Lib.Math.min.code 2 (some .int) ∈ am_Ts G) (hd : decode (am_b M) pc = .ok (.invokestatic idx, 3)) (hdd : 1 ≤ d) (h8 : (st.map fun v => v.category).sum ≤ 8) (hu : uc ≤ am_mc M) (hv : us ≤ am_ms M)
    (k : AW G M d Rt Th (pc + 3) ls (.int (if y < x then y else x) :: st) w uc us) : AW G M d Rt Th pc ls (.int y :: .int x :: st) w uc us := by
  intro p e s m args below meth c hC H locs la hH hL
  have hT := hC.2.2.2.2.1
  exact va_mmin hC.1 hC.2.1 (hC.2.2.1.trans hL.1.symm) hC.2.2.2.1 (hT _ h1) (hT _ h2.1) (hT _ h2.2.1) (hT _ h2.2.2) hdd (by rw [am_catS]; show _ + 13 ≤ 64 * d; omega) hu hv hd (k p e s m args below meth c hC H locs la hH hL)
theorem AW.mabs {idx : Nat} {x : Int32} (h1 : Cond.methodLink (am_y M).cls idx Lib.Math.abs.name ∈ am_Ts G) (h2 : Cond.static Lib.Math.abs.name ∈ am_Ts G ∧ Cond.initialized "java/lang/Math" ∈ am_Ts G ∧ Cond.code Lib.Math.abs.name Lib.Math.abs.code 1 (some .int) ∈ am_Ts G) (hd : decode (am_b M) pc = .ok (.invokestatic idx, 3)) (hdd : 1 ≤ d) (h8 : (st.map fun v => v.category).sum ≤ 8) (hu : uc ≤ am_mc M) (hv : us ≤ am_ms M)
    (k : AW G M d Rt Th (pc + 3) ls (.int (if 0 ≤ x then x else 0 - x) :: st) w uc us) : AW G M d Rt Th pc ls (.int x :: st) w uc us := by
  intro p e s m args below meth c hC H locs la hH hL
  have hT := hC.2.2.2.2.1
  exact va_mabs hC.1 hC.2.1 (hC.2.2.1.trans hL.1.symm) hC.2.2.2.1 (hT _ h1) (hT _ h2.1) (hT _ h2.2.1) (hT _ h2.2.2) hdd (by rw [am_catS]; show _ + 13 ≤ 64 * d; omega) hu hv hd (k p e s m args below meth c hC H locs la hH hL)
/-- System.arraycopy between int arrays (they may be one) -/
theorem AW.copy {idx c0 c1 n0 n1 : Nat} {sp dp n : Int32} (h1 : Cond.methodLink (am_y M).cls idx arraycopyName ∈ am_Ts G) (h2 : Cond.native arraycopyName ∈ am_Ts G ∧ Cond.static arraycopyName ∈ am_Ts G ∧ Cond.initialized "java/lang/System" ∈ am_Ts G) (hd : decode (am_b M) pc = .ok (.invokestatic idx, 3)) (hdd : 2 ≤ d) (h8 : (st.map fun v => v.category).sum ≤ 8)
    (hs0 : sh[c0]? = some (.inr (0, n0))) (hs1 : sh[c1]? = some (.inr (0, n1))) (k1 : ¬ sp < 0) (k2 : ¬ dp < 0) (k3 : ¬ n < 0) (k4 : sp.toNatClampNeg + n.toNatClampNeg ≤ n0) (k5 : dp.toNatClampNeg + n.toNatClampNeg ≤ n1)
    (k : AW G M d Rt Th (pc + 3) ls st (sh, am_uA I c1 (va_cpy (I c0) (I c1) sp.toNatClampNeg dp.toNatClampNeg n.toNatClampNeg), R, L, g) uc us) : AW G M d Rt Th pc ls (.int n :: .int dp :: .ref c1 :: .int sp :: .ref c0 :: st) (sh, I, R, L, g) uc us := by
  intro p e s m args below meth c hC H locs la hH hL
  have hT := hC.2.2.2.2.1
  have hat0 := am_at (G := G) (w := (sh, I, R, L, g)) hs0
  have hat1 := am_at (G := G) (w := (sh, I, R, L, g)) hs1
  have hset := am_set (G := G) (g := g) (R := R) (L := L) (R' := R) (L' := L) (I := I) (I' := am_uA I c1 (va_cpy (I c0) (I c1) sp.toNatClampNeg dp.toNatClampNeg n.toNatClampNeg)) hs1 (fun a ha => ⟨am_uA_o I c1 _ ha, rfl, rfl⟩)
  simp only [am_ce, am_uA_s] at hat0 hat1 hset
  show W _ _ _ _ _ _ _ _ _ _ _ _ _ _ _ (F0 m pc la (.int n :: .int dp :: .ref (am_ad G c1) :: .int sp :: .ref (am_ad G c0) :: st.map (am_v G)))
  rw [am_adc (w := (sh, I, R, L, g)) hH.2.2 hs0, am_adc (w := (sh, I, R, L, g)) hH.2.2 hs1]
  have hnat : nativeFrameWords "java/lang/System" "arraycopy" 5 ≤ 64 := by decide +kernel
  have hfr : 1 ≤ (am_rm M d).frames := by show 1 ≤ d; omega
  have hlo : ((st.map (am_v G)).map fun v => v.category).sum + (nativeFrameWords "java/lang/System" "arraycopy" 5 + 11) ≤ (am_rm M d).locals := by
    rw [am_catS]
    show _ ≤ 64 * d
    omega
  refine va_copyi (D := am_D G) (ty := .int) hC.1 hC.2.1 (hC.2.2.1.trans hL.1.symm) hC.2.2.2.1 (hT _ h1) (hT _ h2.1) (hT _ h2.2.1) (hT _ h2.2.2) hC.2.2.2.2.2.2.2.2.1 hH.1 (am_dis G _) hH.2.1 c0 c1 0 0 hat0 hat1 rfl rfl rfl k1 k2 k3 k4 k5 (fun _ _ => rfl) hfr hlo hd (fun H1 locs1 hP hD hS => ?_)
  rw [hset] at hP
  exact k p e s m args below meth c hC H1 locs1 la (hH.put (w' := (sh, am_uA I c1 (va_cpy (I c0) (I c1) sp.toNatClampNeg dp.toNatClampNeg n.toNatClampNeg), R, L, g)) rfl rfl hP hS) hL
/-- what a throw of own's asks of the tables and of what stands outside -/
def am_xS (G : am_G) (own : String) (ik is ic : Nat) (cls : String) : Prop :=
  (am_l G).stackTraces = false ∧ Cond.classLink own ik cls ∈ am_Ts G ∧ Cond.initialized cls ∈ am_Ts G ∧ ∃ (names : List String), names.length ≤ 3 ∧ Bundle.fit cls = true ∧ (∀ n ∈ names, Bundle.fit n = true) ∧
    (∀ w ∈ Cond.classLink own ik cls :: Cond.initialized cls :: vx_atS own ic cls names, vx_ot w = true) ∧
    ∀ (args : Array Value) (s : State), (∀ w ∈ am_Ts G, w.before args s = true) → am_O G s s.heap → (∀ w ∈ vx_atS own ic cls names, w.before args s = true) ∧ (∃ (text : String) (sa : Nat), vk_R own is text sa s) ∧ vx_Zq Bundle.tN "UNASSIGNED_STACK" Bundle.steD (am_A G) s s.heap ∧ vx_Zq Bundle.tN "SUPPRESSED_SENTINEL" Bundle.listD (am_A G) s s.heap
theorem am_thrown {cls : String} {p : Program} {s t : State} {m : MethodId} {args : Array Value} {meth : Method} {c : Code} {H : Heap} {locs : List Loc} (hg : w.2.2.2.2 ≠ 0) (hth : Th cls w) (hC : am_C G M p s m args meth c) (hH : am_H G w s H locs uc) (hv : s.vm.Alike t.vm) (hz : H.size ≤ t.heap.size) (hk : ∀ q : Nat, q < H.size → t.heap[q]? = H[q]?) : am_X G Th cls s t := by
  have h0 : am_h G ≤ H.size := Nat.le_trans hC.2.2.2.2.2.2.2.2.2.1 hH.2.1.1
  refine ⟨⟨w, hth, hH.1.kept (fun k q hq => hk q.1 (hH.1 k q hq).lt), va_K.moved hv hC.2.2.2.2.2.2.2.2.1, ⟨hH.2.2.1, fun g0 => absurd g0 hg⟩, Nat.le_trans h0 hz⟩, Nat.le_trans hH.2.1.1 hz, fun q h1 h2 => ?_⟩
  rw [hk q (Nat.lt_of_lt_of_le h1 hH.2.1.1)]
  exact hH.2.1.2.1 q h1 h2
theorem AW.throwS {ik is ic : Nat} {cls : String} (hx : am_xS G (am_y M).cls ik is ic cls) (d0 : decode (am_b M) pc = .ok (.new ik, 3)) (d3 : decode (am_b M) (pc + 3) = .ok (.dup, 1)) (d4 : decode (am_b M) (pc + 4) = .ok (.ldc is, 2)) (d6 : decode (am_b M) (pc + 6) = .ok (.invokespecial ic, 3)) (d9 : decode (am_b M) (pc + 9) = .ok (.athrow, 1))
    (hdd : 7 ≤ d) (h8 : (st.map fun v => v.category).sum ≤ 8) (hu : uc + 1 ≤ am_mc M) (hv : us + 6 ≤ am_ms M) (hg : w.2.2.2.2 ≠ 0) (hth : Th cls w) : AW G M d Rt Th pc ls st w uc us := by
  intro p e s m args below meth c hC H locs la hH hL
  have hT := hC.2.2.2.2.1
  obtain ⟨hl, x1, x2, names, hn, x3, x4, x5, x6⟩ := hx
  obtain ⟨y1, ⟨text, sa, y2⟩, y3, y4⟩ := x6 args s hT hC.2.2.2.2.2.2.2.2.2.2.1
  exact vx_throwS (names := names) (text := text) (sa := sa) (A := am_A G) hC.1 hC.2.1 hl hC.2.2.2.1 x3 x4 (hT _ x1) (hT _ x2) y2 y1 x5 y3 y4 hH.2.1 (hL.1.trans hC.2.2.1.symm) d0 d3 d4 d6 d9 (fun x hx9 => absurd (hC.2.2.2.2.2.2.2.2.2.2.2 x hx9) id) (by show _ < d; omega) (by rw [am_catS]; show _ ≤ 64 * d; omega) hu hv hC.2.2.2.2.2.2.1
    (fun t hal hz hk => am_thrown hg hth hC hH hal hz hk) hH.2.1.2.2 hu hv
theorem AW.throwSW {ik is ic : Nat} {cls : String} (hx : am_xS G (am_y M).cls ik is ic cls) (d0 : decode (am_b M) pc = .ok (.new ik, 3)) (d3 : decode (am_b M) (pc + 3) = .ok (.dup, 1)) (d4 : decode (am_b M) (pc + 4) = .ok (.ldc_w is, 3)) (d7 : decode (am_b M) (pc + 7) = .ok (.invokespecial ic, 3)) (d10 : decode (am_b M) (pc + 10) = .ok (.athrow, 1))
    (hdd : 7 ≤ d) (h8 : (st.map fun v => v.category).sum ≤ 8) (hu : uc + 1 ≤ am_mc M) (hv : us + 6 ≤ am_ms M) (hg : w.2.2.2.2 ≠ 0) (hth : Th cls w) : AW G M d Rt Th pc ls st w uc us := by
  intro p e s m args below meth c hC H locs la hH hL
  have hT := hC.2.2.2.2.1
  obtain ⟨hl, x1, x2, names, hn, x3, x4, x5, x6⟩ := hx
  obtain ⟨y1, ⟨text, sa, y2⟩, y3, y4⟩ := x6 args s hT hC.2.2.2.2.2.2.2.2.2.2.1
  exact vx_throwSW (names := names) (text := text) (sa := sa) (A := am_A G) hC.1 hC.2.1 hl hC.2.2.2.1 x3 x4 (hT _ x1) (hT _ x2) y2 y1 x5 y3 y4 hH.2.1 (hL.1.trans hC.2.2.1.symm) d0 d3 d4 d7 d10 (fun x hx9 => absurd (hC.2.2.2.2.2.2.2.2.2.2.2 x hx9) id) (by show _ < d; omega) (by rw [am_catS]; show _ ≤ 64 * d; omega) hu hv hC.2.2.2.2.2.2.1
    (fun t hal hz hk => am_thrown hg hth hC hH hal hz hk) hH.2.1.2.2 hu hv
theorem AW.objInit {idx b : Nat} (h1 : Cond.methodLink (am_y M).cls idx Lib.objectInit ∈ am_Ts G) (h2 : Cond.instanceMethod Lib.objectInit ∈ am_Ts G ∧ Cond.code Lib.objectInit ⟨#[0xb1]⟩ 1 none ∈ am_Ts G) (hd : decode (am_b M) pc = .ok (.invokespecial idx, 3)) (hdd : 1 ≤ d) (h8 : (st.map fun v => v.category).sum ≤ 8)
    (k : AW G M d Rt Th (pc + 3) ls st w uc us) : AW G M d Rt Th pc ls (.ref b :: st) w uc us := by
  intro p e s m args below meth c hC H locs la hH hL
  have hT := hC.2.2.2.2.1
  exact W.objInit hC.1 hC.2.1 hC.2.2.2.1 (hT _ h1) (hT _ h2.1) (hT _ h2.2) rfl (hL.1.trans hC.2.2.1.symm) rfl hd hdd (by
    have h9 := lv_room (m := m) (pc := pc) (ls := la) (rest := []) (st := st.map (am_v G)) (by rw [am_catS]; exact h8)
    have h10 : 2 * (F0 m pc la (am_v G (.ref b) :: st.map (am_v G))).monitorRoom + ((st.map (am_v G)).map fun v => v.category).sum ≤ 8 := h9
    show _ ≤ 64 * d
    have h11 : 2 * (F0 m pc la ((Value.ref b :: st).map (am_v G))).monitorRoom + ((st.map (am_v G)).map fun v => v.category).sum ≤ 8 := h10
    omega) (k p e s m args below meth c hC H locs la hH hL)
/-- from here on cells may be made beside the world -/
theorem AW.loose (k : AW G M d Rt Th pc ls st (sh, I, R, L, 1) uc us) : AW G M d Rt Th pc ls st (sh, I, R, L, g) uc us := by
  intro p e s m args below meth c hC H locs la hH hL
  exact k p e s m args below meth c hC H locs la ⟨hH.1, hH.2.1, hH.2.2.1, fun h => by cases h⟩ hL
theorem AW.widen {uc' us' : Nat} (h1 : uc ≤ uc') (h2 : us ≤ us') (hg : w.2.2.2.2 ≠ 0) (k : AW G M d Rt Th pc ls st w uc' us') : AW G M d Rt Th pc ls st w uc us := by
  intro p e s m args below meth c hC H locs la hH hL
  exact W.widen h1 h2 (k p e s m args below meth c hC H locs la ⟨hH.1, hH.2.1, hH.2.2.1, fun h => absurd h hg⟩ hL)
end AMM
