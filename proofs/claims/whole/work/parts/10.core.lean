/-! A SHALLOW LAYER OVER THE MACHINE: one world of numbered cells for class and reference; the judgement AW at a program point, AM of a method. -/
section AMD
/-- the launch, the classes, the words, what stands outside; where the worlds begin, the text constants' cells, class numbers and slots, array classes -/
abbrev am_G : Type := (Launch × List vw_C × List Cond × (State → Heap → Prop)) × Nat × (Nat → Nat) × va_G × (Nat → ClassId)
abbrev am_l (G : am_G) : Launch := G.1.1
abbrev am_cl (G : am_G) : List vw_C := G.1.2.1
abbrev am_Ts (G : am_G) : List Cond := G.1.2.2.1
abbrev am_O (G : am_G) : State → Heap → Prop := G.1.2.2.2
abbrev am_h (G : am_G) : Nat := G.2.1
abbrev am_sa (G : am_G) : Nat → Nat := G.2.2.1
abbrev am_D (G : am_G) : va_G := G.2.2.2.1
abbrev am_cy (G : am_G) : Nat → ClassId := G.2.2.2.2
/-- a world: the cells' shapes, whole numbers, references, longs, how many cells beside it were made since -/
abbrev am_w : Type := List (Nat ⊕ (Nat × Nat)) × (Nat → Nat → Int32) × (Nat → Nat → Option Nat) × (Nat → Nat → Int64) × Nat
def am_A (G : am_G) : Nat → Prop := fun q => am_h G ≤ q
def am_tys (G : am_G) : List (ClassId × FieldType) := [(am_cy G 0, .int), (am_cy G 1, .byte), (am_cy G 2, .boolean), (am_cy G 3, .object "java/lang/String"), (am_cy G 4, .long)]
def am_ad (G : am_G) (c : Nat) : Nat := if c < 1000000 then am_h G + c else am_sa G (c - 1000000)
def am_v (G : am_G) (v : Value) : Value := match v with
  | .ref c => .ref (am_ad G c)
  | .int x => .int x
  | .long x => .long x
  | .float x => .float x
  | .double x => .double x
  | .null => .null
  | .retAddr x => .retAddr x
def am_rt (ty : FieldType) : Bool := match ty with
  | .object _ => true
  | .array _ => true
  | _ => false
def am_ir (T : u_T) (k : Nat) : Bool := match parseFieldDescriptor (T k).2.2.1 with
  | some ty => am_rt ty
  | none => false
def am_fl (G : am_G) (q : vw_C) (I : Nat → Nat → Int32) (R : Nat → Nat → Option Nat) (c : Nat) : List Value := (List.range q.2.2).map fun k => if am_ir q.2.1 k then va_rf ((R c k).map (am_ad G)) else .int (I c k)
def am_c0 : vw_C := ("", fun _ => ("", "", "", false), 0)
def am_ce (G : am_G) (s : Nat ⊕ (Nat × Nat)) (I : Nat → Nat → Int32) (R : Nat → Nat → Option Nat) (L : Nat → Nat → Int64) (c : Nat) : va_E := match s with
  | .inl ci => .inr (ci, am_fl G ((am_cl G).getD ci am_c0) I R c)
  | .inr (3, n) => .inl (am_cy G 3, n, .inr (.inr (.inr (.inr fun k => (R c k).map (am_ad G)))))
  | .inr (4, n) => .inl (am_cy G 4, n, .inr (.inl (L c)))
  | .inr (t, n) => .inl (am_cy G t, n, .inl (I c))
def am_ws (G : am_G) (w : am_w) : va_W := (List.range w.1.length).map fun c => (am_h G + c, am_ce G (w.1.getD c (.inl 0)) w.2.1 w.2.2.1 w.2.2.2.1 c)
def am_S (G : am_G) (w : am_w) (n : Nat) : Prop := w.1.length ≤ 1000 ∧ (w.2.2.2.2 = 0 → n = am_h G + w.1.length)
def am_W (G : am_G) (w : am_w) (U : State) : Prop := va_P (am_D G) (am_cl G) (am_ws G w) U.heap ∧ va_K (am_D G) (am_cl G) (am_tys G) U ∧ am_S G w U.heap.size ∧ am_h G ≤ U.heap.size
/-- a method: its name, code, locals, answer, cells and slots that it may make -/
abbrev am_M : Type := MethodName × ByteArray × Nat × Option FieldType × Nat × Nat
abbrev am_y (M : am_M) : MethodName := M.1
abbrev am_b (M : am_M) : ByteArray := M.2.1
abbrev am_n (M : am_M) : Nat := M.2.2.1
abbrev am_t (M : am_M) : Option FieldType := M.2.2.2.1
abbrev am_mc (M : am_M) : Nat := M.2.2.2.2.1
abbrev am_ms (M : am_M) : Nat := M.2.2.2.2.2
def am_words (G : am_G) (M : am_M) : List Cond := Cond.code (am_y M) (am_b M) (am_n M) (am_t M) :: am_Ts G
def am_rm (M : am_M) (d : Nat) : Room := { frames := d, cells := am_mc M, slots := am_ms M, locals := 64 * d }
def am_Q (G : am_G) (Rt : Option Value → am_w → Prop) : Array Value → State → Outcome → State → Prop := fun _ st o t => (∃ (v : Option Value) (w : am_w), o = .returned (v.map (am_v G)) ∧ Rt v w ∧ am_W G w t) ∧ va_F (am_A G) st t
def am_X (G : am_G) (Th : String → am_w → Prop) : String → State → State → Prop := fun E st t => (∃ w : am_w, Th E w ∧ am_W G w t) ∧ va_F (am_A G) st t
def am_Pc (G : am_G) (args : List Value) (w : am_w) : Array Value → State → Prop := va_Pc (args.map (am_v G)) (fun U => am_W G w U ∧ am_O G U U.heap)
/-- what stands outside stays, if no cell below the worlds changes -/
def am_ok (G : am_G) : Prop := (∀ (s U : State) (H H1 : Heap), am_O G s H → s.WarmedH U.vm → (∀ a : Nat, a < H.size → ¬ am_A G a → H1[a]? = H[a]?) → am_O G U H1) ∧ (∀ w ∈ am_Ts G, (w.onTables && w.keeps) = true ∨ ∃ ty, w = .arrayClass ty)
/-- a method's contract: from the world w with these arguments it returns with Rt, or throws with Th -/
def AM (G : am_G) (M : am_M) (d : Nat) (args : List Value) (w : am_w) (Rt : Option Value → am_w → Prop) (Th : String → am_w → Prop) : Prop :=
  vx_Met (am_l G) (am_y M) (am_words G M) (am_rm M d) (am_Pc G args w) (am_Q G Rt) (am_X G Th) (am_mc M) (am_ms M) (am_A G)
def am_C (G : am_G) (M : am_M) (p : Program) (s : State) (m : MethodId) (args : Array Value) (meth : Method) (c : Code) : Prop :=
  p.tables.exec = Jvm.exec ∧ c.code = am_b M ∧ c.maxLocals = am_n M ∧ s.vm.findClass (am_y M).cls = some m.cls ∧ (∀ w ∈ am_Ts G, w.before args s = true) ∧ meth.sig.returnType = am_t M ∧ meth.locks = false ∧ meth.name = (am_y M).name ∧ va_K (am_D G) (am_cl G) (am_tys G) s ∧ am_h G ≤ s.heap.size ∧ am_O G s s.heap ∧ (∀ x ∈ c.exceptionTable.toList, False)
def am_H (G : am_G) (w : am_w) (s : State) (H : Heap) (locs : List Loc) (uc : Nat) : Prop := va_P (am_D G) (am_cl G) (am_ws G w) H ∧ va_S (am_A G) s.heap H locs ∧ am_S G w (s.heap.size + uc)
def am_Ls (G : am_G) (n : Nat) (ls : List (Option Value)) (la : Array Slot) : Prop := la.size = n ∧ lv_wf la ∧ ∀ (i : Nat) (v : Value), ls[i]? = some (some v) → la[i]? = some (.val (am_v G v))
/-- at a program point, with these locals, this stack, this world: the method comes to its end -/
def AW (G : am_G) (M : am_M) (d : Nat) (Rt : Option Value → am_w → Prop) (Th : String → am_w → Prop) (pc : Nat) (ls : List (Option Value)) (st : List Value) (w : am_w) (uc us : Nat) : Prop :=
  ∀ (p : Program) (e : Env) (s : State) (m : MethodId) (args : Array Value) (below : List Frame) (meth : Method) (c : Code), am_C G M p s m args meth c →
    ∀ (H : Heap) (locs : List Loc) (la : Array Slot), am_H G w s H locs uc → am_Ls G (am_n M) ls la →
      W p (am_l G) e (am_rm M d) s m args below meth c H locs uc us (vx_MQ below (am_Q G Rt) (am_X G Th) args s (am_mc M) (am_ms M) (am_A G)) (F0 m pc la (st.map (am_v G)))
theorem am_cat (G : am_G) (v : Value) : (am_v G v).category = v.category := by cases v <;> rfl
theorem am_catS (G : am_G) (st : List Value) : ((st.map (am_v G)).map fun v => v.category).sum = (st.map fun v => v.category).sum := by
  induction st with
  | nil => rfl
  | cons v st ih => simp only [List.map_cons, List.sum_cons, am_cat]; rw [ih]
theorem am_at {G : am_G} {w : am_w} {c : Nat} {s : Nat ⊕ (Nat × Nat)} (h : w.1[c]? = some s) : (am_ws G w)[c]? = some (am_h G + c, am_ce G s w.2.1 w.2.2.1 w.2.2.2.1 c) := by
  have hl : c < w.1.length := (List.getElem?_eq_some_iff.mp h).1
  have hs : w.1.getD c (.inl 0) = s := by simp [List.getD, h]
  simp only [am_ws, List.getElem?_map, List.getElem?_range hl, Option.map_some, hs]
theorem am_dis (G : am_G) (w : am_w) : va_D (am_A G) (am_ws G w) := by
  have key : ∀ (k : Nat) (q : Nat × va_E), (am_ws G w)[k]? = some q → q.1 = am_h G + k := by
    intro k q h
    simp only [am_ws, List.getElem?_map] at h
    cases hr : (List.range w.1.length)[k]? with
    | none => rw [hr] at h; cases h
    | some j =>
      rw [hr] at h
      have hk : k < (List.range w.1.length).length := (List.getElem?_eq_some_iff.mp hr).1
      rw [List.length_range] at hk
      rw [List.getElem?_range hk] at hr
      cases hr
      cases h
      rfl
  refine ⟨fun i j p q hp hq hpq => ?_, fun k q h => ?_⟩
  · have h1 := key i p hp
    have h2 := key j q hq
    omega
  · rw [key k q h]
    exact Nat.le_add_right _ _
theorem am_adc {G : am_G} {w : am_w} {c : Nat} {s : Nat ⊕ (Nat × Nat)} {n : Nat} (hs : am_S G w n) (h : w.1[c]? = some s) : am_ad G c = am_h G + c := by
  have hl : c < w.1.length := (List.getElem?_eq_some_iff.mp h).1
  have := hs.1
  unfold am_ad
  rw [if_pos (by omega)]
/-- the list of cells with one of them set -/
theorem am_set {G : am_G} {sh : List (Nat ⊕ (Nat × Nat))} {I I' : Nat → Nat → Int32} {R R' : Nat → Nat → Option Nat} {L L' : Nat → Nat → Int64} {g : Nat} {c : Nat} {s : Nat ⊕ (Nat × Nat)} (h : sh[c]? = some s)
    (ho : ∀ a, a ≠ c → I' a = I a ∧ R' a = R a ∧ L' a = L a) : (am_ws G (sh, I, R, L, g)).set c (am_h G + c, am_ce G s I' R' L' c) = am_ws G (sh, I', R', L', g) := by
  have hl : c < sh.length := (List.getElem?_eq_some_iff.mp h).1
  have hs : sh.getD c (.inl 0) = s := by simp [List.getD, h]
  refine List.ext_getElem? fun j => ?_
  rw [List.getElem?_set]
  by_cases hj : c = j
  · subst hj
    rw [if_pos rfl, if_pos (by simp [am_ws, hl])]
    exact (am_at (w := (sh, I', R', L', g)) h).symm
  · rw [if_neg hj]
    obtain ⟨e1, e2, e3⟩ := ho j (fun q => hj q.symm)
    simp only [am_ws, List.getElem?_map]
    by_cases hjl : j < sh.length
    · rw [List.getElem?_range hjl]
      simp only [Option.map_some]
      congr 2
      unfold am_ce am_fl
      rw [e1, e2, e3]
    · rw [List.getElem?_eq_none (by simp; omega)]
      rfl
def am_up (I : Nat → Nat → Int32) (c k : Nat) (x : Int32) : Nat → Nat → Int32 := fun a => if a = c then upd (I c) k x else I a
def am_uR (R : Nat → Nat → Option Nat) (c k : Nat) (x : Option Nat) : Nat → Nat → Option Nat := fun a => if a = c then va_up (R c) k x else R a
def am_uL (L : Nat → Nat → Int64) (c k : Nat) (x : Int64) : Nat → Nat → Int64 := fun a => if a = c then vp_updL (L c) k x else L a
def am_uA (I : Nat → Nat → Int32) (c : Nat) (f : Nat → Int32) : Nat → Nat → Int32 := fun a => if a = c then f else I a
theorem am_up_s (I : Nat → Nat → Int32) (c k : Nat) (x : Int32) : am_up I c k x c = upd (I c) k x := if_pos rfl
theorem am_up_o (I : Nat → Nat → Int32) (c k : Nat) (x : Int32) {a : Nat} (h : a ≠ c) : am_up I c k x a = I a := if_neg h
theorem am_uR_s (I : Nat → Nat → Option Nat) (c k : Nat) (x : Option Nat) : am_uR I c k x c = va_up (I c) k x := if_pos rfl
theorem am_uR_o (I : Nat → Nat → Option Nat) (c k : Nat) (x : Option Nat) {a : Nat} (h : a ≠ c) : am_uR I c k x a = I a := if_neg h
theorem am_uL_s (I : Nat → Nat → Int64) (c k : Nat) (x : Int64) : am_uL I c k x c = vp_updL (I c) k x := if_pos rfl
theorem am_uL_o (I : Nat → Nat → Int64) (c k : Nat) (x : Int64) {a : Nat} (h : a ≠ c) : am_uL I c k x a = I a := if_neg h
theorem am_uA_s (I : Nat → Nat → Int32) (c : Nat) (f : Nat → Int32) : am_uA I c f c = f := if_pos rfl
theorem am_uA_o (I : Nat → Nat → Int32) (c : Nat) (f : Nat → Int32) {a : Nat} (h : a ≠ c) : am_uA I c f a = I a := if_neg h
/-- locals as the kit lists them -/
def am_prs (G : am_G) (ls : List (Option Value)) : List (Nat × Value) := (List.range ls.length).filterMap fun i => match ls[i]? with
  | some (some v) => some (i, am_v G v)
  | _ => none
theorem am_prs_in {G : am_G} {ls : List (Option Value)} {i : Nat} {v : Value} (h : ls[i]? = some (some v)) : (i, am_v G v) ∈ am_prs G ls := by
  refine List.mem_filterMap.mpr ⟨i, List.mem_range.mpr (List.getElem?_eq_some_iff.mp h).1, ?_⟩
  simp only [h]
theorem am_prs_of {G : am_G} {ls : List (Option Value)} {q : Nat × Value} (h : q ∈ am_prs G ls) : ∃ v, ls[q.1]? = some (some v) ∧ q.2 = am_v G v := by
  obtain ⟨i, -, h2⟩ := List.mem_filterMap.mp h
  split at h2
  next v hv => cases h2; exact ⟨v, hv, rfl⟩
  next => cases h2
theorem am_Ls.has {G : am_G} {n : Nat} {ls : List (Option Value)} {la : Array Slot} (h : am_Ls G n ls la) : lv_has la n (am_prs G ls) :=
  ⟨h.1, h.2.1, fun q hq => by obtain ⟨v, h1, h2⟩ := am_prs_of hq; rw [h2]; exact h.2.2 _ _ h1⟩
def am_nl (ls : List (Option Value)) (i : Nat) : Bool := match i with
  | 0 => true
  | j + 1 => match ls[j]? with
    | some (some v) => v.category == 1
    | _ => true
theorem am_Ls.set {G : am_G} {n i : Nat} {ls : List (Option Value)} {la : Array Slot} {v : Value} (hz : am_nl ls i = true)
    (h : lv_has la n ((i, am_v G v) :: (am_prs G ls).filter (fun q => !(q.1 == i) && !(q.1 + 1 == i && q.2.category == 2)))) : am_Ls G n (ls.set i (some v)) la := by
  refine ⟨h.1, h.2.1, fun j u hj => ?_⟩
  by_cases hij : i = j
  · subst hij
    have hl : i < (ls.set i (some v)).length := (List.getElem?_eq_some_iff.mp hj).1
    rw [List.length_set] at hl
    rw [List.getElem?_set_self hl] at hj
    cases hj
    exact h.2.2 _ List.mem_cons_self
  · rw [List.getElem?_set_ne hij] at hj
    refine h.2.2 (j, am_v G u) (List.mem_cons_of_mem _ (List.mem_filter.mpr ⟨am_prs_in hj, ?_⟩))
    have h1 : (j == i) = false := by simpa using fun q => hij q.symm
    simp only [h1, Bool.not_false, Bool.true_and, Bool.not_eq_true', Bool.and_eq_false_iff]
    by_cases hk : j + 1 = i
    · right
      subst hk
      simp only [am_nl, hj] at hz
      rw [am_cat]
      simp only [beq_iff_eq] at hz
      rw [hz]
      rfl
    · left
      simpa using hk
theorem am_sized {p : Program} {l : Launch} {e : Env} {R : Room} {s : State} {m : MethodId} {args : Array Value} {below : List Frame} {meth : Method} {c : Code} {H : Heap} {locs : List Loc} {cells slots : Nat} {Q : State → Prop} {g : JFrame}
    (k : H.size ≤ s.heap.size + cells → W p l e R s m args below meth c H locs cells slots Q g) : W p l e R s m args below meth c H locs cells slots Q g := fun T hT X => k (by rw [← hT]; exact X.heapSize) T hT X
/-- the heap ends just behind the world, while nothing else was made -/
theorem am_H.tight {G : am_G} {w : am_w} {s : State} {H : Heap} {locs : List Loc} {uc : Nat} (h : am_H G w s H locs uc) (hz : H.size ≤ s.heap.size + uc) (h0 : am_h G ≤ H.size) : am_S G w H.size := by
  refine ⟨h.2.2.1, fun g0 => ?_⟩
  have h1 := h.2.2.2 g0
  have h2 : am_h G + w.1.length ≤ H.size := by
    cases hw : w.1.length with
    | zero => exact h0
    | succ n =>
      have hn : n < w.1.length := by omega
      have h3 := (h.1 n _ (am_at (List.getElem?_eq_getElem hn))).lt
      have h4 : am_h G + n < H.size := h3
      omega
  omega
/-- the world at the method's end -/
theorem am_H.W {G : am_G} {M : am_M} {w : am_w} {p : Program} {s t : State} {m : MethodId} {args : Array Value} {meth : Method} {c : Code} {H : Heap} {locs : List Loc} {uc : Nat} (h : am_H G w s H locs uc) (hC : am_C G M p s m args meth c) (hz : H.size ≤ s.heap.size + uc) (ht : t.heap = H) (hv : s.vm.Alike t.vm) : am_W G w t := by
  have h0 : am_h G ≤ H.size := Nat.le_trans hC.2.2.2.2.2.2.2.2.2.1 h.2.1.1
  refine ⟨by rw [ht]; exact h.1, va_K.moved hv hC.2.2.2.2.2.2.2.2.1, by rw [ht]; exact h.tight hz h0, by rw [ht]; exact h0⟩
end AMD
