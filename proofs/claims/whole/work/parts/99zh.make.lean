/-! NEW CELLS WHILE THE HEAP IS TIGHT -/
theorem am_ws_app (G : am_G) (sh : List (Nat ⊕ (Nat × Nat))) (s : Nat ⊕ (Nat × Nat)) (I : Nat → Nat → Int32) (R : Nat → Nat → Option Nat) (L : Nat → Nat → Int64) (g g' : Nat) :
    am_ws G (sh ++ [s], I, R, L, g') = am_ws G (sh, I, R, L, g) ++ [(am_h G + sh.length, am_ce G s I R L sh.length)] := by
  refine List.ext_getElem? fun j => ?_
  by_cases hj : j < sh.length
  · rw [List.getElem?_append_left (by simp only [am_ws, List.length_map, List.length_range]; exact hj)]
    have e1 : (sh ++ [s])[j]? = some sh[j] := by rw [List.getElem?_append_left hj]; exact List.getElem?_eq_getElem hj
    rw [am_at (w := (sh ++ [s], I, R, L, g')) e1, am_at (w := (sh, I, R, L, g)) (List.getElem?_eq_getElem hj)]
  · rw [List.getElem?_append_right (by simp only [am_ws, List.length_map, List.length_range]; omega)]
    by_cases hj2 : j = sh.length
    · subst hj2
      have e1 : (sh ++ [s])[sh.length]? = some s := by simp
      rw [am_at (w := (sh ++ [s], I, R, L, g')) e1]
      simp [am_ws]
    · rw [List.getElem?_eq_none (by simp [am_ws]; omega), List.getElem?_eq_none (by simp [am_ws]; omega)]
/-- nothing stands yet from the cell n on -/
def u_fresh (n : Nat) (I : Nat → Nat → Int32) (R : Nat → Nat → Option Nat) (L : Nat → Nat → Int64) : Prop := ∀ a, n ≤ a → ∀ k, I a k = 0 ∧ R a k = none ∧ L a k = 0
section AMNW
variable {G : am_G} {M : am_M} {d : Nat} {Rt : Option Value → am_w → Prop} {Th : String → am_w → Prop} {pc : Nat} {ls : List (Option Value)} {st : List Value} {uc us : Nat}
variable {sh sh' : List (Nat ⊕ (Nat × Nat))} {I : Nat → Nat → Int32} {R : Nat → Nat → Option Nat} {L : Nat → Nat → Int64}
/-- the world with one more cell -/
theorem am_H.push {c : Nat} {x : Nat ⊕ (Nat × Nat)} {s : State} {H H1 : Heap} {locs : List Loc} (h : am_H G (sh, I, R, L, 0) s H locs uc) (hl : sh.length = c) (h9 : c < 1000) (z1 : H1.size = H.size + 1) (hz : H.size = am_h G + c) (o1 : ∀ q, q < H.size → H1[q]? = H[q]?)
    (hat : va_at (am_D G) (am_cl G) (am_h G + c, am_ce G x I R L c) H1) : am_H G (sh ++ [x], I, R, L, 0) s H1 locs (uc + 1) := by
  subst hl
  refine ⟨?_, ⟨Nat.le_trans h.2.1.1 (by omega), fun q h1 h2 => (o1 q (Nat.lt_of_lt_of_le h1 h.2.1.1)).trans (h.2.1.2.1 q h1 h2), h.2.1.2.2⟩, by show (sh ++ [x]).length ≤ 1000; simp; omega, fun _ => ?_⟩
  · rw [am_ws_app G sh x I R L 0 0]
    refine (h.1.kept (fun k q hk => o1 q.1 ((h.1 k q hk).lt))).app (fun k q hk => ?_)
    have hz : k < 1 := (List.getElem?_eq_some_iff.mp hk).1
    rw [show k = 0 by omega] at hk
    cases hk
    exact hat
  · have h3 : s.heap.size + uc = am_h G + sh.length := h.2.2.2 rfl
    show s.heap.size + (uc + 1) = am_h G + (sh ++ [x]).length
    simp
    omega
theorem AW.newO {idx ci N c : Nat} {C : String} {T : u_T} (ty : Nat → FieldType) (hc : (am_cl G)[ci]? = some (C, T, N)) (hin : ∀ w ∈ u_ws C T N, w ∈ am_Ts G) (hty : ∀ k, k < N → parseFieldDescriptor (T k).2.2.1 = some (ty k)) (hdf : ∀ k, k < N → defaultValue (ty k) = if am_rt (ty k) then .null else .int 0)
    (h1 : Cond.classLink (am_y M).cls idx C ∈ am_Ts G) (h2 : Cond.instantiable C N ∈ am_Ts G) (h3 : Cond.initialized C ∈ am_Ts G) (hl : sh.length = c) (h9 : c < 1000) (hfr : u_fresh c I R L) (hsh : sh ++ [.inl ci] = sh') (hd : decode (am_b M) pc = .ok (.new idx, 3)) (hu : uc + 1 ≤ am_mc M) (hv : us + N ≤ am_ms M)
    (kk : AW G M d Rt Th (pc + 3) ls (.ref c :: st) (sh', I, R, L, 0) (uc + 1) (us + N)) : AW G M d Rt Th pc ls st (sh, I, R, L, 0) uc us := by
  intro p e s m args below meth c0 hC H locs la hH hL
  refine am_sized fun hz => ?_
  have hT := hC.2.2.2.2.1
  have h0 : am_h G ≤ H.size := Nat.le_trans hC.2.2.2.2.2.2.2.2.2.1 hH.2.1.1
  have hsz : H.size = am_h G + c := by rw [← hl]; exact (hH.tight hz h0).2 rfl
  have hKn := hC.2.2.2.2.2.2.2.2.1.1 ci _ hc
  refine W.newcK hC.1 hC.2.1 hC.2.2.2.1 (hT _ h1) (hT _ h2) (hT _ h3) rfl hd hu hv hKn.2.1 hsz fun H1 kC hkC e1 z1 o1 => ?_
  have key := kk p e s m args below meth c0 hC H1 locs la (hsh ▸ hH.push hl h9 (by rw [z1, hsz]) hsz (by rw [hsz]; exact o1) ?_) hL
  · have e9 : am_ad G c = am_h G + c := by unfold am_ad; rw [if_pos (by omega)]
    have key2 : W p (am_l G) e (am_rm M d) s m args below meth c0 H1 locs (uc + 1) (us + N) (vx_MQ below (am_Q G Rt) (am_X G Th) args s (am_mc M) (am_ms M) (am_A G)) (F0 m (pc + 3) la (Value.ref (am_ad G c) :: st.map (am_v G))) := key
    rw [e9] at key2
    exact key2
  · refine ⟨_, hc, (u_born ty hT hin hKn hkC e1 hty).to fun j hj => ?_⟩
    have hfl : (am_fl G (C, T, N) I R c)[j]? = some (if am_ir T j then va_rf ((R c j).map (am_ad G)) else .int (I c j)) := am_fl_at (q := (C, T, N)) hj
    show defaultValue (ty j) = vp_V (am_fl G ((am_cl G).getD ci am_c0) I R c) j
    rw [am_getD hc, hdf j hj]
    unfold vp_V
    rw [List.getD, hfl, am_ir_of (hty j hj), (hfr c (Nat.le_refl _) j).1, (hfr c (Nat.le_refl _) j).2.1]
    rfl
theorem AW.newA {t n c : Nat} {nv : Int32} {atype : ArrayType} {ty : FieldType} (hty : newarray.typeOf atype = ty) (hw : Cond.arrayClass ty ∈ am_Ts G) (htt : (am_tys G)[t]? = some (am_cy G t, ty)) (hdv : defaultValue ty = .int 0) (hra : ∀ (U : State) (cA : ClassId), va_RA U cA ty → U.vm.findClass ("[" ++ ty.toString) = some cA)
    (hce : am_ce G (.inr (t, n)) I R L c = .inl (am_cy G t, n, .inl (I c))) (hn : ¬ nv < 0) (hN : nv.toNatClampNeg = n) (hby : n * componentBytes ty ≤ 536870912) (hl : sh.length = c) (h9 : c < 1000) (hfr : u_fresh c I R L) (hsh : sh ++ [.inr (t, n)] = sh') (hd : decode (am_b M) pc = .ok (.newarray atype, 2)) (hu : uc + 1 ≤ am_mc M) (hv : us + n ≤ am_ms M)
    (kk : AW G M d Rt Th (pc + 2) ls (.ref c :: st) (sh', I, R, L, 0) (uc + 1) (us + n)) : AW G M d Rt Th pc ls (.int nv :: st) (sh, I, R, L, 0) uc us := by
  subst hty
  intro p e s m args below meth c0 hC H locs la hH hL
  refine am_sized fun hz => ?_
  have hT := hC.2.2.2.2.1
  have h0 : am_h G ≤ H.size := Nat.le_trans hC.2.2.2.2.2.2.2.2.2.1 hH.2.1.1
  have hsz : H.size = am_h G + c := by rw [← hl]; exact (hH.tight hz h0).2 rfl
  refine va_newaK hC.1 hC.2.1 (hT _ hw) (g := F0 m pc la (.int nv :: st.map (am_v G))) rfl hd rfl hn hN hby hu hv hsz fun H1 cA e1 z1 o1 hAr hNm => ?_
  have hcA : cA = am_cy G t := Option.some.inj (hNm.symm.trans (hra s _ (hC.2.2.2.2.2.2.2.2.1.2 t _ htt).2))
  have key := kk p e s m args below meth c0 hC H1 locs la (hsh ▸ hH.push hl h9 (by rw [z1, hsz]) hsz (by rw [hsz]; exact o1) ?_) hL
  · have e9 : am_ad G c = am_h G + c := by unfold am_ad; rw [if_pos (by omega)]
    have key2 : W p (am_l G) e (am_rm M d) s m args below meth c0 H1 locs (uc + 1) (us + n) (vx_MQ below (am_Q G Rt) (am_X G Th) args s (am_mc M) (am_ms M) (am_A G)) (F0 m (pc + 2) la (Value.ref (am_ad G c) :: st.map (am_v G))) := key
    rw [e9] at key2
    exact key2
  · rw [hce]
    show H1[am_h G + c]? = some (vp_cell (am_cy G t) (n, .inl (I c)))
    rw [vp_cell_i, e1, hcA, hdv]
    congr 2
    funext j
    rw [(hfr c (Nat.le_refl _) j).1]
end AMNW
