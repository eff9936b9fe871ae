/-! MORE NEW CELLS: ROWS OF TEXTS, LONGS; THE SCRIPT -/
section AMNX
variable {G : am_G} {M : am_M} {d : Nat} {Rt : Option Value → am_w → Prop} {Th : String → am_w → Prop} {pc : Nat} {ls : List (Option Value)} {st : List Value} {uc us : Nat}
variable {sh sh' : List (Nat ⊕ (Nat × Nat))} {I : Nat → Nat → Int32} {R : Nat → Nat → Option Nat} {L : Nat → Nat → Int64} {g : Nat}
theorem AW.newL {n c : Nat} {nv : Int32} (hw : Cond.arrayClass .long ∈ am_Ts G) (hn : ¬ nv < 0) (hN : nv.toNatClampNeg = n) (hby : n * componentBytes .long ≤ 536870912) (hl : sh.length = c) (h9 : c < 1000) (hfr : u_fresh c I R L) (hsh : sh ++ [.inr (4, n)] = sh') (hd : decode (am_b M) pc = .ok (.newarray .long, 2)) (hu : uc + 1 ≤ am_mc M) (hv : us + n ≤ am_ms M)
    (kk : AW G M d Rt Th (pc + 2) ls (.ref c :: st) (sh', I, R, L, 0) (uc + 1) (us + n)) : AW G M d Rt Th pc ls (.int nv :: st) (sh, I, R, L, 0) uc us := by
  intro p e s m args below meth c0 hC H locs la hH hL
  refine am_sized fun hz => ?_
  have hT := hC.2.2.2.2.1
  have h0 : am_h G ≤ H.size := Nat.le_trans hC.2.2.2.2.2.2.2.2.2.1 hH.2.1.1
  have hsz : H.size = am_h G + c := by rw [← hl]; exact (hH.tight hz h0).2 rfl
  refine va_newaK (atype := .long) hC.1 hC.2.1 (hT _ hw) (g := F0 m pc la (.int nv :: st.map (am_v G))) rfl hd rfl hn hN hby hu hv hsz fun H1 cA e1 z1 o1 hAr hNm => ?_
  have hcA : cA = am_cy G 4 := Option.some.inj (hNm.symm.trans (hC.2.2.2.2.2.2.2.2.1.2 4 (am_cy G 4, .long) rfl).2)
  have key := kk p e s m args below meth c0 hC H1 locs la (hsh ▸ hH.push hl h9 (by rw [z1, hsz]) hsz (by rw [hsz]; exact o1) ?_) hL
  · have e9 : am_ad G c = am_h G + c := by unfold am_ad; rw [if_pos (by omega)]
    have key2 : W p (am_l G) e (am_rm M d) s m args below meth c0 H1 locs (uc + 1) (us + n) (vx_MQ below (am_Q G Rt) (am_X G Th) args s (am_mc M) (am_ms M) (am_A G)) (F0 m (pc + 2) la (Value.ref (am_ad G c) :: st.map (am_v G))) := key
    rw [e9] at key2
    exact key2
  · show H1[am_h G + c]? = some (vp_cell (am_cy G 4) (n, .inr (.inl (L c))))
    rw [vp_cell_l, e1, hcA]
    congr 2
    funext j
    rw [(hfr c (Nat.le_refl _) j).2.2]
    rfl
theorem AW.newS {idx n c : Nat} {nv : Int32} (hA : ∀ s H, am_O G s H → va_AO "java/lang/String" s) (h1 : Cond.classLink (am_y M).cls idx "java/lang/String" ∈ am_Ts G) (hn : ¬ nv < 0) (hN : nv.toNatClampNeg = n) (hby : n * 4 ≤ 536870912) (hl : sh.length = c) (h9 : c < 1000) (hfr : u_fresh c I R L) (hsh : sh ++ [.inr (3, n)] = sh') (hd : decode (am_b M) pc = .ok (.anewarray idx, 3)) (hu : uc + 1 ≤ am_mc M) (hv : us + n ≤ am_ms M)
    (kk : AW G M d Rt Th (pc + 3) ls (.ref c :: st) (sh', I, R, L, 0) (uc + 1) (us + n)) : AW G M d Rt Th pc ls (.int nv :: st) (sh, I, R, L, 0) uc us := by
  subst hN
  intro p e s m args below meth c0 hC H locs la hH hL
  refine am_sized fun hz => ?_
  have hT := hC.2.2.2.2.1
  have h0 : am_h G ≤ H.size := Nat.le_trans hC.2.2.2.2.2.2.2.2.2.1 hH.2.1.1
  have hsz : H.size = am_h G + c := by rw [← hl]; exact (hH.tight hz h0).2 rfl
  refine W.anew (C := "java/lang/String") hC.1 hC.2.1 hC.2.2.2.1 (hT _ h1) (va_AO.use (hA s _ hC.2.2.2.2.2.2.2.2.2.2.1)) (g := F0 m pc la (.int nv :: st.map (am_v G))) rfl hd rfl hn hby hu hv fun cA kA comp f1 f2 f3 f4 => ?_
  generalize hH1 : H.push ({ cls := cA, slots := Array.replicate nv.toNatClampNeg .null, vm := .none } : Cell) = H1
  have z1 : H1.size = H.size + 1 := by rw [← hH1, Array.size_push]
  have e1 : H1[H.size]? = some (arrV cA nv.toNatClampNeg (fun _ => .null)) := by rw [← hH1, Array.getElem?_push_size, ← arrV_new]
  have o1 : ∀ q : Nat, q < H.size → H1[q]? = H[q]? := fun q hq => by rw [← hH1, Array.getElem?_push, if_neg (Nat.ne_of_lt hq)]
  have hcA : cA = am_cy G 3 := by
    obtain ⟨kA', comp', g1, g2, g3, g4⟩ := (hC.2.2.2.2.2.2.2.2.1.2 3 (am_cy G 3, .object "java/lang/String") rfl).2
    exact Option.some.inj (f1.symm.trans g4)
  have key := kk p e s m args below meth c0 hC H1 locs la (hsh ▸ hH.push hl h9 z1 hsz o1 ?_) hL
  · have e9 : am_ad G c = am_h G + c := by unfold am_ad; rw [if_pos (by omega)]
    have key2 : W p (am_l G) e (am_rm M d) s m args below meth c0 H1 locs (uc + 1) (us + nv.toNatClampNeg) (vx_MQ below (am_Q G Rt) (am_X G Th) args s (am_mc M) (am_ms M) (am_A G)) (F0 m (pc + 3) la (Value.ref (am_ad G c) :: st.map (am_v G))) := key
    rw [e9, ← hsz] at key2
    exact key2
  · show H1[am_h G + c]? = some (vp_cell (am_cy G 3) (nv.toNatClampNeg, .inr (.inr (.inr (.inr fun k => (R c k).map (am_ad G))))))
    rw [vp_cell_q, ← hsz, e1, hcA]
    congr 2
    funext j
    rw [(hfr c (Nat.le_refl _) j).2.1]
    rfl
/-- a text constant into a row of texts -/
theorem AW.astX {c n j : Nat} {i : Int32} (hK : k_OK G) (q : String × Nat × String × Nat × List Int32) (hq : q ∈ k_str) (hj : q.2.2.2.1 = j) (hs : sh[c]? = some (.inr (3, n))) (hi : vp_in i n) (hd : decode (am_b M) pc = .ok (.aastore, 1))
    (kk : AW G M d Rt Th (pc + 1) ls st (sh, I, am_uR R c i.toNatClampNeg (some (1000000 + j)), L, g) uc us) : AW G M d Rt Th pc ls (.ref (1000000 + j) :: .int i :: .ref c :: st) (sh, I, R, L, g) uc us := by
  intro p e s m args below meth c0 hC H locs la hH hL
  have hO := ((hK.2.1 s s.heap hC.2.2.2.2.2.2.2.2.2.2.1).2.1 q hq).2.1
  rw [hj] at hO
  have hat := am_at (G := G) (w := (sh, I, R, L, g)) hs
  have hset := am_set (G := G) (g := g) (R := R) (L := L) (R' := am_uR R c i.toNatClampNeg (some (1000000 + j))) (L' := L) (I := I) (I' := I) hs (fun a ha => ⟨rfl, am_uR_o R c _ _ ha, rfl⟩)
  simp only [am_ce] at hat hset
  have hfun : (fun k => (am_uR R c i.toNatClampNeg (some (1000000 + j)) c k).map (am_ad G)) = va_up (fun k => (R c k).map (am_ad G)) i.toNatClampNeg (some (am_sa G j)) := by
    funext k
    rw [am_uR_s]
    unfold va_up
    by_cases hk : k = i.toNatClampNeg
    · rw [if_pos hk, if_pos hk, Option.map_some, am_adx]
    · rw [if_neg hk, if_neg hk]
  rw [hfun] at hset
  show W _ _ _ _ _ _ _ _ _ _ _ _ _ _ _ (F0 m pc la (.ref (am_ad G (1000000 + j)) :: .int i :: .ref (am_ad G c) :: st.map (am_v G)))
  rw [am_adc (w := (sh, I, R, L, g)) hH.2.2 hs, am_adx]
  have hr : ∃ cellV : Cell, H[am_sa G j]? = some cellV ∧ cellV.vm.isStatics = false ∧ s.vm.findClass "java/lang/String" = some cellV.cls := by
    obtain ⟨cell, g1, g2, g3, g4⟩ := hO
    exact ⟨cell, by rw [hH.2.1.2.1 _ (Array.getElem?_eq_some_iff.mp g1).1 g4]; exact g1, g2, g3⟩
  refine vb_astq (D := am_D G) (E := "java/lang/String") (C := "java/lang/String") hC.1 hC.2.1 hC.2.2.2.2.2.2.2.2.1 hH.1 (am_dis G _) hH.2.1 c 3 hat rfl hr vb_asgS hi hd (fun H1 locs1 hP hD hS => ?_)
  rw [hset] at hP
  exact kk p e s m args below meth c0 hC H1 locs1 la (hH.put (w' := (sh, I, am_uR R c i.toNatClampNeg (some (1000000 + j)), L, g)) rfl rfl hP hS) hL
/-- the script's row stands outside -/
def k_scr (G : am_G) (n : Nat) (xs : Nat → Int32) : Prop := ∀ s H, am_O G s H → va_X (am_sa G 3000000) n xs s H ∧ ¬ am_A G (am_sa G 3000000)
theorem AW.sld {n : Nat} {xs : Nat → Int32} {i : Int32} (hX : k_scr G n xs) (hi : vp_in i n) (hd : decode (am_b M) pc = .ok (.iaload, 1))
    (kk : AW G M d Rt Th (pc + 1) ls (.int (xs i.toNatClampNeg) :: st) (sh, I, R, L, g) uc us) : AW G M d Rt Th pc ls (.int i :: .ref (1000000 + 3000000) :: st) (sh, I, R, L, g) uc us := by
  intro p e s m args below meth c0 hC H locs la hH hL
  obtain ⟨hx, hA⟩ := hX s s.heap hC.2.2.2.2.2.2.2.2.2.2.1
  show W _ _ _ _ _ _ _ _ _ _ _ _ _ _ _ (F0 m pc la (.int i :: .ref (am_ad G (1000000 + 3000000)) :: st.map (am_v G)))
  rw [am_adx]
  obtain ⟨scr, q1, q2⟩ := hx
  exact va_sld hC.1 hC.2.1 ⟨scr, q1, q2⟩ (Array.getElem?_eq_some_iff.mp q1).1 hA hH.2.1 hi hd (kk p e s m args below meth c0 hC H locs la hH hL)
theorem AW.slen {n : Nat} {xs : Nat → Int32} (hX : k_scr G n xs) (hd : decode (am_b M) pc = .ok (.arraylength, 1))
    (kk : AW G M d Rt Th (pc + 1) ls (.int (nI n) :: st) (sh, I, R, L, g) uc us) : AW G M d Rt Th pc ls (.ref (1000000 + 3000000) :: st) (sh, I, R, L, g) uc us := by
  intro p e s m args below meth c0 hC H locs la hH hL
  obtain ⟨hx, hA⟩ := hX s s.heap hC.2.2.2.2.2.2.2.2.2.2.1
  show W _ _ _ _ _ _ _ _ _ _ _ _ _ _ _ (F0 m pc la (.ref (am_ad G (1000000 + 3000000)) :: st.map (am_v G)))
  rw [am_adx]
  obtain ⟨scr, q1, q2⟩ := hx
  exact va_slen hC.1 hC.2.1 ⟨scr, q1, q2⟩ (Array.getElem?_eq_some_iff.mp q1).1 hA hH.2.1 hd (kk p e s m args below meth c0 hC H locs la hH hL)
end AMNX
