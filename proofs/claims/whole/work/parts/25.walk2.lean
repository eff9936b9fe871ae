/-! LOCALS THAT ARE NO LONGER USED -/
section AMK
variable {G : am_G} {M : am_M} {d : Nat} {Rt : Option Value → am_w → Prop} {Th : String → am_w → Prop} {pc : Nat} {ls : List (Option Value)} {st : List Value} {w : am_w} {uc us : Nat}
theorem AW.mask1 (j : Nat) (k : AW G M d Rt Th pc (ls.set j none) st w uc us) : AW G M d Rt Th pc ls st w uc us := by
  intro p e s m args below meth c hC H locs la hH hL
  refine k p e s m args below meth c hC H locs la hH ⟨hL.1, hL.2.1, fun i v h => ?_⟩
  by_cases hj : j = i
  · subst hj
    have hl : j < (ls.set j none).length := (List.getElem?_eq_some_iff.mp h).1
    rw [List.length_set] at hl
    rw [List.getElem?_set_self hl] at h
    cases h
  · rw [List.getElem?_set_ne hj] at h
    exact hL.2.2 i v h
theorem AW.mask (ks : List Nat) (ls' : List (Option Value)) (he : ks.foldl (fun l j => l.set j none) ls = ls') (k : AW G M d Rt Th pc ls' st w uc us) : AW G M d Rt Th pc ls st w uc us := by
  subst he
  induction ks generalizing ls with
  | nil => exact k
  | cons j ks ih => exact AW.mask1 j (ih k)
end AMK
