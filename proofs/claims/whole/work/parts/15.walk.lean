/-! NAMES FOR VALUES, STORES WITH THEIR LOCALS, COUNTING LOOPS, OBJECTS BY THEIR FIRST CELL -/
section AMN
variable {G : am_G} {M : am_M} {d : Nat} {Rt : Option Value → am_w → Prop} {Th : String → am_w → Prop} {pc : Nat} {ls : List (Option Value)} {st : List Value} {w : am_w} {uc us : Nat}
variable {sh : List (Nat ⊕ (Nat × Nat))} {I : Nat → Nat → Int32} {R : Nat → Nat → Option Nat} {L : Nat → Nat → Int64} {g : Nat}
theorem AW.nam {x : Int32} (k : ∀ y : Int32, y = x → AW G M d Rt Th pc ls (.int y :: st) w uc us) : AW G M d Rt Th pc ls (.int x :: st) w uc us := k x rfl
theorem AW.namI (k : ∀ I' : Nat → Nat → Int32, I' = I → AW G M d Rt Th pc ls st (sh, I', R, L, g) uc us) : AW G M d Rt Th pc ls st (sh, I, R, L, g) uc us := k I rfl
theorem AW.is_n {i : Fin 4} {x : Int32} (ls' : List (Option Value)) (hd : decode (am_b M) pc = .ok (.istore_n i, 1)) (hn : (i : Nat) < am_n M) (hz : am_nl ls (i : Nat) = true) (he : ls.set (i : Nat) (some (.int x)) = ls') (k : AW G M d Rt Th (pc + 1) ls' st w uc us) : AW G M d Rt Th pc ls (.int x :: st) w uc us := AW.istore_n hd hn hz (he ▸ k)
theorem AW.is {i : Nat} {x : Int32} (ls' : List (Option Value)) (hd : decode (am_b M) pc = .ok (.istore i, 2)) (hn : i < am_n M) (hz : am_nl ls i = true) (he : ls.set i (some (.int x)) = ls') (k : AW G M d Rt Th (pc + 2) ls' st w uc us) : AW G M d Rt Th pc ls (.int x :: st) w uc us := AW.istore hd hn hz (he ▸ k)
theorem AW.as_n {i : Fin 4} {x : Nat} (ls' : List (Option Value)) (hd : decode (am_b M) pc = .ok (.astore_n i, 1)) (hn : (i : Nat) < am_n M) (hz : am_nl ls (i : Nat) = true) (he : ls.set (i : Nat) (some (.ref x)) = ls') (k : AW G M d Rt Th (pc + 1) ls' st w uc us) : AW G M d Rt Th pc ls (.ref x :: st) w uc us := AW.astore_n hd hn hz (he ▸ k)
theorem AW.as {i : Nat} {x : Nat} (ls' : List (Option Value)) (hd : decode (am_b M) pc = .ok (.astore i, 2)) (hn : i < am_n M) (hz : am_nl ls i = true) (he : ls.set i (some (.ref x)) = ls') (k : AW G M d Rt Th (pc + 2) ls' st w uc us) : AW G M d Rt Th pc ls (.ref x :: st) w uc us := AW.astore hd hn hz (he ▸ k)
theorem AW.inc {i : Nat} {n : Int} {x : Int32} (ls' : Int32 → List (Option Value)) (hd : decode (am_b M) pc = .ok (.iinc i n, 3)) (hl : ls[i]? = some (some (.int x))) (hn : i < am_n M) (hz : am_nl ls i = true) (he : ∀ v : Int32, ls.set i (some (.int v)) = ls' v) (k : ∀ v : Int32, v = x + Int32.ofInt n → AW G M d Rt Th (pc + 3) (ls' v) st w uc us) : AW G M d Rt Th pc ls st w uc us := AW.iinc hd hl hn hz _ rfl (by rw [he]; exact k _ rfl)
end AMN
theorem am_rec {P : Nat → Prop} (N : Nat) (h : ∀ k, k ≤ N → (∀ j, k < j → j ≤ N → P j) → P k) : ∀ k, k ≤ N → P k := by
  have key : ∀ n k, N - k = n → k ≤ N → P k := by
    intro n
    induction n using Nat.strongRecOn with
    | _ n ih => exact fun k hk hkN => h k hkN (fun j hj hjN => ih (N - j) (by omega) j rfl hjN)
  exact fun k hk => key _ k rfl hk
/-- an object with what is nested in it: its cells' shapes and its references, from its first cell on -/
def k_obj (sh : List (Nat ⊕ (Nat × Nat))) (R : Nat → Nat → Option Nat) (b : Nat) (S : List (Nat ⊕ (Nat × Nat))) (Rs : List (Nat × Nat × Nat)) : Prop :=
  (∀ (j : Nat) (s : Nat ⊕ (Nat × Nat)), S[j]? = some s → sh[b + j]? = some s) ∧ ∀ q ∈ Rs, R (b + q.1) q.2.1 = some (b + q.2.2)
