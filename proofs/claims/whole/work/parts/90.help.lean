/-! PURE: WHO HELPS WHOM -/
theorem z_ct_m {P Q : Nat → Bool} {n : Nat} (h : ∀ l, l < n → P l = true → Q l = true) : z_ct P n ≤ z_ct Q n := by
  induction n with
  | zero => exact Nat.le_refl _
  | succ n ih =>
    have := ih (fun l hl => h l (by omega))
    rw [z_ct_s, z_ct_s]
    by_cases e : P n = true
    · rw [if_pos e, if_pos (h n (by omega) e)]; omega
    · rw [if_neg e]; split <;> omega
theorem z_ct_u {P Q : Nat → Bool} {n k : Nat} (hk : k < n) (h : ∀ l, l ≠ k → P l = Q l) (hp : P k = false) (hq : Q k = true) : z_ct Q n = z_ct P n + 1 := by
  induction n with
  | zero => exact absurd hk (Nat.not_lt_zero k)
  | succ n ih =>
    rw [z_ct_s, z_ct_s]
    by_cases e : k = n
    · subst e
      rw [if_pos hq, hp, z_ct_c (P := Q) (Q := P) (fun l hl => (h l (by omega)).symm)]
      rfl
    · rw [ih (by omega), h n (by omega)]
      split <;> rfl
theorem z_ct_l {P Q : Nat → Bool} {n k : Nat} (hk : k < n) (h : ∀ l, l < n → P l = true → Q l = true) (hp : P k = false) (hq : Q k = true) : z_ct P n < z_ct Q n := by
  have h1 := z_ct_u (P := fun l => Q l && decide (l ≠ k)) (Q := Q) hk (fun l hl => by show (Q l && decide (l ≠ k)) = Q l; rw [decide_eq_true hl, Bool.and_true]) (by show (Q k && decide (k ≠ k)) = false; rw [decide_eq_false (fun h => h rfl), Bool.and_false]) hq
  have h2 := z_ct_m (P := P) (Q := fun l => Q l && decide (l ≠ k)) (n := n) (fun l hl e => by
    show (Q l && decide (l ≠ k)) = true
    rw [h l hl e, Bool.true_and]
    refine decide_eq_true (fun e2 => ?_)
    rw [e2, hp] at e; exact Bool.noConfusion e)
  omega
theorem z_ct_upd {h : Nat → Int32} {n p : Nat} {x y : Int32} (hp : p < n) : z_ct (fun q => decide (upd h p x q = y)) n + (if h p = y then 1 else 0) = z_ct (fun q => decide (h q = y)) n + (if x = y then 1 else 0) := by
  have ho : ∀ q, q ≠ p → decide (upd h p x q = y) = decide (h q = y) := fun q hq => by rw [upd_o hq]
  by_cases e1 : h p = y
  · by_cases e2 : x = y
    · rw [if_pos e1, if_pos e2]
      congr 1
      refine z_ct_c fun q _ => ?_
      by_cases e : q = p
      · rw [e, pk_us, decide_eq_true e1, decide_eq_true e2]
      · exact ho q e
    · rw [if_pos e1, if_neg e2]
      exact (z_ct_u (P := fun q => decide (upd h p x q = y)) (Q := fun q => decide (h q = y)) hp ho (by show decide (upd h p x p = y) = false; rw [pk_us]; exact decide_eq_false e2) (decide_eq_true e1)).symm
  · by_cases e2 : x = y
    · rw [if_neg e1, if_pos e2]
      exact z_ct_u (P := fun q => decide (h q = y)) (Q := fun q => decide (upd h p x q = y)) hp (fun q hq => (ho q hq).symm) (decide_eq_false e1) (by show decide (upd h p x p = y) = true; rw [pk_us]; exact decide_eq_true e2)
    · rw [if_neg e1, if_neg e2]
      congr 1
      refine z_ct_c fun q _ => ?_
      by_cases e : q = p
      · rw [e, pk_us, decide_eq_false e1, decide_eq_false e2]
      · exact ho q e
def z_V (n m : Nat) (c : Nat → Nat → Bool) (h : Nat → Int32) : Prop := ∀ p, p < n → h p = -1 ∨ ∃ b, b < m ∧ h p = nI b ∧ c b p = true
def z_hk (J I : g_I) : Prop := (∀ a, a ≠ 101 → a ≠ 130 → I a = J a) ∧ ∀ k, k ≠ 50 → I 101 k = J 101 k
/-- none outside is met from inside -/
def z_hc (n m : Nat) (c : Nat → Nat → Bool) (h : Nat → Int32) (S X : Nat → Bool) : Prop := (∀ b, b < m → S b = true → ∀ q, q < n → c b q = true → X q = true) ∧ ∀ p, p < n → X p = true → ∃ b, b < m ∧ S b = true ∧ h p = nI b
def z_hF (n m : Nat) (c : Nat → Nat → Bool) (I I' : g_I) : Prop := (∀ p, p < n → I' 130 p = I 130 p) ∧ ∀ p, p < n → bt (I' 101 50) p = true → bt (I 101 50) p = false → ∃ b1, b1 < m ∧ I 130 p = nI b1 ∧ ∀ q, q < n → c b1 q = true → bt (I' 101 50) q = true
def z_hS (n m : Nat) (c : Nat → Nat → Bool) (b : Nat) (I : g_I) (r : Bool) (I' : g_I) : Prop :=
  (∀ p, p < n → bt (I 101 50) p = true → bt (I' 101 50) p = true ∧ I' 130 p = I 130 p) ∧ z_V n m c (I' 130) ∧
  (r = false → z_hF n m c I I' ∧ ∀ p, p < n → c b p = true → bt (I' 101 50) p = true) ∧
  (r = true → ∀ b', b' < m → z_ct (fun p => decide (I' 130 p = nI b')) n = z_ct (fun p => decide (I 130 p = nI b')) n + if b' = b then 1 else 0) ∧
  ∀ S X : Nat → Bool, z_hc n m c (I 130) S X → (S b = true → r = false) ∧ ∀ p, p < n → X p = true → I' 130 p = I 130 p
theorem z_isHelped {J : g_I} {n m : Nat} {c : Nat → Nat → Bool} (hn8 : n ≤ 8) (hm6 : m ≤ 6) (hn : J 104 0 = nI n) (hc : ∀ I, z_hk J I → ∀ p b, p < n → b < m → b_X11_canCut I (nI p) (nI b) = some (c b p)) : ∀ (f : Nat) (I : g_I) (b : Nat), z_hk J I → b < m → z_V n m c (I 130) → z_ct (fun p => !bt (I 101 50) p) n < f → ∃ r I', c_X11_isHelped f I (nI b) = some (r, I') ∧ z_hk J I' ∧ z_hS n m c b I r I' := by
  intro f
  induction f with
  | zero => intro I b _ _ _ h; exact absurd h (Nat.not_lt_zero _)
  | succ f ih =>
    intro I b hI hb hV hf
    show ∃ r I', b_X11_isHelped_L2 (c_X11_isHelped f) (nI b) (fun (I10 : g_I) => some (false, I10)) fu 0 I = some (r, I') ∧ z_hk J I' ∧ z_hS n m c b I r I'
    have h := z_lpx (F := fun f' (s : Int32 × g_I) => b_X11_isHelped_L2 (c_X11_isHelped f) (nI b) (fun (I10 : g_I) => some (false, I10)) f' s.1 s.2) (K := fun s => some (false, s.2)) (N := n) (fun i s => s.1 = nI i ∧ z_hk J s.2 ∧ (∀ p, p < n → bt (I 101 50) p = true → bt (s.2 101 50) p = true) ∧ z_hF n m c I s.2 ∧ ∀ p, p < i → c b p = true → bt (s.2 101 50) p = true) (fun o => ∃ I', o = some (true, I') ∧ z_hk J I' ∧ z_hS n m c b I true I')
      (fun f' s hP => by
        show b_X11_isHelped_L2 (c_X11_isHelped f) (nI b) (fun (I10 : g_I) => some (false, I10)) (f' + 1) s.1 s.2 = some (false, s.2)
        unfold b_X11_isHelped_L2
        rw [hP.2.1.1 104 (by decide) (by decide), hn, hP.1, if_pos (Int32.le_refl _)])
      (fun f' i s hi hP => by
        obtain ⟨s1, s2, s3, ⟨s4, s5⟩, s6⟩ := hP
        have hu : b_X11_isHelped_L2 (c_X11_isHelped f) (nI b) (fun (I10 : g_I) => some (false, I10)) (f' + 1) s.1 s.2 = if bt (s.2 101 50) i = true then b_X11_isHelped_L2 (c_X11_isHelped f) (nI b) (fun (I10 : g_I) => some (false, I10)) f' (nI (i + 1)) s.2 else if c b i = true then (if s.2 130 i = -1 then some (true, am_up (am_up s.2 101 50 (s.2 101 50 ||| ((1 : Int32) <<< (nI i &&& 31)))) 130 i (nI b)) else g_bind2 (c_X11_isHelped f (am_up s.2 101 50 (s.2 101 50 ||| ((1 : Int32) <<< (nI i &&& 31)))) (s.2 130 i)) fun t6 I7 => if t6 = true then some (true, am_up I7 130 i (nI b)) else b_X11_isHelped_L2 (c_X11_isHelped f) (nI b) (fun (I10 : g_I) => some (false, I10)) f' (nI (i + 1)) I7) else b_X11_isHelped_L2 (c_X11_isHelped f) (nI b) (fun (I10 : g_I) => some (false, I10)) f' (nI (i + 1)) s.2 := by
          conv => lhs; unfold b_X11_isHelped_L2
          rw [s2.1 104 (by decide) (by decide), hn, s1, if_neg (nI_ge hi (by omega)), z_isOf (by omega), hc s.2 s2 i b hi hb]
          have hg : g_in (nI i) 8 = true := g_in_nI (by omega) (by decide)
          have hcl : (nI i).toNatClampNeg = i := nI_clamp (by omega)
          have ho : ∀ v, am_up s.2 101 50 v 130 = s.2 130 := fun v => am_up_o _ _ _ _ (by decide)
          simp only [g_bind, g_let, hg, hcl, ho, nI_1, if_true]
        have skip : (c b i = true → bt (s.2 101 50) i = true) → z_hF n m c I s.2 ∧ ∀ p, p < i + 1 → c b p = true → bt (s.2 101 50) p = true := fun g => ⟨⟨s4, s5⟩, fun p hp hcp => by
          by_cases e : p = i
          · rw [e] at hcp ⊢; exact g hcp
          · exact s6 p (by omega) hcp⟩
        show (∃ s', b_X11_isHelped_L2 (c_X11_isHelped f) (nI b) (fun (I10 : g_I) => some (false, I10)) (f' + 1) s.1 s.2 = _ ∧ _) ∨ ∃ I', b_X11_isHelped_L2 (c_X11_isHelped f) (nI b) (fun (I10 : g_I) => some (false, I10)) (f' + 1) s.1 s.2 = some (true, I') ∧ _
        rw [hu]
        by_cases c1 : bt (s.2 101 50) i = true
        · rw [if_pos c1]
          exact Or.inl ⟨(nI (i + 1), s.2), rfl, rfl, s2, s3, skip fun _ => c1⟩
        · rw [if_neg c1]
          by_cases c2 : c b i = true
          · rw [if_pos c2]
            have b1 : ∀ q, q < 32 → bt (am_up s.2 101 50 (s.2 101 50 ||| ((1 : Int32) <<< (nI i &&& 31))) 101 50) q = (bt (s.2 101 50) q || decide (q = i)) := fun q hq => by rw [up_eq, b_or, z_one (by omega) hq]
            have hk4 : z_hk J (am_up s.2 101 50 (s.2 101 50 ||| ((1 : Int32) <<< (nI i &&& 31)))) := ⟨fun a h1 h2 => by rw [am_up_o _ _ _ _ h1]; exact s2.1 a h1 h2, fun k hk => by rw [up_ne hk]; exact s2.2 k hk⟩
            have h130 : (am_up s.2 101 50 (s.2 101 50 ||| ((1 : Int32) <<< (nI i &&& 31)))) 130 = s.2 130 := am_up_o _ _ _ _ (by decide)
            have nI0 : bt (I 101 50) i = false := by
              cases e : bt (I 101 50) i
              · rfl
              · exact absurd (s3 i hi e) c1
            by_cases c3 : s.2 130 i = -1
            · rw [if_pos c3]
              refine Or.inr ⟨_, rfl, ⟨fun a h1 h2 => by rw [am_up_o _ _ _ _ h2, am_up_o _ _ _ _ h1]; exact s2.1 a h1 h2, fun k hk => by rw [am_up_o _ _ _ _ (show 101 ≠ 130 by decide), up_ne hk]; exact s2.2 k hk⟩, fun p hp hpt => ⟨?_, ?_⟩, fun p hp => ?_, fun e => Bool.noConfusion e, fun _ b' hb' => ?_, fun S X hX => ⟨fun hS => ?_, fun p hp hXp => ?_⟩⟩
              · rw [am_up_o _ _ _ _ (show 101 ≠ 130 by decide), b1 p (by omega), s3 p hp hpt]; rfl
              · rw [up_ne (fun e => by rw [e, nI0] at hpt; exact Bool.noConfusion hpt), h130, s4 p hp]
              · by_cases e : p = i
                · rw [e, up_eq]; exact Or.inr ⟨b, hb, rfl, c2⟩
                · rw [up_ne e, h130, s4 p hp]; exact hV p hp
              · have hq := z_ct_upd (h := s.2 130) (n := n) (p := i) (x := nI b) (y := nI b') hi
                rw [c3, if_neg (fun e => z_nm1 (show b' < 2 ^ 31 by omega) e.symm)] at hq
                rw [am_up_s, h130]
                rw [show z_ct (fun p => decide (I 130 p = nI b')) n = z_ct (fun q => decide (s.2 130 q = nI b')) n from z_ct_c fun q hq => by rw [s4 q hq]]
                rw [show (if b' = b then 1 else 0) = (if nI b = nI b' then 1 else 0 : Nat) by
                  by_cases e : b' = b
                  · rw [if_pos e, if_pos (by rw [e])]
                  · rw [if_neg e, if_neg (fun e2 => e ((nI_eq (by omega) (by omega)).mp e2).symm)]]
                exact hq
              · exfalso
                obtain ⟨b2, hb2, -, e⟩ := hX.2 i hi (hX.1 b hb hS i hi c2)
                rw [← s4 i hi, c3] at e
                exact z_nm1 (show b2 < 2 ^ 31 by omega) e.symm
              · refine Eq.trans (up_ne (fun e => ?_)) (by rw [h130, s4 p hp])
                obtain ⟨b2, hb2, -, e2⟩ := hX.2 p hp hXp
                rw [e, ← s4 i hi, c3] at e2
                exact z_nm1 (show b2 < 2 ^ 31 by omega) e2.symm
            · rw [if_neg c3]
              obtain ⟨b2, hb2, eb2, cb2⟩ := (hV i hi).resolve_left (by rw [← s4 i hi]; exact c3)
              have es2 : s.2 130 i = nI b2 := (s4 i hi).trans eb2
              have hV4 : z_V n m c ((am_up s.2 101 50 (s.2 101 50 ||| ((1 : Int32) <<< (nI i &&& 31)))) 130) := by
                rw [h130]; intro p hp; rw [s4 p hp]; exact hV p hp
              have hf4 : z_ct (fun p => !bt ((am_up s.2 101 50 (s.2 101 50 ||| ((1 : Int32) <<< (nI i &&& 31)))) 101 50) p) n < f := by
                have g1 := z_ct_l (P := fun p => !bt ((am_up s.2 101 50 (s.2 101 50 ||| ((1 : Int32) <<< (nI i &&& 31)))) 101 50) p) (Q := fun p => !bt (I 101 50) p) (n := n) (k := i) hi (fun l hl e => by
                  have e' : (!bt ((am_up s.2 101 50 (s.2 101 50 ||| ((1 : Int32) <<< (nI i &&& 31)))) 101 50) l) = true := e
                  show (!bt (I 101 50) l) = true
                  cases e2 : bt (I 101 50) l
                  · rfl
                  · rw [b1 l (by omega), s3 l hl e2] at e'; exact Bool.noConfusion e') (by show (!bt ((am_up s.2 101 50 (s.2 101 50 ||| ((1 : Int32) <<< (nI i &&& 31)))) 101 50) i) = false; rw [b1 i (by omega), decide_eq_true rfl, Bool.or_true]; rfl) (by show (!bt (I 101 50) i) = true; rw [nI0]; rfl)
                omega
              obtain ⟨r, I7, e7, k7, q1, q2, q3, q4, q5⟩ := ih (am_up s.2 101 50 (s.2 101 50 ||| ((1 : Int32) <<< (nI i &&& 31)))) b2 hk4 hb2 hV4 hf4
              rw [h130] at q1 q4 q5
              rw [es2, e7]
              simp only [g_bind2]
              have ti : bt (am_up s.2 101 50 (s.2 101 50 ||| ((1 : Int32) <<< (nI i &&& 31))) 101 50) i = true := by rw [b1 i (by omega), decide_eq_true rfl, Bool.or_true]
              have tq : ∀ q, q < n → bt (s.2 101 50) q = true → bt (am_up s.2 101 50 (s.2 101 50 ||| ((1 : Int32) <<< (nI i &&& 31))) 101 50) q = true := fun q hq e => by rw [b1 q (by omega), e]; rfl
              cases r
              · rw [if_neg (by decide)]
                obtain ⟨⟨g1, g2⟩, g3⟩ := q3 rfl
                rw [h130] at g1 g2
                refine Or.inl ⟨(nI (i + 1), I7), rfl, rfl, k7, fun p hp e => (q1 p hp (tq p hp (s3 p hp e))).1, ⟨fun p hp => (g1 p hp).trans (s4 p hp), fun p hp e1 e2 => ?_⟩, fun p hp hcp => ?_⟩
                · by_cases ep : p = i
                  · subst ep
                    exact ⟨b2, hb2, eb2, g3⟩
                  · cases e3 : bt (s.2 101 50) p
                    · obtain ⟨b3, h1, h2, h3⟩ := g2 p hp e1 (by rw [b1 p (by omega), e3, decide_eq_false ep]; rfl)
                      exact ⟨b3, h1, (s4 p hp).symm.trans h2, h3⟩
                    · obtain ⟨b3, h1, h2, h3⟩ := s5 p hp e3 e2
                      exact ⟨b3, h1, h2, fun q hq hcq => (q1 q hq (tq q hq (h3 q hq hcq))).1⟩
                · by_cases ep : p = i
                  · rw [ep]; exact (q1 i hi ti).1
                  · exact (q1 p (by omega) (tq p (by omega) (s6 p (by omega) hcp))).1
              · rw [if_pos rfl]
                have h7i : I7 130 i = nI b2 := ((q1 i hi ti).2).trans es2
                have hc4 : ∀ S X, z_hc n m c (I 130) S X → z_hc n m c (s.2 130) S X := fun S X h => ⟨h.1, fun p hp hx => by rw [s4 p hp]; exact h.2 p hp hx⟩
                have hXi : ∀ S X, z_hc n m c (I 130) S X → X i = true → False := fun S X hX hx => by
                  obtain ⟨b3, h1, h2, h3⟩ := hX.2 i hi hx
                  have : b3 = b2 := (nI_eq (by omega) (by omega)).mp (h3.symm.trans eb2)
                  rw [this] at h2
                  exact Bool.noConfusion ((q5 S X (hc4 S X hX)).1 h2)
                refine Or.inr ⟨_, rfl, ⟨fun a h1 h2 => by rw [am_up_o _ _ _ _ h2]; exact k7.1 a h1 h2, fun k hk => by rw [am_up_o _ _ _ _ (show 101 ≠ 130 by decide)]; exact k7.2 k hk⟩, fun p hp hpt => ⟨?_, ?_⟩, fun p hp => ?_, fun e => Bool.noConfusion e, fun _ b' hb' => ?_, fun S X hX => ⟨fun hS => ?_, fun p hp hXp => ?_⟩⟩
                · rw [am_up_o _ _ _ _ (show 101 ≠ 130 by decide)]; exact (q1 p hp (tq p hp (s3 p hp hpt))).1
                · rw [up_ne (fun e => by rw [e, nI0] at hpt; exact Bool.noConfusion hpt), (q1 p hp (tq p hp (s3 p hp hpt))).2, s4 p hp]
                · by_cases e : p = i
                  · rw [e, up_eq]; exact Or.inr ⟨b, hb, rfl, c2⟩
                  · rw [up_ne e]; exact q2 p hp
                · have hq := z_ct_upd (h := I7 130) (n := n) (p := i) (x := nI b) (y := nI b') hi
                  have q4' := q4 rfl b' hb'
                  rw [h7i] at hq
                  rw [am_up_s]
                  rw [show z_ct (fun p => decide (I 130 p = nI b')) n = z_ct (fun q => decide (s.2 130 q = nI b')) n from z_ct_c fun q hq => by rw [s4 q hq]]
                  rw [show (if b' = b then 1 else 0) = (if nI b = nI b' then 1 else 0 : Nat) by
                    by_cases e : b' = b
                    · rw [if_pos e, if_pos (by rw [e])]
                    · rw [if_neg e, if_neg (fun e2 => e ((nI_eq (by omega) (by omega)).mp e2).symm)]]
                  rw [show (if nI b2 = nI b' then 1 else 0) = (if b' = b2 then 1 else 0 : Nat) by
                    by_cases e : b' = b2
                    · rw [if_pos e, if_pos (by rw [e])]
                    · rw [if_neg e, if_neg (fun e2 => e ((nI_eq (by omega) (by omega)).mp e2).symm)]] at hq
                  omega
                · exact (hXi S X hX (hX.1 b hb hS i hi c2)).elim
                · refine Eq.trans (up_ne (fun e => ?_)) (((q5 S X (hc4 S X hX)).2 p hp hXp).trans (s4 p hp))
                  rw [e] at hXp
                  exact hXi S X hX hXp
          · rw [if_neg c2]
            exact Or.inl ⟨(nI (i + 1), s.2), rfl, rfl, s2, s3, skip fun h => absurd h c2⟩)
      n fu 0 (0, I) (by omega) (by unfold fu; omega) ⟨rfl, hI, fun _ _ h => h, ⟨fun _ _ => rfl, fun p _ h1 h2 => by rw [h1] at h2; exact Bool.noConfusion h2⟩, fun p hp => absurd hp (Nat.not_lt_zero p)⟩
    rcases h with ⟨s, e, -, p2, p3, p4, p5⟩ | ⟨I', e, k, hS⟩
    · refine ⟨false, s.2, e, p2, fun p hp h => ⟨p3 p hp h, p4.1 p hp⟩, fun p hp => by rw [p4.1 p hp]; exact hV p hp, fun _ => ⟨p4, p5⟩, fun h => Bool.noConfusion h, fun S X _ => ⟨fun _ => rfl, fun p hp _ => p4.1 p hp⟩⟩
    · exact ⟨true, I', e, k, hS⟩
