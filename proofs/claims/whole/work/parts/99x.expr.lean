/-! PURE: THE RULE'S READING, BOTH WORLDS -/
theorem z_isF {J : g_I} {bs : List Int32} (hb : ¬ J 101 24 = 0) : b_X11_is J bs = some false := by
  unfold b_X11_is
  rw [z_gl, z_isL0, if_neg hb]
  rfl
theorem z_mkF {J : g_I} {c : Int32} (hb : ¬ J 101 24 = 0) : b_X11_isMarked J c = some false := by
  unfold b_X11_isMarked
  rw [if_neg hb]
theorem z_layF {J : g_I} {c : Int32} (hb : ¬ J 101 24 = 0) : b_X11_lay J c = some J := by
  unfold b_X11_lay
  rw [if_neg hb]
theorem z_partF {rec : g_I → Int32 → Option g_I} {J : g_I} {x : Int32} (hb : ¬ J 101 24 = 0) : b_X11_readPart rec J x = some J := by
  unfold b_X11_readPart
  rw [if_neg hb]
theorem z_prodF {rec : g_I → Int32 → Option g_I} {J : g_I} {x : Int32} (hb : ¬ J 101 24 = 0) : b_X11_readProduct rec J x = some J := by
  unfold b_X11_readProduct
  rw [z_partF hb, z_gb]
  show b_X11_readProduct_L5 rec x _ (4999 + 1) J = _
  unfold b_X11_readProduct_L5
  rw [z_gl, z_mkF hb, z_mkF hb]
  rfl
theorem z_sumF {rec : g_I → Int32 → Option g_I} {J : g_I} {x : Int32} (hb : ¬ J 101 24 = 0) : b_X11_readSum rec J x = some J := by
  unfold b_X11_readSum
  rw [z_prodF hb, z_gb]
  show b_X11_readSum_L5 rec x _ (4999 + 1) J = _
  unfold b_X11_readSum_L5
  rw [z_gl, z_mkF hb, z_mkF hb]
  rfl
theorem z_L96F {rec : g_I → Int32 → Option g_I} {J : g_I} (hb : ¬ J 101 24 = 0) {c : Nat} (hc : c < 100) : ∀ (r f k : Nat), k + r = c → r < f → b_X11_readNot_L96 rec (nI c) (fun (I : g_I) => some I) f (nI k) J = some J := by
  intro r
  induction r with
  | zero =>
    intro f k hk hf
    obtain ⟨f', rfl⟩ : ∃ f', f = f' + 1 := ⟨f - 1, by omega⟩
    unfold b_X11_readNot_L96
    rw [if_pos (nI_le (by omega) (by omega))]
  | succ r ih =>
    intro f k hk hf
    obtain ⟨f', rfl⟩ : ∃ f', f = f' + 1 := ⟨f - 1, by omega⟩
    unfold b_X11_readNot_L96
    rw [if_neg (nI_ge (show k < c by omega) (by omega)), z_layF hb, z_gb, nI_1]
    exact ih f' (k + 1) (by omega) (by omega)
/-- what stands behind the nots, of one who has failed -/
theorem z_tailF {rec : g_I → Int32 → Option g_I} {J : g_I} {x : Int32} (hb : ¬ J 101 24 = 0) {c : Nat} (hc : c < 100) {J79 : Int32 → Int32 → g_I → Option g_I} : (g_bind (b_X11_readSum rec J x) fun I29 => g_bind (b_X11_isMarked I29 60) fun t31 => if t31 = true then g_bind (b_X11_isMarked I29 60) fun t34 => if t34 = true then J79 (nI c) (-24) I29 else J79 (nI c) (-25) I29 else g_bind (b_X11_isMarked I29 61) fun t37 => if t37 = true then g_bind (b_X11_isMarked I29 60) fun t41 => if t41 = true then J79 (nI c) (-24) I29 else J79 (nI c) (-25) I29 else b_X11_readNot_L96 rec (nI c) (fun (I40 : g_I) => some I40) fu 0 I29) = some J := by
  rw [z_sumF hb, z_gb, z_mkF hb, z_gb, if_neg (by decide), z_mkF hb, z_gb, if_neg (by decide)]
  exact z_L96F hb hc c fu 0 (by omega) (by unfold fu; omega)
theorem z_notF {rec : g_I → Int32 → Option g_I} {J : g_I} {x : Int32} (hb : ¬ J 101 24 = 0) : b_X11_readNot rec J x = some J := by
  unfold b_X11_readNot
  rw [z_gl]
  show b_X11_readNot_L2 rec x _ (4999 + 1) 0 J = _
  unfold b_X11_readNot_L2
  rw [z_isF hb, z_gb, if_neg (by decide)]
  exact z_tailF (c := 0) (J79 := fun (z2 : Int32) (w0 : Int32) (I79j : g_I) => g_bind (b_X11_stepOn I79j) fun I2 => g_bind (b_X11_readSum rec I2 x) fun I5 => g_bind (b_X11_lay I5 w0) fun I8 => b_X11_readNot_L96 rec z2 (fun (I13 : g_I) => some I13) fu 0 I8) hb (by decide)
theorem z_andF {rec : g_I → Int32 → Option g_I} {J : g_I} {x : Int32} (hb : ¬ J 101 24 = 0) : b_X11_readAnd rec J x = some J := by
  unfold b_X11_readAnd
  rw [z_notF hb, z_gb]
  show b_X11_readAnd_L5 rec x _ (4999 + 1) J = _
  unfold b_X11_readAnd_L5
  rw [z_isF hb]
  rfl
theorem z_orF {rec : g_I → Int32 → Option g_I} {J : g_I} {x : Int32} (hb : ¬ J 101 24 = 0) : (g_bind (b_X11_readAnd rec J x) fun I2 => b_X11_readExpression_L67 rec x (fun (I16 : g_I) => some I16) fu I2) = some J := by
  rw [z_andF hb, z_gb]
  show b_X11_readExpression_L67 rec x _ (4999 + 1) J = _
  unfold b_X11_readExpression_L67
  rw [z_isF hb]
  rfl
theorem z_ht_a : ∀ (m m' : List Int32) (h : Nat), z_ht (m ++ m') h = (z_ht m h).bind (z_ht m') := by
  intro m
  induction m with
  | nil => intro m' h; rfl
  | cons c m ih =>
    intro m' h
    show (if 0 ≤ c ∨ c ≤ -10 then (if h < 64 then z_ht (m ++ m') (h + 1) else none) else if c = -3 then (if 1 ≤ h then z_ht (m ++ m') h else none) else (if 2 ≤ h then z_ht (m ++ m') (h - 1) else none)) = ((if 0 ≤ c ∨ c ≤ -10 then (if h < 64 then z_ht m (h + 1) else none) else if c = -3 then (if 1 ≤ h then z_ht m h else none) else (if 2 ≤ h then z_ht m (h - 1) else none)) : Option Nat).bind (z_ht m')
    rw [ih, ih, ih]
    split
    · split <;> rfl
    · split
      · split <;> rfl
      · split <;> rfl
section ZEX
variable {tp : Nat → Int32} {n : Nat}
def z_rl (J : g_I) (l : List Int32) : Prop := J 104 11 = nI l.length ∧ ∀ k, k < l.length → J 115 (600 + k) = z_sg (l.getD k 0)
def z_pq (tp : Nat → Int32) (n : Nat) (J : g_I) (q : x_Q) : Prop := z_ps tp n J q.1 ∧ (q.1.1 = 0 → z_rl J q.2 ∧ q.2.length ≤ q.1.2)
def z_f2 (J J' : g_I) : Prop := (∀ a, a ≠ 101 → a ≠ 104 → a ≠ 115 → J' a = J a) ∧ (∀ k, (k < 18 ∨ k = 19 ∨ 25 < k) → J' 101 k = J 101 k) ∧ (∀ k, k ≠ 11 → J' 104 k = J 104 k) ∧ ∀ k, k < 600 → J' 115 k = J 115 k
theorem z_f2_r (J : g_I) : z_f2 J J := ⟨fun _ _ _ _ => rfl, fun _ _ => rfl, fun _ _ => rfl, fun _ _ => rfl⟩
theorem z_f2_t {J K M : g_I} (h1 : z_f2 J K) (h2 : z_f2 K M) : z_f2 J M := ⟨fun a p q r => (h2.1 a p q r).trans (h1.1 a p q r), fun k h => (h2.2.1 k h).trans (h1.2.1 k h), fun k h => (h2.2.2.1 k h).trans (h1.2.2.1 k h), fun k h => (h2.2.2.2 k h).trans (h1.2.2.2 k h)⟩
theorem z_f1_2 {J K : g_I} (h : z_f1 J K) : z_f2 J K := ⟨fun a p _ _ => h.1 a p, h.2, fun k _ => by rw [h.1 104 (by decide)], fun k _ => by rw [h.1 115 (by decide)]⟩
theorem z_rl_o {J K : g_I} {l : List Int32} (h : z_rl J l) (hf : z_f1 J K) : z_rl K l := by
  unfold z_rl at h ⊢
  rw [hf.1 104 (by decide), hf.1 115 (by decide)]
  exact h
theorem z_lay {J : g_I} {s : Int32 × Nat} {l : List Int32} (h : z_ps tp n J s) (hl : s.1 = 0 → z_rl J l ∧ l.length < 600) (c : Int32) : ∃ J', b_X11_lay J (z_sg c) = some J' ∧ z_f2 J J' ∧ z_ps tp n J' s ∧ (s.1 = 0 → z_rl J' (l ++ [c])) := by
  unfold b_X11_lay
  by_cases h0 : s.1 = 0
  · obtain ⟨⟨r1, r2⟩, hlt⟩ := hl h0
    rw [h.2.1, if_pos h0, r1, show (600 : Int32) = nI 600 from rfl, nI_add, if_pos (g_in_nI (by omega) (by decide)), nI_clamp (by omega), z_gl, am_up_o _ _ _ _ (show 104 ≠ 115 by decide), r1, nI_1, z_gl]
    have o : ∀ a, a ≠ 104 → a ≠ 115 → am_up (am_up J 115 (600 + l.length) (z_sg c)) 104 11 (nI (l.length + 1)) a = J a := fun a p q => by rw [am_up_o _ _ _ _ p, am_up_o _ _ _ _ q]
    refine ⟨_, rfl, ⟨fun a _ p q => o a p q, fun k _ => by rw [o 101 (by decide) (by decide)], fun k p => by rw [up_ne p, am_up_o _ _ _ _ (by decide)], fun k p => by rw [am_up_o _ _ _ _ (by decide), up_ne (by omega)]⟩, ⟨z_tpr_o h.1 (by rw [o 101 (by decide) (by decide)]) (o 117 (by decide) (by decide)), by rw [o 101 (by decide) (by decide)]; exact h.2.1, h.2.2.1, fun _ => ?_, fun q => absurd h0 q⟩, fun _ => ⟨?_, fun k hk => ?_⟩⟩
    · unfold z_tok
      rw [o 101 (by decide) (by decide)]
      exact h.2.2.2.1 h0
    · rw [up_eq, List.length_append]; rfl
    · rw [am_up_o _ _ _ _ (by decide)]
      rw [List.length_append] at hk
      by_cases e : k = l.length
      · rw [e, up_eq]
        simp [List.getD]
      · have hkl : k < l.length := by simp at hk; omega
        rw [up_ne (by omega), r2 k hkl]
        simp [List.getD, List.getElem?_append_left hkl]
  · rw [h.2.1, if_neg h0]
    exact ⟨J, rfl, z_f2_r J, h, fun q => absurd q h0⟩
theorem x_ad_lt {l : List Int32} {c : Int32} (h : l.length < 600) : x_ad l c = l ++ [c] := if_pos h
/-- what a reader of a piece does in the class, and in the reference -/
def z_E (tp : Nat → Int32) (n w : Nat) (F : x_Q → x_Q) (G : g_I → Option g_I) : Prop :=
  (∀ q, ¬ q.1.1 = 0 → (F q).1 = q.1) ∧ ∀ J q, z_pq tp n J q → ∃ J', G J = some J' ∧ z_f2 J J' ∧ z_pq tp n J' (F q) ∧ ((F q).1.1 = 0 → q.1.1 = 0 ∧ (F q).2.length + q.1.2 ≤ q.2.length + (F q).1.2 ∧ ∃ m, (F q).2 = q.2 ++ m ∧ (∀ c ∈ m, -15 ≤ c) ∧ ∀ h, h + w ≤ 64 → z_ht m h = some (h + 1))
theorem x_adv_p {s : Int32 × Nat} (h : s.1 = 0) : x_adv tp n s = (0, x_av tp n s.2) := if_pos h
theorem z_ht_op {c : Int32} (hc : ¬ (0 ≤ c ∨ c ≤ -10) ∧ ¬ c = -3) (h : Nat) : z_ht [c] (h + 2) = some (h + 1) := by
  show (if 0 ≤ c ∨ c ≤ -10 then _ else if c = -3 then _ else (if 2 ≤ h + 2 then z_ht [] (h + 2 - 1) else none)) = _
  rw [if_neg hc.1, if_neg hc.2, if_pos (by omega)]
  rfl
def z_op (n : Nat) (op : Nat → Int32) : Prop := ∀ a, ¬ op a = 0 → a < n ∧ -15 ≤ op a ∧ ¬ (0 ≤ op a ∨ op a ≤ -10) ∧ ¬ op a = -3
theorem z_op1 {w : Nat} {it : x_Q → x_Q} {itR : g_I → Option g_I} {op : Nat → Int32} (hit : z_E tp n w it itR) (hop : z_op n op) {J : g_I} {q : x_Q} (h : z_pq tp n J q) (h0 : q.1.1 = 0) (ho : ¬ op q.1.2 = 0) : ∃ J1 J2 J3, b_X11_stepOn J = some J1 ∧ itR J1 = some J2 ∧ b_X11_lay J2 (z_sg (op q.1.2)) = some J3 ∧ z_f2 J J3 ∧ z_pq tp n J3 ((it (x_adv tp n q.1, q.2)).1, x_ad (it (x_adv tp n q.1, q.2)).2 (op q.1.2)) ∧
    ((it (x_adv tp n q.1, q.2)).1.1 = 0 → q.1.2 < (it (x_adv tp n q.1, q.2)).1.2 ∧ (x_ad (it (x_adv tp n q.1, q.2)).2 (op q.1.2)).length + q.1.2 ≤ q.2.length + (it (x_adv tp n q.1, q.2)).1.2 ∧ ∃ m, x_ad (it (x_adv tp n q.1, q.2)).2 (op q.1.2) = q.2 ++ m ∧ (∀ c ∈ m, -15 ≤ c) ∧ ∀ k, k + (w + 1) ≤ 64 → z_ht m (k + 1) = some (k + 1)) := by
  obtain ⟨hn, hc1, hc2⟩ := hop _ ho
  have hn6 := h.1.1.2.1
  obtain ⟨J1, e1, f1, p1⟩ := z_av h.1 h0
  have hav := (x_av_b tp h.1.2.2.1).2.2 hn
  have hpq1 : z_pq tp n J1 (x_adv tp n q.1, q.2) := ⟨p1, fun _ => ⟨z_rl_o (h.2 h0).1 f1, by rw [x_adv_p h0]; have := (h.2 h0).2; show q.2.length ≤ x_av tp n q.1.2; omega⟩⟩
  obtain ⟨J2, e2, f2, p2, q2⟩ := hit.2 J1 _ hpq1
  generalize hQ : it (x_adv tp n q.1, q.2) = Q at p2 q2
  have hfit : Q.1.1 = 0 → Q.2.length < 600 ∧ Q.2.length + 1 + q.1.2 ≤ q.2.length + Q.1.2 := fun hq => by
    obtain ⟨-, s1, -⟩ := q2 hq
    rw [x_adv_p h0] at s1
    have s1' : Q.2.length + x_av tp n q.1.2 ≤ q.2.length + Q.1.2 := s1
    have := (h.2 h0).2
    have := p2.1.2.2.1
    omega
  obtain ⟨J3, e3, f3, p3, r3⟩ := z_lay (l := Q.2) p2.1 (fun hq => ⟨(p2.2 hq).1, (hfit hq).1⟩) (op q.1.2)
  refine ⟨J1, J2, J3, e1, e2, e3, z_f2_t (z_f1_2 f1) (z_f2_t f2 f3), ⟨p3, fun hq => ?_⟩, fun hq => ?_⟩
  · have hq' : Q.1.1 = 0 := hq
    obtain ⟨a1, a2⟩ := hfit hq'
    have hl := (h.2 h0).2
    show z_rl J3 (x_ad Q.2 (op q.1.2)) ∧ (x_ad Q.2 (op q.1.2)).length ≤ Q.1.2
    rw [x_ad_lt a1]
    refine ⟨r3 hq', ?_⟩
    rw [List.length_append]
    simp
    omega
  · obtain ⟨a1, a2⟩ := hfit hq
    obtain ⟨-, s1, m, s2, s3, s4⟩ := q2 hq
    rw [x_ad_lt a1]
    have hlm : Q.2.length = q.2.length + m.length := by
      have := congrArg List.length s2
      rw [List.length_append] at this
      exact this
    refine ⟨by omega, by rw [List.length_append]; simp; omega, m ++ [op q.1.2], ?_, ?_, fun k hk => ?_⟩
    · have s2' : Q.2 = q.2 ++ m := s2
      rw [s2', List.append_assoc]
    · intro c hc
      rcases List.mem_append.mp hc with r | r
      · exact s3 c r
      · rw [List.mem_singleton.mp r]; exact hc1
    · rw [z_ht_a, s4 (k + 1) (by omega)]
      exact z_ht_op hc2 k
theorem x_lp_f {it : x_Q → x_Q} {op : Nat → Int32} {f : Nat} {q : x_Q} (h : ¬ (q.1.1 = 0 ∧ ¬ op q.1.2 = 0)) : x_lp tp n it op f q = q := by
  cases f with
  | zero => rfl
  | succ f => exact if_neg h
theorem z_lpE {w : Nat} {it : x_Q → x_Q} {itR : g_I → Option g_I} {op : Nat → Int32} {L : Nat → g_I → Option g_I} (hit : z_E tp n w it itR) (hop : z_op n op)
    (hE : ∀ f J s, z_ps tp n J s → ¬ (s.1 = 0 ∧ ¬ op s.2 = 0) → L (f + 1) J = some J)
    (hS : ∀ f J s, z_ps tp n J s → s.1 = 0 → ¬ op s.2 = 0 → L (f + 1) J = g_bind (b_X11_stepOn J) fun J1 => g_bind (itR J1) fun J2 => g_bind (b_X11_lay J2 (z_sg (op s.2))) fun J3 => L f J3) :
    ∀ (f f2 : Nat) (J : g_I) (q : x_Q), z_pq tp n J q → (q.1.1 = 0 → n ≤ q.1.2 + f) → f < f2 → ∃ J', L f2 J = some J' ∧ z_f2 J J' ∧ z_pq tp n J' (x_lp tp n it op f q) ∧ ((x_lp tp n it op f q).1.1 = 0 → q.1.1 = 0 ∧ (x_lp tp n it op f q).2.length + q.1.2 ≤ q.2.length + (x_lp tp n it op f q).1.2 ∧ ∃ m, (x_lp tp n it op f q).2 = q.2 ++ m ∧ (∀ c ∈ m, -15 ≤ c) ∧ ∀ k, k + (w + 1) ≤ 64 → z_ht m (k + 1) = some (k + 1)) := by
  intro f
  induction f with
  | zero =>
    intro f2 J q h hf hf2
    obtain ⟨f', rfl⟩ : ∃ f', f2 = f' + 1 := ⟨f2 - 1, by omega⟩
    have hno : ¬ (q.1.1 = 0 ∧ ¬ op q.1.2 = 0) := fun c => by
      have h1 := hf c.1
      have h2 := (hop _ c.2).1
      omega
    rw [hE f' J q.1 h.1 hno]
    exact ⟨J, rfl, z_f2_r J, h, fun c => ⟨c, Nat.le_refl _, [], (List.append_nil _).symm, fun c hc => absurd hc (by simp), fun k _ => rfl⟩⟩
  | succ f ih =>
    intro f2 J q h hf hf2
    obtain ⟨f', rfl⟩ : ∃ f', f2 = f' + 1 := ⟨f2 - 1, by omega⟩
    by_cases c : q.1.1 = 0 ∧ ¬ op q.1.2 = 0
    · obtain ⟨J1, J2, J3, e1, e2, e3, f3, p3, q3⟩ := z_op1 hit hop h c.1 c.2
      have hx : x_lp tp n it op (f + 1) q = x_lp tp n it op f ((it (x_adv tp n q.1, q.2)).1, x_ad (it (x_adv tp n q.1, q.2)).2 (op q.1.2)) := if_pos c
      rw [hx, hS f' J q.1 h.1 c.1 c.2, e1, z_gb, e2, z_gb, e3, z_gb]
      obtain ⟨J4, e4, f4, p4, q4⟩ := ih f' J3 _ p3 (fun r => by have h1 := hf c.1; have h2 := (q3 r).1; show n ≤ (it (x_adv tp n q.1, q.2)).1.2 + f; omega) (by omega)
      refine ⟨J4, e4, z_f2_t f3 f4, p4, fun r => ?_⟩
      obtain ⟨r1, r2, m4, r3, r4, r5⟩ := q4 r
      obtain ⟨t1, t2, m3, t3, t4, t5⟩ := q3 r1
      refine ⟨c.1, ?_, m3 ++ m4, ?_, ?_, fun k hk => ?_⟩
      · have r2' : (x_lp tp n it op f ((it (x_adv tp n q.1, q.2)).1, x_ad (it (x_adv tp n q.1, q.2)).2 (op q.1.2))).2.length + (it (x_adv tp n q.1, q.2)).1.2 ≤ (x_ad (it (x_adv tp n q.1, q.2)).2 (op q.1.2)).length + (x_lp tp n it op f ((it (x_adv tp n q.1, q.2)).1, x_ad (it (x_adv tp n q.1, q.2)).2 (op q.1.2))).1.2 := r2
        omega
      · rw [r3, ← List.append_assoc]
        congr 1
      · intro x hx
        rcases List.mem_append.mp hx with r | r
        · exact t4 x r
        · exact r4 x r
      · rw [z_ht_a, t5 k hk]
        exact r5 k hk
    · rw [hE f' J q.1 h.1 c, x_lp_f c]
      exact ⟨J, rfl, z_f2_r J, h, fun c => ⟨c, Nat.le_refl _, [], (List.append_nil _).symm, fun c hc => absurd hc (by simp), fun k _ => rfl⟩⟩
/-- pieces with operators between them -/
theorem z_lpT {w : Nat} {it : x_Q → x_Q} {itR : g_I → Option g_I} {op : Nat → Int32} {L : Nat → g_I → Option g_I} (hit : z_E tp n w it itR) (hop : z_op n op)
    (hE : ∀ f J s, z_ps tp n J s → ¬ (s.1 = 0 ∧ ¬ op s.2 = 0) → L (f + 1) J = some J)
    (hS : ∀ f J s, z_ps tp n J s → s.1 = 0 → ¬ op s.2 = 0 → L (f + 1) J = g_bind (b_X11_stepOn J) fun J1 => g_bind (itR J1) fun J2 => g_bind (b_X11_lay J2 (z_sg (op s.2))) fun J3 => L f J3) :
    z_E tp n (w + 1) (fun q => x_lp tp n it op 600 (it q)) (fun J => g_bind (itR J) fun J2 => L fu J2) := by
  refine ⟨fun q hq => ?_, fun J q h => ?_⟩
  · have h1 := hit.1 q hq
    show (x_lp tp n it op 600 (it q)).1 = q.1
    rw [x_lp_f (fun c => hq (by rw [← h1]; exact c.1)), h1]
  · obtain ⟨J1, e1, f1, p1, q1⟩ := hit.2 J q h
    obtain ⟨J2, e2, f2, p2, q2⟩ := z_lpE hit hop hE hS 600 fu J1 (it q) p1 (fun _ => by have := h.1.1.2.1; omega) (by unfold fu; omega)
    refine ⟨J2, by show (g_bind (itR J) fun J2 => L fu J2) = some J2; rw [e1, z_gb]; exact e2, z_f2_t f1 f2, p2, fun r => ?_⟩
    obtain ⟨r1, r2, m2, r3, r4, r5⟩ := q2 r
    obtain ⟨t1, t2, m1, t3, t4, t5⟩ := q1 r1
    have r2' : (x_lp tp n it op 600 (it q)).2.length + (it q).1.2 ≤ (it q).2.length + (x_lp tp n it op 600 (it q)).1.2 := r2
    refine ⟨t1, by show (x_lp tp n it op 600 (it q)).2.length + q.1.2 ≤ q.2.length + (x_lp tp n it op 600 (it q)).1.2; omega, m1 ++ m2, ?_, ?_, fun k hk => ?_⟩
    · show (x_lp tp n it op 600 (it q)).2 = _
      rw [r3, t3, List.append_assoc]
    · intro x hx
      rcases List.mem_append.mp hx with r | r
      · exact t4 x r
      · exact r4 x r
    · rw [z_ht_a, t5 k (by omega)]
      exact r5 k hk
end ZEX
