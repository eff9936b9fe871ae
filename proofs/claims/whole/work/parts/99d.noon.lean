/-! PURE: NOON, BOTH SEARCHES -/
theorem z_noon {I B I2 J : g_I} {t : Nat} {T : x_T} (ht3 : t = 3 ∨ t = 22) (hW : z_W T) (hT : k_tw I t T) (hR : z_R B T) (hD : z_D T (z_dc I 47) (z_dr B)) {a9 b9 : Nat} (ha : I 47 1 = nI a9) (ha2 : a9 < 24) (hb : T.2.2.2.1.2 = nI b9) (hb2 : b9 ≤ 23) (h5 : z_ct (fun b => decide (B 118 b = -1)) T.2.1.length ≤ 5) (hday : (∃ b, b < T.2.1.length ∧ B 118 b = -1) → B 101 30 = 0) (hs : k_sea (f_look I 90 t 47 T.1.length T.2.1.length) I2 J 79 t 47 90 T.1.length T.2.1.length a9 b9) {I7 : g_I} (h7 : z_rK B I7) (h46 : I7 101 46 = 0) : ∃ I9, c_X11_rowOn 8 I7 0 0 = some I9 ∧ z_rK B I9 ∧ ((J 79 1 = 1000000 ∧ I9 101 46 = 0) ∨ ∃ c0, c0 ≤ 100 ∧ J 79 1 = nI c0 ∧ I9 101 46 = 1 ∧ I9 101 44 = nI c0 ∧ ∀ b, b < T.2.1.length → J 80 b = I9 127 b) := by
  have h8 := hW.1.1
  have h6 := hW.2.1.1
  have h31 : B 101 31 = nI a9 := by rw [← ha]; exact hD.2.1.symm
  have hlk : ∀ a, a ≠ 91 → a ≠ 92 → f_look I 90 t 47 T.1.length T.2.1.length a = I a := fun a h1 h2 => f_look_K _ _ _ _ h1 h2
  unfold k_sea at hs
  rw [hlk (47 + 2) (by decide) (by decide), hlk (t + 11) (by omega) (by omega), hlk (t + 12) (by omega) (by omega), hlk t (by omega) (by omega)] at hs
  obtain ⟨s1, s2, s3, s4, s5, op, it, ff, S0, row0, ch0, eop, hit, hS0, hff, hJ1, hJ2⟩ := hs
  have hOc : ∀ b, b < T.2.1.length → ((fun b => decide (B 118 b = -1)) b = true ↔ I (47 + 2) b = -1) := fun b hb => by
    show decide (B 118 b = -1) = true ↔ _
    rw [decide_eq_true_iff, show I (47 + 2) b = B 118 b from hD.2.2.2.1 b hb]
  obtain ⟨c1, c2⟩ := z_co (ct := I (47 + 2)) (ba := I (t + 11)) (fr := I (t + 12)) (no := I t 3) (lo0 := f_look I 90 t 47 T.1.length T.2.1.length (79 + 2)) (lh0 := f_look I 90 t 47 T.1.length T.2.1.length (79 + 3)) (O := fun b => decide (B 118 b = -1)) hOc h5 T.2.1.length (Nat.le_refl _)
  rw [← s2, ← s3] at c2
  rw [c1] at eop s4
  generalize hO : (fun b => decide (B 118 b = -1)) = O at *
  have hOB : ∀ b, b < T.2.1.length → (O b = true ↔ B 118 b = -1) := fun b _ => by rw [← hO]; exact decide_eq_true_iff
  have c3 : ∀ b, b < T.2.1.length → O b = true → I2 (79 + 2) (z_ct O b) = nI b ∧ I2 (79 + 3) (z_ct O b) = (if I (t + 11) b + I (t + 12) b < I t 3 then I (t + 11) b + I (t + 12) b else I t 3) := fun b hb ho => c2 b hb (decide_eq_true ((hOB b hb).mp ho))
  have hol : z_ol O T.2.1.length op (fun j => (I2 (79 + 2) j).toNatClampNeg) := by
    rw [eop]
    exact z_olC fun b hb ho => by show (I2 (79 + 2) (z_ct O b)).toNatClampNeg = b; rw [(c3 b hb ho).1, nI_clamp (by omega)]
  have hlo : ∀ j, j < op → ∃ b, b < T.2.1.length ∧ O b = true ∧ z_ct O b = j ∧ I2 (79 + 2) j = nI b ∧ (I2 (79 + 2) j).toNatClampNeg = b ∧ I2 (79 + 3) j = nI (z_nu T b9 b) := fun j hj => by
    rw [eop] at hj
    obtain ⟨b, h1, h2, h3⟩ := z_ct_sur j hj
    obtain ⟨e1, e2⟩ := c3 b h1 h2
    rw [h3] at e1 e2
    refine ⟨b, h1, h2, h3, e1, by rw [e1, nI_clamp (by omega)], ?_⟩
    obtain ⟨-, ⟨b1, b2⟩, f1, f2⟩ := z_nL hW h1
    have hlf := hT.2.1.2.2 b h1
    rw [e2, hlf.2.2.1, hlf.2.2.2.1, hT.2.2.2.2.1, hb]
    show (if (z_ll T b).1.2.2.1 + (z_ll T b).1.2.2.2 < nI b9 then (z_ll T b).1.2.2.1 + (z_ll T b).1.2.2.2 else nI b9) = nI (z_nu T b9 b)
    rw [b2, f2, nI_add]
    unfold z_nu
    by_cases c : z_nB T b + z_nF T b < b9
    · rw [if_pos ((nI_ltI (by omega) (by omega)).mpr c), if_pos c]
    · rw [if_neg (fun q => c ((nI_ltI (by omega) (by omega)).mp q)), if_neg c]
  have hcu : ∀ b, b < T.2.1.length → ∀ p, p < T.1.length → f_has (I2 (90 + 2) b) (nI p) = z_can T (B 114) (B 101 30) p b := fun b hb p hp => by
    rw [s1 (90 + 2) (by omega), z_has (by omega)]
    have := z_look92 hW hT hD hb
    rw [show f_look I 90 t 47 T.1.length T.2.1.length (90 + 2) b = z_cu T (B 114) (B 101 30) b from this]
    exact z_iff ((z_cu_b hW.1 (by omega)).trans ⟨fun q => q.2, fun q => ⟨hp, q⟩⟩)
  have hwy : ∀ j, j < op → ∀ p, p < T.1.length → ∀ b, b < T.2.1.length → (I2 (79 + 2) j).toNatClampNeg = b → f_wy I2 79 t p j = nI (z_nw T p b) := fun j hj p hp b hb e => by
    unfold f_wy
    rw [e, s1 (t + 9) (by omega), s1 (t + 2) (by omega), hlk (t + 9) (by omega) (by omega), hlk (t + 2) (by omega) (by omega), (hT.2.1.2.2 b hb).1, (hT.1.2.2 p hp).2.1]
    exact (z_nwB hW hp hb).2.1
  have hop5 : op ≤ 5 := by rw [eop]; exact h5
  have hval : ∀ p, p < T.1.length → ∀ j, j < op → ∀ b, b < T.2.1.length → (I2 (79 + 2) j).toNatClampNeg = b → I2 (79 + 4) (5 * p + j) = (if z_can T (B 114) (B 101 30) p b = true then nI (z_nw T p b) else -1) ∧ I2 (79 + 5) (5 * p + j) = nI (z_nf T a9 p b) := fun p hp j hj b hb e => by
    obtain ⟨v1, v2⟩ := s4 p j (by rw [← eop]; exact hj) hp
    obtain ⟨-, ⟨b1, b2⟩, -⟩ := z_nL hW hb
    rw [v1, v2]
    unfold f_hs f_th
    rw [hwy j hj p hp b hb e, e, hcu b hb p hp, s1 47 (by omega), hlk 47 (by decide) (by decide), ha, s1 (t + 11) (by omega), hlk (t + 11) (by omega) (by omega), (hT.2.1.2.2 b hb).2.2.1, show (T.2.1.getD b ((0, 0, 0, 0), [])).1.2.2.1 = nI (z_nB T b) from b2]
    refine ⟨rfl, ?_⟩
    unfold z_nf
    by_cases c : a9 < z_nB T b
    · rw [if_pos ((nI_ltI (by omega) (by omega)).mpr c), if_pos c, nI_add]
    · rw [if_neg (fun q => c ((nI_ltI (by omega) (by omega)).mp q)), if_neg c, nI_add]
  have hnu : ∀ b, z_nu T b9 b ≤ b9 := fun b => by unfold z_nu; split <;> omega
  have hsear := z_sear (hs := I2 (79 + 4)) (ta := I2 (79 + 5)) (lh := I2 (79 + 3)) (it := it) (ff := ff) (lo := I2 (79 + 2)) (S0 := S0) (row0 := row0) (ch0 := ch0) (op := op) (n := T.1.length) (a9 := a9) (b9 := b9) hop5 h8 (by omega) (by omega) (fr := fun p j => if z_can T (B 114) (B 101 30) p (I2 (79 + 2) j).toNatClampNeg = true then z_nf T a9 p (I2 (79 + 2) j).toNatClampNeg else 100) (un := fun j => z_nu T b9 (I2 (79 + 2) j).toNatClampNeg) (w := fun p j => z_nw T p (I2 (79 + 2) j).toNatClampNeg)
    (fun p hp s hs => hit p hp s hs)
    (fun p hp j hj => by
      obtain ⟨b, hb1, -, -, -, e, -⟩ := hlo j hj
      obtain ⟨v1, v2⟩ := hval p hp j hj b hb1 e
      show (I2 (79 + 4) (5 * p + j) = -1 → 50 ≤ (if z_can T (B 114) (B 101 30) p (I2 (79 + 2) j).toNatClampNeg = true then z_nf T a9 p (I2 (79 + 2) j).toNatClampNeg else 100)) ∧ (¬ I2 (79 + 4) (5 * p + j) = -1 → I2 (79 + 5) (5 * p + j) = nI (if z_can T (B 114) (B 101 30) p (I2 (79 + 2) j).toNatClampNeg = true then z_nf T a9 p (I2 (79 + 2) j).toNatClampNeg else 100) ∧ (if z_can T (B 114) (B 101 30) p (I2 (79 + 2) j).toNatClampNeg = true then z_nf T a9 p (I2 (79 + 2) j).toNatClampNeg else 100) < 1000 ∧ I2 (79 + 4) (5 * p + j) = nI (z_nw T p (I2 (79 + 2) j).toNatClampNeg) ∧ z_nw T p (I2 (79 + 2) j).toNatClampNeg ≤ 20)
      rw [v1, v2, e]
      have w9 := (z_nwB hW hp hb1).2.2
      have f9 := z_nfB hW ha2 hp hb1
      by_cases c : z_can T (B 114) (B 101 30) p b = true
      · rw [if_pos c, if_pos c]
        exact ⟨fun q => absurd q (z_nm1 (by omega)), fun _ => ⟨rfl, by omega, rfl, by omega⟩⟩
      · rw [if_neg c, if_neg c]
        exact ⟨fun _ => by omega, fun q => absurd rfl q⟩)
    (fun j hj => by
      obtain ⟨b, hb1, -, -, -, e, e2⟩ := hlo j hj
      show I2 (79 + 3) j = nI (z_nu T b9 (I2 (79 + 2) j).toNatClampNeg) ∧ z_nu T b9 (I2 (79 + 2) j).toNatClampNeg < 50
      rw [e, e2]
      have := hnu b
      exact ⟨rfl, by omega⟩) hS0 hff
  have hRk : ∀ K, z_rK B K → z_R K T := fun K hK => z_R_o hR fun a q1 q2 q3 => hK.1 a (by omega) (by omega) (by omega)
  have hrow := z_rowOn (J := B) (n := T.1.length) (m := T.2.1.length) (op := op) (O := O) (lo := fun j => (I2 (79 + 2) j).toNatClampNeg) hol h8 h6 hop5 hOB hR.1.1 hR.2.1.1 (fun ⟨b, q1, q2⟩ => hday ⟨b, q1, (hOB b q1).mp q2⟩) (cc := fun b p => z_can T (B 114) (B 101 30) p b) (frR := fun p b => z_nf T a9 p b) (fr := fun p j => if z_can T (B 114) (B 101 30) p (I2 (79 + 2) j).toNatClampNeg = true then z_nf T a9 p (I2 (79 + 2) j).toNatClampNeg else 100) (wR := fun p b => z_nw T p b) (w := fun p j => z_nw T p (I2 (79 + 2) j).toNatClampNeg) (unR := fun b => z_nu T b9 b) (un := fun j => z_nu T b9 (I2 (79 + 2) j).toNatClampNeg) (a9 := a9) (b9 := b9) (by omega) hb2
    (fun K hK p b hp hb1 => by
      have hRK := hRk K hK
      refine ⟨?_, z_fromR hW hRK ha2 (by rw [hK.2 31 (by decide) (by decide)]; exact h31) hp hb1, by have := (z_nfB hW ha2 hp hb1).2; show z_nf T a9 p b < 1000; omega, z_untilR hW hRK hb2 hb hb1, by have := hnu b; show z_nu T b9 b < 1000; omega⟩
      rw [z_canCut hW.1 hW.2.1 hRK hp hb1, hK.1 114 (by decide) (by decide) (by decide), hK.2 30 (by decide) (by decide)])
    (fun p b hp hb1 => by
      rw [(hR.1.2 p hp).2.1, (hR.2.1.2 b hb1).1]
      exact ⟨(z_nwB hW hp hb1).1, by have := (z_nwB hW hp hb1).2.2; show z_nw T p b ≤ 20; omega⟩)
    (fun j hj => ⟨rfl, hnu _⟩)
    (fun p j hp hj => by
      obtain ⟨b, hb1, -, -, -, e, -⟩ := hlo j hj
      show a9 ≤ (if z_can T (B 114) (B 101 30) p (I2 (79 + 2) j).toNatClampNeg = true then z_nf T a9 p (I2 (79 + 2) j).toNatClampNeg else 100) ∧ (z_can T (B 114) (B 101 30) p (I2 (79 + 2) j).toNatClampNeg = true → z_nf T a9 p (I2 (79 + 2) j).toNatClampNeg = if z_can T (B 114) (B 101 30) p (I2 (79 + 2) j).toNatClampNeg = true then z_nf T a9 p (I2 (79 + 2) j).toNatClampNeg else 100) ∧ (z_can T (B 114) (B 101 30) p (I2 (79 + 2) j).toNatClampNeg = false → 50 ≤ if z_can T (B 114) (B 101 30) p (I2 (79 + 2) j).toNatClampNeg = true then z_nf T a9 p (I2 (79 + 2) j).toNatClampNeg else 100)
      rw [e]
      have f9 := z_nfB hW ha2 hp hb1
      cases z_can T (B 114) (B 101 30) p b
      · rw [if_neg (by decide)]; exact ⟨by omega, fun q => Bool.noConfusion q, fun _ => by omega⟩
      · rw [if_pos rfl]; exact ⟨f9.1, fun _ => rfl, fun q => Bool.noConfusion q⟩)
    (fun p j hp hj => rfl)
    8 0 0 (fun _ => 0) none I7 (by omega) (Nat.zero_le _) (Nat.zero_le _) h7 (fun b' hb' => absurd hb' (Nat.not_lt_zero b')) (fun j hj => absurd hj (Nat.not_lt_zero j)) h46
  obtain ⟨I9, e9, k9, -, r9⟩ := hrow
  refine ⟨I9, e9, k9, ?_⟩
  rw [show z_ct O 0 = 0 from rfl, Nat.sub_zero] at r9
  cases heB : f_eB (fun k => f_fe (I2 (79 + 4)) it k T.1.length) op op
  · rw [heB, if_neg (by decide)] at hJ1
    rw [hsear.2 heB] at r9
    exact Or.inl ⟨hJ1, r9⟩
  · rw [heB, if_pos rfl] at hJ1
    have hz := hsear.1 heB
    have hJ80 := hJ2 heB
    cases hr : z_pn T.1.length (fun p j => z_nw T p (I2 (79 + 2) j).toNatClampNeg) (z_F (fun p j => if z_can T (B 114) (B 101 30) p (I2 (79 + 2) j).toNatClampNeg = true then z_nf T a9 p (I2 (79 + 2) j).toNatClampNeg else 100) (fun j => z_nu T b9 (I2 (79 + 2) j).toNatClampNeg) op a9 b9) op 0 0 (fun _ => 0) none with
    | none =>
      rw [hr] at hz r9
      exact Or.inl ⟨hJ1.trans hz, r9⟩
    | some i =>
      rw [hr] at hz r9
      obtain ⟨z1, z2, z3⟩ := hz
      obtain ⟨y1, y2, y3, y4⟩ := r9
      refine Or.inr ⟨i.1, z2, hJ1.trans z1, y1, y2, fun b hb1 => ?_⟩
      rw [y4 b hb1, show J 80 = J (79 + 1) from rfl, hJ80, z3 b (by omega), eop]
      exact z_rwE (O := O) (lo := I2 (79 + 2)) h6 (fun b hb ho => (c3 b hb ho).1) i.2 hb1
