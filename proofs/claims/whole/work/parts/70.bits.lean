/-! PURE: BITS (the rows bt .. b_sshr, nx_and are pasted from kit/laws/BITS.to-paste) -/
def bt (x : Int32) (i : Nat) : Bool := x.toBitVec.getLsbD i
theorem b_ext {x y : Int32} (h : ∀ i, i < 32 → bt x i = bt y i) : x = y := Int32.toBitVec_inj.mp (BitVec.eq_of_getLsbD_eq (fun i hi => h i hi))
theorem b_or (x y : Int32) (i : Nat) : bt (x ||| y) i = (bt x i || bt y i) := by unfold bt; rw [Int32.toBitVec_or, BitVec.getLsbD_or]
theorem b_and (x y : Int32) (i : Nat) : bt (x &&& y) i = (bt x i && bt y i) := by unfold bt; rw [Int32.toBitVec_and, BitVec.getLsbD_and]
theorem b_xor (x y : Int32) (i : Nat) : bt (x ^^^ y) i = (bt x i ^^ bt y i) := by unfold bt; rw [Int32.toBitVec_xor, BitVec.getLsbD_xor]
theorem b_big {x : Int32} {i : Nat} (h : 32 ≤ i) : bt x i = false := BitVec.getLsbD_of_ge _ _ h
theorem b_255 (i : Nat) : bt 255 i = decide (i < 8) := by
  rcases Nat.lt_or_ge i 32 with h | h
  · exact (by decide +kernel : ∀ i, i < 32 → bt 255 i = decide (i < 8)) i h
  · rw [b_big h, decide_eq_false (by omega)]
theorem b_65535 (i : Nat) : bt 65535 i = decide (i < 16) := by
  rcases Nat.lt_or_ge i 32 with h | h
  · exact (by decide +kernel : ∀ i, i < 32 → bt 65535 i = decide (i < 16)) i h
  · rw [b_big h, decide_eq_false (by omega)]
theorem b_m1 : ∀ i, i < 32 → bt (-1) i = true := by decide +kernel
theorem b_0 (i : Nat) : bt 0 i = false := BitVec.getLsbD_zero
theorem s_l : ∀ n, n < 32 → ((nI n &&& 31).toBitVec.smod 32).toNat = n := by decide +kernel
theorem s_u : ∀ n, n < 32 → (((nI n).toUInt32 &&& Int32.toUInt32 31).toBitVec % 32).toNat = n := by decide +kernel
theorem b_shl (n : Nat) (hn : n < 32) (x : Int32) {i : Nat} (hi : i < 32) : bt (x <<< (nI n &&& 31)) i = (decide (n ≤ i) && bt x (i - n)) := by
  unfold bt
  rw [Int32.toBitVec_shiftLeft]
  show (x.toBitVec <<< ((nI n &&& 31).toBitVec.smod 32).toNat).getLsbD i = _
  rw [s_l n hn, BitVec.getLsbD_shiftLeft]
  rcases Nat.lt_or_ge i n with h | h
  · simp [h, Nat.not_le.mpr h]
  · simp [hi, h, Nat.not_lt.mpr h]
theorem b_ushr (n : Nat) (hn : n < 32) (x : Int32) (i : Nat) : bt ((x.toUInt32 >>> ((nI n).toUInt32 &&& Int32.toUInt32 31)).toInt32) i = bt x (n + i) := by
  show (x.toUInt32 >>> ((nI n).toUInt32 &&& Int32.toUInt32 31)).toBitVec.getLsbD i = x.toUInt32.toBitVec.getLsbD (n + i)
  rw [UInt32.toBitVec_shiftRight]
  show (x.toUInt32.toBitVec >>> (((nI n).toUInt32 &&& Int32.toUInt32 31).toBitVec % 32).toNat).getLsbD i = _
  rw [s_u n hn, BitVec.getLsbD_ushiftRight]
theorem b_sshr (n : Nat) (hn : n < 32) (x : Int32) {i : Nat} (hi : i < 32) : bt (x >>> (nI n &&& 31)) i = if n + i < 32 then bt x (n + i) else bt x 31 := by
  unfold bt
  rw [Int32.toBitVec_shiftRight]
  show (x.toBitVec.sshiftRight ((nI n &&& 31).toBitVec.smod 32).toNat).getLsbD i = _
  rw [s_l n hn, BitVec.getLsbD_sshiftRight, BitVec.msb_eq_getLsbD_last]
  simp [hi]
theorem nx_and (a b : Nat) : nI a &&& nI b = nI (a &&& b) := by
  apply Int32.toBitVec_inj.1
  show BitVec.ofNat 32 a &&& BitVec.ofNat 32 b = BitVec.ofNat 32 (a &&& b)
  apply BitVec.eq_of_getLsbD_eq
  intro i hi
  simp [hi]
theorem z_bt1 : ∀ j, j < 32 → bt 1 j = decide (j = 0) := by decide +kernel
theorem z_1 (x : Int32) : x &&& 1 = if bt x 0 = true then 1 else 0 := by
  apply b_ext
  intro i hi
  rw [b_and, z_bt1 i hi]
  by_cases h : i = 0
  · subst h
    cases hb : bt x 0
    · rw [if_neg (by decide), b_0]; rfl
    · rw [if_pos rfl, z_bt1 0 hi]; rfl
  · rw [decide_eq_false h, Bool.and_false]
    by_cases hb : bt x 0 = true
    · rw [if_pos hb, z_bt1 i hi, decide_eq_false h]
    · rw [if_neg hb, b_0]
theorem z_sh0 {k : Nat} (hk : k < 32) (x : Int32) : bt (x >>> (nI k &&& 31)) 0 = bt x k := by
  rw [b_sshr k hk x (by decide), if_pos (by omega), Nat.add_zero]
theorem z_has {k : Nat} (hk : k < 32) (x : Int32) : f_has x (nI k) = bt x k := by
  unfold f_has
  rw [z_1, z_sh0 hk]
  cases bt x k <;> decide
theorem z_isOf {k : Nat} (hk : k < 32) (x : Int32) : b_X11_isOf x (nI k) = bt x k := by
  unfold b_X11_isOf
  rw [z_1, z_sh0 hk]
  cases bt x k <;> decide
theorem z_one {k i : Nat} (hk : k < 32) (hi : i < 32) : bt ((1 : Int32) <<< (nI k &&& 31)) i = decide (i = k) := by
  rw [b_shl k hk 1 hi]
  by_cases h : k ≤ i
  · rw [decide_eq_true h, z_bt1 _ (by omega), Bool.true_and]
    by_cases h2 : i = k
    · rw [decide_eq_true h2, decide_eq_true (by omega)]
    · rw [decide_eq_false h2, decide_eq_false (by omega)]
  · rw [decide_eq_false h, Bool.false_and, decide_eq_false (by omega)]
theorem z_com (x : Int32) {i : Nat} (hi : i < 32) : bt (x ^^^ (-1)) i = !bt x i := by
  rw [b_xor, b_m1 i hi]; cases bt x i <;> rfl
theorem z_and0 {x y : Int32} : x &&& y = 0 ↔ ∀ i, i < 32 → bt x i = true → bt y i = false := by
  constructor
  · intro h i hi hx
    have h2 := congrArg (fun z => bt z i) h
    simp only [b_and, b_0, hx, Bool.true_and] at h2
    exact h2
  · intro h
    apply b_ext
    intro i hi
    rw [b_and, b_0]
    cases hx : bt x i
    · rfl
    · rw [h i hi hx]; rfl
theorem z_eq0 {x : Int32} : x = 0 ↔ ∀ i, i < 32 → bt x i = false := ⟨fun h i _ => by rw [h, b_0], fun h => b_ext fun i hi => by rw [h i hi, b_0]⟩
/-- bits gathered in a loop -/
theorem z_fold {P : Nat → Prop} [DecidablePred P] {n i : Nat} (hn : n ≤ 32) (hi : i < 32) : bt (lfold (fun k a => if P k then a ||| ((1 : Int32) <<< (nI k &&& 31)) else a) 0 n) i = decide (i < n ∧ P i) := by
  induction n with
  | zero => rw [decide_eq_false (fun h => absurd h.1 (Nat.not_lt_zero i))]; exact b_0 i
  | succ n ih =>
    have ih := ih (by omega)
    show bt (if P n then lfold (fun k a => if P k then a ||| ((1 : Int32) <<< (nI k &&& 31)) else a) 0 n ||| ((1 : Int32) <<< (nI n &&& 31)) else lfold (fun k a => if P k then a ||| ((1 : Int32) <<< (nI k &&& 31)) else a) 0 n) i = _
    by_cases h : P n
    · rw [if_pos h, b_or, ih, z_one (by omega) hi]
      by_cases e : i = n
      · subst e; simp [h]
      · have h2 : (i < n ∧ P i) ↔ (i < n + 1 ∧ P i) := ⟨fun q => ⟨by omega, q.2⟩, fun q => ⟨by omega, q.2⟩⟩
        simp only [e, decide_false, Bool.or_false, h2]
    · rw [if_neg h, ih]
      have h2 : (i < n ∧ P i) ↔ (i < n + 1 ∧ P i) := ⟨fun q => ⟨by omega, q.2⟩, fun q => ⟨by have : i ≠ n := fun e => h (e ▸ q.2); omega, q.2⟩⟩
      simp only [h2]
/-- sets joined in a loop -/
theorem z_foldU {P : Nat → Prop} [DecidablePred P] {f : Nat → Int32} {n i : Nat} : bt (lfold (fun k a => if P k then a ||| f k else a) 0 n) i = true ↔ ∃ k, k < n ∧ P k ∧ bt (f k) i = true := by
  induction n with
  | zero => exact ⟨fun h => absurd ((b_0 i).symm.trans h) (by decide), fun ⟨k, h, _⟩ => absurd h (Nat.not_lt_zero k)⟩
  | succ n ih =>
    show bt (if P n then lfold (fun k a => if P k then a ||| f k else a) 0 n ||| f n else lfold (fun k a => if P k then a ||| f k else a) 0 n) i = true ↔ _
    by_cases h : P n
    · rw [if_pos h, b_or, Bool.or_eq_true, ih]
      constructor
      · rintro (⟨k, h1, h2, h3⟩ | h1)
        · exact ⟨k, by omega, h2, h3⟩
        · exact ⟨n, by omega, h, h1⟩
      · rintro ⟨k, h1, h2, h3⟩
        by_cases e : k = n
        · subst e; exact Or.inr h3
        · exact Or.inl ⟨k, by omega, h2, h3⟩
    · rw [if_neg h, ih]
      constructor
      · rintro ⟨k, h1, h2, h3⟩; exact ⟨k, by omega, h2, h3⟩
      · rintro ⟨k, h1, h2, h3⟩
        by_cases e : k = n
        · subst e; exact absurd h2 h
        · exact ⟨k, by omega, h2, h3⟩
theorem z_tb {s i : Nat} (hi : i < 32) : bt (nI s) i = s.testBit i := by
  unfold bt
  show (BitVec.ofNat 32 s).getLsbD i = _
  rw [BitVec.getLsbD_ofNat]
  simp [hi]
theorem z_of {x : Int32} {k : Nat} (hk : k ≤ 32) (h : ∀ i, k ≤ i → i < 32 → bt x i = false) : ∃ s, s < 2 ^ k ∧ x = nI s := by
  refine ⟨x.toBitVec.toNat, ?_, Int32.toBitVec_inj.mp (by show _ = BitVec.ofNat 32 _; simp)⟩
  apply Nat.lt_pow_two_of_testBit
  intro i hi
  rcases Nat.lt_or_ge i 32 with h2 | h2
  · exact h i hi h2
  · exact BitVec.getLsbD_of_ge _ _ h2
/-- how many bits -/
def z_pc (s : Nat) : Nat := lfold (fun k a => if s.testBit k = true then a + 1 else a) 0 10
theorem z_bc : ∀ s, s < 1024 → f_bc (nI s) = nI (z_pc s) := by decide +kernel
theorem z_bo1 : ∀ s, s < 1024 → (0 < s → z_pc (s &&& (s - 1)) + 1 = z_pc s ∧ (s &&& (s - 1)) < 1024) ∧ (z_pc s = 0 → s = 0) ∧ z_pc s ≤ 10 := by decide +kernel
theorem z_boL {K : Int32 → Option Int32} : ∀ (j f : Nat) (c : Int32) (s : Nat), s < 1024 → z_pc s = j → j < f → b_X11_bitsOf_L4 K f c (nI s) = K (c + nI j) := by
  intro j
  induction j with
  | zero =>
    intro f c s hs hp hf
    have h0 := (z_bo1 s hs).2.1 hp
    subst h0
    match f, hf with
    | f + 1, _ =>
      show (if nI 0 = 0 then K c else _) = _
      rw [if_pos nI_0]
      congr 1
      show c = c + 0
      simp
  | succ j ih =>
    intro f c s hs hp hf
    have hs0 : 0 < s := by
      rcases Nat.eq_zero_or_pos s with h | h
      · subst h; rw [show z_pc 0 = 0 by decide] at hp; omega
      · exact h
    obtain ⟨h1, h2⟩ := (z_bo1 s hs).1 hs0
    match f, hf with
    | f + 1, hf =>
      show (if nI s = 0 then K c else b_X11_bitsOf_L4 K f (c + 1) (nI s &&& (nI s - 1))) = _
      have e1 : nI s - 1 = nI (s - 1) := nI_subI (a := 1) hs0
      rw [if_neg (nI_ne0 hs0 (by omega)), e1, nx_and, ih f (c + 1) _ h2 (by omega) (by omega)]
      congr 1
      rw [Int32.add_assoc]
      congr 1
      show nI 1 + nI j = nI (j + 1)
      rw [nI_add, Nat.add_comm]
theorem z_bo {s : Nat} (hs : s < 1024) : b_X11_bitsOf (nI s) = some (nI (z_pc s)) := by
  unfold b_X11_bitsOf
  rw [z_boL _ fu 0 s hs rfl (by have := (z_bo1 s hs).2.2; unfold fu; omega)]
  congr 1
  simp
