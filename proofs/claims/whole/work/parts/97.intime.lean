/-! PURE: THE REFERENCE'S DAY -/
theorem z_rd_0 {fr un : Nat → Nat} {n f h : Nat} {A : Nat → Bool} (q : ∀ k, k < n → A k = false) : z_rd fr un n f h A = true := by rw [z_rd_ed]; exact z_ed_0 _ _ _ q
/-- one hour -/
theorem z_hour {J : g_I} {p M h : Nat} {fr un : Nat → Nat} (hM : M ≤ 6) (hh : h < 50) (hfr : ∀ b, b < M → b_X11_from J (nI p) (nI b) = some (nI (fr b)) ∧ fr b < 1000) (hun : ∀ b, b < M → b_X11_until J (nI b) = some (nI (un b)) ∧ un b < 1000) (x : Int32) (K : Int32 → Option Bool) : b_X11_isInTime_L55 J (nI p) (nI M) x (nI h) K fu (-1) 0 = if lall (fun k => !(bt x k && decide (un k < h))) M = false then some false else K (z_en (z_mu fr un (bt x) h M)) := by
  have hq := z_lpx (F := fun f (s : Int32 × Int32) => b_X11_isInTime_L55 J (nI p) (nI M) x (nI h) K f s.1 s.2) (K := fun s => K s.1) (N := M) (fun i s => s.2 = nI i ∧ s.1 = z_en (z_mu fr un (bt x) h i) ∧ ∀ k, k < i → bt x k = true → h ≤ un k) (fun o => o = some false ∧ lall (fun k => !(bt x k && decide (un k < h))) M = false)
    (fun f s hP => by
      show b_X11_isInTime_L55 J (nI p) (nI M) x (nI h) K (f + 1) s.1 s.2 = K s.1
      unfold b_X11_isInTime_L55
      rw [hP.1, if_pos (Int32.le_refl _)])
    (fun f i s hi hP => by
      obtain ⟨s1, s2, s3⟩ := hP
      obtain ⟨f1, f2⟩ := hfr i hi
      obtain ⟨u1, u2⟩ := hun i hi
      have hle : nI h ≤ nI (un i) ↔ h ≤ un i := nI_leI (by omega) (by omega)
      have hlt : nI h < nI (fr i) ↔ h < fr i := nI_ltI (by omega) (by omega)
      have hst : b_X11_isInTime_L55 J (nI p) (nI M) x (nI h) K (f + 1) s.1 s.2 = if bt x i = true then (if nI h ≤ nI (un i) then (if nI h < nI (fr i) then b_X11_isInTime_L55 J (nI p) (nI M) x (nI h) K f s.1 (nI (i + 1)) else if s.1 = -1 then b_X11_isInTime_L55 J (nI p) (nI M) x (nI h) K f (nI i) (nI (i + 1)) else g_bind (b_X11_until J s.1) fun a12 => if a12 ≤ nI (un i) then b_X11_isInTime_L55 J (nI p) (nI M) x (nI h) K f s.1 (nI (i + 1)) else b_X11_isInTime_L55 J (nI p) (nI M) x (nI h) K f (nI i) (nI (i + 1))) else some false) else b_X11_isInTime_L55 J (nI p) (nI M) x (nI h) K f s.1 (nI (i + 1)) := by
        conv => lhs; unfold b_X11_isInTime_L55
        rw [s1, if_neg (nI_ge hi (by omega)), z_isOf (by omega), u1, f1, nI_1]
        rfl
      show (∃ s' : Int32 × Int32, b_X11_isInTime_L55 J (nI p) (nI M) x (nI h) K (f + 1) s.1 s.2 = b_X11_isInTime_L55 J (nI p) (nI M) x (nI h) K f s'.1 s'.2 ∧ _) ∨ (b_X11_isInTime_L55 J (nI p) (nI M) x (nI h) K (f + 1) s.1 s.2 = some false ∧ _)
      rw [hst]
      by_cases c1 : bt x i = true
      · rw [if_pos c1]
        by_cases c2 : h ≤ un i
        · rw [if_pos (hle.mpr c2)]
          have hok : ∀ k, k < i + 1 → bt x k = true → h ≤ un k := fun k hk q => by
            by_cases ek : k = i
            · rw [ek]; exact c2
            · exact s3 k (by omega) q
          by_cases c3 : h < fr i
          · rw [if_pos (hlt.mpr c3)]
            refine Or.inl ⟨(s.1, nI (i + 1)), rfl, rfl, ?_, hok⟩
            show s.1 = _
            rw [z_mu_s, decide_eq_false (show ¬ fr i ≤ h by omega), Bool.and_false, Bool.false_and, if_neg (by decide), s2]
          · rw [if_neg (fun q => c3 (hlt.mp q))]
            rcases z_mu_c (fr := fr) (un := un) (A := bt x) (h := h) i with ⟨m, -⟩ | ⟨k, m, hk, -⟩
            · rw [m] at s2
              rw [if_pos (show s.1 = -1 from s2)]
              refine Or.inl ⟨(nI i, nI (i + 1)), rfl, rfl, ?_, hok⟩
              show nI i = _
              rw [z_mu_s, m, c1, decide_eq_true (show fr i ≤ h by omega)]
              rfl
            · rw [m] at s2
              have e : s.1 = nI k := s2
              rw [e, if_neg (z_nm1 (by omega)), (hun k (by omega)).1]
              simp only [g_bind]
              have hl2 : nI (un k) ≤ nI (un i) ↔ un k ≤ un i := nI_leI (by have := (hun k (by omega)).2; omega) (by omega)
              by_cases c4 : un k ≤ un i
              · rw [if_pos (hl2.mpr c4)]
                refine Or.inl ⟨(nI k, nI (i + 1)), rfl, rfl, ?_, hok⟩
                show nI k = _
                rw [z_mu_s, m, if_neg (fun q => by rw [Bool.and_eq_true] at q; have : un i < un k := of_decide_eq_true q.2; omega)]
                rfl
              · rw [if_neg (fun q => c4 (hl2.mp q))]
                refine Or.inl ⟨(nI i, nI (i + 1)), rfl, rfl, ?_, hok⟩
                show nI i = _
                rw [z_mu_s, m, c1, decide_eq_true (show fr i ≤ h by omega), if_pos (by show (true && true && decide (un i < un k)) = true; rw [decide_eq_true (show un i < un k by omega)]; rfl)]
                rfl
        · rw [if_neg (fun q => c2 (hle.mp q))]
          refine Or.inr ⟨rfl, lall_no hi ?_⟩
          show (!(bt x i && decide (un i < h))) = false
          rw [c1, decide_eq_true (show un i < h by omega)]; rfl
      · rw [if_neg c1]
        refine Or.inl ⟨(s.1, nI (i + 1)), rfl, rfl, ?_, fun k hk q => ?_⟩
        · show s.1 = _
          rw [z_mu_s, show bt x i = false by cases q : bt x i; rfl; exact absurd q c1, Bool.false_and, Bool.false_and, if_neg (by decide), s2]
        · by_cases ek : k = i
          · rw [ek] at q; exact absurd q c1
          · exact s3 k (by omega) q)
    M fu 0 (-1, 0) (by omega) (by unfold fu; omega) ⟨rfl, rfl, fun k hk => absurd hk (Nat.not_lt_zero k)⟩
  rcases hq with ⟨s, e, -, e2, e3⟩ | ⟨e, e2⟩
  · rw [z_ok.mpr e3, if_neg (by decide), ← e2]
    exact e
  · rw [e2, if_pos rfl]
    exact e
theorem z_dayR {J : g_I} {p M : Nat} {fr un : Nat → Nat} (hM : M ≤ 6) (hfr : ∀ b, b < M → b_X11_from J (nI p) (nI b) = some (nI (fr b)) ∧ fr b < 1000) (hun : ∀ b, b < M → b_X11_until J (nI b) = some (nI (un b)) ∧ un b < 1000) : ∀ (r f h : Nat) (x : Int32), h + r = 24 → r < f → (∀ i, M ≤ i → i < 32 → bt x i = false) → b_X11_isInTime_L38 J (nI p) (nI M) (fun (a17 : Int32) => if a17 = 0 then some true else some false) f x (nI h) = some (z_rd fr un M r h (bt x)) := by
  intro r
  induction r with
  | zero =>
    intro f h x hh hf hx
    cases f with
    | zero => exact absurd hf (Nat.lt_irrefl 0)
    | succ f =>
      unfold b_X11_isInTime_L38
      rw [if_pos (show (24 : Int32) ≤ nI h by rw [show h = 24 by omega]; exact Int32.le_refl _)]
      by_cases c : x = 0
      · rw [if_pos c, c, z_rd_0 (fun k _ => b_0 k)]
      · rw [if_neg c]
        cases q : z_rd fr un M 0 h (bt x)
        · rfl
        · refine absurd (z_eq0.mpr fun i hi => ?_) c
          by_cases ci : i < M
          · exact z_no_t.mp q i ci
          · exact hx i (by omega) hi
  | succ r ih =>
    intro f h x hh hf hx
    cases f with
    | zero => exact absurd hf (Nat.not_lt_zero _)
    | succ f =>
      conv => lhs; unfold b_X11_isInTime_L38
      rw [if_neg (show ¬ (24 : Int32) ≤ nI h from nI_ge (b := 24) (show h < 24 by omega) (by omega))]
      by_cases c : x = 0
      · rw [if_pos c, if_pos c, c, z_rd_0 (fun k _ => b_0 k)]
      · rw [if_neg c, z_hour hM (by omega) hfr hun]
        rcases z_mu_c (fr := fr) (un := un) (A := bt x) (h := h) M with ⟨m, -⟩ | ⟨k, m, hk, -⟩
        · rw [m, z_rd_n m]
          cases q : lall (fun k => !(bt x k && decide (un k < h))) M
          · rw [if_pos rfl, if_pos rfl]
          · rw [if_neg (show ¬ true = false by decide), if_neg (show ¬ true = false by decide), if_pos (show z_en none = -1 from rfl), nI_1]
            exact ih f (h + 1) x (by omega) (by omega) hx
        · rw [m, z_rd_s m]
          cases q : lall (fun k => !(bt x k && decide (un k < h))) M
          · rw [if_pos rfl, if_pos rfl]
          · rw [if_neg (show ¬ true = false by decide), if_neg (show ¬ true = false by decide), show z_en (some k) = nI k from rfl, if_neg (z_nm1 (show k < 2 ^ 31 by omega)), z_gl, nI_1]
            have hbt : bt (x &&& (((1 : Int32) <<< (nI k &&& 31)) ^^^ (-1))) = z_rm (bt x) k := by
              funext j
              unfold z_rm
              rw [b_and]
              by_cases hj : j < 32
              · rw [z_com _ hj, z_one (by omega) hj]
                by_cases e : j = k
                · rw [decide_eq_true e, decide_eq_false (fun q => q e)]; rfl
                · rw [decide_eq_false e, decide_eq_true (show j ≠ k from e)]; rfl
              · rw [b_big (show 32 ≤ j by omega)]; rfl
            rw [ih f (h + 1) _ (by omega) (by omega) (fun i h1 h2 => by rw [b_and, hx i h1 h2]; rfl), hbt]
theorem z_inTime {J : g_I} {p M : Nat} {fr un : Nat → Nat} (hM : M ≤ 6) (hfr : ∀ b, b < M → b_X11_from J (nI p) (nI b) = some (nI (fr b)) ∧ fr b < 1000) (hun : ∀ b, b < M → b_X11_until J (nI b) = some (nI (un b)) ∧ un b < 1000) : b_X11_isInTime J (nI p) (nI M) = some (z_rd fr un M 24 0 (fun b => decide (b < M ∧ J 126 b = nI p))) := by
  unfold b_X11_isInTime
  have h := z_lf (F := fun f a x => b_X11_isInTime_L5 J (nI p) (nI M) (fun (a2 : Int32) => b_X11_isInTime_L38 J (nI p) (nI M) (fun (a17 : Int32) => if a17 = 0 then some true else some false) fu a2 0) f a x) (K := fun (a2 : Int32) => b_X11_isInTime_L38 J (nI p) (nI M) (fun (a17 : Int32) => if a17 = 0 then some true else some false) fu a2 0) (N := M) (g := fun b a => if J 126 b = nI p then a ||| ((1 : Int32) <<< (nI b &&& 31)) else a)
    (fun f a => by show b_X11_isInTime_L5 J (nI p) (nI M) _ (f + 1) a (nI M) = _; unfold b_X11_isInTime_L5; rw [if_pos (Int32.le_refl _)])
    (fun f a i hi => by
      show b_X11_isInTime_L5 J (nI p) (nI M) _ (f + 1) a (nI i) = b_X11_isInTime_L5 J (nI p) (nI M) _ f _ _
      conv => lhs; unfold b_X11_isInTime_L5
      rw [if_neg (nI_ge hi (by omega)), if_pos (g_in_nI (by omega) (by decide)), nI_clamp (by omega), z_gl, nI_1]
      by_cases c : J 126 i = nI p
      · rw [if_pos c, if_pos c]
      · rw [if_neg c, if_neg c]) 0 (by omega)
  refine Eq.trans h ?_
  have hb : ∀ i, i < 32 → bt (lfold (fun b a => if J 126 b = nI p then a ||| ((1 : Int32) <<< (nI b &&& 31)) else a) 0 M) i = decide (i < M ∧ J 126 i = nI p) := fun i hi => z_fold (by omega) hi
  have := z_dayR hM hfr hun 24 fu 0 (lfold (fun b a => if J 126 b = nI p then a ||| ((1 : Int32) <<< (nI b &&& 31)) else a) 0 M) (by omega) (by unfold fu; omega) (fun i h1 h2 => by rw [hb i h2]; exact decide_eq_false (fun q => by omega))
  refine Eq.trans this ?_
  congr 2
  funext j
  by_cases hj : j < 32
  · exact hb j hj
  · rw [b_big (show 32 ≤ j by omega)]; exact (decide_eq_false (fun q => by omega)).symm
