/-! PURE: THE REFERENCE'S READING, TOKEN BY TOKEN -/
section ZRD
variable {tp : Nat → Int32} {n : Nat}
theorem x_adv_f {s : Int32 × Nat} (h : ¬ s.1 = 0) : x_adv tp n s = s := if_neg h
theorem x_fail_f {c : Int32} {s : Int32 × Nat} (h : ¬ s.1 = 0) : x_fail c s = s := if_neg h
theorem x_rs_f {c : Int32} {s : Int32 × Nat} (h : ¬ s.1 = 0) : x_rs tp n c s = s := by
  unfold x_rs
  rw [x_fail_f h, ite_self, x_adv_f h]
theorem x_rn_f {lo hi : Int32} {s : Int32 × Nat} (h : ¬ s.1 = 0) : x_rn tp n lo hi s = s := by
  unfold x_rn
  rw [x_fail_f h, x_fail_f h, ite_self, ite_self, x_adv_f h]
theorem x_pn_f {pn : Nat} {tk : Int32} {s : Int32 × Nat} (h : ¬ s.1 = 0) : x_pn tp n pn tk s = s := by
  unfold x_pn
  rw [x_fail_f h, x_fail_f h, x_fail_f h, x_fail_f h, ite_self, ite_self, ite_self, ite_self, x_adv_f h]
theorem z_av {J : g_I} {s : Int32 × Nat} (h : z_ps tp n J s) (h0 : s.1 = 0) : ∃ J', b_X11_stepOn J = some J' ∧ z_f1 J J' ∧ z_ps tp n J' (x_adv tp n s) := by
  obtain ⟨hT, h24, hn, ht, -⟩ := h
  have hk := ht h0
  obtain ⟨J', e, f, e24, e25, tk, hT'⟩ := z_stepOn hT (z_nn_b hn).2 hk.2.2.1
  rw [z_nn_av] at tk
  refine ⟨J', e, f, ?_⟩
  unfold x_adv
  rw [if_pos h0]
  exact ⟨hT', by rw [e24, h24]; exact h0, (x_av_b tp hn).2.1, fun _ => tk, fun q => absurd rfl q⟩
theorem z_wr {J : g_I} {s : Int32 × Nat} {c : Int32} (h : z_ps tp n J s) (hc : ¬ c = 0) : ∃ J', b_X11_wrong J c = some J' ∧ z_f1 J J' ∧ z_ps tp n J' (x_fail c s) := by
  obtain ⟨hT, h24, hn, ht, hf⟩ := h
  unfold b_X11_wrong x_fail
  by_cases h0 : s.1 = 0
  · rw [h24, if_pos h0, if_pos h0, z_gl, z_gl]
    refine ⟨_, rfl, z_f1_t (z_f1_u (by decide)) (z_f1_u (by decide)), z_tpr_u (z_tpr_u hT (by decide)) (by decide), ?_, hn, fun q => absurd q hc, fun _ => ?_⟩
    · rw [up_ne (by decide), up_eq]
    · rw [up_eq, up_ne (by decide)]
      exact (ht h0).1
  · rw [h24, if_neg h0, if_neg h0]
    exact ⟨J, rfl, z_f1_r J, hT, h24, hn, ht, hf⟩
theorem z_gbool {β : Type} (b : Bool) (f : Bool → Option β) : g_bool (kb b) f = f b := by cases b <;> rfl
theorem z_isL0 {bs : List Int32} {J : g_I} {K : Int32 → Option Bool} {x : Int32} : b_X11_is_L39 bs J K fu 0 x = K 0 := by
  show b_X11_is_L39 bs J K (4999 + 1) 0 x = K 0
  unfold b_X11_is_L39
  rw [if_pos rfl]
theorem z_tkE {a k : Nat} (hk : k ≤ 4) : nI (x_tk tp n a) = nI k ↔ x_tk tp n a = k := x_tk_e hk
def z_ws (bs : List Int32) : Prop := bs.length < 100 ∧ ∀ i, i < bs.length → ∃ c, c < 128 ∧ bs.getD i 0 = nI c
theorem z_is {J : g_I} {s : Int32 × Nat} (h : z_ps tp n J s) {bs : List Int32} (hbs : z_ws bs) : b_X11_is J bs = some (decide (s.1 = 0) && x_wd tp n s.2 bs) := by
  obtain ⟨hT, h24, hn, ht, -⟩ := h
  have hn6 := hT.2.1
  have hl := hbs.1
  unfold b_X11_is
  rw [z_gl, z_isL0, h24]
  by_cases h0 : s.1 = 0
  · obtain ⟨k1, k2, k3, k4, -⟩ := ht h0
    rw [if_pos h0, k2, decide_eq_true h0]
    unfold x_wd
    by_cases c1 : x_tk tp n s.2 = 1
    · have ha : s.2 < n := x_tk_lt (by rw [c1]; decide)
      have hnn : z_nn tp n s.2 = x_nx tp n s.2 := if_neg (by omega)
      have hxb := x_nx_b tp ha
      rw [if_pos (show nI (x_tk tp n s.2) = 1 from (z_tkE (by decide)).mpr c1), k4, k1, hnn, nI_subI (by omega), decide_eq_true c1]
      by_cases c2 : x_nx tp n s.2 - s.2 = bs.length
      · rw [if_pos (show nI bs.length = nI (x_nx tp n s.2 - s.2) by rw [c2]), decide_eq_true c2]
        have hfl := z_fl (F := fun f x y => b_X11_is_L39 bs J (fun (a2 : Int32) => g_bool a2 fun bz => some bz) f x y) (K := fun (a2 : Int32) => g_bool a2 fun bz => some bz) (P := fun i => decide (tp (s.2 + i) = bs.getD i 0)) (N := bs.length)
          (fun f a => by
            show b_X11_is_L39 bs J (fun (a2 : Int32) => g_bool a2 fun bz => some bz) (f + 1) a (nI bs.length) = _
            unfold b_X11_is_L39
            rw [if_pos (Int32.le_refl _), ite_self])
          (fun f i hi => by
            show b_X11_is_L39 bs J (fun (a2 : Int32) => g_bool a2 fun bz => some bz) (f + 1) 0 (nI i) = _
            unfold b_X11_is_L39
            rw [if_pos rfl])
          (fun f i hi => by
            show b_X11_is_L39 bs J (fun (a2 : Int32) => g_bool a2 fun bz => some bz) (f + 1) 1 (nI i) = b_X11_is_L39 bs J (fun (a2 : Int32) => g_bool a2 fun bz => some bz) f _ _
            obtain ⟨c, hc, ec⟩ := hbs.2 i hi
            have hby := hT.2.2.2 (s.2 + i) (by omega)
            conv => lhs; unfold b_X11_is_L39
            rw [if_neg (by decide), if_neg (nI_ge hi (by omega)), if_pos (g_in_nI hi (by omega)), k1, nI_add, if_pos (g_in_nI (by omega) (by decide)), nI_clamp (by omega), nI_clamp (by omega), hT.2.2.1 _ (by omega), nI_1, ec]
            by_cases c3 : tp (s.2 + i) = nI c
            · rw [if_pos ((z_byC hby.1 hby.2 hc).mpr c3).symm, decide_eq_true c3]; rfl
            · rw [if_neg (fun q => c3 ((z_byC hby.1 hby.2 hc).mp q.symm)), decide_eq_false c3]; rfl) true (by omega)
        have hfl2 : b_X11_is_L39 bs J (fun (a2 : Int32) => g_bool a2 fun bz => some bz) fu 1 0 = _ := hfl
        rw [hfl2, z_gbool]
        rfl
      · rw [if_neg (fun q => c2 ((nI_eq (by omega) (by omega)).mp q).symm), decide_eq_false c2]
        rfl
    · rw [if_neg (show ¬ nI (x_tk tp n s.2) = 1 from fun q => c1 ((z_tkE (by decide)).mp q)), decide_eq_false c1]
      rfl
  · rw [if_neg h0, decide_eq_false h0]
    rfl
def z_wx (P : List Int32 → Bool) : List (List Int32) → Nat → Int32
  | [], _ => -1
  | w :: W, i => if P w = true then nI i else z_wx P W (i + 1)
theorem z_which {J : g_I} {s : Int32 × Nat} (h : z_ps tp n J s) {W : List (List Int32)} (hW : ∀ w ∈ W, z_ws w) (hl : W.length < 100) : b_X11_which J W = some (z_wx (fun bs => decide (s.1 = 0) && x_wd tp n s.2 bs) W 0) := by
  have key : ∀ (r f i : Nat), i + r = W.length → r < f → b_X11_which_L2 W J (fun (_ : Unit) => some (-1)) f (nI i) = some (z_wx (fun bs => decide (s.1 = 0) && x_wd tp n s.2 bs) (W.drop i) i) := by
    intro r
    induction r with
    | zero =>
      intro f i hi hf
      obtain ⟨f', rfl⟩ : ∃ f', f = f' + 1 := ⟨f - 1, by omega⟩
      unfold b_X11_which_L2
      rw [if_pos (nI_le (by omega) (by omega)), List.drop_eq_nil_of_le (by omega)]
      rfl
    | succ r ih =>
      intro f i hi hf
      obtain ⟨f', rfl⟩ : ∃ f', f = f' + 1 := ⟨f - 1, by omega⟩
      have hlt : i < W.length := by omega
      unfold b_X11_which_L2
      have hg : W.getD i [] = W[i] := by simp [List.getD, hlt]
      rw [if_neg (nI_ge hlt (by omega)), if_pos (g_in_nI hlt (by omega)), nI_clamp (by omega), hg, z_is h (hW _ (List.getElem_mem hlt)), List.drop_eq_getElem_cons hlt]
      simp only [g_bind]
      rw [nI_1, ih f' (i + 1) (by omega) (by omega)]
      show _ = some (if (decide (s.1 = 0) && x_wd tp n s.2 W[i]) = true then nI i else z_wx (fun bs => decide (s.1 = 0) && x_wd tp n s.2 bs) (W.drop (i + 1)) (i + 1))
      by_cases c : (decide (s.1 = 0) && x_wd tp n s.2 W[i]) = true
      · rw [if_pos c, if_pos c]
      · rw [if_neg c, if_neg c]
  have := key W.length fu 0 (by omega) (by unfold fu; omega)
  unfold b_X11_which
  rw [List.drop_zero] at this
  exact this
theorem z_mkd {J : g_I} {s : Int32 × Nat} (h : z_ps tp n J s) {c : Nat} (hc : c < 128) : b_X11_isMarked J (nI c) = some (decide (s.1 = 0) && x_sg tp n s.2 (nI c)) := by
  obtain ⟨hT, h24, hn, ht, -⟩ := h
  have hn6 := hT.2.1
  unfold b_X11_isMarked
  rw [h24]
  by_cases h0 : s.1 = 0
  · obtain ⟨k1, k2, k3, k4, -⟩ := ht h0
    rw [if_pos h0, k2, decide_eq_true h0]
    unfold x_sg
    by_cases c1 : x_tk tp n s.2 = 3
    · have ha : s.2 < n := x_tk_lt (by rw [c1]; decide)
      have hby := hT.2.2.2 s.2 (by omega)
      rw [if_pos (show nI (x_tk tp n s.2) = 3 from (z_tkE (by decide)).mpr c1), k1, if_pos (g_in_nI (by omega) (by decide)), nI_clamp (by omega), hT.2.2.1 _ ha, decide_eq_true c1]
      by_cases c3 : tp s.2 = nI c
      · rw [if_pos ((z_byC hby.1 hby.2 hc).mpr c3), decide_eq_true c3]; rfl
      · rw [if_neg (fun q => c3 ((z_byC hby.1 hby.2 hc).mp q)), decide_eq_false c3]; rfl
    · rw [if_neg (show ¬ nI (x_tk tp n s.2) = 3 from fun q => c1 ((z_tkE (by decide)).mp q)), decide_eq_false c1]
      rfl
  · rw [if_neg h0, decide_eq_false h0]
    rfl
theorem z_mkR {J : g_I} {s : Int32 × Nat} (h : z_ps tp n J s) {c : Nat} (hc : c < 128) : ∃ J', b_X11_mark J (nI c) = some J' ∧ z_f1 J J' ∧ z_ps tp n J' (x_rs tp n (nI c) s) := by
  have hm := z_mkd h hc
  unfold b_X11_mark
  rw [hm]
  simp only [g_bind]
  by_cases h0 : s.1 = 0
  · rw [h.2.1, if_pos h0, decide_eq_true h0]
    unfold x_rs
    by_cases c1 : x_sg tp n s.2 (nI c) = true
    · obtain ⟨J', e, f, p⟩ := z_av h h0
      rw [c1, if_pos (by rfl), if_pos h0, e]
      refine ⟨J', rfl, f, ?_⟩
      rw [if_pos rfl]
      exact p
    · obtain ⟨J', e, f, p⟩ := z_wr (c := 1) h (by decide)
      have hb : ¬ J' 101 24 = 0 := by rw [p.2.1]; exact x_fail_n (by decide) s
      rw [if_neg (by rw [Bool.true_and]; exact c1), e]
      simp only []
      rw [if_neg hb]
      refine ⟨J', rfl, f, ?_⟩
      rw [if_neg c1, x_adv_f (x_fail_n (by decide) s)]
      exact p
  · rw [h.2.1, if_neg h0, if_neg h0]
    exact ⟨J, rfl, z_f1_r J, by rw [x_rs_f h0]; exact h⟩
def z_nc (tp : Nat → Int32) (n : Nat) (lo hi : Int32) (s : Int32 × Nat) : Int32 × Nat := if ¬ x_tk tp n s.2 = 2 then x_fail 1 s else if x_nu tp n s.2 = -1 ∨ x_nu tp n s.2 < lo ∨ ¬ x_nu tp n s.2 ≤ hi then x_fail 2 s else s
theorem z_nc_f {lo hi : Int32} {s : Int32 × Nat} (h : ¬ s.1 = 0) : z_nc tp n lo hi s = s := by
  unfold z_nc
  rw [x_fail_f h, x_fail_f h, ite_self, ite_self]
theorem z_nc_2 {lo hi : Int32} {s : Int32 × Nat} : (z_nc tp n lo hi s).2 = s.2 := by
  unfold z_nc x_fail
  split
  · split <;> rfl
  · split
    · split <;> rfl
    · rfl
theorem z_nwR {J : g_I} {s : Int32 × Nat} {lo hi : Int32} (h : z_ps tp n J s) : ∃ v J', b_X11_numberNow J lo hi = some (v, J') ∧ z_f1 J J' ∧ z_ps tp n J' (z_nc tp n lo hi s) ∧ ((z_nc tp n lo hi s).1 = 0 → z_nc tp n lo hi s = s ∧ J' = J ∧ v = x_nu tp n s.2 ∧ ∃ x, x < 10000 ∧ x_nu tp n s.2 = nI x ∧ lo ≤ nI x ∧ nI x ≤ hi) := by
  have hn6 := h.1.2.1
  unfold b_X11_numberNow
  rw [z_gl]
  by_cases h0 : s.1 = 0
  · obtain ⟨k1, k2, k3, k4, k5⟩ := h.2.2.2.1 h0
    rw [h.2.1, if_pos h0, k2]
    unfold z_nc
    by_cases c1 : x_tk tp n s.2 = 2
    · have ha : s.2 < n := x_tk_lt (by rw [c1]; decide)
      have hnn : z_nn tp n s.2 = x_nx tp n s.2 := if_neg (by omega)
      have hxb := x_nx_b tp ha
      obtain ⟨J2, e2, f2, p2⟩ := z_wr (c := 2) h (by decide)
      have hb2 : ¬ J2 101 24 = 0 := by rw [p2.2.1]; exact x_fail_n (by decide) s
      rw [if_pos (show nI (x_tk tp n s.2) = 2 from (z_tkE (by decide)).mpr c1), if_neg (show ¬ ¬ x_tk tp n s.2 = 2 from fun q => q c1), k4, k1, hnn, nI_subI (by omega)]
      by_cases c2 : 4 < x_nx tp n s.2 - s.2
      · rw [if_pos (show (4 : Int32) < nI (x_nx tp n s.2 - s.2) from (nI_ltI (a := 4) (by omega) (by omega)).mpr c2), e2]
        simp only [g_bind]
        rw [if_neg hb2]
        have hx : x_nu tp n s.2 = -1 := by unfold x_nu f_nb; rw [if_pos c2]
        rw [if_pos (Or.inl hx)]
        exact ⟨0, J2, rfl, f2, p2, fun q => absurd q (x_fail_n (by decide) s)⟩
      · obtain ⟨k6, x, k7, k8⟩ := k5 c1 (by omega)
        have hx1 : ¬ x_nu tp n s.2 = -1 := by rw [k8]; exact z_nm1 (by omega)
        rw [if_neg (show ¬ (4 : Int32) < nI (x_nx tp n s.2 - s.2) from fun q => c2 ((nI_ltI (a := 4) (by omega) (by omega)).mp q)), k6]
        by_cases c3 : x_nu tp n s.2 < lo
        · rw [if_pos c3, e2]
          simp only [g_bind]
          rw [if_neg hb2, if_pos (Or.inr (Or.inl c3))]
          exact ⟨0, J2, rfl, f2, p2, fun q => absurd q (x_fail_n (by decide) s)⟩
        · rw [if_neg c3]
          by_cases c4 : x_nu tp n s.2 ≤ hi
          · rw [if_pos c4]
            dsimp only
            rw [h.2.1, if_pos h0, if_neg (show ¬ (x_nu tp n s.2 = -1 ∨ x_nu tp n s.2 < lo ∨ ¬ x_nu tp n s.2 ≤ hi) from fun q => q.elim hx1 (fun q => q.elim c3 (fun q => q c4)))]
            refine ⟨_, J, rfl, z_f1_r J, h, fun _ => ⟨rfl, rfl, k6, x, k7, k8, ?_, ?_⟩⟩
            · rw [← k8]; exact Int32.not_lt.mp c3
            · rw [← k8]; exact c4
          · rw [if_neg c4, e2]
            simp only [g_bind]
            rw [if_neg hb2, if_pos (Or.inr (Or.inr c4))]
            exact ⟨0, J2, rfl, f2, p2, fun q => absurd q (x_fail_n (by decide) s)⟩
    · obtain ⟨J1, e1, f1, p1⟩ := z_wr (c := 1) h (by decide)
      have hb1 : ¬ J1 101 24 = 0 := by rw [p1.2.1]; exact x_fail_n (by decide) s
      rw [if_neg (show ¬ nI (x_tk tp n s.2) = 2 from fun q => c1 ((z_tkE (by decide)).mp q)), if_pos c1, e1]
      simp only [g_bind]
      rw [if_neg hb1]
      exact ⟨0, J1, rfl, f1, p1, fun q => absurd q (x_fail_n (by decide) s)⟩
  · rw [h.2.1, if_neg h0, z_nc_f h0]
    exact ⟨0, J, rfl, z_f1_r J, h, fun q => absurd q h0⟩
theorem z_rnR {J : g_I} {s : Int32 × Nat} {lo hi : Int32} (h : z_ps tp n J s) : ∃ v J', b_X11_readNumber J lo hi = some (v, J') ∧ z_f1 J J' ∧ z_ps tp n J' (x_rn tp n lo hi s) ∧ ((x_rn tp n lo hi s).1 = 0 → v = x_nu tp n s.2 ∧ s.2 < n ∧ ∃ x, x < 10000 ∧ x_nu tp n s.2 = nI x ∧ lo ≤ nI x ∧ nI x ≤ hi) := by
  obtain ⟨v, J1, e, f, p, q⟩ := z_nwR (lo := lo) (hi := hi) h
  have hx : x_rn tp n lo hi s = x_adv tp n (z_nc tp n lo hi s) := rfl
  unfold b_X11_readNumber
  rw [e, hx]
  simp only [g_bind2]
  by_cases c : (z_nc tp n lo hi s).1 = 0
  · rw [p.2.1, if_pos c]
    obtain ⟨J2, e2, f2, p2⟩ := z_av p c
    obtain ⟨q1, q2, q3, q4⟩ := q c
    rw [e2]
    refine ⟨v, J2, rfl, z_f1_t f f2, p2, fun _ => ⟨q3, ?_, q4⟩⟩
    have ht : x_tk tp n s.2 = 2 := Classical.byContradiction fun r => by
      unfold z_nc at c
      rw [if_pos r] at c
      exact x_fail_n (by decide) s c
    exact x_tk_lt (by rw [ht]; decide)
  · rw [p.2.1, if_neg c]
    rw [x_adv_f c]
    exact ⟨v, J1, rfl, f, p, fun r => absurd r c⟩
def z_pc1 (tp : Nat → Int32) (n pn : Nat) (s : Int32 × Nat) : Int32 × Nat := if ¬ x_tk tp n s.2 = 2 then x_fail 1 s else if x_nu tp n s.2 = -1 then x_fail 2 s else if ¬ x_nu tp n s.2 < nI pn then x_fail 3 s else s
theorem z_pc1_f {pn : Nat} {s : Int32 × Nat} (h : ¬ s.1 = 0) : z_pc1 tp n pn s = s := by
  unfold z_pc1
  rw [x_fail_f h, x_fail_f h, x_fail_f h, ite_self, ite_self, ite_self]
theorem z_pwR {J : g_I} {s : Int32 × Nat} {pn : Nat} (h : z_ps tp n J s) (hpn : J 104 6 = nI pn) : ∃ v J', b_X11_personNow J = some (v, J') ∧ z_f1 J J' ∧ z_ps tp n J' (z_pc1 tp n pn s) ∧ ((z_pc1 tp n pn s).1 = 0 → z_pc1 tp n pn s = s ∧ J' = J ∧ v = x_nu tp n s.2 ∧ s.2 < n ∧ ∃ x, x < 10000 ∧ x_nu tp n s.2 = nI x ∧ nI x < nI pn) := by
  obtain ⟨v, J1, e, f, p, q⟩ := z_nwR (lo := 0) (hi := 9999) h
  unfold b_X11_personNow
  rw [z_gl, e]
  simp only [g_bind2]
  by_cases h0 : s.1 = 0
  · by_cases c1 : x_tk tp n s.2 = 2
    · have ha : s.2 < n := x_tk_lt (by rw [c1]; decide)
      by_cases c2 : x_nu tp n s.2 = -1
      · have e1 : z_nc tp n 0 9999 s = x_fail 2 s := by unfold z_nc; rw [if_neg (fun r => r c1), if_pos (Or.inl c2)]
        have e2 : z_pc1 tp n pn s = x_fail 2 s := by unfold z_pc1; rw [if_neg (fun r => r c1), if_pos c2]
        rw [e1] at p
        have hb : ¬ J1 101 24 = 0 := by rw [p.2.1]; exact x_fail_n (by decide) s
        rw [if_neg hb, if_neg hb, e2]
        exact ⟨0, J1, rfl, f, p, fun r => absurd r (x_fail_n (by decide) s)⟩
      · obtain ⟨k1, k2, k3, k4, k5⟩ := h.2.2.2.1 h0
        have hk4 : x_nx tp n s.2 - s.2 ≤ 4 := Classical.byContradiction fun r => c2 (by unfold x_nu f_nb; rw [if_pos (by omega)])
        obtain ⟨k6, x, k7, k8⟩ := k5 c1 hk4
        have e1 : z_nc tp n 0 9999 s = s := by
          unfold z_nc
          rw [if_neg (fun r => r c1), if_neg]
          rintro (r | r | r)
          · exact c2 r
          · rw [k8] at r; exact nI_pos (by omega) r
          · rw [k8] at r; exact r ((nI_leI (a := x) (b := 9999) (by omega) (by decide)).mpr (by omega))
        obtain ⟨q1, q2, q3, q4⟩ := q (by rw [e1]; exact h0)
        rw [e1] at p
        rw [p.2.1, if_pos h0, q2, hpn, q3]
        have e2 : z_pc1 tp n pn s = if ¬ x_nu tp n s.2 < nI pn then x_fail 3 s else s := by unfold z_pc1; rw [if_neg (fun r => r c1), if_neg c2]
        rw [e2]
        by_cases c3 : x_nu tp n s.2 < nI pn
        · rw [if_pos c3, if_pos h0, if_neg (show ¬ ¬ x_nu tp n s.2 < nI pn from fun r => r c3)]
          exact ⟨_, J, rfl, z_f1_r J, h, fun _ => ⟨rfl, rfl, rfl, ha, x, k7, k8, by rw [← k8]; exact c3⟩⟩
        · obtain ⟨J3, e3, f3, p3⟩ := z_wr (c := 3) h (by decide)
          have hb3 : ¬ J3 101 24 = 0 := by rw [p3.2.1]; exact x_fail_n (by decide) s
          rw [if_neg c3, e3]
          simp only [g_bind]
          rw [if_neg hb3, if_pos c3]
          exact ⟨0, J3, rfl, f3, p3, fun r => absurd r (x_fail_n (by decide) s)⟩
    · have e1 : z_nc tp n 0 9999 s = x_fail 1 s := by unfold z_nc; rw [if_pos c1]
      have e2 : z_pc1 tp n pn s = x_fail 1 s := by unfold z_pc1; rw [if_pos c1]
      rw [e1] at p
      have hb : ¬ J1 101 24 = 0 := by rw [p.2.1]; exact x_fail_n (by decide) s
      rw [if_neg hb, if_neg hb, e2]
      exact ⟨0, J1, rfl, f, p, fun r => absurd r (x_fail_n (by decide) s)⟩
  · rw [z_nc_f h0] at p
    have hb : ¬ J1 101 24 = 0 := by rw [p.2.1]; exact h0
    rw [if_neg hb, if_neg hb, z_pc1_f h0]
    exact ⟨0, J1, rfl, f, p, fun r => absurd r h0⟩
end ZRD
