/-! WORDS, FIELDS, METHODS, LINKS (printed by facts.py) -/
def k_Ts : List Cond := lw_tbl.filter goodWord
theorem k_in {w : Cond} (i : Nat) (h : lw_tbl[i]? = some w) (hg : goodWord w = true) : w ∈ k_Ts := List.mem_filter.mpr ⟨List.mem_of_getElem? h, hg⟩
/-- the launch is the claim's -/
def k_ok (G : am_G) : Prop := am_cl G = vwCl ∧ am_Ts G = k_Ts ∧ am_ok G
theorem k_inX0 : ∀ w ∈ u_ws RX0 TX0 12, w ∈ k_Ts := by decide +kernel
theorem k_inX1 : ∀ w ∈ u_ws RX1 TX1 2, w ∈ k_Ts := by decide +kernel
theorem k_inX2 : ∀ w ∈ u_ws RX2 TX2 5, w ∈ k_Ts := by decide +kernel
theorem k_inX3 : ∀ w ∈ u_ws RX3 TX3 8, w ∈ k_Ts := by decide +kernel
theorem k_inX4 : ∀ w ∈ u_ws RX4 TX4 9, w ∈ k_Ts := by decide +kernel
theorem k_inX5 : ∀ w ∈ u_ws RX5 TX5 5, w ∈ k_Ts := by decide +kernel
theorem k_inX6 : ∀ w ∈ u_ws RX6 TX6 11, w ∈ k_Ts := by decide +kernel
theorem k_inX7 : ∀ w ∈ u_ws RX7 TX7 3, w ∈ k_Ts := by decide +kernel
theorem k_inX8 : ∀ w ∈ u_ws RX8 TX8 6, w ∈ k_Ts := by decide +kernel
theorem k_inX9 : ∀ w ∈ u_ws RX9 TX9 13, w ∈ k_Ts := by decide +kernel
theorem k_inX10 : ∀ w ∈ u_ws RX10 TX10 13, w ∈ k_Ts := by decide +kernel
theorem k_inX11 : ∀ w ∈ u_ws RX11 TX11 69, w ∈ k_Ts := by decide +kernel
