def k_unit : Unit := ()
abbrev mX0_init : am_M := (yX0_init, cX0_init, 1, none, 8, 371)
theorem kB_X0_init {G : am_G} (hG : k_ok G) : am_cB G mX0_init 0 := by
  obtain ⟨hc, ht, -⟩ := hG
  unfold am_cB
  rw [ht]
  exact ⟨(k_in 125 (by decide +kernel) (by decide +kernel)), (k_in 453 (by decide +kernel) (by decide +kernel)), by decide +kernel, by decide⟩
abbrev mX0_search : am_M := (yX0_search, cX0_search, 5, (some .boolean), 0, 0)
theorem kB_X0_search {G : am_G} (hG : k_ok G) : am_cB G mX0_search 3 := by
  obtain ⟨hc, ht, -⟩ := hG
  unfold am_cB
  rw [ht]
  exact ⟨(k_in 125 (by decide +kernel) (by decide +kernel)), (k_in 746 (by decide +kernel) (by decide +kernel)), by decide +kernel, by decide⟩
abbrev mX0_collectOpen : am_M := (yX0_collectOpen, cX0_collectOpen, 5, none, 0, 0)
theorem kB_X0_collectOpen {G : am_G} (hG : k_ok G) : am_cB G mX0_collectOpen 2 := by
  obtain ⟨hc, ht, -⟩ := hG
  unfold am_cB
  rw [ht]
  exact ⟨(k_in 125 (by decide +kernel) (by decide +kernel)), (k_in 750 (by decide +kernel) (by decide +kernel)), by decide +kernel, by decide⟩
abbrev mX0_measure : am_M := (yX0_measure, cX0_measure, 9, none, 0, 0)
theorem kB_X0_measure {G : am_G} (hG : k_ok G) : am_cB G mX0_measure 3 := by
  obtain ⟨hc, ht, -⟩ := hG
  unfold am_cB
  rw [ht]
  exact ⟨(k_in 125 (by decide +kernel) (by decide +kernel)), (k_in 757 (by decide +kernel) (by decide +kernel)), by decide +kernel, by decide⟩
abbrev mX0_tryAllSets : am_M := (yX0_tryAllSets, cX0_tryAllSets, 7, none, 0, 0)
theorem kB_X0_tryAllSets {G : am_G} (hG : k_ok G) : am_cB G mX0_tryAllSets 3 := by
  obtain ⟨hc, ht, -⟩ := hG
  unfold am_cB
  rw [ht]
  exact ⟨(k_in 125 (by decide +kernel) (by decide +kernel)), (k_in 766 (by decide +kernel) (by decide +kernel)), by decide +kernel, by decide⟩
abbrev mX0_cutsInTime : am_M := (yX0_cutsInTime, cX0_cutsInTime, 8, (some .boolean), 0, 0)
theorem kB_X0_cutsInTime {G : am_G} (hG : k_ok G) : am_cB G mX0_cutsInTime 4 := by
  obtain ⟨hc, ht, -⟩ := hG
  unfold am_cB
  rw [ht]
  exact ⟨(k_in 125 (by decide +kernel) (by decide +kernel)), (k_in 770 (by decide +kernel) (by decide +kernel)), by decide +kernel, by decide⟩
abbrev mX0_mostUrgent : am_M := (yX0_mostUrgent, cX0_mostUrgent, 8, (some .int), 0, 0)
theorem kB_X0_mostUrgent {G : am_G} (hG : k_ok G) : am_cB G mX0_mostUrgent 3 := by
  obtain ⟨hc, ht, -⟩ := hG
  unfold am_cB
  rw [ht]
  exact ⟨(k_in 125 (by decide +kernel) (by decide +kernel)), (k_in 774 (by decide +kernel) (by decide +kernel)), by decide +kernel, by decide⟩
abbrev mX0_estimate : am_M := (yX0_estimate, cX0_estimate, 4, (some .boolean), 0, 0)
theorem kB_X0_estimate {G : am_G} (hG : k_ok G) : am_cB G mX0_estimate 0 := by
  obtain ⟨hc, ht, -⟩ := hG
  unfold am_cB
  rw [ht]
  exact ⟨(k_in 125 (by decide +kernel) (by decide +kernel)), (k_in 779 (by decide +kernel) (by decide +kernel)), by decide +kernel, by decide⟩
abbrev mX0_place : am_M := (yX0_place, cX0_place, 6, none, 0, 0)
theorem kB_X0_place {G : am_G} (hG : k_ok G) : am_cB G mX0_place 2 := by
  obtain ⟨hc, ht, -⟩ := hG
  unfold am_cB
  rw [ht]
  exact ⟨(k_in 125 (by decide +kernel) (by decide +kernel)), (k_in 783 (by decide +kernel) (by decide +kernel)), by decide +kernel, by decide⟩
abbrev mX0_keepBest : am_M := (yX0_keepBest, cX0_keepBest, 3, none, 0, 0)
theorem kB_X0_keepBest {G : am_G} (hG : k_ok G) : am_cB G mX0_keepBest 1 := by
  obtain ⟨hc, ht, -⟩ := hG
  unfold am_cB
  rw [ht]
  exact ⟨(k_in 125 (by decide +kernel) (by decide +kernel)), (k_in 787 (by decide +kernel) (by decide +kernel)), by decide +kernel, by decide⟩
abbrev mX1_init : am_M := (yX1_init, cX1_init, 1, none, 2, 14)
theorem kB_X1_init {G : am_G} (hG : k_ok G) : am_cB G mX1_init 0 := by
  obtain ⟨hc, ht, -⟩ := hG
  unfold am_cB
  rw [ht]
  exact ⟨(k_in 126 (by decide +kernel) (by decide +kernel)), (k_in 499 (by decide +kernel) (by decide +kernel)), by decide +kernel, by decide⟩
abbrev mX1_look : am_M := (yX1_look, cX1_look, 5, none, 0, 0)
theorem kB_X1_look {G : am_G} (hG : k_ok G) : am_cB G mX1_look 2 := by
  obtain ⟨hc, ht, -⟩ := hG
  unfold am_cB
  rw [ht]
  exact ⟨(k_in 126 (by decide +kernel) (by decide +kernel)), (k_in 729 (by decide +kernel) (by decide +kernel)), by decide +kernel, by decide⟩
abbrev mX1_strangersTo : am_M := (yX1_strangersTo, cX1_strangersTo, 5, (some .int), 0, 0)
theorem kB_X1_strangersTo {G : am_G} (hG : k_ok G) : am_cB G mX1_strangersTo 2 := by
  obtain ⟨hc, ht, -⟩ := hG
  unfold am_cB
  rw [ht]
  exact ⟨(k_in 126 (by decide +kernel) (by decide +kernel)), (k_in 742 (by decide +kernel) (by decide +kernel)), by decide +kernel, by decide⟩
abbrev mX1_remembered : am_M := (yX1_remembered, cX1_remembered, 6, (some .int), 0, 0)
theorem kB_X1_remembered {G : am_G} (hG : k_ok G) : am_cB G mX1_remembered 3 := by
  obtain ⟨hc, ht, -⟩ := hG
  unfold am_cB
  rw [ht]
  exact ⟨(k_in 126 (by decide +kernel) (by decide +kernel)), (k_in 737 (by decide +kernel) (by decide +kernel)), by decide +kernel, by decide⟩
abbrev mX1_both : am_M := (yX1_both, cX1_both, 3, (some .boolean), 0, 0)
theorem kB_X1_both {G : am_G} (hG : k_ok G) : am_cB G mX1_both 2 := by
  obtain ⟨hc, ht, -⟩ := hG
  unfold am_cB
  rw [ht]
  exact ⟨(k_in 126 (by decide +kernel) (by decide +kernel)), (k_in 1197 (by decide +kernel) (by decide +kernel)), by decide +kernel, by decide⟩
abbrev mX1_couples : am_M := (yX1_couples, cX1_couples, 5, (some .int), 0, 0)
theorem kB_X1_couples {G : am_G} (hG : k_ok G) : am_cB G mX1_couples 1 := by
  obtain ⟨hc, ht, -⟩ := hG
  unfold am_cB
  rw [ht]
  exact ⟨(k_in 126 (by decide +kernel) (by decide +kernel)), (k_in 1193 (by decide +kernel) (by decide +kernel)), by decide +kernel, by decide⟩
abbrev mX1_allStrangers : am_M := (yX1_allStrangers, cX1_allStrangers, 4, (some .boolean), 0, 0)
theorem kB_X1_allStrangers {G : am_G} (hG : k_ok G) : am_cB G mX1_allStrangers 2 := by
  obtain ⟨hc, ht, -⟩ := hG
  unfold am_cB
  rw [ht]
  exact ⟨(k_in 126 (by decide +kernel) (by decide +kernel)), (k_in 801 (by decide +kernel) (by decide +kernel)), by decide +kernel, by decide⟩
abbrev mX1_knownAfter : am_M := (yX1_knownAfter, cX1_knownAfter, 5, (some .int), 0, 0)
theorem kB_X1_knownAfter {G : am_G} (hG : k_ok G) : am_cB G mX1_knownAfter 3 := by
  obtain ⟨hc, ht, -⟩ := hG
  unfold am_cB
  rw [ht]
  exact ⟨(k_in 126 (by decide +kernel) (by decide +kernel)), (k_in 824 (by decide +kernel) (by decide +kernel)), by decide +kernel, by decide⟩
abbrev mX1_keepsCutter : am_M := (yX1_keepsCutter, cX1_keepsCutter, 6, (some .boolean), 0, 0)
theorem kB_X1_keepsCutter {G : am_G} (hG : k_ok G) : am_cB G mX1_keepsCutter 3 := by
  obtain ⟨hc, ht, -⟩ := hG
  unfold am_cB
  rw [ht]
  exact ⟨(k_in 126 (by decide +kernel) (by decide +kernel)), (k_in 820 (by decide +kernel) (by decide +kernel)), by decide +kernel, by decide⟩
abbrev mX2_init : am_M := (yX2_init, cX2_init, 1, none, 3, 78)
theorem kB_X2_init {G : am_G} (hG : k_ok G) : am_cB G mX2_init 0 := by
  obtain ⟨hc, ht, -⟩ := hG
  unfold am_cB
  rw [ht]
  exact ⟨(k_in 124 (by decide +kernel) (by decide +kernel)), (k_in 363 (by decide +kernel) (by decide +kernel)), by decide +kernel, by decide⟩
abbrev mX2_begin : am_M := (yX2_begin, cX2_begin, 3, none, 0, 0)
theorem kB_X2_begin {G : am_G} (hG : k_ok G) : am_cB G mX2_begin 1 := by
  obtain ⟨hc, ht, -⟩ := hG
  unfold am_cB
  rw [ht]
  exact ⟨(k_in 124 (by decide +kernel) (by decide +kernel)), (k_in 552 (by decide +kernel) (by decide +kernel)), by decide +kernel, by decide⟩
abbrev mX2_copyFrom : am_M := (yX2_copyFrom, cX2_copyFrom, 2, none, 0, 0)
theorem kB_X2_copyFrom {G : am_G} (hG : k_ok G) : am_cB G mX2_copyFrom 1 := by
  obtain ⟨hc, ht, -⟩ := hG
  unfold am_cB
  rw [ht]
  exact ⟨(k_in 124 (by decide +kernel) (by decide +kernel)), (k_in 583 (by decide +kernel) (by decide +kernel)), by decide +kernel, by decide⟩
abbrev mX2_gather : am_M := (yX2_gather, cX2_gather, 9, none, 0, 0)
theorem kB_X2_gather {G : am_G} (hG : k_ok G) : am_cB G mX2_gather 3 := by
  obtain ⟨hc, ht, -⟩ := hG
  unfold am_cB
  rw [ht]
  exact ⟨(k_in 124 (by decide +kernel) (by decide +kernel)), (k_in 560 (by decide +kernel) (by decide +kernel)), by decide +kernel, by decide⟩
abbrev mX2_dayIn : am_M := (yX2_dayIn, cX2_dayIn, 2, (some .int), 0, 0)
theorem kB_X2_dayIn {G : am_G} (hG : k_ok G) : am_cB G mX2_dayIn 1 := by
  obtain ⟨hc, ht, -⟩ := hG
  unfold am_cB
  rw [ht]
  exact ⟨(k_in 124 (by decide +kernel) (by decide +kernel)), (k_in 677 (by decide +kernel) (by decide +kernel)), by decide +kernel, by decide⟩
abbrev mX2_pass : am_M := (yX2_pass, cX2_pass, 2, none, 0, 0)
theorem kB_X2_pass {G : am_G} (hG : k_ok G) : am_cB G mX2_pass 1 := by
  obtain ⟨hc, ht, -⟩ := hG
  unfold am_cB
  rw [ht]
  exact ⟨(k_in 124 (by decide +kernel) (by decide +kernel)), (k_in 673 (by decide +kernel) (by decide +kernel)), by decide +kernel, by decide⟩
abbrev mX2_uncutBits : am_M := (yX2_uncutBits, cX2_uncutBits, 4, (some .int), 0, 0)
theorem kB_X2_uncutBits {G : am_G} (hG : k_ok G) : am_cB G mX2_uncutBits 1 := by
  obtain ⟨hc, ht, -⟩ := hG
  unfold am_cB
  rw [ht]
  exact ⟨(k_in 124 (by decide +kernel) (by decide +kernel)), (k_in 720 (by decide +kernel) (by decide +kernel)), by decide +kernel, by decide⟩
abbrev mX2_uncut : am_M := (yX2_uncut, cX2_uncut, 2, (some .int), 0, 0)
theorem kB_X2_uncut {G : am_G} (hG : k_ok G) : am_cB G mX2_uncut 1 := by
  obtain ⟨hc, ht, -⟩ := hG
  unfold am_cB
  rw [ht]
  exact ⟨(k_in 124 (by decide +kernel) (by decide +kernel)), (k_in 716 (by decide +kernel) (by decide +kernel)), by decide +kernel, by decide⟩
abbrev mX3_init : am_M := (yX3_init, cX3_init, 1, none, 7, 72)
theorem kB_X3_init {G : am_G} (hG : k_ok G) : am_cB G mX3_init 0 := by
  obtain ⟨hc, ht, -⟩ := hG
  unfold am_cB
  rw [ht]
  exact ⟨(k_in 120 (by decide +kernel) (by decide +kernel)), (k_in 204 (by decide +kernel) (by decide +kernel)), by decide +kernel, by decide⟩
abbrev mX3_eater : am_M := (yX3_eater, cX3_eater, 3, (some .int), 0, 0)
theorem kB_X3_eater {G : am_G} (hG : k_ok G) : am_cB G mX3_eater 2 := by
  obtain ⟨hc, ht, -⟩ := hG
  unfold am_cB
  rw [ht]
  exact ⟨(k_in 120 (by decide +kernel) (by decide +kernel)), (k_in 1323 (by decide +kernel) (by decide +kernel)), by decide +kernel, by decide⟩
abbrev mX3_addEater : am_M := (yX3_addEater, cX3_addEater, 4, none, 0, 0)
theorem kB_X3_addEater {G : am_G} (hG : k_ok G) : am_cB G mX3_addEater 2 := by
  obtain ⟨hc, ht, -⟩ := hG
  unfold am_cB
  rw [ht]
  exact ⟨(k_in 120 (by decide +kernel) (by decide +kernel)), (k_in 1092 (by decide +kernel) (by decide +kernel)), by decide +kernel, by decide⟩
abbrev mX4_init : am_M := (yX4_init, cX4_init, 1, none, 18, 321)
theorem kB_X4_init {G : am_G} (hG : k_ok G) : am_cB G mX4_init 0 := by
  obtain ⟨hc, ht, -⟩ := hG
  unfold am_cB
  rw [ht]
  exact ⟨(k_in 122 (by decide +kernel) (by decide +kernel)), (k_in 351 (by decide +kernel) (by decide +kernel)), by decide +kernel, by decide⟩
abbrev mX4_begin : am_M := (yX4_begin, cX4_begin, 2, none, 0, 0)
theorem kB_X4_begin {G : am_G} (hG : k_ok G) : am_cB G mX4_begin 1 := by
  obtain ⟨hc, ht, -⟩ := hG
  unfold am_cB
  rw [ht]
  exact ⟨(k_in 122 (by decide +kernel) (by decide +kernel)), (k_in 544 (by decide +kernel) (by decide +kernel)), by decide +kernel, by decide⟩
abbrev mX4_clearClues : am_M := (yX4_clearClues, cX4_clearClues, 1, none, 0, 0)
theorem kB_X4_clearClues {G : am_G} (hG : k_ok G) : am_cB G mX4_clearClues 0 := by
  obtain ⟨hc, ht, -⟩ := hG
  unfold am_cB
  rw [ht]
  exact ⟨(k_in 122 (by decide +kernel) (by decide +kernel)), (k_in 590 (by decide +kernel) (by decide +kernel)), by decide +kernel, by decide⟩
abbrev mX4_copyFrom : am_M := (yX4_copyFrom, cX4_copyFrom, 2, none, 0, 0)
theorem kB_X4_copyFrom {G : am_G} (hG : k_ok G) : am_cB G mX4_copyFrom 1 := by
  obtain ⟨hc, ht, -⟩ := hG
  unfold am_cB
  rw [ht]
  exact ⟨(k_in 122 (by decide +kernel) (by decide +kernel)), (k_in 699 (by decide +kernel) (by decide +kernel)), by decide +kernel, by decide⟩
abbrev mX4_addSeen : am_M := (yX4_addSeen, cX4_addSeen, 4, (some .int), 0, 0)
theorem kB_X4_addSeen {G : am_G} (hG : k_ok G) : am_cB G mX4_addSeen 3 := by
  obtain ⟨hc, ht, -⟩ := hG
  unfold am_cB
  rw [ht]
  exact ⟨(k_in 122 (by decide +kernel) (by decide +kernel)), (k_in 1359 (by decide +kernel) (by decide +kernel)), by decide +kernel, by decide⟩
abbrev mX4_seenFits : am_M := (yX4_seenFits, cX4_seenFits, 4, (some .boolean), 0, 0)
theorem kB_X4_seenFits {G : am_G} (hG : k_ok G) : am_cB G mX4_seenFits 2 := by
  obtain ⟨hc, ht, -⟩ := hG
  unfold am_cB
  rw [ht]
  exact ⟨(k_in 122 (by decide +kernel) (by decide +kernel)), (k_in 1370 (by decide +kernel) (by decide +kernel)), by decide +kernel, by decide⟩
abbrev mX4_addBalked : am_M := (yX4_addBalked, cX4_addBalked, 3, (some .int), 0, 0)
theorem kB_X4_addBalked {G : am_G} (hG : k_ok G) : am_cB G mX4_addBalked 2 := by
  obtain ⟨hc, ht, -⟩ := hG
  unfold am_cB
  rw [ht]
  exact ⟨(k_in 122 (by decide +kernel) (by decide +kernel)), (k_in 1381 (by decide +kernel) (by decide +kernel)), by decide +kernel, by decide⟩
abbrev mX5_init : am_M := (yX5_init, cX5_init, 1, none, 3, 18)
theorem kB_X5_init {G : am_G} (hG : k_ok G) : am_cB G mX5_init 0 := by
  obtain ⟨hc, ht, -⟩ := hG
  unfold am_cB
  rw [ht]
  exact ⟨(k_in 127 (by decide +kernel) (by decide +kernel)), (k_in 515 (by decide +kernel) (by decide +kernel)), by decide +kernel, by decide⟩
abbrev mX5_divide : am_M := (yX5_divide, cX5_divide, 8, none, 0, 0)
theorem kB_X5_divide {G : am_G} (hG : k_ok G) : am_cB G mX5_divide 4 := by
  obtain ⟨hc, ht, -⟩ := hG
  unfold am_cB
  rw [ht]
  exact ⟨(k_in 127 (by decide +kernel) (by decide +kernel)), (k_in 1294 (by decide +kernel) (by decide +kernel)), by decide +kernel, by decide⟩
abbrev mX5_weigh : am_M := (yX5_weigh, cX5_weigh, 9, none, 0, 0)
theorem kB_X5_weigh {G : am_G} (hG : k_ok G) : am_cB G mX5_weigh 4 := by
  obtain ⟨hc, ht, -⟩ := hG
  unfold am_cB
  rw [ht]
  exact ⟨(k_in 127 (by decide +kernel) (by decide +kernel)), (k_in 1299 (by decide +kernel) (by decide +kernel)), by decide +kernel, by decide⟩
abbrev mX5_sortDown : am_M := (yX5_sortDown, cX5_sortDown, 4, none, 0, 0)
theorem kB_X5_sortDown {G : am_G} (hG : k_ok G) : am_cB G mX5_sortDown 0 := by
  obtain ⟨hc, ht, -⟩ := hG
  unfold am_cB
  rw [ht]
  exact ⟨(k_in 127 (by decide +kernel) (by decide +kernel)), (k_in 1315 (by decide +kernel) (by decide +kernel)), by decide +kernel, by decide⟩
abbrev mX5_handOut : am_M := (yX5_handOut, cX5_handOut, 8, none, 0, 0)
theorem kB_X5_handOut {G : am_G} (hG : k_ok G) : am_cB G mX5_handOut 2 := by
  obtain ⟨hc, ht, -⟩ := hG
  unfold am_cB
  rw [ht]
  exact ⟨(k_in 127 (by decide +kernel) (by decide +kernel)), (k_in 1319 (by decide +kernel) (by decide +kernel)), by decide +kernel, by decide⟩
abbrev mX5_placeBehind : am_M := (yX5_placeBehind, cX5_placeBehind, 5, (some .int), 0, 0)
theorem kB_X5_placeBehind {G : am_G} (hG : k_ok G) : am_cB G mX5_placeBehind 4 := by
  obtain ⟨hc, ht, -⟩ := hG
  unfold am_cB
  rw [ht]
  exact ⟨(k_in 127 (by decide +kernel) (by decide +kernel)), (k_in 1326 (by decide +kernel) (by decide +kernel)), by decide +kernel, by decide⟩
abbrev mX5_spread : am_M := (yX5_spread, cX5_spread, 1, (some .int), 0, 0)
theorem kB_X5_spread {G : am_G} (hG : k_ok G) : am_cB G mX5_spread 0 := by
  obtain ⟨hc, ht, -⟩ := hG
  unfold am_cB
  rw [ht]
  exact ⟨(k_in 127 (by decide +kernel) (by decide +kernel)), (k_in 1414 (by decide +kernel) (by decide +kernel)), by decide +kernel, by decide⟩
abbrev mX6_init : am_M := (yX6_init, cX6_init, 1, none, 1, 600)
theorem kB_X6_init {G : am_G} (hG : k_ok G) : am_cB G mX6_init 0 := by
  obtain ⟨hc, ht, -⟩ := hG
  unfold am_cB
  rw [ht]
  exact ⟨(k_in 118 (by decide +kernel) (by decide +kernel)), (k_in 155 (by decide +kernel) (by decide +kernel)), by decide +kernel, by decide⟩
abbrev mX6_append : am_M := (yX6_append, cX6_append, 3, none, 0, 0)
theorem kB_X6_append {G : am_G} (hG : k_ok G) : am_cB G mX6_append 1 := by
  obtain ⟨hc, ht, -⟩ := hG
  unfold am_cB
  rw [ht]
  exact ⟨(k_in 118 (by decide +kernel) (by decide +kernel)), (k_in 638 (by decide +kernel) (by decide +kernel)), by decide +kernel, by decide⟩
abbrev mX6_read : am_M := (yX6_read, cX6_read, 4, (some .int), 0, 0)
theorem kB_X6_read {G : am_G} (hG : k_ok G) : am_cB G mX6_read 2 := by
  obtain ⟨hc, ht, -⟩ := hG
  unfold am_cB
  rw [ht]
  exact ⟨(k_in 118 (by decide +kernel) (by decide +kernel)), (k_in 927 (by decide +kernel) (by decide +kernel)), by decide +kernel, by decide⟩
abbrev mX6_fail : am_M := (yX6_fail, cX6_fail, 2, none, 0, 0)
theorem kB_X6_fail {G : am_G} (hG : k_ok G) : am_cB G mX6_fail 1 := by
  obtain ⟨hc, ht, -⟩ := hG
  unfold am_cB
  rw [ht]
  exact ⟨(k_in 118 (by decide +kernel) (by decide +kernel)), (k_in 1075 (by decide +kernel) (by decide +kernel)), by decide +kernel, by decide⟩
abbrev mX6_advance : am_M := (yX6_advance, cX6_advance, 2, none, 0, 0)
theorem kB_X6_advance {G : am_G} (hG : k_ok G) : am_cB G mX6_advance 0 := by
  obtain ⟨hc, ht, -⟩ := hG
  unfold am_cB
  rw [ht]
  exact ⟨(k_in 118 (by decide +kernel) (by decide +kernel)), (k_in 934 (by decide +kernel) (by decide +kernel)), by decide +kernel, by decide⟩
abbrev mX6_blanksEnd : am_M := (yX6_blanksEnd, cX6_blanksEnd, 3, (some .int), 0, 0)
theorem kB_X6_blanksEnd {G : am_G} (hG : k_ok G) : am_cB G mX6_blanksEnd 1 := by
  obtain ⟨hc, ht, -⟩ := hG
  unfold am_cB
  rw [ht]
  exact ⟨(k_in 118 (by decide +kernel) (by decide +kernel)), (k_in 938 (by decide +kernel) (by decide +kernel)), by decide +kernel, by decide⟩
abbrev mX6_rowEnd : am_M := (yX6_rowEnd, cX6_rowEnd, 5, (some .int), 0, 0)
theorem kB_X6_rowEnd {G : am_G} (hG : k_ok G) : am_cB G mX6_rowEnd 3 := by
  obtain ⟨hc, ht, -⟩ := hG
  unfold am_cB
  rw [ht]
  exact ⟨(k_in 118 (by decide +kernel) (by decide +kernel)), (k_in 942 (by decide +kernel) (by decide +kernel)), by decide +kernel, by decide⟩
abbrev mX6_numberBetween : am_M := (yX6_numberBetween, cX6_numberBetween, 5, (some .int), 0, 0)
theorem kB_X6_numberBetween {G : am_G} (hG : k_ok G) : am_cB G mX6_numberBetween 2 := by
  obtain ⟨hc, ht, -⟩ := hG
  unfold am_cB
  rw [ht]
  exact ⟨(k_in 118 (by decide +kernel) (by decide +kernel)), (k_in 946 (by decide +kernel) (by decide +kernel)), by decide +kernel, by decide⟩
abbrev mX6_isSign : am_M := (yX6_isSign, cX6_isSign, 2, (some .boolean), 0, 0)
theorem kB_X6_isSign {G : am_G} (hG : k_ok G) : am_cB G mX6_isSign 1 := by
  obtain ⟨hc, ht, -⟩ := hG
  unfold am_cB
  rw [ht]
  exact ⟨(k_in 118 (by decide +kernel) (by decide +kernel)), (k_in 1120 (by decide +kernel) (by decide +kernel)), by decide +kernel, by decide⟩
abbrev mX6_isWord : am_M := (yX6_isWord, cX6_isWord, 3, (some .boolean), 0, 0)
theorem kB_X6_isWord {G : am_G} (hG : k_ok G) : am_cB G mX6_isWord 1 := by
  obtain ⟨hc, ht, -⟩ := hG
  unfold am_cB
  rw [ht]
  exact ⟨(k_in 118 (by decide +kernel) (by decide +kernel)), (k_in 1042 (by decide +kernel) (by decide +kernel)), by decide +kernel, by decide⟩
abbrev mX6_readLine : am_M := (yX6_readLine, cX6_readLine, 3, none, 0, 0)
theorem kB_X6_readLine {G : am_G} (hG : k_ok G) : am_cB G mX6_readLine 1 := by
  obtain ⟨hc, ht, -⟩ := hG
  unfold am_cB
  rw [ht]
  exact ⟨(k_in 118 (by decide +kernel) (by decide +kernel)), (k_in 1033 (by decide +kernel) (by decide +kernel)), by decide +kernel, by decide⟩
abbrev mX6_lineKind : am_M := (yX6_lineKind, cX6_lineKind, 1, (some .int), 0, 0)
theorem kB_X6_lineKind {G : am_G} (hG : k_ok G) : am_cB G mX6_lineKind 0 := by
  obtain ⟨hc, ht, -⟩ := hG
  unfold am_cB
  rw [ht]
  exact ⟨(k_in 118 (by decide +kernel) (by decide +kernel)), (k_in 1037 (by decide +kernel) (by decide +kernel)), by decide +kernel, by decide⟩
abbrev mX6_readHuman : am_M := (yX6_readHuman, cX6_readHuman, 5, none, 0, 0)
theorem kB_X6_readHuman {G : am_G} (hG : k_ok G) : am_cB G mX6_readHuman 2 := by
  obtain ⟨hc, ht, -⟩ := hG
  unfold am_cB
  rw [ht]
  exact ⟨(k_in 118 (by decide +kernel) (by decide +kernel)), (k_in 1173 (by decide +kernel) (by decide +kernel)), by decide +kernel, by decide⟩
abbrev mX6_readBread : am_M := (yX6_readBread, cX6_readBread, 6, none, 0, 0)
theorem kB_X6_readBread {G : am_G} (hG : k_ok G) : am_cB G mX6_readBread 1 := by
  obtain ⟨hc, ht, -⟩ := hG
  unfold am_cB
  rw [ht]
  exact ⟨(k_in 118 (by decide +kernel) (by decide +kernel)), (k_in 1079 (by decide +kernel) (by decide +kernel)), by decide +kernel, by decide⟩
abbrev mX6_readMeeting : am_M := (yX6_readMeeting, cX6_readMeeting, 5, none, 0, 0)
theorem kB_X6_readMeeting {G : am_G} (hG : k_ok G) : am_cB G mX6_readMeeting 1 := by
  obtain ⟨hc, ht, -⟩ := hG
  unfold am_cB
  rw [ht]
  exact ⟨(k_in 118 (by decide +kernel) (by decide +kernel)), (k_in 1096 (by decide +kernel) (by decide +kernel)), by decide +kernel, by decide⟩
abbrev mX6_readForgetting : am_M := (yX6_readForgetting, cX6_readForgetting, 2, none, 0, 0)
theorem kB_X6_readForgetting {G : am_G} (hG : k_ok G) : am_cB G mX6_readForgetting 1 := by
  obtain ⟨hc, ht, -⟩ := hG
  unfold am_cB
  rw [ht]
  exact ⟨(k_in 118 (by decide +kernel) (by decide +kernel)), (k_in 1104 (by decide +kernel) (by decide +kernel)), by decide +kernel, by decide⟩
abbrev mX6_readNoonHour : am_M := (yX6_readNoonHour, cX6_readNoonHour, 2, none, 0, 0)
theorem kB_X6_readNoonHour {G : am_G} (hG : k_ok G) : am_cB G mX6_readNoonHour 1 := by
  obtain ⟨hc, ht, -⟩ := hG
  unfold am_cB
  rw [ht]
  exact ⟨(k_in 118 (by decide +kernel) (by decide +kernel)), (k_in 1108 (by decide +kernel) (by decide +kernel)), by decide +kernel, by decide⟩
abbrev mX6_readRule : am_M := (yX6_readRule, cX6_readRule, 2, none, 0, 0)
theorem kB_X6_readRule {G : am_G} (hG : k_ok G) : am_cB G mX6_readRule 1 := by
  obtain ⟨hc, ht, -⟩ := hG
  unfold am_cB
  rw [ht]
  exact ⟨(k_in 118 (by decide +kernel) (by decide +kernel)), (k_in 1112 (by decide +kernel) (by decide +kernel)), by decide +kernel, by decide⟩
abbrev mX6_readSign : am_M := (yX6_readSign, cX6_readSign, 2, none, 0, 0)
theorem kB_X6_readSign {G : am_G} (hG : k_ok G) : am_cB G mX6_readSign 1 := by
  obtain ⟨hc, ht, -⟩ := hG
  unfold am_cB
  rw [ht]
  exact ⟨(k_in 118 (by decide +kernel) (by decide +kernel)), (k_in 1149 (by decide +kernel) (by decide +kernel)), by decide +kernel, by decide⟩
abbrev mX6_readNumber : am_M := (yX6_readNumber, cX6_readNumber, 4, (some .int), 0, 0)
theorem kB_X6_readNumber {G : am_G} (hG : k_ok G) : am_cB G mX6_readNumber 2 := by
  obtain ⟨hc, ht, -⟩ := hG
  unfold am_cB
  rw [ht]
  exact ⟨(k_in 118 (by decide +kernel) (by decide +kernel)), (k_in 1083 (by decide +kernel) (by decide +kernel)), by decide +kernel, by decide⟩
abbrev mX6_readPerson : am_M := (yX6_readPerson, cX6_readPerson, 4, (some .int), 0, 0)
theorem kB_X6_readPerson {G : am_G} (hG : k_ok G) : am_cB G mX6_readPerson 2 := by
  obtain ⟨hc, ht, -⟩ := hG
  unfold am_cB
  rw [ht]
  exact ⟨(k_in 118 (by decide +kernel) (by decide +kernel)), (k_in 1087 (by decide +kernel) (by decide +kernel)), by decide +kernel, by decide⟩
abbrev mX6_readEither : am_M := (yX6_readEither, cX6_readEither, 4, none, 0, 0)
theorem kB_X6_readEither {G : am_G} (hG : k_ok G) : am_cB G mX6_readEither 2 := by
  obtain ⟨hc, ht, -⟩ := hG
  unfold am_cB
  rw [ht]
  exact ⟨(k_in 118 (by decide +kernel) (by decide +kernel)), (k_in 1116 (by decide +kernel) (by decide +kernel)), by decide +kernel, by decide⟩
abbrev mX6_readBoth : am_M := (yX6_readBoth, cX6_readBoth, 4, none, 0, 0)
theorem kB_X6_readBoth {G : am_G} (hG : k_ok G) : am_cB G mX6_readBoth 2 := by
  obtain ⟨hc, ht, -⟩ := hG
  unfold am_cB
  rw [ht]
  exact ⟨(k_in 118 (by decide +kernel) (by decide +kernel)), (k_in 1124 (by decide +kernel) (by decide +kernel)), by decide +kernel, by decide⟩
abbrev mX6_readNegated : am_M := (yX6_readNegated, cX6_readNegated, 5, none, 0, 0)
theorem kB_X6_readNegated {G : am_G} (hG : k_ok G) : am_cB G mX6_readNegated 2 := by
  obtain ⟨hc, ht, -⟩ := hG
  unfold am_cB
  rw [ht]
  exact ⟨(k_in 118 (by decide +kernel) (by decide +kernel)), (k_in 1128 (by decide +kernel) (by decide +kernel)), by decide +kernel, by decide⟩
abbrev mX6_readTest : am_M := (yX6_readTest, cX6_readTest, 4, none, 0, 0)
theorem kB_X6_readTest {G : am_G} (hG : k_ok G) : am_cB G mX6_readTest 2 := by
  obtain ⟨hc, ht, -⟩ := hG
  unfold am_cB
  rw [ht]
  exact ⟨(k_in 118 (by decide +kernel) (by decide +kernel)), (k_in 1133 (by decide +kernel) (by decide +kernel)), by decide +kernel, by decide⟩
abbrev mX6_readSum : am_M := (yX6_readSum, cX6_readSum, 5, none, 0, 0)
theorem kB_X6_readSum {G : am_G} (hG : k_ok G) : am_cB G mX6_readSum 2 := by
  obtain ⟨hc, ht, -⟩ := hG
  unfold am_cB
  rw [ht]
  exact ⟨(k_in 118 (by decide +kernel) (by decide +kernel)), (k_in 1137 (by decide +kernel) (by decide +kernel)), by decide +kernel, by decide⟩
abbrev mX6_readProduct : am_M := (yX6_readProduct, cX6_readProduct, 5, none, 0, 0)
theorem kB_X6_readProduct {G : am_G} (hG : k_ok G) : am_cB G mX6_readProduct 2 := by
  obtain ⟨hc, ht, -⟩ := hG
  unfold am_cB
  rw [ht]
  exact ⟨(k_in 118 (by decide +kernel) (by decide +kernel)), (k_in 1141 (by decide +kernel) (by decide +kernel)), by decide +kernel, by decide⟩
abbrev mX6_readPart : am_M := (yX6_readPart, cX6_readPart, 3, none, 0, 0)
theorem kB_X6_readPart {G : am_G} (hG : k_ok G) : am_cB G mX6_readPart 2 := by
  obtain ⟨hc, ht, -⟩ := hG
  unfold am_cB
  rw [ht]
  exact ⟨(k_in 118 (by decide +kernel) (by decide +kernel)), (k_in 1145 (by decide +kernel) (by decide +kernel)), by decide +kernel, by decide⟩
abbrev mX6_readValue : am_M := (yX6_readValue, cX6_readValue, 3, none, 0, 0)
theorem kB_X6_readValue {G : am_G} (hG : k_ok G) : am_cB G mX6_readValue 1 := by
  obtain ⟨hc, ht, -⟩ := hG
  unfold am_cB
  rw [ht]
  exact ⟨(k_in 118 (by decide +kernel) (by decide +kernel)), (k_in 1153 (by decide +kernel) (by decide +kernel)), by decide +kernel, by decide⟩
abbrev mX6_valueKind : am_M := (yX6_valueKind, cX6_valueKind, 1, (some .int), 0, 0)
theorem kB_X6_valueKind {G : am_G} (hG : k_ok G) : am_cB G mX6_valueKind 0 := by
  obtain ⟨hc, ht, -⟩ := hG
  unfold am_cB
  rw [ht]
  exact ⟨(k_in 118 (by decide +kernel) (by decide +kernel)), (k_in 1157 (by decide +kernel) (by decide +kernel)), by decide +kernel, by decide⟩
abbrev mX7_init : am_M := (yX7_init, cX7_init, 1, none, 2, 664)
theorem kB_X7_init {G : am_G} (hG : k_ok G) : am_cB G mX7_init 0 := by
  obtain ⟨hc, ht, -⟩ := hG
  unfold am_cB
  rw [ht]
  exact ⟨(k_in 121 (by decide +kernel) (by decide +kernel)), (k_in 260 (by decide +kernel) (by decide +kernel)), by decide +kernel, by decide⟩
abbrev mX7_add : am_M := (yX7_add, cX7_add, 2, none, 0, 0)
theorem kB_X7_add {G : am_G} (hG : k_ok G) : am_cB G mX7_add 1 := by
  obtain ⟨hc, ht, -⟩ := hG
  unfold am_cB
  rw [ht]
  exact ⟨(k_in 121 (by decide +kernel) (by decide +kernel)), (k_in 1167 (by decide +kernel) (by decide +kernel)), by decide +kernel, by decide⟩
abbrev mX7_evaluate : am_M := (yX7_evaluate, cX7_evaluate, 5, (some .int), 0, 0)
theorem kB_X7_evaluate {G : am_G} (hG : k_ok G) : am_cB G mX7_evaluate 1 := by
  obtain ⟨hc, ht, -⟩ := hG
  unfold am_cB
  rw [ht]
  exact ⟨(k_in 121 (by decide +kernel) (by decide +kernel)), (k_in 1303 (by decide +kernel) (by decide +kernel)), by decide +kernel, by decide⟩
abbrev mX7_valueOf : am_M := (yX7_valueOf, cX7_valueOf, 2, (some .int), 0, 0)
theorem kB_X7_valueOf {G : am_G} (hG : k_ok G) : am_cB G mX7_valueOf 2 := by
  obtain ⟨hc, ht, -⟩ := hG
  unfold am_cB
  rw [ht]
  exact ⟨(k_in 121 (by decide +kernel) (by decide +kernel)), (k_in 1306 (by decide +kernel) (by decide +kernel)), by decide +kernel, by decide⟩
abbrev mX7_joined : am_M := (yX7_joined, cX7_joined, 3, (some .int), 0, 0)
theorem kB_X7_joined {G : am_G} (hG : k_ok G) : am_cB G mX7_joined 3 := by
  obtain ⟨hc, ht, -⟩ := hG
  unfold am_cB
  rw [ht]
  exact ⟨(k_in 121 (by decide +kernel) (by decide +kernel)), (k_in 1309 (by decide +kernel) (by decide +kernel)), by decide +kernel, by decide⟩
abbrev mX8_init : am_M := (yX8_init, cX8_init, 1, none, 11, 286)
theorem kB_X8_init {G : am_G} (hG : k_ok G) : am_cB G mX8_init 0 := by
  obtain ⟨hc, ht, -⟩ := hG
  unfold am_cB
  rw [ht]
  exact ⟨(k_in 123 (by decide +kernel) (by decide +kernel)), (k_in 357 (by decide +kernel) (by decide +kernel)), by decide +kernel, by decide⟩
abbrev mX8_begin : am_M := (yX8_begin, cX8_begin, 2, none, 0, 0)
theorem kB_X8_begin {G : am_G} (hG : k_ok G) : am_cB G mX8_begin 1 := by
  obtain ⟨hc, ht, -⟩ := hG
  unfold am_cB
  rw [ht]
  exact ⟨(k_in 123 (by decide +kernel) (by decide +kernel)), (k_in 548 (by decide +kernel) (by decide +kernel)), by decide +kernel, by decide⟩
abbrev mX8_copyFrom : am_M := (yX8_copyFrom, cX8_copyFrom, 2, none, 0, 0)
theorem kB_X8_copyFrom {G : am_G} (hG : k_ok G) : am_cB G mX8_copyFrom 1 := by
  obtain ⟨hc, ht, -⟩ := hG
  unfold am_cB
  rw [ht]
  exact ⟨(k_in 123 (by decide +kernel) (by decide +kernel)), (k_in 703 (by decide +kernel) (by decide +kernel)), by decide +kernel, by decide⟩
abbrev mX8_act : am_M := (yX8_act, cX8_act, 5, none, 0, 0)
theorem kB_X8_act {G : am_G} (hG : k_ok G) : am_cB G mX8_act 4 := by
  obtain ⟨hc, ht, -⟩ := hG
  unfold am_cB
  rw [ht]
  exact ⟨(k_in 123 (by decide +kernel) (by decide +kernel)), (k_in 660 (by decide +kernel) (by decide +kernel)), by decide +kernel, by decide⟩
abbrev mX8_takeBack : am_M := (yX8_takeBack, cX8_takeBack, 3, (some .int), 0, 0)
theorem kB_X8_takeBack {G : am_G} (hG : k_ok G) : am_cB G mX8_takeBack 1 := by
  obtain ⟨hc, ht, -⟩ := hG
  unfold am_cB
  rw [ht]
  exact ⟨(k_in 123 (by decide +kernel) (by decide +kernel)), (k_in 691 (by decide +kernel) (by decide +kernel)), by decide +kernel, by decide⟩
abbrev mX8_dropOldest : am_M := (yX8_dropOldest, cX8_dropOldest, 2, none, 0, 0)
theorem kB_X8_dropOldest {G : am_G} (hG : k_ok G) : am_cB G mX8_dropOldest 1 := by
  obtain ⟨hc, ht, -⟩ := hG
  unfold am_cB
  rw [ht]
  exact ⟨(k_in 123 (by decide +kernel) (by decide +kernel)), (k_in 664 (by decide +kernel) (by decide +kernel)), by decide +kernel, by decide⟩
abbrev mX8_perform : am_M := (yX8_perform, cX8_perform, 6, none, 0, 0)
theorem kB_X8_perform {G : am_G} (hG : k_ok G) : am_cB G mX8_perform 3 := by
  obtain ⟨hc, ht, -⟩ := hG
  unfold am_cB
  rw [ht]
  exact ⟨(k_in 123 (by decide +kernel) (by decide +kernel)), (k_in 668 (by decide +kernel) (by decide +kernel)), by decide +kernel, by decide⟩
abbrev mX9_init : am_M := (yX9_init, cX9_init, 1, none, 18, 827)
theorem kB_X9_init {G : am_G} (hG : k_ok G) : am_cB G mX9_init 0 := by
  obtain ⟨hc, ht, -⟩ := hG
  unfold am_cB
  rw [ht]
  exact ⟨(k_in 119 (by decide +kernel) (by decide +kernel)), (k_in 198 (by decide +kernel) (by decide +kernel)), by decide +kernel, by decide⟩
abbrev mX9_clear : am_M := (yX9_clear, cX9_clear, 1, none, 0, 0)
theorem kB_X9_clear {G : am_G} (hG : k_ok G) : am_cB G mX9_clear 0 := by
  obtain ⟨hc, ht, -⟩ := hG
  unfold am_cB
  rw [ht]
  exact ⟨(k_in 119 (by decide +kernel) (by decide +kernel)), (k_in 540 (by decide +kernel) (by decide +kernel)), by decide +kernel, by decide⟩
abbrev mX9_addPerson : am_M := (yX9_addPerson, cX9_addPerson, 4, none, 0, 0)
theorem kB_X9_addPerson {G : am_G} (hG : k_ok G) : am_cB G mX9_addPerson 3 := by
  obtain ⟨hc, ht, -⟩ := hG
  unfold am_cB
  rw [ht]
  exact ⟨(k_in 119 (by decide +kernel) (by decide +kernel)), (k_in 1181 (by decide +kernel) (by decide +kernel)), by decide +kernel, by decide⟩
abbrev mX9_addMet : am_M := (yX9_addMet, cX9_addMet, 4, none, 0, 0)
theorem kB_X9_addMet {G : am_G} (hG : k_ok G) : am_cB G mX9_addMet 3 := by
  obtain ⟨hc, ht, -⟩ := hG
  unfold am_cB
  rw [ht]
  exact ⟨(k_in 119 (by decide +kernel) (by decide +kernel)), (k_in 1100 (by decide +kernel) (by decide +kernel)), by decide +kernel, by decide⟩
abbrev mX9_takesTwin : am_M := (yX9_takesTwin, cX9_takesTwin, 1, (some .boolean), 0, 0)
theorem kB_X9_takesTwin {G : am_G} (hG : k_ok G) : am_cB G mX9_takesTwin 0 := by
  obtain ⟨hc, ht, -⟩ := hG
  unfold am_cB
  rw [ht]
  exact ⟨(k_in 119 (by decide +kernel) (by decide +kernel)), (k_in 1177 (by decide +kernel) (by decide +kernel)), by decide +kernel, by decide⟩
abbrev mX9_allPeople : am_M := (yX9_allPeople, cX9_allPeople, 1, (some .int), 0, 0)
theorem kB_X9_allPeople {G : am_G} (hG : k_ok G) : am_cB G mX9_allPeople 0 := by
  obtain ⟨hc, ht, -⟩ := hG
  unfold am_cB
  rw [ht]
  exact ⟨(k_in 119 (by decide +kernel) (by decide +kernel)), (k_in 656 (by decide +kernel) (by decide +kernel)), by decide +kernel, by decide⟩
abbrev mX9_pair : am_M := (yX9_pair, cX9_pair, 3, (some .int), 0, 0)
theorem kB_X9_pair {G : am_G} (hG : k_ok G) : am_cB G mX9_pair 1 := by
  obtain ⟨hc, ht, -⟩ := hG
  unfold am_cB
  rw [ht]
  exact ⟨(k_in 119 (by decide +kernel) (by decide +kernel)), (k_in 571 (by decide +kernel) (by decide +kernel)), by decide +kernel, by decide⟩
abbrev mX9_eats : am_M := (yX9_eats, cX9_eats, 3, (some .boolean), 0, 0)
theorem kB_X9_eats {G : am_G} (hG : k_ok G) : am_cB G mX9_eats 2 := by
  obtain ⟨hc, ht, -⟩ := hG
  unfold am_cB
  rw [ht]
  exact ⟨(k_in 119 (by decide +kernel) (by decide +kernel)), (k_in 1254 (by decide +kernel) (by decide +kernel)), by decide +kernel, by decide⟩
abbrev mX9_dwellers : am_M := (yX9_dwellers, cX9_dwellers, 4, (some .int), 0, 0)
theorem kB_X9_dwellers {G : am_G} (hG : k_ok G) : am_cB G mX9_dwellers 1 := by
  obtain ⟨hc, ht, -⟩ := hG
  unfold am_cB
  rw [ht]
  exact ⟨(k_in 119 (by decide +kernel) (by decide +kernel)), (k_in 733 (by decide +kernel) (by decide +kernel)), by decide +kernel, by decide⟩
abbrev mX9_withTwins : am_M := (yX9_withTwins, cX9_withTwins, 4, (some .int), 0, 0)
theorem kB_X9_withTwins {G : am_G} (hG : k_ok G) : am_cB G mX9_withTwins 1 := by
  obtain ⟨hc, ht, -⟩ := hG
  unfold am_cB
  rw [ht]
  exact ⟨(k_in 119 (by decide +kernel) (by decide +kernel)), (k_in 564 (by decide +kernel) (by decide +kernel)), by decide +kernel, by decide⟩
abbrev mX9_metBy : am_M := (yX9_metBy, cX9_metBy, 3, (some .int), 0, 0)
theorem kB_X9_metBy {G : am_G} (hG : k_ok G) : am_cB G mX9_metBy 2 := by
  obtain ⟨hc, ht, -⟩ := hG
  unfold am_cB
  rw [ht]
  exact ⟨(k_in 119 (by decide +kernel) (by decide +kernel)), (k_in 575 (by decide +kernel) (by decide +kernel)), by decide +kernel, by decide⟩
abbrev mX9_sliceCount : am_M := (yX9_sliceCount, cX9_sliceCount, 7, (some .int), 0, 0)
theorem kB_X9_sliceCount {G : am_G} (hG : k_ok G) : am_cB G mX9_sliceCount 1 := by
  obtain ⟨hc, ht, -⟩ := hG
  unfold am_cB
  rw [ht]
  exact ⟨(k_in 119 (by decide +kernel) (by decide +kernel)), (k_in 1242 (by decide +kernel) (by decide +kernel)), by decide +kernel, by decide⟩
abbrev mX10_init : am_M := (yX10_init, cX10_init, 1, none, 0, 0)
theorem kB_X10_init {G : am_G} (hG : k_ok G) : am_cB G mX10_init 0 := by
  obtain ⟨hc, ht, -⟩ := hG
  unfold am_cB
  rw [ht]
  exact ⟨(k_in 117 (by decide +kernel) (by decide +kernel)), (k_in 147 (by decide +kernel) (by decide +kernel)), by decide +kernel, by decide⟩
abbrev mX10_feed : am_M := (yX10_feed, cX10_feed, 6, (some .int), 0, 0)
theorem kB_X10_feed {G : am_G} (hG : k_ok G) : am_cB G mX10_feed 5 := by
  obtain ⟨hc, ht, -⟩ := hG
  unfold am_cB
  rw [ht]
  exact ⟨(k_in 117 (by decide +kernel) (by decide +kernel)), (k_in 634 (by decide +kernel) (by decide +kernel)), by decide +kernel, by decide⟩
abbrev mX10_town : am_M := (yX10_town, cX10_town, 4, (some .int), 0, 0)
theorem kB_X10_town {G : am_G} (hG : k_ok G) : am_cB G mX10_town 1 := by
  obtain ⟨hc, ht, -⟩ := hG
  unfold am_cB
  rw [ht]
  exact ⟨(k_in 117 (by decide +kernel) (by decide +kernel)), (k_in 857 (by decide +kernel) (by decide +kernel)), by decide +kernel, by decide⟩
abbrev mX10_fault : am_M := (yX10_fault, cX10_fault, 1, (some .int), 0, 0)
theorem kB_X10_fault {G : am_G} (hG : k_ok G) : am_cB G mX10_fault 0 := by
  obtain ⟨hc, ht, -⟩ := hG
  unfold am_cB
  rw [ht]
  exact ⟨(k_in 117 (by decide +kernel) (by decide +kernel)), (k_in 642 (by decide +kernel) (by decide +kernel)), by decide +kernel, by decide⟩
abbrev mX10_count : am_M := (yX10_count, cX10_count, 3, (some .int), 0, 0)
theorem kB_X10_count {G : am_G} (hG : k_ok G) : am_cB G mX10_count 1 := by
  obtain ⟨hc, ht, -⟩ := hG
  unfold am_cB
  rw [ht]
  exact ⟨(k_in 117 (by decide +kernel) (by decide +kernel)), (k_in 1189 (by decide +kernel) (by decide +kernel)), by decide +kernel, by decide⟩
abbrev mX10_person : am_M := (yX10_person, cX10_person, 3, (some .int), 0, 0)
theorem kB_X10_person {G : am_G} (hG : k_ok G) : am_cB G mX10_person 2 := by
  obtain ⟨hc, ht, -⟩ := hG
  unfold am_cB
  rw [ht]
  exact ⟨(k_in 117 (by decide +kernel) (by decide +kernel)), (k_in 1220 (by decide +kernel) (by decide +kernel)), by decide +kernel, by decide⟩
abbrev mX10_loaf : am_M := (yX10_loaf, cX10_loaf, 4, (some .int), 0, 0)
theorem kB_X10_loaf {G : am_G} (hG : k_ok G) : am_cB G mX10_loaf 2 := by
  obtain ⟨hc, ht, -⟩ := hG
  unfold am_cB
  rw [ht]
  exact ⟨(k_in 117 (by decide +kernel) (by decide +kernel)), (k_in 1233 (by decide +kernel) (by decide +kernel)), by decide +kernel, by decide⟩
abbrev mX10_met : am_M := (yX10_met, cX10_met, 5, (some .int), 0, 0)
theorem kB_X10_met {G : am_G} (hG : k_ok G) : am_cB G mX10_met 2 := by
  obtain ⟨hc, ht, -⟩ := hG
  unfold am_cB
  rw [ht]
  exact ⟨(k_in 117 (by decide +kernel) (by decide +kernel)), (k_in 1262 (by decide +kernel) (by decide +kernel)), by decide +kernel, by decide⟩
abbrev mX10_knows : am_M := (yX10_knows, cX10_knows, 3, (some .boolean), 0, 0)
theorem kB_X10_knows {G : am_G} (hG : k_ok G) : am_cB G mX10_knows 2 := by
  obtain ⟨hc, ht, -⟩ := hG
  unfold am_cB
  rw [ht]
  exact ⟨(k_in 117 (by decide +kernel) (by decide +kernel)), (k_in 1271 (by decide +kernel) (by decide +kernel)), by decide +kernel, by decide⟩
abbrev mX10_may : am_M := (yX10_may, cX10_may, 3, (some .int), 0, 0)
theorem kB_X10_may {G : am_G} (hG : k_ok G) : am_cB G mX10_may 2 := by
  obtain ⟨hc, ht, -⟩ := hG
  unfold am_cB
  rw [ht]
  exact ⟨(k_in 117 (by decide +kernel) (by decide +kernel)), (k_in 1278 (by decide +kernel) (by decide +kernel)), by decide +kernel, by decide⟩
abbrev mX10_why : am_M := (yX10_why, cX10_why, 3, (some .int), 0, 0)
theorem kB_X10_why {G : am_G} (hG : k_ok G) : am_cB G mX10_why 2 := by
  obtain ⟨hc, ht, -⟩ := hG
  unfold am_cB
  rw [ht]
  exact ⟨(k_in 117 (by decide +kernel) (by decide +kernel)), (k_in 1402 (by decide +kernel) (by decide +kernel)), by decide +kernel, by decide⟩
abbrev mX10_slice : am_M := (yX10_slice, cX10_slice, 4, (some .int), 0, 0)
theorem kB_X10_slice {G : am_G} (hG : k_ok G) : am_cB G mX10_slice 3 := by
  obtain ⟨hc, ht, -⟩ := hG
  unfold am_cB
  rw [ht]
  exact ⟨(k_in 117 (by decide +kernel) (by decide +kernel)), (k_in 1285 (by decide +kernel) (by decide +kernel)), by decide +kernel, by decide⟩
abbrev mX10_cut : am_M := (yX10_cut, cX10_cut, 3, (some .boolean), 0, 0)
theorem kB_X10_cut {G : am_G} (hG : k_ok G) : am_cB G mX10_cut 2 := by
  obtain ⟨hc, ht, -⟩ := hG
  unfold am_cB
  rw [ht]
  exact ⟨(k_in 117 (by decide +kernel) (by decide +kernel)), (k_in 1333 (by decide +kernel) (by decide +kernel)), by decide +kernel, by decide⟩
abbrev mX10_thank : am_M := (yX10_thank, cX10_thank, 3, (some .int), 0, 0)
theorem kB_X10_thank {G : am_G} (hG : k_ok G) : am_cB G mX10_thank 2 := by
  obtain ⟨hc, ht, -⟩ := hG
  unfold am_cB
  rw [ht]
  exact ⟨(k_in 117 (by decide +kernel) (by decide +kernel)), (k_in 1340 (by decide +kernel) (by decide +kernel)), by decide +kernel, by decide⟩
abbrev mX10_fair : am_M := (yX10_fair, cX10_fair, 2, (some .int), 0, 0)
theorem kB_X10_fair {G : am_G} (hG : k_ok G) : am_cB G mX10_fair 1 := by
  obtain ⟨hc, ht, -⟩ := hG
  unfold am_cB
  rw [ht]
  exact ⟨(k_in 117 (by decide +kernel) (by decide +kernel)), (k_in 646 (by decide +kernel) (by decide +kernel)), by decide +kernel, by decide⟩
abbrev mX10_hours : am_M := (yX10_hours, cX10_hours, 3, (some .int), 0, 0)
theorem kB_X10_hours {G : am_G} (hG : k_ok G) : am_cB G mX10_hours 1 := by
  obtain ⟨hc, ht, -⟩ := hG
  unfold am_cB
  rw [ht]
  exact ⟨(k_in 117 (by decide +kernel) (by decide +kernel)), (k_in 682 (by decide +kernel) (by decide +kernel)), by decide +kernel, by decide⟩
abbrev mX10_undo : am_M := (yX10_undo, cX10_undo, 1, (some .int), 0, 0)
theorem kB_X10_undo {G : am_G} (hG : k_ok G) : am_cB G mX10_undo 0 := by
  obtain ⟨hc, ht, -⟩ := hG
  unfold am_cB
  rw [ht]
  exact ⟨(k_in 117 (by decide +kernel) (by decide +kernel)), (k_in 687 (by decide +kernel) (by decide +kernel)), by decide +kernel, by decide⟩
abbrev mX10_image : am_M := (yX10_image, cX10_image, 1, none, 0, 0)
theorem kB_X10_image {G : am_G} (hG : k_ok G) : am_cB G mX10_image 0 := by
  obtain ⟨hc, ht, -⟩ := hG
  unfold am_cB
  rw [ht]
  exact ⟨(k_in 117 (by decide +kernel) (by decide +kernel)), (k_in 695 (by decide +kernel) (by decide +kernel)), by decide +kernel, by decide⟩
abbrev mX10_restore : am_M := (yX10_restore, cX10_restore, 1, (some .boolean), 0, 0)
theorem kB_X10_restore {G : am_G} (hG : k_ok G) : am_cB G mX10_restore 0 := by
  obtain ⟨hc, ht, -⟩ := hG
  unfold am_cB
  rw [ht]
  exact ⟨(k_in 117 (by decide +kernel) (by decide +kernel)), (k_in 708 (by decide +kernel) (by decide +kernel)), by decide +kernel, by decide⟩
abbrev mX10_noon : am_M := (yX10_noon, cX10_noon, 3, (some .int), 0, 0)
theorem kB_X10_noon {G : am_G} (hG : k_ok G) : am_cB G mX10_noon 0 := by
  obtain ⟨hc, ht, -⟩ := hG
  unfold am_cB
  rw [ht]
  exact ⟨(k_in 117 (by decide +kernel) (by decide +kernel)), (k_in 712 (by decide +kernel) (by decide +kernel)), by decide +kernel, by decide⟩
abbrev mX10_carried : am_M := (yX10_carried, cX10_carried, 2, (some .int), 0, 0)
theorem kB_X10_carried {G : am_G} (hG : k_ok G) : am_cB G mX10_carried 1 := by
  obtain ⟨hc, ht, -⟩ := hG
  unfold am_cB
  rw [ht]
  exact ⟨(k_in 117 (by decide +kernel) (by decide +kernel)), (k_in 1347 (by decide +kernel) (by decide +kernel)), by decide +kernel, by decide⟩
abbrev mX10_familiar : am_M := (yX10_familiar, cX10_familiar, 4, (some .int), 0, 0)
theorem kB_X10_familiar {G : am_G} (hG : k_ok G) : am_cB G mX10_familiar 0 := by
  obtain ⟨hc, ht, -⟩ := hG
  unfold am_cB
  rw [ht]
  exact ⟨(k_in 117 (by decide +kernel) (by decide +kernel)), (k_in 793 (by decide +kernel) (by decide +kernel)), by decide +kernel, by decide⟩
abbrev mX10_ring : am_M := (yX10_ring, cX10_ring, 4, (some .int), 0, 0)
theorem kB_X10_ring {G : am_G} (hG : k_ok G) : am_cB G mX10_ring 0 := by
  obtain ⟨hc, ht, -⟩ := hG
  unfold am_cB
  rw [ht]
  exact ⟨(k_in 117 (by decide +kernel) (by decide +kernel)), (k_in 797 (by decide +kernel) (by decide +kernel)), by decide +kernel, by decide⟩
abbrev mX10_safe : am_M := (yX10_safe, cX10_safe, 5, (some .int), 0, 0)
theorem kB_X10_safe {G : am_G} (hG : k_ok G) : am_cB G mX10_safe 0 := by
  obtain ⟨hc, ht, -⟩ := hG
  unfold am_cB
  rw [ht]
  exact ⟨(k_in 117 (by decide +kernel) (by decide +kernel)), (k_in 806 (by decide +kernel) (by decide +kernel)), by decide +kernel, by decide⟩
abbrev mX10_leavesCuttable : am_M := (yX10_leavesCuttable, cX10_leavesCuttable, 5, (some .boolean), 0, 0)
theorem kB_X10_leavesCuttable {G : am_G} (hG : k_ok G) : am_cB G mX10_leavesCuttable 2 := by
  obtain ⟨hc, ht, -⟩ := hG
  unfold am_cB
  rw [ht]
  exact ⟨(k_in 117 (by decide +kernel) (by decide +kernel)), (k_in 814 (by decide +kernel) (by decide +kernel)), by decide +kernel, by decide⟩
abbrev mX10_cuttableLoaves : am_M := (yX10_cuttableLoaves, cX10_cuttableLoaves, 3, (some .int), 0, 0)
theorem kB_X10_cuttableLoaves {G : am_G} (hG : k_ok G) : am_cB G mX10_cuttableLoaves 0 := by
  obtain ⟨hc, ht, -⟩ := hG
  unfold am_cB
  rw [ht]
  exact ⟨(k_in 117 (by decide +kernel) (by decide +kernel)), (k_in 810 (by decide +kernel) (by decide +kernel)), by decide +kernel, by decide⟩
abbrev mX10_help : am_M := (yX10_help, cX10_help, 5, (some .int), 0, 0)
theorem kB_X10_help {G : am_G} (hG : k_ok G) : am_cB G mX10_help 0 := by
  obtain ⟨hc, ht, -⟩ := hG
  unfold am_cB
  rw [ht]
  exact ⟨(k_in 117 (by decide +kernel) (by decide +kernel)), (k_in 829 (by decide +kernel) (by decide +kernel)), by decide +kernel, by decide⟩
abbrev mX10_cuttersOfAny : am_M := (yX10_cuttersOfAny, cX10_cuttersOfAny, 4, (some .int), 0, 0)
theorem kB_X10_cuttersOfAny {G : am_G} (hG : k_ok G) : am_cB G mX10_cuttersOfAny 1 := by
  obtain ⟨hc, ht, -⟩ := hG
  unfold am_cB
  rw [ht]
  exact ⟨(k_in 117 (by decide +kernel) (by decide +kernel)), (k_in 834 (by decide +kernel) (by decide +kernel)), by decide +kernel, by decide⟩
abbrev mX10_doors : am_M := (yX10_doors, cX10_doors, 4, (some .int), 0, 0)
theorem kB_X10_doors {G : am_G} (hG : k_ok G) : am_cB G mX10_doors 0 := by
  obtain ⟨hc, ht, -⟩ := hG
  unfold am_cB
  rw [ht]
  exact ⟨(k_in 117 (by decide +kernel) (by decide +kernel)), (k_in 839 (by decide +kernel) (by decide +kernel)), by decide +kernel, by decide⟩
abbrev mX10_opensAll : am_M := (yX10_opensAll, cX10_opensAll, 5, (some .boolean), 0, 0)
theorem kB_X10_opensAll {G : am_G} (hG : k_ok G) : am_cB G mX10_opensAll 2 := by
  obtain ⟨hc, ht, -⟩ := hG
  unfold am_cB
  rw [ht]
  exact ⟨(k_in 117 (by decide +kernel) (by decide +kernel)), (k_in 843 (by decide +kernel) (by decide +kernel)), by decide +kernel, by decide⟩
abbrev mX10_see : am_M := (yX10_see, cX10_see, 5, (some .int), 0, 0)
theorem kB_X10_see {G : am_G} (hG : k_ok G) : am_cB G mX10_see 3 := by
  obtain ⟨hc, ht, -⟩ := hG
  unfold am_cB
  rw [ht]
  exact ⟨(k_in 117 (by decide +kernel) (by decide +kernel)), (k_in 1355 (by decide +kernel) (by decide +kernel)), by decide +kernel, by decide⟩
abbrev mX10_who : am_M := (yX10_who, cX10_who, 4, (some .int), 0, 0)
theorem kB_X10_who {G : am_G} (hG : k_ok G) : am_cB G mX10_who 1 := by
  obtain ⟨hc, ht, -⟩ := hG
  unfold am_cB
  rw [ht]
  exact ⟨(k_in 117 (by decide +kernel) (by decide +kernel)), (k_in 1366 (by decide +kernel) (by decide +kernel)), by decide +kernel, by decide⟩
abbrev mX10_balk : am_M := (yX10_balk, cX10_balk, 3, (some .int), 0, 0)
theorem kB_X10_balk {G : am_G} (hG : k_ok G) : am_cB G mX10_balk 2 := by
  obtain ⟨hc, ht, -⟩ := hG
  unfold am_cB
  rw [ht]
  exact ⟨(k_in 117 (by decide +kernel) (by decide +kernel)), (k_in 1377 (by decide +kernel) (by decide +kernel)), by decide +kernel, by decide⟩
abbrev mX10_whom : am_M := (yX10_whom, cX10_whom, 6, (some .int), 0, 0)
theorem kB_X10_whom {G : am_G} (hG : k_ok G) : am_cB G mX10_whom 1 := by
  obtain ⟨hc, ht, -⟩ := hG
  unfold am_cB
  rw [ht]
  exact ⟨(k_in 117 (by decide +kernel) (by decide +kernel)), (k_in 1388 (by decide +kernel) (by decide +kernel)), by decide +kernel, by decide⟩
abbrev mX10_explainsBalking : am_M := (yX10_explainsBalking, cX10_explainsBalking, 6, (some .boolean), 0, 0)
theorem kB_X10_explainsBalking {G : am_G} (hG : k_ok G) : am_cB G mX10_explainsBalking 2 := by
  obtain ⟨hc, ht, -⟩ := hG
  unfold am_cB
  rw [ht]
  exact ⟨(k_in 117 (by decide +kernel) (by decide +kernel)), (k_in 1394 (by decide +kernel) (by decide +kernel)), by decide +kernel, by decide⟩
abbrev mX10_forget : am_M := (yX10_forget, cX10_forget, 1, none, 0, 0)
theorem kB_X10_forget {G : am_G} (hG : k_ok G) : am_cB G mX10_forget 0 := by
  obtain ⟨hc, ht, -⟩ := hG
  unfold am_cB
  rw [ht]
  exact ⟨(k_in 117 (by decide +kernel) (by decide +kernel)), (k_in 848 (by decide +kernel) (by decide +kernel)), by decide +kernel, by decide⟩
abbrev mX10_fairest : am_M := (yX10_fairest, cX10_fairest, 8, (some .int), 0, 0)
theorem kB_X10_fairest {G : am_G} (hG : k_ok G) : am_cB G mX10_fairest 2 := by
  obtain ⟨hc, ht, -⟩ := hG
  unfold am_cB
  rw [ht]
  exact ⟨(k_in 117 (by decide +kernel) (by decide +kernel)), (k_in 1410 (by decide +kernel) (by decide +kernel)), by decide +kernel, by decide⟩
abbrev mX10_game : am_M := (yX10_game, cX10_game, 8, (some .int), 0, 0)
theorem kB_X10_game {G : am_G} (hG : k_ok G) : am_cB G mX10_game 3 := by
  obtain ⟨hc, ht, -⟩ := hG
  unfold am_cB
  rw [ht]
  exact ⟨(k_in 117 (by decide +kernel) (by decide +kernel)), (k_in 1421 (by decide +kernel) (by decide +kernel)), by decide +kernel, by decide⟩
abbrev mX10_isBestChoice : am_M := (yX10_isBestChoice, cX10_isBestChoice, 6, (some .boolean), 0, 0)
theorem kB_X10_isBestChoice {G : am_G} (hG : k_ok G) : am_cB G mX10_isBestChoice 3 := by
  obtain ⟨hc, ht, -⟩ := hG
  unfold am_cB
  rw [ht]
  exact ⟨(k_in 117 (by decide +kernel) (by decide +kernel)), (k_in 1426 (by decide +kernel) (by decide +kernel)), by decide +kernel, by decide⟩
abbrev mX10_gain : am_M := (yX10_gain, cX10_gain, 4, (some .int), 0, 0)
theorem kB_X10_gain {G : am_G} (hG : k_ok G) : am_cB G mX10_gain 3 := by
  obtain ⟨hc, ht, -⟩ := hG
  unfold am_cB
  rw [ht]
  exact ⟨(k_in 117 (by decide +kernel) (by decide +kernel)), (k_in 1430 (by decide +kernel) (by decide +kernel)), by decide +kernel, by decide⟩
abbrev mX10_season : am_M := (yX10_season, cX10_season, 9, (some .int), 0, 0)
theorem kB_X10_season {G : am_G} (hG : k_ok G) : am_cB G mX10_season 3 := by
  obtain ⟨hc, ht, -⟩ := hG
  unfold am_cB
  rw [ht]
  exact ⟨(k_in 117 (by decide +kernel) (by decide +kernel)), (k_in 1437 (by decide +kernel) (by decide +kernel)), by decide +kernel, by decide⟩
abbrev mX10_meetByChance : am_M := (yX10_meetByChance, cX10_meetByChance, 6, (some .int), 0, 0)
theorem kB_X10_meetByChance {G : am_G} (hG : k_ok G) : am_cB G mX10_meetByChance 1 := by
  obtain ⟨hc, ht, -⟩ := hG
  unfold am_cB
  rw [ht]
  exact ⟨(k_in 117 (by decide +kernel) (by decide +kernel)), (k_in 1444 (by decide +kernel) (by decide +kernel)), by decide +kernel, by decide⟩
abbrev mX10_nextSeed : am_M := (yX10_nextSeed, cX10_nextSeed, 1, (some .int), 0, 0)
theorem kB_X10_nextSeed {G : am_G} (hG : k_ok G) : am_cB G mX10_nextSeed 1 := by
  obtain ⟨hc, ht, -⟩ := hG
  unfold am_cB
  rw [ht]
  exact ⟨(k_in 117 (by decide +kernel) (by decide +kernel)), (k_in 1447 (by decide +kernel) (by decide +kernel)), by decide +kernel, by decide⟩
abbrev mX10_drawn : am_M := (yX10_drawn, cX10_drawn, 2, (some .int), 0, 0)
theorem kB_X10_drawn {G : am_G} (hG : k_ok G) : am_cB G mX10_drawn 2 := by
  obtain ⟨hc, ht, -⟩ := hG
  unfold am_cB
  rw [ht]
  exact ⟨(k_in 117 (by decide +kernel) (by decide +kernel)), (k_in 1451 (by decide +kernel) (by decide +kernel)), by decide +kernel, by decide⟩
abbrev mX10_loavesWithCutters : am_M := (yX10_loavesWithCutters, cX10_loavesWithCutters, 3, (some .int), 0, 0)
theorem kB_X10_loavesWithCutters {G : am_G} (hG : k_ok G) : am_cB G mX10_loavesWithCutters 0 := by
  obtain ⟨hc, ht, -⟩ := hG
  unfold am_cB
  rw [ht]
  exact ⟨(k_in 117 (by decide +kernel) (by decide +kernel)), (k_in 1456 (by decide +kernel) (by decide +kernel)), by decide +kernel, by decide⟩
abbrev mX10_has : am_M := (yX10_has, cX10_has, 2, (some .boolean), 0, 0)
theorem kB_X10_has {G : am_G} (hG : k_ok G) : am_cB G mX10_has 2 := by
  obtain ⟨hc, ht, -⟩ := hG
  unfold am_cB
  rw [ht]
  exact ⟨(k_in 117 (by decide +kernel) (by decide +kernel)), (k_in 567 (by decide +kernel) (by decide +kernel)), by decide +kernel, by decide⟩
abbrev mX10_requirePerson : am_M := (yX10_requirePerson, cX10_requirePerson, 2, none, 1, 6)
theorem kB_X10_requirePerson {G : am_G} (hG : k_ok G) : am_cB G mX10_requirePerson 1 := by
  obtain ⟨hc, ht, -⟩ := hG
  unfold am_cB
  rw [ht]
  exact ⟨(k_in 117 (by decide +kernel) (by decide +kernel)), (k_in 1224 (by decide +kernel) (by decide +kernel)), by decide +kernel, by decide⟩
abbrev mX10_requireLoaf : am_M := (yX10_requireLoaf, cX10_requireLoaf, 2, none, 1, 6)
theorem kB_X10_requireLoaf {G : am_G} (hG : k_ok G) : am_cB G mX10_requireLoaf 1 := by
  obtain ⟨hc, ht, -⟩ := hG
  unfold am_cB
  rw [ht]
  exact ⟨(k_in 117 (by decide +kernel) (by decide +kernel)), (k_in 1237 (by decide +kernel) (by decide +kernel)), by decide +kernel, by decide⟩
abbrev mX10_requireEaterOrNone : am_M := (yX10_requireEaterOrNone, cX10_requireEaterOrNone, 3, none, 1, 6)
theorem kB_X10_requireEaterOrNone {G : am_G} (hG : k_ok G) : am_cB G mX10_requireEaterOrNone 2 := by
  obtain ⟨hc, ht, -⟩ := hG
  unfold am_cB
  rw [ht]
  exact ⟨(k_in 117 (by decide +kernel) (by decide +kernel)), (k_in 1289 (by decide +kernel) (by decide +kernel)), by decide +kernel, by decide⟩
abbrev mX10_lookAround : am_M := (yX10_lookAround, cX10_lookAround, 1, none, 0, 0)
theorem kB_X10_lookAround {G : am_G} (hG : k_ok G) : am_cB G mX10_lookAround 0 := by
  obtain ⟨hc, ht, -⟩ := hG
  unfold am_cB
  rw [ht]
  exact ⟨(k_in 117 (by decide +kernel) (by decide +kernel)), (k_in 725 (by decide +kernel) (by decide +kernel)), by decide +kernel, by decide⟩
abbrev mX10_hindrance : am_M := (yX10_hindrance, cX10_hindrance, 5, (some .int), 0, 0)
theorem kB_X10_hindrance {G : am_G} (hG : k_ok G) : am_cB G mX10_hindrance 2 := by
  obtain ⟨hc, ht, -⟩ := hG
  unfold am_cB
  rw [ht]
  exact ⟨(k_in 117 (by decide +kernel) (by decide +kernel)), (k_in 1250 (by decide +kernel) (by decide +kernel)), by decide +kernel, by decide⟩
abbrev mX10_peopleWith : am_M := (yX10_peopleWith, cX10_peopleWith, 5, (some .int), 0, 0)
theorem kB_X10_peopleWith {G : am_G} (hG : k_ok G) : am_cB G mX10_peopleWith 2 := by
  obtain ⟨hc, ht, -⟩ := hG
  unfold am_cB
  rw [ht]
  exact ⟨(k_in 117 (by decide +kernel) (by decide +kernel)), (k_in 1246 (by decide +kernel) (by decide +kernel)), by decide +kernel, by decide⟩
abbrev mX11_init : am_M := (yX11_init, cX11_init, 1, none, 0, 0)
theorem kB_X11_init {G : am_G} (hG : k_ok G) : am_cB G mX11_init 0 := by
  obtain ⟨hc, ht, -⟩ := hG
  unfold am_cB
  rw [ht]
  exact ⟨(k_in 131 (by decide +kernel) (by decide +kernel)), (k_in 1462 (by decide +kernel) (by decide +kernel)), by decide +kernel, by decide⟩
abbrev mX11_thrown : am_M := (yX11_thrown, cX11_thrown, 1, (some .int), 0, 0)
theorem kB_X11_thrown {G : am_G} (hG : k_ok G) : am_cB G mX11_thrown 0 := by
  obtain ⟨hc, ht, -⟩ := hG
  unfold am_cB
  rw [ht]
  exact ⟨(k_in 131 (by decide +kernel) (by decide +kernel)), (k_in 1687 (by decide +kernel) (by decide +kernel)), by decide +kernel, by decide⟩
abbrev mX11_fail : am_M := (yX11_fail, cX11_fail, 2, (some .int), 0, 0)
theorem kB_X11_fail {G : am_G} (hG : k_ok G) : am_cB G mX11_fail 1 := by
  obtain ⟨hc, ht, -⟩ := hG
  unfold am_cB
  rw [ht]
  exact ⟨(k_in 131 (by decide +kernel) (by decide +kernel)), (k_in 1699 (by decide +kernel) (by decide +kernel)), by decide +kernel, by decide⟩
abbrev mX11_failing : am_M := (yX11_failing, cX11_failing, 2, (some .boolean), 0, 0)
theorem kB_X11_failing {G : am_G} (hG : k_ok G) : am_cB G mX11_failing 1 := by
  obtain ⟨hc, ht, -⟩ := hG
  unfold am_cB
  rw [ht]
  exact ⟨(k_in 131 (by decide +kernel) (by decide +kernel)), (k_in 1898 (by decide +kernel) (by decide +kernel)), by decide +kernel, by decide⟩
abbrev mX11_isIn : am_M := (yX11_isIn, cX11_isIn, 6, (some .boolean), 0, 0)
theorem kB_X11_isIn {G : am_G} (hG : k_ok G) : am_cB G mX11_isIn 3 := by
  obtain ⟨hc, ht, -⟩ := hG
  unfold am_cB
  rw [ht]
  exact ⟨(k_in 131 (by decide +kernel) (by decide +kernel)), (k_in 1854 (by decide +kernel) (by decide +kernel)), by decide +kernel, by decide⟩
abbrev mX11_isOf : am_M := (yX11_isOf, cX11_isOf, 2, (some .boolean), 0, 0)
theorem kB_X11_isOf {G : am_G} (hG : k_ok G) : am_cB G mX11_isOf 2 := by
  obtain ⟨hc, ht, -⟩ := hG
  unfold am_cB
  rw [ht]
  exact ⟨(k_in 131 (by decide +kernel) (by decide +kernel)), (k_in 1803 (by decide +kernel) (by decide +kernel)), by decide +kernel, by decide⟩
abbrev mX11_isPerson : am_M := (yX11_isPerson, cX11_isPerson, 2, (some .boolean), 0, 0)
theorem kB_X11_isPerson {G : am_G} (hG : k_ok G) : am_cB G mX11_isPerson 1 := by
  obtain ⟨hc, ht, -⟩ := hG
  unfold am_cB
  rw [ht]
  exact ⟨(k_in 131 (by decide +kernel) (by decide +kernel)), (k_in 1851 (by decide +kernel) (by decide +kernel)), by decide +kernel, by decide⟩
abbrev mX11_isLoaf : am_M := (yX11_isLoaf, cX11_isLoaf, 2, (some .boolean), 0, 0)
theorem kB_X11_isLoaf {G : am_G} (hG : k_ok G) : am_cB G mX11_isLoaf 1 := by
  obtain ⟨hc, ht, -⟩ := hG
  unfold am_cB
  rw [ht]
  exact ⟨(k_in 131 (by decide +kernel) (by decide +kernel)), (k_in 1862 (by decide +kernel) (by decide +kernel)), by decide +kernel, by decide⟩
abbrev mX11_couple : am_M := (yX11_couple, cX11_couple, 2, (some .int), 0, 0)
theorem kB_X11_couple {G : am_G} (hG : k_ok G) : am_cB G mX11_couple 2 := by
  obtain ⟨hc, ht, -⟩ := hG
  unfold am_cB
  rw [ht]
  exact ⟨(k_in 131 (by decide +kernel) (by decide +kernel)), (k_in 1811 (by decide +kernel) (by decide +kernel)), by decide +kernel, by decide⟩
abbrev mX11_feed : am_M := (yX11_feed, cX11_feed, 8, (some .int), 0, 0)
theorem kB_X11_feed {G : am_G} (hG : k_ok G) : am_cB G mX11_feed 5 := by
  obtain ⟨hc, ht, -⟩ := hG
  unfold am_cB
  rw [ht]
  exact ⟨(k_in 131 (by decide +kernel) (by decide +kernel)), (k_in 1691 (by decide +kernel) (by decide +kernel)), by decide +kernel, by decide⟩
abbrev mX11_byteAt : am_M := (yX11_byteAt, cX11_byteAt, 2, (some .int), 0, 0)
theorem kB_X11_byteAt {G : am_G} (hG : k_ok G) : am_cB G mX11_byteAt 1 := by
  obtain ⟨hc, ht, -⟩ := hG
  unfold am_cB
  rw [ht]
  exact ⟨(k_in 131 (by decide +kernel) (by decide +kernel)), (k_in 1708 (by decide +kernel) (by decide +kernel)), by decide +kernel, by decide⟩
abbrev mX11_isLetter : am_M := (yX11_isLetter, cX11_isLetter, 1, (some .boolean), 0, 0)
theorem kB_X11_isLetter {G : am_G} (hG : k_ok G) : am_cB G mX11_isLetter 1 := by
  obtain ⟨hc, ht, -⟩ := hG
  unfold am_cB
  rw [ht]
  exact ⟨(k_in 131 (by decide +kernel) (by decide +kernel)), (k_in 1711 (by decide +kernel) (by decide +kernel)), by decide +kernel, by decide⟩
abbrev mX11_isDigit : am_M := (yX11_isDigit, cX11_isDigit, 1, (some .boolean), 0, 0)
theorem kB_X11_isDigit {G : am_G} (hG : k_ok G) : am_cB G mX11_isDigit 1 := by
  obtain ⟨hc, ht, -⟩ := hG
  unfold am_cB
  rw [ht]
  exact ⟨(k_in 131 (by decide +kernel) (by decide +kernel)), (k_in 1714 (by decide +kernel) (by decide +kernel)), by decide +kernel, by decide⟩
abbrev mX11_isMark : am_M := (yX11_isMark, cX11_isMark, 1, (some .boolean), 0, 0)
theorem kB_X11_isMark {G : am_G} (hG : k_ok G) : am_cB G mX11_isMark 1 := by
  obtain ⟨hc, ht, -⟩ := hG
  unfold am_cB
  rw [ht]
  exact ⟨(k_in 131 (by decide +kernel) (by decide +kernel)), (k_in 1719 (by decide +kernel) (by decide +kernel)), by decide +kernel, by decide⟩
abbrev mX11_stepOn : am_M := (yX11_stepOn, cX11_stepOn, 2, none, 0, 0)
theorem kB_X11_stepOn {G : am_G} (hG : k_ok G) : am_cB G mX11_stepOn 0 := by
  obtain ⟨hc, ht, -⟩ := hG
  unfold am_cB
  rw [ht]
  exact ⟨(k_in 131 (by decide +kernel) (by decide +kernel)), (k_in 1704 (by decide +kernel) (by decide +kernel)), by decide +kernel, by decide⟩
abbrev mX11_wrong : am_M := (yX11_wrong, cX11_wrong, 2, none, 0, 0)
theorem kB_X11_wrong {G : am_G} (hG : k_ok G) : am_cB G mX11_wrong 1 := by
  obtain ⟨hc, ht, -⟩ := hG
  unfold am_cB
  rw [ht]
  exact ⟨(k_in 131 (by decide +kernel) (by decide +kernel)), (k_in 1740 (by decide +kernel) (by decide +kernel)), by decide +kernel, by decide⟩
abbrev mX11_is : am_M := (yX11_is, cX11_is, 4, (some .boolean), 0, 0)
theorem kB_X11_is {G : am_G} (hG : k_ok G) : am_cB G mX11_is 1 := by
  obtain ⟨hc, ht, -⟩ := hG
  unfold am_cB
  rw [ht]
  exact ⟨(k_in 131 (by decide +kernel) (by decide +kernel)), (k_in 1728 (by decide +kernel) (by decide +kernel)), by decide +kernel, by decide⟩
abbrev mX11_which : am_M := (yX11_which, cX11_which, 3, (some .int), 0, 0)
theorem kB_X11_which {G : am_G} (hG : k_ok G) : am_cB G mX11_which 1 := by
  obtain ⟨hc, ht, -⟩ := hG
  unfold am_cB
  rw [ht]
  exact ⟨(k_in 131 (by decide +kernel) (by decide +kernel)), (k_in 1736 (by decide +kernel) (by decide +kernel)), by decide +kernel, by decide⟩
abbrev mX11_isMarked : am_M := (yX11_isMarked, cX11_isMarked, 2, (some .boolean), 0, 0)
theorem kB_X11_isMarked {G : am_G} (hG : k_ok G) : am_cB G mX11_isMarked 1 := by
  obtain ⟨hc, ht, -⟩ := hG
  unfold am_cB
  rw [ht]
  exact ⟨(k_in 131 (by decide +kernel) (by decide +kernel)), (k_in 1756 (by decide +kernel) (by decide +kernel)), by decide +kernel, by decide⟩
abbrev mX11_mark : am_M := (yX11_mark, cX11_mark, 2, none, 0, 0)
theorem kB_X11_mark {G : am_G} (hG : k_ok G) : am_cB G mX11_mark 1 := by
  obtain ⟨hc, ht, -⟩ := hG
  unfold am_cB
  rw [ht]
  exact ⟨(k_in 131 (by decide +kernel) (by decide +kernel)), (k_in 1785 (by decide +kernel) (by decide +kernel)), by decide +kernel, by decide⟩
abbrev mX11_numberNow : am_M := (yX11_numberNow, cX11_numberNow, 3, (some .int), 0, 0)
theorem kB_X11_numberNow {G : am_G} (hG : k_ok G) : am_cB G mX11_numberNow 2 := by
  obtain ⟨hc, ht, -⟩ := hG
  unfold am_cB
  rw [ht]
  exact ⟨(k_in 131 (by decide +kernel) (by decide +kernel)), (k_in 1748 (by decide +kernel) (by decide +kernel)), by decide +kernel, by decide⟩
abbrev mX11_readNumber : am_M := (yX11_readNumber, cX11_readNumber, 4, (some .int), 0, 0)
theorem kB_X11_readNumber {G : am_G} (hG : k_ok G) : am_cB G mX11_readNumber 2 := by
  obtain ⟨hc, ht, -⟩ := hG
  unfold am_cB
  rw [ht]
  exact ⟨(k_in 131 (by decide +kernel) (by decide +kernel)), (k_in 1744 (by decide +kernel) (by decide +kernel)), by decide +kernel, by decide⟩
abbrev mX11_personNow : am_M := (yX11_personNow, cX11_personNow, 2, (some .int), 0, 0)
theorem kB_X11_personNow {G : am_G} (hG : k_ok G) : am_cB G mX11_personNow 0 := by
  obtain ⟨hc, ht, -⟩ := hG
  unfold am_cB
  rw [ht]
  exact ⟨(k_in 131 (by decide +kernel) (by decide +kernel)), (k_in 1800 (by decide +kernel) (by decide +kernel)), by decide +kernel, by decide⟩
abbrev mX11_lay : am_M := (yX11_lay, cX11_lay, 2, none, 0, 0)
theorem kB_X11_lay {G : am_G} (hG : k_ok G) : am_cB G mX11_lay 1 := by
  obtain ⟨hc, ht, -⟩ := hG
  unfold am_cB
  rw [ht]
  exact ⟨(k_in 131 (by decide +kernel) (by decide +kernel)), (k_in 1781 (by decide +kernel) (by decide +kernel)), by decide +kernel, by decide⟩
abbrev mX11_readPart : am_M := (yX11_readPart, cX11_readPart, 3, none, 0, 0)
theorem kB_X11_readPart {G : am_G} (hG : k_ok G) : am_cB G mX11_readPart 1 := by
  obtain ⟨hc, ht, -⟩ := hG
  unfold am_cB
  rw [ht]
  exact ⟨(k_in 131 (by decide +kernel) (by decide +kernel)), (k_in 1777 (by decide +kernel) (by decide +kernel)), by decide +kernel, by decide⟩
abbrev mX11_readProduct : am_M := (yX11_readProduct, cX11_readProduct, 3, none, 0, 0)
theorem kB_X11_readProduct {G : am_G} (hG : k_ok G) : am_cB G mX11_readProduct 1 := by
  obtain ⟨hc, ht, -⟩ := hG
  unfold am_cB
  rw [ht]
  exact ⟨(k_in 131 (by decide +kernel) (by decide +kernel)), (k_in 1773 (by decide +kernel) (by decide +kernel)), by decide +kernel, by decide⟩
abbrev mX11_readSum : am_M := (yX11_readSum, cX11_readSum, 3, none, 0, 0)
theorem kB_X11_readSum {G : am_G} (hG : k_ok G) : am_cB G mX11_readSum 1 := by
  obtain ⟨hc, ht, -⟩ := hG
  unfold am_cB
  rw [ht]
  exact ⟨(k_in 131 (by decide +kernel) (by decide +kernel)), (k_in 1769 (by decide +kernel) (by decide +kernel)), by decide +kernel, by decide⟩
abbrev mX11_readNot : am_M := (yX11_readNot, cX11_readNot, 4, none, 0, 0)
theorem kB_X11_readNot {G : am_G} (hG : k_ok G) : am_cB G mX11_readNot 1 := by
  obtain ⟨hc, ht, -⟩ := hG
  unfold am_cB
  rw [ht]
  exact ⟨(k_in 131 (by decide +kernel) (by decide +kernel)), (k_in 1764 (by decide +kernel) (by decide +kernel)), by decide +kernel, by decide⟩
abbrev mX11_readAnd : am_M := (yX11_readAnd, cX11_readAnd, 2, none, 0, 0)
theorem kB_X11_readAnd {G : am_G} (hG : k_ok G) : am_cB G mX11_readAnd 1 := by
  obtain ⟨hc, ht, -⟩ := hG
  unfold am_cB
  rw [ht]
  exact ⟨(k_in 131 (by decide +kernel) (by decide +kernel)), (k_in 1760 (by decide +kernel) (by decide +kernel)), by decide +kernel, by decide⟩
abbrev mX11_readExpression : am_M := (yX11_readExpression, cX11_readExpression, 3, none, 0, 0)
theorem kB_X11_readExpression {G : am_G} (hG : k_ok G) : am_cB G mX11_readExpression 1 := by
  obtain ⟨hc, ht, -⟩ := hG
  unfold am_cB
  rw [ht]
  exact ⟨(k_in 131 (by decide +kernel) (by decide +kernel)), (k_in 1752 (by decide +kernel) (by decide +kernel)), by decide +kernel, by decide⟩
abbrev mX11_readPerson : am_M := (yX11_readPerson, cX11_readPerson, 3, none, 0, 0)
theorem kB_X11_readPerson {G : am_G} (hG : k_ok G) : am_cB G mX11_readPerson 1 := by
  obtain ⟨hc, ht, -⟩ := hG
  unfold am_cB
  rw [ht]
  exact ⟨(k_in 131 (by decide +kernel) (by decide +kernel)), (k_in 1791 (by decide +kernel) (by decide +kernel)), by decide +kernel, by decide⟩
abbrev mX11_readLoaf : am_M := (yX11_readLoaf, cX11_readLoaf, 5, none, 0, 0)
theorem kB_X11_readLoaf {G : am_G} (hG : k_ok G) : am_cB G mX11_readLoaf 0 := by
  obtain ⟨hc, ht, -⟩ := hG
  unfold am_cB
  rw [ht]
  exact ⟨(k_in 131 (by decide +kernel) (by decide +kernel)), (k_in 1796 (by decide +kernel) (by decide +kernel)), by decide +kernel, by decide⟩
abbrev mX11_readMet : am_M := (yX11_readMet, cX11_readMet, 5, none, 0, 0)
theorem kB_X11_readMet {G : am_G} (hG : k_ok G) : am_cB G mX11_readMet 0 := by
  obtain ⟨hc, ht, -⟩ := hG
  unfold am_cB
  rw [ht]
  exact ⟨(k_in 131 (by decide +kernel) (by decide +kernel)), (k_in 1808 (by decide +kernel) (by decide +kernel)), by decide +kernel, by decide⟩
abbrev mX11_readLine : am_M := (yX11_readLine, cX11_readLine, 4, (some .int), 0, 0)
theorem kB_X11_readLine {G : am_G} (hG : k_ok G) : am_cB G mX11_readLine 1 := by
  obtain ⟨hc, ht, -⟩ := hG
  unfold am_cB
  rw [ht]
  exact ⟨(k_in 131 (by decide +kernel) (by decide +kernel)), (k_in 1723 (by decide +kernel) (by decide +kernel)), by decide +kernel, by decide⟩
abbrev mX11_town : am_M := (yX11_town, cX11_town, 3, (some .int), 0, 0)
theorem kB_X11_town {G : am_G} (hG : k_ok G) : am_cB G mX11_town 1 := by
  obtain ⟨hc, ht, -⟩ := hG
  unfold am_cB
  rw [ht]
  exact ⟨(k_in 131 (by decide +kernel) (by decide +kernel)), (k_in 1695 (by decide +kernel) (by decide +kernel)), by decide +kernel, by decide⟩
abbrev mX11_takeHalf : am_M := (yX11_takeHalf, cX11_takeHalf, 2, none, 0, 0)
theorem kB_X11_takeHalf {G : am_G} (hG : k_ok G) : am_cB G mX11_takeHalf 1 := by
  obtain ⟨hc, ht, -⟩ := hG
  unfold am_cB
  rw [ht]
  exact ⟨(k_in 131 (by decide +kernel) (by decide +kernel)), (k_in 1819 (by decide +kernel) (by decide +kernel)), by decide +kernel, by decide⟩
abbrev mX11_takeOver : am_M := (yX11_takeOver, cX11_takeOver, 2, none, 0, 0)
theorem kB_X11_takeOver {G : am_G} (hG : k_ok G) : am_cB G mX11_takeOver 0 := by
  obtain ⟨hc, ht, -⟩ := hG
  unfold am_cB
  rw [ht]
  exact ⟨(k_in 131 (by decide +kernel) (by decide +kernel)), (k_in 1816 (by decide +kernel) (by decide +kernel)), by decide +kernel, by decide⟩
abbrev mX11_fault : am_M := (yX11_fault, cX11_fault, 1, (some .int), 0, 0)
theorem kB_X11_fault {G : am_G} (hG : k_ok G) : am_cB G mX11_fault 0 := by
  obtain ⟨hc, ht, -⟩ := hG
  unfold am_cB
  rw [ht]
  exact ⟨(k_in 131 (by decide +kernel) (by decide +kernel)), (k_in 1823 (by decide +kernel) (by decide +kernel)), by decide +kernel, by decide⟩
abbrev mX11_pack : am_M := (yX11_pack, cX11_pack, 5, none, 0, 0)
theorem kB_X11_pack {G : am_G} (hG : k_ok G) : am_cB G mX11_pack 2 := by
  obtain ⟨hc, ht, -⟩ := hG
  unfold am_cB
  rw [ht]
  exact ⟨(k_in 131 (by decide +kernel) (by decide +kernel)), (k_in 1934 (by decide +kernel) (by decide +kernel)), by decide +kernel, by decide⟩
abbrev mX11_unpack : am_M := (yX11_unpack, cX11_unpack, 5, none, 0, 0)
theorem kB_X11_unpack {G : am_G} (hG : k_ok G) : am_cB G mX11_unpack 2 := by
  obtain ⟨hc, ht, -⟩ := hG
  unfold am_cB
  rw [ht]
  exact ⟨(k_in 131 (by decide +kernel) (by decide +kernel)), (k_in 1970 (by decide +kernel) (by decide +kernel)), by decide +kernel, by decide⟩
abbrev mX11_twinOf : am_M := (yX11_twinOf, cX11_twinOf, 2, (some .int), 0, 0)
theorem kB_X11_twinOf {G : am_G} (hG : k_ok G) : am_cB G mX11_twinOf 1 := by
  obtain ⟨hc, ht, -⟩ := hG
  unfold am_cB
  rw [ht]
  exact ⟨(k_in 131 (by decide +kernel) (by decide +kernel)), (k_in 1839 (by decide +kernel) (by decide +kernel)), by decide +kernel, by decide⟩
abbrev mX11_lastDay : am_M := (yX11_lastDay, cX11_lastDay, 6, (some .int), 0, 0)
theorem kB_X11_lastDay {G : am_G} (hG : k_ok G) : am_cB G mX11_lastDay 2 := by
  obtain ⟨hc, ht, -⟩ := hG
  unfold am_cB
  rw [ht]
  exact ⟨(k_in 131 (by decide +kernel) (by decide +kernel)), (k_in 1843 (by decide +kernel) (by decide +kernel)), by decide +kernel, by decide⟩
abbrev mX11_isKnown : am_M := (yX11_isKnown, cX11_isKnown, 3, (some .boolean), 0, 0)
theorem kB_X11_isKnown {G : am_G} (hG : k_ok G) : am_cB G mX11_isKnown 2 := by
  obtain ⟨hc, ht, -⟩ := hG
  unfold am_cB
  rw [ht]
  exact ⟨(k_in 131 (by decide +kernel) (by decide +kernel)), (k_in 1835 (by decide +kernel) (by decide +kernel)), by decide +kernel, by decide⟩
abbrev mX11_meet : am_M := (yX11_meet, cX11_meet, 4, none, 0, 0)
theorem kB_X11_meet {G : am_G} (hG : k_ok G) : am_cB G mX11_meet 3 := by
  obtain ⟨hc, ht, -⟩ := hG
  unfold am_cB
  rw [ht]
  exact ⟨(k_in 131 (by decide +kernel) (by decide +kernel)), (k_in 1946 (by decide +kernel) (by decide +kernel)), by decide +kernel, by decide⟩
abbrev mX11_knownBoth : am_M := (yX11_knownBoth, cX11_knownBoth, 4, (some .int), 0, 0)
theorem kB_X11_knownBoth {G : am_G} (hG : k_ok G) : am_cB G mX11_knownBoth 0 := by
  obtain ⟨hc, ht, -⟩ := hG
  unfold am_cB
  rw [ht]
  exact ⟨(k_in 131 (by decide +kernel) (by decide +kernel)), (k_in 1831 (by decide +kernel) (by decide +kernel)), by decide +kernel, by decide⟩
abbrev mX11_eatersOf : am_M := (yX11_eatersOf, cX11_eatersOf, 4, (some .int), 0, 0)
theorem kB_X11_eatersOf {G : am_G} (hG : k_ok G) : am_cB G mX11_eatersOf 1 := by
  obtain ⟨hc, ht, -⟩ := hG
  unfold am_cB
  rw [ht]
  exact ⟨(k_in 131 (by decide +kernel) (by decide +kernel)), (k_in 1866 (by decide +kernel) (by decide +kernel)), by decide +kernel, by decide⟩
abbrev mX11_eats : am_M := (yX11_eats, cX11_eats, 4, (some .boolean), 0, 0)
theorem kB_X11_eats {G : am_G} (hG : k_ok G) : am_cB G mX11_eats 2 := by
  obtain ⟨hc, ht, -⟩ := hG
  unfold am_cB
  rw [ht]
  exact ⟨(k_in 131 (by decide +kernel) (by decide +kernel)), (k_in 1882 (by decide +kernel) (by decide +kernel)), by decide +kernel, by decide⟩
abbrev mX11_knowsEater : am_M := (yX11_knowsEater, cX11_knowsEater, 5, (some .boolean), 0, 0)
theorem kB_X11_knowsEater {G : am_G} (hG : k_ok G) : am_cB G mX11_knowsEater 2 := by
  obtain ⟨hc, ht, -⟩ := hG
  unfold am_cB
  rw [ht]
  exact ⟨(k_in 131 (by decide +kernel) (by decide +kernel)), (k_in 1886 (by decide +kernel) (by decide +kernel)), by decide +kernel, by decide⟩
abbrev mX11_mayNow : am_M := (yX11_mayNow, cX11_mayNow, 4, (some .int), 0, 0)
theorem kB_X11_mayNow {G : am_G} (hG : k_ok G) : am_cB G mX11_mayNow 2 := by
  obtain ⟨hc, ht, -⟩ := hG
  unfold am_cB
  rw [ht]
  exact ⟨(k_in 131 (by decide +kernel) (by decide +kernel)), (k_in 1878 (by decide +kernel) (by decide +kernel)), by decide +kernel, by decide⟩
abbrev mX11_canCut : am_M := (yX11_canCut, cX11_canCut, 4, (some .boolean), 0, 0)
theorem kB_X11_canCut {G : am_G} (hG : k_ok G) : am_cB G mX11_canCut 2 := by
  obtain ⟨hc, ht, -⟩ := hG
  unfold am_cB
  rw [ht]
  exact ⟨(k_in 131 (by decide +kernel) (by decide +kernel)), (k_in 1982 (by decide +kernel) (by decide +kernel)), by decide +kernel, by decide⟩
abbrev mX11_cutters : am_M := (yX11_cutters, cX11_cutters, 4, (some .int), 0, 0)
theorem kB_X11_cutters {G : am_G} (hG : k_ok G) : am_cB G mX11_cutters 1 := by
  obtain ⟨hc, ht, -⟩ := hG
  unfold am_cB
  rw [ht]
  exact ⟨(k_in 131 (by decide +kernel) (by decide +kernel)), (k_in 2023 (by decide +kernel) (by decide +kernel)), by decide +kernel, by decide⟩
abbrev mX11_reckon : am_M := (yX11_reckon, cX11_reckon, 3, (some .int), 0, 0)
theorem kB_X11_reckon {G : am_G} (hG : k_ok G) : am_cB G mX11_reckon 3 := by
  obtain ⟨hc, ht, -⟩ := hG
  unfold am_cB
  rw [ht]
  exact ⟨(k_in 131 (by decide +kernel) (by decide +kernel)), (k_in 1922 (by decide +kernel) (by decide +kernel)), by decide +kernel, by decide⟩
abbrev mX11_valueNow : am_M := (yX11_valueNow, cX11_valueNow, 4, (some .int), 0, 0)
theorem kB_X11_valueNow {G : am_G} (hG : k_ok G) : am_cB G mX11_valueNow 0 := by
  obtain ⟨hc, ht, -⟩ := hG
  unfold am_cB
  rw [ht]
  exact ⟨(k_in 131 (by decide +kernel) (by decide +kernel)), (k_in 1919 (by decide +kernel) (by decide +kernel)), by decide +kernel, by decide⟩
abbrev mX11_shareOf : am_M := (yX11_shareOf, cX11_shareOf, 4, (some .int), 0, 0)
theorem kB_X11_shareOf {G : am_G} (hG : k_ok G) : am_cB G mX11_shareOf 3 := by
  obtain ⟨hc, ht, -⟩ := hG
  unfold am_cB
  rw [ht]
  exact ⟨(k_in 131 (by decide +kernel) (by decide +kernel)), (k_in 1915 (by decide +kernel) (by decide +kernel)), by decide +kernel, by decide⟩
abbrev mX11_tellUnits : am_M := (yX11_tellUnits, cX11_tellUnits, 4, none, 0, 0)
theorem kB_X11_tellUnits {G : am_G} (hG : k_ok G) : am_cB G mX11_tellUnits 1 := by
  obtain ⟨hc, ht, -⟩ := hG
  unfold am_cB
  rw [ht]
  exact ⟨(k_in 131 (by decide +kernel) (by decide +kernel)), (k_in 1870 (by decide +kernel) (by decide +kernel)), by decide +kernel, by decide⟩
abbrev mX11_tellSlices : am_M := (yX11_tellSlices, cX11_tellSlices, 8, none, 0, 0)
theorem kB_X11_tellSlices {G : am_G} (hG : k_ok G) : am_cB G mX11_tellSlices 2 := by
  obtain ⟨hc, ht, -⟩ := hG
  unfold am_cB
  rw [ht]
  exact ⟨(k_in 131 (by decide +kernel) (by decide +kernel)), (k_in 1911 (by decide +kernel) (by decide +kernel)), by decide +kernel, by decide⟩
abbrev mX11_bitsOf : am_M := (yX11_bitsOf, cX11_bitsOf, 3, (some .int), 0, 0)
theorem kB_X11_bitsOf {G : am_G} (hG : k_ok G) : am_cB G mX11_bitsOf 1 := by
  obtain ⟨hc, ht, -⟩ := hG
  unfold am_cB
  rw [ht]
  exact ⟨(k_in 131 (by decide +kernel) (by decide +kernel)), (k_in 1953 (by decide +kernel) (by decide +kernel)), by decide +kernel, by decide⟩
abbrev mX11_count : am_M := (yX11_count, cX11_count, 4, (some .int), 0, 0)
theorem kB_X11_count {G : am_G} (hG : k_ok G) : am_cB G mX11_count 1 := by
  obtain ⟨hc, ht, -⟩ := hG
  unfold am_cB
  rw [ht]
  exact ⟨(k_in 131 (by decide +kernel) (by decide +kernel)), (k_in 1827 (by decide +kernel) (by decide +kernel)), by decide +kernel, by decide⟩
abbrev mX11_person : am_M := (yX11_person, cX11_person, 5, (some .int), 0, 0)
theorem kB_X11_person {G : am_G} (hG : k_ok G) : am_cB G mX11_person 2 := by
  obtain ⟨hc, ht, -⟩ := hG
  unfold am_cB
  rw [ht]
  exact ⟨(k_in 131 (by decide +kernel) (by decide +kernel)), (k_in 1847 (by decide +kernel) (by decide +kernel)), by decide +kernel, by decide⟩
abbrev mX11_loaf : am_M := (yX11_loaf, cX11_loaf, 3, (some .int), 0, 0)
theorem kB_X11_loaf {G : am_G} (hG : k_ok G) : am_cB G mX11_loaf 2 := by
  obtain ⟨hc, ht, -⟩ := hG
  unfold am_cB
  rw [ht]
  exact ⟨(k_in 131 (by decide +kernel) (by decide +kernel)), (k_in 1858 (by decide +kernel) (by decide +kernel)), by decide +kernel, by decide⟩
abbrev mX11_answering : am_M := (yX11_answering, cX11_answering, 5, (some .int), 0, 0)
theorem kB_X11_answering {G : am_G} (hG : k_ok G) : am_cB G mX11_answering 2 := by
  obtain ⟨hc, ht, -⟩ := hG
  unfold am_cB
  rw [ht]
  exact ⟨(k_in 131 (by decide +kernel) (by decide +kernel)), (k_in 1874 (by decide +kernel) (by decide +kernel)), by decide +kernel, by decide⟩
abbrev mX11_met : am_M := (yX11_met, cX11_met, 3, (some .int), 0, 0)
theorem kB_X11_met {G : am_G} (hG : k_ok G) : am_cB G mX11_met 2 := by
  obtain ⟨hc, ht, -⟩ := hG
  unfold am_cB
  rw [ht]
  exact ⟨(k_in 131 (by decide +kernel) (by decide +kernel)), (k_in 1890 (by decide +kernel) (by decide +kernel)), by decide +kernel, by decide⟩
abbrev mX11_knows : am_M := (yX11_knows, cX11_knows, 3, (some .boolean), 0, 0)
theorem kB_X11_knows {G : am_G} (hG : k_ok G) : am_cB G mX11_knows 2 := by
  obtain ⟨hc, ht, -⟩ := hG
  unfold am_cB
  rw [ht]
  exact ⟨(k_in 131 (by decide +kernel) (by decide +kernel)), (k_in 1894 (by decide +kernel) (by decide +kernel)), by decide +kernel, by decide⟩
abbrev mX11_may : am_M := (yX11_may, cX11_may, 3, (some .int), 0, 0)
theorem kB_X11_may {G : am_G} (hG : k_ok G) : am_cB G mX11_may 2 := by
  obtain ⟨hc, ht, -⟩ := hG
  unfold am_cB
  rw [ht]
  exact ⟨(k_in 131 (by decide +kernel) (by decide +kernel)), (k_in 1902 (by decide +kernel) (by decide +kernel)), by decide +kernel, by decide⟩
abbrev mX11_slice : am_M := (yX11_slice, cX11_slice, 4, (some .int), 0, 0)
theorem kB_X11_slice {G : am_G} (hG : k_ok G) : am_cB G mX11_slice 3 := by
  obtain ⟨hc, ht, -⟩ := hG
  unfold am_cB
  rw [ht]
  exact ⟨(k_in 131 (by decide +kernel) (by decide +kernel)), (k_in 1906 (by decide +kernel) (by decide +kernel)), by decide +kernel, by decide⟩
abbrev mX11_refuse : am_M := (yX11_refuse, cX11_refuse, 2, (some .int), 0, 0)
theorem kB_X11_refuse {G : am_G} (hG : k_ok G) : am_cB G mX11_refuse 1 := by
  obtain ⟨hc, ht, -⟩ := hG
  unfold am_cB
  rw [ht]
  exact ⟨(k_in 131 (by decide +kernel) (by decide +kernel)), (k_in 1942 (by decide +kernel) (by decide +kernel)), by decide +kernel, by decide⟩
abbrev mX11_keep : am_M := (yX11_keep, cX11_keep, 2, none, 0, 0)
theorem kB_X11_keep {G : am_G} (hG : k_ok G) : am_cB G mX11_keep 0 := by
  obtain ⟨hc, ht, -⟩ := hG
  unfold am_cB
  rw [ht]
  exact ⟨(k_in 131 (by decide +kernel) (by decide +kernel)), (k_in 1930 (by decide +kernel) (by decide +kernel)), by decide +kernel, by decide⟩
abbrev mX11_cut : am_M := (yX11_cut, cX11_cut, 3, (some .boolean), 0, 0)
theorem kB_X11_cut {G : am_G} (hG : k_ok G) : am_cB G mX11_cut 2 := by
  obtain ⟨hc, ht, -⟩ := hG
  unfold am_cB
  rw [ht]
  exact ⟨(k_in 131 (by decide +kernel) (by decide +kernel)), (k_in 1926 (by decide +kernel) (by decide +kernel)), by decide +kernel, by decide⟩
abbrev mX11_thank : am_M := (yX11_thank, cX11_thank, 3, (some .int), 0, 0)
theorem kB_X11_thank {G : am_G} (hG : k_ok G) : am_cB G mX11_thank 2 := by
  obtain ⟨hc, ht, -⟩ := hG
  unfold am_cB
  rw [ht]
  exact ⟨(k_in 131 (by decide +kernel) (by decide +kernel)), (k_in 1938 (by decide +kernel) (by decide +kernel)), by decide +kernel, by decide⟩
abbrev mX11_fairOf : am_M := (yX11_fairOf, cX11_fairOf, 4, none, 0, 0)
theorem kB_X11_fairOf {G : am_G} (hG : k_ok G) : am_cB G mX11_fairOf 1 := by
  obtain ⟨hc, ht, -⟩ := hG
  unfold am_cB
  rw [ht]
  exact ⟨(k_in 131 (by decide +kernel) (by decide +kernel)), (k_in 1957 (by decide +kernel) (by decide +kernel)), by decide +kernel, by decide⟩
abbrev mX11_fair : am_M := (yX11_fair, cX11_fair, 2, (some .int), 0, 0)
theorem kB_X11_fair {G : am_G} (hG : k_ok G) : am_cB G mX11_fair 1 := by
  obtain ⟨hc, ht, -⟩ := hG
  unfold am_cB
  rw [ht]
  exact ⟨(k_in 131 (by decide +kernel) (by decide +kernel)), (k_in 1950 (by decide +kernel) (by decide +kernel)), by decide +kernel, by decide⟩
abbrev mX11_hours : am_M := (yX11_hours, cX11_hours, 2, (some .int), 0, 0)
theorem kB_X11_hours {G : am_G} (hG : k_ok G) : am_cB G mX11_hours 1 := by
  obtain ⟨hc, ht, -⟩ := hG
  unfold am_cB
  rw [ht]
  exact ⟨(k_in 131 (by decide +kernel) (by decide +kernel)), (k_in 1961 (by decide +kernel) (by decide +kernel)), by decide +kernel, by decide⟩
abbrev mX11_undo : am_M := (yX11_undo, cX11_undo, 1, (some .int), 0, 0)
theorem kB_X11_undo {G : am_G} (hG : k_ok G) : am_cB G mX11_undo 0 := by
  obtain ⟨hc, ht, -⟩ := hG
  unfold am_cB
  rw [ht]
  exact ⟨(k_in 131 (by decide +kernel) (by decide +kernel)), (k_in 1966 (by decide +kernel) (by decide +kernel)), by decide +kernel, by decide⟩
abbrev mX11_from : am_M := (yX11_from, cX11_from, 3, (some .int), 0, 0)
theorem kB_X11_from {G : am_G} (hG : k_ok G) : am_cB G mX11_from 2 := by
  obtain ⟨hc, ht, -⟩ := hG
  unfold am_cB
  rw [ht]
  exact ⟨(k_in 131 (by decide +kernel) (by decide +kernel)), (k_in 1994 (by decide +kernel) (by decide +kernel)), by decide +kernel, by decide⟩
abbrev mX11_until : am_M := (yX11_until, cX11_until, 2, (some .int), 0, 0)
theorem kB_X11_until {G : am_G} (hG : k_ok G) : am_cB G mX11_until 1 := by
  obtain ⟨hc, ht, -⟩ := hG
  unfold am_cB
  rw [ht]
  exact ⟨(k_in 131 (by decide +kernel) (by decide +kernel)), (k_in 1990 (by decide +kernel) (by decide +kernel)), by decide +kernel, by decide⟩
abbrev mX11_isInTime : am_M := (yX11_isInTime, cX11_isInTime, 7, (some .boolean), 0, 0)
theorem kB_X11_isInTime {G : am_G} (hG : k_ok G) : am_cB G mX11_isInTime 2 := by
  obtain ⟨hc, ht, -⟩ := hG
  unfold am_cB
  rw [ht]
  exact ⟨(k_in 131 (by decide +kernel) (by decide +kernel)), (k_in 1986 (by decide +kernel) (by decide +kernel)), by decide +kernel, by decide⟩
abbrev mX11_rowOn : am_M := (yX11_rowOn, cX11_rowOn, 4, none, 0, 0)
theorem kB_X11_rowOn {G : am_G} (hG : k_ok G) : am_cB G mX11_rowOn 2 := by
  obtain ⟨hc, ht, -⟩ := hG
  unfold am_cB
  rw [ht]
  exact ⟨(k_in 131 (by decide +kernel) (by decide +kernel)), (k_in 1978 (by decide +kernel) (by decide +kernel)), by decide +kernel, by decide⟩
abbrev mX11_noon : am_M := (yX11_noon, cX11_noon, 3, (some .int), 0, 0)
theorem kB_X11_noon {G : am_G} (hG : k_ok G) : am_cB G mX11_noon 0 := by
  obtain ⟨hc, ht, -⟩ := hG
  unfold am_cB
  rw [ht]
  exact ⟨(k_in 131 (by decide +kernel) (by decide +kernel)), (k_in 1974 (by decide +kernel) (by decide +kernel)), by decide +kernel, by decide⟩
abbrev mX11_carried : am_M := (yX11_carried, cX11_carried, 2, (some .int), 0, 0)
theorem kB_X11_carried {G : am_G} (hG : k_ok G) : am_cB G mX11_carried 1 := by
  obtain ⟨hc, ht, -⟩ := hG
  unfold am_cB
  rw [ht]
  exact ⟨(k_in 131 (by decide +kernel) (by decide +kernel)), (k_in 1999 (by decide +kernel) (by decide +kernel)), by decide +kernel, by decide⟩
abbrev mX11_familiar : am_M := (yX11_familiar, cX11_familiar, 5, (some .int), 0, 0)
theorem kB_X11_familiar {G : am_G} (hG : k_ok G) : am_cB G mX11_familiar 0 := by
  obtain ⟨hc, ht, -⟩ := hG
  unfold am_cB
  rw [ht]
  exact ⟨(k_in 131 (by decide +kernel) (by decide +kernel)), (k_in 2003 (by decide +kernel) (by decide +kernel)), by decide +kernel, by decide⟩
abbrev mX11_areStrangers : am_M := (yX11_areStrangers, cX11_areStrangers, 4, (some .boolean), 0, 0)
theorem kB_X11_areStrangers {G : am_G} (hG : k_ok G) : am_cB G mX11_areStrangers 1 := by
  obtain ⟨hc, ht, -⟩ := hG
  unfold am_cB
  rw [ht]
  exact ⟨(k_in 131 (by decide +kernel) (by decide +kernel)), (k_in 2011 (by decide +kernel) (by decide +kernel)), by decide +kernel, by decide⟩
abbrev mX11_ring : am_M := (yX11_ring, cX11_ring, 3, (some .int), 0, 0)
theorem kB_X11_ring {G : am_G} (hG : k_ok G) : am_cB G mX11_ring 0 := by
  obtain ⟨hc, ht, -⟩ := hG
  unfold am_cB
  rw [ht]
  exact ⟨(k_in 131 (by decide +kernel) (by decide +kernel)), (k_in 2007 (by decide +kernel) (by decide +kernel)), by decide +kernel, by decide⟩
abbrev mX11_cuttable : am_M := (yX11_cuttable, cX11_cuttable, 4, (some .int), 0, 0)
theorem kB_X11_cuttable {G : am_G} (hG : k_ok G) : am_cB G mX11_cuttable 1 := by
  obtain ⟨hc, ht, -⟩ := hG
  unfold am_cB
  rw [ht]
  exact ⟨(k_in 131 (by decide +kernel) (by decide +kernel)), (k_in 2019 (by decide +kernel) (by decide +kernel)), by decide +kernel, by decide⟩
abbrev mX11_safe : am_M := (yX11_safe, cX11_safe, 4, (some .int), 0, 0)
theorem kB_X11_safe {G : am_G} (hG : k_ok G) : am_cB G mX11_safe 0 := by
  obtain ⟨hc, ht, -⟩ := hG
  unfold am_cB
  rw [ht]
  exact ⟨(k_in 131 (by decide +kernel) (by decide +kernel)), (k_in 2015 (by decide +kernel) (by decide +kernel)), by decide +kernel, by decide⟩
abbrev mX11_isHelped : am_M := (yX11_isHelped, cX11_isHelped, 3, (some .boolean), 0, 0)
theorem kB_X11_isHelped {G : am_G} (hG : k_ok G) : am_cB G mX11_isHelped 1 := by
  obtain ⟨hc, ht, -⟩ := hG
  unfold am_cB
  rw [ht]
  exact ⟨(k_in 131 (by decide +kernel) (by decide +kernel)), (k_in 2031 (by decide +kernel) (by decide +kernel)), by decide +kernel, by decide⟩
abbrev mX11_help : am_M := (yX11_help, cX11_help, 3, (some .int), 0, 0)
theorem kB_X11_help {G : am_G} (hG : k_ok G) : am_cB G mX11_help 0 := by
  obtain ⟨hc, ht, -⟩ := hG
  unfold am_cB
  rw [ht]
  exact ⟨(k_in 131 (by decide +kernel) (by decide +kernel)), (k_in 2027 (by decide +kernel) (by decide +kernel)), by decide +kernel, by decide⟩
abbrev mX11_peopleIn : am_M := (yX11_peopleIn, cX11_peopleIn, 4, (some .int), 0, 0)
theorem kB_X11_peopleIn {G : am_G} (hG : k_ok G) : am_cB G mX11_peopleIn 1 := by
  obtain ⟨hc, ht, -⟩ := hG
  unfold am_cB
  rw [ht]
  exact ⟨(k_in 131 (by decide +kernel) (by decide +kernel)), (k_in 2039 (by decide +kernel) (by decide +kernel)), by decide +kernel, by decide⟩
abbrev mX11_doors : am_M := (yX11_doors, cX11_doors, 5, (some .int), 0, 0)
theorem kB_X11_doors {G : am_G} (hG : k_ok G) : am_cB G mX11_doors 0 := by
  obtain ⟨hc, ht, -⟩ := hG
  unfold am_cB
  rw [ht]
  exact ⟨(k_in 131 (by decide +kernel) (by decide +kernel)), (k_in 2035 (by decide +kernel) (by decide +kernel)), by decide +kernel, by decide⟩
abbrev mX11_see : am_M := (yX11_see, cX11_see, 4, (some .int), 0, 0)
theorem kB_X11_see {G : am_G} (hG : k_ok G) : am_cB G mX11_see 3 := by
  obtain ⟨hc, ht, -⟩ := hG
  unfold am_cB
  rw [ht]
  exact ⟨(k_in 131 (by decide +kernel) (by decide +kernel)), (k_in 2043 (by decide +kernel) (by decide +kernel)), by decide +kernel, by decide⟩
abbrev mX11_who : am_M := (yX11_who, cX11_who, 6, (some .int), 0, 0)
theorem kB_X11_who {G : am_G} (hG : k_ok G) : am_cB G mX11_who 1 := by
  obtain ⟨hc, ht, -⟩ := hG
  unfold am_cB
  rw [ht]
  exact ⟨(k_in 131 (by decide +kernel) (by decide +kernel)), (k_in 2048 (by decide +kernel) (by decide +kernel)), by decide +kernel, by decide⟩
abbrev mX11_balk : am_M := (yX11_balk, cX11_balk, 3, (some .int), 0, 0)
theorem kB_X11_balk {G : am_G} (hG : k_ok G) : am_cB G mX11_balk 2 := by
  obtain ⟨hc, ht, -⟩ := hG
  unfold am_cB
  rw [ht]
  exact ⟨(k_in 131 (by decide +kernel) (by decide +kernel)), (k_in 2052 (by decide +kernel) (by decide +kernel)), by decide +kernel, by decide⟩
abbrev mX11_isBalked : am_M := (yX11_isBalked, cX11_isBalked, 2, (some .boolean), 0, 0)
theorem kB_X11_isBalked {G : am_G} (hG : k_ok G) : am_cB G mX11_isBalked 0 := by
  obtain ⟨hc, ht, -⟩ := hG
  unfold am_cB
  rw [ht]
  exact ⟨(k_in 131 (by decide +kernel) (by decide +kernel)), (k_in 2060 (by decide +kernel) (by decide +kernel)), by decide +kernel, by decide⟩
abbrev mX11_whom : am_M := (yX11_whom, cX11_whom, 8, (some .int), 0, 0)
theorem kB_X11_whom {G : am_G} (hG : k_ok G) : am_cB G mX11_whom 1 := by
  obtain ⟨hc, ht, -⟩ := hG
  unfold am_cB
  rw [ht]
  exact ⟨(k_in 131 (by decide +kernel) (by decide +kernel)), (k_in 2056 (by decide +kernel) (by decide +kernel)), by decide +kernel, by decide⟩
abbrev mX11_why : am_M := (yX11_why, cX11_why, 3, (some .int), 0, 0)
theorem kB_X11_why {G : am_G} (hG : k_ok G) : am_cB G mX11_why 2 := by
  obtain ⟨hc, ht, -⟩ := hG
  unfold am_cB
  rw [ht]
  exact ⟨(k_in 131 (by decide +kernel) (by decide +kernel)), (k_in 2064 (by decide +kernel) (by decide +kernel)), by decide +kernel, by decide⟩
abbrev mX11_goodFor : am_M := (yX11_goodFor, cX11_goodFor, 7, (some .int), 0, 0)
theorem kB_X11_goodFor {G : am_G} (hG : k_ok G) : am_cB G mX11_goodFor 3 := by
  obtain ⟨hc, ht, -⟩ := hG
  unfold am_cB
  rw [ht]
  exact ⟨(k_in 131 (by decide +kernel) (by decide +kernel)), (k_in 2073 (by decide +kernel) (by decide +kernel)), by decide +kernel, by decide⟩
abbrev mX11_fairest : am_M := (yX11_fairest, cX11_fairest, 7, (some .int), 0, 0)
theorem kB_X11_fairest {G : am_G} (hG : k_ok G) : am_cB G mX11_fairest 2 := by
  obtain ⟨hc, ht, -⟩ := hG
  unfold am_cB
  rw [ht]
  exact ⟨(k_in 131 (by decide +kernel) (by decide +kernel)), (k_in 2069 (by decide +kernel) (by decide +kernel)), by decide +kernel, by decide⟩
abbrev mX11_forget : am_M := (yX11_forget, cX11_forget, 1, none, 0, 0)
theorem kB_X11_forget {G : am_G} (hG : k_ok G) : am_cB G mX11_forget 0 := by
  obtain ⟨hc, ht, -⟩ := hG
  unfold am_cB
  rw [ht]
  exact ⟨(k_in 131 (by decide +kernel) (by decide +kernel)), (k_in 2077 (by decide +kernel) (by decide +kernel)), by decide +kernel, by decide⟩
abbrev mX11_gain : am_M := (yX11_gain, cX11_gain, 4, (some .int), 0, 0)
theorem kB_X11_gain {G : am_G} (hG : k_ok G) : am_cB G mX11_gain 3 := by
  obtain ⟨hc, ht, -⟩ := hG
  unfold am_cB
  rw [ht]
  exact ⟨(k_in 131 (by decide +kernel) (by decide +kernel)), (k_in 2085 (by decide +kernel) (by decide +kernel)), by decide +kernel, by decide⟩
abbrev mX11_game : am_M := (yX11_game, cX11_game, 10, (some .int), 0, 0)
theorem kB_X11_game {G : am_G} (hG : k_ok G) : am_cB G mX11_game 3 := by
  obtain ⟨hc, ht, -⟩ := hG
  unfold am_cB
  rw [ht]
  exact ⟨(k_in 131 (by decide +kernel) (by decide +kernel)), (k_in 2081 (by decide +kernel) (by decide +kernel)), by decide +kernel, by decide⟩
abbrev mX11_drawOf : am_M := (yX11_drawOf, cX11_drawOf, 2, (some .int), 0, 0)
theorem kB_X11_drawOf {G : am_G} (hG : k_ok G) : am_cB G mX11_drawOf 1 := by
  obtain ⟨hc, ht, -⟩ := hG
  unfold am_cB
  rw [ht]
  exact ⟨(k_in 131 (by decide +kernel) (by decide +kernel)), (k_in 2095 (by decide +kernel) (by decide +kernel)), by decide +kernel, by decide⟩
abbrev mX11_season : am_M := (yX11_season, cX11_season, 10, (some .int), 0, 0)
theorem kB_X11_season {G : am_G} (hG : k_ok G) : am_cB G mX11_season 3 := by
  obtain ⟨hc, ht, -⟩ := hG
  unfold am_cB
  rw [ht]
  exact ⟨(k_in 131 (by decide +kernel) (by decide +kernel)), (k_in 2089 (by decide +kernel) (by decide +kernel)), by decide +kernel, by decide⟩
abbrev mX11_be : am_M := (yX11_be, cX11_be, 3, none, 0, 0)
theorem kB_X11_be {G : am_G} (hG : k_ok G) : am_cB G mX11_be 2 := by
  obtain ⟨hc, ht, -⟩ := hG
  unfold am_cB
  rw [ht]
  exact ⟨(k_in 131 (by decide +kernel) (by decide +kernel)), (k_in 2103 (by decide +kernel) (by decide +kernel)), by decide +kernel, by decide⟩
abbrev mX11_image : am_M := (yX11_image, cX11_image, 1, none, 0, 0)
theorem kB_X11_image {G : am_G} (hG : k_ok G) : am_cB G mX11_image 0 := by
  obtain ⟨hc, ht, -⟩ := hG
  unfold am_cB
  rw [ht]
  exact ⟨(k_in 131 (by decide +kernel) (by decide +kernel)), (k_in 2100 (by decide +kernel) (by decide +kernel)), by decide +kernel, by decide⟩
abbrev mX11_restore : am_M := (yX11_restore, cX11_restore, 1, (some .boolean), 0, 0)
theorem kB_X11_restore {G : am_G} (hG : k_ok G) : am_cB G mX11_restore 0 := by
  obtain ⟨hc, ht, -⟩ := hG
  unfold am_cB
  rw [ht]
  exact ⟨(k_in 131 (by decide +kernel) (by decide +kernel)), (k_in 2107 (by decide +kernel) (by decide +kernel)), by decide +kernel, by decide⟩
abbrev mJ6_bitCount_0f7a4 : am_M := (yJ6_bitCount_0f7a4, cJ6_bitCount_0f7a4, 1, (some .int), 0, 0)
theorem kB_J6_bitCount_0f7a4 {G : am_G} (hG : k_ok G) : am_cB G mJ6_bitCount_0f7a4 1 := by
  obtain ⟨hc, ht, -⟩ := hG
  unfold am_cB
  rw [ht]
  exact ⟨(k_in 141 (by decide +kernel) (by decide +kernel)), (k_in 649 (by decide +kernel) (by decide +kernel)), by decide +kernel, by decide⟩
abbrev mJ7_fill_53178 : am_M := (yJ7_fill_53178, cJ7_fill_53178, 4, none, 0, 0)
theorem kB_J7_fill_53178 {G : am_G} (hG : k_ok G) : am_cB G mJ7_fill_53178 2 := by
  obtain ⟨hc, ht, -⟩ := hG
  unfold am_cB
  rw [ht]
  exact ⟨(k_in 128 (by decide +kernel) (by decide +kernel)), (k_in 556 (by decide +kernel) (by decide +kernel)), by decide +kernel, by decide⟩
