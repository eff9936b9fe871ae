theorem fX10_10 {G : am_G} (hG : k_ok G) : am_F G RX10 10 10 0 (.object "StrangeKnives$Reader") true := by
  obtain ⟨hc, ht, -⟩ := hG
  unfold am_F
  rw [hc, ht]
  exact ⟨RX10, TX10, 13, tyX10, rfl, by decide, k_inX10, tyX10_ok, nmX10, (k_in 591 (by decide +kernel) (by decide +kernel)), rfl, rfl, fun _ => rfl⟩
theorem fX10_19 {G : am_G} (hG : k_ok G) : am_F G RX10 19 10 1 (.object "StrangeKnives$Town") false := by
  obtain ⟨hc, ht, -⟩ := hG
  unfold am_F
  rw [hc, ht]
  exact ⟨RX10, TX10, 13, tyX10, rfl, by decide, k_inX10, tyX10_ok, nmX10, (k_in 592 (by decide +kernel) (by decide +kernel)), rfl, rfl, fun h => nomatch h⟩
theorem fX10_23 {G : am_G} (hG : k_ok G) : am_F G RX10 23 10 2 (.object "StrangeKnives$Town") false := by
  obtain ⟨hc, ht, -⟩ := hG
  unfold am_F
  rw [hc, ht]
  exact ⟨RX10, TX10, 13, tyX10, rfl, by decide, k_inX10, tyX10_ok, nmX10, (k_in 593 (by decide +kernel) (by decide +kernel)), rfl, rfl, fun h => nomatch h⟩
theorem fX10_26 {G : am_G} (hG : k_ok G) : am_F G RX10 26 10 3 .int false := by
  obtain ⟨hc, ht, -⟩ := hG
  unfold am_F
  rw [hc, ht]
  exact ⟨RX10, TX10, 13, tyX10, rfl, by decide, k_inX10, tyX10_ok, nmX10, (k_in 594 (by decide +kernel) (by decide +kernel)), rfl, rfl, fun h => nomatch h⟩
theorem fX10_33 {G : am_G} (hG : k_ok G) : am_F G RX10 33 10 4 (.object "StrangeKnives$Memory") true := by
  obtain ⟨hc, ht, -⟩ := hG
  unfold am_F
  rw [hc, ht]
  exact ⟨RX10, TX10, 13, tyX10, rfl, by decide, k_inX10, tyX10_ok, nmX10, (k_in 595 (by decide +kernel) (by decide +kernel)), rfl, rfl, fun _ => rfl⟩
theorem fX10_37 {G : am_G} (hG : k_ok G) : am_F G RX10 37 10 5 (.object "StrangeKnives$Memory") true := by
  obtain ⟨hc, ht, -⟩ := hG
  unfold am_F
  rw [hc, ht]
  exact ⟨RX10, TX10, 13, tyX10, rfl, by decide, k_inX10, tyX10_ok, nmX10, (k_in 596 (by decide +kernel) (by decide +kernel)), rfl, rfl, fun _ => rfl⟩
theorem fX10_43 {G : am_G} (hG : k_ok G) : am_F G RX10 43 10 7 (.object "StrangeKnives$Carrier") true := by
  obtain ⟨hc, ht, -⟩ := hG
  unfold am_F
  rw [hc, ht]
  exact ⟨RX10, TX10, 13, tyX10, rfl, by decide, k_inX10, tyX10_ok, nmX10, (k_in 598 (by decide +kernel) (by decide +kernel)), rfl, rfl, fun _ => rfl⟩
theorem fX10_47 {G : am_G} (hG : k_ok G) : am_F G RX10 47 10 8 (.array .int) true := by
  obtain ⟨hc, ht, -⟩ := hG
  unfold am_F
  rw [hc, ht]
  exact ⟨RX10, TX10, 13, tyX10, rfl, by decide, k_inX10, tyX10_ok, nmX10, (k_in 599 (by decide +kernel) (by decide +kernel)), rfl, rfl, fun _ => rfl⟩
theorem fX10_54 {G : am_G} (hG : k_ok G) : am_F G RX10 54 10 10 (.object "StrangeKnives$Circle") true := by
  obtain ⟨hc, ht, -⟩ := hG
  unfold am_F
  rw [hc, ht]
  exact ⟨RX10, TX10, 13, tyX10, rfl, by decide, k_inX10, tyX10_ok, nmX10, (k_in 601 (by decide +kernel) (by decide +kernel)), rfl, rfl, fun _ => rfl⟩
theorem fX10_61 {G : am_G} (hG : k_ok G) : am_F G RX10 61 10 11 (.object "StrangeKnives$Portions") true := by
  obtain ⟨hc, ht, -⟩ := hG
  unfold am_F
  rw [hc, ht]
  exact ⟨RX10, TX10, 13, tyX10, rfl, by decide, k_inX10, tyX10_ok, nmX10, (k_in 602 (by decide +kernel) (by decide +kernel)), rfl, rfl, fun _ => rfl⟩
theorem fX10_68 {G : am_G} (hG : k_ok G) : am_F G RX10 68 10 12 (.object "StrangeKnives$Days") true := by
  obtain ⟨hc, ht, -⟩ := hG
  unfold am_F
  rw [hc, ht]
  exact ⟨RX10, TX10, 13, tyX10, rfl, by decide, k_inX10, tyX10_ok, nmX10, (k_in 603 (by decide +kernel) (by decide +kernel)), rfl, rfl, fun _ => rfl⟩
theorem fX10_79 {G : am_G} (hG : k_ok G) : am_F G RX10 79 6 1 .int false := by
  obtain ⟨hc, ht, -⟩ := hG
  unfold am_F
  rw [hc, ht]
  exact ⟨RX6, TX6, 11, tyX6, rfl, by decide, k_inX6, tyX6_ok, nmX6, (k_in 158 (by decide +kernel) (by decide +kernel)), rfl, rfl, fun h => nomatch h⟩
theorem fX10_97 {G : am_G} (hG : k_ok G) : am_F G RX10 97 6 4 .int false := by
  obtain ⟨hc, ht, -⟩ := hG
  unfold am_F
  rw [hc, ht]
  exact ⟨RX6, TX6, 11, tyX6, rfl, by decide, k_inX6, tyX6_ok, nmX6, (k_in 162 (by decide +kernel) (by decide +kernel)), rfl, rfl, fun h => nomatch h⟩
theorem fX10_100 {G : am_G} (hG : k_ok G) : am_Fr G RX10 100 4 1 (.array .int) := by
  obtain ⟨hc, ht, -⟩ := hG
  unfold am_Fr
  rw [hc, ht]
  exact ⟨RX4, TX4, 9, tyX4, rfl, by decide, k_inX4, tyX4_ok, nmX4, (k_in 418 (by decide +kernel) (by decide +kernel)), rfl⟩
theorem fX10_103 {G : am_G} (hG : k_ok G) : am_F G RX10 103 10 9 .boolean false := by
  obtain ⟨hc, ht, -⟩ := hG
  unfold am_F
  rw [hc, ht]
  exact ⟨RX10, TX10, 13, tyX10, rfl, by decide, k_inX10, tyX10_ok, nmX10, (k_in 600 (by decide +kernel) (by decide +kernel)), rfl, rfl, fun h => nomatch h⟩
theorem fX10_107 {G : am_G} (hG : k_ok G) : am_F G RX10 107 10 6 .boolean false := by
  obtain ⟨hc, ht, -⟩ := hG
  unfold am_F
  rw [hc, ht]
  exact ⟨RX10, TX10, 13, tyX10, rfl, by decide, k_inX10, tyX10_ok, nmX10, (k_in 597 (by decide +kernel) (by decide +kernel)), rfl, rfl, fun h => nomatch h⟩
theorem fX10_110 {G : am_G} (hG : k_ok G) : am_Fr G RX10 110 4 0 (.object "StrangeKnives$Story") := by
  obtain ⟨hc, ht, -⟩ := hG
  unfold am_Fr
  rw [hc, ht]
  exact ⟨RX4, TX4, 9, tyX4, rfl, by decide, k_inX4, tyX4_ok, nmX4, (k_in 416 (by decide +kernel) (by decide +kernel)), rfl⟩
theorem fX10_114 {G : am_G} (hG : k_ok G) : am_Fr G RX10 114 8 1 (.object "StrangeKnives$Days") := by
  obtain ⟨hc, ht, -⟩ := hG
  unfold am_Fr
  rw [hc, ht]
  exact ⟨RX8, TX8, 6, tyX8, rfl, by decide, k_inX8, tyX8_ok, nmX8, (k_in 396 (by decide +kernel) (by decide +kernel)), rfl⟩
theorem fX10_119 {G : am_G} (hG : k_ok G) : am_F G RX10 119 9 0 .int false := by
  obtain ⟨hc, ht, -⟩ := hG
  unfold am_F
  rw [hc, ht]
  exact ⟨RX9, TX9, 13, tyX9, rfl, by decide, k_inX9, tyX9_ok, nmX9, (k_in 278 (by decide +kernel) (by decide +kernel)), rfl, rfl, fun h => nomatch h⟩
theorem fX10_122 {G : am_G} (hG : k_ok G) : am_Fr G RX10 122 9 11 (.object "StrangeKnives$Loaves") := by
  obtain ⟨hc, ht, -⟩ := hG
  unfold am_Fr
  rw [hc, ht]
  exact ⟨RX9, TX9, 13, tyX9, rfl, by decide, k_inX9, tyX9_ok, nmX9, (k_in 315 (by decide +kernel) (by decide +kernel)), rfl⟩
theorem fX10_126 {G : am_G} (hG : k_ok G) : am_F G RX10 126 3 0 .int false := by
  obtain ⟨hc, ht, -⟩ := hG
  unfold am_F
  rw [hc, ht]
  exact ⟨RX3, TX3, 8, tyX3, rfl, by decide, k_inX3, tyX3_ok, nmX3, (k_in 209 (by decide +kernel) (by decide +kernel)), rfl, rfl, fun h => nomatch h⟩
theorem fX10_131 {G : am_G} (hG : k_ok G) : am_F G RX10 131 9 2 .int false := by
  obtain ⟨hc, ht, -⟩ := hG
  unfold am_F
  rw [hc, ht]
  exact ⟨RX9, TX9, 13, tyX9, rfl, by decide, k_inX9, tyX9_ok, nmX9, (k_in 285 (by decide +kernel) (by decide +kernel)), rfl, rfl, fun h => nomatch h⟩
theorem fX10_134 {G : am_G} (hG : k_ok G) : am_F G RX10 134 9 3 .int false := by
  obtain ⟨hc, ht, -⟩ := hG
  unfold am_F
  rw [hc, ht]
  exact ⟨RX9, TX9, 13, tyX9, rfl, by decide, k_inX9, tyX9_ok, nmX9, (k_in 289 (by decide +kernel) (by decide +kernel)), rfl, rfl, fun h => nomatch h⟩
theorem fX10_137 {G : am_G} (hG : k_ok G) : am_F G RX10 137 2 0 .int false := by
  obtain ⟨hc, ht, -⟩ := hG
  unfold am_F
  rw [hc, ht]
  exact ⟨RX2, TX2, 5, tyX2, rfl, by decide, k_inX2, tyX2_ok, nmX2, (k_in 367 (by decide +kernel) (by decide +kernel)), rfl, rfl, fun h => nomatch h⟩
theorem fX10_140 {G : am_G} (hG : k_ok G) : am_F G RX10 140 2 1 .int false := by
  obtain ⟨hc, ht, -⟩ := hG
  unfold am_F
  rw [hc, ht]
  exact ⟨RX2, TX2, 5, tyX2, rfl, by decide, k_inX2, tyX2_ok, nmX2, (k_in 371 (by decide +kernel) (by decide +kernel)), rfl, rfl, fun h => nomatch h⟩
theorem fX10_154 {G : am_G} (hG : k_ok G) : am_F G RX10 154 8 5 .int false := by
  obtain ⟨hc, ht, -⟩ := hG
  unfold am_F
  rw [hc, ht]
  exact ⟨RX8, TX8, 6, tyX8, rfl, by decide, k_inX8, tyX8_ok, nmX8, (k_in 401 (by decide +kernel) (by decide +kernel)), rfl, rfl, fun h => nomatch h⟩
theorem fX10_157 {G : am_G} (hG : k_ok G) : am_F G RX10 157 4 2 .int false := by
  obtain ⟨hc, ht, -⟩ := hG
  unfold am_F
  rw [hc, ht]
  exact ⟨RX4, TX4, 9, tyX4, rfl, by decide, k_inX4, tyX4_ok, nmX4, (k_in 420 (by decide +kernel) (by decide +kernel)), rfl, rfl, fun h => nomatch h⟩
theorem fX10_160 {G : am_G} (hG : k_ok G) : am_F G RX10 160 4 6 .int false := by
  obtain ⟨hc, ht, -⟩ := hG
  unfold am_F
  rw [hc, ht]
  exact ⟨RX4, TX4, 9, tyX4, rfl, by decide, k_inX4, tyX4_ok, nmX4, (k_in 425 (by decide +kernel) (by decide +kernel)), rfl, rfl, fun h => nomatch h⟩
theorem fX10_171 {G : am_G} (hG : k_ok G) : am_Fr G RX10 171 9 4 (.array .int) := by
  obtain ⟨hc, ht, -⟩ := hG
  unfold am_Fr
  rw [hc, ht]
  exact ⟨RX9, TX9, 13, tyX9, rfl, by decide, k_inX9, tyX9_ok, nmX9, (k_in 294 (by decide +kernel) (by decide +kernel)), rfl⟩
theorem fX10_174 {G : am_G} (hG : k_ok G) : am_Fr G RX10 174 9 5 (.array .int) := by
  obtain ⟨hc, ht, -⟩ := hG
  unfold am_Fr
  rw [hc, ht]
  exact ⟨RX9, TX9, 13, tyX9, rfl, by decide, k_inX9, tyX9_ok, nmX9, (k_in 298 (by decide +kernel) (by decide +kernel)), rfl⟩
theorem fX10_177 {G : am_G} (hG : k_ok G) : am_Fr G RX10 177 9 6 (.array .int) := by
  obtain ⟨hc, ht, -⟩ := hG
  unfold am_Fr
  rw [hc, ht]
  exact ⟨RX9, TX9, 13, tyX9, rfl, by decide, k_inX9, tyX9_ok, nmX9, (k_in 301 (by decide +kernel) (by decide +kernel)), rfl⟩
theorem fX10_180 {G : am_G} (hG : k_ok G) : am_Fr G RX10 180 9 7 (.array .int) := by
  obtain ⟨hc, ht, -⟩ := hG
  unfold am_Fr
  rw [hc, ht]
  exact ⟨RX9, TX9, 13, tyX9, rfl, by decide, k_inX9, tyX9_ok, nmX9, (k_in 304 (by decide +kernel) (by decide +kernel)), rfl⟩
theorem fX10_183 {G : am_G} (hG : k_ok G) : am_Fr G RX10 183 2 4 (.array .int) := by
  obtain ⟨hc, ht, -⟩ := hG
  unfold am_Fr
  rw [hc, ht]
  exact ⟨RX2, TX2, 5, tyX2, rfl, by decide, k_inX2, tyX2_ok, nmX2, (k_in 381 (by decide +kernel) (by decide +kernel)), rfl⟩
theorem fX10_186 {G : am_G} (hG : k_ok G) : am_Fr G RX10 186 1 0 (.array .int) := by
  obtain ⟨hc, ht, -⟩ := hG
  unfold am_Fr
  rw [hc, ht]
  exact ⟨RX1, TX1, 2, tyX1, rfl, by decide, k_inX1, tyX1_ok, nmX1, (k_in 502 (by decide +kernel) (by decide +kernel)), rfl⟩
theorem fX10_194 {G : am_G} (hG : k_ok G) : am_Fr G RX10 194 3 1 (.array .int) := by
  obtain ⟨hc, ht, -⟩ := hG
  unfold am_Fr
  rw [hc, ht]
  exact ⟨RX3, TX3, 8, tyX3, rfl, by decide, k_inX3, tyX3_ok, nmX3, (k_in 214 (by decide +kernel) (by decide +kernel)), rfl⟩
theorem fX10_195 {G : am_G} (hG : k_ok G) : am_Fr G RX10 195 3 2 (.array .int) := by
  obtain ⟨hc, ht, -⟩ := hG
  unfold am_Fr
  rw [hc, ht]
  exact ⟨RX3, TX3, 8, tyX3, rfl, by decide, k_inX3, tyX3_ok, nmX3, (k_in 218 (by decide +kernel) (by decide +kernel)), rfl⟩
theorem fX10_198 {G : am_G} (hG : k_ok G) : am_Fr G RX10 198 3 3 (.array .int) := by
  obtain ⟨hc, ht, -⟩ := hG
  unfold am_Fr
  rw [hc, ht]
  exact ⟨RX3, TX3, 8, tyX3, rfl, by decide, k_inX3, tyX3_ok, nmX3, (k_in 222 (by decide +kernel) (by decide +kernel)), rfl⟩
theorem fX10_201 {G : am_G} (hG : k_ok G) : am_Fr G RX10 201 3 4 (.array .int) := by
  obtain ⟨hc, ht, -⟩ := hG
  unfold am_Fr
  rw [hc, ht]
  exact ⟨RX3, TX3, 8, tyX3, rfl, by decide, k_inX3, tyX3_ok, nmX3, (k_in 226 (by decide +kernel) (by decide +kernel)), rfl⟩
theorem fX10_204 {G : am_G} (hG : k_ok G) : am_Fr G RX10 204 3 6 (.array .int) := by
  obtain ⟨hc, ht, -⟩ := hG
  unfold am_Fr
  rw [hc, ht]
  exact ⟨RX3, TX3, 8, tyX3, rfl, by decide, k_inX3, tyX3_ok, nmX3, (k_in 234 (by decide +kernel) (by decide +kernel)), rfl⟩
theorem fX10_211 {G : am_G} (hG : k_ok G) : am_Fr G RX10 211 2 3 (.array .int) := by
  obtain ⟨hc, ht, -⟩ := hG
  unfold am_Fr
  rw [hc, ht]
  exact ⟨RX2, TX2, 5, tyX2, rfl, by decide, k_inX2, tyX2_ok, nmX2, (k_in 378 (by decide +kernel) (by decide +kernel)), rfl⟩
theorem fX10_222 {G : am_G} (hG : k_ok G) : am_Fr G RX10 222 2 2 (.array .int) := by
  obtain ⟨hc, ht, -⟩ := hG
  unfold am_Fr
  rw [hc, ht]
  exact ⟨RX2, TX2, 5, tyX2, rfl, by decide, k_inX2, tyX2_ok, nmX2, (k_in 374 (by decide +kernel) (by decide +kernel)), rfl⟩
theorem fX10_243 {G : am_G} (hG : k_ok G) : am_F G RX10 243 5 4 .int false := by
  obtain ⟨hc, ht, -⟩ := hG
  unfold am_F
  rw [hc, ht]
  exact ⟨RX5, TX5, 5, tyX5, rfl, by decide, k_inX5, tyX5_ok, nmX5, (k_in 523 (by decide +kernel) (by decide +kernel)), rfl, rfl, fun h => nomatch h⟩
theorem fX10_246 {G : am_G} (hG : k_ok G) : am_Fr G RX10 246 5 1 (.array .int) := by
  obtain ⟨hc, ht, -⟩ := hG
  unfold am_Fr
  rw [hc, ht]
  exact ⟨RX5, TX5, 5, tyX5, rfl, by decide, k_inX5, tyX5_ok, nmX5, (k_in 519 (by decide +kernel) (by decide +kernel)), rfl⟩
theorem fX10_276 {G : am_G} (hG : k_ok G) : am_Fr G RX10 276 0 0 (.array .int) := by
  obtain ⟨hc, ht, -⟩ := hG
  unfold am_Fr
  rw [hc, ht]
  exact ⟨RX0, TX0, 12, tyX0, rfl, by decide, k_inX0, tyX0_ok, nmX0, (k_in 456 (by decide +kernel) (by decide +kernel)), rfl⟩
theorem fX10_285 {G : am_G} (hG : k_ok G) : am_F G RX10 285 0 1 .int false := by
  obtain ⟨hc, ht, -⟩ := hG
  unfold am_F
  rw [hc, ht]
  exact ⟨RX0, TX0, 12, tyX0, rfl, by decide, k_inX0, tyX0_ok, nmX0, (k_in 458 (by decide +kernel) (by decide +kernel)), rfl, rfl, fun h => nomatch h⟩
theorem fX10_307 {G : am_G} (hG : k_ok G) : am_Fr G RX10 307 1 1 (.array .int) := by
  obtain ⟨hc, ht, -⟩ := hG
  unfold am_Fr
  rw [hc, ht]
  exact ⟨RX1, TX1, 2, tyX1, rfl, by decide, k_inX1, tyX1_ok, nmX1, (k_in 505 (by decide +kernel) (by decide +kernel)), rfl⟩
theorem fX10_327 {G : am_G} (hG : k_ok G) : am_Fr G RX10 327 3 5 (.array .int) := by
  obtain ⟨hc, ht, -⟩ := hG
  unfold am_Fr
  rw [hc, ht]
  exact ⟨RX3, TX3, 8, tyX3, rfl, by decide, k_inX3, tyX3_ok, nmX3, (k_in 231 (by decide +kernel) (by decide +kernel)), rfl⟩
theorem fX10_352 {G : am_G} (hG : k_ok G) : am_Fr G RX10 352 4 7 (.array .int) := by
  obtain ⟨hc, ht, -⟩ := hG
  unfold am_Fr
  rw [hc, ht]
  exact ⟨RX4, TX4, 9, tyX4, rfl, by decide, k_inX4, tyX4_ok, nmX4, (k_in 427 (by decide +kernel) (by decide +kernel)), rfl⟩
theorem fX10_359 {G : am_G} (hG : k_ok G) : am_Fr G RX10 359 4 8 (.array .int) := by
  obtain ⟨hc, ht, -⟩ := hG
  unfold am_Fr
  rw [hc, ht]
  exact ⟨RX4, TX4, 9, tyX4, rfl, by decide, k_inX4, tyX4_ok, nmX4, (k_in 429 (by decide +kernel) (by decide +kernel)), rfl⟩
theorem fX0_9 {G : am_G} (hG : k_ok G) : am_F G RX0 9 0 0 (.array .int) true := by
  obtain ⟨hc, ht, -⟩ := hG
  unfold am_F
  rw [hc, ht]
  exact ⟨RX0, TX0, 12, tyX0, rfl, by decide, k_inX0, tyX0_ok, nmX0, (k_in 455 (by decide +kernel) (by decide +kernel)), rfl, rfl, fun _ => rfl⟩
theorem fX0_15 {G : am_G} (hG : k_ok G) : am_F G RX0 15 0 4 (.array .int) true := by
  obtain ⟨hc, ht, -⟩ := hG
  unfold am_F
  rw [hc, ht]
  exact ⟨RX0, TX0, 12, tyX0, rfl, by decide, k_inX0, tyX0_ok, nmX0, (k_in 461 (by decide +kernel) (by decide +kernel)), rfl, rfl, fun _ => rfl⟩
theorem fX0_18 {G : am_G} (hG : k_ok G) : am_F G RX0 18 0 5 (.array .int) true := by
  obtain ⟨hc, ht, -⟩ := hG
  unfold am_F
  rw [hc, ht]
  exact ⟨RX0, TX0, 12, tyX0, rfl, by decide, k_inX0, tyX0_ok, nmX0, (k_in 462 (by decide +kernel) (by decide +kernel)), rfl, rfl, fun _ => rfl⟩
theorem fX0_21 {G : am_G} (hG : k_ok G) : am_F G RX0 21 0 6 (.array .int) true := by
  obtain ⟨hc, ht, -⟩ := hG
  unfold am_F
  rw [hc, ht]
  exact ⟨RX0, TX0, 12, tyX0, rfl, by decide, k_inX0, tyX0_ok, nmX0, (k_in 463 (by decide +kernel) (by decide +kernel)), rfl, rfl, fun _ => rfl⟩
theorem fX0_24 {G : am_G} (hG : k_ok G) : am_F G RX0 24 0 7 (.array .int) true := by
  obtain ⟨hc, ht, -⟩ := hG
  unfold am_F
  rw [hc, ht]
  exact ⟨RX0, TX0, 12, tyX0, rfl, by decide, k_inX0, tyX0_ok, nmX0, (k_in 464 (by decide +kernel) (by decide +kernel)), rfl, rfl, fun _ => rfl⟩
theorem fX0_27 {G : am_G} (hG : k_ok G) : am_F G RX0 27 0 8 (.array .boolean) true := by
  obtain ⟨hc, ht, -⟩ := hG
  unfold am_F
  rw [hc, ht]
  exact ⟨RX0, TX0, 12, tyX0, rfl, by decide, k_inX0, tyX0_ok, nmX0, (k_in 465 (by decide +kernel) (by decide +kernel)), rfl, rfl, fun _ => rfl⟩
theorem fX0_31 {G : am_G} (hG : k_ok G) : am_F G RX0 31 0 9 (.array .int) true := by
  obtain ⟨hc, ht, -⟩ := hG
  unfold am_F
  rw [hc, ht]
  exact ⟨RX0, TX0, 12, tyX0, rfl, by decide, k_inX0, tyX0_ok, nmX0, (k_in 466 (by decide +kernel) (by decide +kernel)), rfl, rfl, fun _ => rfl⟩
theorem fX0_34 {G : am_G} (hG : k_ok G) : am_F G RX0 34 0 10 (.array .int) true := by
  obtain ⟨hc, ht, -⟩ := hG
  unfold am_F
  rw [hc, ht]
  exact ⟨RX0, TX0, 12, tyX0, rfl, by decide, k_inX0, tyX0_ok, nmX0, (k_in 467 (by decide +kernel) (by decide +kernel)), rfl, rfl, fun _ => rfl⟩
theorem fX0_37 {G : am_G} (hG : k_ok G) : am_F G RX0 37 0 11 (.array .int) true := by
  obtain ⟨hc, ht, -⟩ := hG
  unfold am_F
  rw [hc, ht]
  exact ⟨RX0, TX0, 12, tyX0, rfl, by decide, k_inX0, tyX0_ok, nmX0, (k_in 468 (by decide +kernel) (by decide +kernel)), rfl, rfl, fun _ => rfl⟩
theorem fX0_40 {G : am_G} (hG : k_ok G) : am_F G RX0 40 9 0 .int false := by
  obtain ⟨hc, ht, -⟩ := hG
  unfold am_F
  rw [hc, ht]
  exact ⟨RX9, TX9, 13, tyX9, rfl, by decide, k_inX9, tyX9_ok, nmX9, (k_in 275 (by decide +kernel) (by decide +kernel)), rfl, rfl, fun h => nomatch h⟩
theorem fX0_46 {G : am_G} (hG : k_ok G) : am_F G RX0 46 0 2 .int false := by
  obtain ⟨hc, ht, -⟩ := hG
  unfold am_F
  rw [hc, ht]
  exact ⟨RX0, TX0, 12, tyX0, rfl, by decide, k_inX0, tyX0_ok, nmX0, (k_in 459 (by decide +kernel) (by decide +kernel)), rfl, rfl, fun h => nomatch h⟩
theorem fX0_55 {G : am_G} (hG : k_ok G) : am_F G RX0 55 2 1 .int false := by
  obtain ⟨hc, ht, -⟩ := hG
  unfold am_F
  rw [hc, ht]
  exact ⟨RX2, TX2, 5, tyX2, rfl, by decide, k_inX2, tyX2_ok, nmX2, (k_in 370 (by decide +kernel) (by decide +kernel)), rfl, rfl, fun h => nomatch h⟩
theorem fX0_60 {G : am_G} (hG : k_ok G) : am_F G RX0 60 9 3 .int false := by
  obtain ⟨hc, ht, -⟩ := hG
  unfold am_F
  rw [hc, ht]
  exact ⟨RX9, TX9, 13, tyX9, rfl, by decide, k_inX9, tyX9_ok, nmX9, (k_in 288 (by decide +kernel) (by decide +kernel)), rfl, rfl, fun h => nomatch h⟩
theorem fX0_68 {G : am_G} (hG : k_ok G) : am_F G RX0 68 0 1 .int false := by
  obtain ⟨hc, ht, -⟩ := hG
  unfold am_F
  rw [hc, ht]
  exact ⟨RX0, TX0, 12, tyX0, rfl, by decide, k_inX0, tyX0_ok, nmX0, (k_in 457 (by decide +kernel) (by decide +kernel)), rfl, rfl, fun h => nomatch h⟩
theorem fX0_79 {G : am_G} (hG : k_ok G) : am_Fr G RX0 79 9 11 (.object "StrangeKnives$Loaves") := by
  obtain ⟨hc, ht, -⟩ := hG
  unfold am_Fr
  rw [hc, ht]
  exact ⟨RX9, TX9, 13, tyX9, rfl, by decide, k_inX9, tyX9_ok, nmX9, (k_in 314 (by decide +kernel) (by decide +kernel)), rfl⟩
theorem fX0_83 {G : am_G} (hG : k_ok G) : am_F G RX0 83 0 3 .int false := by
  obtain ⟨hc, ht, -⟩ := hG
  unfold am_F
  rw [hc, ht]
  exact ⟨RX0, TX0, 12, tyX0, rfl, by decide, k_inX0, tyX0_ok, nmX0, (k_in 460 (by decide +kernel) (by decide +kernel)), rfl, rfl, fun h => nomatch h⟩
theorem fX0_86 {G : am_G} (hG : k_ok G) : am_F G RX0 86 3 0 .int false := by
  obtain ⟨hc, ht, -⟩ := hG
  unfold am_F
  rw [hc, ht]
  exact ⟨RX3, TX3, 8, tyX3, rfl, by decide, k_inX3, tyX3_ok, nmX3, (k_in 208 (by decide +kernel) (by decide +kernel)), rfl, rfl, fun h => nomatch h⟩
theorem fX0_91 {G : am_G} (hG : k_ok G) : am_Fr G RX0 91 2 3 (.array .int) := by
  obtain ⟨hc, ht, -⟩ := hG
  unfold am_Fr
  rw [hc, ht]
  exact ⟨RX2, TX2, 5, tyX2, rfl, by decide, k_inX2, tyX2_ok, nmX2, (k_in 376 (by decide +kernel) (by decide +kernel)), rfl⟩
theorem fX0_94 {G : am_G} (hG : k_ok G) : am_Fr G RX0 94 3 3 (.array .int) := by
  obtain ⟨hc, ht, -⟩ := hG
  unfold am_Fr
  rw [hc, ht]
  exact ⟨RX3, TX3, 8, tyX3, rfl, by decide, k_inX3, tyX3_ok, nmX3, (k_in 221 (by decide +kernel) (by decide +kernel)), rfl⟩
theorem fX0_97 {G : am_G} (hG : k_ok G) : am_Fr G RX0 97 3 4 (.array .int) := by
  obtain ⟨hc, ht, -⟩ := hG
  unfold am_Fr
  rw [hc, ht]
  exact ⟨RX3, TX3, 8, tyX3, rfl, by decide, k_inX3, tyX3_ok, nmX3, (k_in 225 (by decide +kernel) (by decide +kernel)), rfl⟩
theorem fX0_106 {G : am_G} (hG : k_ok G) : am_Fr G RX0 106 3 1 (.array .int) := by
  obtain ⟨hc, ht, -⟩ := hG
  unfold am_Fr
  rw [hc, ht]
  exact ⟨RX3, TX3, 8, tyX3, rfl, by decide, k_inX3, tyX3_ok, nmX3, (k_in 213 (by decide +kernel) (by decide +kernel)), rfl⟩
theorem fX0_109 {G : am_G} (hG : k_ok G) : am_Fr G RX0 109 9 5 (.array .int) := by
  obtain ⟨hc, ht, -⟩ := hG
  unfold am_Fr
  rw [hc, ht]
  exact ⟨RX9, TX9, 13, tyX9, rfl, by decide, k_inX9, tyX9_ok, nmX9, (k_in 297 (by decide +kernel) (by decide +kernel)), rfl⟩
theorem fX0_114 {G : am_G} (hG : k_ok G) : am_Fr G RX0 114 1 1 (.array .int) := by
  obtain ⟨hc, ht, -⟩ := hG
  unfold am_Fr
  rw [hc, ht]
  exact ⟨RX1, TX1, 2, tyX1, rfl, by decide, k_inX1, tyX1_ok, nmX1, (k_in 504 (by decide +kernel) (by decide +kernel)), rfl⟩
theorem fX1_9 {G : am_G} (hG : k_ok G) : am_F G RX1 9 1 0 (.array .int) true := by
  obtain ⟨hc, ht, -⟩ := hG
  unfold am_F
  rw [hc, ht]
  exact ⟨RX1, TX1, 2, tyX1, rfl, by decide, k_inX1, tyX1_ok, nmX1, (k_in 501 (by decide +kernel) (by decide +kernel)), rfl, rfl, fun _ => rfl⟩
theorem fX1_15 {G : am_G} (hG : k_ok G) : am_F G RX1 15 1 1 (.array .int) true := by
  obtain ⟨hc, ht, -⟩ := hG
  unfold am_F
  rw [hc, ht]
  exact ⟨RX1, TX1, 2, tyX1, rfl, by decide, k_inX1, tyX1_ok, nmX1, (k_in 503 (by decide +kernel) (by decide +kernel)), rfl, rfl, fun _ => rfl⟩
theorem fX1_18 {G : am_G} (hG : k_ok G) : am_F G RX1 18 9 0 .int false := by
  obtain ⟨hc, ht, -⟩ := hG
  unfold am_F
  rw [hc, ht]
  exact ⟨RX9, TX9, 13, tyX9, rfl, by decide, k_inX9, tyX9_ok, nmX9, (k_in 276 (by decide +kernel) (by decide +kernel)), rfl, rfl, fun h => nomatch h⟩
theorem fX1_24 {G : am_G} (hG : k_ok G) : am_Fr G RX1 24 9 5 (.array .int) := by
  obtain ⟨hc, ht, -⟩ := hG
  unfold am_Fr
  rw [hc, ht]
  exact ⟨RX9, TX9, 13, tyX9, rfl, by decide, k_inX9, tyX9_ok, nmX9, (k_in 296 (by decide +kernel) (by decide +kernel)), rfl⟩
theorem fX1_34 {G : am_G} (hG : k_ok G) : am_Fr G RX1 34 9 4 (.array .int) := by
  obtain ⟨hc, ht, -⟩ := hG
  unfold am_Fr
  rw [hc, ht]
  exact ⟨RX9, TX9, 13, tyX9, rfl, by decide, k_inX9, tyX9_ok, nmX9, (k_in 292 (by decide +kernel) (by decide +kernel)), rfl⟩
theorem fX1_41 {G : am_G} (hG : k_ok G) : am_Fr G RX1 41 9 11 (.object "StrangeKnives$Loaves") := by
  obtain ⟨hc, ht, -⟩ := hG
  unfold am_Fr
  rw [hc, ht]
  exact ⟨RX9, TX9, 13, tyX9, rfl, by decide, k_inX9, tyX9_ok, nmX9, (k_in 313 (by decide +kernel) (by decide +kernel)), rfl⟩
theorem fX1_45 {G : am_G} (hG : k_ok G) : am_F G RX1 45 3 0 .int false := by
  obtain ⟨hc, ht, -⟩ := hG
  unfold am_F
  rw [hc, ht]
  exact ⟨RX3, TX3, 8, tyX3, rfl, by decide, k_inX3, tyX3_ok, nmX3, (k_in 207 (by decide +kernel) (by decide +kernel)), rfl, rfl, fun h => nomatch h⟩
theorem fX1_50 {G : am_G} (hG : k_ok G) : am_Fr G RX1 50 3 6 (.array .int) := by
  obtain ⟨hc, ht, -⟩ := hG
  unfold am_Fr
  rw [hc, ht]
  exact ⟨RX3, TX3, 8, tyX3, rfl, by decide, k_inX3, tyX3_ok, nmX3, (k_in 233 (by decide +kernel) (by decide +kernel)), rfl⟩
theorem fX1_57 {G : am_G} (hG : k_ok G) : am_Fr G RX1 57 2 2 (.array .int) := by
  obtain ⟨hc, ht, -⟩ := hG
  unfold am_Fr
  rw [hc, ht]
  exact ⟨RX2, TX2, 5, tyX2, rfl, by decide, k_inX2, tyX2_ok, nmX2, (k_in 373 (by decide +kernel) (by decide +kernel)), rfl⟩
theorem fX1_63 {G : am_G} (hG : k_ok G) : am_F G RX1 63 2 0 .int false := by
  obtain ⟨hc, ht, -⟩ := hG
  unfold am_F
  rw [hc, ht]
  exact ⟨RX2, TX2, 5, tyX2, rfl, by decide, k_inX2, tyX2_ok, nmX2, (k_in 366 (by decide +kernel) (by decide +kernel)), rfl, rfl, fun h => nomatch h⟩
theorem fX1_66 {G : am_G} (hG : k_ok G) : am_F G RX1 66 9 2 .int false := by
  obtain ⟨hc, ht, -⟩ := hG
  unfold am_F
  rw [hc, ht]
  exact ⟨RX9, TX9, 13, tyX9, rfl, by decide, k_inX9, tyX9_ok, nmX9, (k_in 284 (by decide +kernel) (by decide +kernel)), rfl, rfl, fun h => nomatch h⟩
theorem fX2_9 {G : am_G} (hG : k_ok G) : am_F G RX2 9 2 2 (.array .int) true := by
  obtain ⟨hc, ht, -⟩ := hG
  unfold am_F
  rw [hc, ht]
  exact ⟨RX2, TX2, 5, tyX2, rfl, by decide, k_inX2, tyX2_ok, nmX2, (k_in 372 (by decide +kernel) (by decide +kernel)), rfl, rfl, fun _ => rfl⟩
theorem fX2_15 {G : am_G} (hG : k_ok G) : am_F G RX2 15 2 3 (.array .int) true := by
  obtain ⟨hc, ht, -⟩ := hG
  unfold am_F
  rw [hc, ht]
  exact ⟨RX2, TX2, 5, tyX2, rfl, by decide, k_inX2, tyX2_ok, nmX2, (k_in 375 (by decide +kernel) (by decide +kernel)), rfl, rfl, fun _ => rfl⟩
theorem fX2_18 {G : am_G} (hG : k_ok G) : am_F G RX2 18 2 4 (.array .int) true := by
  obtain ⟨hc, ht, -⟩ := hG
  unfold am_F
  rw [hc, ht]
  exact ⟨RX2, TX2, 5, tyX2, rfl, by decide, k_inX2, tyX2_ok, nmX2, (k_in 379 (by decide +kernel) (by decide +kernel)), rfl, rfl, fun _ => rfl⟩
theorem fX2_21 {G : am_G} (hG : k_ok G) : am_F G RX2 21 2 0 .int false := by
  obtain ⟨hc, ht, -⟩ := hG
  unfold am_F
  rw [hc, ht]
  exact ⟨RX2, TX2, 5, tyX2, rfl, by decide, k_inX2, tyX2_ok, nmX2, (k_in 365 (by decide +kernel) (by decide +kernel)), rfl, rfl, fun h => nomatch h⟩
theorem fX2_25 {G : am_G} (hG : k_ok G) : am_F G RX2 25 2 1 .int false := by
  obtain ⟨hc, ht, -⟩ := hG
  unfold am_F
  rw [hc, ht]
  exact ⟨RX2, TX2, 5, tyX2, rfl, by decide, k_inX2, tyX2_ok, nmX2, (k_in 369 (by decide +kernel) (by decide +kernel)), rfl, rfl, fun h => nomatch h⟩
theorem fX2_35 {G : am_G} (hG : k_ok G) : am_F G RX2 35 9 1 .int false := by
  obtain ⟨hc, ht, -⟩ := hG
  unfold am_F
  rw [hc, ht]
  exact ⟨RX9, TX9, 13, tyX9, rfl, by decide, k_inX9, tyX9_ok, nmX9, (k_in 281 (by decide +kernel) (by decide +kernel)), rfl, rfl, fun h => nomatch h⟩
theorem fX2_40 {G : am_G} (hG : k_ok G) : am_Fr G RX2 40 9 8 (.array .int) := by
  obtain ⟨hc, ht, -⟩ := hG
  unfold am_Fr
  rw [hc, ht]
  exact ⟨RX9, TX9, 13, tyX9, rfl, by decide, k_inX9, tyX9_ok, nmX9, (k_in 306 (by decide +kernel) (by decide +kernel)), rfl⟩
theorem fX2_43 {G : am_G} (hG : k_ok G) : am_Fr G RX2 43 9 9 (.array .int) := by
  obtain ⟨hc, ht, -⟩ := hG
  unfold am_Fr
  rw [hc, ht]
  exact ⟨RX9, TX9, 13, tyX9, rfl, by decide, k_inX9, tyX9_ok, nmX9, (k_in 308 (by decide +kernel) (by decide +kernel)), rfl⟩
theorem fX2_46 {G : am_G} (hG : k_ok G) : am_Fr G RX2 46 9 10 (.array .int) := by
  obtain ⟨hc, ht, -⟩ := hG
  unfold am_Fr
  rw [hc, ht]
  exact ⟨RX9, TX9, 13, tyX9, rfl, by decide, k_inX9, tyX9_ok, nmX9, (k_in 310 (by decide +kernel) (by decide +kernel)), rfl⟩
theorem fX2_63 {G : am_G} (hG : k_ok G) : am_F G RX2 63 9 0 .int false := by
  obtain ⟨hc, ht, -⟩ := hG
  unfold am_F
  rw [hc, ht]
  exact ⟨RX9, TX9, 13, tyX9, rfl, by decide, k_inX9, tyX9_ok, nmX9, (k_in 277 (by decide +kernel) (by decide +kernel)), rfl, rfl, fun h => nomatch h⟩
theorem fX2_82 {G : am_G} (hG : k_ok G) : am_F G RX2 82 3 0 .int false := by
  obtain ⟨hc, ht, -⟩ := hG
  unfold am_F
  rw [hc, ht]
  exact ⟨RX3, TX3, 8, tyX3, rfl, by decide, k_inX3, tyX3_ok, nmX3, (k_in 210 (by decide +kernel) (by decide +kernel)), rfl, rfl, fun h => nomatch h⟩
theorem fX3_9 {G : am_G} (hG : k_ok G) : am_F G RX3 9 3 1 (.array .int) true := by
  obtain ⟨hc, ht, -⟩ := hG
  unfold am_F
  rw [hc, ht]
  exact ⟨RX3, TX3, 8, tyX3, rfl, by decide, k_inX3, tyX3_ok, nmX3, (k_in 212 (by decide +kernel) (by decide +kernel)), rfl, rfl, fun _ => rfl⟩
theorem fX3_15 {G : am_G} (hG : k_ok G) : am_F G RX3 15 3 2 (.array .int) true := by
  obtain ⟨hc, ht, -⟩ := hG
  unfold am_F
  rw [hc, ht]
  exact ⟨RX3, TX3, 8, tyX3, rfl, by decide, k_inX3, tyX3_ok, nmX3, (k_in 216 (by decide +kernel) (by decide +kernel)), rfl, rfl, fun _ => rfl⟩
theorem fX3_18 {G : am_G} (hG : k_ok G) : am_F G RX3 18 3 3 (.array .int) true := by
  obtain ⟨hc, ht, -⟩ := hG
  unfold am_F
  rw [hc, ht]
  exact ⟨RX3, TX3, 8, tyX3, rfl, by decide, k_inX3, tyX3_ok, nmX3, (k_in 220 (by decide +kernel) (by decide +kernel)), rfl, rfl, fun _ => rfl⟩
theorem fX3_21 {G : am_G} (hG : k_ok G) : am_F G RX3 21 3 4 (.array .int) true := by
  obtain ⟨hc, ht, -⟩ := hG
  unfold am_F
  rw [hc, ht]
  exact ⟨RX3, TX3, 8, tyX3, rfl, by decide, k_inX3, tyX3_ok, nmX3, (k_in 224 (by decide +kernel) (by decide +kernel)), rfl, rfl, fun _ => rfl⟩
theorem fX3_24 {G : am_G} (hG : k_ok G) : am_F G RX3 24 3 5 (.array .int) true := by
  obtain ⟨hc, ht, -⟩ := hG
  unfold am_F
  rw [hc, ht]
  exact ⟨RX3, TX3, 8, tyX3, rfl, by decide, k_inX3, tyX3_ok, nmX3, (k_in 228 (by decide +kernel) (by decide +kernel)), rfl, rfl, fun _ => rfl⟩
theorem fX3_27 {G : am_G} (hG : k_ok G) : am_F G RX3 27 3 6 (.array .int) true := by
  obtain ⟨hc, ht, -⟩ := hG
  unfold am_F
  rw [hc, ht]
  exact ⟨RX3, TX3, 8, tyX3, rfl, by decide, k_inX3, tyX3_ok, nmX3, (k_in 232 (by decide +kernel) (by decide +kernel)), rfl, rfl, fun _ => rfl⟩
theorem fX3_30 {G : am_G} (hG : k_ok G) : am_F G RX3 30 3 7 (.array .int) true := by
  obtain ⟨hc, ht, -⟩ := hG
  unfold am_F
  rw [hc, ht]
  exact ⟨RX3, TX3, 8, tyX3, rfl, by decide, k_inX3, tyX3_ok, nmX3, (k_in 237 (by decide +kernel) (by decide +kernel)), rfl, rfl, fun _ => rfl⟩
theorem fX4_12 {G : am_G} (hG : k_ok G) : am_F G RX4 12 4 0 (.object "StrangeKnives$Story") true := by
  obtain ⟨hc, ht, -⟩ := hG
  unfold am_F
  rw [hc, ht]
  exact ⟨RX4, TX4, 9, tyX4, rfl, by decide, k_inX4, tyX4_ok, nmX4, (k_in 415 (by decide +kernel) (by decide +kernel)), rfl, rfl, fun _ => rfl⟩
theorem fX4_18 {G : am_G} (hG : k_ok G) : am_F G RX4 18 4 1 (.array .int) true := by
  obtain ⟨hc, ht, -⟩ := hG
  unfold am_F
  rw [hc, ht]
  exact ⟨RX4, TX4, 9, tyX4, rfl, by decide, k_inX4, tyX4_ok, nmX4, (k_in 417 (by decide +kernel) (by decide +kernel)), rfl, rfl, fun _ => rfl⟩
theorem fX4_22 {G : am_G} (hG : k_ok G) : am_F G RX4 22 4 3 (.array .int) true := by
  obtain ⟨hc, ht, -⟩ := hG
  unfold am_F
  rw [hc, ht]
  exact ⟨RX4, TX4, 9, tyX4, rfl, by decide, k_inX4, tyX4_ok, nmX4, (k_in 421 (by decide +kernel) (by decide +kernel)), rfl, rfl, fun _ => rfl⟩
theorem fX4_25 {G : am_G} (hG : k_ok G) : am_F G RX4 25 4 4 (.array .int) true := by
  obtain ⟨hc, ht, -⟩ := hG
  unfold am_F
  rw [hc, ht]
  exact ⟨RX4, TX4, 9, tyX4, rfl, by decide, k_inX4, tyX4_ok, nmX4, (k_in 422 (by decide +kernel) (by decide +kernel)), rfl, rfl, fun _ => rfl⟩
theorem fX4_28 {G : am_G} (hG : k_ok G) : am_F G RX4 28 4 5 (.array .int) true := by
  obtain ⟨hc, ht, -⟩ := hG
  unfold am_F
  rw [hc, ht]
  exact ⟨RX4, TX4, 9, tyX4, rfl, by decide, k_inX4, tyX4_ok, nmX4, (k_in 423 (by decide +kernel) (by decide +kernel)), rfl, rfl, fun _ => rfl⟩
theorem fX4_31 {G : am_G} (hG : k_ok G) : am_F G RX4 31 4 7 (.array .int) true := by
  obtain ⟨hc, ht, -⟩ := hG
  unfold am_F
  rw [hc, ht]
  exact ⟨RX4, TX4, 9, tyX4, rfl, by decide, k_inX4, tyX4_ok, nmX4, (k_in 426 (by decide +kernel) (by decide +kernel)), rfl, rfl, fun _ => rfl⟩
theorem fX4_34 {G : am_G} (hG : k_ok G) : am_F G RX4 34 4 8 (.array .int) true := by
  obtain ⟨hc, ht, -⟩ := hG
  unfold am_F
  rw [hc, ht]
  exact ⟨RX4, TX4, 9, tyX4, rfl, by decide, k_inX4, tyX4_ok, nmX4, (k_in 428 (by decide +kernel) (by decide +kernel)), rfl, rfl, fun _ => rfl⟩
theorem fX4_44 {G : am_G} (hG : k_ok G) : am_F G RX4 44 4 2 .int false := by
  obtain ⟨hc, ht, -⟩ := hG
  unfold am_F
  rw [hc, ht]
  exact ⟨RX4, TX4, 9, tyX4, rfl, by decide, k_inX4, tyX4_ok, nmX4, (k_in 419 (by decide +kernel) (by decide +kernel)), rfl, rfl, fun h => nomatch h⟩
theorem fX4_48 {G : am_G} (hG : k_ok G) : am_F G RX4 48 4 6 .int false := by
  obtain ⟨hc, ht, -⟩ := hG
  unfold am_F
  rw [hc, ht]
  exact ⟨RX4, TX4, 9, tyX4, rfl, by decide, k_inX4, tyX4_ok, nmX4, (k_in 424 (by decide +kernel) (by decide +kernel)), rfl, rfl, fun h => nomatch h⟩
theorem fX5_9 {G : am_G} (hG : k_ok G) : am_F G RX5 9 5 0 (.array .int) true := by
  obtain ⟨hc, ht, -⟩ := hG
  unfold am_F
  rw [hc, ht]
  exact ⟨RX5, TX5, 5, tyX5, rfl, by decide, k_inX5, tyX5_ok, nmX5, (k_in 517 (by decide +kernel) (by decide +kernel)), rfl, rfl, fun _ => rfl⟩
theorem fX5_15 {G : am_G} (hG : k_ok G) : am_F G RX5 15 5 1 (.array .int) true := by
  obtain ⟨hc, ht, -⟩ := hG
  unfold am_F
  rw [hc, ht]
  exact ⟨RX5, TX5, 5, tyX5, rfl, by decide, k_inX5, tyX5_ok, nmX5, (k_in 518 (by decide +kernel) (by decide +kernel)), rfl, rfl, fun _ => rfl⟩
theorem fX5_20 {G : am_G} (hG : k_ok G) : am_F G RX5 20 5 2 (.array .int) true := by
  obtain ⟨hc, ht, -⟩ := hG
  unfold am_F
  rw [hc, ht]
  exact ⟨RX5, TX5, 5, tyX5, rfl, by decide, k_inX5, tyX5_ok, nmX5, (k_in 520 (by decide +kernel) (by decide +kernel)), rfl, rfl, fun _ => rfl⟩
theorem fX5_29 {G : am_G} (hG : k_ok G) : am_F G RX5 29 5 3 .int false := by
  obtain ⟨hc, ht, -⟩ := hG
  unfold am_F
  rw [hc, ht]
  exact ⟨RX5, TX5, 5, tyX5, rfl, by decide, k_inX5, tyX5_ok, nmX5, (k_in 521 (by decide +kernel) (by decide +kernel)), rfl, rfl, fun h => nomatch h⟩
theorem fX5_37 {G : am_G} (hG : k_ok G) : am_Fr G RX5 37 9 11 (.object "StrangeKnives$Loaves") := by
  obtain ⟨hc, ht, -⟩ := hG
  unfold am_Fr
  rw [hc, ht]
  exact ⟨RX9, TX9, 13, tyX9, rfl, by decide, k_inX9, tyX9_ok, nmX9, (k_in 312 (by decide +kernel) (by decide +kernel)), rfl⟩
theorem fX5_41 {G : am_G} (hG : k_ok G) : am_Fr G RX5 41 3 2 (.array .int) := by
  obtain ⟨hc, ht, -⟩ := hG
  unfold am_Fr
  rw [hc, ht]
  exact ⟨RX3, TX3, 8, tyX3, rfl, by decide, k_inX3, tyX3_ok, nmX3, (k_in 217 (by decide +kernel) (by decide +kernel)), rfl⟩
theorem fX5_46 {G : am_G} (hG : k_ok G) : am_F G RX5 46 5 4 .int false := by
  obtain ⟨hc, ht, -⟩ := hG
  unfold am_F
  rw [hc, ht]
  exact ⟨RX5, TX5, 5, tyX5, rfl, by decide, k_inX5, tyX5_ok, nmX5, (k_in 522 (by decide +kernel) (by decide +kernel)), rfl, rfl, fun h => nomatch h⟩
theorem fX5_56 {G : am_G} (hG : k_ok G) : am_Fr G RX5 56 9 4 (.array .int) := by
  obtain ⟨hc, ht, -⟩ := hG
  unfold am_Fr
  rw [hc, ht]
  exact ⟨RX9, TX9, 13, tyX9, rfl, by decide, k_inX9, tyX9_ok, nmX9, (k_in 293 (by decide +kernel) (by decide +kernel)), rfl⟩
theorem fX5_59 {G : am_G} (hG : k_ok G) : am_Fr G RX5 59 9 12 (.object "StrangeKnives$Rule") := by
  obtain ⟨hc, ht, -⟩ := hG
  unfold am_Fr
  rw [hc, ht]
  exact ⟨RX9, TX9, 13, tyX9, rfl, by decide, k_inX9, tyX9_ok, nmX9, (k_in 318 (by decide +kernel) (by decide +kernel)), rfl⟩
theorem fX5_63 {G : am_G} (hG : k_ok G) : am_F G RX5 63 7 2 .int false := by
  obtain ⟨hc, ht, -⟩ := hG
  unfold am_F
  rw [hc, ht]
  exact ⟨RX7, TX7, 3, tyX7, rfl, by decide, k_inX7, tyX7_ok, nmX7, (k_in 266 (by decide +kernel) (by decide +kernel)), rfl, rfl, fun h => nomatch h⟩
theorem fX5_66 {G : am_G} (hG : k_ok G) : am_Fr G RX5 66 9 6 (.array .int) := by
  obtain ⟨hc, ht, -⟩ := hG
  unfold am_Fr
  rw [hc, ht]
  exact ⟨RX9, TX9, 13, tyX9, rfl, by decide, k_inX9, tyX9_ok, nmX9, (k_in 300 (by decide +kernel) (by decide +kernel)), rfl⟩
theorem fX5_69 {G : am_G} (hG : k_ok G) : am_Fr G RX5 69 2 4 (.array .int) := by
  obtain ⟨hc, ht, -⟩ := hG
  unfold am_Fr
  rw [hc, ht]
  exact ⟨RX2, TX2, 5, tyX2, rfl, by decide, k_inX2, tyX2_ok, nmX2, (k_in 380 (by decide +kernel) (by decide +kernel)), rfl⟩
theorem fX5_87 {G : am_G} (hG : k_ok G) : am_Fr G RX5 87 3 5 (.array .int) := by
  obtain ⟨hc, ht, -⟩ := hG
  unfold am_Fr
  rw [hc, ht]
  exact ⟨RX3, TX3, 8, tyX3, rfl, by decide, k_inX3, tyX3_ok, nmX3, (k_in 229 (by decide +kernel) (by decide +kernel)), rfl⟩
theorem fX5_90 {G : am_G} (hG : k_ok G) : am_Fr G RX5 90 9 7 (.array .int) := by
  obtain ⟨hc, ht, -⟩ := hG
  unfold am_Fr
  rw [hc, ht]
  exact ⟨RX9, TX9, 13, tyX9, rfl, by decide, k_inX9, tyX9_ok, nmX9, (k_in 303 (by decide +kernel) (by decide +kernel)), rfl⟩
theorem fX6_9 {G : am_G} (hG : k_ok G) : am_F G RX6 9 6 0 (.array .byte) true := by
  obtain ⟨hc, ht, -⟩ := hG
  unfold am_F
  rw [hc, ht]
  exact ⟨RX6, TX6, 11, tyX6, rfl, by decide, k_inX6, tyX6_ok, nmX6, (k_in 157 (by decide +kernel) (by decide +kernel)), rfl, rfl, fun _ => rfl⟩
theorem fX6_15 {G : am_G} (hG : k_ok G) : am_F G RX6 15 6 1 .int false := by
  obtain ⟨hc, ht, -⟩ := hG
  unfold am_F
  rw [hc, ht]
  exact ⟨RX6, TX6, 11, tyX6, rfl, by decide, k_inX6, tyX6_ok, nmX6, (k_in 159 (by decide +kernel) (by decide +kernel)), rfl, rfl, fun h => nomatch h⟩
theorem fX6_33 {G : am_G} (hG : k_ok G) : am_F G RX6 33 6 2 .int false := by
  obtain ⟨hc, ht, -⟩ := hG
  unfold am_F
  rw [hc, ht]
  exact ⟨RX6, TX6, 11, tyX6, rfl, by decide, k_inX6, tyX6_ok, nmX6, (k_in 160 (by decide +kernel) (by decide +kernel)), rfl, rfl, fun h => nomatch h⟩
theorem fX6_36 {G : am_G} (hG : k_ok G) : am_F G RX6 36 6 5 .int false := by
  obtain ⟨hc, ht, -⟩ := hG
  unfold am_F
  rw [hc, ht]
  exact ⟨RX6, TX6, 11, tyX6, rfl, by decide, k_inX6, tyX6_ok, nmX6, (k_in 164 (by decide +kernel) (by decide +kernel)), rfl, rfl, fun h => nomatch h⟩
theorem fX6_39 {G : am_G} (hG : k_ok G) : am_F G RX6 39 6 7 .int false := by
  obtain ⟨hc, ht, -⟩ := hG
  unfold am_F
  rw [hc, ht]
  exact ⟨RX6, TX6, 11, tyX6, rfl, by decide, k_inX6, tyX6_ok, nmX6, (k_in 166 (by decide +kernel) (by decide +kernel)), rfl, rfl, fun h => nomatch h⟩
theorem fX6_42 {G : am_G} (hG : k_ok G) : am_F G RX6 42 6 8 .boolean false := by
  obtain ⟨hc, ht, -⟩ := hG
  unfold am_F
  rw [hc, ht]
  exact ⟨RX6, TX6, 11, tyX6, rfl, by decide, k_inX6, tyX6_ok, nmX6, (k_in 167 (by decide +kernel) (by decide +kernel)), rfl, rfl, fun h => nomatch h⟩
theorem fX6_46 {G : am_G} (hG : k_ok G) : am_F G RX6 46 6 9 .boolean false := by
  obtain ⟨hc, ht, -⟩ := hG
  unfold am_F
  rw [hc, ht]
  exact ⟨RX6, TX6, 11, tyX6, rfl, by decide, k_inX6, tyX6_ok, nmX6, (k_in 168 (by decide +kernel) (by decide +kernel)), rfl, rfl, fun h => nomatch h⟩
theorem fX6_49 {G : am_G} (hG : k_ok G) : am_F G RX6 49 6 10 .boolean false := by
  obtain ⟨hc, ht, -⟩ := hG
  unfold am_F
  rw [hc, ht]
  exact ⟨RX6, TX6, 11, tyX6, rfl, by decide, k_inX6, tyX6_ok, nmX6, (k_in 169 (by decide +kernel) (by decide +kernel)), rfl, rfl, fun h => nomatch h⟩
theorem fX6_55 {G : am_G} (hG : k_ok G) : am_F G RX6 55 6 3 .int false := by
  obtain ⟨hc, ht, -⟩ := hG
  unfold am_F
  rw [hc, ht]
  exact ⟨RX6, TX6, 11, tyX6, rfl, by decide, k_inX6, tyX6_ok, nmX6, (k_in 161 (by decide +kernel) (by decide +kernel)), rfl, rfl, fun h => nomatch h⟩
theorem fX6_66 {G : am_G} (hG : k_ok G) : am_F G RX6 66 6 4 .int false := by
  obtain ⟨hc, ht, -⟩ := hG
  unfold am_F
  rw [hc, ht]
  exact ⟨RX6, TX6, 11, tyX6, rfl, by decide, k_inX6, tyX6_ok, nmX6, (k_in 163 (by decide +kernel) (by decide +kernel)), rfl, rfl, fun h => nomatch h⟩
theorem fX6_76 {G : am_G} (hG : k_ok G) : am_F G RX6 76 6 6 .int false := by
  obtain ⟨hc, ht, -⟩ := hG
  unfold am_F
  rw [hc, ht]
  exact ⟨RX6, TX6, 11, tyX6, rfl, by decide, k_inX6, tyX6_ok, nmX6, (k_in 165 (by decide +kernel) (by decide +kernel)), rfl, rfl, fun h => nomatch h⟩
theorem fX6_146 {G : am_G} (hG : k_ok G) : am_F G RX6 146 9 0 .int false := by
  obtain ⟨hc, ht, -⟩ := hG
  unfold am_F
  rw [hc, ht]
  exact ⟨RX9, TX9, 13, tyX9, rfl, by decide, k_inX9, tyX9_ok, nmX9, (k_in 279 (by decide +kernel) (by decide +kernel)), rfl, rfl, fun h => nomatch h⟩
theorem fX6_160 {G : am_G} (hG : k_ok G) : am_Fr G RX6 160 9 11 (.object "StrangeKnives$Loaves") := by
  obtain ⟨hc, ht, -⟩ := hG
  unfold am_Fr
  rw [hc, ht]
  exact ⟨RX9, TX9, 13, tyX9, rfl, by decide, k_inX9, tyX9_ok, nmX9, (k_in 316 (by decide +kernel) (by decide +kernel)), rfl⟩
theorem fX6_164 {G : am_G} (hG : k_ok G) : am_F G RX6 164 3 0 .int false := by
  obtain ⟨hc, ht, -⟩ := hG
  unfold am_F
  rw [hc, ht]
  exact ⟨RX3, TX3, 8, tyX3, rfl, by decide, k_inX3, tyX3_ok, nmX3, (k_in 211 (by decide +kernel) (by decide +kernel)), rfl, rfl, fun h => nomatch h⟩
theorem fX6_169 {G : am_G} (hG : k_ok G) : am_Fr G RX6 169 3 1 (.array .int) := by
  obtain ⟨hc, ht, -⟩ := hG
  unfold am_Fr
  rw [hc, ht]
  exact ⟨RX3, TX3, 8, tyX3, rfl, by decide, k_inX3, tyX3_ok, nmX3, (k_in 215 (by decide +kernel) (by decide +kernel)), rfl⟩
theorem fX6_173 {G : am_G} (hG : k_ok G) : am_Fr G RX6 173 3 2 (.array .int) := by
  obtain ⟨hc, ht, -⟩ := hG
  unfold am_Fr
  rw [hc, ht]
  exact ⟨RX3, TX3, 8, tyX3, rfl, by decide, k_inX3, tyX3_ok, nmX3, (k_in 219 (by decide +kernel) (by decide +kernel)), rfl⟩
theorem fX6_176 {G : am_G} (hG : k_ok G) : am_Fr G RX6 176 3 3 (.array .int) := by
  obtain ⟨hc, ht, -⟩ := hG
  unfold am_Fr
  rw [hc, ht]
  exact ⟨RX3, TX3, 8, tyX3, rfl, by decide, k_inX3, tyX3_ok, nmX3, (k_in 223 (by decide +kernel) (by decide +kernel)), rfl⟩
theorem fX6_179 {G : am_G} (hG : k_ok G) : am_Fr G RX6 179 3 4 (.array .int) := by
  obtain ⟨hc, ht, -⟩ := hG
  unfold am_Fr
  rw [hc, ht]
  exact ⟨RX3, TX3, 8, tyX3, rfl, by decide, k_inX3, tyX3_ok, nmX3, (k_in 227 (by decide +kernel) (by decide +kernel)), rfl⟩
theorem fX6_182 {G : am_G} (hG : k_ok G) : am_Fr G RX6 182 3 5 (.array .int) := by
  obtain ⟨hc, ht, -⟩ := hG
  unfold am_Fr
  rw [hc, ht]
  exact ⟨RX3, TX3, 8, tyX3, rfl, by decide, k_inX3, tyX3_ok, nmX3, (k_in 230 (by decide +kernel) (by decide +kernel)), rfl⟩
theorem fX6_185 {G : am_G} (hG : k_ok G) : am_Fr G RX6 185 3 6 (.array .int) := by
  obtain ⟨hc, ht, -⟩ := hG
  unfold am_Fr
  rw [hc, ht]
  exact ⟨RX3, TX3, 8, tyX3, rfl, by decide, k_inX3, tyX3_ok, nmX3, (k_in 236 (by decide +kernel) (by decide +kernel)), rfl⟩
theorem fX6_196 {G : am_G} (hG : k_ok G) : am_F G RX6 196 9 1 .int false := by
  obtain ⟨hc, ht, -⟩ := hG
  unfold am_F
  rw [hc, ht]
  exact ⟨RX9, TX9, 13, tyX9, rfl, by decide, k_inX9, tyX9_ok, nmX9, (k_in 282 (by decide +kernel) (by decide +kernel)), rfl, rfl, fun h => nomatch h⟩
theorem fX6_202 {G : am_G} (hG : k_ok G) : am_F G RX6 202 9 2 .int false := by
  obtain ⟨hc, ht, -⟩ := hG
  unfold am_F
  rw [hc, ht]
  exact ⟨RX9, TX9, 13, tyX9, rfl, by decide, k_inX9, tyX9_ok, nmX9, (k_in 286 (by decide +kernel) (by decide +kernel)), rfl, rfl, fun h => nomatch h⟩
theorem fX6_205 {G : am_G} (hG : k_ok G) : am_F G RX6 205 9 3 .int false := by
  obtain ⟨hc, ht, -⟩ := hG
  unfold am_F
  rw [hc, ht]
  exact ⟨RX9, TX9, 13, tyX9, rfl, by decide, k_inX9, tyX9_ok, nmX9, (k_in 290 (by decide +kernel) (by decide +kernel)), rfl, rfl, fun h => nomatch h⟩
theorem fX6_208 {G : am_G} (hG : k_ok G) : am_Fr G RX6 208 9 12 (.object "StrangeKnives$Rule") := by
  obtain ⟨hc, ht, -⟩ := hG
  unfold am_Fr
  rw [hc, ht]
  exact ⟨RX9, TX9, 13, tyX9, rfl, by decide, k_inX9, tyX9_ok, nmX9, (k_in 319 (by decide +kernel) (by decide +kernel)), rfl⟩
theorem fX7_9 {G : am_G} (hG : k_ok G) : am_F G RX7 9 7 0 (.array .int) true := by
  obtain ⟨hc, ht, -⟩ := hG
  unfold am_F
  rw [hc, ht]
  exact ⟨RX7, TX7, 3, tyX7, rfl, by decide, k_inX7, tyX7_ok, nmX7, (k_in 262 (by decide +kernel) (by decide +kernel)), rfl, rfl, fun _ => rfl⟩
theorem fX7_15 {G : am_G} (hG : k_ok G) : am_F G RX7 15 7 1 (.array .int) true := by
  obtain ⟨hc, ht, -⟩ := hG
  unfold am_F
  rw [hc, ht]
  exact ⟨RX7, TX7, 3, tyX7, rfl, by decide, k_inX7, tyX7_ok, nmX7, (k_in 263 (by decide +kernel) (by decide +kernel)), rfl, rfl, fun _ => rfl⟩
theorem fX7_18 {G : am_G} (hG : k_ok G) : am_F G RX7 18 7 2 .int false := by
  obtain ⟨hc, ht, -⟩ := hG
  unfold am_F
  rw [hc, ht]
  exact ⟨RX7, TX7, 3, tyX7, rfl, by decide, k_inX7, tyX7_ok, nmX7, (k_in 264 (by decide +kernel) (by decide +kernel)), rfl, rfl, fun h => nomatch h⟩
theorem fX8_12 {G : am_G} (hG : k_ok G) : am_F G RX8 12 8 0 (.object "StrangeKnives$Days") true := by
  obtain ⟨hc, ht, -⟩ := hG
  unfold am_F
  rw [hc, ht]
  exact ⟨RX8, TX8, 6, tyX8, rfl, by decide, k_inX8, tyX8_ok, nmX8, (k_in 394 (by decide +kernel) (by decide +kernel)), rfl, rfl, fun _ => rfl⟩
theorem fX8_18 {G : am_G} (hG : k_ok G) : am_F G RX8 18 8 1 (.object "StrangeKnives$Days") true := by
  obtain ⟨hc, ht, -⟩ := hG
  unfold am_F
  rw [hc, ht]
  exact ⟨RX8, TX8, 6, tyX8, rfl, by decide, k_inX8, tyX8_ok, nmX8, (k_in 395 (by decide +kernel) (by decide +kernel)), rfl, rfl, fun _ => rfl⟩
theorem fX8_21 {G : am_G} (hG : k_ok G) : am_F G RX8 21 8 2 (.array .int) true := by
  obtain ⟨hc, ht, -⟩ := hG
  unfold am_F
  rw [hc, ht]
  exact ⟨RX8, TX8, 6, tyX8, rfl, by decide, k_inX8, tyX8_ok, nmX8, (k_in 397 (by decide +kernel) (by decide +kernel)), rfl, rfl, fun _ => rfl⟩
theorem fX8_25 {G : am_G} (hG : k_ok G) : am_F G RX8 25 8 3 (.array .int) true := by
  obtain ⟨hc, ht, -⟩ := hG
  unfold am_F
  rw [hc, ht]
  exact ⟨RX8, TX8, 6, tyX8, rfl, by decide, k_inX8, tyX8_ok, nmX8, (k_in 398 (by decide +kernel) (by decide +kernel)), rfl, rfl, fun _ => rfl⟩
theorem fX8_28 {G : am_G} (hG : k_ok G) : am_F G RX8 28 8 4 (.array .int) true := by
  obtain ⟨hc, ht, -⟩ := hG
  unfold am_F
  rw [hc, ht]
  exact ⟨RX8, TX8, 6, tyX8, rfl, by decide, k_inX8, tyX8_ok, nmX8, (k_in 399 (by decide +kernel) (by decide +kernel)), rfl, rfl, fun _ => rfl⟩
theorem fX8_39 {G : am_G} (hG : k_ok G) : am_F G RX8 39 8 5 .int false := by
  obtain ⟨hc, ht, -⟩ := hG
  unfold am_F
  rw [hc, ht]
  exact ⟨RX8, TX8, 6, tyX8, rfl, by decide, k_inX8, tyX8_ok, nmX8, (k_in 400 (by decide +kernel) (by decide +kernel)), rfl, rfl, fun h => nomatch h⟩
theorem fX8_56 {G : am_G} (hG : k_ok G) : am_Fr G RX8 56 2 3 (.array .int) := by
  obtain ⟨hc, ht, -⟩ := hG
  unfold am_Fr
  rw [hc, ht]
  exact ⟨RX2, TX2, 5, tyX2, rfl, by decide, k_inX2, tyX2_ok, nmX2, (k_in 377 (by decide +kernel) (by decide +kernel)), rfl⟩
theorem fX8_59 {G : am_G} (hG : k_ok G) : am_F G RX8 59 2 0 .int false := by
  obtain ⟨hc, ht, -⟩ := hG
  unfold am_F
  rw [hc, ht]
  exact ⟨RX2, TX2, 5, tyX2, rfl, by decide, k_inX2, tyX2_ok, nmX2, (k_in 368 (by decide +kernel) (by decide +kernel)), rfl, rfl, fun h => nomatch h⟩
theorem fX8_66 {G : am_G} (hG : k_ok G) : am_Fr G RX8 66 2 4 (.array .int) := by
  obtain ⟨hc, ht, -⟩ := hG
  unfold am_Fr
  rw [hc, ht]
  exact ⟨RX2, TX2, 5, tyX2, rfl, by decide, k_inX2, tyX2_ok, nmX2, (k_in 382 (by decide +kernel) (by decide +kernel)), rfl⟩
theorem fX9_9 {G : am_G} (hG : k_ok G) : am_F G RX9 9 9 4 (.array .int) true := by
  obtain ⟨hc, ht, -⟩ := hG
  unfold am_F
  rw [hc, ht]
  exact ⟨RX9, TX9, 13, tyX9, rfl, by decide, k_inX9, tyX9_ok, nmX9, (k_in 291 (by decide +kernel) (by decide +kernel)), rfl, rfl, fun _ => rfl⟩
theorem fX9_15 {G : am_G} (hG : k_ok G) : am_F G RX9 15 9 5 (.array .int) true := by
  obtain ⟨hc, ht, -⟩ := hG
  unfold am_F
  rw [hc, ht]
  exact ⟨RX9, TX9, 13, tyX9, rfl, by decide, k_inX9, tyX9_ok, nmX9, (k_in 295 (by decide +kernel) (by decide +kernel)), rfl, rfl, fun _ => rfl⟩
theorem fX9_18 {G : am_G} (hG : k_ok G) : am_F G RX9 18 9 6 (.array .int) true := by
  obtain ⟨hc, ht, -⟩ := hG
  unfold am_F
  rw [hc, ht]
  exact ⟨RX9, TX9, 13, tyX9, rfl, by decide, k_inX9, tyX9_ok, nmX9, (k_in 299 (by decide +kernel) (by decide +kernel)), rfl, rfl, fun _ => rfl⟩
theorem fX9_21 {G : am_G} (hG : k_ok G) : am_F G RX9 21 9 7 (.array .int) true := by
  obtain ⟨hc, ht, -⟩ := hG
  unfold am_F
  rw [hc, ht]
  exact ⟨RX9, TX9, 13, tyX9, rfl, by decide, k_inX9, tyX9_ok, nmX9, (k_in 302 (by decide +kernel) (by decide +kernel)), rfl, rfl, fun _ => rfl⟩
theorem fX9_24 {G : am_G} (hG : k_ok G) : am_F G RX9 24 9 8 (.array .int) true := by
  obtain ⟨hc, ht, -⟩ := hG
  unfold am_F
  rw [hc, ht]
  exact ⟨RX9, TX9, 13, tyX9, rfl, by decide, k_inX9, tyX9_ok, nmX9, (k_in 305 (by decide +kernel) (by decide +kernel)), rfl, rfl, fun _ => rfl⟩
theorem fX9_27 {G : am_G} (hG : k_ok G) : am_F G RX9 27 9 9 (.array .int) true := by
  obtain ⟨hc, ht, -⟩ := hG
  unfold am_F
  rw [hc, ht]
  exact ⟨RX9, TX9, 13, tyX9, rfl, by decide, k_inX9, tyX9_ok, nmX9, (k_in 307 (by decide +kernel) (by decide +kernel)), rfl, rfl, fun _ => rfl⟩
theorem fX9_30 {G : am_G} (hG : k_ok G) : am_F G RX9 30 9 10 (.array .int) true := by
  obtain ⟨hc, ht, -⟩ := hG
  unfold am_F
  rw [hc, ht]
  exact ⟨RX9, TX9, 13, tyX9, rfl, by decide, k_inX9, tyX9_ok, nmX9, (k_in 309 (by decide +kernel) (by decide +kernel)), rfl, rfl, fun _ => rfl⟩
theorem fX9_36 {G : am_G} (hG : k_ok G) : am_F G RX9 36 9 11 (.object "StrangeKnives$Loaves") true := by
  obtain ⟨hc, ht, -⟩ := hG
  unfold am_F
  rw [hc, ht]
  exact ⟨RX9, TX9, 13, tyX9, rfl, by decide, k_inX9, tyX9_ok, nmX9, (k_in 311 (by decide +kernel) (by decide +kernel)), rfl, rfl, fun _ => rfl⟩
theorem fX9_43 {G : am_G} (hG : k_ok G) : am_F G RX9 43 9 12 (.object "StrangeKnives$Rule") true := by
  obtain ⟨hc, ht, -⟩ := hG
  unfold am_F
  rw [hc, ht]
  exact ⟨RX9, TX9, 13, tyX9, rfl, by decide, k_inX9, tyX9_ok, nmX9, (k_in 317 (by decide +kernel) (by decide +kernel)), rfl, rfl, fun _ => rfl⟩
theorem fX9_47 {G : am_G} (hG : k_ok G) : am_F G RX9 47 9 0 .int false := by
  obtain ⟨hc, ht, -⟩ := hG
  unfold am_F
  rw [hc, ht]
  exact ⟨RX9, TX9, 13, tyX9, rfl, by decide, k_inX9, tyX9_ok, nmX9, (k_in 274 (by decide +kernel) (by decide +kernel)), rfl, rfl, fun h => nomatch h⟩
theorem fX9_51 {G : am_G} (hG : k_ok G) : am_F G RX9 51 9 1 .int false := by
  obtain ⟨hc, ht, -⟩ := hG
  unfold am_F
  rw [hc, ht]
  exact ⟨RX9, TX9, 13, tyX9, rfl, by decide, k_inX9, tyX9_ok, nmX9, (k_in 280 (by decide +kernel) (by decide +kernel)), rfl, rfl, fun h => nomatch h⟩
theorem fX9_54 {G : am_G} (hG : k_ok G) : am_F G RX9 54 9 2 .int false := by
  obtain ⟨hc, ht, -⟩ := hG
  unfold am_F
  rw [hc, ht]
  exact ⟨RX9, TX9, 13, tyX9, rfl, by decide, k_inX9, tyX9_ok, nmX9, (k_in 283 (by decide +kernel) (by decide +kernel)), rfl, rfl, fun h => nomatch h⟩
theorem fX9_57 {G : am_G} (hG : k_ok G) : am_F G RX9 57 9 3 .int false := by
  obtain ⟨hc, ht, -⟩ := hG
  unfold am_F
  rw [hc, ht]
  exact ⟨RX9, TX9, 13, tyX9, rfl, by decide, k_inX9, tyX9_ok, nmX9, (k_in 287 (by decide +kernel) (by decide +kernel)), rfl, rfl, fun h => nomatch h⟩
theorem fX9_60 {G : am_G} (hG : k_ok G) : am_F G RX9 60 3 0 .int false := by
  obtain ⟨hc, ht, -⟩ := hG
  unfold am_F
  rw [hc, ht]
  exact ⟨RX3, TX3, 8, tyX3, rfl, by decide, k_inX3, tyX3_ok, nmX3, (k_in 206 (by decide +kernel) (by decide +kernel)), rfl, rfl, fun h => nomatch h⟩
theorem fX9_63 {G : am_G} (hG : k_ok G) : am_F G RX9 63 7 2 .int false := by
  obtain ⟨hc, ht, -⟩ := hG
  unfold am_F
  rw [hc, ht]
  exact ⟨RX7, TX7, 3, tyX7, rfl, by decide, k_inX7, tyX7_ok, nmX7, (k_in 265 (by decide +kernel) (by decide +kernel)), rfl, rfl, fun h => nomatch h⟩
theorem fX9_70 {G : am_G} (hG : k_ok G) : am_Fr G RX9 70 3 6 (.array .int) := by
  obtain ⟨hc, ht, -⟩ := hG
  unfold am_Fr
  rw [hc, ht]
  exact ⟨RX3, TX3, 8, tyX3, rfl, by decide, k_inX3, tyX3_ok, nmX3, (k_in 235 (by decide +kernel) (by decide +kernel)), rfl⟩
theorem fX11_19 {G : am_G} (hG : k_ok G) : am_F G RX11 19 11 0 (.array (.object "java/lang/String")) true := by
  obtain ⟨hc, ht, -⟩ := hG
  unfold am_F
  rw [hc, ht]
  exact ⟨RX11, TX11, 69, tyX11, rfl, by decide, k_inX11, tyX11_ok, nmX11, (k_in 1476 (by decide +kernel) (by decide +kernel)), rfl, rfl, fun _ => rfl⟩
theorem fX11_35 {G : am_G} (hG : k_ok G) : am_F G RX11 35 11 1 (.array (.object "java/lang/String")) true := by
  obtain ⟨hc, ht, -⟩ := hG
  unfold am_F
  rw [hc, ht]
  exact ⟨RX11, TX11, 69, tyX11, rfl, by decide, k_inX11, tyX11_ok, nmX11, (k_in 1477 (by decide +kernel) (by decide +kernel)), rfl, rfl, fun _ => rfl⟩
theorem fX11_38 {G : am_G} (hG : k_ok G) : am_F G RX11 38 11 3 (.array .int) true := by
  obtain ⟨hc, ht, -⟩ := hG
  unfold am_F
  rw [hc, ht]
  exact ⟨RX11, TX11, 69, tyX11, rfl, by decide, k_inX11, tyX11_ok, nmX11, (k_in 1479 (by decide +kernel) (by decide +kernel)), rfl, rfl, fun _ => rfl⟩
theorem fX11_42 {G : am_G} (hG : k_ok G) : am_F G RX11 42 11 4 (.array .int) true := by
  obtain ⟨hc, ht, -⟩ := hG
  unfold am_F
  rw [hc, ht]
  exact ⟨RX11, TX11, 69, tyX11, rfl, by decide, k_inX11, tyX11_ok, nmX11, (k_in 1480 (by decide +kernel) (by decide +kernel)), rfl, rfl, fun _ => rfl⟩
theorem fX11_44 {G : am_G} (hG : k_ok G) : am_F G RX11 44 11 5 (.array .int) true := by
  obtain ⟨hc, ht, -⟩ := hG
  unfold am_F
  rw [hc, ht]
  exact ⟨RX11, TX11, 69, tyX11, rfl, by decide, k_inX11, tyX11_ok, nmX11, (k_in 1481 (by decide +kernel) (by decide +kernel)), rfl, rfl, fun _ => rfl⟩
theorem fX11_47 {G : am_G} (hG : k_ok G) : am_F G RX11 47 11 6 (.array .int) true := by
  obtain ⟨hc, ht, -⟩ := hG
  unfold am_F
  rw [hc, ht]
  exact ⟨RX11, TX11, 69, tyX11, rfl, by decide, k_inX11, tyX11_ok, nmX11, (k_in 1482 (by decide +kernel) (by decide +kernel)), rfl, rfl, fun _ => rfl⟩
theorem fX11_49 {G : am_G} (hG : k_ok G) : am_F G RX11 49 11 7 (.array .int) true := by
  obtain ⟨hc, ht, -⟩ := hG
  unfold am_F
  rw [hc, ht]
  exact ⟨RX11, TX11, 69, tyX11, rfl, by decide, k_inX11, tyX11_ok, nmX11, (k_in 1483 (by decide +kernel) (by decide +kernel)), rfl, rfl, fun _ => rfl⟩
theorem fX11_52 {G : am_G} (hG : k_ok G) : am_F G RX11 52 11 8 (.array .int) true := by
  obtain ⟨hc, ht, -⟩ := hG
  unfold am_F
  rw [hc, ht]
  exact ⟨RX11, TX11, 69, tyX11, rfl, by decide, k_inX11, tyX11_ok, nmX11, (k_in 1484 (by decide +kernel) (by decide +kernel)), rfl, rfl, fun _ => rfl⟩
theorem fX11_55 {G : am_G} (hG : k_ok G) : am_F G RX11 55 11 9 (.array .int) true := by
  obtain ⟨hc, ht, -⟩ := hG
  unfold am_F
  rw [hc, ht]
  exact ⟨RX11, TX11, 69, tyX11, rfl, by decide, k_inX11, tyX11_ok, nmX11, (k_in 1485 (by decide +kernel) (by decide +kernel)), rfl, rfl, fun _ => rfl⟩
theorem fX11_58 {G : am_G} (hG : k_ok G) : am_F G RX11 58 11 10 (.array .int) true := by
  obtain ⟨hc, ht, -⟩ := hG
  unfold am_F
  rw [hc, ht]
  exact ⟨RX11, TX11, 69, tyX11, rfl, by decide, k_inX11, tyX11_ok, nmX11, (k_in 1486 (by decide +kernel) (by decide +kernel)), rfl, rfl, fun _ => rfl⟩
theorem fX11_61 {G : am_G} (hG : k_ok G) : am_F G RX11 61 11 11 (.array .int) true := by
  obtain ⟨hc, ht, -⟩ := hG
  unfold am_F
  rw [hc, ht]
  exact ⟨RX11, TX11, 69, tyX11, rfl, by decide, k_inX11, tyX11_ok, nmX11, (k_in 1487 (by decide +kernel) (by decide +kernel)), rfl, rfl, fun _ => rfl⟩
theorem fX11_64 {G : am_G} (hG : k_ok G) : am_F G RX11 64 11 12 (.array .int) true := by
  obtain ⟨hc, ht, -⟩ := hG
  unfold am_F
  rw [hc, ht]
  exact ⟨RX11, TX11, 69, tyX11, rfl, by decide, k_inX11, tyX11_ok, nmX11, (k_in 1488 (by decide +kernel) (by decide +kernel)), rfl, rfl, fun _ => rfl⟩
theorem fX11_67 {G : am_G} (hG : k_ok G) : am_F G RX11 67 11 13 (.array .int) true := by
  obtain ⟨hc, ht, -⟩ := hG
  unfold am_F
  rw [hc, ht]
  exact ⟨RX11, TX11, 69, tyX11, rfl, by decide, k_inX11, tyX11_ok, nmX11, (k_in 1489 (by decide +kernel) (by decide +kernel)), rfl, rfl, fun _ => rfl⟩
theorem fX11_70 {G : am_G} (hG : k_ok G) : am_F G RX11 70 11 14 (.array .int) true := by
  obtain ⟨hc, ht, -⟩ := hG
  unfold am_F
  rw [hc, ht]
  exact ⟨RX11, TX11, 69, tyX11, rfl, by decide, k_inX11, tyX11_ok, nmX11, (k_in 1490 (by decide +kernel) (by decide +kernel)), rfl, rfl, fun _ => rfl⟩
theorem fX11_73 {G : am_G} (hG : k_ok G) : am_F G RX11 73 11 15 (.array .int) true := by
  obtain ⟨hc, ht, -⟩ := hG
  unfold am_F
  rw [hc, ht]
  exact ⟨RX11, TX11, 69, tyX11, rfl, by decide, k_inX11, tyX11_ok, nmX11, (k_in 1491 (by decide +kernel) (by decide +kernel)), rfl, rfl, fun _ => rfl⟩
theorem fX11_76 {G : am_G} (hG : k_ok G) : am_F G RX11 76 11 16 (.array .int) true := by
  obtain ⟨hc, ht, -⟩ := hG
  unfold am_F
  rw [hc, ht]
  exact ⟨RX11, TX11, 69, tyX11, rfl, by decide, k_inX11, tyX11_ok, nmX11, (k_in 1492 (by decide +kernel) (by decide +kernel)), rfl, rfl, fun _ => rfl⟩
theorem fX11_79 {G : am_G} (hG : k_ok G) : am_F G RX11 79 11 26 .int false := by
  obtain ⟨hc, ht, -⟩ := hG
  unfold am_F
  rw [hc, ht]
  exact ⟨RX11, TX11, 69, tyX11, rfl, by decide, k_inX11, tyX11_ok, nmX11, (k_in 1502 (by decide +kernel) (by decide +kernel)), rfl, rfl, fun h => nomatch h⟩
theorem fX11_83 {G : am_G} (hG : k_ok G) : am_F G RX11 83 11 27 (.array .int) true := by
  obtain ⟨hc, ht, -⟩ := hG
  unfold am_F
  rw [hc, ht]
  exact ⟨RX11, TX11, 69, tyX11, rfl, by decide, k_inX11, tyX11_ok, nmX11, (k_in 1503 (by decide +kernel) (by decide +kernel)), rfl, rfl, fun _ => rfl⟩
theorem fX11_86 {G : am_G} (hG : k_ok G) : am_F G RX11 86 11 28 (.array .int) true := by
  obtain ⟨hc, ht, -⟩ := hG
  unfold am_F
  rw [hc, ht]
  exact ⟨RX11, TX11, 69, tyX11, rfl, by decide, k_inX11, tyX11_ok, nmX11, (k_in 1504 (by decide +kernel) (by decide +kernel)), rfl, rfl, fun _ => rfl⟩
theorem fX11_88 {G : am_G} (hG : k_ok G) : am_F G RX11 88 11 29 (.array .int) true := by
  obtain ⟨hc, ht, -⟩ := hG
  unfold am_F
  rw [hc, ht]
  exact ⟨RX11, TX11, 69, tyX11, rfl, by decide, k_inX11, tyX11_ok, nmX11, (k_in 1505 (by decide +kernel) (by decide +kernel)), rfl, rfl, fun _ => rfl⟩
theorem fX11_91 {G : am_G} (hG : k_ok G) : am_F G RX11 91 11 35 (.array .int) true := by
  obtain ⟨hc, ht, -⟩ := hG
  unfold am_F
  rw [hc, ht]
  exact ⟨RX11, TX11, 69, tyX11, rfl, by decide, k_inX11, tyX11_ok, nmX11, (k_in 1511 (by decide +kernel) (by decide +kernel)), rfl, rfl, fun _ => rfl⟩
theorem fX11_94 {G : am_G} (hG : k_ok G) : am_F G RX11 94 11 36 (.array .int) true := by
  obtain ⟨hc, ht, -⟩ := hG
  unfold am_F
  rw [hc, ht]
  exact ⟨RX11, TX11, 69, tyX11, rfl, by decide, k_inX11, tyX11_ok, nmX11, (k_in 1512 (by decide +kernel) (by decide +kernel)), rfl, rfl, fun _ => rfl⟩
theorem fX11_97 {G : am_G} (hG : k_ok G) : am_F G RX11 97 11 37 (.array .int) true := by
  obtain ⟨hc, ht, -⟩ := hG
  unfold am_F
  rw [hc, ht]
  exact ⟨RX11, TX11, 69, tyX11, rfl, by decide, k_inX11, tyX11_ok, nmX11, (k_in 1513 (by decide +kernel) (by decide +kernel)), rfl, rfl, fun _ => rfl⟩
theorem fX11_99 {G : am_G} (hG : k_ok G) : am_F G RX11 99 11 38 (.array .int) true := by
  obtain ⟨hc, ht, -⟩ := hG
  unfold am_F
  rw [hc, ht]
  exact ⟨RX11, TX11, 69, tyX11, rfl, by decide, k_inX11, tyX11_ok, nmX11, (k_in 1514 (by decide +kernel) (by decide +kernel)), rfl, rfl, fun _ => rfl⟩
theorem fX11_102 {G : am_G} (hG : k_ok G) : am_F G RX11 102 11 39 (.array .int) true := by
  obtain ⟨hc, ht, -⟩ := hG
  unfold am_F
  rw [hc, ht]
  exact ⟨RX11, TX11, 69, tyX11, rfl, by decide, k_inX11, tyX11_ok, nmX11, (k_in 1515 (by decide +kernel) (by decide +kernel)), rfl, rfl, fun _ => rfl⟩
theorem fX11_105 {G : am_G} (hG : k_ok G) : am_F G RX11 105 11 42 (.array .int) true := by
  obtain ⟨hc, ht, -⟩ := hG
  unfold am_F
  rw [hc, ht]
  exact ⟨RX11, TX11, 69, tyX11, rfl, by decide, k_inX11, tyX11_ok, nmX11, (k_in 1518 (by decide +kernel) (by decide +kernel)), rfl, rfl, fun _ => rfl⟩
theorem fX11_108 {G : am_G} (hG : k_ok G) : am_F G RX11 108 11 43 (.array .int) true := by
  obtain ⟨hc, ht, -⟩ := hG
  unfold am_F
  rw [hc, ht]
  exact ⟨RX11, TX11, 69, tyX11, rfl, by decide, k_inX11, tyX11_ok, nmX11, (k_in 1519 (by decide +kernel) (by decide +kernel)), rfl, rfl, fun _ => rfl⟩
theorem fX11_111 {G : am_G} (hG : k_ok G) : am_F G RX11 111 11 47 (.array .int) true := by
  obtain ⟨hc, ht, -⟩ := hG
  unfold am_F
  rw [hc, ht]
  exact ⟨RX11, TX11, 69, tyX11, rfl, by decide, k_inX11, tyX11_ok, nmX11, (k_in 1523 (by decide +kernel) (by decide +kernel)), rfl, rfl, fun _ => rfl⟩
theorem fX11_114 {G : am_G} (hG : k_ok G) : am_F G RX11 114 11 48 (.array .int) true := by
  obtain ⟨hc, ht, -⟩ := hG
  unfold am_F
  rw [hc, ht]
  exact ⟨RX11, TX11, 69, tyX11, rfl, by decide, k_inX11, tyX11_ok, nmX11, (k_in 1524 (by decide +kernel) (by decide +kernel)), rfl, rfl, fun _ => rfl⟩
theorem fX11_117 {G : am_G} (hG : k_ok G) : am_F G RX11 117 11 49 (.array .int) true := by
  obtain ⟨hc, ht, -⟩ := hG
  unfold am_F
  rw [hc, ht]
  exact ⟨RX11, TX11, 69, tyX11, rfl, by decide, k_inX11, tyX11_ok, nmX11, (k_in 1525 (by decide +kernel) (by decide +kernel)), rfl, rfl, fun _ => rfl⟩
theorem fX11_120 {G : am_G} (hG : k_ok G) : am_F G RX11 120 11 51 (.array .int) true := by
  obtain ⟨hc, ht, -⟩ := hG
  unfold am_F
  rw [hc, ht]
  exact ⟨RX11, TX11, 69, tyX11, rfl, by decide, k_inX11, tyX11_ok, nmX11, (k_in 1527 (by decide +kernel) (by decide +kernel)), rfl, rfl, fun _ => rfl⟩
theorem fX11_123 {G : am_G} (hG : k_ok G) : am_F G RX11 123 11 52 (.array .int) true := by
  obtain ⟨hc, ht, -⟩ := hG
  unfold am_F
  rw [hc, ht]
  exact ⟨RX11, TX11, 69, tyX11, rfl, by decide, k_inX11, tyX11_ok, nmX11, (k_in 1528 (by decide +kernel) (by decide +kernel)), rfl, rfl, fun _ => rfl⟩
theorem fX11_126 {G : am_G} (hG : k_ok G) : am_F G RX11 126 11 53 (.array .int) true := by
  obtain ⟨hc, ht, -⟩ := hG
  unfold am_F
  rw [hc, ht]
  exact ⟨RX11, TX11, 69, tyX11, rfl, by decide, k_inX11, tyX11_ok, nmX11, (k_in 1529 (by decide +kernel) (by decide +kernel)), rfl, rfl, fun _ => rfl⟩
theorem fX11_129 {G : am_G} (hG : k_ok G) : am_F G RX11 129 11 54 (.array .int) true := by
  obtain ⟨hc, ht, -⟩ := hG
  unfold am_F
  rw [hc, ht]
  exact ⟨RX11, TX11, 69, tyX11, rfl, by decide, k_inX11, tyX11_ok, nmX11, (k_in 1530 (by decide +kernel) (by decide +kernel)), rfl, rfl, fun _ => rfl⟩
theorem fX11_132 {G : am_G} (hG : k_ok G) : am_F G RX11 132 11 55 (.array .int) true := by
  obtain ⟨hc, ht, -⟩ := hG
  unfold am_F
  rw [hc, ht]
  exact ⟨RX11, TX11, 69, tyX11, rfl, by decide, k_inX11, tyX11_ok, nmX11, (k_in 1531 (by decide +kernel) (by decide +kernel)), rfl, rfl, fun _ => rfl⟩
theorem fX11_135 {G : am_G} (hG : k_ok G) : am_F G RX11 135 11 61 (.array .int) true := by
  obtain ⟨hc, ht, -⟩ := hG
  unfold am_F
  rw [hc, ht]
  exact ⟨RX11, TX11, 69, tyX11, rfl, by decide, k_inX11, tyX11_ok, nmX11, (k_in 1537 (by decide +kernel) (by decide +kernel)), rfl, rfl, fun _ => rfl⟩
theorem fX11_138 {G : am_G} (hG : k_ok G) : am_F G RX11 138 11 62 (.array .int) true := by
  obtain ⟨hc, ht, -⟩ := hG
  unfold am_F
  rw [hc, ht]
  exact ⟨RX11, TX11, 69, tyX11, rfl, by decide, k_inX11, tyX11_ok, nmX11, (k_in 1538 (by decide +kernel) (by decide +kernel)), rfl, rfl, fun _ => rfl⟩
theorem fX11_141 {G : am_G} (hG : k_ok G) : am_F G RX11 141 11 63 (.array .int) true := by
  obtain ⟨hc, ht, -⟩ := hG
  unfold am_F
  rw [hc, ht]
  exact ⟨RX11, TX11, 69, tyX11, rfl, by decide, k_inX11, tyX11_ok, nmX11, (k_in 1539 (by decide +kernel) (by decide +kernel)), rfl, rfl, fun _ => rfl⟩
theorem fX11_144 {G : am_G} (hG : k_ok G) : am_F G RX11 144 11 64 (.array .int) true := by
  obtain ⟨hc, ht, -⟩ := hG
  unfold am_F
  rw [hc, ht]
  exact ⟨RX11, TX11, 69, tyX11, rfl, by decide, k_inX11, tyX11_ok, nmX11, (k_in 1540 (by decide +kernel) (by decide +kernel)), rfl, rfl, fun _ => rfl⟩
theorem fX11_147 {G : am_G} (hG : k_ok G) : am_F G RX11 147 11 65 (.array .int) true := by
  obtain ⟨hc, ht, -⟩ := hG
  unfold am_F
  rw [hc, ht]
  exact ⟨RX11, TX11, 69, tyX11, rfl, by decide, k_inX11, tyX11_ok, nmX11, (k_in 1541 (by decide +kernel) (by decide +kernel)), rfl, rfl, fun _ => rfl⟩
theorem fX11_150 {G : am_G} (hG : k_ok G) : am_F G RX11 150 11 66 (.array .int) true := by
  obtain ⟨hc, ht, -⟩ := hG
  unfold am_F
  rw [hc, ht]
  exact ⟨RX11, TX11, 69, tyX11, rfl, by decide, k_inX11, tyX11_ok, nmX11, (k_in 1542 (by decide +kernel) (by decide +kernel)), rfl, rfl, fun _ => rfl⟩
theorem fX11_153 {G : am_G} (hG : k_ok G) : am_F G RX11 153 11 67 (.array .int) true := by
  obtain ⟨hc, ht, -⟩ := hG
  unfold am_F
  rw [hc, ht]
  exact ⟨RX11, TX11, 69, tyX11, rfl, by decide, k_inX11, tyX11_ok, nmX11, (k_in 1543 (by decide +kernel) (by decide +kernel)), rfl, rfl, fun _ => rfl⟩
theorem fX11_156 {G : am_G} (hG : k_ok G) : am_F G RX11 156 11 68 (.array .int) true := by
  obtain ⟨hc, ht, -⟩ := hG
  unfold am_F
  rw [hc, ht]
  exact ⟨RX11, TX11, 69, tyX11, rfl, by decide, k_inX11, tyX11_ok, nmX11, (k_in 1544 (by decide +kernel) (by decide +kernel)), rfl, rfl, fun _ => rfl⟩
theorem fX11_159 {G : am_G} (hG : k_ok G) : am_F G RX11 159 11 2 .int false := by
  obtain ⟨hc, ht, -⟩ := hG
  unfold am_F
  rw [hc, ht]
  exact ⟨RX11, TX11, 69, tyX11, rfl, by decide, k_inX11, tyX11_ok, nmX11, (k_in 1478 (by decide +kernel) (by decide +kernel)), rfl, rfl, fun h => nomatch h⟩
theorem fX11_166 {G : am_G} (hG : k_ok G) : am_F G RX11 166 11 17 .int false := by
  obtain ⟨hc, ht, -⟩ := hG
  unfold am_F
  rw [hc, ht]
  exact ⟨RX11, TX11, 69, tyX11, rfl, by decide, k_inX11, tyX11_ok, nmX11, (k_in 1493 (by decide +kernel) (by decide +kernel)), rfl, rfl, fun h => nomatch h⟩
theorem fX11_169 {G : am_G} (hG : k_ok G) : am_F G RX11 169 11 19 .int false := by
  obtain ⟨hc, ht, -⟩ := hG
  unfold am_F
  rw [hc, ht]
  exact ⟨RX11, TX11, 69, tyX11, rfl, by decide, k_inX11, tyX11_ok, nmX11, (k_in 1495 (by decide +kernel) (by decide +kernel)), rfl, rfl, fun h => nomatch h⟩
theorem fX11_171 {G : am_G} (hG : k_ok G) : am_F G RX11 171 11 18 .int false := by
  obtain ⟨hc, ht, -⟩ := hG
  unfold am_F
  rw [hc, ht]
  exact ⟨RX11, TX11, 69, tyX11, rfl, by decide, k_inX11, tyX11_ok, nmX11, (k_in 1494 (by decide +kernel) (by decide +kernel)), rfl, rfl, fun h => nomatch h⟩
theorem fX11_178 {G : am_G} (hG : k_ok G) : am_F G RX11 178 11 22 .int false := by
  obtain ⟨hc, ht, -⟩ := hG
  unfold am_F
  rw [hc, ht]
  exact ⟨RX11, TX11, 69, tyX11, rfl, by decide, k_inX11, tyX11_ok, nmX11, (k_in 1498 (by decide +kernel) (by decide +kernel)), rfl, rfl, fun h => nomatch h⟩
theorem fX11_181 {G : am_G} (hG : k_ok G) : am_F G RX11 181 11 20 .int false := by
  obtain ⟨hc, ht, -⟩ := hG
  unfold am_F
  rw [hc, ht]
  exact ⟨RX11, TX11, 69, tyX11, rfl, by decide, k_inX11, tyX11_ok, nmX11, (k_in 1496 (by decide +kernel) (by decide +kernel)), rfl, rfl, fun h => nomatch h⟩
theorem fX11_191 {G : am_G} (hG : k_ok G) : am_F G RX11 191 11 21 .int false := by
  obtain ⟨hc, ht, -⟩ := hG
  unfold am_F
  rw [hc, ht]
  exact ⟨RX11, TX11, 69, tyX11, rfl, by decide, k_inX11, tyX11_ok, nmX11, (k_in 1497 (by decide +kernel) (by decide +kernel)), rfl, rfl, fun h => nomatch h⟩
theorem fX11_204 {G : am_G} (hG : k_ok G) : am_F G RX11 204 11 23 .int false := by
  obtain ⟨hc, ht, -⟩ := hG
  unfold am_F
  rw [hc, ht]
  exact ⟨RX11, TX11, 69, tyX11, rfl, by decide, k_inX11, tyX11_ok, nmX11, (k_in 1499 (by decide +kernel) (by decide +kernel)), rfl, rfl, fun h => nomatch h⟩
theorem fX11_207 {G : am_G} (hG : k_ok G) : am_F G RX11 207 11 24 .int false := by
  obtain ⟨hc, ht, -⟩ := hG
  unfold am_F
  rw [hc, ht]
  exact ⟨RX11, TX11, 69, tyX11, rfl, by decide, k_inX11, tyX11_ok, nmX11, (k_in 1500 (by decide +kernel) (by decide +kernel)), rfl, rfl, fun h => nomatch h⟩
theorem fX11_210 {G : am_G} (hG : k_ok G) : am_F G RX11 210 11 25 .int false := by
  obtain ⟨hc, ht, -⟩ := hG
  unfold am_F
  rw [hc, ht]
  exact ⟨RX11, TX11, 69, tyX11, rfl, by decide, k_inX11, tyX11_ok, nmX11, (k_in 1501 (by decide +kernel) (by decide +kernel)), rfl, rfl, fun h => nomatch h⟩
theorem fX11_321 {G : am_G} (hG : k_ok G) : am_F G RX11 321 11 30 .int false := by
  obtain ⟨hc, ht, -⟩ := hG
  unfold am_F
  rw [hc, ht]
  exact ⟨RX11, TX11, 69, tyX11, rfl, by decide, k_inX11, tyX11_ok, nmX11, (k_in 1506 (by decide +kernel) (by decide +kernel)), rfl, rfl, fun h => nomatch h⟩
theorem fX11_324 {G : am_G} (hG : k_ok G) : am_F G RX11 324 11 31 .int false := by
  obtain ⟨hc, ht, -⟩ := hG
  unfold am_F
  rw [hc, ht]
  exact ⟨RX11, TX11, 69, tyX11, rfl, by decide, k_inX11, tyX11_ok, nmX11, (k_in 1507 (by decide +kernel) (by decide +kernel)), rfl, rfl, fun h => nomatch h⟩
theorem fX11_327 {G : am_G} (hG : k_ok G) : am_F G RX11 327 11 32 .int false := by
  obtain ⟨hc, ht, -⟩ := hG
  unfold am_F
  rw [hc, ht]
  exact ⟨RX11, TX11, 69, tyX11, rfl, by decide, k_inX11, tyX11_ok, nmX11, (k_in 1508 (by decide +kernel) (by decide +kernel)), rfl, rfl, fun h => nomatch h⟩
theorem fX11_330 {G : am_G} (hG : k_ok G) : am_F G RX11 330 11 33 .int false := by
  obtain ⟨hc, ht, -⟩ := hG
  unfold am_F
  rw [hc, ht]
  exact ⟨RX11, TX11, 69, tyX11, rfl, by decide, k_inX11, tyX11_ok, nmX11, (k_in 1509 (by decide +kernel) (by decide +kernel)), rfl, rfl, fun h => nomatch h⟩
theorem fX11_333 {G : am_G} (hG : k_ok G) : am_F G RX11 333 11 34 .int false := by
  obtain ⟨hc, ht, -⟩ := hG
  unfold am_F
  rw [hc, ht]
  exact ⟨RX11, TX11, 69, tyX11, rfl, by decide, k_inX11, tyX11_ok, nmX11, (k_in 1510 (by decide +kernel) (by decide +kernel)), rfl, rfl, fun h => nomatch h⟩
theorem fX11_336 {G : am_G} (hG : k_ok G) : am_F G RX11 336 11 45 .boolean false := by
  obtain ⟨hc, ht, -⟩ := hG
  unfold am_F
  rw [hc, ht]
  exact ⟨RX11, TX11, 69, tyX11, rfl, by decide, k_inX11, tyX11_ok, nmX11, (k_in 1521 (by decide +kernel) (by decide +kernel)), rfl, rfl, fun h => nomatch h⟩
theorem fX11_340 {G : am_G} (hG : k_ok G) : am_F G RX11 340 11 57 .boolean false := by
  obtain ⟨hc, ht, -⟩ := hG
  unfold am_F
  rw [hc, ht]
  exact ⟨RX11, TX11, 69, tyX11, rfl, by decide, k_inX11, tyX11_ok, nmX11, (k_in 1533 (by decide +kernel) (by decide +kernel)), rfl, rfl, fun h => nomatch h⟩
theorem fX11_371 {G : am_G} (hG : k_ok G) : am_F G RX11 371 11 40 .int false := by
  obtain ⟨hc, ht, -⟩ := hG
  unfold am_F
  rw [hc, ht]
  exact ⟨RX11, TX11, 69, tyX11, rfl, by decide, k_inX11, tyX11_ok, nmX11, (k_in 1516 (by decide +kernel) (by decide +kernel)), rfl, rfl, fun h => nomatch h⟩
theorem fX11_383 {G : am_G} (hG : k_ok G) : am_F G RX11 383 11 41 .int false := by
  obtain ⟨hc, ht, -⟩ := hG
  unfold am_F
  rw [hc, ht]
  exact ⟨RX11, TX11, 69, tyX11, rfl, by decide, k_inX11, tyX11_ok, nmX11, (k_in 1517 (by decide +kernel) (by decide +kernel)), rfl, rfl, fun h => nomatch h⟩
theorem fX11_441 {G : am_G} (hG : k_ok G) : am_F G RX11 441 11 46 .boolean false := by
  obtain ⟨hc, ht, -⟩ := hG
  unfold am_F
  rw [hc, ht]
  exact ⟨RX11, TX11, 69, tyX11, rfl, by decide, k_inX11, tyX11_ok, nmX11, (k_in 1522 (by decide +kernel) (by decide +kernel)), rfl, rfl, fun h => nomatch h⟩
theorem fX11_444 {G : am_G} (hG : k_ok G) : am_F G RX11 444 11 44 .int false := by
  obtain ⟨hc, ht, -⟩ := hG
  unfold am_F
  rw [hc, ht]
  exact ⟨RX11, TX11, 69, tyX11, rfl, by decide, k_inX11, tyX11_ok, nmX11, (k_in 1520 (by decide +kernel) (by decide +kernel)), rfl, rfl, fun h => nomatch h⟩
theorem fX11_463 {G : am_G} (hG : k_ok G) : am_F G RX11 463 11 50 .int false := by
  obtain ⟨hc, ht, -⟩ := hG
  unfold am_F
  rw [hc, ht]
  exact ⟨RX11, TX11, 69, tyX11, rfl, by decide, k_inX11, tyX11_ok, nmX11, (k_in 1526 (by decide +kernel) (by decide +kernel)), rfl, rfl, fun h => nomatch h⟩
theorem fX11_486 {G : am_G} (hG : k_ok G) : am_F G RX11 486 11 56 .int false := by
  obtain ⟨hc, ht, -⟩ := hG
  unfold am_F
  rw [hc, ht]
  exact ⟨RX11, TX11, 69, tyX11, rfl, by decide, k_inX11, tyX11_ok, nmX11, (k_in 1532 (by decide +kernel) (by decide +kernel)), rfl, rfl, fun h => nomatch h⟩
theorem fX11_497 {G : am_G} (hG : k_ok G) : am_F G RX11 497 11 58 .int false := by
  obtain ⟨hc, ht, -⟩ := hG
  unfold am_F
  rw [hc, ht]
  exact ⟨RX11, TX11, 69, tyX11, rfl, by decide, k_inX11, tyX11_ok, nmX11, (k_in 1534 (by decide +kernel) (by decide +kernel)), rfl, rfl, fun h => nomatch h⟩
theorem fX11_500 {G : am_G} (hG : k_ok G) : am_F G RX11 500 11 59 .int false := by
  obtain ⟨hc, ht, -⟩ := hG
  unfold am_F
  rw [hc, ht]
  exact ⟨RX11, TX11, 69, tyX11, rfl, by decide, k_inX11, tyX11_ok, nmX11, (k_in 1535 (by decide +kernel) (by decide +kernel)), rfl, rfl, fun h => nomatch h⟩
theorem fX11_503 {G : am_G} (hG : k_ok G) : am_F G RX11 503 11 60 .int false := by
  obtain ⟨hc, ht, -⟩ := hG
  unfold am_F
  rw [hc, ht]
  exact ⟨RX11, TX11, 69, tyX11, rfl, by decide, k_inX11, tyX11_ok, nmX11, (k_in 1536 (by decide +kernel) (by decide +kernel)), rfl, rfl, fun h => nomatch h⟩
