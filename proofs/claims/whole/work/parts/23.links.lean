theorem vX10_72 {G : am_G} (hG : k_ok G) : am_cV G RX10 72 mX9_clear 0 9 := by
  refine ⟨kB_X9_clear hG, ?_⟩
  obtain ⟨hc, ht, -⟩ := hG
  rw [ht, hc]
  exact ⟨(k_in 537 (by decide +kernel) (by decide +kernel)), (k_in 538 (by decide +kernel) (by decide +kernel)), (k_in 539 (by decide +kernel) (by decide +kernel)), TX9, 13, rfl⟩
theorem vX10_75 {G : am_G} (hG : k_ok G) : am_cV G RX10 75 mX4_begin 1 4 := by
  refine ⟨kB_X4_begin hG, ?_⟩
  obtain ⟨hc, ht, -⟩ := hG
  rw [ht, hc]
  exact ⟨(k_in 541 (by decide +kernel) (by decide +kernel)), (k_in 542 (by decide +kernel) (by decide +kernel)), (k_in 543 (by decide +kernel) (by decide +kernel)), TX4, 9, rfl⟩
theorem vX10_82 {G : am_G} (hG : k_ok G) : am_cV G RX10 82 mX6_append 1 6 := by
  refine ⟨kB_X6_append hG, ?_⟩
  obtain ⟨hc, ht, -⟩ := hG
  rw [ht, hc]
  exact ⟨(k_in 635 (by decide +kernel) (by decide +kernel)), (k_in 636 (by decide +kernel) (by decide +kernel)), (k_in 637 (by decide +kernel) (by decide +kernel)), TX6, 11, rfl⟩
theorem vX10_93 {G : am_G} (hG : k_ok G) : am_cV G RX10 93 mX6_read 2 6 := by
  refine ⟨kB_X6_read hG, ?_⟩
  obtain ⟨hc, ht, -⟩ := hG
  rw [ht, hc]
  exact ⟨(k_in 924 (by decide +kernel) (by decide +kernel)), (k_in 925 (by decide +kernel) (by decide +kernel)), (k_in 926 (by decide +kernel) (by decide +kernel)), TX6, 11, rfl⟩
theorem vX10_143 {G : am_G} (hG : k_ok G) : am_cV G RX10 143 mX2_uncut 1 2 := by
  refine ⟨kB_X2_uncut hG, ?_⟩
  obtain ⟨hc, ht, -⟩ := hG
  rw [ht, hc]
  exact ⟨(k_in 713 (by decide +kernel) (by decide +kernel)), (k_in 714 (by decide +kernel) (by decide +kernel)), (k_in 715 (by decide +kernel) (by decide +kernel)), TX2, 5, rfl⟩
theorem vX10_147 {G : am_G} (hG : k_ok G) : am_cV G RX10 147 mX10_lookAround 0 10 := by
  refine ⟨kB_X10_lookAround hG, ?_⟩
  obtain ⟨hc, ht, -⟩ := hG
  rw [ht, hc]
  exact ⟨(k_in 722 (by decide +kernel) (by decide +kernel)), (k_in 724 (by decide +kernel) (by decide +kernel)), (k_in 2 (by decide +kernel) (by decide +kernel)), TX10, 13, rfl⟩
theorem vX10_150 {G : am_G} (hG : k_ok G) : am_cV G RX10 150 mX1_couples 1 1 := by
  refine ⟨kB_X1_couples hG, ?_⟩
  obtain ⟨hc, ht, -⟩ := hG
  rw [ht, hc]
  exact ⟨(k_in 1190 (by decide +kernel) (by decide +kernel)), (k_in 1191 (by decide +kernel) (by decide +kernel)), (k_in 1192 (by decide +kernel) (by decide +kernel)), TX1, 2, rfl⟩
theorem vX10_168 {G : am_G} (hG : k_ok G) : am_cV G RX10 168 mX10_requirePerson 1 10 := by
  refine ⟨kB_X10_requirePerson hG, ?_⟩
  obtain ⟨hc, ht, -⟩ := hG
  rw [ht, hc]
  exact ⟨(k_in 1221 (by decide +kernel) (by decide +kernel)), (k_in 1223 (by decide +kernel) (by decide +kernel)), (k_in 44 (by decide +kernel) (by decide +kernel)), TX10, 13, rfl⟩
theorem vX10_191 {G : am_G} (hG : k_ok G) : am_cV G RX10 191 mX10_requireLoaf 1 10 := by
  refine ⟨kB_X10_requireLoaf hG, ?_⟩
  obtain ⟨hc, ht, -⟩ := hG
  rw [ht, hc]
  exact ⟨(k_in 1234 (by decide +kernel) (by decide +kernel)), (k_in 1236 (by decide +kernel) (by decide +kernel)), (k_in 45 (by decide +kernel) (by decide +kernel)), TX10, 13, rfl⟩
theorem vX10_207 {G : am_G} (hG : k_ok G) : am_cV G RX10 207 mX9_sliceCount 1 9 := by
  refine ⟨kB_X9_sliceCount hG, ?_⟩
  obtain ⟨hc, ht, -⟩ := hG
  rw [ht, hc]
  exact ⟨(k_in 1239 (by decide +kernel) (by decide +kernel)), (k_in 1240 (by decide +kernel) (by decide +kernel)), (k_in 1241 (by decide +kernel) (by decide +kernel)), TX9, 13, rfl⟩
theorem vX10_214 {G : am_G} (hG : k_ok G) : am_cV G RX10 214 mX10_peopleWith 2 10 := by
  refine ⟨kB_X10_peopleWith hG, ?_⟩
  obtain ⟨hc, ht, -⟩ := hG
  rw [ht, hc]
  exact ⟨(k_in 1243 (by decide +kernel) (by decide +kernel)), (k_in 1245 (by decide +kernel) (by decide +kernel)), (k_in 46 (by decide +kernel) (by decide +kernel)), TX10, 13, rfl⟩
theorem vX10_226 {G : am_G} (hG : k_ok G) : am_cS G RX10 226 mX10_has 2 := by
  refine ⟨kB_X10_has hG, ?_⟩
  obtain ⟨hc, ht, -⟩ := hG
  rw [ht]
  exact ⟨(k_in 816 (by decide +kernel) (by decide +kernel)), (k_in 566 (by decide +kernel) (by decide +kernel))⟩
theorem vX10_230 {G : am_G} (hG : k_ok G) : am_cV G RX10 230 mX10_hindrance 2 10 := by
  refine ⟨kB_X10_hindrance hG, ?_⟩
  obtain ⟨hc, ht, -⟩ := hG
  rw [ht, hc]
  exact ⟨(k_in 1247 (by decide +kernel) (by decide +kernel)), (k_in 1249 (by decide +kernel) (by decide +kernel)), (k_in 47 (by decide +kernel) (by decide +kernel)), TX10, 13, rfl⟩
theorem vX10_235 {G : am_G} (hG : k_ok G) : am_cV G RX10 235 mX10_requireEaterOrNone 2 10 := by
  refine ⟨kB_X10_requireEaterOrNone hG, ?_⟩
  obtain ⟨hc, ht, -⟩ := hG
  rw [ht, hc]
  exact ⟨(k_in 1286 (by decide +kernel) (by decide +kernel)), (k_in 1288 (by decide +kernel) (by decide +kernel)), (k_in 48 (by decide +kernel) (by decide +kernel)), TX10, 13, rfl⟩
theorem vX10_239 {G : am_G} (hG : k_ok G) : am_cV G RX10 239 mX5_divide 4 5 := by
  refine ⟨kB_X5_divide hG, ?_⟩
  obtain ⟨hc, ht, -⟩ := hG
  rw [ht, hc]
  exact ⟨(k_in 1291 (by decide +kernel) (by decide +kernel)), (k_in 1292 (by decide +kernel) (by decide +kernel)), (k_in 1293 (by decide +kernel) (by decide +kernel)), TX5, 5, rfl⟩
theorem vX10_249 {G : am_G} (hG : k_ok G) : am_cV G RX10 249 mX8_act 4 8 := by
  refine ⟨kB_X8_act hG, ?_⟩
  obtain ⟨hc, ht, -⟩ := hG
  rw [ht, hc]
  exact ⟨(k_in 657 (by decide +kernel) (by decide +kernel)), (k_in 658 (by decide +kernel) (by decide +kernel)), (k_in 659 (by decide +kernel) (by decide +kernel)), TX8, 6, rfl⟩
theorem vX10_253 {G : am_G} (hG : k_ok G) : am_cS G RX10 253 mJ6_bitCount_0f7a4 1 := by
  refine ⟨kB_J6_bitCount_0f7a4 hG, ?_⟩
  obtain ⟨hc, ht, -⟩ := hG
  rw [ht]
  exact ⟨(k_in 647 (by decide +kernel) (by decide +kernel)), (k_in 648 (by decide +kernel) (by decide +kernel))⟩
theorem vX10_258 {G : am_G} (hG : k_ok G) : am_cV G RX10 258 mX9_allPeople 0 9 := by
  refine ⟨kB_X9_allPeople hG, ?_⟩
  obtain ⟨hc, ht, -⟩ := hG
  rw [ht, hc]
  exact ⟨(k_in 653 (by decide +kernel) (by decide +kernel)), (k_in 654 (by decide +kernel) (by decide +kernel)), (k_in 655 (by decide +kernel) (by decide +kernel)), TX9, 13, rfl⟩
theorem vX10_262 {G : am_G} (hG : k_ok G) : am_cV G RX10 262 mX2_dayIn 1 2 := by
  refine ⟨kB_X2_dayIn hG, ?_⟩
  obtain ⟨hc, ht, -⟩ := hG
  rw [ht, hc]
  exact ⟨(k_in 683 (by decide +kernel) (by decide +kernel)), (k_in 675 (by decide +kernel) (by decide +kernel)), (k_in 676 (by decide +kernel) (by decide +kernel)), TX2, 5, rfl⟩
theorem vX10_265 {G : am_G} (hG : k_ok G) : am_cV G RX10 265 mX8_takeBack 1 8 := by
  refine ⟨kB_X8_takeBack hG, ?_⟩
  obtain ⟨hc, ht, -⟩ := hG
  rw [ht, hc]
  exact ⟨(k_in 688 (by decide +kernel) (by decide +kernel)), (k_in 689 (by decide +kernel) (by decide +kernel)), (k_in 690 (by decide +kernel) (by decide +kernel)), TX8, 6, rfl⟩
theorem vX10_268 {G : am_G} (hG : k_ok G) : am_cV G RX10 268 mX4_copyFrom 1 4 := by
  refine ⟨kB_X4_copyFrom hG, ?_⟩
  obtain ⟨hc, ht, -⟩ := hG
  rw [ht, hc]
  exact ⟨(k_in 696 (by decide +kernel) (by decide +kernel)), (k_in 697 (by decide +kernel) (by decide +kernel)), (k_in 698 (by decide +kernel) (by decide +kernel)), TX4, 9, rfl⟩
theorem vX10_272 {G : am_G} (hG : k_ok G) : am_cV G RX10 272 mX0_search 3 0 := by
  refine ⟨kB_X0_search hG, ?_⟩
  obtain ⟨hc, ht, -⟩ := hG
  rw [ht, hc]
  exact ⟨(k_in 743 (by decide +kernel) (by decide +kernel)), (k_in 744 (by decide +kernel) (by decide +kernel)), (k_in 745 (by decide +kernel) (by decide +kernel)), TX0, 12, rfl⟩
theorem vX10_290 {G : am_G} (hG : k_ok G) : am_cV G RX10 290 mX1_allStrangers 2 1 := by
  refine ⟨kB_X1_allStrangers hG, ?_⟩
  obtain ⟨hc, ht, -⟩ := hG
  rw [ht, hc]
  exact ⟨(k_in 798 (by decide +kernel) (by decide +kernel)), (k_in 799 (by decide +kernel) (by decide +kernel)), (k_in 800 (by decide +kernel) (by decide +kernel)), TX1, 2, rfl⟩
theorem vX10_294 {G : am_G} (hG : k_ok G) : am_cV G RX10 294 mX10_cuttableLoaves 0 10 := by
  refine ⟨kB_X10_cuttableLoaves hG, ?_⟩
  obtain ⟨hc, ht, -⟩ := hG
  rw [ht, hc]
  exact ⟨(k_in 807 (by decide +kernel) (by decide +kernel)), (k_in 809 (by decide +kernel) (by decide +kernel)), (k_in 12 (by decide +kernel) (by decide +kernel)), TX10, 13, rfl⟩
theorem vX10_297 {G : am_G} (hG : k_ok G) : am_cV G RX10 297 mX10_leavesCuttable 2 10 := by
  refine ⟨kB_X10_leavesCuttable hG, ?_⟩
  obtain ⟨hc, ht, -⟩ := hG
  rw [ht, hc]
  exact ⟨(k_in 811 (by decide +kernel) (by decide +kernel)), (k_in 813 (by decide +kernel) (by decide +kernel)), (k_in 13 (by decide +kernel) (by decide +kernel)), TX10, 13, rfl⟩
theorem vX10_300 {G : am_G} (hG : k_ok G) : am_cV G RX10 300 mX9_withTwins 1 9 := by
  refine ⟨kB_X9_withTwins hG, ?_⟩
  obtain ⟨hc, ht, -⟩ := hG
  rw [ht, hc]
  exact ⟨(k_in 815 (by decide +kernel) (by decide +kernel)), (k_in 562 (by decide +kernel) (by decide +kernel)), (k_in 563 (by decide +kernel) (by decide +kernel)), TX9, 13, rfl⟩
theorem vX10_303 {G : am_G} (hG : k_ok G) : am_cV G RX10 303 mX1_keepsCutter 3 1 := by
  refine ⟨kB_X1_keepsCutter hG, ?_⟩
  obtain ⟨hc, ht, -⟩ := hG
  rw [ht, hc]
  exact ⟨(k_in 817 (by decide +kernel) (by decide +kernel)), (k_in 818 (by decide +kernel) (by decide +kernel)), (k_in 819 (by decide +kernel) (by decide +kernel)), TX1, 2, rfl⟩
theorem vX10_310 {G : am_G} (hG : k_ok G) : am_cV G RX10 310 mX2_uncutBits 1 2 := by
  refine ⟨kB_X2_uncutBits hG, ?_⟩
  obtain ⟨hc, ht, -⟩ := hG
  rw [ht, hc]
  exact ⟨(k_in 830 (by decide +kernel) (by decide +kernel)), (k_in 718 (by decide +kernel) (by decide +kernel)), (k_in 719 (by decide +kernel) (by decide +kernel)), TX2, 5, rfl⟩
theorem vX10_313 {G : am_G} (hG : k_ok G) : am_cV G RX10 313 mX10_cuttersOfAny 1 10 := by
  refine ⟨kB_X10_cuttersOfAny hG, ?_⟩
  obtain ⟨hc, ht, -⟩ := hG
  rw [ht, hc]
  exact ⟨(k_in 831 (by decide +kernel) (by decide +kernel)), (k_in 833 (by decide +kernel) (by decide +kernel)), (k_in 14 (by decide +kernel) (by decide +kernel)), TX10, 13, rfl⟩
theorem vX10_321 {G : am_G} (hG : k_ok G) : am_cV G RX10 321 mX10_opensAll 2 10 := by
  refine ⟨kB_X10_opensAll hG, ?_⟩
  obtain ⟨hc, ht, -⟩ := hG
  rw [ht, hc]
  exact ⟨(k_in 840 (by decide +kernel) (by decide +kernel)), (k_in 842 (by decide +kernel) (by decide +kernel)), (k_in 15 (by decide +kernel) (by decide +kernel)), TX10, 13, rfl⟩
theorem vX10_324 {G : am_G} (hG : k_ok G) : am_cV G RX10 324 mX9_dwellers 1 9 := by
  refine ⟨kB_X9_dwellers hG, ?_⟩
  obtain ⟨hc, ht, -⟩ := hG
  rw [ht, hc]
  exact ⟨(k_in 844 (by decide +kernel) (by decide +kernel)), (k_in 731 (by decide +kernel) (by decide +kernel)), (k_in 732 (by decide +kernel) (by decide +kernel)), TX9, 13, rfl⟩
theorem vX10_330 {G : am_G} (hG : k_ok G) : am_cV G RX10 330 mX4_addSeen 3 4 := by
  refine ⟨kB_X4_addSeen hG, ?_⟩
  obtain ⟨hc, ht, -⟩ := hG
  rw [ht, hc]
  exact ⟨(k_in 1356 (by decide +kernel) (by decide +kernel)), (k_in 1357 (by decide +kernel) (by decide +kernel)), (k_in 1358 (by decide +kernel) (by decide +kernel)), TX4, 9, rfl⟩
theorem vX10_334 {G : am_G} (hG : k_ok G) : am_cV G RX10 334 mX9_eats 2 9 := by
  refine ⟨kB_X9_eats hG, ?_⟩
  obtain ⟨hc, ht, -⟩ := hG
  rw [ht, hc]
  exact ⟨(k_in 1251 (by decide +kernel) (by decide +kernel)), (k_in 1252 (by decide +kernel) (by decide +kernel)), (k_in 1253 (by decide +kernel) (by decide +kernel)), TX9, 13, rfl⟩
theorem vX10_337 {G : am_G} (hG : k_ok G) : am_cV G RX10 337 mX4_seenFits 2 4 := by
  refine ⟨kB_X4_seenFits hG, ?_⟩
  obtain ⟨hc, ht, -⟩ := hG
  rw [ht, hc]
  exact ⟨(k_in 1367 (by decide +kernel) (by decide +kernel)), (k_in 1368 (by decide +kernel) (by decide +kernel)), (k_in 1369 (by decide +kernel) (by decide +kernel)), TX4, 9, rfl⟩
theorem vX10_341 {G : am_G} (hG : k_ok G) : am_cV G RX10 341 mX4_addBalked 2 4 := by
  refine ⟨kB_X4_addBalked hG, ?_⟩
  obtain ⟨hc, ht, -⟩ := hG
  rw [ht, hc]
  exact ⟨(k_in 1378 (by decide +kernel) (by decide +kernel)), (k_in 1379 (by decide +kernel) (by decide +kernel)), (k_in 1380 (by decide +kernel) (by decide +kernel)), TX4, 9, rfl⟩
theorem vX10_346 {G : am_G} (hG : k_ok G) : am_cV G RX10 346 mX1_both 2 1 := by
  refine ⟨kB_X1_both hG, ?_⟩
  obtain ⟨hc, ht, -⟩ := hG
  rw [ht, hc]
  exact ⟨(k_in 1390 (by decide +kernel) (by decide +kernel)), (k_in 1195 (by decide +kernel) (by decide +kernel)), (k_in 1196 (by decide +kernel) (by decide +kernel)), TX1, 2, rfl⟩
theorem vX10_349 {G : am_G} (hG : k_ok G) : am_cV G RX10 349 mX10_explainsBalking 2 10 := by
  refine ⟨kB_X10_explainsBalking hG, ?_⟩
  obtain ⟨hc, ht, -⟩ := hG
  rw [ht, hc]
  exact ⟨(k_in 1391 (by decide +kernel) (by decide +kernel)), (k_in 1393 (by decide +kernel) (by decide +kernel)), (k_in 52 (by decide +kernel) (by decide +kernel)), TX10, 13, rfl⟩
theorem vX10_355 {G : am_G} (hG : k_ok G) : am_cV G RX10 355 mX1_knownAfter 3 1 := by
  refine ⟨kB_X1_knownAfter hG, ?_⟩
  obtain ⟨hc, ht, -⟩ := hG
  rw [ht, hc]
  exact ⟨(k_in 1395 (by decide +kernel) (by decide +kernel)), (k_in 822 (by decide +kernel) (by decide +kernel)), (k_in 823 (by decide +kernel) (by decide +kernel)), TX1, 2, rfl⟩
theorem vX10_362 {G : am_G} (hG : k_ok G) : am_cV G RX10 362 mX4_clearClues 0 4 := by
  refine ⟨kB_X4_clearClues hG, ?_⟩
  obtain ⟨hc, ht, -⟩ := hG
  rw [ht, hc]
  exact ⟨(k_in 849 (by decide +kernel) (by decide +kernel)), (k_in 588 (by decide +kernel) (by decide +kernel)), (k_in 589 (by decide +kernel) (by decide +kernel)), TX4, 9, rfl⟩
theorem vX10_365 {G : am_G} (hG : k_ok G) : am_cV G RX10 365 mX5_spread 0 5 := by
  refine ⟨kB_X5_spread hG, ?_⟩
  obtain ⟨hc, ht, -⟩ := hG
  rw [ht, hc]
  exact ⟨(k_in 1411 (by decide +kernel) (by decide +kernel)), (k_in 1412 (by decide +kernel) (by decide +kernel)), (k_in 1413 (by decide +kernel) (by decide +kernel)), TX5, 5, rfl⟩
theorem vX10_370 {G : am_G} (hG : k_ok G) : am_cV G RX10 370 mX10_isBestChoice 3 10 := by
  refine ⟨kB_X10_isBestChoice hG, ?_⟩
  obtain ⟨hc, ht, -⟩ := hG
  rw [ht, hc]
  exact ⟨(k_in 1423 (by decide +kernel) (by decide +kernel)), (k_in 1425 (by decide +kernel) (by decide +kernel)), (k_in 53 (by decide +kernel) (by decide +kernel)), TX10, 13, rfl⟩
theorem vX10_374 {G : am_G} (hG : k_ok G) : am_cV G RX10 374 mX10_gain 3 10 := by
  refine ⟨kB_X10_gain hG, ?_⟩
  obtain ⟨hc, ht, -⟩ := hG
  rw [ht, hc]
  exact ⟨(k_in 1427 (by decide +kernel) (by decide +kernel)), (k_in 1429 (by decide +kernel) (by decide +kernel)), (k_in 54 (by decide +kernel) (by decide +kernel)), TX10, 13, rfl⟩
theorem vX10_381 {G : am_G} (hG : k_ok G) : am_cV G RX10 381 mX2_copyFrom 1 2 := by
  refine ⟨kB_X2_copyFrom hG, ?_⟩
  obtain ⟨hc, ht, -⟩ := hG
  rw [ht, hc]
  exact ⟨(k_in 1440 (by decide +kernel) (by decide +kernel)), (k_in 581 (by decide +kernel) (by decide +kernel)), (k_in 582 (by decide +kernel) (by decide +kernel)), TX2, 5, rfl⟩
theorem vX10_384 {G : am_G} (hG : k_ok G) : am_cV G RX10 384 mX10_meetByChance 1 10 := by
  refine ⟨kB_X10_meetByChance hG, ?_⟩
  obtain ⟨hc, ht, -⟩ := hG
  rw [ht, hc]
  exact ⟨(k_in 1441 (by decide +kernel) (by decide +kernel)), (k_in 1443 (by decide +kernel) (by decide +kernel)), (k_in 55 (by decide +kernel) (by decide +kernel)), TX10, 13, rfl⟩
theorem vX10_387 {G : am_G} (hG : k_ok G) : am_cV G RX10 387 mX10_loavesWithCutters 0 10 := by
  refine ⟨kB_X10_loavesWithCutters hG, ?_⟩
  obtain ⟨hc, ht, -⟩ := hG
  rw [ht, hc]
  exact ⟨(k_in 1453 (by decide +kernel) (by decide +kernel)), (k_in 1455 (by decide +kernel) (by decide +kernel)), (k_in 56 (by decide +kernel) (by decide +kernel)), TX10, 13, rfl⟩
theorem vX10_393 {G : am_G} (hG : k_ok G) : am_cV G RX10 393 mX1_look 2 1 := by
  refine ⟨kB_X1_look hG, ?_⟩
  obtain ⟨hc, ht, -⟩ := hG
  rw [ht, hc]
  exact ⟨(k_in 726 (by decide +kernel) (by decide +kernel)), (k_in 727 (by decide +kernel) (by decide +kernel)), (k_in 728 (by decide +kernel) (by decide +kernel)), TX1, 2, rfl⟩
theorem vX10_397 {G : am_G} (hG : k_ok G) : am_cS G RX10 397 mX10_nextSeed 1 := by
  refine ⟨kB_X10_nextSeed hG, ?_⟩
  obtain ⟨hc, ht, -⟩ := hG
  rw [ht]
  exact ⟨(k_in 1445 (by decide +kernel) (by decide +kernel)), (k_in 1446 (by decide +kernel) (by decide +kernel))⟩
theorem vX10_400 {G : am_G} (hG : k_ok G) : am_cS G RX10 400 mX10_drawn 2 := by
  refine ⟨kB_X10_drawn hG, ?_⟩
  obtain ⟨hc, ht, -⟩ := hG
  rw [ht]
  exact ⟨(k_in 1449 (by decide +kernel) (by decide +kernel)), (k_in 1450 (by decide +kernel) (by decide +kernel))⟩
theorem vX10_403 {G : am_G} (hG : k_ok G) : am_cV G RX10 403 mX2_gather 3 2 := by
  refine ⟨kB_X2_gather hG, ?_⟩
  obtain ⟨hc, ht, -⟩ := hG
  rw [ht, hc]
  exact ⟨(k_in 1452 (by decide +kernel) (by decide +kernel)), (k_in 558 (by decide +kernel) (by decide +kernel)), (k_in 559 (by decide +kernel) (by decide +kernel)), TX2, 5, rfl⟩
theorem vX0_47 {G : am_G} (hG : k_ok G) : am_cV G RX0 47 mX0_collectOpen 2 0 := by
  refine ⟨kB_X0_collectOpen hG, ?_⟩
  obtain ⟨hc, ht, -⟩ := hG
  rw [ht, hc]
  exact ⟨(k_in 747 (by decide +kernel) (by decide +kernel)), (k_in 749 (by decide +kernel) (by decide +kernel)), (k_in 4 (by decide +kernel) (by decide +kernel)), TX0, 12, rfl⟩
theorem vX0_51 {G : am_G} (hG : k_ok G) : am_cV G RX0 51 mX0_measure 3 0 := by
  refine ⟨kB_X0_measure hG, ?_⟩
  obtain ⟨hc, ht, -⟩ := hG
  rw [ht, hc]
  exact ⟨(k_in 754 (by decide +kernel) (by decide +kernel)), (k_in 756 (by decide +kernel) (by decide +kernel)), (k_in 5 (by decide +kernel) (by decide +kernel)), TX0, 12, rfl⟩
theorem vX0_63 {G : am_G} (hG : k_ok G) : am_cV G RX0 63 mX0_tryAllSets 3 0 := by
  refine ⟨kB_X0_tryAllSets hG, ?_⟩
  obtain ⟨hc, ht, -⟩ := hG
  rw [ht, hc]
  exact ⟨(k_in 763 (by decide +kernel) (by decide +kernel)), (k_in 765 (by decide +kernel) (by decide +kernel)), (k_in 6 (by decide +kernel) (by decide +kernel)), TX0, 12, rfl⟩
theorem vX0_71 {G : am_G} (hG : k_ok G) : am_cV G RX0 71 mX0_estimate 0 0 := by
  refine ⟨kB_X0_estimate hG, ?_⟩
  obtain ⟨hc, ht, -⟩ := hG
  rw [ht, hc]
  exact ⟨(k_in 776 (by decide +kernel) (by decide +kernel)), (k_in 778 (by decide +kernel) (by decide +kernel)), (k_in 9 (by decide +kernel) (by decide +kernel)), TX0, 12, rfl⟩
theorem vX0_75 {G : am_G} (hG : k_ok G) : am_cV G RX0 75 mX0_place 2 0 := by
  refine ⟨kB_X0_place hG, ?_⟩
  obtain ⟨hc, ht, -⟩ := hG
  rw [ht, hc]
  exact ⟨(k_in 780 (by decide +kernel) (by decide +kernel)), (k_in 782 (by decide +kernel) (by decide +kernel)), (k_in 10 (by decide +kernel) (by decide +kernel)), TX0, 12, rfl⟩
theorem vX0_126 {G : am_G} (hG : k_ok G) : am_cV G RX0 126 mX0_cutsInTime 4 0 := by
  refine ⟨kB_X0_cutsInTime hG, ?_⟩
  obtain ⟨hc, ht, -⟩ := hG
  rw [ht, hc]
  exact ⟨(k_in 767 (by decide +kernel) (by decide +kernel)), (k_in 769 (by decide +kernel) (by decide +kernel)), (k_in 7 (by decide +kernel) (by decide +kernel)), TX0, 12, rfl⟩
theorem vX0_130 {G : am_G} (hG : k_ok G) : am_cV G RX0 130 mX0_mostUrgent 3 0 := by
  refine ⟨kB_X0_mostUrgent hG, ?_⟩
  obtain ⟨hc, ht, -⟩ := hG
  rw [ht, hc]
  exact ⟨(k_in 771 (by decide +kernel) (by decide +kernel)), (k_in 773 (by decide +kernel) (by decide +kernel)), (k_in 8 (by decide +kernel) (by decide +kernel)), TX0, 12, rfl⟩
theorem vX0_134 {G : am_G} (hG : k_ok G) : am_cV G RX0 134 mX0_keepBest 1 0 := by
  refine ⟨kB_X0_keepBest hG, ?_⟩
  obtain ⟨hc, ht, -⟩ := hG
  rw [ht, hc]
  exact ⟨(k_in 784 (by decide +kernel) (by decide +kernel)), (k_in 786 (by decide +kernel) (by decide +kernel)), (k_in 11 (by decide +kernel) (by decide +kernel)), TX0, 12, rfl⟩
theorem vX0_138 {G : am_G} (hG : k_ok G) : am_cS G RX0 138 mJ7_fill_53178 2 := by
  refine ⟨kB_J7_fill_53178 hG, ?_⟩
  obtain ⟨hc, ht, -⟩ := hG
  rw [ht]
  exact ⟨(k_in 788 (by decide +kernel) (by decide +kernel)), (k_in 555 (by decide +kernel) (by decide +kernel))⟩
theorem vX1_27 {G : am_G} (hG : k_ok G) : am_cV G RX1 27 mX9_dwellers 1 9 := by
  refine ⟨kB_X9_dwellers hG, ?_⟩
  obtain ⟨hc, ht, -⟩ := hG
  rw [ht, hc]
  exact ⟨(k_in 730 (by decide +kernel) (by decide +kernel)), (k_in 731 (by decide +kernel) (by decide +kernel)), (k_in 732 (by decide +kernel) (by decide +kernel)), TX9, 13, rfl⟩
theorem vX1_31 {G : am_G} (hG : k_ok G) : am_cV G RX1 31 mX9_pair 1 9 := by
  refine ⟨kB_X9_pair hG, ?_⟩
  obtain ⟨hc, ht, -⟩ := hG
  rw [ht, hc]
  exact ⟨(k_in 734 (by decide +kernel) (by decide +kernel)), (k_in 569 (by decide +kernel) (by decide +kernel)), (k_in 570 (by decide +kernel) (by decide +kernel)), TX9, 13, rfl⟩
theorem vX1_37 {G : am_G} (hG : k_ok G) : am_cS G RX1 37 mX1_remembered 3 := by
  refine ⟨kB_X1_remembered hG, ?_⟩
  obtain ⟨hc, ht, -⟩ := hG
  rw [ht]
  exact ⟨(k_in 735 (by decide +kernel) (by decide +kernel)), (k_in 736 (by decide +kernel) (by decide +kernel))⟩
theorem vX1_53 {G : am_G} (hG : k_ok G) : am_cV G RX1 53 mX1_strangersTo 2 1 := by
  refine ⟨kB_X1_strangersTo hG, ?_⟩
  obtain ⟨hc, ht, -⟩ := hG
  rw [ht, hc]
  exact ⟨(k_in 739 (by decide +kernel) (by decide +kernel)), (k_in 741 (by decide +kernel) (by decide +kernel)), (k_in 3 (by decide +kernel) (by decide +kernel)), TX1, 2, rfl⟩
theorem vX1_73 {G : am_G} (hG : k_ok G) : am_cV G RX1 73 mX1_both 2 1 := by
  refine ⟨kB_X1_both hG, ?_⟩
  obtain ⟨hc, ht, -⟩ := hG
  rw [ht, hc]
  exact ⟨(k_in 1194 (by decide +kernel) (by decide +kernel)), (k_in 1195 (by decide +kernel) (by decide +kernel)), (k_in 1196 (by decide +kernel) (by decide +kernel)), TX1, 2, rfl⟩
theorem vX1_76 {G : am_G} (hG : k_ok G) : am_cV G RX1 76 mX9_metBy 2 9 := by
  refine ⟨kB_X9_metBy hG, ?_⟩
  obtain ⟨hc, ht, -⟩ := hG
  rw [ht, hc]
  exact ⟨(k_in 825 (by decide +kernel) (by decide +kernel)), (k_in 573 (by decide +kernel) (by decide +kernel)), (k_in 574 (by decide +kernel) (by decide +kernel)), TX9, 13, rfl⟩
theorem vX1_80 {G : am_G} (hG : k_ok G) : am_cV G RX1 80 mX1_knownAfter 3 1 := by
  refine ⟨kB_X1_knownAfter hG, ?_⟩
  obtain ⟨hc, ht, -⟩ := hG
  rw [ht, hc]
  exact ⟨(k_in 821 (by decide +kernel) (by decide +kernel)), (k_in 822 (by decide +kernel) (by decide +kernel)), (k_in 823 (by decide +kernel) (by decide +kernel)), TX1, 2, rfl⟩
theorem vX2_29 {G : am_G} (hG : k_ok G) : am_cS G RX2 29 mJ7_fill_53178 2 := by
  refine ⟨kB_J7_fill_53178 hG, ?_⟩
  obtain ⟨hc, ht, -⟩ := hG
  rw [ht]
  exact ⟨(k_in 554 (by decide +kernel) (by decide +kernel)), (k_in 555 (by decide +kernel) (by decide +kernel))⟩
theorem vX2_49 {G : am_G} (hG : k_ok G) : am_cV G RX2 49 mX2_gather 3 2 := by
  refine ⟨kB_X2_gather hG, ?_⟩
  obtain ⟨hc, ht, -⟩ := hG
  rw [ht, hc]
  exact ⟨(k_in 557 (by decide +kernel) (by decide +kernel)), (k_in 558 (by decide +kernel) (by decide +kernel)), (k_in 559 (by decide +kernel) (by decide +kernel)), TX2, 5, rfl⟩
theorem vX2_59 {G : am_G} (hG : k_ok G) : am_cV G RX2 59 mX9_withTwins 1 9 := by
  refine ⟨kB_X9_withTwins hG, ?_⟩
  obtain ⟨hc, ht, -⟩ := hG
  rw [ht, hc]
  exact ⟨(k_in 561 (by decide +kernel) (by decide +kernel)), (k_in 562 (by decide +kernel) (by decide +kernel)), (k_in 563 (by decide +kernel) (by decide +kernel)), TX9, 13, rfl⟩
theorem vX2_66 {G : am_G} (hG : k_ok G) : am_cV G RX2 66 mX9_metBy 2 9 := by
  refine ⟨kB_X9_metBy hG, ?_⟩
  obtain ⟨hc, ht, -⟩ := hG
  rw [ht, hc]
  exact ⟨(k_in 572 (by decide +kernel) (by decide +kernel)), (k_in 573 (by decide +kernel) (by decide +kernel)), (k_in 574 (by decide +kernel) (by decide +kernel)), TX9, 13, rfl⟩
theorem vX2_79 {G : am_G} (hG : k_ok G) : am_cV G RX2 79 mX2_dayIn 1 2 := by
  refine ⟨kB_X2_dayIn hG, ?_⟩
  obtain ⟨hc, ht, -⟩ := hG
  rw [ht, hc]
  exact ⟨(k_in 674 (by decide +kernel) (by decide +kernel)), (k_in 675 (by decide +kernel) (by decide +kernel)), (k_in 676 (by decide +kernel) (by decide +kernel)), TX2, 5, rfl⟩
theorem vX2_87 {G : am_G} (hG : k_ok G) : am_cV G RX2 87 mX2_uncutBits 1 2 := by
  refine ⟨kB_X2_uncutBits hG, ?_⟩
  obtain ⟨hc, ht, -⟩ := hG
  rw [ht, hc]
  exact ⟨(k_in 717 (by decide +kernel) (by decide +kernel)), (k_in 718 (by decide +kernel) (by decide +kernel)), (k_in 719 (by decide +kernel) (by decide +kernel)), TX2, 5, rfl⟩
theorem vX2_91 {G : am_G} (hG : k_ok G) : am_cS G RX2 91 mJ6_bitCount_0f7a4 1 := by
  refine ⟨kB_J6_bitCount_0f7a4 hG, ?_⟩
  obtain ⟨hc, ht, -⟩ := hG
  rw [ht]
  exact ⟨(k_in 721 (by decide +kernel) (by decide +kernel)), (k_in 648 (by decide +kernel) (by decide +kernel))⟩
theorem vX4_37 {G : am_G} (hG : k_ok G) : am_cV G RX4 37 mX8_begin 1 8 := by
  refine ⟨kB_X8_begin hG, ?_⟩
  obtain ⟨hc, ht, -⟩ := hG
  rw [ht, hc]
  exact ⟨(k_in 545 (by decide +kernel) (by decide +kernel)), (k_in 546 (by decide +kernel) (by decide +kernel)), (k_in 547 (by decide +kernel) (by decide +kernel)), TX8, 6, rfl⟩
theorem vX4_41 {G : am_G} (hG : k_ok G) : am_cV G RX4 41 mX4_clearClues 0 4 := by
  refine ⟨kB_X4_clearClues hG, ?_⟩
  obtain ⟨hc, ht, -⟩ := hG
  rw [ht, hc]
  exact ⟨(k_in 587 (by decide +kernel) (by decide +kernel)), (k_in 588 (by decide +kernel) (by decide +kernel)), (k_in 589 (by decide +kernel) (by decide +kernel)), TX4, 9, rfl⟩
theorem vX4_51 {G : am_G} (hG : k_ok G) : am_cV G RX4 51 mX8_copyFrom 1 8 := by
  refine ⟨kB_X8_copyFrom hG, ?_⟩
  obtain ⟨hc, ht, -⟩ := hG
  rw [ht, hc]
  exact ⟨(k_in 700 (by decide +kernel) (by decide +kernel)), (k_in 701 (by decide +kernel) (by decide +kernel)), (k_in 702 (by decide +kernel) (by decide +kernel)), TX8, 6, rfl⟩
theorem vX5_23 {G : am_G} (hG : k_ok G) : am_cV G RX5 23 mX9_sliceCount 1 9 := by
  refine ⟨kB_X9_sliceCount hG, ?_⟩
  obtain ⟨hc, ht, -⟩ := hG
  rw [ht, hc]
  exact ⟨(k_in 1295 (by decide +kernel) (by decide +kernel)), (k_in 1240 (by decide +kernel) (by decide +kernel)), (k_in 1241 (by decide +kernel) (by decide +kernel)), TX9, 13, rfl⟩
theorem vX5_33 {G : am_G} (hG : k_ok G) : am_cV G RX5 33 mX5_weigh 4 5 := by
  refine ⟨kB_X5_weigh hG, ?_⟩
  obtain ⟨hc, ht, -⟩ := hG
  rw [ht, hc]
  exact ⟨(k_in 1296 (by decide +kernel) (by decide +kernel)), (k_in 1298 (by decide +kernel) (by decide +kernel)), (k_in 49 (by decide +kernel) (by decide +kernel)), TX5, 5, rfl⟩
theorem vX5_49 {G : am_G} (hG : k_ok G) : am_cV G RX5 49 mX5_sortDown 0 5 := by
  refine ⟨kB_X5_sortDown hG, ?_⟩
  obtain ⟨hc, ht, -⟩ := hG
  rw [ht, hc]
  exact ⟨(k_in 1312 (by decide +kernel) (by decide +kernel)), (k_in 1314 (by decide +kernel) (by decide +kernel)), (k_in 50 (by decide +kernel) (by decide +kernel)), TX5, 5, rfl⟩
theorem vX5_52 {G : am_G} (hG : k_ok G) : am_cV G RX5 52 mX5_handOut 2 5 := by
  refine ⟨kB_X5_handOut hG, ?_⟩
  obtain ⟨hc, ht, -⟩ := hG
  rw [ht, hc]
  exact ⟨(k_in 1316 (by decide +kernel) (by decide +kernel)), (k_in 1318 (by decide +kernel) (by decide +kernel)), (k_in 51 (by decide +kernel) (by decide +kernel)), TX5, 5, rfl⟩
theorem vX5_74 {G : am_G} (hG : k_ok G) : am_cV G RX5 74 mX7_evaluate 1 7 := by
  refine ⟨kB_X7_evaluate hG, ?_⟩
  obtain ⟨hc, ht, -⟩ := hG
  rw [ht, hc]
  exact ⟨(k_in 1300 (by decide +kernel) (by decide +kernel)), (k_in 1301 (by decide +kernel) (by decide +kernel)), (k_in 1302 (by decide +kernel) (by decide +kernel)), TX7, 3, rfl⟩
theorem vX5_93 {G : am_G} (hG : k_ok G) : am_cV G RX5 93 mX3_eater 2 3 := by
  refine ⟨kB_X3_eater hG, ?_⟩
  obtain ⟨hc, ht, -⟩ := hG
  rw [ht, hc]
  exact ⟨(k_in 1320 (by decide +kernel) (by decide +kernel)), (k_in 1321 (by decide +kernel) (by decide +kernel)), (k_in 1322 (by decide +kernel) (by decide +kernel)), TX3, 8, rfl⟩
theorem vX5_96 {G : am_G} (hG : k_ok G) : am_cS G RX5 96 mX5_placeBehind 4 := by
  refine ⟨kB_X5_placeBehind hG, ?_⟩
  obtain ⟨hc, ht, -⟩ := hG
  rw [ht]
  exact ⟨(k_in 1324 (by decide +kernel) (by decide +kernel)), (k_in 1325 (by decide +kernel) (by decide +kernel))⟩
theorem vX6_19 {G : am_G} (hG : k_ok G) : am_cV G RX6 19 mX9_clear 0 9 := by
  refine ⟨kB_X9_clear hG, ?_⟩
  obtain ⟨hc, ht, -⟩ := hG
  rw [ht, hc]
  exact ⟨(k_in 928 (by decide +kernel) (by decide +kernel)), (k_in 538 (by decide +kernel) (by decide +kernel)), (k_in 539 (by decide +kernel) (by decide +kernel)), TX9, 13, rfl⟩
theorem vX6_52 {G : am_G} (hG : k_ok G) : am_cV G RX6 52 mX6_advance 0 6 := by
  refine ⟨kB_X6_advance hG, ?_⟩
  obtain ⟨hc, ht, -⟩ := hG
  rw [ht, hc]
  exact ⟨(k_in 931 (by decide +kernel) (by decide +kernel)), (k_in 933 (by decide +kernel) (by decide +kernel)), (k_in 17 (by decide +kernel) (by decide +kernel)), TX6, 11, rfl⟩
theorem vX6_58 {G : am_G} (hG : k_ok G) : am_cV G RX6 58 mX6_readLine 1 6 := by
  refine ⟨kB_X6_readLine hG, ?_⟩
  obtain ⟨hc, ht, -⟩ := hG
  rw [ht, hc]
  exact ⟨(k_in 1030 (by decide +kernel) (by decide +kernel)), (k_in 1032 (by decide +kernel) (by decide +kernel)), (k_in 21 (by decide +kernel) (by decide +kernel)), TX6, 11, rfl⟩
theorem vX6_62 {G : am_G} (hG : k_ok G) : am_cV G RX6 62 mX6_blanksEnd 1 6 := by
  refine ⟨kB_X6_blanksEnd hG, ?_⟩
  obtain ⟨hc, ht, -⟩ := hG
  rw [ht, hc]
  exact ⟨(k_in 935 (by decide +kernel) (by decide +kernel)), (k_in 937 (by decide +kernel) (by decide +kernel)), (k_in 18 (by decide +kernel) (by decide +kernel)), TX6, 11, rfl⟩
theorem vX6_69 {G : am_G} (hG : k_ok G) : am_cV G RX6 69 mX6_rowEnd 3 6 := by
  refine ⟨kB_X6_rowEnd hG, ?_⟩
  obtain ⟨hc, ht, -⟩ := hG
  rw [ht, hc]
  exact ⟨(k_in 939 (by decide +kernel) (by decide +kernel)), (k_in 941 (by decide +kernel) (by decide +kernel)), (k_in 19 (by decide +kernel) (by decide +kernel)), TX6, 11, rfl⟩
theorem vX6_73 {G : am_G} (hG : k_ok G) : am_cV G RX6 73 mX6_numberBetween 2 6 := by
  refine ⟨kB_X6_numberBetween hG, ?_⟩
  obtain ⟨hc, ht, -⟩ := hG
  rw [ht, hc]
  exact ⟨(k_in 943 (by decide +kernel) (by decide +kernel)), (k_in 945 (by decide +kernel) (by decide +kernel)), (k_in 20 (by decide +kernel) (by decide +kernel)), TX6, 11, rfl⟩
theorem vX6_94 {G : am_G} (hG : k_ok G) : am_cV G RX6 94 mX6_lineKind 0 6 := by
  refine ⟨kB_X6_lineKind hG, ?_⟩
  obtain ⟨hc, ht, -⟩ := hG
  rw [ht, hc]
  exact ⟨(k_in 1034 (by decide +kernel) (by decide +kernel)), (k_in 1036 (by decide +kernel) (by decide +kernel)), (k_in 22 (by decide +kernel) (by decide +kernel)), TX6, 11, rfl⟩
theorem vX6_97 {G : am_G} (hG : k_ok G) : am_cV G RX6 97 mX6_fail 1 6 := by
  refine ⟨kB_X6_fail hG, ?_⟩
  obtain ⟨hc, ht, -⟩ := hG
  rw [ht, hc]
  exact ⟨(k_in 1072 (by decide +kernel) (by decide +kernel)), (k_in 1074 (by decide +kernel) (by decide +kernel)), (k_in 24 (by decide +kernel) (by decide +kernel)), TX6, 11, rfl⟩
theorem vX6_101 {G : am_G} (hG : k_ok G) : am_cV G RX6 101 mX6_readBread 1 6 := by
  refine ⟨kB_X6_readBread hG, ?_⟩
  obtain ⟨hc, ht, -⟩ := hG
  rw [ht, hc]
  exact ⟨(k_in 1076 (by decide +kernel) (by decide +kernel)), (k_in 1078 (by decide +kernel) (by decide +kernel)), (k_in 25 (by decide +kernel) (by decide +kernel)), TX6, 11, rfl⟩
theorem vX6_104 {G : am_G} (hG : k_ok G) : am_cV G RX6 104 mX6_readMeeting 1 6 := by
  refine ⟨kB_X6_readMeeting hG, ?_⟩
  obtain ⟨hc, ht, -⟩ := hG
  rw [ht, hc]
  exact ⟨(k_in 1093 (by decide +kernel) (by decide +kernel)), (k_in 1095 (by decide +kernel) (by decide +kernel)), (k_in 28 (by decide +kernel) (by decide +kernel)), TX6, 11, rfl⟩
theorem vX6_107 {G : am_G} (hG : k_ok G) : am_cV G RX6 107 mX6_readForgetting 1 6 := by
  refine ⟨kB_X6_readForgetting hG, ?_⟩
  obtain ⟨hc, ht, -⟩ := hG
  rw [ht, hc]
  exact ⟨(k_in 1101 (by decide +kernel) (by decide +kernel)), (k_in 1103 (by decide +kernel) (by decide +kernel)), (k_in 29 (by decide +kernel) (by decide +kernel)), TX6, 11, rfl⟩
theorem vX6_110 {G : am_G} (hG : k_ok G) : am_cV G RX6 110 mX6_readNoonHour 1 6 := by
  refine ⟨kB_X6_readNoonHour hG, ?_⟩
  obtain ⟨hc, ht, -⟩ := hG
  rw [ht, hc]
  exact ⟨(k_in 1105 (by decide +kernel) (by decide +kernel)), (k_in 1107 (by decide +kernel) (by decide +kernel)), (k_in 30 (by decide +kernel) (by decide +kernel)), TX6, 11, rfl⟩
theorem vX6_113 {G : am_G} (hG : k_ok G) : am_cV G RX6 113 mX6_readRule 1 6 := by
  refine ⟨kB_X6_readRule hG, ?_⟩
  obtain ⟨hc, ht, -⟩ := hG
  rw [ht, hc]
  exact ⟨(k_in 1109 (by decide +kernel) (by decide +kernel)), (k_in 1111 (by decide +kernel) (by decide +kernel)), (k_in 31 (by decide +kernel) (by decide +kernel)), TX6, 11, rfl⟩
theorem vX6_116 {G : am_G} (hG : k_ok G) : am_cV G RX6 116 mX6_readHuman 2 6 := by
  refine ⟨kB_X6_readHuman hG, ?_⟩
  obtain ⟨hc, ht, -⟩ := hG
  rw [ht, hc]
  exact ⟨(k_in 1170 (by decide +kernel) (by decide +kernel)), (k_in 1172 (by decide +kernel) (by decide +kernel)), (k_in 43 (by decide +kernel) (by decide +kernel)), TX6, 11, rfl⟩
theorem vX6_120 {G : am_G} (hG : k_ok G) : am_cV G RX6 120 mX6_readSign 1 6 := by
  refine ⟨kB_X6_readSign hG, ?_⟩
  obtain ⟨hc, ht, -⟩ := hG
  rw [ht, hc]
  exact ⟨(k_in 1146 (by decide +kernel) (by decide +kernel)), (k_in 1148 (by decide +kernel) (by decide +kernel)), (k_in 40 (by decide +kernel) (by decide +kernel)), TX6, 11, rfl⟩
theorem vX6_126 {G : am_G} (hG : k_ok G) : am_cV G RX6 126 mX6_isWord 1 6 := by
  refine ⟨kB_X6_isWord hG, ?_⟩
  obtain ⟨hc, ht, -⟩ := hG
  rw [ht, hc]
  exact ⟨(k_in 1039 (by decide +kernel) (by decide +kernel)), (k_in 1041 (by decide +kernel) (by decide +kernel)), (k_in 23 (by decide +kernel) (by decide +kernel)), TX6, 11, rfl⟩
theorem vX6_149 {G : am_G} (hG : k_ok G) : am_cV G RX6 149 mX9_takesTwin 0 9 := by
  refine ⟨kB_X9_takesTwin hG, ?_⟩
  obtain ⟨hc, ht, -⟩ := hG
  rw [ht, hc]
  exact ⟨(k_in 1174 (by decide +kernel) (by decide +kernel)), (k_in 1175 (by decide +kernel) (by decide +kernel)), (k_in 1176 (by decide +kernel) (by decide +kernel)), TX9, 13, rfl⟩
theorem vX6_153 {G : am_G} (hG : k_ok G) : am_cV G RX6 153 mX6_readNumber 2 6 := by
  refine ⟨kB_X6_readNumber hG, ?_⟩
  obtain ⟨hc, ht, -⟩ := hG
  rw [ht, hc]
  exact ⟨(k_in 1080 (by decide +kernel) (by decide +kernel)), (k_in 1082 (by decide +kernel) (by decide +kernel)), (k_in 26 (by decide +kernel) (by decide +kernel)), TX6, 11, rfl⟩
theorem vX6_156 {G : am_G} (hG : k_ok G) : am_cV G RX6 156 mX9_addPerson 3 9 := by
  refine ⟨kB_X9_addPerson hG, ?_⟩
  obtain ⟨hc, ht, -⟩ := hG
  rw [ht, hc]
  exact ⟨(k_in 1178 (by decide +kernel) (by decide +kernel)), (k_in 1179 (by decide +kernel) (by decide +kernel)), (k_in 1180 (by decide +kernel) (by decide +kernel)), TX9, 13, rfl⟩
theorem vX6_188 {G : am_G} (hG : k_ok G) : am_cV G RX6 188 mX6_readPerson 2 6 := by
  refine ⟨kB_X6_readPerson hG, ?_⟩
  obtain ⟨hc, ht, -⟩ := hG
  rw [ht, hc]
  exact ⟨(k_in 1084 (by decide +kernel) (by decide +kernel)), (k_in 1086 (by decide +kernel) (by decide +kernel)), (k_in 27 (by decide +kernel) (by decide +kernel)), TX6, 11, rfl⟩
theorem vX6_192 {G : am_G} (hG : k_ok G) : am_cV G RX6 192 mX3_addEater 2 3 := by
  refine ⟨kB_X3_addEater hG, ?_⟩
  obtain ⟨hc, ht, -⟩ := hG
  rw [ht, hc]
  exact ⟨(k_in 1089 (by decide +kernel) (by decide +kernel)), (k_in 1090 (by decide +kernel) (by decide +kernel)), (k_in 1091 (by decide +kernel) (by decide +kernel)), TX3, 8, rfl⟩
theorem vX6_199 {G : am_G} (hG : k_ok G) : am_cV G RX6 199 mX9_addMet 3 9 := by
  refine ⟨kB_X9_addMet hG, ?_⟩
  obtain ⟨hc, ht, -⟩ := hG
  rw [ht, hc]
  exact ⟨(k_in 1097 (by decide +kernel) (by decide +kernel)), (k_in 1098 (by decide +kernel) (by decide +kernel)), (k_in 1099 (by decide +kernel) (by decide +kernel)), TX9, 13, rfl⟩
theorem vX6_212 {G : am_G} (hG : k_ok G) : am_cV G RX6 212 mX6_readEither 2 6 := by
  refine ⟨kB_X6_readEither hG, ?_⟩
  obtain ⟨hc, ht, -⟩ := hG
  rw [ht, hc]
  exact ⟨(k_in 1113 (by decide +kernel) (by decide +kernel)), (k_in 1115 (by decide +kernel) (by decide +kernel)), (k_in 32 (by decide +kernel) (by decide +kernel)), TX6, 11, rfl⟩
theorem vX6_216 {G : am_G} (hG : k_ok G) : am_cV G RX6 216 mX6_isSign 1 6 := by
  refine ⟨kB_X6_isSign hG, ?_⟩
  obtain ⟨hc, ht, -⟩ := hG
  rw [ht, hc]
  exact ⟨(k_in 1117 (by decide +kernel) (by decide +kernel)), (k_in 1119 (by decide +kernel) (by decide +kernel)), (k_in 33 (by decide +kernel) (by decide +kernel)), TX6, 11, rfl⟩
theorem vX6_224 {G : am_G} (hG : k_ok G) : am_cV G RX6 224 mX6_readBoth 2 6 := by
  refine ⟨kB_X6_readBoth hG, ?_⟩
  obtain ⟨hc, ht, -⟩ := hG
  rw [ht, hc]
  exact ⟨(k_in 1121 (by decide +kernel) (by decide +kernel)), (k_in 1123 (by decide +kernel) (by decide +kernel)), (k_in 34 (by decide +kernel) (by decide +kernel)), TX6, 11, rfl⟩
theorem vX6_231 {G : am_G} (hG : k_ok G) : am_cV G RX6 231 mX7_add 1 7 := by
  refine ⟨kB_X7_add hG, ?_⟩
  obtain ⟨hc, ht, -⟩ := hG
  rw [ht, hc]
  exact ⟨(k_in 1164 (by decide +kernel) (by decide +kernel)), (k_in 1165 (by decide +kernel) (by decide +kernel)), (k_in 1166 (by decide +kernel) (by decide +kernel)), TX7, 3, rfl⟩
theorem vX6_234 {G : am_G} (hG : k_ok G) : am_cV G RX6 234 mX6_readNegated 2 6 := by
  refine ⟨kB_X6_readNegated hG, ?_⟩
  obtain ⟨hc, ht, -⟩ := hG
  rw [ht, hc]
  exact ⟨(k_in 1125 (by decide +kernel) (by decide +kernel)), (k_in 1127 (by decide +kernel) (by decide +kernel)), (k_in 35 (by decide +kernel) (by decide +kernel)), TX6, 11, rfl⟩
theorem vX6_241 {G : am_G} (hG : k_ok G) : am_cV G RX6 241 mX6_readTest 2 6 := by
  refine ⟨kB_X6_readTest hG, ?_⟩
  obtain ⟨hc, ht, -⟩ := hG
  rw [ht, hc]
  exact ⟨(k_in 1130 (by decide +kernel) (by decide +kernel)), (k_in 1132 (by decide +kernel) (by decide +kernel)), (k_in 36 (by decide +kernel) (by decide +kernel)), TX6, 11, rfl⟩
theorem vX6_244 {G : am_G} (hG : k_ok G) : am_cV G RX6 244 mX6_readSum 2 6 := by
  refine ⟨kB_X6_readSum hG, ?_⟩
  obtain ⟨hc, ht, -⟩ := hG
  rw [ht, hc]
  exact ⟨(k_in 1134 (by decide +kernel) (by decide +kernel)), (k_in 1136 (by decide +kernel) (by decide +kernel)), (k_in 37 (by decide +kernel) (by decide +kernel)), TX6, 11, rfl⟩
theorem vX6_247 {G : am_G} (hG : k_ok G) : am_cV G RX6 247 mX6_readProduct 2 6 := by
  refine ⟨kB_X6_readProduct hG, ?_⟩
  obtain ⟨hc, ht, -⟩ := hG
  rw [ht, hc]
  exact ⟨(k_in 1138 (by decide +kernel) (by decide +kernel)), (k_in 1140 (by decide +kernel) (by decide +kernel)), (k_in 38 (by decide +kernel) (by decide +kernel)), TX6, 11, rfl⟩
theorem vX6_250 {G : am_G} (hG : k_ok G) : am_cV G RX6 250 mX6_readPart 2 6 := by
  refine ⟨kB_X6_readPart hG, ?_⟩
  obtain ⟨hc, ht, -⟩ := hG
  rw [ht, hc]
  exact ⟨(k_in 1142 (by decide +kernel) (by decide +kernel)), (k_in 1144 (by decide +kernel) (by decide +kernel)), (k_in 39 (by decide +kernel) (by decide +kernel)), TX6, 11, rfl⟩
theorem vX6_253 {G : am_G} (hG : k_ok G) : am_cV G RX6 253 mX6_readValue 1 6 := by
  refine ⟨kB_X6_readValue hG, ?_⟩
  obtain ⟨hc, ht, -⟩ := hG
  rw [ht, hc]
  exact ⟨(k_in 1150 (by decide +kernel) (by decide +kernel)), (k_in 1152 (by decide +kernel) (by decide +kernel)), (k_in 41 (by decide +kernel) (by decide +kernel)), TX6, 11, rfl⟩
theorem vX6_257 {G : am_G} (hG : k_ok G) : am_cV G RX6 257 mX6_valueKind 0 6 := by
  refine ⟨kB_X6_valueKind hG, ?_⟩
  obtain ⟨hc, ht, -⟩ := hG
  rw [ht, hc]
  exact ⟨(k_in 1154 (by decide +kernel) (by decide +kernel)), (k_in 1156 (by decide +kernel) (by decide +kernel)), (k_in 42 (by decide +kernel) (by decide +kernel)), TX6, 11, rfl⟩
theorem vX7_22 {G : am_G} (hG : k_ok G) : am_cS G RX7 22 mX7_valueOf 2 := by
  refine ⟨kB_X7_valueOf hG, ?_⟩
  obtain ⟨hc, ht, -⟩ := hG
  rw [ht]
  exact ⟨(k_in 1304 (by decide +kernel) (by decide +kernel)), (k_in 1305 (by decide +kernel) (by decide +kernel))⟩
theorem vX7_26 {G : am_G} (hG : k_ok G) : am_cS G RX7 26 mX7_joined 3 := by
  refine ⟨kB_X7_joined hG, ?_⟩
  obtain ⟨hc, ht, -⟩ := hG
  rw [ht]
  exact ⟨(k_in 1307 (by decide +kernel) (by decide +kernel)), (k_in 1308 (by decide +kernel) (by decide +kernel))⟩
theorem vX8_31 {G : am_G} (hG : k_ok G) : am_cV G RX8 31 mX2_begin 1 2 := by
  refine ⟨kB_X2_begin hG, ?_⟩
  obtain ⟨hc, ht, -⟩ := hG
  rw [ht, hc]
  exact ⟨(k_in 549 (by decide +kernel) (by decide +kernel)), (k_in 550 (by decide +kernel) (by decide +kernel)), (k_in 551 (by decide +kernel) (by decide +kernel)), TX2, 5, rfl⟩
theorem vX8_35 {G : am_G} (hG : k_ok G) : am_cV G RX8 35 mX2_copyFrom 1 2 := by
  refine ⟨kB_X2_copyFrom hG, ?_⟩
  obtain ⟨hc, ht, -⟩ := hG
  rw [ht, hc]
  exact ⟨(k_in 580 (by decide +kernel) (by decide +kernel)), (k_in 581 (by decide +kernel) (by decide +kernel)), (k_in 582 (by decide +kernel) (by decide +kernel)), TX2, 5, rfl⟩
theorem vX8_49 {G : am_G} (hG : k_ok G) : am_cV G RX8 49 mX8_dropOldest 1 8 := by
  refine ⟨kB_X8_dropOldest hG, ?_⟩
  obtain ⟨hc, ht, -⟩ := hG
  rw [ht, hc]
  exact ⟨(k_in 661 (by decide +kernel) (by decide +kernel)), (k_in 663 (by decide +kernel) (by decide +kernel)), (k_in 0 (by decide +kernel) (by decide +kernel)), TX8, 6, rfl⟩
theorem vX8_52 {G : am_G} (hG : k_ok G) : am_cV G RX8 52 mX8_perform 3 8 := by
  refine ⟨kB_X8_perform hG, ?_⟩
  obtain ⟨hc, ht, -⟩ := hG
  rw [ht, hc]
  exact ⟨(k_in 665 (by decide +kernel) (by decide +kernel)), (k_in 667 (by decide +kernel) (by decide +kernel)), (k_in 1 (by decide +kernel) (by decide +kernel)), TX8, 6, rfl⟩
theorem vX8_62 {G : am_G} (hG : k_ok G) : am_cV G RX8 62 mX2_gather 3 2 := by
  refine ⟨kB_X2_gather hG, ?_⟩
  obtain ⟨hc, ht, -⟩ := hG
  rw [ht, hc]
  exact ⟨(k_in 669 (by decide +kernel) (by decide +kernel)), (k_in 558 (by decide +kernel) (by decide +kernel)), (k_in 559 (by decide +kernel) (by decide +kernel)), TX2, 5, rfl⟩
theorem vX8_69 {G : am_G} (hG : k_ok G) : am_cV G RX8 69 mX2_pass 1 2 := by
  refine ⟨kB_X2_pass hG, ?_⟩
  obtain ⟨hc, ht, -⟩ := hG
  rw [ht, hc]
  exact ⟨(k_in 670 (by decide +kernel) (by decide +kernel)), (k_in 671 (by decide +kernel) (by decide +kernel)), (k_in 672 (by decide +kernel) (by decide +kernel)), TX2, 5, rfl⟩
theorem vX9_66 {G : am_G} (hG : k_ok G) : am_cV G RX9 66 mX9_pair 1 9 := by
  refine ⟨kB_X9_pair hG, ?_⟩
  obtain ⟨hc, ht, -⟩ := hG
  rw [ht, hc]
  exact ⟨(k_in 568 (by decide +kernel) (by decide +kernel)), (k_in 569 (by decide +kernel) (by decide +kernel)), (k_in 570 (by decide +kernel) (by decide +kernel)), TX9, 13, rfl⟩
theorem vL_7 {G : am_G} (hG : k_ok G) : am_cV G RL 7 mX10_town 1 10 := by
  refine ⟨kB_X10_town hG, ?_⟩
  obtain ⟨hc, ht, -⟩ := hG
  rw [ht, hc]
  exact ⟨(k_in 854 (by decide +kernel) (by decide +kernel)), (k_in 855 (by decide +kernel) (by decide +kernel)), (k_in 856 (by decide +kernel) (by decide +kernel)), TX10, 13, rfl⟩
theorem vL_15 {G : am_G} (hG : k_ok G) : am_cV G RL 15 mX10_count 1 10 := by
  refine ⟨kB_X10_count hG, ?_⟩
  obtain ⟨hc, ht, -⟩ := hG
  rw [ht, hc]
  exact ⟨(k_in 1186 (by decide +kernel) (by decide +kernel)), (k_in 1187 (by decide +kernel) (by decide +kernel)), (k_in 1188 (by decide +kernel) (by decide +kernel)), TX10, 13, rfl⟩
theorem vL_20 {G : am_G} (hG : k_ok G) : am_cV G RL 20 mX10_person 2 10 := by
  refine ⟨kB_X10_person hG, ?_⟩
  obtain ⟨hc, ht, -⟩ := hG
  rw [ht, hc]
  exact ⟨(k_in 1217 (by decide +kernel) (by decide +kernel)), (k_in 1218 (by decide +kernel) (by decide +kernel)), (k_in 1219 (by decide +kernel) (by decide +kernel)), TX10, 13, rfl⟩
theorem vL_24 {G : am_G} (hG : k_ok G) : am_cV G RL 24 mX10_loaf 2 10 := by
  refine ⟨kB_X10_loaf hG, ?_⟩
  obtain ⟨hc, ht, -⟩ := hG
  rw [ht, hc]
  exact ⟨(k_in 1230 (by decide +kernel) (by decide +kernel)), (k_in 1231 (by decide +kernel) (by decide +kernel)), (k_in 1232 (by decide +kernel) (by decide +kernel)), TX10, 13, rfl⟩
theorem vL_27 {G : am_G} (hG : k_ok G) : am_cV G RL 27 mX10_met 2 10 := by
  refine ⟨kB_X10_met hG, ?_⟩
  obtain ⟨hc, ht, -⟩ := hG
  rw [ht, hc]
  exact ⟨(k_in 1259 (by decide +kernel) (by decide +kernel)), (k_in 1260 (by decide +kernel) (by decide +kernel)), (k_in 1261 (by decide +kernel) (by decide +kernel)), TX10, 13, rfl⟩
theorem vL_30 {G : am_G} (hG : k_ok G) : am_cV G RL 30 mX10_knows 2 10 := by
  refine ⟨kB_X10_knows hG, ?_⟩
  obtain ⟨hc, ht, -⟩ := hG
  rw [ht, hc]
  exact ⟨(k_in 1268 (by decide +kernel) (by decide +kernel)), (k_in 1269 (by decide +kernel) (by decide +kernel)), (k_in 1270 (by decide +kernel) (by decide +kernel)), TX10, 13, rfl⟩
theorem vL_34 {G : am_G} (hG : k_ok G) : am_cV G RL 34 mX10_may 2 10 := by
  refine ⟨kB_X10_may hG, ?_⟩
  obtain ⟨hc, ht, -⟩ := hG
  rw [ht, hc]
  exact ⟨(k_in 1275 (by decide +kernel) (by decide +kernel)), (k_in 1276 (by decide +kernel) (by decide +kernel)), (k_in 1277 (by decide +kernel) (by decide +kernel)), TX10, 13, rfl⟩
theorem vL_37 {G : am_G} (hG : k_ok G) : am_cV G RL 37 mX10_slice 3 10 := by
  refine ⟨kB_X10_slice hG, ?_⟩
  obtain ⟨hc, ht, -⟩ := hG
  rw [ht, hc]
  exact ⟨(k_in 1282 (by decide +kernel) (by decide +kernel)), (k_in 1283 (by decide +kernel) (by decide +kernel)), (k_in 1284 (by decide +kernel) (by decide +kernel)), TX10, 13, rfl⟩
theorem vL_41 {G : am_G} (hG : k_ok G) : am_cV G RL 41 mX10_cut 2 10 := by
  refine ⟨kB_X10_cut hG, ?_⟩
  obtain ⟨hc, ht, -⟩ := hG
  rw [ht, hc]
  exact ⟨(k_in 1330 (by decide +kernel) (by decide +kernel)), (k_in 1331 (by decide +kernel) (by decide +kernel)), (k_in 1332 (by decide +kernel) (by decide +kernel)), TX10, 13, rfl⟩
theorem vL_44 {G : am_G} (hG : k_ok G) : am_cV G RL 44 mX10_thank 2 10 := by
  refine ⟨kB_X10_thank hG, ?_⟩
  obtain ⟨hc, ht, -⟩ := hG
  rw [ht, hc]
  exact ⟨(k_in 1337 (by decide +kernel) (by decide +kernel)), (k_in 1338 (by decide +kernel) (by decide +kernel)), (k_in 1339 (by decide +kernel) (by decide +kernel)), TX10, 13, rfl⟩
theorem vL_47 {G : am_G} (hG : k_ok G) : am_cV G RL 47 mX10_carried 1 10 := by
  refine ⟨kB_X10_carried hG, ?_⟩
  obtain ⟨hc, ht, -⟩ := hG
  rw [ht, hc]
  exact ⟨(k_in 1344 (by decide +kernel) (by decide +kernel)), (k_in 1345 (by decide +kernel) (by decide +kernel)), (k_in 1346 (by decide +kernel) (by decide +kernel)), TX10, 13, rfl⟩
theorem vL_50 {G : am_G} (hG : k_ok G) : am_cV G RL 50 mX10_see 3 10 := by
  refine ⟨kB_X10_see hG, ?_⟩
  obtain ⟨hc, ht, -⟩ := hG
  rw [ht, hc]
  exact ⟨(k_in 1352 (by decide +kernel) (by decide +kernel)), (k_in 1353 (by decide +kernel) (by decide +kernel)), (k_in 1354 (by decide +kernel) (by decide +kernel)), TX10, 13, rfl⟩
theorem vL_53 {G : am_G} (hG : k_ok G) : am_cV G RL 53 mX10_who 1 10 := by
  refine ⟨kB_X10_who hG, ?_⟩
  obtain ⟨hc, ht, -⟩ := hG
  rw [ht, hc]
  exact ⟨(k_in 1363 (by decide +kernel) (by decide +kernel)), (k_in 1364 (by decide +kernel) (by decide +kernel)), (k_in 1365 (by decide +kernel) (by decide +kernel)), TX10, 13, rfl⟩
theorem vL_56 {G : am_G} (hG : k_ok G) : am_cV G RL 56 mX10_balk 2 10 := by
  refine ⟨kB_X10_balk hG, ?_⟩
  obtain ⟨hc, ht, -⟩ := hG
  rw [ht, hc]
  exact ⟨(k_in 1374 (by decide +kernel) (by decide +kernel)), (k_in 1375 (by decide +kernel) (by decide +kernel)), (k_in 1376 (by decide +kernel) (by decide +kernel)), TX10, 13, rfl⟩
theorem vL_59 {G : am_G} (hG : k_ok G) : am_cV G RL 59 mX10_whom 1 10 := by
  refine ⟨kB_X10_whom hG, ?_⟩
  obtain ⟨hc, ht, -⟩ := hG
  rw [ht, hc]
  exact ⟨(k_in 1385 (by decide +kernel) (by decide +kernel)), (k_in 1386 (by decide +kernel) (by decide +kernel)), (k_in 1387 (by decide +kernel) (by decide +kernel)), TX10, 13, rfl⟩
theorem vL_62 {G : am_G} (hG : k_ok G) : am_cV G RL 62 mX10_why 2 10 := by
  refine ⟨kB_X10_why hG, ?_⟩
  obtain ⟨hc, ht, -⟩ := hG
  rw [ht, hc]
  exact ⟨(k_in 1399 (by decide +kernel) (by decide +kernel)), (k_in 1400 (by decide +kernel) (by decide +kernel)), (k_in 1401 (by decide +kernel) (by decide +kernel)), TX10, 13, rfl⟩
theorem vL_65 {G : am_G} (hG : k_ok G) : am_cV G RL 65 mX10_fairest 2 10 := by
  refine ⟨kB_X10_fairest hG, ?_⟩
  obtain ⟨hc, ht, -⟩ := hG
  rw [ht, hc]
  exact ⟨(k_in 1407 (by decide +kernel) (by decide +kernel)), (k_in 1408 (by decide +kernel) (by decide +kernel)), (k_in 1409 (by decide +kernel) (by decide +kernel)), TX10, 13, rfl⟩
theorem vL_68 {G : am_G} (hG : k_ok G) : am_cV G RL 68 mX10_game 3 10 := by
  refine ⟨kB_X10_game hG, ?_⟩
  obtain ⟨hc, ht, -⟩ := hG
  rw [ht, hc]
  exact ⟨(k_in 1418 (by decide +kernel) (by decide +kernel)), (k_in 1419 (by decide +kernel) (by decide +kernel)), (k_in 1420 (by decide +kernel) (by decide +kernel)), TX10, 13, rfl⟩
theorem vL_71 {G : am_G} (hG : k_ok G) : am_cV G RL 71 mX10_season 3 10 := by
  refine ⟨kB_X10_season hG, ?_⟩
  obtain ⟨hc, ht, -⟩ := hG
  rw [ht, hc]
  exact ⟨(k_in 1434 (by decide +kernel) (by decide +kernel)), (k_in 1435 (by decide +kernel) (by decide +kernel)), (k_in 1436 (by decide +kernel) (by decide +kernel)), TX10, 13, rfl⟩
theorem vL_74 {G : am_G} (hG : k_ok G) : am_cI G RL 74 mX10_init 0 := by
  refine ⟨kB_X10_init hG, ?_⟩
  obtain ⟨hc, ht, -⟩ := hG
  rw [ht]
  exact ⟨(k_in 145 (by decide +kernel) (by decide +kernel)), rfl, (k_in 146 (by decide +kernel) (by decide +kernel))⟩
theorem vL_77 {G : am_G} (hG : k_ok G) : am_cI G RL 77 mX11_init 0 := by
  refine ⟨kB_X11_init hG, ?_⟩
  obtain ⟨hc, ht, -⟩ := hG
  rw [ht]
  exact ⟨(k_in 1460 (by decide +kernel) (by decide +kernel)), rfl, (k_in 1461 (by decide +kernel) (by decide +kernel))⟩
theorem vL_78 {G : am_G} (hG : k_ok G) : am_cV G RL 78 mX10_feed 5 10 := by
  refine ⟨kB_X10_feed hG, ?_⟩
  obtain ⟨hc, ht, -⟩ := hG
  rw [ht, hc]
  exact ⟨(k_in 631 (by decide +kernel) (by decide +kernel)), (k_in 632 (by decide +kernel) (by decide +kernel)), (k_in 633 (by decide +kernel) (by decide +kernel)), TX10, 13, rfl⟩
theorem vL_82 {G : am_G} (hG : k_ok G) : am_cV G RL 82 mX11_feed 5 11 := by
  refine ⟨kB_X11_feed hG, ?_⟩
  obtain ⟨hc, ht, -⟩ := hG
  rw [ht, hc]
  exact ⟨(k_in 1688 (by decide +kernel) (by decide +kernel)), (k_in 1689 (by decide +kernel) (by decide +kernel)), (k_in 1690 (by decide +kernel) (by decide +kernel)), TX11, 69, rfl⟩
theorem vL_88 {G : am_G} (hG : k_ok G) : am_cV G RL 88 mX11_town 1 11 := by
  refine ⟨kB_X11_town hG, ?_⟩
  obtain ⟨hc, ht, -⟩ := hG
  rw [ht, hc]
  exact ⟨(k_in 1692 (by decide +kernel) (by decide +kernel)), (k_in 1693 (by decide +kernel) (by decide +kernel)), (k_in 1694 (by decide +kernel) (by decide +kernel)), TX11, 69, rfl⟩
theorem vL_89 {G : am_G} (hG : k_ok G) : am_cV G RL 89 mX11_thrown 0 11 := by
  refine ⟨kB_X11_thrown hG, ?_⟩
  obtain ⟨hc, ht, -⟩ := hG
  rw [ht, hc]
  exact ⟨(k_in 1684 (by decide +kernel) (by decide +kernel)), (k_in 1685 (by decide +kernel) (by decide +kernel)), (k_in 1686 (by decide +kernel) (by decide +kernel)), TX11, 69, rfl⟩
theorem vL_93 {G : am_G} (hG : k_ok G) : am_cV G RL 93 mX10_fault 0 10 := by
  refine ⟨kB_X10_fault hG, ?_⟩
  obtain ⟨hc, ht, -⟩ := hG
  rw [ht, hc]
  exact ⟨(k_in 639 (by decide +kernel) (by decide +kernel)), (k_in 640 (by decide +kernel) (by decide +kernel)), (k_in 641 (by decide +kernel) (by decide +kernel)), TX10, 13, rfl⟩
theorem vL_96 {G : am_G} (hG : k_ok G) : am_cV G RL 96 mX11_fault 0 11 := by
  refine ⟨kB_X11_fault hG, ?_⟩
  obtain ⟨hc, ht, -⟩ := hG
  rw [ht, hc]
  exact ⟨(k_in 1820 (by decide +kernel) (by decide +kernel)), (k_in 1821 (by decide +kernel) (by decide +kernel)), (k_in 1822 (by decide +kernel) (by decide +kernel)), TX11, 69, rfl⟩
theorem vL_99 {G : am_G} (hG : k_ok G) : am_cV G RL 99 mX11_count 1 11 := by
  refine ⟨kB_X11_count hG, ?_⟩
  obtain ⟨hc, ht, -⟩ := hG
  rw [ht, hc]
  exact ⟨(k_in 1824 (by decide +kernel) (by decide +kernel)), (k_in 1825 (by decide +kernel) (by decide +kernel)), (k_in 1826 (by decide +kernel) (by decide +kernel)), TX11, 69, rfl⟩
theorem vL_103 {G : am_G} (hG : k_ok G) : am_cV G RL 103 mX11_person 2 11 := by
  refine ⟨kB_X11_person hG, ?_⟩
  obtain ⟨hc, ht, -⟩ := hG
  rw [ht, hc]
  exact ⟨(k_in 1844 (by decide +kernel) (by decide +kernel)), (k_in 1845 (by decide +kernel) (by decide +kernel)), (k_in 1846 (by decide +kernel) (by decide +kernel)), TX11, 69, rfl⟩
theorem vL_106 {G : am_G} (hG : k_ok G) : am_cV G RL 106 mX11_loaf 2 11 := by
  refine ⟨kB_X11_loaf hG, ?_⟩
  obtain ⟨hc, ht, -⟩ := hG
  rw [ht, hc]
  exact ⟨(k_in 1855 (by decide +kernel) (by decide +kernel)), (k_in 1856 (by decide +kernel) (by decide +kernel)), (k_in 1857 (by decide +kernel) (by decide +kernel)), TX11, 69, rfl⟩
theorem vL_109 {G : am_G} (hG : k_ok G) : am_cV G RL 109 mX11_met 2 11 := by
  refine ⟨kB_X11_met hG, ?_⟩
  obtain ⟨hc, ht, -⟩ := hG
  rw [ht, hc]
  exact ⟨(k_in 1887 (by decide +kernel) (by decide +kernel)), (k_in 1888 (by decide +kernel) (by decide +kernel)), (k_in 1889 (by decide +kernel) (by decide +kernel)), TX11, 69, rfl⟩
theorem vL_112 {G : am_G} (hG : k_ok G) : am_cV G RL 112 mX11_knows 2 11 := by
  refine ⟨kB_X11_knows hG, ?_⟩
  obtain ⟨hc, ht, -⟩ := hG
  rw [ht, hc]
  exact ⟨(k_in 1891 (by decide +kernel) (by decide +kernel)), (k_in 1892 (by decide +kernel) (by decide +kernel)), (k_in 1893 (by decide +kernel) (by decide +kernel)), TX11, 69, rfl⟩
theorem vL_115 {G : am_G} (hG : k_ok G) : am_cV G RL 115 mX11_may 2 11 := by
  refine ⟨kB_X11_may hG, ?_⟩
  obtain ⟨hc, ht, -⟩ := hG
  rw [ht, hc]
  exact ⟨(k_in 1899 (by decide +kernel) (by decide +kernel)), (k_in 1900 (by decide +kernel) (by decide +kernel)), (k_in 1901 (by decide +kernel) (by decide +kernel)), TX11, 69, rfl⟩
theorem vL_119 {G : am_G} (hG : k_ok G) : am_cV G RL 119 mX11_slice 3 11 := by
  refine ⟨kB_X11_slice hG, ?_⟩
  obtain ⟨hc, ht, -⟩ := hG
  rw [ht, hc]
  exact ⟨(k_in 1903 (by decide +kernel) (by decide +kernel)), (k_in 1904 (by decide +kernel) (by decide +kernel)), (k_in 1905 (by decide +kernel) (by decide +kernel)), TX11, 69, rfl⟩
theorem vL_122 {G : am_G} (hG : k_ok G) : am_cV G RL 122 mX11_cut 2 11 := by
  refine ⟨kB_X11_cut hG, ?_⟩
  obtain ⟨hc, ht, -⟩ := hG
  rw [ht, hc]
  exact ⟨(k_in 1923 (by decide +kernel) (by decide +kernel)), (k_in 1924 (by decide +kernel) (by decide +kernel)), (k_in 1925 (by decide +kernel) (by decide +kernel)), TX11, 69, rfl⟩
theorem vL_125 {G : am_G} (hG : k_ok G) : am_cV G RL 125 mX11_thank 2 11 := by
  refine ⟨kB_X11_thank hG, ?_⟩
  obtain ⟨hc, ht, -⟩ := hG
  rw [ht, hc]
  exact ⟨(k_in 1935 (by decide +kernel) (by decide +kernel)), (k_in 1936 (by decide +kernel) (by decide +kernel)), (k_in 1937 (by decide +kernel) (by decide +kernel)), TX11, 69, rfl⟩
theorem vL_126 {G : am_G} (hG : k_ok G) : am_cV G RL 126 mX10_fair 1 10 := by
  refine ⟨kB_X10_fair hG, ?_⟩
  obtain ⟨hc, ht, -⟩ := hG
  rw [ht, hc]
  exact ⟨(k_in 643 (by decide +kernel) (by decide +kernel)), (k_in 644 (by decide +kernel) (by decide +kernel)), (k_in 645 (by decide +kernel) (by decide +kernel)), TX10, 13, rfl⟩
theorem vL_129 {G : am_G} (hG : k_ok G) : am_cV G RL 129 mX11_fair 1 11 := by
  refine ⟨kB_X11_fair hG, ?_⟩
  obtain ⟨hc, ht, -⟩ := hG
  rw [ht, hc]
  exact ⟨(k_in 1947 (by decide +kernel) (by decide +kernel)), (k_in 1948 (by decide +kernel) (by decide +kernel)), (k_in 1949 (by decide +kernel) (by decide +kernel)), TX11, 69, rfl⟩
theorem vL_130 {G : am_G} (hG : k_ok G) : am_cV G RL 130 mX10_hours 1 10 := by
  refine ⟨kB_X10_hours hG, ?_⟩
  obtain ⟨hc, ht, -⟩ := hG
  rw [ht, hc]
  exact ⟨(k_in 679 (by decide +kernel) (by decide +kernel)), (k_in 680 (by decide +kernel) (by decide +kernel)), (k_in 681 (by decide +kernel) (by decide +kernel)), TX10, 13, rfl⟩
theorem vL_133 {G : am_G} (hG : k_ok G) : am_cV G RL 133 mX11_hours 1 11 := by
  refine ⟨kB_X11_hours hG, ?_⟩
  obtain ⟨hc, ht, -⟩ := hG
  rw [ht, hc]
  exact ⟨(k_in 1958 (by decide +kernel) (by decide +kernel)), (k_in 1959 (by decide +kernel) (by decide +kernel)), (k_in 1960 (by decide +kernel) (by decide +kernel)), TX11, 69, rfl⟩
theorem vL_134 {G : am_G} (hG : k_ok G) : am_cV G RL 134 mX10_undo 0 10 := by
  refine ⟨kB_X10_undo hG, ?_⟩
  obtain ⟨hc, ht, -⟩ := hG
  rw [ht, hc]
  exact ⟨(k_in 684 (by decide +kernel) (by decide +kernel)), (k_in 685 (by decide +kernel) (by decide +kernel)), (k_in 686 (by decide +kernel) (by decide +kernel)), TX10, 13, rfl⟩
theorem vL_137 {G : am_G} (hG : k_ok G) : am_cV G RL 137 mX11_undo 0 11 := by
  refine ⟨kB_X11_undo hG, ?_⟩
  obtain ⟨hc, ht, -⟩ := hG
  rw [ht, hc]
  exact ⟨(k_in 1963 (by decide +kernel) (by decide +kernel)), (k_in 1964 (by decide +kernel) (by decide +kernel)), (k_in 1965 (by decide +kernel) (by decide +kernel)), TX11, 69, rfl⟩
theorem vL_138 {G : am_G} (hG : k_ok G) : am_cV G RL 138 mX10_noon 0 10 := by
  refine ⟨kB_X10_noon hG, ?_⟩
  obtain ⟨hc, ht, -⟩ := hG
  rw [ht, hc]
  exact ⟨(k_in 709 (by decide +kernel) (by decide +kernel)), (k_in 710 (by decide +kernel) (by decide +kernel)), (k_in 711 (by decide +kernel) (by decide +kernel)), TX10, 13, rfl⟩
theorem vL_141 {G : am_G} (hG : k_ok G) : am_cV G RL 141 mX11_noon 0 11 := by
  refine ⟨kB_X11_noon hG, ?_⟩
  obtain ⟨hc, ht, -⟩ := hG
  rw [ht, hc]
  exact ⟨(k_in 1971 (by decide +kernel) (by decide +kernel)), (k_in 1972 (by decide +kernel) (by decide +kernel)), (k_in 1973 (by decide +kernel) (by decide +kernel)), TX11, 69, rfl⟩
theorem vL_144 {G : am_G} (hG : k_ok G) : am_cV G RL 144 mX11_carried 1 11 := by
  refine ⟨kB_X11_carried hG, ?_⟩
  obtain ⟨hc, ht, -⟩ := hG
  rw [ht, hc]
  exact ⟨(k_in 1996 (by decide +kernel) (by decide +kernel)), (k_in 1997 (by decide +kernel) (by decide +kernel)), (k_in 1998 (by decide +kernel) (by decide +kernel)), TX11, 69, rfl⟩
theorem vL_145 {G : am_G} (hG : k_ok G) : am_cV G RL 145 mX10_familiar 0 10 := by
  refine ⟨kB_X10_familiar hG, ?_⟩
  obtain ⟨hc, ht, -⟩ := hG
  rw [ht, hc]
  exact ⟨(k_in 790 (by decide +kernel) (by decide +kernel)), (k_in 791 (by decide +kernel) (by decide +kernel)), (k_in 792 (by decide +kernel) (by decide +kernel)), TX10, 13, rfl⟩
theorem vL_148 {G : am_G} (hG : k_ok G) : am_cV G RL 148 mX11_familiar 0 11 := by
  refine ⟨kB_X11_familiar hG, ?_⟩
  obtain ⟨hc, ht, -⟩ := hG
  rw [ht, hc]
  exact ⟨(k_in 2000 (by decide +kernel) (by decide +kernel)), (k_in 2001 (by decide +kernel) (by decide +kernel)), (k_in 2002 (by decide +kernel) (by decide +kernel)), TX11, 69, rfl⟩
theorem vL_149 {G : am_G} (hG : k_ok G) : am_cV G RL 149 mX10_ring 0 10 := by
  refine ⟨kB_X10_ring hG, ?_⟩
  obtain ⟨hc, ht, -⟩ := hG
  rw [ht, hc]
  exact ⟨(k_in 794 (by decide +kernel) (by decide +kernel)), (k_in 795 (by decide +kernel) (by decide +kernel)), (k_in 796 (by decide +kernel) (by decide +kernel)), TX10, 13, rfl⟩
theorem vL_152 {G : am_G} (hG : k_ok G) : am_cV G RL 152 mX11_ring 0 11 := by
  refine ⟨kB_X11_ring hG, ?_⟩
  obtain ⟨hc, ht, -⟩ := hG
  rw [ht, hc]
  exact ⟨(k_in 2004 (by decide +kernel) (by decide +kernel)), (k_in 2005 (by decide +kernel) (by decide +kernel)), (k_in 2006 (by decide +kernel) (by decide +kernel)), TX11, 69, rfl⟩
theorem vL_153 {G : am_G} (hG : k_ok G) : am_cV G RL 153 mX10_safe 0 10 := by
  refine ⟨kB_X10_safe hG, ?_⟩
  obtain ⟨hc, ht, -⟩ := hG
  rw [ht, hc]
  exact ⟨(k_in 803 (by decide +kernel) (by decide +kernel)), (k_in 804 (by decide +kernel) (by decide +kernel)), (k_in 805 (by decide +kernel) (by decide +kernel)), TX10, 13, rfl⟩
theorem vL_156 {G : am_G} (hG : k_ok G) : am_cV G RL 156 mX11_safe 0 11 := by
  refine ⟨kB_X11_safe hG, ?_⟩
  obtain ⟨hc, ht, -⟩ := hG
  rw [ht, hc]
  exact ⟨(k_in 2012 (by decide +kernel) (by decide +kernel)), (k_in 2013 (by decide +kernel) (by decide +kernel)), (k_in 2014 (by decide +kernel) (by decide +kernel)), TX11, 69, rfl⟩
theorem vL_157 {G : am_G} (hG : k_ok G) : am_cV G RL 157 mX10_help 0 10 := by
  refine ⟨kB_X10_help hG, ?_⟩
  obtain ⟨hc, ht, -⟩ := hG
  rw [ht, hc]
  exact ⟨(k_in 826 (by decide +kernel) (by decide +kernel)), (k_in 827 (by decide +kernel) (by decide +kernel)), (k_in 828 (by decide +kernel) (by decide +kernel)), TX10, 13, rfl⟩
theorem vL_160 {G : am_G} (hG : k_ok G) : am_cV G RL 160 mX11_help 0 11 := by
  refine ⟨kB_X11_help hG, ?_⟩
  obtain ⟨hc, ht, -⟩ := hG
  rw [ht, hc]
  exact ⟨(k_in 2024 (by decide +kernel) (by decide +kernel)), (k_in 2025 (by decide +kernel) (by decide +kernel)), (k_in 2026 (by decide +kernel) (by decide +kernel)), TX11, 69, rfl⟩
theorem vL_161 {G : am_G} (hG : k_ok G) : am_cV G RL 161 mX10_doors 0 10 := by
  refine ⟨kB_X10_doors hG, ?_⟩
  obtain ⟨hc, ht, -⟩ := hG
  rw [ht, hc]
  exact ⟨(k_in 836 (by decide +kernel) (by decide +kernel)), (k_in 837 (by decide +kernel) (by decide +kernel)), (k_in 838 (by decide +kernel) (by decide +kernel)), TX10, 13, rfl⟩
theorem vL_164 {G : am_G} (hG : k_ok G) : am_cV G RL 164 mX11_doors 0 11 := by
  refine ⟨kB_X11_doors hG, ?_⟩
  obtain ⟨hc, ht, -⟩ := hG
  rw [ht, hc]
  exact ⟨(k_in 2032 (by decide +kernel) (by decide +kernel)), (k_in 2033 (by decide +kernel) (by decide +kernel)), (k_in 2034 (by decide +kernel) (by decide +kernel)), TX11, 69, rfl⟩
theorem vL_167 {G : am_G} (hG : k_ok G) : am_cV G RL 167 mX11_see 3 11 := by
  refine ⟨kB_X11_see hG, ?_⟩
  obtain ⟨hc, ht, -⟩ := hG
  rw [ht, hc]
  exact ⟨(k_in 2040 (by decide +kernel) (by decide +kernel)), (k_in 2041 (by decide +kernel) (by decide +kernel)), (k_in 2042 (by decide +kernel) (by decide +kernel)), TX11, 69, rfl⟩
theorem vL_170 {G : am_G} (hG : k_ok G) : am_cV G RL 170 mX11_who 1 11 := by
  refine ⟨kB_X11_who hG, ?_⟩
  obtain ⟨hc, ht, -⟩ := hG
  rw [ht, hc]
  exact ⟨(k_in 2045 (by decide +kernel) (by decide +kernel)), (k_in 2046 (by decide +kernel) (by decide +kernel)), (k_in 2047 (by decide +kernel) (by decide +kernel)), TX11, 69, rfl⟩
theorem vL_173 {G : am_G} (hG : k_ok G) : am_cV G RL 173 mX11_balk 2 11 := by
  refine ⟨kB_X11_balk hG, ?_⟩
  obtain ⟨hc, ht, -⟩ := hG
  rw [ht, hc]
  exact ⟨(k_in 2049 (by decide +kernel) (by decide +kernel)), (k_in 2050 (by decide +kernel) (by decide +kernel)), (k_in 2051 (by decide +kernel) (by decide +kernel)), TX11, 69, rfl⟩
theorem vL_176 {G : am_G} (hG : k_ok G) : am_cV G RL 176 mX11_whom 1 11 := by
  refine ⟨kB_X11_whom hG, ?_⟩
  obtain ⟨hc, ht, -⟩ := hG
  rw [ht, hc]
  exact ⟨(k_in 2053 (by decide +kernel) (by decide +kernel)), (k_in 2054 (by decide +kernel) (by decide +kernel)), (k_in 2055 (by decide +kernel) (by decide +kernel)), TX11, 69, rfl⟩
theorem vL_179 {G : am_G} (hG : k_ok G) : am_cV G RL 179 mX11_why 2 11 := by
  refine ⟨kB_X11_why hG, ?_⟩
  obtain ⟨hc, ht, -⟩ := hG
  rw [ht, hc]
  exact ⟨(k_in 2061 (by decide +kernel) (by decide +kernel)), (k_in 2062 (by decide +kernel) (by decide +kernel)), (k_in 2063 (by decide +kernel) (by decide +kernel)), TX11, 69, rfl⟩
theorem vL_182 {G : am_G} (hG : k_ok G) : am_cV G RL 182 mX11_fairest 2 11 := by
  refine ⟨kB_X11_fairest hG, ?_⟩
  obtain ⟨hc, ht, -⟩ := hG
  rw [ht, hc]
  exact ⟨(k_in 2066 (by decide +kernel) (by decide +kernel)), (k_in 2067 (by decide +kernel) (by decide +kernel)), (k_in 2068 (by decide +kernel) (by decide +kernel)), TX11, 69, rfl⟩
theorem vL_183 {G : am_G} (hG : k_ok G) : am_cV G RL 183 mX10_forget 0 10 := by
  refine ⟨kB_X10_forget hG, ?_⟩
  obtain ⟨hc, ht, -⟩ := hG
  rw [ht, hc]
  exact ⟨(k_in 845 (by decide +kernel) (by decide +kernel)), (k_in 846 (by decide +kernel) (by decide +kernel)), (k_in 847 (by decide +kernel) (by decide +kernel)), TX10, 13, rfl⟩
theorem vL_186 {G : am_G} (hG : k_ok G) : am_cV G RL 186 mX11_forget 0 11 := by
  refine ⟨kB_X11_forget hG, ?_⟩
  obtain ⟨hc, ht, -⟩ := hG
  rw [ht, hc]
  exact ⟨(k_in 2074 (by decide +kernel) (by decide +kernel)), (k_in 2075 (by decide +kernel) (by decide +kernel)), (k_in 2076 (by decide +kernel) (by decide +kernel)), TX11, 69, rfl⟩
theorem vL_189 {G : am_G} (hG : k_ok G) : am_cV G RL 189 mX11_game 3 11 := by
  refine ⟨kB_X11_game hG, ?_⟩
  obtain ⟨hc, ht, -⟩ := hG
  rw [ht, hc]
  exact ⟨(k_in 2078 (by decide +kernel) (by decide +kernel)), (k_in 2079 (by decide +kernel) (by decide +kernel)), (k_in 2080 (by decide +kernel) (by decide +kernel)), TX11, 69, rfl⟩
theorem vL_192 {G : am_G} (hG : k_ok G) : am_cV G RL 192 mX11_season 3 11 := by
  refine ⟨kB_X11_season hG, ?_⟩
  obtain ⟨hc, ht, -⟩ := hG
  rw [ht, hc]
  exact ⟨(k_in 2086 (by decide +kernel) (by decide +kernel)), (k_in 2087 (by decide +kernel) (by decide +kernel)), (k_in 2088 (by decide +kernel) (by decide +kernel)), TX11, 69, rfl⟩
theorem vL_193 {G : am_G} (hG : k_ok G) : am_cV G RL 193 mX10_image 0 10 := by
  refine ⟨kB_X10_image hG, ?_⟩
  obtain ⟨hc, ht, -⟩ := hG
  rw [ht, hc]
  exact ⟨(k_in 692 (by decide +kernel) (by decide +kernel)), (k_in 693 (by decide +kernel) (by decide +kernel)), (k_in 694 (by decide +kernel) (by decide +kernel)), TX10, 13, rfl⟩
theorem vL_196 {G : am_G} (hG : k_ok G) : am_cV G RL 196 mX11_image 0 11 := by
  refine ⟨kB_X11_image hG, ?_⟩
  obtain ⟨hc, ht, -⟩ := hG
  rw [ht, hc]
  exact ⟨(k_in 2097 (by decide +kernel) (by decide +kernel)), (k_in 2098 (by decide +kernel) (by decide +kernel)), (k_in 2099 (by decide +kernel) (by decide +kernel)), TX11, 69, rfl⟩
theorem vL_197 {G : am_G} (hG : k_ok G) : am_cV G RL 197 mX10_restore 0 10 := by
  refine ⟨kB_X10_restore hG, ?_⟩
  obtain ⟨hc, ht, -⟩ := hG
  rw [ht, hc]
  exact ⟨(k_in 705 (by decide +kernel) (by decide +kernel)), (k_in 706 (by decide +kernel) (by decide +kernel)), (k_in 707 (by decide +kernel) (by decide +kernel)), TX10, 13, rfl⟩
theorem vL_201 {G : am_G} (hG : k_ok G) : am_cV G RL 201 mX11_restore 0 11 := by
  refine ⟨kB_X11_restore hG, ?_⟩
  obtain ⟨hc, ht, -⟩ := hG
  rw [ht, hc]
  exact ⟨(k_in 2104 (by decide +kernel) (by decide +kernel)), (k_in 2105 (by decide +kernel) (by decide +kernel)), (k_in 2106 (by decide +kernel) (by decide +kernel)), TX11, 69, rfl⟩
theorem vX11_162 {G : am_G} (hG : k_ok G) : am_cS G RX11 162 mX11_isIn 3 := by
  refine ⟨kB_X11_isIn hG, ?_⟩
  obtain ⟨hc, ht, -⟩ := hG
  rw [ht]
  exact ⟨(k_in 1852 (by decide +kernel) (by decide +kernel)), (k_in 1853 (by decide +kernel) (by decide +kernel))⟩
theorem vX11_174 {G : am_G} (hG : k_ok G) : am_cV G RX11 174 mX11_byteAt 1 11 := by
  refine ⟨kB_X11_byteAt hG, ?_⟩
  obtain ⟨hc, ht, -⟩ := hG
  rw [ht, hc]
  exact ⟨(k_in 1705 (by decide +kernel) (by decide +kernel)), (k_in 1707 (by decide +kernel) (by decide +kernel)), (k_in 59 (by decide +kernel) (by decide +kernel)), TX11, 69, rfl⟩
theorem vX11_184 {G : am_G} (hG : k_ok G) : am_cS G RX11 184 mX11_isLetter 1 := by
  refine ⟨kB_X11_isLetter hG, ?_⟩
  obtain ⟨hc, ht, -⟩ := hG
  rw [ht]
  exact ⟨(k_in 1709 (by decide +kernel) (by decide +kernel)), (k_in 1710 (by decide +kernel) (by decide +kernel))⟩
theorem vX11_188 {G : am_G} (hG : k_ok G) : am_cS G RX11 188 mX11_isDigit 1 := by
  refine ⟨kB_X11_isDigit hG, ?_⟩
  obtain ⟨hc, ht, -⟩ := hG
  rw [ht]
  exact ⟨(k_in 1712 (by decide +kernel) (by decide +kernel)), (k_in 1713 (by decide +kernel) (by decide +kernel))⟩
theorem vX11_201 {G : am_G} (hG : k_ok G) : am_cS G RX11 201 mX11_isMark 1 := by
  refine ⟨kB_X11_isMark hG, ?_⟩
  obtain ⟨hc, ht, -⟩ := hG
  rw [ht]
  exact ⟨(k_in 1717 (by decide +kernel) (by decide +kernel)), (k_in 1718 (by decide +kernel) (by decide +kernel))⟩
theorem vX11_221 {G : am_G} (hG : k_ok G) : am_cV G RX11 221 mX11_is 1 11 := by
  refine ⟨kB_X11_is hG, ?_⟩
  obtain ⟨hc, ht, -⟩ := hG
  rw [ht, hc]
  exact ⟨(k_in 1725 (by decide +kernel) (by decide +kernel)), (k_in 1727 (by decide +kernel) (by decide +kernel)), (k_in 61 (by decide +kernel) (by decide +kernel)), TX11, 69, rfl⟩
theorem vX11_225 {G : am_G} (hG : k_ok G) : am_cV G RX11 225 mX11_isMarked 1 11 := by
  refine ⟨kB_X11_isMarked hG, ?_⟩
  obtain ⟨hc, ht, -⟩ := hG
  rw [ht, hc]
  exact ⟨(k_in 1753 (by decide +kernel) (by decide +kernel)), (k_in 1755 (by decide +kernel) (by decide +kernel)), (k_in 67 (by decide +kernel) (by decide +kernel)), TX11, 69, rfl⟩
theorem vX11_228 {G : am_G} (hG : k_ok G) : am_cV G RX11 228 mX11_wrong 1 11 := by
  refine ⟨kB_X11_wrong hG, ?_⟩
  obtain ⟨hc, ht, -⟩ := hG
  rw [ht, hc]
  exact ⟨(k_in 1737 (by decide +kernel) (by decide +kernel)), (k_in 1739 (by decide +kernel) (by decide +kernel)), (k_in 63 (by decide +kernel) (by decide +kernel)), TX11, 69, rfl⟩
theorem vX11_232 {G : am_G} (hG : k_ok G) : am_cV G RX11 232 mX11_stepOn 0 11 := by
  refine ⟨kB_X11_stepOn hG, ?_⟩
  obtain ⟨hc, ht, -⟩ := hG
  rw [ht, hc]
  exact ⟨(k_in 1701 (by decide +kernel) (by decide +kernel)), (k_in 1703 (by decide +kernel) (by decide +kernel)), (k_in 58 (by decide +kernel) (by decide +kernel)), TX11, 69, rfl⟩
theorem vX11_235 {G : am_G} (hG : k_ok G) : am_cV G RX11 235 mX11_numberNow 2 11 := by
  refine ⟨kB_X11_numberNow hG, ?_⟩
  obtain ⟨hc, ht, -⟩ := hG
  rw [ht, hc]
  exact ⟨(k_in 1745 (by decide +kernel) (by decide +kernel)), (k_in 1747 (by decide +kernel) (by decide +kernel)), (k_in 65 (by decide +kernel) (by decide +kernel)), TX11, 69, rfl⟩
theorem vX11_238 {G : am_G} (hG : k_ok G) : am_cV G RX11 238 mX11_readNumber 2 11 := by
  refine ⟨kB_X11_readNumber hG, ?_⟩
  obtain ⟨hc, ht, -⟩ := hG
  rw [ht, hc]
  exact ⟨(k_in 1741 (by decide +kernel) (by decide +kernel)), (k_in 1743 (by decide +kernel) (by decide +kernel)), (k_in 64 (by decide +kernel) (by decide +kernel)), TX11, 69, rfl⟩
theorem vX11_241 {G : am_G} (hG : k_ok G) : am_cV G RX11 241 mX11_lay 1 11 := by
  refine ⟨kB_X11_lay hG, ?_⟩
  obtain ⟨hc, ht, -⟩ := hG
  rw [ht, hc]
  exact ⟨(k_in 1778 (by decide +kernel) (by decide +kernel)), (k_in 1780 (by decide +kernel) (by decide +kernel)), (k_in 73 (by decide +kernel) (by decide +kernel)), TX11, 69, rfl⟩
theorem vX11_244 {G : am_G} (hG : k_ok G) : am_cV G RX11 244 mX11_which 1 11 := by
  refine ⟨kB_X11_which hG, ?_⟩
  obtain ⟨hc, ht, -⟩ := hG
  rw [ht, hc]
  exact ⟨(k_in 1733 (by decide +kernel) (by decide +kernel)), (k_in 1735 (by decide +kernel) (by decide +kernel)), (k_in 62 (by decide +kernel) (by decide +kernel)), TX11, 69, rfl⟩
theorem vX11_248 {G : am_G} (hG : k_ok G) : am_cV G RX11 248 mX11_mark 1 11 := by
  refine ⟨kB_X11_mark hG, ?_⟩
  obtain ⟨hc, ht, -⟩ := hG
  rw [ht, hc]
  exact ⟨(k_in 1782 (by decide +kernel) (by decide +kernel)), (k_in 1784 (by decide +kernel) (by decide +kernel)), (k_in 74 (by decide +kernel) (by decide +kernel)), TX11, 69, rfl⟩
theorem vX11_251 {G : am_G} (hG : k_ok G) : am_cV G RX11 251 mX11_readExpression 1 11 := by
  refine ⟨kB_X11_readExpression hG, ?_⟩
  obtain ⟨hc, ht, -⟩ := hG
  rw [ht, hc]
  exact ⟨(k_in 1749 (by decide +kernel) (by decide +kernel)), (k_in 1751 (by decide +kernel) (by decide +kernel)), (k_in 66 (by decide +kernel) (by decide +kernel)), TX11, 69, rfl⟩
theorem vX11_254 {G : am_G} (hG : k_ok G) : am_cV G RX11 254 mX11_readPart 1 11 := by
  refine ⟨kB_X11_readPart hG, ?_⟩
  obtain ⟨hc, ht, -⟩ := hG
  rw [ht, hc]
  exact ⟨(k_in 1774 (by decide +kernel) (by decide +kernel)), (k_in 1776 (by decide +kernel) (by decide +kernel)), (k_in 72 (by decide +kernel) (by decide +kernel)), TX11, 69, rfl⟩
theorem vX11_257 {G : am_G} (hG : k_ok G) : am_cV G RX11 257 mX11_readProduct 1 11 := by
  refine ⟨kB_X11_readProduct hG, ?_⟩
  obtain ⟨hc, ht, -⟩ := hG
  rw [ht, hc]
  exact ⟨(k_in 1770 (by decide +kernel) (by decide +kernel)), (k_in 1772 (by decide +kernel) (by decide +kernel)), (k_in 71 (by decide +kernel) (by decide +kernel)), TX11, 69, rfl⟩
theorem vX11_262 {G : am_G} (hG : k_ok G) : am_cV G RX11 262 mX11_readSum 1 11 := by
  refine ⟨kB_X11_readSum hG, ?_⟩
  obtain ⟨hc, ht, -⟩ := hG
  rw [ht, hc]
  exact ⟨(k_in 1766 (by decide +kernel) (by decide +kernel)), (k_in 1768 (by decide +kernel) (by decide +kernel)), (k_in 70 (by decide +kernel) (by decide +kernel)), TX11, 69, rfl⟩
theorem vX11_265 {G : am_G} (hG : k_ok G) : am_cV G RX11 265 mX11_readNot 1 11 := by
  refine ⟨kB_X11_readNot hG, ?_⟩
  obtain ⟨hc, ht, -⟩ := hG
  rw [ht, hc]
  exact ⟨(k_in 1761 (by decide +kernel) (by decide +kernel)), (k_in 1763 (by decide +kernel) (by decide +kernel)), (k_in 69 (by decide +kernel) (by decide +kernel)), TX11, 69, rfl⟩
theorem vX11_270 {G : am_G} (hG : k_ok G) : am_cV G RX11 270 mX11_readAnd 1 11 := by
  refine ⟨kB_X11_readAnd hG, ?_⟩
  obtain ⟨hc, ht, -⟩ := hG
  rw [ht, hc]
  exact ⟨(k_in 1757 (by decide +kernel) (by decide +kernel)), (k_in 1759 (by decide +kernel) (by decide +kernel)), (k_in 68 (by decide +kernel) (by decide +kernel)), TX11, 69, rfl⟩
theorem vX11_275 {G : am_G} (hG : k_ok G) : am_cV G RX11 275 mX11_personNow 0 11 := by
  refine ⟨kB_X11_personNow hG, ?_⟩
  obtain ⟨hc, ht, -⟩ := hG
  rw [ht, hc]
  exact ⟨(k_in 1797 (by decide +kernel) (by decide +kernel)), (k_in 1799 (by decide +kernel) (by decide +kernel)), (k_in 77 (by decide +kernel) (by decide +kernel)), TX11, 69, rfl⟩
theorem vX11_278 {G : am_G} (hG : k_ok G) : am_cS G RX11 278 mX11_isOf 2 := by
  refine ⟨kB_X11_isOf hG, ?_⟩
  obtain ⟨hc, ht, -⟩ := hG
  rw [ht]
  exact ⟨(k_in 1801 (by decide +kernel) (by decide +kernel)), (k_in 1802 (by decide +kernel) (by decide +kernel))⟩
theorem vX11_282 {G : am_G} (hG : k_ok G) : am_cS G RX11 282 mX11_couple 2 := by
  refine ⟨kB_X11_couple hG, ?_⟩
  obtain ⟨hc, ht, -⟩ := hG
  rw [ht]
  exact ⟨(k_in 1809 (by decide +kernel) (by decide +kernel)), (k_in 1810 (by decide +kernel) (by decide +kernel))⟩
theorem vX11_294 {G : am_G} (hG : k_ok G) : am_cV G RX11 294 mX11_readPerson 1 11 := by
  refine ⟨kB_X11_readPerson hG, ?_⟩
  obtain ⟨hc, ht, -⟩ := hG
  rw [ht, hc]
  exact ⟨(k_in 1788 (by decide +kernel) (by decide +kernel)), (k_in 1790 (by decide +kernel) (by decide +kernel)), (k_in 75 (by decide +kernel) (by decide +kernel)), TX11, 69, rfl⟩
theorem vX11_299 {G : am_G} (hG : k_ok G) : am_cV G RX11 299 mX11_readLoaf 0 11 := by
  refine ⟨kB_X11_readLoaf hG, ?_⟩
  obtain ⟨hc, ht, -⟩ := hG
  rw [ht, hc]
  exact ⟨(k_in 1793 (by decide +kernel) (by decide +kernel)), (k_in 1795 (by decide +kernel) (by decide +kernel)), (k_in 76 (by decide +kernel) (by decide +kernel)), TX11, 69, rfl⟩
theorem vX11_304 {G : am_G} (hG : k_ok G) : am_cV G RX11 304 mX11_readMet 0 11 := by
  refine ⟨kB_X11_readMet hG, ?_⟩
  obtain ⟨hc, ht, -⟩ := hG
  rw [ht, hc]
  exact ⟨(k_in 1805 (by decide +kernel) (by decide +kernel)), (k_in 1807 (by decide +kernel) (by decide +kernel)), (k_in 78 (by decide +kernel) (by decide +kernel)), TX11, 69, rfl⟩
theorem vX11_307 {G : am_G} (hG : k_ok G) : am_cV G RX11 307 mX11_fail 1 11 := by
  refine ⟨kB_X11_fail hG, ?_⟩
  obtain ⟨hc, ht, -⟩ := hG
  rw [ht, hc]
  exact ⟨(k_in 1696 (by decide +kernel) (by decide +kernel)), (k_in 1698 (by decide +kernel) (by decide +kernel)), (k_in 57 (by decide +kernel) (by decide +kernel)), TX11, 69, rfl⟩
theorem vX11_311 {G : am_G} (hG : k_ok G) : am_cV G RX11 311 mX11_readLine 1 11 := by
  refine ⟨kB_X11_readLine hG, ?_⟩
  obtain ⟨hc, ht, -⟩ := hG
  rw [ht, hc]
  exact ⟨(k_in 1720 (by decide +kernel) (by decide +kernel)), (k_in 1722 (by decide +kernel) (by decide +kernel)), (k_in 60 (by decide +kernel) (by decide +kernel)), TX11, 69, rfl⟩
theorem vX11_314 {G : am_G} (hG : k_ok G) : am_cV G RX11 314 mX11_takeOver 0 11 := by
  refine ⟨kB_X11_takeOver hG, ?_⟩
  obtain ⟨hc, ht, -⟩ := hG
  rw [ht, hc]
  exact ⟨(k_in 1813 (by decide +kernel) (by decide +kernel)), (k_in 1815 (by decide +kernel) (by decide +kernel)), (k_in 79 (by decide +kernel) (by decide +kernel)), TX11, 69, rfl⟩
theorem vX11_317 {G : am_G} (hG : k_ok G) : am_cS G RX11 317 mX11_takeHalf 1 := by
  refine ⟨kB_X11_takeHalf hG, ?_⟩
  obtain ⟨hc, ht, -⟩ := hG
  rw [ht]
  exact ⟨(k_in 1817 (by decide +kernel) (by decide +kernel)), (k_in 1818 (by decide +kernel) (by decide +kernel))⟩
theorem vX11_343 {G : am_G} (hG : k_ok G) : am_cV G RX11 343 mX11_twinOf 1 11 := by
  refine ⟨kB_X11_twinOf hG, ?_⟩
  obtain ⟨hc, ht, -⟩ := hG
  rw [ht, hc]
  exact ⟨(k_in 1836 (by decide +kernel) (by decide +kernel)), (k_in 1838 (by decide +kernel) (by decide +kernel)), (k_in 82 (by decide +kernel) (by decide +kernel)), TX11, 69, rfl⟩
theorem vX11_346 {G : am_G} (hG : k_ok G) : am_cV G RX11 346 mX11_lastDay 2 11 := by
  refine ⟨kB_X11_lastDay hG, ?_⟩
  obtain ⟨hc, ht, -⟩ := hG
  rw [ht, hc]
  exact ⟨(k_in 1840 (by decide +kernel) (by decide +kernel)), (k_in 1842 (by decide +kernel) (by decide +kernel)), (k_in 83 (by decide +kernel) (by decide +kernel)), TX11, 69, rfl⟩
theorem vX11_349 {G : am_G} (hG : k_ok G) : am_cV G RX11 349 mX11_isKnown 2 11 := by
  refine ⟨kB_X11_isKnown hG, ?_⟩
  obtain ⟨hc, ht, -⟩ := hG
  rw [ht, hc]
  exact ⟨(k_in 1832 (by decide +kernel) (by decide +kernel)), (k_in 1834 (by decide +kernel) (by decide +kernel)), (k_in 81 (by decide +kernel) (by decide +kernel)), TX11, 69, rfl⟩
theorem vX11_352 {G : am_G} (hG : k_ok G) : am_cV G RX11 352 mX11_eatersOf 1 11 := by
  refine ⟨kB_X11_eatersOf hG, ?_⟩
  obtain ⟨hc, ht, -⟩ := hG
  rw [ht, hc]
  exact ⟨(k_in 1863 (by decide +kernel) (by decide +kernel)), (k_in 1865 (by decide +kernel) (by decide +kernel)), (k_in 86 (by decide +kernel) (by decide +kernel)), TX11, 69, rfl⟩
theorem vX11_355 {G : am_G} (hG : k_ok G) : am_cV G RX11 355 mX11_eats 2 11 := by
  refine ⟨kB_X11_eats hG, ?_⟩
  obtain ⟨hc, ht, -⟩ := hG
  rw [ht, hc]
  exact ⟨(k_in 1879 (by decide +kernel) (by decide +kernel)), (k_in 1881 (by decide +kernel) (by decide +kernel)), (k_in 90 (by decide +kernel) (by decide +kernel)), TX11, 69, rfl⟩
theorem vX11_358 {G : am_G} (hG : k_ok G) : am_cV G RX11 358 mX11_knowsEater 2 11 := by
  refine ⟨kB_X11_knowsEater hG, ?_⟩
  obtain ⟨hc, ht, -⟩ := hG
  rw [ht, hc]
  exact ⟨(k_in 1883 (by decide +kernel) (by decide +kernel)), (k_in 1885 (by decide +kernel) (by decide +kernel)), (k_in 91 (by decide +kernel) (by decide +kernel)), TX11, 69, rfl⟩
theorem vX11_361 {G : am_G} (hG : k_ok G) : am_cV G RX11 361 mX11_mayNow 2 11 := by
  refine ⟨kB_X11_mayNow hG, ?_⟩
  obtain ⟨hc, ht, -⟩ := hG
  rw [ht, hc]
  exact ⟨(k_in 1875 (by decide +kernel) (by decide +kernel)), (k_in 1877 (by decide +kernel) (by decide +kernel)), (k_in 89 (by decide +kernel) (by decide +kernel)), TX11, 69, rfl⟩
theorem vX11_364 {G : am_G} (hG : k_ok G) : am_cV G RX11 364 mX11_canCut 2 11 := by
  refine ⟨kB_X11_canCut hG, ?_⟩
  obtain ⟨hc, ht, -⟩ := hG
  rw [ht, hc]
  exact ⟨(k_in 1979 (by decide +kernel) (by decide +kernel)), (k_in 1981 (by decide +kernel) (by decide +kernel)), (k_in 103 (by decide +kernel) (by decide +kernel)), TX11, 69, rfl⟩
theorem vX11_367 {G : am_G} (hG : k_ok G) : am_cS G RX11 367 mX11_reckon 3 := by
  refine ⟨kB_X11_reckon hG, ?_⟩
  obtain ⟨hc, ht, -⟩ := hG
  rw [ht]
  exact ⟨(k_in 1920 (by decide +kernel) (by decide +kernel)), (k_in 1921 (by decide +kernel) (by decide +kernel))⟩
theorem vX11_374 {G : am_G} (hG : k_ok G) : am_cV G RX11 374 mX11_valueNow 0 11 := by
  refine ⟨kB_X11_valueNow hG, ?_⟩
  obtain ⟨hc, ht, -⟩ := hG
  rw [ht, hc]
  exact ⟨(k_in 1916 (by decide +kernel) (by decide +kernel)), (k_in 1918 (by decide +kernel) (by decide +kernel)), (k_in 95 (by decide +kernel) (by decide +kernel)), TX11, 69, rfl⟩
theorem vX11_377 {G : am_G} (hG : k_ok G) : am_cV G RX11 377 mX11_tellUnits 1 11 := by
  refine ⟨kB_X11_tellUnits hG, ?_⟩
  obtain ⟨hc, ht, -⟩ := hG
  rw [ht, hc]
  exact ⟨(k_in 1867 (by decide +kernel) (by decide +kernel)), (k_in 1869 (by decide +kernel) (by decide +kernel)), (k_in 87 (by decide +kernel) (by decide +kernel)), TX11, 69, rfl⟩
theorem vX11_380 {G : am_G} (hG : k_ok G) : am_cV G RX11 380 mX11_shareOf 3 11 := by
  refine ⟨kB_X11_shareOf hG, ?_⟩
  obtain ⟨hc, ht, -⟩ := hG
  rw [ht, hc]
  exact ⟨(k_in 1912 (by decide +kernel) (by decide +kernel)), (k_in 1914 (by decide +kernel) (by decide +kernel)), (k_in 94 (by decide +kernel) (by decide +kernel)), TX11, 69, rfl⟩
theorem vX11_386 {G : am_G} (hG : k_ok G) : am_cV G RX11 386 mX11_knownBoth 0 11 := by
  refine ⟨kB_X11_knownBoth hG, ?_⟩
  obtain ⟨hc, ht, -⟩ := hG
  rw [ht, hc]
  exact ⟨(k_in 1828 (by decide +kernel) (by decide +kernel)), (k_in 1830 (by decide +kernel) (by decide +kernel)), (k_in 80 (by decide +kernel) (by decide +kernel)), TX11, 69, rfl⟩
theorem vX11_389 {G : am_G} (hG : k_ok G) : am_cV G RX11 389 mX11_isPerson 1 11 := by
  refine ⟨kB_X11_isPerson hG, ?_⟩
  obtain ⟨hc, ht, -⟩ := hG
  rw [ht, hc]
  exact ⟨(k_in 1848 (by decide +kernel) (by decide +kernel)), (k_in 1850 (by decide +kernel) (by decide +kernel)), (k_in 84 (by decide +kernel) (by decide +kernel)), TX11, 69, rfl⟩
theorem vX11_392 {G : am_G} (hG : k_ok G) : am_cV G RX11 392 mX11_isLoaf 1 11 := by
  refine ⟨kB_X11_isLoaf hG, ?_⟩
  obtain ⟨hc, ht, -⟩ := hG
  rw [ht, hc]
  exact ⟨(k_in 1859 (by decide +kernel) (by decide +kernel)), (k_in 1861 (by decide +kernel) (by decide +kernel)), (k_in 85 (by decide +kernel) (by decide +kernel)), TX11, 69, rfl⟩
theorem vX11_395 {G : am_G} (hG : k_ok G) : am_cV G RX11 395 mX11_answering 2 11 := by
  refine ⟨kB_X11_answering hG, ?_⟩
  obtain ⟨hc, ht, -⟩ := hG
  rw [ht, hc]
  exact ⟨(k_in 1871 (by decide +kernel) (by decide +kernel)), (k_in 1873 (by decide +kernel) (by decide +kernel)), (k_in 88 (by decide +kernel) (by decide +kernel)), TX11, 69, rfl⟩
theorem vX11_398 {G : am_G} (hG : k_ok G) : am_cV G RX11 398 mX11_failing 1 11 := by
  refine ⟨kB_X11_failing hG, ?_⟩
  obtain ⟨hc, ht, -⟩ := hG
  rw [ht, hc]
  exact ⟨(k_in 1895 (by decide +kernel) (by decide +kernel)), (k_in 1897 (by decide +kernel) (by decide +kernel)), (k_in 92 (by decide +kernel) (by decide +kernel)), TX11, 69, rfl⟩
theorem vX11_403 {G : am_G} (hG : k_ok G) : am_cV G RX11 403 mX11_tellSlices 2 11 := by
  refine ⟨kB_X11_tellSlices hG, ?_⟩
  obtain ⟨hc, ht, -⟩ := hG
  rw [ht, hc]
  exact ⟨(k_in 1908 (by decide +kernel) (by decide +kernel)), (k_in 1910 (by decide +kernel) (by decide +kernel)), (k_in 93 (by decide +kernel) (by decide +kernel)), TX11, 69, rfl⟩
theorem vX11_407 {G : am_G} (hG : k_ok G) : am_cV G RX11 407 mX11_pack 2 11 := by
  refine ⟨kB_X11_pack hG, ?_⟩
  obtain ⟨hc, ht, -⟩ := hG
  rw [ht, hc]
  exact ⟨(k_in 1931 (by decide +kernel) (by decide +kernel)), (k_in 1933 (by decide +kernel) (by decide +kernel)), (k_in 97 (by decide +kernel) (by decide +kernel)), TX11, 69, rfl⟩
theorem vX11_411 {G : am_G} (hG : k_ok G) : am_cV G RX11 411 mX11_keep 0 11 := by
  refine ⟨kB_X11_keep hG, ?_⟩
  obtain ⟨hc, ht, -⟩ := hG
  rw [ht, hc]
  exact ⟨(k_in 1927 (by decide +kernel) (by decide +kernel)), (k_in 1929 (by decide +kernel) (by decide +kernel)), (k_in 96 (by decide +kernel) (by decide +kernel)), TX11, 69, rfl⟩
theorem vX11_414 {G : am_G} (hG : k_ok G) : am_cV G RX11 414 mX11_refuse 1 11 := by
  refine ⟨kB_X11_refuse hG, ?_⟩
  obtain ⟨hc, ht, -⟩ := hG
  rw [ht, hc]
  exact ⟨(k_in 1939 (by decide +kernel) (by decide +kernel)), (k_in 1941 (by decide +kernel) (by decide +kernel)), (k_in 98 (by decide +kernel) (by decide +kernel)), TX11, 69, rfl⟩
theorem vX11_417 {G : am_G} (hG : k_ok G) : am_cV G RX11 417 mX11_meet 3 11 := by
  refine ⟨kB_X11_meet hG, ?_⟩
  obtain ⟨hc, ht, -⟩ := hG
  rw [ht, hc]
  exact ⟨(k_in 1943 (by decide +kernel) (by decide +kernel)), (k_in 1945 (by decide +kernel) (by decide +kernel)), (k_in 99 (by decide +kernel) (by decide +kernel)), TX11, 69, rfl⟩
theorem vX11_421 {G : am_G} (hG : k_ok G) : am_cS G RX11 421 mX11_bitsOf 1 := by
  refine ⟨kB_X11_bitsOf hG, ?_⟩
  obtain ⟨hc, ht, -⟩ := hG
  rw [ht]
  exact ⟨(k_in 1951 (by decide +kernel) (by decide +kernel)), (k_in 1952 (by decide +kernel) (by decide +kernel))⟩
theorem vX11_424 {G : am_G} (hG : k_ok G) : am_cV G RX11 424 mX11_fairOf 1 11 := by
  refine ⟨kB_X11_fairOf hG, ?_⟩
  obtain ⟨hc, ht, -⟩ := hG
  rw [ht, hc]
  exact ⟨(k_in 1954 (by decide +kernel) (by decide +kernel)), (k_in 1956 (by decide +kernel) (by decide +kernel)), (k_in 100 (by decide +kernel) (by decide +kernel)), TX11, 69, rfl⟩
theorem vX11_429 {G : am_G} (hG : k_ok G) : am_cV G RX11 429 mX11_unpack 2 11 := by
  refine ⟨kB_X11_unpack hG, ?_⟩
  obtain ⟨hc, ht, -⟩ := hG
  rw [ht, hc]
  exact ⟨(k_in 1967 (by decide +kernel) (by decide +kernel)), (k_in 1969 (by decide +kernel) (by decide +kernel)), (k_in 101 (by decide +kernel) (by decide +kernel)), TX11, 69, rfl⟩
theorem vX11_435 {G : am_G} (hG : k_ok G) : am_cV G RX11 435 mX11_until 1 11 := by
  refine ⟨kB_X11_until hG, ?_⟩
  obtain ⟨hc, ht, -⟩ := hG
  rw [ht, hc]
  exact ⟨(k_in 1987 (by decide +kernel) (by decide +kernel)), (k_in 1989 (by decide +kernel) (by decide +kernel)), (k_in 105 (by decide +kernel) (by decide +kernel)), TX11, 69, rfl⟩
theorem vX11_438 {G : am_G} (hG : k_ok G) : am_cV G RX11 438 mX11_from 2 11 := by
  refine ⟨kB_X11_from hG, ?_⟩
  obtain ⟨hc, ht, -⟩ := hG
  rw [ht, hc]
  exact ⟨(k_in 1991 (by decide +kernel) (by decide +kernel)), (k_in 1993 (by decide +kernel) (by decide +kernel)), (k_in 106 (by decide +kernel) (by decide +kernel)), TX11, 69, rfl⟩
theorem vX11_447 {G : am_G} (hG : k_ok G) : am_cV G RX11 447 mX11_rowOn 2 11 := by
  refine ⟨kB_X11_rowOn hG, ?_⟩
  obtain ⟨hc, ht, -⟩ := hG
  rw [ht, hc]
  exact ⟨(k_in 1975 (by decide +kernel) (by decide +kernel)), (k_in 1977 (by decide +kernel) (by decide +kernel)), (k_in 102 (by decide +kernel) (by decide +kernel)), TX11, 69, rfl⟩
theorem vX11_450 {G : am_G} (hG : k_ok G) : am_cV G RX11 450 mX11_isInTime 2 11 := by
  refine ⟨kB_X11_isInTime hG, ?_⟩
  obtain ⟨hc, ht, -⟩ := hG
  rw [ht, hc]
  exact ⟨(k_in 1983 (by decide +kernel) (by decide +kernel)), (k_in 1985 (by decide +kernel) (by decide +kernel)), (k_in 104 (by decide +kernel) (by decide +kernel)), TX11, 69, rfl⟩
theorem vX11_453 {G : am_G} (hG : k_ok G) : am_cV G RX11 453 mX11_areStrangers 1 11 := by
  refine ⟨kB_X11_areStrangers hG, ?_⟩
  obtain ⟨hc, ht, -⟩ := hG
  rw [ht, hc]
  exact ⟨(k_in 2008 (by decide +kernel) (by decide +kernel)), (k_in 2010 (by decide +kernel) (by decide +kernel)), (k_in 107 (by decide +kernel) (by decide +kernel)), TX11, 69, rfl⟩
theorem vX11_456 {G : am_G} (hG : k_ok G) : am_cV G RX11 456 mX11_cutters 1 11 := by
  refine ⟨kB_X11_cutters hG, ?_⟩
  obtain ⟨hc, ht, -⟩ := hG
  rw [ht, hc]
  exact ⟨(k_in 2020 (by decide +kernel) (by decide +kernel)), (k_in 2022 (by decide +kernel) (by decide +kernel)), (k_in 109 (by decide +kernel) (by decide +kernel)), TX11, 69, rfl⟩
theorem vX11_459 {G : am_G} (hG : k_ok G) : am_cV G RX11 459 mX11_cuttable 1 11 := by
  refine ⟨kB_X11_cuttable hG, ?_⟩
  obtain ⟨hc, ht, -⟩ := hG
  rw [ht, hc]
  exact ⟨(k_in 2016 (by decide +kernel) (by decide +kernel)), (k_in 2018 (by decide +kernel) (by decide +kernel)), (k_in 108 (by decide +kernel) (by decide +kernel)), TX11, 69, rfl⟩
theorem vX11_466 {G : am_G} (hG : k_ok G) : am_cV G RX11 466 mX11_isHelped 1 11 := by
  refine ⟨kB_X11_isHelped hG, ?_⟩
  obtain ⟨hc, ht, -⟩ := hG
  rw [ht, hc]
  exact ⟨(k_in 2028 (by decide +kernel) (by decide +kernel)), (k_in 2030 (by decide +kernel) (by decide +kernel)), (k_in 110 (by decide +kernel) (by decide +kernel)), TX11, 69, rfl⟩
theorem vX11_469 {G : am_G} (hG : k_ok G) : am_cV G RX11 469 mX11_peopleIn 1 11 := by
  refine ⟨kB_X11_peopleIn hG, ?_⟩
  obtain ⟨hc, ht, -⟩ := hG
  rw [ht, hc]
  exact ⟨(k_in 2036 (by decide +kernel) (by decide +kernel)), (k_in 2038 (by decide +kernel) (by decide +kernel)), (k_in 111 (by decide +kernel) (by decide +kernel)), TX11, 69, rfl⟩
theorem vX11_474 {G : am_G} (hG : k_ok G) : am_cV G RX11 474 mX11_isBalked 0 11 := by
  refine ⟨kB_X11_isBalked hG, ?_⟩
  obtain ⟨hc, ht, -⟩ := hG
  rw [ht, hc]
  exact ⟨(k_in 2057 (by decide +kernel) (by decide +kernel)), (k_in 2059 (by decide +kernel) (by decide +kernel)), (k_in 112 (by decide +kernel) (by decide +kernel)), TX11, 69, rfl⟩
theorem vX11_480 {G : am_G} (hG : k_ok G) : am_cV G RX11 480 mX11_goodFor 3 11 := by
  refine ⟨kB_X11_goodFor hG, ?_⟩
  obtain ⟨hc, ht, -⟩ := hG
  rw [ht, hc]
  exact ⟨(k_in 2070 (by decide +kernel) (by decide +kernel)), (k_in 2072 (by decide +kernel) (by decide +kernel)), (k_in 113 (by decide +kernel) (by decide +kernel)), TX11, 69, rfl⟩
theorem vX11_483 {G : am_G} (hG : k_ok G) : am_cV G RX11 483 mX11_gain 3 11 := by
  refine ⟨kB_X11_gain hG, ?_⟩
  obtain ⟨hc, ht, -⟩ := hG
  rw [ht, hc]
  exact ⟨(k_in 2082 (by decide +kernel) (by decide +kernel)), (k_in 2084 (by decide +kernel) (by decide +kernel)), (k_in 114 (by decide +kernel) (by decide +kernel)), TX11, 69, rfl⟩
theorem vX11_494 {G : am_G} (hG : k_ok G) : am_cV G RX11 494 mX11_drawOf 1 11 := by
  refine ⟨kB_X11_drawOf hG, ?_⟩
  obtain ⟨hc, ht, -⟩ := hG
  rw [ht, hc]
  exact ⟨(k_in 2092 (by decide +kernel) (by decide +kernel)), (k_in 2094 (by decide +kernel) (by decide +kernel)), (k_in 115 (by decide +kernel) (by decide +kernel)), TX11, 69, rfl⟩
theorem vX11_506 {G : am_G} (hG : k_ok G) : am_cS G RX11 506 mX11_be 2 := by
  refine ⟨kB_X11_be hG, ?_⟩
  obtain ⟨hc, ht, -⟩ := hG
  rw [ht]
  exact ⟨(k_in 2101 (by decide +kernel) (by decide +kernel)), (k_in 2102 (by decide +kernel) (by decide +kernel))⟩
