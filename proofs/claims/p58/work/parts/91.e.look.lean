/-! every method is looked at (4) -/
theorem am_q290_0_0 : ((am_k290_0.drop 0).take 12).all (am_ck 290) = true := by decide +kernel
theorem am_q290_0_12 : ((am_k290_0.drop 12).take 12).all (am_ck 290) = true := by decide +kernel
theorem am_q290_0_24 : ((am_k290_0.drop 24).take 12).all (am_ck 290) = true := by decide +kernel
theorem am_q290_0_36 : ((am_k290_0.drop 36).take 12).all (am_ck 290) = true := by decide +kernel
theorem am_q290_0_48 : ((am_k290_0.drop 48).take 12).all (am_ck 290) = true := by decide +kernel
theorem am_q290_0_60 : ((am_k290_0.drop 60).take 12).all (am_ck 290) = true := by decide +kernel
theorem am_q290_0_72 : ((am_k290_0.drop 72).take 12).all (am_ck 290) = true := by decide +kernel
theorem am_q290_0_84 : ((am_k290_0.drop 84).take 12).all (am_ck 290) = true := by decide +kernel
theorem am_q290_0_96 : ((am_k290_0.drop 96).take 12).all (am_ck 290) = true := by decide +kernel
theorem am_q290_0_108 : ((am_k290_0.drop 108).take 12).all (am_ck 290) = true := by decide +kernel
theorem am_q290_0_120 : ((am_k290_0.drop 120).take 12).all (am_ck 290) = true := by decide +kernel
theorem am_q290_0_132 : ((am_k290_0.drop 132).take 12).all (am_ck 290) = true := by decide +kernel
theorem am_q290_0_144 : ((am_k290_0.drop 144).take 12).all (am_ck 290) = true := by decide +kernel
theorem am_q290_0_156 : ((am_k290_0.drop 156).take 12).all (am_ck 290) = true := by decide +kernel
theorem am_q290_0_168 : ((am_k290_0.drop 168).take 12).all (am_ck 290) = true := by decide +kernel
theorem am_q290_0_180 : ((am_k290_0.drop 180).take 12).all (am_ck 290) = true := by decide +kernel
theorem am_q290_0_r192 : (am_k290_0.drop 192).all (am_ck 290) = true := by decide +kernel
theorem am_q290_0_r180 : (am_k290_0.drop 180).all (am_ck 290) = true := am_als am_q290_0_180 (by rw [List.drop_drop]; exact am_q290_0_r192)
theorem am_q290_0_r168 : (am_k290_0.drop 168).all (am_ck 290) = true := am_als am_q290_0_168 (by rw [List.drop_drop]; exact am_q290_0_r180)
theorem am_q290_0_r156 : (am_k290_0.drop 156).all (am_ck 290) = true := am_als am_q290_0_156 (by rw [List.drop_drop]; exact am_q290_0_r168)
theorem am_q290_0_r144 : (am_k290_0.drop 144).all (am_ck 290) = true := am_als am_q290_0_144 (by rw [List.drop_drop]; exact am_q290_0_r156)
theorem am_q290_0_r132 : (am_k290_0.drop 132).all (am_ck 290) = true := am_als am_q290_0_132 (by rw [List.drop_drop]; exact am_q290_0_r144)
theorem am_q290_0_r120 : (am_k290_0.drop 120).all (am_ck 290) = true := am_als am_q290_0_120 (by rw [List.drop_drop]; exact am_q290_0_r132)
theorem am_q290_0_r108 : (am_k290_0.drop 108).all (am_ck 290) = true := am_als am_q290_0_108 (by rw [List.drop_drop]; exact am_q290_0_r120)
theorem am_q290_0_r96 : (am_k290_0.drop 96).all (am_ck 290) = true := am_als am_q290_0_96 (by rw [List.drop_drop]; exact am_q290_0_r108)
theorem am_q290_0_r84 : (am_k290_0.drop 84).all (am_ck 290) = true := am_als am_q290_0_84 (by rw [List.drop_drop]; exact am_q290_0_r96)
theorem am_q290_0_r72 : (am_k290_0.drop 72).all (am_ck 290) = true := am_als am_q290_0_72 (by rw [List.drop_drop]; exact am_q290_0_r84)
theorem am_q290_0_r60 : (am_k290_0.drop 60).all (am_ck 290) = true := am_als am_q290_0_60 (by rw [List.drop_drop]; exact am_q290_0_r72)
theorem am_q290_0_r48 : (am_k290_0.drop 48).all (am_ck 290) = true := am_als am_q290_0_48 (by rw [List.drop_drop]; exact am_q290_0_r60)
theorem am_q290_0_r36 : (am_k290_0.drop 36).all (am_ck 290) = true := am_als am_q290_0_36 (by rw [List.drop_drop]; exact am_q290_0_r48)
theorem am_q290_0_r24 : (am_k290_0.drop 24).all (am_ck 290) = true := am_als am_q290_0_24 (by rw [List.drop_drop]; exact am_q290_0_r36)
theorem am_q290_0_r12 : (am_k290_0.drop 12).all (am_ck 290) = true := am_als am_q290_0_12 (by rw [List.drop_drop]; exact am_q290_0_r24)
theorem am_q290_0_r0 : (am_k290_0.drop 0).all (am_ck 290) = true := am_als am_q290_0_0 (by rw [List.drop_drop]; exact am_q290_0_r12)
theorem am_q290_0 : am_k290_0.all (am_ck 290) = true := am_q290_0_r0
theorem am_q290_1_0 : ((am_k290_1.drop 0).take 12).all (am_ck 290) = true := by decide +kernel
theorem am_q290_1_r12 : (am_k290_1.drop 12).all (am_ck 290) = true := by decide +kernel
theorem am_q290_1_r0 : (am_k290_1.drop 0).all (am_ck 290) = true := am_als am_q290_1_0 (by rw [List.drop_drop]; exact am_q290_1_r12)
theorem am_q290_1 : am_k290_1.all (am_ck 290) = true := am_q290_1_r0
theorem am_q290_s : am_sq am_k290 = true := by decide +kernel
theorem am_q290 : (am_k290.all (am_ck 290) && am_sq am_k290) = true := by
  unfold am_k290
  rw [Bool.and_eq_true]
  refine ⟨?_, am_q290_s⟩
  simp only [List.all_append, am_q290_0, am_q290_1, Bool.and_self]
theorem am_q291 : (am_k291.all (am_ck 291) && am_sq am_k291) = true := by decide +kernel
theorem am_q292 : (am_k292.all (am_ck 292) && am_sq am_k292) = true := by decide +kernel
theorem am_q293 : (am_k293.all (am_ck 293) && am_sq am_k293) = true := by decide +kernel
theorem am_q294 : (am_k294.all (am_ck 294) && am_sq am_k294) = true := by decide +kernel
theorem am_q295 : (am_k295.all (am_ck 295) && am_sq am_k295) = true := by decide +kernel
theorem am_q296 : (am_k296.all (am_ck 296) && am_sq am_k296) = true := by decide +kernel
theorem am_q297 : (am_k297.all (am_ck 297) && am_sq am_k297) = true := by decide +kernel
theorem am_q298 : (am_k298.all (am_ck 298) && am_sq am_k298) = true := by decide +kernel
theorem am_q299 : (am_k299.all (am_ck 299) && am_sq am_k299) = true := by decide +kernel
theorem am_q300 : (am_k300.all (am_ck 300) && am_sq am_k300) = true := by decide +kernel
theorem am_q362 : (am_k362.all (am_ck 362) && am_sq am_k362) = true := by decide +kernel
theorem am_q363 : (am_k363.all (am_ck 363) && am_sq am_k363) = true := by decide +kernel
theorem am_q364 : (am_k364.all (am_ck 364) && am_sq am_k364) = true := by decide +kernel
theorem am_q365 : (am_k365.all (am_ck 365) && am_sq am_k365) = true := by decide +kernel
theorem am_q366 : (am_k366.all (am_ck 366) && am_sq am_k366) = true := by decide +kernel
theorem am_q367 : (am_k367.all (am_ck 367) && am_sq am_k367) = true := by decide +kernel
theorem am_q368 : (am_k368.all (am_ck 368) && am_sq am_k368) = true := by decide +kernel
theorem am_q411 : (am_k411.all (am_ck 411) && am_sq am_k411) = true := by decide +kernel
