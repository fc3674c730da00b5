/-! every method is looked at (3) -/
theorem am_q279 : (am_k279.all (am_ck 279) && am_sq am_k279) = true := by decide +kernel
theorem am_q280 : (am_k280.all (am_ck 280) && am_sq am_k280) = true := by decide +kernel
theorem am_q281 : (am_k281.all (am_ck 281) && am_sq am_k281) = true := by decide +kernel
theorem am_q282 : (am_k282.all (am_ck 282) && am_sq am_k282) = true := by decide +kernel
theorem am_q283 : (am_k283.all (am_ck 283) && am_sq am_k283) = true := by decide +kernel
theorem am_q284 : (am_k284.all (am_ck 284) && am_sq am_k284) = true := by decide +kernel
theorem am_q285 : (am_k285.all (am_ck 285) && am_sq am_k285) = true := by decide +kernel
theorem am_q286 : (am_k286.all (am_ck 286) && am_sq am_k286) = true := by decide +kernel
theorem am_q287 : (am_k287.all (am_ck 287) && am_sq am_k287) = true := by decide +kernel
theorem am_q288 : (am_k288.all (am_ck 288) && am_sq am_k288) = true := by decide +kernel
theorem am_q289 : (am_k289.all (am_ck 289) && am_sq am_k289) = true := by decide +kernel
theorem am_q290 : (am_k290.all (am_ck 290) && am_sq am_k290) = true := by decide +kernel
theorem am_q291 : (am_k291.all (am_ck 291) && am_sq am_k291) = true := by decide +kernel
theorem am_q292 : (am_k292.all (am_ck 292) && am_sq am_k292) = true := by decide +kernel
theorem am_q293 : (am_k293.all (am_ck 293) && am_sq am_k293) = true := by decide +kernel
theorem am_q294 : (am_k294.all (am_ck 294) && am_sq am_k294) = true := by decide +kernel
theorem am_q295 : (am_k295.all (am_ck 295) && am_sq am_k295) = true := by decide +kernel
theorem am_q296 : (am_k296.all (am_ck 296) && am_sq am_k296) = true := by decide +kernel
theorem am_q297 : (am_k297.all (am_ck 297) && am_sq am_k297) = true := by decide +kernel
theorem am_q298 : (am_k298.all (am_ck 298) && am_sq am_k298) = true := by decide +kernel
theorem am_q299 : (am_k299.all (am_ck 299) && am_sq am_k299) = true := by decide +kernel
theorem am_q300 : (am_k300.all (am_ck 300) && am_sq am_k300) = true := by decide +kernel
theorem am_q301 : (am_k301.all (am_ck 301) && am_sq am_k301) = true := by decide +kernel
theorem am_q302 : (am_k302.all (am_ck 302) && am_sq am_k302) = true := by decide +kernel
theorem am_q303 : (am_k303.all (am_ck 303) && am_sq am_k303) = true := by decide +kernel
theorem am_q304 : (am_k304.all (am_ck 304) && am_sq am_k304) = true := by decide +kernel
theorem am_q305 : (am_k305.all (am_ck 305) && am_sq am_k305) = true := by decide +kernel
theorem am_q306 : (am_k306.all (am_ck 306) && am_sq am_k306) = true := by decide +kernel
theorem am_q307 : (am_k307.all (am_ck 307) && am_sq am_k307) = true := by decide +kernel
theorem am_q308 : (am_k308.all (am_ck 308) && am_sq am_k308) = true := by decide +kernel
theorem am_q309 : (am_k309.all (am_ck 309) && am_sq am_k309) = true := by decide +kernel
theorem am_q310 : (am_k310.all (am_ck 310) && am_sq am_k310) = true := by decide +kernel
theorem am_q311 : (am_k311.all (am_ck 311) && am_sq am_k311) = true := by decide +kernel
theorem am_q312 : (am_k312.all (am_ck 312) && am_sq am_k312) = true := by decide +kernel
theorem am_q313 : (am_k313.all (am_ck 313) && am_sq am_k313) = true := by decide +kernel
theorem am_q314 : (am_k314.all (am_ck 314) && am_sq am_k314) = true := by decide +kernel
theorem am_q315 : (am_k315.all (am_ck 315) && am_sq am_k315) = true := by decide +kernel
theorem am_q316 : (am_k316.all (am_ck 316) && am_sq am_k316) = true := by decide +kernel
theorem am_q317 : (am_k317.all (am_ck 317) && am_sq am_k317) = true := by decide +kernel
theorem am_q318 : (am_k318.all (am_ck 318) && am_sq am_k318) = true := by decide +kernel
theorem am_q319 : (am_k319.all (am_ck 319) && am_sq am_k319) = true := by decide +kernel
theorem am_q320 : (am_k320.all (am_ck 320) && am_sq am_k320) = true := by decide +kernel
theorem am_q321 : (am_k321.all (am_ck 321) && am_sq am_k321) = true := by decide +kernel
theorem am_q322 : (am_k322.all (am_ck 322) && am_sq am_k322) = true := by decide +kernel
theorem am_q323 : (am_k323.all (am_ck 323) && am_sq am_k323) = true := by decide +kernel
theorem am_q324 : (am_k324.all (am_ck 324) && am_sq am_k324) = true := by decide +kernel
theorem am_q325 : (am_k325.all (am_ck 325) && am_sq am_k325) = true := by decide +kernel
theorem am_q326 : (am_k326.all (am_ck 326) && am_sq am_k326) = true := by decide +kernel
theorem am_q327 : (am_k327.all (am_ck 327) && am_sq am_k327) = true := by decide +kernel
theorem am_q328 : (am_k328.all (am_ck 328) && am_sq am_k328) = true := by decide +kernel
theorem am_q329 : (am_k329.all (am_ck 329) && am_sq am_k329) = true := by decide +kernel
theorem am_q330 : (am_k330.all (am_ck 330) && am_sq am_k330) = true := by decide +kernel
theorem am_q331 : (am_k331.all (am_ck 331) && am_sq am_k331) = true := by decide +kernel
theorem am_q332 : (am_k332.all (am_ck 332) && am_sq am_k332) = true := by decide +kernel
theorem am_q333 : (am_k333.all (am_ck 333) && am_sq am_k333) = true := by decide +kernel
theorem am_q334 : (am_k334.all (am_ck 334) && am_sq am_k334) = true := by decide +kernel
theorem am_q335 : (am_k335.all (am_ck 335) && am_sq am_k335) = true := by decide +kernel
theorem am_q336 : (am_k336.all (am_ck 336) && am_sq am_k336) = true := by decide +kernel
theorem am_q337 : (am_k337.all (am_ck 337) && am_sq am_k337) = true := by decide +kernel
theorem am_q338 : (am_k338.all (am_ck 338) && am_sq am_k338) = true := by decide +kernel
theorem am_q339_0_0 : ((am_k339_0.drop 0).take 12).all (am_ck 339) = true := by decide +kernel
theorem am_q339_0_12 : ((am_k339_0.drop 12).take 12).all (am_ck 339) = true := by decide +kernel
theorem am_q339_0_24 : ((am_k339_0.drop 24).take 12).all (am_ck 339) = true := by decide +kernel
theorem am_q339_0_36 : ((am_k339_0.drop 36).take 12).all (am_ck 339) = true := by decide +kernel
theorem am_q339_0_48 : ((am_k339_0.drop 48).take 12).all (am_ck 339) = true := by decide +kernel
theorem am_q339_0_60 : ((am_k339_0.drop 60).take 12).all (am_ck 339) = true := by decide +kernel
theorem am_q339_0_72 : ((am_k339_0.drop 72).take 12).all (am_ck 339) = true := by decide +kernel
theorem am_q339_0_84 : ((am_k339_0.drop 84).take 12).all (am_ck 339) = true := by decide +kernel
theorem am_q339_0_96 : ((am_k339_0.drop 96).take 12).all (am_ck 339) = true := by decide +kernel
theorem am_q339_0_108 : ((am_k339_0.drop 108).take 12).all (am_ck 339) = true := by decide +kernel
theorem am_q339_0_120 : ((am_k339_0.drop 120).take 12).all (am_ck 339) = true := by decide +kernel
theorem am_q339_0_132 : ((am_k339_0.drop 132).take 12).all (am_ck 339) = true := by decide +kernel
theorem am_q339_0_144 : ((am_k339_0.drop 144).take 12).all (am_ck 339) = true := by decide +kernel
theorem am_q339_0_156 : ((am_k339_0.drop 156).take 12).all (am_ck 339) = true := by decide +kernel
theorem am_q339_0_168 : ((am_k339_0.drop 168).take 12).all (am_ck 339) = true := by decide +kernel
theorem am_q339_0_180 : ((am_k339_0.drop 180).take 12).all (am_ck 339) = true := by decide +kernel
theorem am_q339_0_r192 : (am_k339_0.drop 192).all (am_ck 339) = true := by decide +kernel
theorem am_q339_0_r180 : (am_k339_0.drop 180).all (am_ck 339) = true := am_als am_q339_0_180 (by rw [List.drop_drop]; exact am_q339_0_r192)
theorem am_q339_0_r168 : (am_k339_0.drop 168).all (am_ck 339) = true := am_als am_q339_0_168 (by rw [List.drop_drop]; exact am_q339_0_r180)
theorem am_q339_0_r156 : (am_k339_0.drop 156).all (am_ck 339) = true := am_als am_q339_0_156 (by rw [List.drop_drop]; exact am_q339_0_r168)
theorem am_q339_0_r144 : (am_k339_0.drop 144).all (am_ck 339) = true := am_als am_q339_0_144 (by rw [List.drop_drop]; exact am_q339_0_r156)
theorem am_q339_0_r132 : (am_k339_0.drop 132).all (am_ck 339) = true := am_als am_q339_0_132 (by rw [List.drop_drop]; exact am_q339_0_r144)
theorem am_q339_0_r120 : (am_k339_0.drop 120).all (am_ck 339) = true := am_als am_q339_0_120 (by rw [List.drop_drop]; exact am_q339_0_r132)
theorem am_q339_0_r108 : (am_k339_0.drop 108).all (am_ck 339) = true := am_als am_q339_0_108 (by rw [List.drop_drop]; exact am_q339_0_r120)
theorem am_q339_0_r96 : (am_k339_0.drop 96).all (am_ck 339) = true := am_als am_q339_0_96 (by rw [List.drop_drop]; exact am_q339_0_r108)
theorem am_q339_0_r84 : (am_k339_0.drop 84).all (am_ck 339) = true := am_als am_q339_0_84 (by rw [List.drop_drop]; exact am_q339_0_r96)
theorem am_q339_0_r72 : (am_k339_0.drop 72).all (am_ck 339) = true := am_als am_q339_0_72 (by rw [List.drop_drop]; exact am_q339_0_r84)
theorem am_q339_0_r60 : (am_k339_0.drop 60).all (am_ck 339) = true := am_als am_q339_0_60 (by rw [List.drop_drop]; exact am_q339_0_r72)
theorem am_q339_0_r48 : (am_k339_0.drop 48).all (am_ck 339) = true := am_als am_q339_0_48 (by rw [List.drop_drop]; exact am_q339_0_r60)
theorem am_q339_0_r36 : (am_k339_0.drop 36).all (am_ck 339) = true := am_als am_q339_0_36 (by rw [List.drop_drop]; exact am_q339_0_r48)
theorem am_q339_0_r24 : (am_k339_0.drop 24).all (am_ck 339) = true := am_als am_q339_0_24 (by rw [List.drop_drop]; exact am_q339_0_r36)
theorem am_q339_0_r12 : (am_k339_0.drop 12).all (am_ck 339) = true := am_als am_q339_0_12 (by rw [List.drop_drop]; exact am_q339_0_r24)
theorem am_q339_0_r0 : (am_k339_0.drop 0).all (am_ck 339) = true := am_als am_q339_0_0 (by rw [List.drop_drop]; exact am_q339_0_r12)
theorem am_q339_0 : am_k339_0.all (am_ck 339) = true := am_q339_0_r0
theorem am_q339_1_0 : ((am_k339_1.drop 0).take 12).all (am_ck 339) = true := by decide +kernel
theorem am_q339_1_12 : ((am_k339_1.drop 12).take 12).all (am_ck 339) = true := by decide +kernel
theorem am_q339_1_24 : ((am_k339_1.drop 24).take 12).all (am_ck 339) = true := by decide +kernel
theorem am_q339_1_r36 : (am_k339_1.drop 36).all (am_ck 339) = true := by decide +kernel
theorem am_q339_1_r24 : (am_k339_1.drop 24).all (am_ck 339) = true := am_als am_q339_1_24 (by rw [List.drop_drop]; exact am_q339_1_r36)
theorem am_q339_1_r12 : (am_k339_1.drop 12).all (am_ck 339) = true := am_als am_q339_1_12 (by rw [List.drop_drop]; exact am_q339_1_r24)
theorem am_q339_1_r0 : (am_k339_1.drop 0).all (am_ck 339) = true := am_als am_q339_1_0 (by rw [List.drop_drop]; exact am_q339_1_r12)
theorem am_q339_1 : am_k339_1.all (am_ck 339) = true := am_q339_1_r0
theorem am_q339_s : am_sq am_k339 = true := by decide +kernel
theorem am_q339 : (am_k339.all (am_ck 339) && am_sq am_k339) = true := by
  unfold am_k339
  rw [Bool.and_eq_true]
  refine ⟨?_, am_q339_s⟩
  simp only [List.all_append, am_q339_0, am_q339_1, Bool.and_self]
theorem am_q340 : (am_k340.all (am_ck 340) && am_sq am_k340) = true := by decide +kernel
theorem am_q341 : (am_k341.all (am_ck 341) && am_sq am_k341) = true := by decide +kernel
theorem am_q342 : (am_k342.all (am_ck 342) && am_sq am_k342) = true := by decide +kernel
theorem am_q343 : (am_k343.all (am_ck 343) && am_sq am_k343) = true := by decide +kernel
theorem am_q344 : (am_k344.all (am_ck 344) && am_sq am_k344) = true := by decide +kernel
theorem am_q345 : (am_k345.all (am_ck 345) && am_sq am_k345) = true := by decide +kernel
