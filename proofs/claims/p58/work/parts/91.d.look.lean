/-! every method is looked at (3) -/
theorem am_q250 : (am_k250.all (am_ck 250) && am_sq am_k250) = true := by decide +kernel
theorem am_q251 : (am_k251.all (am_ck 251) && am_sq am_k251) = true := by decide +kernel
theorem am_q252 : (am_k252.all (am_ck 252) && am_sq am_k252) = true := by decide +kernel
theorem am_q253 : (am_k253.all (am_ck 253) && am_sq am_k253) = true := by decide +kernel
theorem am_q254 : (am_k254.all (am_ck 254) && am_sq am_k254) = true := by decide +kernel
theorem am_q255 : (am_k255.all (am_ck 255) && am_sq am_k255) = true := by decide +kernel
theorem am_q256 : (am_k256.all (am_ck 256) && am_sq am_k256) = true := by decide +kernel
theorem am_q257 : (am_k257.all (am_ck 257) && am_sq am_k257) = true := by decide +kernel
theorem am_q258 : (am_k258.all (am_ck 258) && am_sq am_k258) = true := by decide +kernel
theorem am_q259 : (am_k259.all (am_ck 259) && am_sq am_k259) = true := by decide +kernel
theorem am_q260 : (am_k260.all (am_ck 260) && am_sq am_k260) = true := by decide +kernel
theorem am_q261 : (am_k261.all (am_ck 261) && am_sq am_k261) = true := by decide +kernel
theorem am_q262 : (am_k262.all (am_ck 262) && am_sq am_k262) = true := by decide +kernel
theorem am_q263 : (am_k263.all (am_ck 263) && am_sq am_k263) = true := by decide +kernel
theorem am_q264 : (am_k264.all (am_ck 264) && am_sq am_k264) = true := by decide +kernel
theorem am_q265 : (am_k265.all (am_ck 265) && am_sq am_k265) = true := by decide +kernel
theorem am_q266 : (am_k266.all (am_ck 266) && am_sq am_k266) = true := by decide +kernel
theorem am_q267 : (am_k267.all (am_ck 267) && am_sq am_k267) = true := by decide +kernel
theorem am_q268 : (am_k268.all (am_ck 268) && am_sq am_k268) = true := by decide +kernel
theorem am_q269 : (am_k269.all (am_ck 269) && am_sq am_k269) = true := by decide +kernel
theorem am_q270 : (am_k270.all (am_ck 270) && am_sq am_k270) = true := by decide +kernel
theorem am_q271 : (am_k271.all (am_ck 271) && am_sq am_k271) = true := by decide +kernel
theorem am_q272 : (am_k272.all (am_ck 272) && am_sq am_k272) = true := by decide +kernel
theorem am_q273 : (am_k273.all (am_ck 273) && am_sq am_k273) = true := by decide +kernel
theorem am_q274 : (am_k274.all (am_ck 274) && am_sq am_k274) = true := by decide +kernel
theorem am_q275 : (am_k275.all (am_ck 275) && am_sq am_k275) = true := by decide +kernel
theorem am_q276 : (am_k276.all (am_ck 276) && am_sq am_k276) = true := by decide +kernel
theorem am_q277 : (am_k277.all (am_ck 277) && am_sq am_k277) = true := by decide +kernel
theorem am_q278 : (am_k278.all (am_ck 278) && am_sq am_k278) = true := by decide +kernel
theorem am_q279 : (am_k279.all (am_ck 279) && am_sq am_k279) = true := by decide +kernel
theorem am_q280 : (am_k280.all (am_ck 280) && am_sq am_k280) = true := by decide +kernel
theorem am_q281 : (am_k281.all (am_ck 281) && am_sq am_k281) = true := by decide +kernel
theorem am_q282 : (am_k282.all (am_ck 282) && am_sq am_k282) = true := by decide +kernel
theorem am_q283 : (am_k283.all (am_ck 283) && am_sq am_k283) = true := by decide +kernel
theorem am_q284 : (am_k284.all (am_ck 284) && am_sq am_k284) = true := by decide +kernel
theorem am_q285 : (am_k285.all (am_ck 285) && am_sq am_k285) = true := by decide +kernel
theorem am_q286 : (am_k286.all (am_ck 286) && am_sq am_k286) = true := by decide +kernel
theorem am_q287 : (am_k287.all (am_ck 287) && am_sq am_k287) = true := by decide +kernel
theorem am_q288 : (am_k288.all (am_ck 288) && am_sq am_k288) = true := by decide +kernel
theorem am_q289_0_0 : ((am_k289_0.drop 0).take 12).all (am_ck 289) = true := by decide +kernel
theorem am_q289_0_12 : ((am_k289_0.drop 12).take 12).all (am_ck 289) = true := by decide +kernel
theorem am_q289_0_24 : ((am_k289_0.drop 24).take 12).all (am_ck 289) = true := by decide +kernel
theorem am_q289_0_36 : ((am_k289_0.drop 36).take 12).all (am_ck 289) = true := by decide +kernel
theorem am_q289_0_48 : ((am_k289_0.drop 48).take 12).all (am_ck 289) = true := by decide +kernel
theorem am_q289_0_60 : ((am_k289_0.drop 60).take 12).all (am_ck 289) = true := by decide +kernel
theorem am_q289_0_72 : ((am_k289_0.drop 72).take 12).all (am_ck 289) = true := by decide +kernel
theorem am_q289_0_84 : ((am_k289_0.drop 84).take 12).all (am_ck 289) = true := by decide +kernel
theorem am_q289_0_96 : ((am_k289_0.drop 96).take 12).all (am_ck 289) = true := by decide +kernel
theorem am_q289_0_108 : ((am_k289_0.drop 108).take 12).all (am_ck 289) = true := by decide +kernel
theorem am_q289_0_120 : ((am_k289_0.drop 120).take 12).all (am_ck 289) = true := by decide +kernel
theorem am_q289_0_132 : ((am_k289_0.drop 132).take 12).all (am_ck 289) = true := by decide +kernel
theorem am_q289_0_144 : ((am_k289_0.drop 144).take 12).all (am_ck 289) = true := by decide +kernel
theorem am_q289_0_156 : ((am_k289_0.drop 156).take 12).all (am_ck 289) = true := by decide +kernel
theorem am_q289_0_168 : ((am_k289_0.drop 168).take 12).all (am_ck 289) = true := by decide +kernel
theorem am_q289_0_180 : ((am_k289_0.drop 180).take 12).all (am_ck 289) = true := by decide +kernel
theorem am_q289_0_r192 : (am_k289_0.drop 192).all (am_ck 289) = true := by decide +kernel
theorem am_q289_0_r180 : (am_k289_0.drop 180).all (am_ck 289) = true := am_als am_q289_0_180 (by rw [List.drop_drop]; exact am_q289_0_r192)
theorem am_q289_0_r168 : (am_k289_0.drop 168).all (am_ck 289) = true := am_als am_q289_0_168 (by rw [List.drop_drop]; exact am_q289_0_r180)
theorem am_q289_0_r156 : (am_k289_0.drop 156).all (am_ck 289) = true := am_als am_q289_0_156 (by rw [List.drop_drop]; exact am_q289_0_r168)
theorem am_q289_0_r144 : (am_k289_0.drop 144).all (am_ck 289) = true := am_als am_q289_0_144 (by rw [List.drop_drop]; exact am_q289_0_r156)
theorem am_q289_0_r132 : (am_k289_0.drop 132).all (am_ck 289) = true := am_als am_q289_0_132 (by rw [List.drop_drop]; exact am_q289_0_r144)
theorem am_q289_0_r120 : (am_k289_0.drop 120).all (am_ck 289) = true := am_als am_q289_0_120 (by rw [List.drop_drop]; exact am_q289_0_r132)
theorem am_q289_0_r108 : (am_k289_0.drop 108).all (am_ck 289) = true := am_als am_q289_0_108 (by rw [List.drop_drop]; exact am_q289_0_r120)
theorem am_q289_0_r96 : (am_k289_0.drop 96).all (am_ck 289) = true := am_als am_q289_0_96 (by rw [List.drop_drop]; exact am_q289_0_r108)
theorem am_q289_0_r84 : (am_k289_0.drop 84).all (am_ck 289) = true := am_als am_q289_0_84 (by rw [List.drop_drop]; exact am_q289_0_r96)
theorem am_q289_0_r72 : (am_k289_0.drop 72).all (am_ck 289) = true := am_als am_q289_0_72 (by rw [List.drop_drop]; exact am_q289_0_r84)
theorem am_q289_0_r60 : (am_k289_0.drop 60).all (am_ck 289) = true := am_als am_q289_0_60 (by rw [List.drop_drop]; exact am_q289_0_r72)
theorem am_q289_0_r48 : (am_k289_0.drop 48).all (am_ck 289) = true := am_als am_q289_0_48 (by rw [List.drop_drop]; exact am_q289_0_r60)
theorem am_q289_0_r36 : (am_k289_0.drop 36).all (am_ck 289) = true := am_als am_q289_0_36 (by rw [List.drop_drop]; exact am_q289_0_r48)
theorem am_q289_0_r24 : (am_k289_0.drop 24).all (am_ck 289) = true := am_als am_q289_0_24 (by rw [List.drop_drop]; exact am_q289_0_r36)
theorem am_q289_0_r12 : (am_k289_0.drop 12).all (am_ck 289) = true := am_als am_q289_0_12 (by rw [List.drop_drop]; exact am_q289_0_r24)
theorem am_q289_0_r0 : (am_k289_0.drop 0).all (am_ck 289) = true := am_als am_q289_0_0 (by rw [List.drop_drop]; exact am_q289_0_r12)
theorem am_q289_0 : am_k289_0.all (am_ck 289) = true := am_q289_0_r0
theorem am_q289_1_0 : ((am_k289_1.drop 0).take 12).all (am_ck 289) = true := by decide +kernel
theorem am_q289_1_r12 : (am_k289_1.drop 12).all (am_ck 289) = true := by decide +kernel
theorem am_q289_1_r0 : (am_k289_1.drop 0).all (am_ck 289) = true := am_als am_q289_1_0 (by rw [List.drop_drop]; exact am_q289_1_r12)
theorem am_q289_1 : am_k289_1.all (am_ck 289) = true := am_q289_1_r0
theorem am_q289_s : am_sq am_k289 = true := by decide +kernel
theorem am_q289 : (am_k289.all (am_ck 289) && am_sq am_k289) = true := by
  unfold am_k289
  rw [Bool.and_eq_true]
  refine ⟨?_, am_q289_s⟩
  simp only [List.all_append, am_q289_0, am_q289_1, Bool.and_self]
