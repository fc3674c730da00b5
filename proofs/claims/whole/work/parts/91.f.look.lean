/-! every method is looked at (5) -/
theorem am_q411_0_0 : ((am_k411_0.drop 0).take 12).all (am_ck 411) = true := by decide +kernel
theorem am_q411_0_12 : ((am_k411_0.drop 12).take 12).all (am_ck 411) = true := by decide +kernel
theorem am_q411_0_24 : ((am_k411_0.drop 24).take 12).all (am_ck 411) = true := by decide +kernel
theorem am_q411_0_36 : ((am_k411_0.drop 36).take 12).all (am_ck 411) = true := by decide +kernel
theorem am_q411_0_48 : ((am_k411_0.drop 48).take 12).all (am_ck 411) = true := by decide +kernel
theorem am_q411_0_60 : ((am_k411_0.drop 60).take 12).all (am_ck 411) = true := by decide +kernel
theorem am_q411_0_72 : ((am_k411_0.drop 72).take 12).all (am_ck 411) = true := by decide +kernel
theorem am_q411_0_84 : ((am_k411_0.drop 84).take 12).all (am_ck 411) = true := by decide +kernel
theorem am_q411_0_96 : ((am_k411_0.drop 96).take 12).all (am_ck 411) = true := by decide +kernel
theorem am_q411_0_108 : ((am_k411_0.drop 108).take 12).all (am_ck 411) = true := by decide +kernel
theorem am_q411_0_120 : ((am_k411_0.drop 120).take 12).all (am_ck 411) = true := by decide +kernel
theorem am_q411_0_132 : ((am_k411_0.drop 132).take 12).all (am_ck 411) = true := by decide +kernel
theorem am_q411_0_144 : ((am_k411_0.drop 144).take 12).all (am_ck 411) = true := by decide +kernel
theorem am_q411_0_156 : ((am_k411_0.drop 156).take 12).all (am_ck 411) = true := by decide +kernel
theorem am_q411_0_168 : ((am_k411_0.drop 168).take 12).all (am_ck 411) = true := by decide +kernel
theorem am_q411_0_180 : ((am_k411_0.drop 180).take 12).all (am_ck 411) = true := by decide +kernel
theorem am_q411_0_r192 : (am_k411_0.drop 192).all (am_ck 411) = true := by decide +kernel
theorem am_q411_0_r180 : (am_k411_0.drop 180).all (am_ck 411) = true := am_als am_q411_0_180 (by rw [List.drop_drop]; exact am_q411_0_r192)
theorem am_q411_0_r168 : (am_k411_0.drop 168).all (am_ck 411) = true := am_als am_q411_0_168 (by rw [List.drop_drop]; exact am_q411_0_r180)
theorem am_q411_0_r156 : (am_k411_0.drop 156).all (am_ck 411) = true := am_als am_q411_0_156 (by rw [List.drop_drop]; exact am_q411_0_r168)
theorem am_q411_0_r144 : (am_k411_0.drop 144).all (am_ck 411) = true := am_als am_q411_0_144 (by rw [List.drop_drop]; exact am_q411_0_r156)
theorem am_q411_0_r132 : (am_k411_0.drop 132).all (am_ck 411) = true := am_als am_q411_0_132 (by rw [List.drop_drop]; exact am_q411_0_r144)
theorem am_q411_0_r120 : (am_k411_0.drop 120).all (am_ck 411) = true := am_als am_q411_0_120 (by rw [List.drop_drop]; exact am_q411_0_r132)
theorem am_q411_0_r108 : (am_k411_0.drop 108).all (am_ck 411) = true := am_als am_q411_0_108 (by rw [List.drop_drop]; exact am_q411_0_r120)
theorem am_q411_0_r96 : (am_k411_0.drop 96).all (am_ck 411) = true := am_als am_q411_0_96 (by rw [List.drop_drop]; exact am_q411_0_r108)
theorem am_q411_0_r84 : (am_k411_0.drop 84).all (am_ck 411) = true := am_als am_q411_0_84 (by rw [List.drop_drop]; exact am_q411_0_r96)
theorem am_q411_0_r72 : (am_k411_0.drop 72).all (am_ck 411) = true := am_als am_q411_0_72 (by rw [List.drop_drop]; exact am_q411_0_r84)
theorem am_q411_0_r60 : (am_k411_0.drop 60).all (am_ck 411) = true := am_als am_q411_0_60 (by rw [List.drop_drop]; exact am_q411_0_r72)
theorem am_q411_0_r48 : (am_k411_0.drop 48).all (am_ck 411) = true := am_als am_q411_0_48 (by rw [List.drop_drop]; exact am_q411_0_r60)
theorem am_q411_0_r36 : (am_k411_0.drop 36).all (am_ck 411) = true := am_als am_q411_0_36 (by rw [List.drop_drop]; exact am_q411_0_r48)
theorem am_q411_0_r24 : (am_k411_0.drop 24).all (am_ck 411) = true := am_als am_q411_0_24 (by rw [List.drop_drop]; exact am_q411_0_r36)
theorem am_q411_0_r12 : (am_k411_0.drop 12).all (am_ck 411) = true := am_als am_q411_0_12 (by rw [List.drop_drop]; exact am_q411_0_r24)
theorem am_q411_0_r0 : (am_k411_0.drop 0).all (am_ck 411) = true := am_als am_q411_0_0 (by rw [List.drop_drop]; exact am_q411_0_r12)
theorem am_q411_0 : am_k411_0.all (am_ck 411) = true := am_q411_0_r0
theorem am_q411_1_0 : ((am_k411_1.drop 0).take 12).all (am_ck 411) = true := by decide +kernel
theorem am_q411_1_12 : ((am_k411_1.drop 12).take 12).all (am_ck 411) = true := by decide +kernel
theorem am_q411_1_24 : ((am_k411_1.drop 24).take 12).all (am_ck 411) = true := by decide +kernel
theorem am_q411_1_36 : ((am_k411_1.drop 36).take 12).all (am_ck 411) = true := by decide +kernel
theorem am_q411_1_48 : ((am_k411_1.drop 48).take 12).all (am_ck 411) = true := by decide +kernel
theorem am_q411_1_60 : ((am_k411_1.drop 60).take 12).all (am_ck 411) = true := by decide +kernel
theorem am_q411_1_72 : ((am_k411_1.drop 72).take 12).all (am_ck 411) = true := by decide +kernel
theorem am_q411_1_84 : ((am_k411_1.drop 84).take 12).all (am_ck 411) = true := by decide +kernel
theorem am_q411_1_96 : ((am_k411_1.drop 96).take 12).all (am_ck 411) = true := by decide +kernel
theorem am_q411_1_108 : ((am_k411_1.drop 108).take 12).all (am_ck 411) = true := by decide +kernel
theorem am_q411_1_120 : ((am_k411_1.drop 120).take 12).all (am_ck 411) = true := by decide +kernel
theorem am_q411_1_132 : ((am_k411_1.drop 132).take 12).all (am_ck 411) = true := by decide +kernel
theorem am_q411_1_144 : ((am_k411_1.drop 144).take 12).all (am_ck 411) = true := by decide +kernel
theorem am_q411_1_156 : ((am_k411_1.drop 156).take 12).all (am_ck 411) = true := by decide +kernel
theorem am_q411_1_168 : ((am_k411_1.drop 168).take 12).all (am_ck 411) = true := by decide +kernel
theorem am_q411_1_180 : ((am_k411_1.drop 180).take 12).all (am_ck 411) = true := by decide +kernel
theorem am_q411_1_r192 : (am_k411_1.drop 192).all (am_ck 411) = true := by decide +kernel
theorem am_q411_1_r180 : (am_k411_1.drop 180).all (am_ck 411) = true := am_als am_q411_1_180 (by rw [List.drop_drop]; exact am_q411_1_r192)
theorem am_q411_1_r168 : (am_k411_1.drop 168).all (am_ck 411) = true := am_als am_q411_1_168 (by rw [List.drop_drop]; exact am_q411_1_r180)
theorem am_q411_1_r156 : (am_k411_1.drop 156).all (am_ck 411) = true := am_als am_q411_1_156 (by rw [List.drop_drop]; exact am_q411_1_r168)
theorem am_q411_1_r144 : (am_k411_1.drop 144).all (am_ck 411) = true := am_als am_q411_1_144 (by rw [List.drop_drop]; exact am_q411_1_r156)
theorem am_q411_1_r132 : (am_k411_1.drop 132).all (am_ck 411) = true := am_als am_q411_1_132 (by rw [List.drop_drop]; exact am_q411_1_r144)
theorem am_q411_1_r120 : (am_k411_1.drop 120).all (am_ck 411) = true := am_als am_q411_1_120 (by rw [List.drop_drop]; exact am_q411_1_r132)
theorem am_q411_1_r108 : (am_k411_1.drop 108).all (am_ck 411) = true := am_als am_q411_1_108 (by rw [List.drop_drop]; exact am_q411_1_r120)
theorem am_q411_1_r96 : (am_k411_1.drop 96).all (am_ck 411) = true := am_als am_q411_1_96 (by rw [List.drop_drop]; exact am_q411_1_r108)
theorem am_q411_1_r84 : (am_k411_1.drop 84).all (am_ck 411) = true := am_als am_q411_1_84 (by rw [List.drop_drop]; exact am_q411_1_r96)
theorem am_q411_1_r72 : (am_k411_1.drop 72).all (am_ck 411) = true := am_als am_q411_1_72 (by rw [List.drop_drop]; exact am_q411_1_r84)
theorem am_q411_1_r60 : (am_k411_1.drop 60).all (am_ck 411) = true := am_als am_q411_1_60 (by rw [List.drop_drop]; exact am_q411_1_r72)
theorem am_q411_1_r48 : (am_k411_1.drop 48).all (am_ck 411) = true := am_als am_q411_1_48 (by rw [List.drop_drop]; exact am_q411_1_r60)
theorem am_q411_1_r36 : (am_k411_1.drop 36).all (am_ck 411) = true := am_als am_q411_1_36 (by rw [List.drop_drop]; exact am_q411_1_r48)
theorem am_q411_1_r24 : (am_k411_1.drop 24).all (am_ck 411) = true := am_als am_q411_1_24 (by rw [List.drop_drop]; exact am_q411_1_r36)
theorem am_q411_1_r12 : (am_k411_1.drop 12).all (am_ck 411) = true := am_als am_q411_1_12 (by rw [List.drop_drop]; exact am_q411_1_r24)
theorem am_q411_1_r0 : (am_k411_1.drop 0).all (am_ck 411) = true := am_als am_q411_1_0 (by rw [List.drop_drop]; exact am_q411_1_r12)
theorem am_q411_1 : am_k411_1.all (am_ck 411) = true := am_q411_1_r0
theorem am_q411_2_0 : ((am_k411_2.drop 0).take 12).all (am_ck 411) = true := by decide +kernel
theorem am_q411_2_12 : ((am_k411_2.drop 12).take 12).all (am_ck 411) = true := by decide +kernel
theorem am_q411_2_24 : ((am_k411_2.drop 24).take 12).all (am_ck 411) = true := by decide +kernel
theorem am_q411_2_36 : ((am_k411_2.drop 36).take 12).all (am_ck 411) = true := by decide +kernel
theorem am_q411_2_48 : ((am_k411_2.drop 48).take 12).all (am_ck 411) = true := by decide +kernel
theorem am_q411_2_60 : ((am_k411_2.drop 60).take 12).all (am_ck 411) = true := by decide +kernel
theorem am_q411_2_72 : ((am_k411_2.drop 72).take 12).all (am_ck 411) = true := by decide +kernel
theorem am_q411_2_84 : ((am_k411_2.drop 84).take 12).all (am_ck 411) = true := by decide +kernel
theorem am_q411_2_96 : ((am_k411_2.drop 96).take 12).all (am_ck 411) = true := by decide +kernel
theorem am_q411_2_108 : ((am_k411_2.drop 108).take 12).all (am_ck 411) = true := by decide +kernel
theorem am_q411_2_120 : ((am_k411_2.drop 120).take 12).all (am_ck 411) = true := by decide +kernel
theorem am_q411_2_132 : ((am_k411_2.drop 132).take 12).all (am_ck 411) = true := by decide +kernel
theorem am_q411_2_144 : ((am_k411_2.drop 144).take 12).all (am_ck 411) = true := by decide +kernel
theorem am_q411_2_156 : ((am_k411_2.drop 156).take 12).all (am_ck 411) = true := by decide +kernel
theorem am_q411_2_168 : ((am_k411_2.drop 168).take 12).all (am_ck 411) = true := by decide +kernel
theorem am_q411_2_180 : ((am_k411_2.drop 180).take 12).all (am_ck 411) = true := by decide +kernel
theorem am_q411_2_r192 : (am_k411_2.drop 192).all (am_ck 411) = true := by decide +kernel
theorem am_q411_2_r180 : (am_k411_2.drop 180).all (am_ck 411) = true := am_als am_q411_2_180 (by rw [List.drop_drop]; exact am_q411_2_r192)
theorem am_q411_2_r168 : (am_k411_2.drop 168).all (am_ck 411) = true := am_als am_q411_2_168 (by rw [List.drop_drop]; exact am_q411_2_r180)
theorem am_q411_2_r156 : (am_k411_2.drop 156).all (am_ck 411) = true := am_als am_q411_2_156 (by rw [List.drop_drop]; exact am_q411_2_r168)
theorem am_q411_2_r144 : (am_k411_2.drop 144).all (am_ck 411) = true := am_als am_q411_2_144 (by rw [List.drop_drop]; exact am_q411_2_r156)
theorem am_q411_2_r132 : (am_k411_2.drop 132).all (am_ck 411) = true := am_als am_q411_2_132 (by rw [List.drop_drop]; exact am_q411_2_r144)
theorem am_q411_2_r120 : (am_k411_2.drop 120).all (am_ck 411) = true := am_als am_q411_2_120 (by rw [List.drop_drop]; exact am_q411_2_r132)
theorem am_q411_2_r108 : (am_k411_2.drop 108).all (am_ck 411) = true := am_als am_q411_2_108 (by rw [List.drop_drop]; exact am_q411_2_r120)
theorem am_q411_2_r96 : (am_k411_2.drop 96).all (am_ck 411) = true := am_als am_q411_2_96 (by rw [List.drop_drop]; exact am_q411_2_r108)
theorem am_q411_2_r84 : (am_k411_2.drop 84).all (am_ck 411) = true := am_als am_q411_2_84 (by rw [List.drop_drop]; exact am_q411_2_r96)
theorem am_q411_2_r72 : (am_k411_2.drop 72).all (am_ck 411) = true := am_als am_q411_2_72 (by rw [List.drop_drop]; exact am_q411_2_r84)
theorem am_q411_2_r60 : (am_k411_2.drop 60).all (am_ck 411) = true := am_als am_q411_2_60 (by rw [List.drop_drop]; exact am_q411_2_r72)
theorem am_q411_2_r48 : (am_k411_2.drop 48).all (am_ck 411) = true := am_als am_q411_2_48 (by rw [List.drop_drop]; exact am_q411_2_r60)
theorem am_q411_2_r36 : (am_k411_2.drop 36).all (am_ck 411) = true := am_als am_q411_2_36 (by rw [List.drop_drop]; exact am_q411_2_r48)
theorem am_q411_2_r24 : (am_k411_2.drop 24).all (am_ck 411) = true := am_als am_q411_2_24 (by rw [List.drop_drop]; exact am_q411_2_r36)
theorem am_q411_2_r12 : (am_k411_2.drop 12).all (am_ck 411) = true := am_als am_q411_2_12 (by rw [List.drop_drop]; exact am_q411_2_r24)
theorem am_q411_2_r0 : (am_k411_2.drop 0).all (am_ck 411) = true := am_als am_q411_2_0 (by rw [List.drop_drop]; exact am_q411_2_r12)
theorem am_q411_2 : am_k411_2.all (am_ck 411) = true := am_q411_2_r0
theorem am_q411_3_0 : ((am_k411_3.drop 0).take 12).all (am_ck 411) = true := by decide +kernel
theorem am_q411_3_12 : ((am_k411_3.drop 12).take 12).all (am_ck 411) = true := by decide +kernel
theorem am_q411_3_24 : ((am_k411_3.drop 24).take 12).all (am_ck 411) = true := by decide +kernel
theorem am_q411_3_36 : ((am_k411_3.drop 36).take 12).all (am_ck 411) = true := by decide +kernel
theorem am_q411_3_48 : ((am_k411_3.drop 48).take 12).all (am_ck 411) = true := by decide +kernel
theorem am_q411_3_60 : ((am_k411_3.drop 60).take 12).all (am_ck 411) = true := by decide +kernel
theorem am_q411_3_72 : ((am_k411_3.drop 72).take 12).all (am_ck 411) = true := by decide +kernel
theorem am_q411_3_84 : ((am_k411_3.drop 84).take 12).all (am_ck 411) = true := by decide +kernel
theorem am_q411_3_96 : ((am_k411_3.drop 96).take 12).all (am_ck 411) = true := by decide +kernel
theorem am_q411_3_108 : ((am_k411_3.drop 108).take 12).all (am_ck 411) = true := by decide +kernel
theorem am_q411_3_120 : ((am_k411_3.drop 120).take 12).all (am_ck 411) = true := by decide +kernel
theorem am_q411_3_132 : ((am_k411_3.drop 132).take 12).all (am_ck 411) = true := by decide +kernel
theorem am_q411_3_144 : ((am_k411_3.drop 144).take 12).all (am_ck 411) = true := by decide +kernel
theorem am_q411_3_156 : ((am_k411_3.drop 156).take 12).all (am_ck 411) = true := by decide +kernel
theorem am_q411_3_168 : ((am_k411_3.drop 168).take 12).all (am_ck 411) = true := by decide +kernel
theorem am_q411_3_180 : ((am_k411_3.drop 180).take 12).all (am_ck 411) = true := by decide +kernel
theorem am_q411_3_r192 : (am_k411_3.drop 192).all (am_ck 411) = true := by decide +kernel
theorem am_q411_3_r180 : (am_k411_3.drop 180).all (am_ck 411) = true := am_als am_q411_3_180 (by rw [List.drop_drop]; exact am_q411_3_r192)
theorem am_q411_3_r168 : (am_k411_3.drop 168).all (am_ck 411) = true := am_als am_q411_3_168 (by rw [List.drop_drop]; exact am_q411_3_r180)
theorem am_q411_3_r156 : (am_k411_3.drop 156).all (am_ck 411) = true := am_als am_q411_3_156 (by rw [List.drop_drop]; exact am_q411_3_r168)
theorem am_q411_3_r144 : (am_k411_3.drop 144).all (am_ck 411) = true := am_als am_q411_3_144 (by rw [List.drop_drop]; exact am_q411_3_r156)
theorem am_q411_3_r132 : (am_k411_3.drop 132).all (am_ck 411) = true := am_als am_q411_3_132 (by rw [List.drop_drop]; exact am_q411_3_r144)
theorem am_q411_3_r120 : (am_k411_3.drop 120).all (am_ck 411) = true := am_als am_q411_3_120 (by rw [List.drop_drop]; exact am_q411_3_r132)
theorem am_q411_3_r108 : (am_k411_3.drop 108).all (am_ck 411) = true := am_als am_q411_3_108 (by rw [List.drop_drop]; exact am_q411_3_r120)
theorem am_q411_3_r96 : (am_k411_3.drop 96).all (am_ck 411) = true := am_als am_q411_3_96 (by rw [List.drop_drop]; exact am_q411_3_r108)
theorem am_q411_3_r84 : (am_k411_3.drop 84).all (am_ck 411) = true := am_als am_q411_3_84 (by rw [List.drop_drop]; exact am_q411_3_r96)
theorem am_q411_3_r72 : (am_k411_3.drop 72).all (am_ck 411) = true := am_als am_q411_3_72 (by rw [List.drop_drop]; exact am_q411_3_r84)
theorem am_q411_3_r60 : (am_k411_3.drop 60).all (am_ck 411) = true := am_als am_q411_3_60 (by rw [List.drop_drop]; exact am_q411_3_r72)
theorem am_q411_3_r48 : (am_k411_3.drop 48).all (am_ck 411) = true := am_als am_q411_3_48 (by rw [List.drop_drop]; exact am_q411_3_r60)
theorem am_q411_3_r36 : (am_k411_3.drop 36).all (am_ck 411) = true := am_als am_q411_3_36 (by rw [List.drop_drop]; exact am_q411_3_r48)
theorem am_q411_3_r24 : (am_k411_3.drop 24).all (am_ck 411) = true := am_als am_q411_3_24 (by rw [List.drop_drop]; exact am_q411_3_r36)
theorem am_q411_3_r12 : (am_k411_3.drop 12).all (am_ck 411) = true := am_als am_q411_3_12 (by rw [List.drop_drop]; exact am_q411_3_r24)
theorem am_q411_3_r0 : (am_k411_3.drop 0).all (am_ck 411) = true := am_als am_q411_3_0 (by rw [List.drop_drop]; exact am_q411_3_r12)
theorem am_q411_3 : am_k411_3.all (am_ck 411) = true := am_q411_3_r0
theorem am_q411_4_0 : ((am_k411_4.drop 0).take 12).all (am_ck 411) = true := by decide +kernel
theorem am_q411_4_12 : ((am_k411_4.drop 12).take 12).all (am_ck 411) = true := by decide +kernel
theorem am_q411_4_24 : ((am_k411_4.drop 24).take 12).all (am_ck 411) = true := by decide +kernel
theorem am_q411_4_36 : ((am_k411_4.drop 36).take 12).all (am_ck 411) = true := by decide +kernel
theorem am_q411_4_48 : ((am_k411_4.drop 48).take 12).all (am_ck 411) = true := by decide +kernel
theorem am_q411_4_60 : ((am_k411_4.drop 60).take 12).all (am_ck 411) = true := by decide +kernel
theorem am_q411_4_72 : ((am_k411_4.drop 72).take 12).all (am_ck 411) = true := by decide +kernel
theorem am_q411_4_84 : ((am_k411_4.drop 84).take 12).all (am_ck 411) = true := by decide +kernel
theorem am_q411_4_96 : ((am_k411_4.drop 96).take 12).all (am_ck 411) = true := by decide +kernel
theorem am_q411_4_108 : ((am_k411_4.drop 108).take 12).all (am_ck 411) = true := by decide +kernel
theorem am_q411_4_120 : ((am_k411_4.drop 120).take 12).all (am_ck 411) = true := by decide +kernel
theorem am_q411_4_132 : ((am_k411_4.drop 132).take 12).all (am_ck 411) = true := by decide +kernel
theorem am_q411_4_144 : ((am_k411_4.drop 144).take 12).all (am_ck 411) = true := by decide +kernel
theorem am_q411_4_156 : ((am_k411_4.drop 156).take 12).all (am_ck 411) = true := by decide +kernel
theorem am_q411_4_168 : ((am_k411_4.drop 168).take 12).all (am_ck 411) = true := by decide +kernel
theorem am_q411_4_180 : ((am_k411_4.drop 180).take 12).all (am_ck 411) = true := by decide +kernel
theorem am_q411_4_r192 : (am_k411_4.drop 192).all (am_ck 411) = true := by decide +kernel
theorem am_q411_4_r180 : (am_k411_4.drop 180).all (am_ck 411) = true := am_als am_q411_4_180 (by rw [List.drop_drop]; exact am_q411_4_r192)
theorem am_q411_4_r168 : (am_k411_4.drop 168).all (am_ck 411) = true := am_als am_q411_4_168 (by rw [List.drop_drop]; exact am_q411_4_r180)
theorem am_q411_4_r156 : (am_k411_4.drop 156).all (am_ck 411) = true := am_als am_q411_4_156 (by rw [List.drop_drop]; exact am_q411_4_r168)
theorem am_q411_4_r144 : (am_k411_4.drop 144).all (am_ck 411) = true := am_als am_q411_4_144 (by rw [List.drop_drop]; exact am_q411_4_r156)
theorem am_q411_4_r132 : (am_k411_4.drop 132).all (am_ck 411) = true := am_als am_q411_4_132 (by rw [List.drop_drop]; exact am_q411_4_r144)
theorem am_q411_4_r120 : (am_k411_4.drop 120).all (am_ck 411) = true := am_als am_q411_4_120 (by rw [List.drop_drop]; exact am_q411_4_r132)
theorem am_q411_4_r108 : (am_k411_4.drop 108).all (am_ck 411) = true := am_als am_q411_4_108 (by rw [List.drop_drop]; exact am_q411_4_r120)
theorem am_q411_4_r96 : (am_k411_4.drop 96).all (am_ck 411) = true := am_als am_q411_4_96 (by rw [List.drop_drop]; exact am_q411_4_r108)
theorem am_q411_4_r84 : (am_k411_4.drop 84).all (am_ck 411) = true := am_als am_q411_4_84 (by rw [List.drop_drop]; exact am_q411_4_r96)
theorem am_q411_4_r72 : (am_k411_4.drop 72).all (am_ck 411) = true := am_als am_q411_4_72 (by rw [List.drop_drop]; exact am_q411_4_r84)
theorem am_q411_4_r60 : (am_k411_4.drop 60).all (am_ck 411) = true := am_als am_q411_4_60 (by rw [List.drop_drop]; exact am_q411_4_r72)
theorem am_q411_4_r48 : (am_k411_4.drop 48).all (am_ck 411) = true := am_als am_q411_4_48 (by rw [List.drop_drop]; exact am_q411_4_r60)
theorem am_q411_4_r36 : (am_k411_4.drop 36).all (am_ck 411) = true := am_als am_q411_4_36 (by rw [List.drop_drop]; exact am_q411_4_r48)
theorem am_q411_4_r24 : (am_k411_4.drop 24).all (am_ck 411) = true := am_als am_q411_4_24 (by rw [List.drop_drop]; exact am_q411_4_r36)
theorem am_q411_4_r12 : (am_k411_4.drop 12).all (am_ck 411) = true := am_als am_q411_4_12 (by rw [List.drop_drop]; exact am_q411_4_r24)
theorem am_q411_4_r0 : (am_k411_4.drop 0).all (am_ck 411) = true := am_als am_q411_4_0 (by rw [List.drop_drop]; exact am_q411_4_r12)
theorem am_q411_4 : am_k411_4.all (am_ck 411) = true := am_q411_4_r0
theorem am_q411_5_0 : ((am_k411_5.drop 0).take 12).all (am_ck 411) = true := by decide +kernel
theorem am_q411_5_12 : ((am_k411_5.drop 12).take 12).all (am_ck 411) = true := by decide +kernel
theorem am_q411_5_24 : ((am_k411_5.drop 24).take 12).all (am_ck 411) = true := by decide +kernel
theorem am_q411_5_36 : ((am_k411_5.drop 36).take 12).all (am_ck 411) = true := by decide +kernel
theorem am_q411_5_48 : ((am_k411_5.drop 48).take 12).all (am_ck 411) = true := by decide +kernel
theorem am_q411_5_60 : ((am_k411_5.drop 60).take 12).all (am_ck 411) = true := by decide +kernel
theorem am_q411_5_72 : ((am_k411_5.drop 72).take 12).all (am_ck 411) = true := by decide +kernel
theorem am_q411_5_84 : ((am_k411_5.drop 84).take 12).all (am_ck 411) = true := by decide +kernel
theorem am_q411_5_96 : ((am_k411_5.drop 96).take 12).all (am_ck 411) = true := by decide +kernel
theorem am_q411_5_108 : ((am_k411_5.drop 108).take 12).all (am_ck 411) = true := by decide +kernel
theorem am_q411_5_120 : ((am_k411_5.drop 120).take 12).all (am_ck 411) = true := by decide +kernel
theorem am_q411_5_132 : ((am_k411_5.drop 132).take 12).all (am_ck 411) = true := by decide +kernel
theorem am_q411_5_144 : ((am_k411_5.drop 144).take 12).all (am_ck 411) = true := by decide +kernel
theorem am_q411_5_156 : ((am_k411_5.drop 156).take 12).all (am_ck 411) = true := by decide +kernel
theorem am_q411_5_168 : ((am_k411_5.drop 168).take 12).all (am_ck 411) = true := by decide +kernel
theorem am_q411_5_180 : ((am_k411_5.drop 180).take 12).all (am_ck 411) = true := by decide +kernel
theorem am_q411_5_r192 : (am_k411_5.drop 192).all (am_ck 411) = true := by decide +kernel
theorem am_q411_5_r180 : (am_k411_5.drop 180).all (am_ck 411) = true := am_als am_q411_5_180 (by rw [List.drop_drop]; exact am_q411_5_r192)
theorem am_q411_5_r168 : (am_k411_5.drop 168).all (am_ck 411) = true := am_als am_q411_5_168 (by rw [List.drop_drop]; exact am_q411_5_r180)
theorem am_q411_5_r156 : (am_k411_5.drop 156).all (am_ck 411) = true := am_als am_q411_5_156 (by rw [List.drop_drop]; exact am_q411_5_r168)
theorem am_q411_5_r144 : (am_k411_5.drop 144).all (am_ck 411) = true := am_als am_q411_5_144 (by rw [List.drop_drop]; exact am_q411_5_r156)
theorem am_q411_5_r132 : (am_k411_5.drop 132).all (am_ck 411) = true := am_als am_q411_5_132 (by rw [List.drop_drop]; exact am_q411_5_r144)
theorem am_q411_5_r120 : (am_k411_5.drop 120).all (am_ck 411) = true := am_als am_q411_5_120 (by rw [List.drop_drop]; exact am_q411_5_r132)
theorem am_q411_5_r108 : (am_k411_5.drop 108).all (am_ck 411) = true := am_als am_q411_5_108 (by rw [List.drop_drop]; exact am_q411_5_r120)
theorem am_q411_5_r96 : (am_k411_5.drop 96).all (am_ck 411) = true := am_als am_q411_5_96 (by rw [List.drop_drop]; exact am_q411_5_r108)
theorem am_q411_5_r84 : (am_k411_5.drop 84).all (am_ck 411) = true := am_als am_q411_5_84 (by rw [List.drop_drop]; exact am_q411_5_r96)
theorem am_q411_5_r72 : (am_k411_5.drop 72).all (am_ck 411) = true := am_als am_q411_5_72 (by rw [List.drop_drop]; exact am_q411_5_r84)
theorem am_q411_5_r60 : (am_k411_5.drop 60).all (am_ck 411) = true := am_als am_q411_5_60 (by rw [List.drop_drop]; exact am_q411_5_r72)
theorem am_q411_5_r48 : (am_k411_5.drop 48).all (am_ck 411) = true := am_als am_q411_5_48 (by rw [List.drop_drop]; exact am_q411_5_r60)
theorem am_q411_5_r36 : (am_k411_5.drop 36).all (am_ck 411) = true := am_als am_q411_5_36 (by rw [List.drop_drop]; exact am_q411_5_r48)
theorem am_q411_5_r24 : (am_k411_5.drop 24).all (am_ck 411) = true := am_als am_q411_5_24 (by rw [List.drop_drop]; exact am_q411_5_r36)
theorem am_q411_5_r12 : (am_k411_5.drop 12).all (am_ck 411) = true := am_als am_q411_5_12 (by rw [List.drop_drop]; exact am_q411_5_r24)
theorem am_q411_5_r0 : (am_k411_5.drop 0).all (am_ck 411) = true := am_als am_q411_5_0 (by rw [List.drop_drop]; exact am_q411_5_r12)
theorem am_q411_5 : am_k411_5.all (am_ck 411) = true := am_q411_5_r0
theorem am_q411_6_0 : ((am_k411_6.drop 0).take 12).all (am_ck 411) = true := by decide +kernel
theorem am_q411_6_12 : ((am_k411_6.drop 12).take 12).all (am_ck 411) = true := by decide +kernel
theorem am_q411_6_24 : ((am_k411_6.drop 24).take 12).all (am_ck 411) = true := by decide +kernel
theorem am_q411_6_36 : ((am_k411_6.drop 36).take 12).all (am_ck 411) = true := by decide +kernel
theorem am_q411_6_48 : ((am_k411_6.drop 48).take 12).all (am_ck 411) = true := by decide +kernel
theorem am_q411_6_60 : ((am_k411_6.drop 60).take 12).all (am_ck 411) = true := by decide +kernel
theorem am_q411_6_72 : ((am_k411_6.drop 72).take 12).all (am_ck 411) = true := by decide +kernel
theorem am_q411_6_84 : ((am_k411_6.drop 84).take 12).all (am_ck 411) = true := by decide +kernel
theorem am_q411_6_96 : ((am_k411_6.drop 96).take 12).all (am_ck 411) = true := by decide +kernel
theorem am_q411_6_108 : ((am_k411_6.drop 108).take 12).all (am_ck 411) = true := by decide +kernel
theorem am_q411_6_120 : ((am_k411_6.drop 120).take 12).all (am_ck 411) = true := by decide +kernel
theorem am_q411_6_132 : ((am_k411_6.drop 132).take 12).all (am_ck 411) = true := by decide +kernel
theorem am_q411_6_144 : ((am_k411_6.drop 144).take 12).all (am_ck 411) = true := by decide +kernel
theorem am_q411_6_156 : ((am_k411_6.drop 156).take 12).all (am_ck 411) = true := by decide +kernel
theorem am_q411_6_168 : ((am_k411_6.drop 168).take 12).all (am_ck 411) = true := by decide +kernel
theorem am_q411_6_180 : ((am_k411_6.drop 180).take 12).all (am_ck 411) = true := by decide +kernel
theorem am_q411_6_r192 : (am_k411_6.drop 192).all (am_ck 411) = true := by decide +kernel
theorem am_q411_6_r180 : (am_k411_6.drop 180).all (am_ck 411) = true := am_als am_q411_6_180 (by rw [List.drop_drop]; exact am_q411_6_r192)
theorem am_q411_6_r168 : (am_k411_6.drop 168).all (am_ck 411) = true := am_als am_q411_6_168 (by rw [List.drop_drop]; exact am_q411_6_r180)
theorem am_q411_6_r156 : (am_k411_6.drop 156).all (am_ck 411) = true := am_als am_q411_6_156 (by rw [List.drop_drop]; exact am_q411_6_r168)
theorem am_q411_6_r144 : (am_k411_6.drop 144).all (am_ck 411) = true := am_als am_q411_6_144 (by rw [List.drop_drop]; exact am_q411_6_r156)
theorem am_q411_6_r132 : (am_k411_6.drop 132).all (am_ck 411) = true := am_als am_q411_6_132 (by rw [List.drop_drop]; exact am_q411_6_r144)
theorem am_q411_6_r120 : (am_k411_6.drop 120).all (am_ck 411) = true := am_als am_q411_6_120 (by rw [List.drop_drop]; exact am_q411_6_r132)
theorem am_q411_6_r108 : (am_k411_6.drop 108).all (am_ck 411) = true := am_als am_q411_6_108 (by rw [List.drop_drop]; exact am_q411_6_r120)
theorem am_q411_6_r96 : (am_k411_6.drop 96).all (am_ck 411) = true := am_als am_q411_6_96 (by rw [List.drop_drop]; exact am_q411_6_r108)
theorem am_q411_6_r84 : (am_k411_6.drop 84).all (am_ck 411) = true := am_als am_q411_6_84 (by rw [List.drop_drop]; exact am_q411_6_r96)
theorem am_q411_6_r72 : (am_k411_6.drop 72).all (am_ck 411) = true := am_als am_q411_6_72 (by rw [List.drop_drop]; exact am_q411_6_r84)
theorem am_q411_6_r60 : (am_k411_6.drop 60).all (am_ck 411) = true := am_als am_q411_6_60 (by rw [List.drop_drop]; exact am_q411_6_r72)
theorem am_q411_6_r48 : (am_k411_6.drop 48).all (am_ck 411) = true := am_als am_q411_6_48 (by rw [List.drop_drop]; exact am_q411_6_r60)
theorem am_q411_6_r36 : (am_k411_6.drop 36).all (am_ck 411) = true := am_als am_q411_6_36 (by rw [List.drop_drop]; exact am_q411_6_r48)
theorem am_q411_6_r24 : (am_k411_6.drop 24).all (am_ck 411) = true := am_als am_q411_6_24 (by rw [List.drop_drop]; exact am_q411_6_r36)
theorem am_q411_6_r12 : (am_k411_6.drop 12).all (am_ck 411) = true := am_als am_q411_6_12 (by rw [List.drop_drop]; exact am_q411_6_r24)
theorem am_q411_6_r0 : (am_k411_6.drop 0).all (am_ck 411) = true := am_als am_q411_6_0 (by rw [List.drop_drop]; exact am_q411_6_r12)
theorem am_q411_6 : am_k411_6.all (am_ck 411) = true := am_q411_6_r0
theorem am_q411_7_0 : ((am_k411_7.drop 0).take 12).all (am_ck 411) = true := by decide +kernel
theorem am_q411_7_12 : ((am_k411_7.drop 12).take 12).all (am_ck 411) = true := by decide +kernel
theorem am_q411_7_24 : ((am_k411_7.drop 24).take 12).all (am_ck 411) = true := by decide +kernel
theorem am_q411_7_36 : ((am_k411_7.drop 36).take 12).all (am_ck 411) = true := by decide +kernel
theorem am_q411_7_48 : ((am_k411_7.drop 48).take 12).all (am_ck 411) = true := by decide +kernel
theorem am_q411_7_60 : ((am_k411_7.drop 60).take 12).all (am_ck 411) = true := by decide +kernel
theorem am_q411_7_72 : ((am_k411_7.drop 72).take 12).all (am_ck 411) = true := by decide +kernel
theorem am_q411_7_84 : ((am_k411_7.drop 84).take 12).all (am_ck 411) = true := by decide +kernel
theorem am_q411_7_96 : ((am_k411_7.drop 96).take 12).all (am_ck 411) = true := by decide +kernel
theorem am_q411_7_108 : ((am_k411_7.drop 108).take 12).all (am_ck 411) = true := by decide +kernel
theorem am_q411_7_120 : ((am_k411_7.drop 120).take 12).all (am_ck 411) = true := by decide +kernel
theorem am_q411_7_132 : ((am_k411_7.drop 132).take 12).all (am_ck 411) = true := by decide +kernel
theorem am_q411_7_144 : ((am_k411_7.drop 144).take 12).all (am_ck 411) = true := by decide +kernel
theorem am_q411_7_156 : ((am_k411_7.drop 156).take 12).all (am_ck 411) = true := by decide +kernel
theorem am_q411_7_168 : ((am_k411_7.drop 168).take 12).all (am_ck 411) = true := by decide +kernel
theorem am_q411_7_180 : ((am_k411_7.drop 180).take 12).all (am_ck 411) = true := by decide +kernel
theorem am_q411_7_r192 : (am_k411_7.drop 192).all (am_ck 411) = true := by decide +kernel
theorem am_q411_7_r180 : (am_k411_7.drop 180).all (am_ck 411) = true := am_als am_q411_7_180 (by rw [List.drop_drop]; exact am_q411_7_r192)
theorem am_q411_7_r168 : (am_k411_7.drop 168).all (am_ck 411) = true := am_als am_q411_7_168 (by rw [List.drop_drop]; exact am_q411_7_r180)
theorem am_q411_7_r156 : (am_k411_7.drop 156).all (am_ck 411) = true := am_als am_q411_7_156 (by rw [List.drop_drop]; exact am_q411_7_r168)
theorem am_q411_7_r144 : (am_k411_7.drop 144).all (am_ck 411) = true := am_als am_q411_7_144 (by rw [List.drop_drop]; exact am_q411_7_r156)
theorem am_q411_7_r132 : (am_k411_7.drop 132).all (am_ck 411) = true := am_als am_q411_7_132 (by rw [List.drop_drop]; exact am_q411_7_r144)
theorem am_q411_7_r120 : (am_k411_7.drop 120).all (am_ck 411) = true := am_als am_q411_7_120 (by rw [List.drop_drop]; exact am_q411_7_r132)
theorem am_q411_7_r108 : (am_k411_7.drop 108).all (am_ck 411) = true := am_als am_q411_7_108 (by rw [List.drop_drop]; exact am_q411_7_r120)
theorem am_q411_7_r96 : (am_k411_7.drop 96).all (am_ck 411) = true := am_als am_q411_7_96 (by rw [List.drop_drop]; exact am_q411_7_r108)
theorem am_q411_7_r84 : (am_k411_7.drop 84).all (am_ck 411) = true := am_als am_q411_7_84 (by rw [List.drop_drop]; exact am_q411_7_r96)
theorem am_q411_7_r72 : (am_k411_7.drop 72).all (am_ck 411) = true := am_als am_q411_7_72 (by rw [List.drop_drop]; exact am_q411_7_r84)
theorem am_q411_7_r60 : (am_k411_7.drop 60).all (am_ck 411) = true := am_als am_q411_7_60 (by rw [List.drop_drop]; exact am_q411_7_r72)
theorem am_q411_7_r48 : (am_k411_7.drop 48).all (am_ck 411) = true := am_als am_q411_7_48 (by rw [List.drop_drop]; exact am_q411_7_r60)
theorem am_q411_7_r36 : (am_k411_7.drop 36).all (am_ck 411) = true := am_als am_q411_7_36 (by rw [List.drop_drop]; exact am_q411_7_r48)
theorem am_q411_7_r24 : (am_k411_7.drop 24).all (am_ck 411) = true := am_als am_q411_7_24 (by rw [List.drop_drop]; exact am_q411_7_r36)
theorem am_q411_7_r12 : (am_k411_7.drop 12).all (am_ck 411) = true := am_als am_q411_7_12 (by rw [List.drop_drop]; exact am_q411_7_r24)
theorem am_q411_7_r0 : (am_k411_7.drop 0).all (am_ck 411) = true := am_als am_q411_7_0 (by rw [List.drop_drop]; exact am_q411_7_r12)
theorem am_q411_7 : am_k411_7.all (am_ck 411) = true := am_q411_7_r0
theorem am_q411_8_0 : ((am_k411_8.drop 0).take 12).all (am_ck 411) = true := by decide +kernel
theorem am_q411_8_12 : ((am_k411_8.drop 12).take 12).all (am_ck 411) = true := by decide +kernel
theorem am_q411_8_24 : ((am_k411_8.drop 24).take 12).all (am_ck 411) = true := by decide +kernel
theorem am_q411_8_36 : ((am_k411_8.drop 36).take 12).all (am_ck 411) = true := by decide +kernel
theorem am_q411_8_48 : ((am_k411_8.drop 48).take 12).all (am_ck 411) = true := by decide +kernel
theorem am_q411_8_60 : ((am_k411_8.drop 60).take 12).all (am_ck 411) = true := by decide +kernel
theorem am_q411_8_72 : ((am_k411_8.drop 72).take 12).all (am_ck 411) = true := by decide +kernel
theorem am_q411_8_84 : ((am_k411_8.drop 84).take 12).all (am_ck 411) = true := by decide +kernel
theorem am_q411_8_96 : ((am_k411_8.drop 96).take 12).all (am_ck 411) = true := by decide +kernel
theorem am_q411_8_108 : ((am_k411_8.drop 108).take 12).all (am_ck 411) = true := by decide +kernel
theorem am_q411_8_120 : ((am_k411_8.drop 120).take 12).all (am_ck 411) = true := by decide +kernel
theorem am_q411_8_132 : ((am_k411_8.drop 132).take 12).all (am_ck 411) = true := by decide +kernel
theorem am_q411_8_144 : ((am_k411_8.drop 144).take 12).all (am_ck 411) = true := by decide +kernel
theorem am_q411_8_156 : ((am_k411_8.drop 156).take 12).all (am_ck 411) = true := by decide +kernel
theorem am_q411_8_168 : ((am_k411_8.drop 168).take 12).all (am_ck 411) = true := by decide +kernel
theorem am_q411_8_180 : ((am_k411_8.drop 180).take 12).all (am_ck 411) = true := by decide +kernel
theorem am_q411_8_r192 : (am_k411_8.drop 192).all (am_ck 411) = true := by decide +kernel
theorem am_q411_8_r180 : (am_k411_8.drop 180).all (am_ck 411) = true := am_als am_q411_8_180 (by rw [List.drop_drop]; exact am_q411_8_r192)
theorem am_q411_8_r168 : (am_k411_8.drop 168).all (am_ck 411) = true := am_als am_q411_8_168 (by rw [List.drop_drop]; exact am_q411_8_r180)
theorem am_q411_8_r156 : (am_k411_8.drop 156).all (am_ck 411) = true := am_als am_q411_8_156 (by rw [List.drop_drop]; exact am_q411_8_r168)
theorem am_q411_8_r144 : (am_k411_8.drop 144).all (am_ck 411) = true := am_als am_q411_8_144 (by rw [List.drop_drop]; exact am_q411_8_r156)
theorem am_q411_8_r132 : (am_k411_8.drop 132).all (am_ck 411) = true := am_als am_q411_8_132 (by rw [List.drop_drop]; exact am_q411_8_r144)
theorem am_q411_8_r120 : (am_k411_8.drop 120).all (am_ck 411) = true := am_als am_q411_8_120 (by rw [List.drop_drop]; exact am_q411_8_r132)
theorem am_q411_8_r108 : (am_k411_8.drop 108).all (am_ck 411) = true := am_als am_q411_8_108 (by rw [List.drop_drop]; exact am_q411_8_r120)
theorem am_q411_8_r96 : (am_k411_8.drop 96).all (am_ck 411) = true := am_als am_q411_8_96 (by rw [List.drop_drop]; exact am_q411_8_r108)
theorem am_q411_8_r84 : (am_k411_8.drop 84).all (am_ck 411) = true := am_als am_q411_8_84 (by rw [List.drop_drop]; exact am_q411_8_r96)
theorem am_q411_8_r72 : (am_k411_8.drop 72).all (am_ck 411) = true := am_als am_q411_8_72 (by rw [List.drop_drop]; exact am_q411_8_r84)
theorem am_q411_8_r60 : (am_k411_8.drop 60).all (am_ck 411) = true := am_als am_q411_8_60 (by rw [List.drop_drop]; exact am_q411_8_r72)
theorem am_q411_8_r48 : (am_k411_8.drop 48).all (am_ck 411) = true := am_als am_q411_8_48 (by rw [List.drop_drop]; exact am_q411_8_r60)
theorem am_q411_8_r36 : (am_k411_8.drop 36).all (am_ck 411) = true := am_als am_q411_8_36 (by rw [List.drop_drop]; exact am_q411_8_r48)
theorem am_q411_8_r24 : (am_k411_8.drop 24).all (am_ck 411) = true := am_als am_q411_8_24 (by rw [List.drop_drop]; exact am_q411_8_r36)
theorem am_q411_8_r12 : (am_k411_8.drop 12).all (am_ck 411) = true := am_als am_q411_8_12 (by rw [List.drop_drop]; exact am_q411_8_r24)
theorem am_q411_8_r0 : (am_k411_8.drop 0).all (am_ck 411) = true := am_als am_q411_8_0 (by rw [List.drop_drop]; exact am_q411_8_r12)
theorem am_q411_8 : am_k411_8.all (am_ck 411) = true := am_q411_8_r0
theorem am_q411_9_0 : ((am_k411_9.drop 0).take 12).all (am_ck 411) = true := by decide +kernel
theorem am_q411_9_12 : ((am_k411_9.drop 12).take 12).all (am_ck 411) = true := by decide +kernel
theorem am_q411_9_24 : ((am_k411_9.drop 24).take 12).all (am_ck 411) = true := by decide +kernel
theorem am_q411_9_36 : ((am_k411_9.drop 36).take 12).all (am_ck 411) = true := by decide +kernel
theorem am_q411_9_48 : ((am_k411_9.drop 48).take 12).all (am_ck 411) = true := by decide +kernel
theorem am_q411_9_60 : ((am_k411_9.drop 60).take 12).all (am_ck 411) = true := by decide +kernel
theorem am_q411_9_72 : ((am_k411_9.drop 72).take 12).all (am_ck 411) = true := by decide +kernel
theorem am_q411_9_84 : ((am_k411_9.drop 84).take 12).all (am_ck 411) = true := by decide +kernel
theorem am_q411_9_r96 : (am_k411_9.drop 96).all (am_ck 411) = true := by decide +kernel
theorem am_q411_9_r84 : (am_k411_9.drop 84).all (am_ck 411) = true := am_als am_q411_9_84 (by rw [List.drop_drop]; exact am_q411_9_r96)
theorem am_q411_9_r72 : (am_k411_9.drop 72).all (am_ck 411) = true := am_als am_q411_9_72 (by rw [List.drop_drop]; exact am_q411_9_r84)
theorem am_q411_9_r60 : (am_k411_9.drop 60).all (am_ck 411) = true := am_als am_q411_9_60 (by rw [List.drop_drop]; exact am_q411_9_r72)
theorem am_q411_9_r48 : (am_k411_9.drop 48).all (am_ck 411) = true := am_als am_q411_9_48 (by rw [List.drop_drop]; exact am_q411_9_r60)
theorem am_q411_9_r36 : (am_k411_9.drop 36).all (am_ck 411) = true := am_als am_q411_9_36 (by rw [List.drop_drop]; exact am_q411_9_r48)
theorem am_q411_9_r24 : (am_k411_9.drop 24).all (am_ck 411) = true := am_als am_q411_9_24 (by rw [List.drop_drop]; exact am_q411_9_r36)
theorem am_q411_9_r12 : (am_k411_9.drop 12).all (am_ck 411) = true := am_als am_q411_9_12 (by rw [List.drop_drop]; exact am_q411_9_r24)
theorem am_q411_9_r0 : (am_k411_9.drop 0).all (am_ck 411) = true := am_als am_q411_9_0 (by rw [List.drop_drop]; exact am_q411_9_r12)
theorem am_q411_9 : am_k411_9.all (am_ck 411) = true := am_q411_9_r0
theorem am_q411_s : am_sq am_k411 = true := by decide +kernel
theorem am_q411 : (am_k411.all (am_ck 411) && am_sq am_k411) = true := by
  unfold am_k411
  rw [Bool.and_eq_true]
  refine ⟨?_, am_q411_s⟩
  simp only [List.all_append, am_q411_0, am_q411_1, am_q411_2, am_q411_3, am_q411_4, am_q411_5, am_q411_6, am_q411_7, am_q411_8, am_q411_9, Bool.and_self]
