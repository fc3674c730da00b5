/-! where the premises on texts and digits stand -/
/-- the constants' terms -/
def kt_ (i : Nat) : Term := .string (am_cn (krf_.getD i (0, 0, "")).1) (krf_.getD i (0, 0, "")).2.1
def pj_ : List Cond := flatC (Jvm.Cond.and given_1 narrow_1)
set_option maxRecDepth 100000 in
theorem am_ta_r : (List.range 28).map (fun j => pj_[([242, 545, 558, 564, 573, 584, 360, 390, 397, 374, 412, 439, 425, 402, 417, 430, 446, 457, 465, 475, 364, 379, 485, 496, 504, 515, 527, 537] : List Nat).getD j 0]?) = (List.range 28).map (fun j => some (Cond.exactly (kt_ j) "java/lang/String")) := by rfl
theorem am_ta : ∀ j, j < 28 → (Cond.exactly (kt_ j) "java/lang/String") ∈ flatC (Jvm.Cond.and given_1 narrow_1) := fun j hj => List.mem_of_getElem? (am_map am_ta_r (List.mem_range.mpr hj))
set_option maxRecDepth 100000 in
theorem am_tb_r : (List.range 28).map (fun j => pj_[([243, 546, 559, 565, 574, 585, 361, 391, 398, 375, 413, 440, 426, 403, 418, 431, 447, 458, 466, 476, 365, 380, 486, 497, 505, 516, 528, 538] : List Nat).getD j 0]?) = (List.range 28).map (fun j => some (Cond.eq (.field (kt_ j) "java/lang/String" "coder" "B") (.int 0))) := by rfl
theorem am_tb : ∀ j, j < 28 → (Cond.eq (.field (kt_ j) "java/lang/String" "coder" "B") (.int 0)) ∈ flatC (Jvm.Cond.and given_1 narrow_1) := fun j hj => List.mem_of_getElem? (am_map am_tb_r (List.mem_range.mpr hj))
set_option maxRecDepth 100000 in
theorem am_tc_r : (List.range 28).map (fun j => pj_[([244, 547, 560, 566, 575, 586, 362, 392, 399, 376, 414, 441, 427, 404, 419, 432, 448, 459, 467, 477, 366, 381, 487, 498, 506, 517, 529, 539] : List Nat).getD j 0]?) = (List.range 28).map (fun j => some (Cond.arrayOf (.field (kt_ j) "java/lang/String" "value" "[B") .byte)) := by rfl
theorem am_tc : ∀ j, j < 28 → (Cond.arrayOf (.field (kt_ j) "java/lang/String" "value" "[B") .byte) ∈ flatC (Jvm.Cond.and given_1 narrow_1) := fun j hj => List.mem_of_getElem? (am_map am_tc_r (List.mem_range.mpr hj))
set_option maxRecDepth 100000 in
theorem am_td9_r : (List.range 28).map (fun j => pj_[([245, 548, 561, 567, 576, 587, 363, 393, 400, 377, 415, 442, 428, 405, 420, 433, 449, 460, 468, 478, 367, 382, 488, 499, 507, 518, 530, 540] : List Nat).getD j 0]?) = (List.range 28).map (fun j => some (Cond.eq (.length (.field (kt_ j) "java/lang/String" "value" "[B")) (.int (Int32.ofNat (kb_ j).length)))) := by rfl
theorem am_td9 : ∀ j, j < 28 → (Cond.eq (.length (.field (kt_ j) "java/lang/String" "value" "[B")) (.int (Int32.ofNat (kb_ j).length))) ∈ flatC (Jvm.Cond.and given_1 narrow_1) := fun j hj => List.mem_of_getElem? (am_map am_td9_r (List.mem_range.mpr hj))
set_option maxRecDepth 100000 in
theorem am_te0_r : (List.range 114).map (fun j => pj_[([246, 247, 248, 249, 250, 251, 252, 253, 254, 255, 256, 257, 258, 259, 260, 261, 262, 263, 264, 265, 266, 267, 268, 269, 270, 271, 272, 273, 274, 275, 276, 277, 278, 279, 280, 281, 282, 283, 284, 285, 286, 287, 288, 289, 290, 291, 292, 293, 294, 295, 296, 297, 298, 299, 300, 301, 302, 303, 304, 305, 306, 307, 308, 309, 310, 311, 312, 313, 314, 315, 316, 317, 318, 319, 320, 321, 322, 323, 324, 325, 326, 327, 328, 329, 330, 331, 332, 333, 334, 335, 336, 337, 338, 339, 340, 341, 342, 343, 344, 345, 346, 347, 348, 349, 350, 351, 352, 353, 354, 355, 356, 357, 358, 359] : List Nat).getD j 0]?) = (List.range 114).map (fun j => some (Cond.eq (.elem (.field (kt_ 0) "java/lang/String" "value" "[B") (.int (Int32.ofNat j))) (.int ((kb_ 0).getD j 0)))) := by rfl
theorem am_te0 : ∀ j, j < 114 → (Cond.eq (.elem (.field (kt_ 0) "java/lang/String" "value" "[B") (.int (Int32.ofNat j))) (.int ((kb_ 0).getD j 0))) ∈ flatC (Jvm.Cond.and given_1 narrow_1) := fun j hj => List.mem_of_getElem? (am_map am_te0_r (List.mem_range.mpr hj))
set_option maxRecDepth 100000 in
theorem am_te1_r : (List.range 8).map (fun j => pj_[([549, 550, 551, 552, 553, 554, 555, 556] : List Nat).getD j 0]?) = (List.range 8).map (fun j => some (Cond.eq (.elem (.field (kt_ 1) "java/lang/String" "value" "[B") (.int (Int32.ofNat j))) (.int ((kb_ 1).getD j 0)))) := by rfl
theorem am_te1 : ∀ j, j < 8 → (Cond.eq (.elem (.field (kt_ 1) "java/lang/String" "value" "[B") (.int (Int32.ofNat j))) (.int ((kb_ 1).getD j 0))) ∈ flatC (Jvm.Cond.and given_1 narrow_1) := fun j hj => List.mem_of_getElem? (am_map am_te1_r (List.mem_range.mpr hj))
set_option maxRecDepth 100000 in
theorem am_te2_r : (List.range 1).map (fun j => pj_[([562] : List Nat).getD j 0]?) = (List.range 1).map (fun j => some (Cond.eq (.elem (.field (kt_ 2) "java/lang/String" "value" "[B") (.int (Int32.ofNat j))) (.int ((kb_ 2).getD j 0)))) := by rfl
theorem am_te2 : ∀ j, j < 1 → (Cond.eq (.elem (.field (kt_ 2) "java/lang/String" "value" "[B") (.int (Int32.ofNat j))) (.int ((kb_ 2).getD j 0))) ∈ flatC (Jvm.Cond.and given_1 narrow_1) := fun j hj => List.mem_of_getElem? (am_map am_te2_r (List.mem_range.mpr hj))
set_option maxRecDepth 100000 in
theorem am_te3_r : (List.range 4).map (fun j => pj_[([568, 569, 570, 571] : List Nat).getD j 0]?) = (List.range 4).map (fun j => some (Cond.eq (.elem (.field (kt_ 3) "java/lang/String" "value" "[B") (.int (Int32.ofNat j))) (.int ((kb_ 3).getD j 0)))) := by rfl
theorem am_te3 : ∀ j, j < 4 → (Cond.eq (.elem (.field (kt_ 3) "java/lang/String" "value" "[B") (.int (Int32.ofNat j))) (.int ((kb_ 3).getD j 0))) ∈ flatC (Jvm.Cond.and given_1 narrow_1) := fun j hj => List.mem_of_getElem? (am_map am_te3_r (List.mem_range.mpr hj))
set_option maxRecDepth 100000 in
theorem am_te4_r : (List.range 6).map (fun j => pj_[([577, 578, 579, 580, 581, 582] : List Nat).getD j 0]?) = (List.range 6).map (fun j => some (Cond.eq (.elem (.field (kt_ 4) "java/lang/String" "value" "[B") (.int (Int32.ofNat j))) (.int ((kb_ 4).getD j 0)))) := by rfl
theorem am_te4 : ∀ j, j < 6 → (Cond.eq (.elem (.field (kt_ 4) "java/lang/String" "value" "[B") (.int (Int32.ofNat j))) (.int ((kb_ 4).getD j 0))) ∈ flatC (Jvm.Cond.and given_1 narrow_1) := fun j hj => List.mem_of_getElem? (am_map am_te4_r (List.mem_range.mpr hj))
set_option maxRecDepth 100000 in
theorem am_te5_r : (List.range 1).map (fun j => pj_[([588] : List Nat).getD j 0]?) = (List.range 1).map (fun j => some (Cond.eq (.elem (.field (kt_ 5) "java/lang/String" "value" "[B") (.int (Int32.ofNat j))) (.int ((kb_ 5).getD j 0)))) := by rfl
theorem am_te5 : ∀ j, j < 1 → (Cond.eq (.elem (.field (kt_ 5) "java/lang/String" "value" "[B") (.int (Int32.ofNat j))) (.int ((kb_ 5).getD j 0))) ∈ flatC (Jvm.Cond.and given_1 narrow_1) := fun j hj => List.mem_of_getElem? (am_map am_te5_r (List.mem_range.mpr hj))
set_option maxRecDepth 100000 in
theorem am_te6_r : (List.range 0).map (fun j => pj_[([] : List Nat).getD j 0]?) = (List.range 0).map (fun j => some (Cond.eq (.elem (.field (kt_ 6) "java/lang/String" "value" "[B") (.int (Int32.ofNat j))) (.int ((kb_ 6).getD j 0)))) := by rfl
theorem am_te6 : ∀ j, j < 0 → (Cond.eq (.elem (.field (kt_ 6) "java/lang/String" "value" "[B") (.int (Int32.ofNat j))) (.int ((kb_ 6).getD j 0))) ∈ flatC (Jvm.Cond.and given_1 narrow_1) := fun j hj => List.mem_of_getElem? (am_map am_te6_r (List.mem_range.mpr hj))
set_option maxRecDepth 100000 in
theorem am_te7_r : (List.range 3).map (fun j => pj_[([394, 395, 396] : List Nat).getD j 0]?) = (List.range 3).map (fun j => some (Cond.eq (.elem (.field (kt_ 7) "java/lang/String" "value" "[B") (.int (Int32.ofNat j))) (.int ((kb_ 7).getD j 0)))) := by rfl
theorem am_te7 : ∀ j, j < 3 → (Cond.eq (.elem (.field (kt_ 7) "java/lang/String" "value" "[B") (.int (Int32.ofNat j))) (.int ((kb_ 7).getD j 0))) ∈ flatC (Jvm.Cond.and given_1 narrow_1) := fun j hj => List.mem_of_getElem? (am_map am_te7_r (List.mem_range.mpr hj))
set_option maxRecDepth 100000 in
theorem am_te8_r : (List.range 1).map (fun j => pj_[([401] : List Nat).getD j 0]?) = (List.range 1).map (fun j => some (Cond.eq (.elem (.field (kt_ 8) "java/lang/String" "value" "[B") (.int (Int32.ofNat j))) (.int ((kb_ 8).getD j 0)))) := by rfl
theorem am_te8 : ∀ j, j < 1 → (Cond.eq (.elem (.field (kt_ 8) "java/lang/String" "value" "[B") (.int (Int32.ofNat j))) (.int ((kb_ 8).getD j 0))) ∈ flatC (Jvm.Cond.and given_1 narrow_1) := fun j hj => List.mem_of_getElem? (am_map am_te8_r (List.mem_range.mpr hj))
set_option maxRecDepth 100000 in
theorem am_te9_r : (List.range 1).map (fun j => pj_[([378] : List Nat).getD j 0]?) = (List.range 1).map (fun j => some (Cond.eq (.elem (.field (kt_ 9) "java/lang/String" "value" "[B") (.int (Int32.ofNat j))) (.int ((kb_ 9).getD j 0)))) := by rfl
theorem am_te9 : ∀ j, j < 1 → (Cond.eq (.elem (.field (kt_ 9) "java/lang/String" "value" "[B") (.int (Int32.ofNat j))) (.int ((kb_ 9).getD j 0))) ∈ flatC (Jvm.Cond.and given_1 narrow_1) := fun j hj => List.mem_of_getElem? (am_map am_te9_r (List.mem_range.mpr hj))
set_option maxRecDepth 100000 in
theorem am_te10_r : (List.range 1).map (fun j => pj_[([416] : List Nat).getD j 0]?) = (List.range 1).map (fun j => some (Cond.eq (.elem (.field (kt_ 10) "java/lang/String" "value" "[B") (.int (Int32.ofNat j))) (.int ((kb_ 10).getD j 0)))) := by rfl
theorem am_te10 : ∀ j, j < 1 → (Cond.eq (.elem (.field (kt_ 10) "java/lang/String" "value" "[B") (.int (Int32.ofNat j))) (.int ((kb_ 10).getD j 0))) ∈ flatC (Jvm.Cond.and given_1 narrow_1) := fun j hj => List.mem_of_getElem? (am_map am_te10_r (List.mem_range.mpr hj))
set_option maxRecDepth 100000 in
theorem am_te11_r : (List.range 3).map (fun j => pj_[([443, 444, 445] : List Nat).getD j 0]?) = (List.range 3).map (fun j => some (Cond.eq (.elem (.field (kt_ 11) "java/lang/String" "value" "[B") (.int (Int32.ofNat j))) (.int ((kb_ 11).getD j 0)))) := by rfl
theorem am_te11 : ∀ j, j < 3 → (Cond.eq (.elem (.field (kt_ 11) "java/lang/String" "value" "[B") (.int (Int32.ofNat j))) (.int ((kb_ 11).getD j 0))) ∈ flatC (Jvm.Cond.and given_1 narrow_1) := fun j hj => List.mem_of_getElem? (am_map am_te11_r (List.mem_range.mpr hj))
set_option maxRecDepth 100000 in
theorem am_te12_r : (List.range 1).map (fun j => pj_[([429] : List Nat).getD j 0]?) = (List.range 1).map (fun j => some (Cond.eq (.elem (.field (kt_ 12) "java/lang/String" "value" "[B") (.int (Int32.ofNat j))) (.int ((kb_ 12).getD j 0)))) := by rfl
theorem am_te12 : ∀ j, j < 1 → (Cond.eq (.elem (.field (kt_ 12) "java/lang/String" "value" "[B") (.int (Int32.ofNat j))) (.int ((kb_ 12).getD j 0))) ∈ flatC (Jvm.Cond.and given_1 narrow_1) := fun j hj => List.mem_of_getElem? (am_map am_te12_r (List.mem_range.mpr hj))
set_option maxRecDepth 100000 in
theorem am_te13_r : (List.range 6).map (fun j => pj_[([406, 407, 408, 409, 410, 411] : List Nat).getD j 0]?) = (List.range 6).map (fun j => some (Cond.eq (.elem (.field (kt_ 13) "java/lang/String" "value" "[B") (.int (Int32.ofNat j))) (.int ((kb_ 13).getD j 0)))) := by rfl
theorem am_te13 : ∀ j, j < 6 → (Cond.eq (.elem (.field (kt_ 13) "java/lang/String" "value" "[B") (.int (Int32.ofNat j))) (.int ((kb_ 13).getD j 0))) ∈ flatC (Jvm.Cond.and given_1 narrow_1) := fun j hj => List.mem_of_getElem? (am_map am_te13_r (List.mem_range.mpr hj))
set_option maxRecDepth 100000 in
theorem am_te14_r : (List.range 4).map (fun j => pj_[([421, 422, 423, 424] : List Nat).getD j 0]?) = (List.range 4).map (fun j => some (Cond.eq (.elem (.field (kt_ 14) "java/lang/String" "value" "[B") (.int (Int32.ofNat j))) (.int ((kb_ 14).getD j 0)))) := by rfl
theorem am_te14 : ∀ j, j < 4 → (Cond.eq (.elem (.field (kt_ 14) "java/lang/String" "value" "[B") (.int (Int32.ofNat j))) (.int ((kb_ 14).getD j 0))) ∈ flatC (Jvm.Cond.and given_1 narrow_1) := fun j hj => List.mem_of_getElem? (am_map am_te14_r (List.mem_range.mpr hj))
set_option maxRecDepth 100000 in
theorem am_te15_r : (List.range 5).map (fun j => pj_[([434, 435, 436, 437, 438] : List Nat).getD j 0]?) = (List.range 5).map (fun j => some (Cond.eq (.elem (.field (kt_ 15) "java/lang/String" "value" "[B") (.int (Int32.ofNat j))) (.int ((kb_ 15).getD j 0)))) := by rfl
theorem am_te15 : ∀ j, j < 5 → (Cond.eq (.elem (.field (kt_ 15) "java/lang/String" "value" "[B") (.int (Int32.ofNat j))) (.int ((kb_ 15).getD j 0))) ∈ flatC (Jvm.Cond.and given_1 narrow_1) := fun j hj => List.mem_of_getElem? (am_map am_te15_r (List.mem_range.mpr hj))
set_option maxRecDepth 100000 in
theorem am_te16_r : (List.range 7).map (fun j => pj_[([450, 451, 452, 453, 454, 455, 456] : List Nat).getD j 0]?) = (List.range 7).map (fun j => some (Cond.eq (.elem (.field (kt_ 16) "java/lang/String" "value" "[B") (.int (Int32.ofNat j))) (.int ((kb_ 16).getD j 0)))) := by rfl
theorem am_te16 : ∀ j, j < 7 → (Cond.eq (.elem (.field (kt_ 16) "java/lang/String" "value" "[B") (.int (Int32.ofNat j))) (.int ((kb_ 16).getD j 0))) ∈ flatC (Jvm.Cond.and given_1 narrow_1) := fun j hj => List.mem_of_getElem? (am_map am_te16_r (List.mem_range.mpr hj))
set_option maxRecDepth 100000 in
theorem am_te17_r : (List.range 4).map (fun j => pj_[([461, 462, 463, 464] : List Nat).getD j 0]?) = (List.range 4).map (fun j => some (Cond.eq (.elem (.field (kt_ 17) "java/lang/String" "value" "[B") (.int (Int32.ofNat j))) (.int ((kb_ 17).getD j 0)))) := by rfl
theorem am_te17 : ∀ j, j < 4 → (Cond.eq (.elem (.field (kt_ 17) "java/lang/String" "value" "[B") (.int (Int32.ofNat j))) (.int ((kb_ 17).getD j 0))) ∈ flatC (Jvm.Cond.and given_1 narrow_1) := fun j hj => List.mem_of_getElem? (am_map am_te17_r (List.mem_range.mpr hj))
set_option maxRecDepth 100000 in
theorem am_te18_r : (List.range 6).map (fun j => pj_[([469, 470, 471, 472, 473, 474] : List Nat).getD j 0]?) = (List.range 6).map (fun j => some (Cond.eq (.elem (.field (kt_ 18) "java/lang/String" "value" "[B") (.int (Int32.ofNat j))) (.int ((kb_ 18).getD j 0)))) := by rfl
theorem am_te18 : ∀ j, j < 6 → (Cond.eq (.elem (.field (kt_ 18) "java/lang/String" "value" "[B") (.int (Int32.ofNat j))) (.int ((kb_ 18).getD j 0))) ∈ flatC (Jvm.Cond.and given_1 narrow_1) := fun j hj => List.mem_of_getElem? (am_map am_te18_r (List.mem_range.mpr hj))
set_option maxRecDepth 100000 in
theorem am_te19_r : (List.range 6).map (fun j => pj_[([479, 480, 481, 482, 483, 484] : List Nat).getD j 0]?) = (List.range 6).map (fun j => some (Cond.eq (.elem (.field (kt_ 19) "java/lang/String" "value" "[B") (.int (Int32.ofNat j))) (.int ((kb_ 19).getD j 0)))) := by rfl
theorem am_te19 : ∀ j, j < 6 → (Cond.eq (.elem (.field (kt_ 19) "java/lang/String" "value" "[B") (.int (Int32.ofNat j))) (.int ((kb_ 19).getD j 0))) ∈ flatC (Jvm.Cond.and given_1 narrow_1) := fun j hj => List.mem_of_getElem? (am_map am_te19_r (List.mem_range.mpr hj))
set_option maxRecDepth 100000 in
theorem am_te20_r : (List.range 6).map (fun j => pj_[([368, 369, 370, 371, 372, 373] : List Nat).getD j 0]?) = (List.range 6).map (fun j => some (Cond.eq (.elem (.field (kt_ 20) "java/lang/String" "value" "[B") (.int (Int32.ofNat j))) (.int ((kb_ 20).getD j 0)))) := by rfl
theorem am_te20 : ∀ j, j < 6 → (Cond.eq (.elem (.field (kt_ 20) "java/lang/String" "value" "[B") (.int (Int32.ofNat j))) (.int ((kb_ 20).getD j 0))) ∈ flatC (Jvm.Cond.and given_1 narrow_1) := fun j hj => List.mem_of_getElem? (am_map am_te20_r (List.mem_range.mpr hj))
set_option maxRecDepth 100000 in
theorem am_te21_r : (List.range 7).map (fun j => pj_[([383, 384, 385, 386, 387, 388, 389] : List Nat).getD j 0]?) = (List.range 7).map (fun j => some (Cond.eq (.elem (.field (kt_ 21) "java/lang/String" "value" "[B") (.int (Int32.ofNat j))) (.int ((kb_ 21).getD j 0)))) := by rfl
theorem am_te21 : ∀ j, j < 7 → (Cond.eq (.elem (.field (kt_ 21) "java/lang/String" "value" "[B") (.int (Int32.ofNat j))) (.int ((kb_ 21).getD j 0))) ∈ flatC (Jvm.Cond.and given_1 narrow_1) := fun j hj => List.mem_of_getElem? (am_map am_te21_r (List.mem_range.mpr hj))
set_option maxRecDepth 100000 in
theorem am_te22_r : (List.range 7).map (fun j => pj_[([489, 490, 491, 492, 493, 494, 495] : List Nat).getD j 0]?) = (List.range 7).map (fun j => some (Cond.eq (.elem (.field (kt_ 22) "java/lang/String" "value" "[B") (.int (Int32.ofNat j))) (.int ((kb_ 22).getD j 0)))) := by rfl
theorem am_te22 : ∀ j, j < 7 → (Cond.eq (.elem (.field (kt_ 22) "java/lang/String" "value" "[B") (.int (Int32.ofNat j))) (.int ((kb_ 22).getD j 0))) ∈ flatC (Jvm.Cond.and given_1 narrow_1) := fun j hj => List.mem_of_getElem? (am_map am_te22_r (List.mem_range.mpr hj))
set_option maxRecDepth 100000 in
theorem am_te23_r : (List.range 4).map (fun j => pj_[([500, 501, 502, 503] : List Nat).getD j 0]?) = (List.range 4).map (fun j => some (Cond.eq (.elem (.field (kt_ 23) "java/lang/String" "value" "[B") (.int (Int32.ofNat j))) (.int ((kb_ 23).getD j 0)))) := by rfl
theorem am_te23 : ∀ j, j < 4 → (Cond.eq (.elem (.field (kt_ 23) "java/lang/String" "value" "[B") (.int (Int32.ofNat j))) (.int ((kb_ 23).getD j 0))) ∈ flatC (Jvm.Cond.and given_1 narrow_1) := fun j hj => List.mem_of_getElem? (am_map am_te23_r (List.mem_range.mpr hj))
set_option maxRecDepth 100000 in
theorem am_te24_r : (List.range 7).map (fun j => pj_[([508, 509, 510, 511, 512, 513, 514] : List Nat).getD j 0]?) = (List.range 7).map (fun j => some (Cond.eq (.elem (.field (kt_ 24) "java/lang/String" "value" "[B") (.int (Int32.ofNat j))) (.int ((kb_ 24).getD j 0)))) := by rfl
theorem am_te24 : ∀ j, j < 7 → (Cond.eq (.elem (.field (kt_ 24) "java/lang/String" "value" "[B") (.int (Int32.ofNat j))) (.int ((kb_ 24).getD j 0))) ∈ flatC (Jvm.Cond.and given_1 narrow_1) := fun j hj => List.mem_of_getElem? (am_map am_te24_r (List.mem_range.mpr hj))
set_option maxRecDepth 100000 in
theorem am_te25_r : (List.range 8).map (fun j => pj_[([519, 520, 521, 522, 523, 524, 525, 526] : List Nat).getD j 0]?) = (List.range 8).map (fun j => some (Cond.eq (.elem (.field (kt_ 25) "java/lang/String" "value" "[B") (.int (Int32.ofNat j))) (.int ((kb_ 25).getD j 0)))) := by rfl
theorem am_te25 : ∀ j, j < 8 → (Cond.eq (.elem (.field (kt_ 25) "java/lang/String" "value" "[B") (.int (Int32.ofNat j))) (.int ((kb_ 25).getD j 0))) ∈ flatC (Jvm.Cond.and given_1 narrow_1) := fun j hj => List.mem_of_getElem? (am_map am_te25_r (List.mem_range.mpr hj))
set_option maxRecDepth 100000 in
theorem am_te26_r : (List.range 6).map (fun j => pj_[([531, 532, 533, 534, 535, 536] : List Nat).getD j 0]?) = (List.range 6).map (fun j => some (Cond.eq (.elem (.field (kt_ 26) "java/lang/String" "value" "[B") (.int (Int32.ofNat j))) (.int ((kb_ 26).getD j 0)))) := by rfl
theorem am_te26 : ∀ j, j < 6 → (Cond.eq (.elem (.field (kt_ 26) "java/lang/String" "value" "[B") (.int (Int32.ofNat j))) (.int ((kb_ 26).getD j 0))) ∈ flatC (Jvm.Cond.and given_1 narrow_1) := fun j hj => List.mem_of_getElem? (am_map am_te26_r (List.mem_range.mpr hj))
set_option maxRecDepth 100000 in
theorem am_te27_r : (List.range 4).map (fun j => pj_[([541, 542, 543, 544] : List Nat).getD j 0]?) = (List.range 4).map (fun j => some (Cond.eq (.elem (.field (kt_ 27) "java/lang/String" "value" "[B") (.int (Int32.ofNat j))) (.int ((kb_ 27).getD j 0)))) := by rfl
theorem am_te27 : ∀ j, j < 4 → (Cond.eq (.elem (.field (kt_ 27) "java/lang/String" "value" "[B") (.int (Int32.ofNat j))) (.int ((kb_ 27).getD j 0))) ∈ flatC (Jvm.Cond.and given_1 narrow_1) := fun j hj => List.mem_of_getElem? (am_map am_te27_r (List.mem_range.mpr hj))
theorem am_te : ∀ i, i < 28 → ∀ j, j < (kb_ i).length → (Cond.eq (.elem (.field (kt_ i) "java/lang/String" "value" "[B") (.int (Int32.ofNat j))) (.int ((kb_ i).getD j 0))) ∈ flatC (Jvm.Cond.and given_1 narrow_1) := by
  intro i hi j hj
  match i, hi with
  | 0, _ => exact am_te0 j hj
  | 1, _ => exact am_te1 j hj
  | 2, _ => exact am_te2 j hj
  | 3, _ => exact am_te3 j hj
  | 4, _ => exact am_te4 j hj
  | 5, _ => exact am_te5 j hj
  | 6, _ => exact am_te6 j hj
  | 7, _ => exact am_te7 j hj
  | 8, _ => exact am_te8 j hj
  | 9, _ => exact am_te9 j hj
  | 10, _ => exact am_te10 j hj
  | 11, _ => exact am_te11 j hj
  | 12, _ => exact am_te12 j hj
  | 13, _ => exact am_te13 j hj
  | 14, _ => exact am_te14 j hj
  | 15, _ => exact am_te15 j hj
  | 16, _ => exact am_te16 j hj
  | 17, _ => exact am_te17 j hj
  | 18, _ => exact am_te18 j hj
  | 19, _ => exact am_te19 j hj
  | 20, _ => exact am_te20 j hj
  | 21, _ => exact am_te21 j hj
  | 22, _ => exact am_te22 j hj
  | 23, _ => exact am_te23 j hj
  | 24, _ => exact am_te24 j hj
  | 25, _ => exact am_te25 j hj
  | 26, _ => exact am_te26 j hj
  | 27, _ => exact am_te27 j hj
  | n + 28, h => exact absurd h (by omega)
set_option maxRecDepth 100000 in
theorem am_tg0_r : (List.range 100).map (fun j => pj_[([18, 19, 20, 21, 22, 23, 24, 25, 26, 27, 28, 29, 30, 31, 32, 33, 34, 35, 36, 37, 38, 39, 40, 41, 42, 43, 44, 45, 46, 47, 48, 49, 50, 51, 52, 53, 54, 55, 56, 57, 58, 59, 60, 61, 62, 63, 64, 65, 66, 67, 68, 69, 70, 71, 72, 73, 74, 75, 76, 77, 78, 79, 80, 81, 82, 83, 84, 85, 86, 87, 88, 89, 90, 91, 92, 93, 94, 95, 96, 97, 98, 99, 100, 101, 102, 103, 104, 105, 106, 107, 108, 109, 110, 111, 112, 113, 114, 115, 116, 117] : List Nat).getD j 0]?) = (List.range 100).map (fun j => some (Cond.eq (.elem (.static "java/lang/Integer" "DigitOnes" "[B") (.int (Int32.ofNat j))) (.int ((kb_ 28).getD j 0)))) := by rfl
theorem am_tg0 : ∀ j, j < 100 → (Cond.eq (.elem (.static "java/lang/Integer" "DigitOnes" "[B") (.int (Int32.ofNat j))) (.int ((kb_ 28).getD j 0))) ∈ flatC (Jvm.Cond.and given_1 narrow_1) := fun j hj => List.mem_of_getElem? (am_map am_tg0_r (List.mem_range.mpr hj))
set_option maxRecDepth 100000 in
theorem am_tg1_r : (List.range 100).map (fun j => pj_[([121, 122, 123, 124, 125, 126, 127, 128, 129, 130, 131, 132, 133, 134, 135, 136, 137, 138, 139, 140, 141, 142, 143, 144, 145, 146, 147, 148, 149, 150, 151, 152, 153, 154, 155, 156, 157, 158, 159, 160, 161, 162, 163, 164, 165, 166, 167, 168, 169, 170, 171, 172, 173, 174, 175, 176, 177, 178, 179, 180, 181, 182, 183, 184, 185, 186, 187, 188, 189, 190, 191, 192, 193, 194, 195, 196, 197, 198, 199, 200, 201, 202, 203, 204, 205, 206, 207, 208, 209, 210, 211, 212, 213, 214, 215, 216, 217, 218, 219, 220] : List Nat).getD j 0]?) = (List.range 100).map (fun j => some (Cond.eq (.elem (.static "java/lang/Integer" "DigitTens" "[B") (.int (Int32.ofNat j))) (.int ((kb_ 29).getD j 0)))) := by rfl
theorem am_tg1 : ∀ j, j < 100 → (Cond.eq (.elem (.static "java/lang/Integer" "DigitTens" "[B") (.int (Int32.ofNat j))) (.int ((kb_ 29).getD j 0))) ∈ flatC (Jvm.Cond.and given_1 narrow_1) := fun j hj => List.mem_of_getElem? (am_map am_tg1_r (List.mem_range.mpr hj))
