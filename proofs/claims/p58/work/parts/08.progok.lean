/-! the program's words stand among the tables' words: by their places -/
def am_ch : Nat → List Cond := fun k => match k with
  | 0 => tables_1_1
  | 1 => tables_1_2
  | 2 => tables_1_3
  | 3 => tables_1_4
  | 4 => tables_1_5
  | 5 => tables_1_6
  | 6 => tables_1_7
  | 7 => tables_1_8
  | 8 => k2_sels lw_privs_1
  | 9 => k2_sels lw_privs_2
  | 10 => k2_sels lw_privs_3
  | 99 => am_xs
  | _ => k2_sels lw_privs_4
set_option maxRecDepth 100000 in
theorem am_chin : ∀ (k : Nat) (w : Cond), w ∈ am_ch k → w ∈ am_xs ++ lw_tbl := by
  intro k w h
  unfold am_ch at h
  unfold lw_tbl tables_1 lw_privs k2_sels
  simp only [k2_sels] at h
  simp only [List.map_append, List.mem_append]
  split at h <;> simp only [h, true_or, or_true]
def am_pw (p : Nat × Nat) : Option Cond := (am_ch p.1)[p.2]?
theorem am_pw_in {p : Nat × Nat} {w : Cond} (h : am_pw p = some w) (ho : am_ow w = true) : w ∈ am_GW := List.mem_filter.mpr ⟨am_chin _ _ (List.mem_of_getElem? h), ho⟩
theorem am_map {α : Type} {l : List α} {f g : α → Option Cond} (h : l.map f = l.map g) {q : α} (hq : q ∈ l) : f q = g q := by
  induction l with
  | nil => cases hq
  | cons a r ih =>
    simp only [List.map_cons, List.cons.injEq] at h
    rcases List.mem_cons.mp hq with rfl | hq
    · exact h.1
    · exact ih h.2 hq
def am_ho (own : Nat) : String := if own < 11 then "RoyaltyOffice" else "RoyaltyOfficeLaw"
def am_ML_o0_0 : List ((Nat × Nat × Nat) × (Nat × Nat)) := [((0, 30, 126), (1, 42)), ((0, 50, 367), (1, 237)), ((0, 56, 368), (2, 0)), ((0, 59, 130), (2, 3)), ((0, 68, 131), (5, 205)), ((0, 72, 5), (2, 124)), ((0, 76, 6), (2, 128)), ((0, 79, 11), (2, 179)), ((0, 83, 4), (2, 183)), ((0, 87, 128), (2, 187)), ((0, 94, 127), (2, 188)), ((0, 98, 3), (6, 171)), ((0, 101, 16), (2, 222)), ((0, 105, 18), (2, 231)), ((0, 108, 17), (2, 223)), ((0, 117, 23), (5, 225)), ((0, 120, 24), (5, 226))]
set_option maxRecDepth 100000 in
theorem am_ML_o0_0_ok : am_ML_o0_0.map (fun q => am_pw q.2) = am_ML_o0_0.map (fun q => some (Cond.methodLink (am_cn q.1.1) q.1.2.1 (am_mn q.1.2.2))) := by rfl
def am_ML_o0 : List ((Nat × Nat × Nat) × (Nat × Nat)) := am_ML_o0_0
theorem am_ML_o0_ok : am_ML_o0.map (fun q => am_pw q.2) = am_ML_o0.map (fun q => some (Cond.methodLink (am_cn q.1.1) q.1.2.1 (am_mn q.1.2.2))) := by
  simp only [am_ML_o0, List.map_append, am_ML_o0_0_ok]
def am_ML_o1_0 : List ((Nat × Nat × Nat) × (Nat × Nat)) := [((1, 32, 126), (0, 220)), ((1, 54, 25), (5, 221)), ((1, 60, 368), (5, 227)), ((1, 70, 73), (5, 228)), ((1, 74, 127), (5, 229)), ((1, 77, 34), (5, 230)), ((1, 86, 36), (5, 238)), ((1, 89, 37), (6, 8)), ((1, 92, 16), (6, 2)), ((1, 96, 18), (6, 3)), ((1, 102, 17), (6, 7)), ((1, 105, 33), (6, 12)), ((1, 109, 26), (6, 15)), ((1, 112, 28), (6, 19)), ((1, 116, 27), (6, 23)), ((1, 119, 38), (6, 27)), ((1, 123, 129), (6, 31)), ((1, 127, 40), (6, 39)), ((1, 130, 128), (6, 43)), ((1, 133, 43), (7, 97))]
set_option maxRecDepth 100000 in
theorem am_ML_o1_0_ok : am_ML_o1_0.map (fun q => am_pw q.2) = am_ML_o1_0.map (fun q => some (Cond.methodLink (am_cn q.1.1) q.1.2.1 (am_mn q.1.2.2))) := by rfl
def am_ML_o1 : List ((Nat × Nat × Nat) × (Nat × Nat)) := am_ML_o1_0
theorem am_ML_o1_ok : am_ML_o1.map (fun q => am_pw q.2) = am_ML_o1.map (fun q => some (Cond.methodLink (am_cn q.1.1) q.1.2.1 (am_mn q.1.2.2))) := by
  simp only [am_ML_o1, List.map_append, am_ML_o1_0_ok]
def am_ML_o2_0 : List ((Nat × Nat × Nat) × (Nat × Nat)) := [((2, 34, 367), (2, 13)), ((2, 40, 368), (2, 14)), ((2, 53, 50), (6, 56)), ((2, 57, 51), (6, 63)), ((2, 61, 63), (6, 192)), ((2, 65, 55), (6, 199)), ((2, 69, 65), (6, 202)), ((2, 73, 57), (6, 206)), ((2, 76, 59), (6, 210)), ((2, 86, 49), (6, 196))]
set_option maxRecDepth 100000 in
theorem am_ML_o2_0_ok : am_ML_o2_0.map (fun q => am_pw q.2) = am_ML_o2_0.map (fun q => some (Cond.methodLink (am_cn q.1.1) q.1.2.1 (am_mn q.1.2.2))) := by rfl
def am_ML_o2 : List ((Nat × Nat × Nat) × (Nat × Nat)) := am_ML_o2_0
theorem am_ML_o2_ok : am_ML_o2.map (fun q => am_pw q.2) = am_ML_o2.map (fun q => some (Cond.methodLink (am_cn q.1.1) q.1.2.1 (am_mn q.1.2.2))) := by
  simp only [am_ML_o2, List.map_append, am_ML_o2_0_ok]
def am_ML_o3_0 : List ((Nat × Nat × Nat) × (Nat × Nat)) := [((3, 20, 126), (1, 81)), ((3, 44, 1), (1, 233)), ((3, 47, 130), (2, 8)), ((3, 48, 47), (2, 9)), ((3, 49, 2), (5, 200)), ((3, 53, 131), (5, 211)), ((3, 56, 48), (5, 212)), ((3, 59, 127), (3, 24)), ((3, 66, 74), (3, 20)), ((3, 70, 73), (3, 25)), ((3, 74, 75), (3, 16)), ((3, 83, 80), (6, 133)), ((3, 101, 63), (7, 133)), ((3, 105, 14), (6, 187)), ((3, 108, 55), (7, 134)), ((3, 116, 56), (6, 188)), ((3, 120, 58), (6, 213)), ((3, 124, 41), (6, 48)), ((3, 129, 52), (6, 52)), ((3, 133, 53), (6, 59)), ((3, 137, 43), (6, 67)), ((3, 140, 54), (6, 71)), ((3, 143, 42), (6, 75)), ((3, 146, 128), (6, 79))]
set_option maxRecDepth 100000 in
theorem am_ML_o3_0_ok : am_ML_o3_0.map (fun q => am_pw q.2) = am_ML_o3_0.map (fun q => some (Cond.methodLink (am_cn q.1.1) q.1.2.1 (am_mn q.1.2.2))) := by rfl
def am_ML_o3 : List ((Nat × Nat × Nat) × (Nat × Nat)) := am_ML_o3_0
theorem am_ML_o3_ok : am_ML_o3.map (fun q => am_pw q.2) = am_ML_o3.map (fun q => some (Cond.methodLink (am_cn q.1.1) q.1.2.1 (am_mn q.1.2.2))) := by
  simp only [am_ML_o3, List.map_append, am_ML_o3_0_ok]
def am_ML_o5_0 : List ((Nat × Nat × Nat) × (Nat × Nat)) := [((5, 11, 126), (0, 187))]
set_option maxRecDepth 100000 in
theorem am_ML_o5_0_ok : am_ML_o5_0.map (fun q => am_pw q.2) = am_ML_o5_0.map (fun q => some (Cond.methodLink (am_cn q.1.1) q.1.2.1 (am_mn q.1.2.2))) := by rfl
def am_ML_o5 : List ((Nat × Nat × Nat) × (Nat × Nat)) := am_ML_o5_0
theorem am_ML_o5_ok : am_ML_o5.map (fun q => am_pw q.2) = am_ML_o5.map (fun q => some (Cond.methodLink (am_cn q.1.1) q.1.2.1 (am_mn q.1.2.2))) := by
  simp only [am_ML_o5, List.map_append, am_ML_o5_0_ok]
def am_ML_o7_0 : List ((Nat × Nat × Nat) × (Nat × Nat)) := [((7, 11, 126), (0, 145)), ((7, 35, 142), (2, 19)), ((7, 41, 110), (2, 23)), ((7, 45, 111), (2, 27)), ((7, 48, 112), (2, 146)), ((7, 51, 113), (2, 189)), ((7, 54, 114), (2, 202)), ((7, 57, 115), (2, 235)), ((7, 60, 116), (3, 4)), ((7, 63, 117), (3, 30)), ((7, 66, 149), (2, 35)), ((7, 75, 118), (2, 31)), ((7, 78, 119), (2, 106)), ((7, 82, 143), (2, 102)), ((7, 86, 145), (2, 133)), ((7, 90, 148), (2, 138)), ((7, 93, 8), (2, 142)), ((7, 100, 123), (2, 150)), ((7, 103, 125), (2, 171)), ((7, 106, 9), (2, 175)), ((7, 110, 144), (2, 154)), ((7, 113, 121), (2, 193)), ((7, 116, 10), (2, 198)), ((7, 120, 122), (2, 206)), ((7, 124, 20), (2, 218)), ((7, 128, 19), (2, 227)), ((7, 131, 23), (2, 214)), ((7, 134, 24), (2, 239)), ((7, 137, 11), (3, 3)), ((7, 147, 120), (3, 8)), ((7, 150, 76), (3, 12)), ((7, 154, 128), (2, 167)), ((7, 161, 146), (2, 110)), ((7, 164, 7), (2, 120)), ((7, 168, 5), (2, 162)), ((7, 172, 6), (2, 197)), ((7, 175, 16), (2, 210)), ((7, 178, 124), (2, 158)), ((7, 181, 127), (2, 163))]
set_option maxRecDepth 100000 in
theorem am_ML_o7_0_ok : am_ML_o7_0.map (fun q => am_pw q.2) = am_ML_o7_0.map (fun q => some (Cond.methodLink (am_cn q.1.1) q.1.2.1 (am_mn q.1.2.2))) := by rfl
def am_ML_o7 : List ((Nat × Nat × Nat) × (Nat × Nat)) := am_ML_o7_0
theorem am_ML_o7_ok : am_ML_o7.map (fun q => am_pw q.2) = am_ML_o7.map (fun q => some (Cond.methodLink (am_cn q.1.1) q.1.2.1 (am_mn q.1.2.2))) := by
  simp only [am_ML_o7, List.map_append, am_ML_o7_0_ok]
def am_ML_o8_0 : List ((Nat × Nat × Nat) × (Nat × Nat)) := [((8, 26, 368), (2, 7))]
set_option maxRecDepth 100000 in
theorem am_ML_o8_0_ok : am_ML_o8_0.map (fun q => am_pw q.2) = am_ML_o8_0.map (fun q => some (Cond.methodLink (am_cn q.1.1) q.1.2.1 (am_mn q.1.2.2))) := by rfl
def am_ML_o8 : List ((Nat × Nat × Nat) × (Nat × Nat)) := am_ML_o8_0
theorem am_ML_o8_ok : am_ML_o8.map (fun q => am_pw q.2) = am_ML_o8.map (fun q => some (Cond.methodLink (am_cn q.1.1) q.1.2.1 (am_mn q.1.2.2))) := by
  simp only [am_ML_o8, List.map_append, am_ML_o8_0_ok]
def am_ML_o9_0 : List ((Nat × Nat × Nat) × (Nat × Nat)) := [((9, 31, 362), (0, 52)), ((9, 37, 363), (0, 62)), ((9, 41, 133), (0, 100)), ((9, 65, 135), (1, 202)), ((9, 69, 139), (1, 217)), ((9, 73, 140), (1, 206)), ((9, 77, 136), (1, 209)), ((9, 80, 141), (1, 221)), ((9, 83, 137), (1, 224)), ((9, 86, 138), (1, 213)), ((9, 92, 142), (2, 114)), ((9, 95, 149), (2, 115)), ((9, 99, 143), (2, 137)), ((9, 102, 147), (2, 116))]
set_option maxRecDepth 100000 in
theorem am_ML_o9_0_ok : am_ML_o9_0.map (fun q => am_pw q.2) = am_ML_o9_0.map (fun q => some (Cond.methodLink (am_cn q.1.1) q.1.2.1 (am_mn q.1.2.2))) := by rfl
def am_ML_o9 : List ((Nat × Nat × Nat) × (Nat × Nat)) := am_ML_o9_0
theorem am_ML_o9_ok : am_ML_o9.map (fun q => am_pw q.2) = am_ML_o9.map (fun q => some (Cond.methodLink (am_cn q.1.1) q.1.2.1 (am_mn q.1.2.2))) := by
  simp only [am_ML_o9, List.map_append, am_ML_o9_0_ok]
def am_ML_o10_0 : List ((Nat × Nat × Nat) × (Nat × Nat)) := [((10, 15, 132), (0, 47)), ((10, 22, 108), (0, 139)), ((10, 38, 102), (0, 200)), ((10, 83, 152), (5, 139)), ((10, 90, 157), (1, 191)), ((10, 93, 71), (1, 229)), ((10, 96, 109), (2, 15)), ((10, 100, 158), (3, 35)), ((10, 115, 72), (5, 196)), ((10, 119, 211), (5, 192)), ((10, 146, 134), (1, 195)), ((10, 175, 60), (7, 15)), ((10, 184, 212), (6, 159)), ((10, 187, 14), (6, 167)), ((10, 191, 213), (5, 163)), ((10, 201, 215), (5, 189)), ((10, 209, 214), (5, 167)), ((10, 235, 73), (6, 144)), ((10, 239, 127), (6, 145)), ((10, 245, 77), (6, 129)), ((10, 257, 63), (7, 60)), ((10, 261, 64), (7, 52)), ((10, 265, 66), (7, 65)), ((10, 281, 84), (7, 129)), ((10, 287, 61), (7, 144)), ((10, 294, 65), (7, 139)), ((10, 297, 217), (5, 185)), ((10, 300, 32), (5, 217)), ((10, 304, 35), (5, 233)), ((10, 307, 41), (7, 102)), ((10, 309, 199), (7, 81)), ((10, 313, 39), (6, 35)), ((10, 316, 45), (7, 93)), ((10, 328, 44), (7, 85)), ((10, 331, 88), (6, 44)), ((10, 335, 85), (6, 109)), ((10, 338, 86), (6, 150)), ((10, 341, 128), (6, 154)), ((10, 345, 218), (6, 163)), ((10, 348, 15), (6, 175)), ((10, 351, 87), (6, 183))]
set_option maxRecDepth 100000 in
theorem am_ML_o10_0_ok : am_ML_o10_0.map (fun q => am_pw q.2) = am_ML_o10_0.map (fun q => some (Cond.methodLink (am_cn q.1.1) q.1.2.1 (am_mn q.1.2.2))) := by rfl
def am_ML_o10 : List ((Nat × Nat × Nat) × (Nat × Nat)) := am_ML_o10_0
theorem am_ML_o10_ok : am_ML_o10.map (fun q => am_pw q.2) = am_ML_o10.map (fun q => some (Cond.methodLink (am_cn q.1.1) q.1.2.1 (am_mn q.1.2.2))) := by
  simp only [am_ML_o10, List.map_append, am_ML_o10_0_ok]
def am_ML_o11_0 : List ((Nat × Nat × Nat) × (Nat × Nat)) := [((11, 9, 230), (4, 174))]
set_option maxRecDepth 100000 in
theorem am_ML_o11_0_ok : am_ML_o11_0.map (fun q => am_pw q.2) = am_ML_o11_0.map (fun q => some (Cond.methodLink (am_cn q.1.1) q.1.2.1 (am_mn q.1.2.2))) := by rfl
def am_ML_o11 : List ((Nat × Nat × Nat) × (Nat × Nat)) := am_ML_o11_0
theorem am_ML_o11_ok : am_ML_o11.map (fun q => am_pw q.2) = am_ML_o11.map (fun q => some (Cond.methodLink (am_cn q.1.1) q.1.2.1 (am_mn q.1.2.2))) := by
  simp only [am_ML_o11, List.map_append, am_ML_o11_0_ok]
def am_ML_o12_0 : List ((Nat × Nat × Nat) × (Nat × Nat)) := [((12, 9, 230), (3, 50)), ((12, 76, 221), (3, 190)), ((12, 82, 220), (3, 149)), ((12, 85, 222), (4, 51)), ((12, 88, 224), (4, 64)), ((12, 103, 276), (3, 177)), ((12, 111, 278), (4, 47)), ((12, 115, 223), (4, 122)), ((12, 150, 279), (5, 4)), ((12, 157, 280), (5, 11)), ((12, 164, 277), (4, 147)), ((12, 168, 283), (5, 17)), ((12, 172, 284), (5, 91)), ((12, 187, 275), (3, 44)), ((12, 192, 282), (4, 153)), ((12, 194, 286), (5, 97)), ((12, 197, 287), (5, 108)), ((12, 200, 281), (5, 101)), ((12, 235, 288), (6, 84)), ((12, 239, 274), (6, 92)), ((12, 243, 289), (6, 88))]
set_option maxRecDepth 100000 in
theorem am_ML_o12_0_ok : am_ML_o12_0.map (fun q => am_pw q.2) = am_ML_o12_0.map (fun q => some (Cond.methodLink (am_cn q.1.1) q.1.2.1 (am_mn q.1.2.2))) := by rfl
def am_ML_o12 : List ((Nat × Nat × Nat) × (Nat × Nat)) := am_ML_o12_0
theorem am_ML_o12_ok : am_ML_o12.map (fun q => am_pw q.2) = am_ML_o12.map (fun q => some (Cond.methodLink (am_cn q.1.1) q.1.2.1 (am_mn q.1.2.2))) := by
  simp only [am_ML_o12, List.map_append, am_ML_o12_0_ok]
def am_ML_o13_0 : List ((Nat × Nat × Nat) × (Nat × Nat)) := [((13, 1, 256), (3, 152)), ((13, 29, 260), (3, 194)), ((13, 50, 261), (4, 55)), ((13, 53, 262), (4, 126)), ((13, 137, 226), (4, 70)), ((13, 343, 257), (4, 88))]
set_option maxRecDepth 100000 in
theorem am_ML_o13_0_ok : am_ML_o13_0.map (fun q => am_pw q.2) = am_ML_o13_0.map (fun q => some (Cond.methodLink (am_cn q.1.1) q.1.2.1 (am_mn q.1.2.2))) := by rfl
def am_ML_o13 : List ((Nat × Nat × Nat) × (Nat × Nat)) := am_ML_o13_0
theorem am_ML_o13_ok : am_ML_o13.map (fun q => am_pw q.2) = am_ML_o13.map (fun q => some (Cond.methodLink (am_cn q.1.1) q.1.2.1 (am_mn q.1.2.2))) := by
  simp only [am_ML_o13, List.map_append, am_ML_o13_0_ok]
def am_ML_o14_0 : List ((Nat × Nat × Nat) × (Nat × Nat)) := [((14, 54, 252), (4, 91)), ((14, 335, 364), (0, 56)), ((14, 489, 229), (4, 73)), ((14, 492, 365), (0, 66)), ((14, 495, 366), (0, 70)), ((14, 552, 263), (4, 77)), ((14, 1047, 264), (4, 90))]
set_option maxRecDepth 100000 in
theorem am_ML_o14_0_ok : am_ML_o14_0.map (fun q => am_pw q.2) = am_ML_o14_0.map (fun q => some (Cond.methodLink (am_cn q.1.1) q.1.2.1 (am_mn q.1.2.2))) := by rfl
def am_ML_o14 : List ((Nat × Nat × Nat) × (Nat × Nat)) := am_ML_o14_0
theorem am_ML_o14_ok : am_ML_o14.map (fun q => am_pw q.2) = am_ML_o14.map (fun q => some (Cond.methodLink (am_cn q.1.1) q.1.2.1 (am_mn q.1.2.2))) := by
  simp only [am_ML_o14, List.map_append, am_ML_o14_0_ok]
def am_ML_o15_0 : List ((Nat × Nat × Nat) × (Nat × Nat)) := [((15, 1, 271), (3, 53)), ((15, 66, 248), (4, 208)), ((15, 69, 231), (4, 203)), ((15, 73, 269), (4, 207)), ((15, 118, 270), (5, 30)), ((15, 123, 235), (5, 34)), ((15, 129, 232), (4, 199)), ((15, 131, 237), (4, 195)), ((15, 135, 242), (6, 230)), ((15, 144, 241), (7, 4)), ((15, 269, 244), (5, 49))]
set_option maxRecDepth 100000 in
theorem am_ML_o15_0_ok : am_ML_o15_0.map (fun q => am_pw q.2) = am_ML_o15_0.map (fun q => some (Cond.methodLink (am_cn q.1.1) q.1.2.1 (am_mn q.1.2.2))) := by rfl
def am_ML_o15 : List ((Nat × Nat × Nat) × (Nat × Nat)) := am_ML_o15_0
theorem am_ML_o15_ok : am_ML_o15.map (fun q => am_pw q.2) = am_ML_o15.map (fun q => some (Cond.methodLink (am_cn q.1.1) q.1.2.1 (am_mn q.1.2.2))) := by
  simp only [am_ML_o15, List.map_append, am_ML_o15_0_ok]
def am_ML_o16_0 : List ((Nat × Nat × Nat) × (Nat × Nat)) := [((16, 31, 247), (5, 85))]
set_option maxRecDepth 100000 in
theorem am_ML_o16_0_ok : am_ML_o16_0.map (fun q => am_pw q.2) = am_ML_o16_0.map (fun q => some (Cond.methodLink (am_cn q.1.1) q.1.2.1 (am_mn q.1.2.2))) := by rfl
def am_ML_o16 : List ((Nat × Nat × Nat) × (Nat × Nat)) := am_ML_o16_0
theorem am_ML_o16_ok : am_ML_o16.map (fun q => am_pw q.2) = am_ML_o16.map (fun q => some (Cond.methodLink (am_cn q.1.1) q.1.2.1 (am_mn q.1.2.2))) := by
  simp only [am_ML_o16, List.map_append, am_ML_o16_0_ok]
def am_ML_o17_0 : List ((Nat × Nat × Nat) × (Nat × Nat)) := [((17, 8, 292), (3, 184)), ((17, 15, 362), (5, 118)), ((17, 21, 363), (5, 119)), ((17, 25, 151), (5, 120)), ((17, 31, 227), (5, 143)), ((17, 35, 153), (5, 147)), ((17, 39, 162), (7, 11)), ((17, 60, 187), (7, 114)), ((17, 68, 179), (7, 56)), ((17, 75, 180), (7, 48)), ((17, 82, 163), (7, 118)), ((17, 91, 176), (7, 69)), ((17, 103, 172), (6, 140)), ((17, 106, 293), (5, 156)), ((17, 113, 200), (5, 159)), ((17, 116, 290), (6, 80)), ((17, 117, 201), (6, 105)), ((17, 121, 174), (6, 125)), ((17, 129, 202), (6, 146)), ((17, 132, 203), (6, 155)), ((17, 135, 204), (6, 179)), ((17, 139, 291), (6, 217)), ((17, 140, 297), (7, 8)), ((17, 150, 220), (7, 23)), ((17, 153, 221), (7, 25)), ((17, 157, 278), (7, 26)), ((17, 163, 223), (7, 28)), ((17, 172, 224), (7, 32)), ((17, 176, 294), (5, 115)), ((17, 180, 155), (7, 33)), ((17, 183, 159), (7, 37)), ((17, 186, 161), (7, 41)), ((17, 189, 285), (3, 39)), ((17, 193, 150), (0, 39)), ((17, 198, 154), (1, 187)), ((17, 201, 296), (5, 153)), ((17, 205, 298), (7, 45)), ((17, 209, 299), (7, 73)), ((17, 212, 300), (7, 122)), ((17, 215, 181), (7, 61)), ((17, 219, 193), (7, 77)), ((17, 223, 194), (7, 89)), ((17, 226, 192), (7, 98)), ((17, 229, 188), (7, 103)), ((17, 232, 208), (7, 107)), ((17, 235, 295), (7, 111)), ((17, 238, 186), (7, 125)), ((17, 241, 191), (7, 135)), ((17, 244, 189), (7, 140))]
set_option maxRecDepth 100000 in
theorem am_ML_o17_0_ok : am_ML_o17_0.map (fun q => am_pw q.2) = am_ML_o17_0.map (fun q => some (Cond.methodLink (am_cn q.1.1) q.1.2.1 (am_mn q.1.2.2))) := by rfl
def am_ML_o17 : List ((Nat × Nat × Nat) × (Nat × Nat)) := am_ML_o17_0
theorem am_ML_o17_ok : am_ML_o17.map (fun q => am_pw q.2) = am_ML_o17.map (fun q => some (Cond.methodLink (am_cn q.1.1) q.1.2.1 (am_mn q.1.2.2))) := by
  simp only [am_ML_o17, List.map_append, am_ML_o17_0_ok]
def am_ML_o18_0 : List ((Nat × Nat × Nat) × (Nat × Nat)) := [((18, 300, 249), (4, 235)), ((18, 339, 253), (4, 94)), ((18, 343, 251), (4, 97))]
set_option maxRecDepth 100000 in
theorem am_ML_o18_0_ok : am_ML_o18_0.map (fun q => am_pw q.2) = am_ML_o18_0.map (fun q => some (Cond.methodLink (am_cn q.1.1) q.1.2.1 (am_mn q.1.2.2))) := by rfl
def am_ML_o18 : List ((Nat × Nat × Nat) × (Nat × Nat)) := am_ML_o18_0
theorem am_ML_o18_ok : am_ML_o18.map (fun q => am_pw q.2) = am_ML_o18.map (fun q => some (Cond.methodLink (am_cn q.1.1) q.1.2.1 (am_mn q.1.2.2))) := by
  simp only [am_ML_o18, List.map_append, am_ML_o18_0_ok]
def am_ML_o21_0 : List ((Nat × Nat × Nat) × (Nat × Nat)) := [((21, 32, 362), (4, 12)), ((21, 40, 364), (4, 21)), ((21, 83, 264), (3, 232)), ((21, 100, 258), (3, 201)), ((21, 104, 259), (3, 205)), ((21, 108, 250), (3, 218)), ((21, 114, 269), (3, 209)), ((21, 191, 254), (4, 58)), ((21, 208, 266), (4, 13)), ((21, 245, 268), (4, 129)), ((21, 248, 267), (4, 132)), ((21, 397, 265), (4, 17)), ((21, 399, 228), (4, 41))]
set_option maxRecDepth 100000 in
theorem am_ML_o21_0_ok : am_ML_o21_0.map (fun q => am_pw q.2) = am_ML_o21_0.map (fun q => some (Cond.methodLink (am_cn q.1.1) q.1.2.1 (am_mn q.1.2.2))) := by rfl
def am_ML_o21 : List ((Nat × Nat × Nat) × (Nat × Nat)) := am_ML_o21_0
theorem am_ML_o21_ok : am_ML_o21.map (fun q => am_pw q.2) = am_ML_o21.map (fun q => some (Cond.methodLink (am_cn q.1.1) q.1.2.1 (am_mn q.1.2.2))) := by
  simp only [am_ML_o21, List.map_append, am_ML_o21_0_ok]
def am_ML_o24_0 : List ((Nat × Nat × Nat) × (Nat × Nat)) := [((24, 105, 255), (5, 33))]
set_option maxRecDepth 100000 in
theorem am_ML_o24_0_ok : am_ML_o24_0.map (fun q => am_pw q.2) = am_ML_o24_0.map (fun q => some (Cond.methodLink (am_cn q.1.1) q.1.2.1 (am_mn q.1.2.2))) := by rfl
def am_ML_o24 : List ((Nat × Nat × Nat) × (Nat × Nat)) := am_ML_o24_0
theorem am_ML_o24_ok : am_ML_o24.map (fun q => am_pw q.2) = am_ML_o24.map (fun q => some (Cond.methodLink (am_cn q.1.1) q.1.2.1 (am_mn q.1.2.2))) := by
  simp only [am_ML_o24, List.map_append, am_ML_o24_0_ok]
def am_ML_o25_0 : List ((Nat × Nat × Nat) × (Nat × Nat)) := [((25, 1, 272), (3, 56))]
set_option maxRecDepth 100000 in
theorem am_ML_o25_0_ok : am_ML_o25_0.map (fun q => am_pw q.2) = am_ML_o25_0.map (fun q => some (Cond.methodLink (am_cn q.1.1) q.1.2.1 (am_mn q.1.2.2))) := by rfl
def am_ML_o25 : List ((Nat × Nat × Nat) × (Nat × Nat)) := am_ML_o25_0
theorem am_ML_o25_ok : am_ML_o25.map (fun q => am_pw q.2) = am_ML_o25.map (fun q => some (Cond.methodLink (am_cn q.1.1) q.1.2.1 (am_mn q.1.2.2))) := by
  simp only [am_ML_o25, List.map_append, am_ML_o25_0_ok]
def am_MLo : Nat → List ((Nat × Nat × Nat) × (Nat × Nat)) := fun k => match k with
  | 0 => am_ML_o0
  | 1 => am_ML_o1
  | 2 => am_ML_o2
  | 3 => am_ML_o3
  | 5 => am_ML_o5
  | 7 => am_ML_o7
  | 8 => am_ML_o8
  | 9 => am_ML_o9
  | 10 => am_ML_o10
  | 11 => am_ML_o11
  | 12 => am_ML_o12
  | 13 => am_ML_o13
  | 14 => am_ML_o14
  | 15 => am_ML_o15
  | 16 => am_ML_o16
  | 17 => am_ML_o17
  | 18 => am_ML_o18
  | 21 => am_ML_o21
  | 24 => am_ML_o24
  | 25 => am_ML_o25
  | _ => []
theorem am_MLo_ok : ∀ k, (am_MLo k).map (fun q => am_pw q.2) = (am_MLo k).map (fun q => some (Cond.methodLink (am_cn q.1.1) q.1.2.1 (am_mn q.1.2.2))) := by
  intro k
  unfold am_MLo
  split
  · exact am_ML_o0_ok
  · exact am_ML_o1_ok
  · exact am_ML_o2_ok
  · exact am_ML_o3_ok
  · exact am_ML_o5_ok
  · exact am_ML_o7_ok
  · exact am_ML_o8_ok
  · exact am_ML_o9_ok
  · exact am_ML_o10_ok
  · exact am_ML_o11_ok
  · exact am_ML_o12_ok
  · exact am_ML_o13_ok
  · exact am_ML_o14_ok
  · exact am_ML_o15_ok
  · exact am_ML_o16_ok
  · exact am_ML_o17_ok
  · exact am_ML_o18_ok
  · exact am_ML_o21_ok
  · exact am_ML_o24_ok
  · exact am_ML_o25_ok
  · rfl
def am_MN_o1_0 : List ((Nat × Nat × Nat) × (Nat × Nat)) := [((1, 99, 219), (6, 4))]
set_option maxRecDepth 100000 in
theorem am_MN_o1_0_ok : am_MN_o1_0.map (fun q => am_pw q.2) = am_MN_o1_0.map (fun q => some (Cond.methodLinkNest (am_cn q.1.1) q.1.2.1 (am_mn q.1.2.2) (am_ho q.1.1))) := by rfl
def am_MN_o1 : List ((Nat × Nat × Nat) × (Nat × Nat)) := am_MN_o1_0
theorem am_MN_o1_ok : am_MN_o1.map (fun q => am_pw q.2) = am_MN_o1.map (fun q => some (Cond.methodLinkNest (am_cn q.1.1) q.1.2.1 (am_mn q.1.2.2) (am_ho q.1.1))) := by
  simp only [am_MN_o1, List.map_append, am_MN_o1_0_ok]
def am_MN_o3_0 : List ((Nat × Nat × Nat) × (Nat × Nat)) := [((3, 11, 0), (1, 37)), ((3, 35, 46), (1, 84)), ((3, 112, 216), (6, 113))]
set_option maxRecDepth 100000 in
theorem am_MN_o3_0_ok : am_MN_o3_0.map (fun q => am_pw q.2) = am_MN_o3_0.map (fun q => some (Cond.methodLinkNest (am_cn q.1.1) q.1.2.1 (am_mn q.1.2.2) (am_ho q.1.1))) := by rfl
def am_MN_o3 : List ((Nat × Nat × Nat) × (Nat × Nat)) := am_MN_o3_0
theorem am_MN_o3_ok : am_MN_o3.map (fun q => am_pw q.2) = am_MN_o3.map (fun q => some (Cond.methodLinkNest (am_cn q.1.1) q.1.2.1 (am_mn q.1.2.2) (am_ho q.1.1))) := by
  simp only [am_MN_o3, List.map_append, am_MN_o3_0_ok]
def am_MN_o10_0 : List ((Nat × Nat × Nat) × (Nat × Nat)) := [((10, 31, 96), (0, 182)), ((10, 47, 31), (0, 215)), ((10, 54, 89), (1, 15)), ((10, 65, 70), (1, 31))]
set_option maxRecDepth 100000 in
theorem am_MN_o10_0_ok : am_MN_o10_0.map (fun q => am_pw q.2) = am_MN_o10_0.map (fun q => some (Cond.methodLinkNest (am_cn q.1.1) q.1.2.1 (am_mn q.1.2.2) (am_ho q.1.1))) := by rfl
def am_MN_o10 : List ((Nat × Nat × Nat) × (Nat × Nat)) := am_MN_o10_0
theorem am_MN_o10_ok : am_MN_o10.map (fun q => am_pw q.2) = am_MN_o10.map (fun q => some (Cond.methodLinkNest (am_cn q.1.1) q.1.2.1 (am_mn q.1.2.2) (am_ho q.1.1))) := by
  simp only [am_MN_o10, List.map_append, am_MN_o10_0_ok]
def am_MN_o12_0 : List ((Nat × Nat × Nat) × (Nat × Nat)) := [((12, 63, 293), (3, 181)), ((12, 140, 273), (4, 169))]
set_option maxRecDepth 100000 in
theorem am_MN_o12_0_ok : am_MN_o12_0.map (fun q => am_pw q.2) = am_MN_o12_0.map (fun q => some (Cond.methodLinkNest (am_cn q.1.1) q.1.2.1 (am_mn q.1.2.2) (am_ho q.1.1))) := by rfl
def am_MN_o12 : List ((Nat × Nat × Nat) × (Nat × Nat)) := am_MN_o12_0
theorem am_MN_o12_ok : am_MN_o12.map (fun q => am_pw q.2) = am_MN_o12.map (fun q => some (Cond.methodLinkNest (am_cn q.1.1) q.1.2.1 (am_mn q.1.2.2) (am_ho q.1.1))) := by
  simp only [am_MN_o12, List.map_append, am_MN_o12_0_ok]
def am_MNo : Nat → List ((Nat × Nat × Nat) × (Nat × Nat)) := fun k => match k with
  | 1 => am_MN_o1
  | 3 => am_MN_o3
  | 10 => am_MN_o10
  | 12 => am_MN_o12
  | _ => []
theorem am_MNo_ok : ∀ k, (am_MNo k).map (fun q => am_pw q.2) = (am_MNo k).map (fun q => some (Cond.methodLinkNest (am_cn q.1.1) q.1.2.1 (am_mn q.1.2.2) (am_ho q.1.1))) := by
  intro k
  unfold am_MNo
  split
  · exact am_MN_o1_ok
  · exact am_MN_o3_ok
  · exact am_MN_o10_ok
  · exact am_MN_o12_ok
  · rfl
def am_im (y : Nat) : MethodName := match y with
  | 233 => ⟨"java/util/List", "size", "()I"⟩
  | 234 => ⟨"java/util/List", "isEmpty", "()Z"⟩
  | 236 => ⟨"java/util/List", "get", "(I)Ljava/lang/Object;"⟩
  | 238 => ⟨"java/util/List", "add", "(Ljava/lang/Object;)Z"⟩
  | 239 => ⟨"java/util/List", "add", "(ILjava/lang/Object;)V"⟩
  | 240 => ⟨"java/util/List", "remove", "(I)Ljava/lang/Object;"⟩
  | 243 => ⟨"java/util/List", "iterator", "()Ljava/util/Iterator;"⟩
  | 245 => ⟨"java/util/Iterator", "hasNext", "()Z"⟩
  | 246 => ⟨"java/util/Iterator", "next", "()Ljava/lang/Object;"⟩
  | _ => ⟨"", "", ""⟩
def am_MI_o11_0 : List ((Nat × Nat × Nat) × (Nat × Nat)) := [((11, 19, 236), (6, 97)), ((11, 27, 243), (6, 100)), ((11, 31, 245), (6, 102)), ((11, 37, 246), (6, 104))]
set_option maxRecDepth 100000 in
theorem am_MI_o11_0_ok : am_MI_o11_0.map (fun q => am_pw q.2) = am_MI_o11_0.map (fun q => some (Cond.methodLink (am_cn q.1.1) q.1.2.1 (am_im q.1.2.2))) := by rfl
def am_MI_o11 : List ((Nat × Nat × Nat) × (Nat × Nat)) := am_MI_o11_0
theorem am_MI_o11_ok : am_MI_o11.map (fun q => am_pw q.2) = am_MI_o11.map (fun q => some (Cond.methodLink (am_cn q.1.1) q.1.2.1 (am_im q.1.2.2))) := by
  simp only [am_MI_o11, List.map_append, am_MI_o11_0_ok]
def am_MI_o12_0 : List ((Nat × Nat × Nat) × (Nat × Nat)) := [((12, 118, 243), (5, 39)), ((12, 124, 245), (5, 67)), ((12, 130, 246), (5, 77)), ((12, 134, 233), (4, 158)), ((12, 144, 238), (4, 187)), ((12, 175, 236), (5, 22)), ((12, 247, 239), (6, 222)), ((12, 250, 240), (6, 236))]
set_option maxRecDepth 100000 in
theorem am_MI_o12_0_ok : am_MI_o12_0.map (fun q => am_pw q.2) = am_MI_o12_0.map (fun q => some (Cond.methodLink (am_cn q.1.1) q.1.2.1 (am_im q.1.2.2))) := by rfl
def am_MI_o12 : List ((Nat × Nat × Nat) × (Nat × Nat)) := am_MI_o12_0
theorem am_MI_o12_ok : am_MI_o12.map (fun q => am_pw q.2) = am_MI_o12.map (fun q => some (Cond.methodLink (am_cn q.1.1) q.1.2.1 (am_im q.1.2.2))) := by
  simp only [am_MI_o12, List.map_append, am_MI_o12_0_ok]
def am_MI_o17_0 : List ((Nat × Nat × Nat) × (Nat × Nat)) := [((17, 55, 233), (5, 158)), ((17, 95, 236), (6, 137)), ((17, 120, 234), (6, 117)), ((17, 144, 238), (7, 21))]
set_option maxRecDepth 100000 in
theorem am_MI_o17_0_ok : am_MI_o17_0.map (fun q => am_pw q.2) = am_MI_o17_0.map (fun q => some (Cond.methodLink (am_cn q.1.1) q.1.2.1 (am_im q.1.2.2))) := by rfl
def am_MI_o17 : List ((Nat × Nat × Nat) × (Nat × Nat)) := am_MI_o17_0
theorem am_MI_o17_ok : am_MI_o17.map (fun q => am_pw q.2) = am_MI_o17.map (fun q => some (Cond.methodLink (am_cn q.1.1) q.1.2.1 (am_im q.1.2.2))) := by
  simp only [am_MI_o17, List.map_append, am_MI_o17_0_ok]
def am_MIo : Nat → List ((Nat × Nat × Nat) × (Nat × Nat)) := fun k => match k with
  | 11 => am_MI_o11
  | 12 => am_MI_o12
  | 17 => am_MI_o17
  | _ => []
theorem am_MIo_ok : ∀ k, (am_MIo k).map (fun q => am_pw q.2) = (am_MIo k).map (fun q => some (Cond.methodLink (am_cn q.1.1) q.1.2.1 (am_im q.1.2.2))) := by
  intro k
  unfold am_MIo
  split
  · exact am_MI_o11_ok
  · exact am_MI_o12_ok
  · exact am_MI_o17_ok
  · rfl
def am_IS_0 : List (Nat × (Nat × Nat)) := [(233, (4, 162)), (234, (6, 120)), (236, (5, 25)), (238, (4, 190)), (239, (6, 225)), (240, (6, 239)), (243, (5, 42)), (245, (5, 71)), (246, (5, 80))]
set_option maxRecDepth 100000 in
theorem am_IS_0_ok : am_IS_0.map (fun q => am_pw q.2) = am_IS_0.map (fun q => some (Cond.selects (am_mn q.1).cls (am_im q.1) (am_mn q.1))) := by rfl
def am_IS : List (Nat × (Nat × Nat)) := am_IS_0
theorem am_IS_ok : am_IS.map (fun q => am_pw q.2) = am_IS.map (fun q => some (Cond.selects (am_mn q.1).cls (am_im q.1) (am_mn q.1))) := by
  simp only [am_IS, List.map_append, am_IS_0_ok]
def am_WI_0 : List (Nat × (Nat × Nat)) := [(0, (0, 29)), (1, (0, 29)), (2, (0, 29)), (3, (0, 29)), (4, (0, 29)), (5, (0, 29)), (6, (0, 29)), (7, (0, 29)), (8, (0, 29)), (9, (0, 29)), (10, (0, 29)), (11, (0, 29)), (14, (0, 29)), (15, (0, 29)), (16, (0, 29)), (17, (0, 29)), (18, (0, 29)), (19, (0, 29)), (20, (0, 29)), (23, (0, 29)), (24, (0, 29)), (25, (0, 29)), (26, (0, 29)), (27, (0, 29)), (28, (0, 29)), (31, (0, 26)), (32, (0, 26)), (33, (0, 26)), (34, (0, 26)), (35, (0, 26)), (36, (0, 26)), (37, (0, 26)), (38, (0, 26)), (39, (0, 26)), (40, (0, 26)), (41, (0, 26)), (42, (0, 26)), (43, (0, 26)), (44, (0, 26)), (45, (0, 26)), (46, (0, 30)), (47, (0, 30)), (48, (0, 30)), (49, (0, 30)), (50, (0, 30)), (51, (0, 30)), (52, (0, 30)), (53, (0, 30)), (54, (0, 30)), (55, (0, 30)), (56, (0, 30)), (57, (0, 30)), (58, (0, 30)), (59, (0, 30)), (60, (0, 30)), (61, (0, 30)), (63, (0, 30)), (64, (0, 30)), (65, (0, 30)), (66, (0, 30))]
set_option maxRecDepth 100000 in
theorem am_WI_0_ok : am_WI_0.map (fun q => am_pw q.2) = am_WI_0.map (fun q => some (Cond.initialized (am_mn q.1).cls)) := by rfl
def am_WI_1 : List (Nat × (Nat × Nat)) := [(70, (0, 28)), (71, (0, 28)), (72, (0, 28)), (73, (0, 28)), (74, (0, 28)), (75, (0, 28)), (76, (0, 28)), (77, (0, 28)), (80, (0, 28)), (84, (0, 28)), (85, (0, 28)), (86, (0, 28)), (87, (0, 28)), (88, (0, 28)), (89, (0, 27)), (96, (0, 24)), (102, (0, 25)), (108, (0, 22)), (109, (0, 22)), (110, (0, 22)), (111, (0, 22)), (112, (0, 22)), (113, (0, 22)), (114, (0, 22)), (115, (0, 22)), (116, (0, 22)), (117, (0, 22)), (118, (0, 22)), (119, (0, 22)), (120, (0, 22)), (121, (0, 22)), (122, (0, 22)), (123, (0, 22)), (124, (0, 22)), (125, (0, 22)), (126, (0, 23)), (127, (0, 23)), (128, (0, 23)), (129, (0, 23)), (130, (0, 23)), (131, (0, 23)), (132, (0, 21)), (133, (0, 21)), (134, (0, 21)), (135, (0, 21)), (136, (0, 21)), (137, (0, 21)), (138, (0, 21)), (139, (0, 21)), (140, (0, 21)), (141, (0, 21)), (142, (0, 21)), (143, (0, 21)), (144, (0, 21)), (145, (0, 21)), (146, (0, 21)), (147, (0, 21)), (148, (0, 21)), (149, (0, 21)), (150, (0, 20))]
set_option maxRecDepth 100000 in
theorem am_WI_1_ok : am_WI_1.map (fun q => am_pw q.2) = am_WI_1.map (fun q => some (Cond.initialized (am_mn q.1).cls)) := by rfl
def am_WI_2 : List (Nat × (Nat × Nat)) := [(151, (0, 20)), (152, (0, 20)), (153, (0, 20)), (154, (0, 20)), (155, (0, 20)), (157, (0, 20)), (158, (0, 20)), (159, (0, 20)), (161, (0, 20)), (162, (0, 20)), (163, (0, 20)), (172, (0, 20)), (174, (0, 20)), (176, (0, 20)), (179, (0, 20)), (180, (0, 20)), (181, (0, 20)), (186, (0, 20)), (187, (0, 20)), (188, (0, 20)), (189, (0, 20)), (191, (0, 20)), (192, (0, 20)), (193, (0, 20)), (194, (0, 20)), (199, (0, 20)), (200, (0, 20)), (201, (0, 20)), (202, (0, 20)), (203, (0, 20)), (204, (0, 20)), (208, (0, 20)), (211, (0, 20)), (212, (0, 20)), (213, (0, 20)), (214, (0, 20)), (215, (0, 20)), (216, (0, 20)), (217, (0, 20)), (218, (0, 20)), (219, (0, 20)), (220, (0, 6)), (221, (0, 6)), (222, (0, 6)), (223, (0, 6)), (224, (0, 6)), (225, (0, 6)), (226, (0, 7)), (227, (0, 7)), (228, (0, 7)), (229, (0, 7)), (230, (0, 4)), (231, (0, 4)), (232, (0, 4)), (233, (0, 4)), (234, (0, 4)), (235, (0, 4)), (236, (0, 4)), (237, (0, 4)), (238, (0, 4))]
set_option maxRecDepth 100000 in
theorem am_WI_2_ok : am_WI_2.map (fun q => am_pw q.2) = am_WI_2.map (fun q => some (Cond.initialized (am_mn q.1).cls)) := by rfl
def am_WI_3 : List (Nat × (Nat × Nat)) := [(239, (0, 4)), (240, (0, 4)), (241, (0, 4)), (242, (0, 4)), (243, (0, 4)), (244, (0, 19)), (245, (0, 19)), (246, (0, 19)), (247, (0, 19)), (248, (0, 11)), (249, (0, 11)), (250, (0, 11)), (251, (0, 11)), (252, (0, 11)), (253, (0, 11)), (254, (0, 14)), (255, (0, 13)), (256, (0, 5)), (257, (0, 5)), (258, (0, 5)), (259, (0, 5)), (260, (0, 5)), (261, (0, 5)), (262, (0, 5)), (263, (0, 5)), (264, (0, 5)), (265, (0, 5)), (266, (0, 5)), (267, (0, 16)), (268, (0, 16)), (269, (0, 9)), (270, (0, 18)), (271, (0, 3)), (272, (0, 2)), (273, (0, 17)), (274, (0, 17)), (275, (0, 1)), (276, (0, 1)), (277, (0, 1)), (278, (0, 1)), (279, (0, 1)), (280, (0, 1)), (281, (0, 1)), (282, (0, 1)), (283, (0, 1)), (284, (0, 1)), (285, (0, 1)), (286, (0, 1)), (287, (0, 1)), (288, (0, 1)), (289, (0, 1)), (290, (0, 1)), (291, (0, 1)), (292, (0, 0)), (293, (0, 0)), (294, (0, 0)), (295, (0, 0)), (296, (0, 0)), (297, (0, 0)), (298, (0, 0))]
set_option maxRecDepth 100000 in
theorem am_WI_3_ok : am_WI_3.map (fun q => am_pw q.2) = am_WI_3.map (fun q => some (Cond.initialized (am_mn q.1).cls)) := by rfl
def am_WI_4 : List (Nat × (Nat × Nat)) := [(299, (0, 0)), (300, (0, 0)), (362, (0, 7)), (363, (0, 7)), (364, (0, 7)), (365, (0, 7)), (366, (0, 14)), (367, (0, 11)), (368, (0, 11))]
set_option maxRecDepth 100000 in
theorem am_WI_4_ok : am_WI_4.map (fun q => am_pw q.2) = am_WI_4.map (fun q => some (Cond.initialized (am_mn q.1).cls)) := by rfl
def am_WI : List (Nat × (Nat × Nat)) := am_WI_0 ++ (am_WI_1 ++ (am_WI_2 ++ (am_WI_3 ++ (am_WI_4))))
theorem am_WI_ok : am_WI.map (fun q => am_pw q.2) = am_WI.map (fun q => some (Cond.initialized (am_mn q.1).cls)) := by
  simp only [am_WI, List.map_append, am_WI_0_ok, am_WI_1_ok, am_WI_2_ok, am_WI_3_ok, am_WI_4_ok]
def am_WS_0 : List (Nat × (Nat × Nat)) := [(33, (6, 13)), (34, (5, 231)), (49, (6, 197)), (50, (6, 57)), (55, (6, 200)), (59, (6, 211)), (80, (6, 134)), (133, (0, 101)), (140, (1, 207)), (141, (1, 222)), (214, (5, 168)), (215, (5, 190)), (216, (6, 114)), (217, (5, 186)), (218, (6, 164)), (219, (6, 5)), (248, (4, 209)), (249, (4, 236)), (250, (3, 219)), (251, (4, 98)), (252, (4, 92)), (253, (4, 95)), (254, (4, 59)), (255, (0, 79)), (267, (4, 133)), (268, (4, 130)), (269, (3, 210)), (270, (5, 31)), (278, (4, 48)), (279, (5, 5)), (285, (3, 40)), (292, (3, 185)), (293, (3, 182)), (294, (5, 116)), (295, (7, 112)), (296, (5, 154)), (297, (7, 9)), (298, (7, 46)), (299, (7, 74)), (300, (7, 123)), (366, (0, 71)), (367, (1, 238)), (368, (2, 1))]
set_option maxRecDepth 100000 in
theorem am_WS_0_ok : am_WS_0.map (fun q => am_pw q.2) = am_WS_0.map (fun q => some (Cond.static (am_mn q.1))) := by rfl
def am_WS : List (Nat × (Nat × Nat)) := am_WS_0
theorem am_WS_ok : am_WS.map (fun q => am_pw q.2) = am_WS.map (fun q => some (Cond.static (am_mn q.1))) := by
  simp only [am_WS, List.map_append, am_WS_0_ok]
def am_WV_0 : List (Nat × (Nat × Nat)) := [(0, (1, 38)), (1, (1, 234)), (2, (5, 201)), (3, (6, 173)), (4, (2, 185)), (5, (2, 125)), (6, (2, 129)), (7, (2, 121)), (8, (2, 143)), (9, (2, 176)), (10, (2, 199)), (11, (2, 180)), (14, (6, 168)), (15, (6, 176)), (16, (2, 211)), (17, (2, 224)), (18, (2, 232)), (19, (2, 228)), (20, (2, 219)), (23, (2, 215)), (24, (3, 0)), (25, (5, 222)), (26, (6, 16)), (27, (6, 24)), (28, (6, 20)), (31, (0, 216)), (32, (5, 218)), (35, (5, 234)), (36, (6, 0)), (37, (6, 10)), (38, (6, 29)), (39, (6, 36)), (40, (6, 41)), (41, (6, 49)), (42, (6, 76)), (43, (6, 68)), (44, (7, 86)), (45, (7, 94)), (46, (1, 85)), (47, (2, 10)), (48, (5, 213)), (51, (6, 65)), (52, (6, 53)), (53, (6, 60)), (54, (6, 72)), (56, (6, 189)), (57, (6, 208)), (58, (6, 214)), (60, (7, 16)), (61, (7, 145)), (63, (6, 193)), (64, (7, 53)), (65, (6, 203)), (66, (7, 66)), (70, (1, 32)), (71, (1, 230)), (72, (5, 197)), (73, (3, 26)), (74, (3, 22)), (75, (3, 17))]
set_option maxRecDepth 100000 in
theorem am_WV_0_ok : am_WV_0.map (fun q => am_pw q.2) = am_WV_0.map (fun q => some (Cond.instanceMethod (am_mn q.1))) := by rfl
def am_WV_1 : List (Nat × (Nat × Nat)) := [(76, (3, 13)), (77, (6, 130)), (84, (7, 130)), (85, (6, 110)), (86, (6, 151)), (87, (6, 184)), (88, (6, 45)), (89, (1, 16)), (96, (0, 183)), (102, (0, 201)), (108, (0, 140)), (109, (2, 16)), (110, (2, 25)), (111, (2, 29)), (112, (2, 148)), (113, (2, 191)), (114, (2, 204)), (115, (2, 237)), (116, (3, 6)), (117, (3, 32)), (118, (2, 33)), (119, (2, 108)), (120, (3, 10)), (121, (2, 195)), (122, (2, 208)), (123, (2, 152)), (124, (2, 160)), (125, (2, 173)), (126, (0, 146)), (127, (2, 164)), (128, (2, 168)), (129, (6, 32)), (130, (2, 4)), (131, (5, 206)), (132, (0, 48)), (134, (1, 196)), (135, (1, 204)), (136, (1, 211)), (137, (1, 226)), (138, (1, 215)), (139, (1, 219)), (142, (2, 20)), (143, (2, 103)), (144, (2, 155)), (145, (2, 134)), (146, (2, 111)), (147, (2, 118)), (148, (2, 139)), (149, (2, 36)), (150, (0, 40)), (151, (5, 121)), (152, (5, 141)), (153, (5, 148)), (154, (1, 188)), (155, (7, 34)), (157, (1, 193)), (158, (3, 37)), (159, (7, 38)), (161, (7, 42)), (162, (7, 12))]
set_option maxRecDepth 100000 in
theorem am_WV_1_ok : am_WV_1.map (fun q => am_pw q.2) = am_WV_1.map (fun q => some (Cond.instanceMethod (am_mn q.1))) := by rfl
def am_WV_2 : List (Nat × (Nat × Nat)) := [(163, (7, 119)), (172, (6, 141)), (174, (6, 126)), (176, (7, 70)), (179, (7, 57)), (180, (7, 49)), (181, (7, 62)), (186, (7, 126)), (187, (7, 115)), (188, (7, 104)), (189, (7, 141)), (191, (7, 136)), (192, (7, 99)), (193, (7, 78)), (194, (7, 90)), (199, (7, 83)), (200, (5, 160)), (201, (6, 106)), (202, (6, 147)), (203, (6, 156)), (204, (6, 180)), (208, (7, 108)), (211, (5, 194)), (212, (6, 161)), (213, (5, 165)), (220, (3, 150)), (221, (3, 191)), (222, (4, 52)), (223, (4, 123)), (224, (4, 65)), (225, (4, 86)), (226, (4, 71)), (227, (5, 144)), (228, (4, 42)), (229, (4, 74)), (230, (3, 51)), (231, (4, 205)), (232, (4, 201)), (233, (4, 164)), (234, (6, 122)), (235, (5, 35)), (236, (5, 27)), (237, (4, 197)), (238, (4, 192)), (239, (6, 227)), (240, (7, 1)), (241, (7, 6)), (242, (6, 232)), (243, (5, 44)), (244, (5, 50)), (245, (5, 73)), (246, (5, 82)), (247, (5, 86)), (256, (3, 153)), (257, (4, 83)), (258, (3, 203)), (259, (3, 207)), (260, (3, 195)), (261, (4, 56)), (262, (4, 127))]
set_option maxRecDepth 100000 in
theorem am_WV_2_ok : am_WV_2.map (fun q => am_pw q.2) = am_WV_2.map (fun q => some (Cond.instanceMethod (am_mn q.1))) := by rfl
def am_WV_3 : List (Nat × (Nat × Nat)) := [(263, (4, 78)), (264, (3, 233)), (265, (4, 19)), (266, (4, 15)), (271, (3, 54)), (272, (3, 57)), (273, (4, 170)), (274, (6, 93)), (275, (3, 45)), (276, (3, 179)), (277, (4, 149)), (280, (5, 13)), (281, (5, 103)), (282, (4, 155)), (283, (5, 19)), (284, (5, 93)), (286, (5, 99)), (287, (5, 110)), (288, (6, 85)), (289, (6, 89)), (290, (6, 81)), (291, (6, 218)), (362, (0, 53)), (363, (0, 63)), (364, (0, 57)), (365, (0, 67))]
set_option maxRecDepth 100000 in
theorem am_WV_3_ok : am_WV_3.map (fun q => am_pw q.2) = am_WV_3.map (fun q => some (Cond.instanceMethod (am_mn q.1))) := by rfl
def am_WV : List (Nat × (Nat × Nat)) := am_WV_0 ++ (am_WV_1 ++ (am_WV_2 ++ (am_WV_3)))
theorem am_WV_ok : am_WV.map (fun q => am_pw q.2) = am_WV.map (fun q => some (Cond.instanceMethod (am_mn q.1))) := by
  simp only [am_WV, List.map_append, am_WV_0_ok, am_WV_1_ok, am_WV_2_ok, am_WV_3_ok]
def am_WE_0 : List (Nat × (Nat × Nat)) := [(1, (1, 235)), (2, (5, 202)), (3, (11, 0)), (4, (9, 0)), (5, (2, 126)), (6, (2, 130)), (7, (2, 122)), (8, (2, 144)), (9, (2, 177)), (10, (2, 200)), (11, (2, 181)), (14, (6, 169)), (15, (6, 177)), (16, (2, 212)), (17, (2, 225)), (18, (2, 233)), (19, (2, 229)), (20, (2, 220)), (23, (2, 216)), (24, (3, 1)), (25, (5, 223)), (26, (6, 17)), (27, (6, 25)), (28, (6, 21)), (32, (5, 219)), (35, (5, 235)), (36, (10, 10)), (37, (10, 11)), (38, (10, 12)), (39, (6, 37)), (40, (10, 13)), (41, (6, 50)), (42, (6, 77)), (43, (6, 69)), (44, (7, 87)), (45, (7, 95)), (47, (2, 11)), (48, (5, 214)), (51, (10, 14)), (52, (6, 54)), (53, (6, 61)), (54, (6, 73)), (56, (6, 190)), (57, (11, 1)), (58, (6, 215)), (60, (7, 17)), (61, (7, 146)), (63, (6, 194)), (64, (7, 54)), (65, (6, 204)), (66, (7, 67)), (71, (1, 231)), (72, (5, 198)), (73, (3, 27)), (74, (9, 8)), (75, (3, 18)), (76, (3, 14)), (77, (6, 131)), (84, (7, 131)), (85, (6, 111))]
set_option maxRecDepth 100000 in
theorem am_WE_0_ok : am_WE_0.map (fun q => am_pw q.2) = am_WE_0.map (fun q => some (Cond.selects (am_mn q.1).cls (am_mn q.1) (am_mn q.1))) := by rfl
def am_WE_1 : List (Nat × (Nat × Nat)) := [(86, (6, 152)), (87, (6, 185)), (88, (6, 46)), (109, (2, 17)), (110, (8, 6)), (111, (8, 7)), (112, (8, 12)), (113, (9, 1)), (114, (9, 3)), (115, (9, 5)), (116, (9, 6)), (117, (9, 9)), (118, (8, 8)), (119, (8, 10)), (120, (9, 7)), (121, (9, 2)), (122, (9, 4)), (123, (8, 13)), (124, (8, 14)), (125, (8, 15)), (127, (2, 165)), (128, (2, 169)), (129, (6, 33)), (130, (2, 5)), (131, (5, 207)), (134, (1, 197)), (135, (8, 1)), (136, (8, 2)), (137, (8, 5)), (138, (8, 3)), (139, (8, 4)), (142, (2, 21)), (143, (2, 104)), (144, (2, 156)), (145, (2, 135)), (146, (2, 112)), (147, (8, 11)), (148, (2, 140)), (149, (2, 37)), (151, (5, 122)), (152, (10, 7)), (153, (5, 149)), (154, (1, 189)), (155, (7, 35)), (157, (8, 0)), (158, (9, 10)), (159, (7, 39)), (161, (7, 43)), (162, (7, 13)), (163, (7, 120)), (172, (6, 142)), (174, (6, 127)), (176, (7, 71)), (179, (7, 58)), (180, (7, 50)), (181, (7, 63)), (186, (7, 127)), (187, (7, 116)), (188, (7, 105)), (189, (7, 142))]
set_option maxRecDepth 100000 in
theorem am_WE_1_ok : am_WE_1.map (fun q => am_pw q.2) = am_WE_1.map (fun q => some (Cond.selects (am_mn q.1).cls (am_mn q.1) (am_mn q.1))) := by rfl
def am_WE_2 : List (Nat × (Nat × Nat)) := [(191, (7, 137)), (192, (7, 100)), (193, (7, 79)), (194, (7, 91)), (199, (11, 4)), (200, (5, 161)), (201, (6, 107)), (202, (6, 148)), (203, (6, 157)), (204, (6, 181)), (208, (7, 109)), (211, (10, 9)), (212, (10, 15)), (213, (10, 8)), (221, (3, 192)), (222, (4, 53)), (223, (4, 124)), (224, (4, 66)), (227, (5, 145)), (228, (4, 43)), (231, (10, 0)), (232, (9, 15)), (235, (5, 36)), (237, (9, 14)), (241, (11, 3)), (242, (11, 2)), (247, (5, 87)), (274, (6, 94)), (276, (9, 11)), (277, (9, 12)), (280, (10, 1)), (281, (10, 5)), (282, (9, 13)), (283, (10, 2)), (284, (10, 3)), (286, (10, 4)), (287, (10, 6)), (288, (6, 86)), (289, (6, 90)), (290, (6, 82)), (291, (6, 219)), (362, (0, 54)), (363, (0, 64)), (364, (0, 58)), (365, (0, 68))]
set_option maxRecDepth 100000 in
theorem am_WE_2_ok : am_WE_2.map (fun q => am_pw q.2) = am_WE_2.map (fun q => some (Cond.selects (am_mn q.1).cls (am_mn q.1) (am_mn q.1))) := by rfl
def am_WE : List (Nat × (Nat × Nat)) := am_WE_0 ++ (am_WE_1 ++ (am_WE_2))
theorem am_WE_ok : am_WE.map (fun q => am_pw q.2) = am_WE.map (fun q => some (Cond.selects (am_mn q.1).cls (am_mn q.1) (am_mn q.1))) := by
  simp only [am_WE, List.map_append, am_WE_0_ok, am_WE_1_ok, am_WE_2_ok]
def am_WU_0 : List (Nat × (Nat × Nat)) := [(258, (99, 0)), (259, (99, 1)), (263, (4, 80)), (264, (3, 235)), (265, (99, 2)), (266, (99, 3))]
set_option maxRecDepth 100000 in
theorem am_WU_0_ok : am_WU_0.map (fun q => am_pw q.2) = am_WU_0.map (fun q => some (Cond.selects RJ4 (am_mn q.1) (am_mn q.1))) := by rfl
def am_WU : List (Nat × (Nat × Nat)) := am_WU_0
theorem am_WU_ok : am_WU.map (fun q => am_pw q.2) = am_WU.map (fun q => some (Cond.selects RJ4 (am_mn q.1) (am_mn q.1))) := by
  simp only [am_WU, List.map_append, am_WU_0_ok]
def am_WM_0 : List (Nat × (Nat × Nat)) := [(257, (4, 84)), (258, (7, 151)), (259, (7, 152)), (260, (7, 149)), (261, (7, 156)), (262, (7, 157)), (263, (4, 79)), (264, (3, 234)), (265, (7, 154)), (266, (7, 153))]
set_option maxRecDepth 100000 in
theorem am_WM_0_ok : am_WM_0.map (fun q => am_pw q.2) = am_WM_0.map (fun q => some (Cond.sameMethod (am_mn q.1).cls (am_mn q.1).cls (am_mn q.1).name (am_mn q.1).desc)) := by rfl
def am_WM : List (Nat × (Nat × Nat)) := am_WM_0
theorem am_WM_ok : am_WM.map (fun q => am_pw q.2) = am_WM.map (fun q => some (Cond.sameMethod (am_mn q.1).cls (am_mn q.1).cls (am_mn q.1).name (am_mn q.1).desc)) := by
  simp only [am_WM, List.map_append, am_WM_0_ok]
def am_WC_0 : List (Nat × (Nat × Nat)) := [(0, (1, 39)), (1, (1, 236)), (2, (5, 203)), (3, (6, 174)), (4, (2, 186)), (5, (2, 127)), (6, (2, 131)), (7, (2, 123)), (8, (2, 145)), (9, (2, 178)), (10, (2, 201)), (11, (2, 182)), (14, (6, 170)), (15, (6, 178)), (16, (2, 213)), (17, (2, 226)), (18, (2, 234)), (19, (2, 230)), (20, (2, 221)), (23, (2, 217)), (24, (3, 2)), (25, (5, 224)), (26, (6, 18)), (27, (6, 26)), (28, (6, 22)), (31, (0, 217)), (32, (5, 220)), (33, (6, 14)), (34, (5, 232)), (35, (5, 236)), (36, (6, 1)), (37, (6, 11)), (38, (6, 30)), (39, (6, 38)), (40, (6, 42)), (41, (6, 51)), (42, (6, 78)), (43, (6, 70)), (44, (7, 88)), (45, (7, 96)), (46, (1, 86)), (47, (2, 12)), (48, (5, 215)), (49, (6, 198)), (50, (6, 58)), (51, (6, 66)), (52, (6, 55)), (53, (6, 62)), (54, (6, 74)), (55, (6, 201)), (56, (6, 191)), (57, (6, 209)), (58, (6, 216)), (59, (6, 212)), (60, (7, 18)), (61, (7, 147)), (63, (6, 195)), (64, (7, 55)), (65, (6, 205)), (66, (7, 68))]
set_option maxRecDepth 100000 in
theorem am_WC_0_ok : am_WC_0.map (fun q => am_pw q.2) = am_WC_0.map (fun q => some (Cond.code (am_mn q.1) (am_mb q.1) (am_ml q.1) (am_mr q.1))) := by rfl
def am_WC_1 : List (Nat × (Nat × Nat)) := [(70, (1, 33)), (71, (1, 232)), (72, (5, 199)), (73, (3, 28)), (74, (3, 23)), (75, (3, 19)), (76, (3, 15)), (77, (6, 132)), (80, (6, 135)), (84, (7, 132)), (85, (6, 112)), (86, (6, 153)), (87, (6, 186)), (88, (6, 47)), (89, (1, 17)), (96, (0, 184)), (102, (0, 202)), (108, (0, 141)), (109, (2, 18)), (110, (2, 26)), (111, (2, 30)), (112, (2, 149)), (113, (2, 192)), (114, (2, 205)), (115, (2, 238)), (116, (3, 7)), (117, (3, 33)), (118, (2, 34)), (119, (2, 109)), (120, (3, 11)), (121, (2, 196)), (122, (2, 209)), (123, (2, 153)), (124, (2, 161)), (125, (2, 174)), (126, (0, 147)), (127, (2, 166)), (128, (2, 170)), (129, (6, 34)), (130, (2, 6)), (131, (5, 208)), (132, (0, 49)), (133, (0, 102)), (134, (1, 198)), (135, (1, 205)), (136, (1, 212)), (137, (1, 227)), (138, (1, 216)), (139, (1, 220)), (140, (1, 208)), (141, (1, 223)), (142, (2, 22)), (143, (2, 105)), (144, (2, 157)), (145, (2, 136)), (146, (2, 113)), (147, (2, 119)), (148, (2, 141)), (149, (2, 38)), (150, (0, 41))]
set_option maxRecDepth 100000 in
theorem am_WC_1_ok : am_WC_1.map (fun q => am_pw q.2) = am_WC_1.map (fun q => some (Cond.code (am_mn q.1) (am_mb q.1) (am_ml q.1) (am_mr q.1))) := by rfl
def am_WC_2 : List (Nat × (Nat × Nat)) := [(151, (5, 123)), (152, (5, 142)), (153, (5, 150)), (154, (1, 190)), (155, (7, 36)), (157, (1, 194)), (158, (3, 38)), (159, (7, 40)), (161, (7, 44)), (162, (7, 14)), (163, (7, 121)), (172, (6, 143)), (174, (6, 128)), (176, (7, 72)), (179, (7, 59)), (180, (7, 51)), (181, (7, 64)), (186, (7, 128)), (187, (7, 117)), (188, (7, 106)), (189, (7, 143)), (191, (7, 138)), (192, (7, 101)), (193, (7, 80)), (194, (7, 92)), (199, (7, 84)), (200, (5, 162)), (201, (6, 108)), (202, (6, 149)), (203, (6, 158)), (204, (6, 182)), (208, (7, 110)), (211, (5, 195)), (212, (6, 162)), (213, (5, 166)), (214, (5, 169)), (215, (5, 191)), (216, (6, 115)), (217, (5, 187)), (218, (6, 165)), (219, (6, 6)), (220, (3, 151)), (221, (3, 193)), (222, (4, 54)), (223, (4, 125)), (224, (4, 67)), (225, (4, 87)), (226, (4, 72)), (227, (5, 146)), (228, (4, 44)), (229, (4, 75)), (230, (3, 52)), (231, (4, 206)), (232, (4, 202)), (233, (4, 166)), (234, (6, 124)), (235, (5, 37)), (236, (5, 29)), (237, (4, 198)), (238, (4, 194))]
set_option maxRecDepth 100000 in
theorem am_WC_2_ok : am_WC_2.map (fun q => am_pw q.2) = am_WC_2.map (fun q => some (Cond.code (am_mn q.1) (am_mb q.1) (am_ml q.1) (am_mr q.1))) := by rfl
def am_WC_3 : List (Nat × (Nat × Nat)) := [(239, (6, 229)), (240, (7, 3)), (241, (7, 7)), (242, (6, 233)), (243, (5, 46)), (244, (5, 51)), (245, (5, 75)), (246, (5, 84)), (247, (5, 88)), (248, (4, 210)), (249, (4, 237)), (250, (3, 220)), (251, (4, 99)), (252, (4, 93)), (253, (4, 96)), (254, (4, 60)), (255, (0, 80)), (256, (3, 154)), (257, (4, 89)), (258, (3, 204)), (259, (3, 208)), (260, (3, 196)), (261, (4, 57)), (262, (4, 128)), (263, (4, 81)), (264, (3, 236)), (265, (4, 20)), (266, (4, 16)), (267, (4, 134)), (268, (4, 131)), (269, (3, 211)), (270, (5, 32)), (271, (3, 55)), (272, (3, 58)), (273, (4, 171)), (274, (6, 95)), (275, (3, 46)), (276, (3, 180)), (277, (4, 150)), (278, (4, 49)), (279, (5, 6)), (280, (5, 14)), (281, (5, 104)), (282, (4, 156)), (283, (5, 20)), (284, (5, 94)), (285, (3, 41)), (286, (5, 100)), (287, (5, 111)), (288, (6, 87)), (289, (6, 91)), (290, (6, 83)), (291, (6, 220)), (292, (3, 186)), (293, (3, 183)), (294, (5, 117)), (295, (7, 113)), (296, (5, 155)), (297, (7, 10)), (298, (7, 47))]
set_option maxRecDepth 100000 in
theorem am_WC_3_ok : am_WC_3.map (fun q => am_pw q.2) = am_WC_3.map (fun q => some (Cond.code (am_mn q.1) (am_mb q.1) (am_ml q.1) (am_mr q.1))) := by rfl
def am_WC_4 : List (Nat × (Nat × Nat)) := [(299, (7, 75)), (300, (7, 124)), (362, (0, 55)), (363, (0, 65)), (364, (0, 59)), (365, (0, 69)), (366, (0, 72)), (367, (1, 239)), (368, (2, 2))]
set_option maxRecDepth 100000 in
theorem am_WC_4_ok : am_WC_4.map (fun q => am_pw q.2) = am_WC_4.map (fun q => some (Cond.code (am_mn q.1) (am_mb q.1) (am_ml q.1) (am_mr q.1))) := by rfl
def am_WC : List (Nat × (Nat × Nat)) := am_WC_0 ++ (am_WC_1 ++ (am_WC_2 ++ (am_WC_3 ++ (am_WC_4))))
theorem am_WC_ok : am_WC.map (fun q => am_pw q.2) = am_WC.map (fun q => some (Cond.code (am_mn q.1) (am_mb q.1) (am_ml q.1) (am_mr q.1))) := by
  simp only [am_WC, List.map_append, am_WC_0_ok, am_WC_1_ok, am_WC_2_ok, am_WC_3_ok, am_WC_4_ok]
def am_vc (c : Nat) : vw_C := vwCl.getD c (RX0, TX0, 0)
/-- the class that a field is named by -/
def am_rc (own c k : Nat) : String := if c = 15 ∧ k = 0 ∧ ¬ own = 25 then RJx4a65c else ((am_vc c).2.1 k).1
def am_FL_o0_0 : List ((Nat × Nat × Nat × Nat) × (Nat × Nat)) := [((0, 9, 0, 2), (1, 51)), ((0, 15, 0, 3), (1, 52)), ((0, 19, 0, 4), (1, 53)), ((0, 22, 0, 5), (1, 54)), ((0, 25, 0, 6), (1, 55)), ((0, 33, 0, 7), (1, 56)), ((0, 37, 0, 8), (1, 57)), ((0, 40, 0, 9), (1, 58)), ((0, 43, 0, 0), (1, 43)), ((0, 47, 0, 1), (1, 47)), ((0, 91, 8, 2), (0, 158))]
set_option maxRecDepth 100000 in
theorem am_FL_o0_0_ok : am_FL_o0_0.map (fun q => am_pw q.2) = am_FL_o0_0.map (fun q => some (Cond.fieldLink (am_cn q.1.1) q.1.2.1 (am_rc q.1.1 q.1.2.2.1 q.1.2.2.2) ((am_vc q.1.2.2.1).2.1 q.1.2.2.2).2.1 ((am_vc q.1.2.2.1).2.1 q.1.2.2.2).2.2.1)) := by rfl
def am_FL_o0 : List ((Nat × Nat × Nat × Nat) × (Nat × Nat)) := am_FL_o0_0
theorem am_FL_o0_ok : am_FL_o0.map (fun q => am_pw q.2) = am_FL_o0.map (fun q => some (Cond.fieldLink (am_cn q.1.1) q.1.2.1 (am_rc q.1.1 q.1.2.2.1 q.1.2.2.2) ((am_vc q.1.2.2.1).2.1 q.1.2.2.2).2.1 ((am_vc q.1.2.2.1).2.1 q.1.2.2.2).2.2.1)) := by
  simp only [am_FL_o0, List.map_append, am_FL_o0_0_ok]
def am_FL_o1_0 : List ((Nat × Nat × Nat × Nat) × (Nat × Nat)) := [((1, 9, 1, 0), (0, 221)), ((1, 15, 1, 1), (0, 222)), ((1, 18, 1, 2), (0, 223)), ((1, 21, 1, 3), (0, 224)), ((1, 24, 1, 4), (0, 225)), ((1, 27, 1, 5), (0, 226)), ((1, 35, 1, 6), (0, 227)), ((1, 39, 3, 1), (1, 117)), ((1, 45, 1, 7), (0, 229)), ((1, 46, 3, 2), (1, 121)), ((1, 49, 1, 8), (0, 230)), ((1, 50, 3, 3), (1, 125)), ((1, 53, 1, 9), (0, 231)), ((1, 66, 8, 2), (0, 154))]
set_option maxRecDepth 100000 in
theorem am_FL_o1_0_ok : am_FL_o1_0.map (fun q => am_pw q.2) = am_FL_o1_0.map (fun q => some (Cond.fieldLink (am_cn q.1.1) q.1.2.1 (am_rc q.1.1 q.1.2.2.1 q.1.2.2.2) ((am_vc q.1.2.2.1).2.1 q.1.2.2.2).2.1 ((am_vc q.1.2.2.1).2.1 q.1.2.2.2).2.2.1)) := by rfl
def am_FL_o1 : List ((Nat × Nat × Nat × Nat) × (Nat × Nat)) := am_FL_o1_0
theorem am_FL_o1_ok : am_FL_o1.map (fun q => am_pw q.2) = am_FL_o1.map (fun q => some (Cond.fieldLink (am_cn q.1.1) q.1.2.1 (am_rc q.1.1 q.1.2.2.1 q.1.2.2.2) ((am_vc q.1.2.2.1).2.1 q.1.2.2.2).2.1 ((am_vc q.1.2.2.1).2.1 q.1.2.2.2).2.2.1)) := by
  simp only [am_FL_o1, List.map_append, am_FL_o1_0_ok]
def am_FL_o2_0 : List ((Nat × Nat × Nat × Nat) × (Nat × Nat)) := [((2, 9, 2, 0), (1, 88)), ((2, 15, 2, 1), (1, 89)), ((2, 18, 2, 2), (1, 90)), ((2, 21, 2, 3), (1, 91)), ((2, 24, 2, 4), (1, 92)), ((2, 27, 2, 5), (1, 93)), ((2, 30, 2, 6), (1, 94)), ((2, 43, 2, 7), (1, 95))]
set_option maxRecDepth 100000 in
theorem am_FL_o2_0_ok : am_FL_o2_0.map (fun q => am_pw q.2) = am_FL_o2_0.map (fun q => some (Cond.fieldLink (am_cn q.1.1) q.1.2.1 (am_rc q.1.1 q.1.2.2.1 q.1.2.2.2) ((am_vc q.1.2.2.1).2.1 q.1.2.2.2).2.1 ((am_vc q.1.2.2.1).2.1 q.1.2.2.2).2.2.1)) := by rfl
def am_FL_o2 : List ((Nat × Nat × Nat × Nat) × (Nat × Nat)) := am_FL_o2_0
theorem am_FL_o2_ok : am_FL_o2.map (fun q => am_pw q.2) = am_FL_o2.map (fun q => some (Cond.fieldLink (am_cn q.1.1) q.1.2.1 (am_rc q.1.1 q.1.2.2.1 q.1.2.2.2) ((am_vc q.1.2.2.1).2.1 q.1.2.2.2).2.1 ((am_vc q.1.2.2.1).2.1 q.1.2.2.2).2.2.1)) := by
  simp only [am_FL_o2, List.map_append, am_FL_o2_0_ok]
def am_FL_o3_0 : List ((Nat × Nat × Nat × Nat) × (Nat × Nat)) := [((3, 12, 3, 1), (1, 116)), ((3, 23, 3, 2), (1, 120)), ((3, 27, 3, 3), (1, 124)), ((3, 30, 3, 4), (1, 128)), ((3, 36, 3, 5), (1, 130)), ((3, 40, 3, 0), (1, 114)), ((3, 63, 8, 2), (0, 156)), ((3, 86, 0, 1), (1, 50)), ((3, 98, 0, 0), (1, 46)), ((3, 132, 1, 6), (0, 228))]
set_option maxRecDepth 100000 in
theorem am_FL_o3_0_ok : am_FL_o3_0.map (fun q => am_pw q.2) = am_FL_o3_0.map (fun q => some (Cond.fieldLink (am_cn q.1.1) q.1.2.1 (am_rc q.1.1 q.1.2.2.1 q.1.2.2.2) ((am_vc q.1.2.2.1).2.1 q.1.2.2.2).2.1 ((am_vc q.1.2.2.1).2.1 q.1.2.2.2).2.2.1)) := by rfl
def am_FL_o3 : List ((Nat × Nat × Nat × Nat) × (Nat × Nat)) := am_FL_o3_0
theorem am_FL_o3_ok : am_FL_o3.map (fun q => am_pw q.2) = am_FL_o3.map (fun q => some (Cond.fieldLink (am_cn q.1.1) q.1.2.1 (am_rc q.1.1 q.1.2.2.1 q.1.2.2.2) ((am_vc q.1.2.2.1).2.1 q.1.2.2.2).2.1 ((am_vc q.1.2.2.1).2.1 q.1.2.2.2).2.2.1)) := by
  simp only [am_FL_o3, List.map_append, am_FL_o3_0_ok]
def am_FL_o4_0 : List ((Nat × Nat × Nat × Nat) × (Nat × Nat)) := [((4, 11, 4, 0), (1, 19)), ((4, 15, 4, 1), (1, 20))]
set_option maxRecDepth 100000 in
theorem am_FL_o4_0_ok : am_FL_o4_0.map (fun q => am_pw q.2) = am_FL_o4_0.map (fun q => some (Cond.fieldLink (am_cn q.1.1) q.1.2.1 (am_rc q.1.1 q.1.2.2.1 q.1.2.2.2) ((am_vc q.1.2.2.1).2.1 q.1.2.2.2).2.1 ((am_vc q.1.2.2.1).2.1 q.1.2.2.2).2.2.1)) := by rfl
def am_FL_o4 : List ((Nat × Nat × Nat × Nat) × (Nat × Nat)) := am_FL_o4_0
theorem am_FL_o4_ok : am_FL_o4.map (fun q => am_pw q.2) = am_FL_o4.map (fun q => some (Cond.fieldLink (am_cn q.1.1) q.1.2.1 (am_rc q.1.1 q.1.2.2.1 q.1.2.2.2) ((am_vc q.1.2.2.1).2.1 q.1.2.2.2).2.1 ((am_vc q.1.2.2.1).2.1 q.1.2.2.2).2.2.1)) := by
  simp only [am_FL_o4, List.map_append, am_FL_o4_0_ok]
def am_FL_o5_0 : List ((Nat × Nat × Nat × Nat) × (Nat × Nat)) := [((5, 14, 5, 0), (0, 188))]
set_option maxRecDepth 100000 in
theorem am_FL_o5_0_ok : am_FL_o5_0.map (fun q => am_pw q.2) = am_FL_o5_0.map (fun q => some (Cond.fieldLink (am_cn q.1.1) q.1.2.1 (am_rc q.1.1 q.1.2.2.1 q.1.2.2.2) ((am_vc q.1.2.2.1).2.1 q.1.2.2.2).2.1 ((am_vc q.1.2.2.1).2.1 q.1.2.2.2).2.2.1)) := by rfl
def am_FL_o5 : List ((Nat × Nat × Nat × Nat) × (Nat × Nat)) := am_FL_o5_0
theorem am_FL_o5_ok : am_FL_o5.map (fun q => am_pw q.2) = am_FL_o5.map (fun q => some (Cond.fieldLink (am_cn q.1.1) q.1.2.1 (am_rc q.1.1 q.1.2.2.1 q.1.2.2.2) ((am_vc q.1.2.2.1).2.1 q.1.2.2.2).2.1 ((am_vc q.1.2.2.1).2.1 q.1.2.2.2).2.2.1)) := by
  simp only [am_FL_o5, List.map_append, am_FL_o5_0_ok]
def am_FL_o6_0 : List ((Nat × Nat × Nat × Nat) × (Nat × Nat)) := [((6, 9, 6, 0), (0, 204)), ((6, 15, 6, 1), (0, 205))]
set_option maxRecDepth 100000 in
theorem am_FL_o6_0_ok : am_FL_o6_0.map (fun q => am_pw q.2) = am_FL_o6_0.map (fun q => some (Cond.fieldLink (am_cn q.1.1) q.1.2.1 (am_rc q.1.1 q.1.2.2.1 q.1.2.2.2) ((am_vc q.1.2.2.1).2.1 q.1.2.2.2).2.1 ((am_vc q.1.2.2.1).2.1 q.1.2.2.2).2.2.1)) := by rfl
def am_FL_o6 : List ((Nat × Nat × Nat × Nat) × (Nat × Nat)) := am_FL_o6_0
theorem am_FL_o6_ok : am_FL_o6.map (fun q => am_pw q.2) = am_FL_o6.map (fun q => some (Cond.fieldLink (am_cn q.1.1) q.1.2.1 (am_rc q.1.1 q.1.2.2.1 q.1.2.2.2) ((am_vc q.1.2.2.1).2.1 q.1.2.2.2).2.1 ((am_vc q.1.2.2.1).2.1 q.1.2.2.2).2.2.1)) := by
  simp only [am_FL_o6, List.map_append, am_FL_o6_0_ok]
def am_FL_o7_0 : List ((Nat × Nat × Nat × Nat) × (Nat × Nat)) := [((7, 14, 7, 1), (0, 168)), ((7, 20, 7, 0), (0, 167)), ((7, 24, 7, 2), (0, 169)), ((7, 28, 3, 1), (1, 118)), ((7, 34, 7, 3), (0, 170)), ((7, 69, 0, 0), (1, 44)), ((7, 97, 0, 1), (1, 48)), ((7, 141, 3, 2), (1, 122)), ((7, 144, 8, 2), (0, 157)), ((7, 157, 3, 3), (1, 126))]
set_option maxRecDepth 100000 in
theorem am_FL_o7_0_ok : am_FL_o7_0.map (fun q => am_pw q.2) = am_FL_o7_0.map (fun q => some (Cond.fieldLink (am_cn q.1.1) q.1.2.1 (am_rc q.1.1 q.1.2.2.1 q.1.2.2.2) ((am_vc q.1.2.2.1).2.1 q.1.2.2.2).2.1 ((am_vc q.1.2.2.1).2.1 q.1.2.2.2).2.2.1)) := by rfl
def am_FL_o7 : List ((Nat × Nat × Nat × Nat) × (Nat × Nat)) := am_FL_o7_0
theorem am_FL_o7_ok : am_FL_o7.map (fun q => am_pw q.2) = am_FL_o7.map (fun q => some (Cond.fieldLink (am_cn q.1.1) q.1.2.1 (am_rc q.1.1 q.1.2.2.1 q.1.2.2.2) ((am_vc q.1.2.2.1).2.1 q.1.2.2.2).2.1 ((am_vc q.1.2.2.1).2.1 q.1.2.2.2).2.2.1)) := by
  simp only [am_FL_o7, List.map_append, am_FL_o7_0_ok]
def am_FL_o8_0 : List ((Nat × Nat × Nat × Nat) × (Nat × Nat)) := [((8, 7, 8, 0), (0, 152)), ((8, 19, 8, 1), (0, 153)), ((8, 23, 8, 2), (0, 155))]
set_option maxRecDepth 100000 in
theorem am_FL_o8_0_ok : am_FL_o8_0.map (fun q => am_pw q.2) = am_FL_o8_0.map (fun q => some (Cond.fieldLink (am_cn q.1.1) q.1.2.1 (am_rc q.1.1 q.1.2.2.1 q.1.2.2.2) ((am_vc q.1.2.2.1).2.1 q.1.2.2.2).2.1 ((am_vc q.1.2.2.1).2.1 q.1.2.2.2).2.2.1)) := by rfl
def am_FL_o8 : List ((Nat × Nat × Nat × Nat) × (Nat × Nat)) := am_FL_o8_0
theorem am_FL_o8_ok : am_FL_o8.map (fun q => am_pw q.2) = am_FL_o8.map (fun q => some (Cond.fieldLink (am_cn q.1.1) q.1.2.1 (am_rc q.1.1 q.1.2.2.1 q.1.2.2.2) ((am_vc q.1.2.2.1).2.1 q.1.2.2.2).2.1 ((am_vc q.1.2.2.1).2.1 q.1.2.2.2).2.2.1)) := by
  simp only [am_FL_o8, List.map_append, am_FL_o8_0_ok]
def am_FL_o9_0 : List ((Nat × Nat × Nat × Nat) × (Nat × Nat)) := [((9, 11, 9, 0), (0, 104)), ((9, 15, 9, 1), (0, 105)), ((9, 19, 9, 2), (0, 106)), ((9, 22, 9, 3), (0, 107)), ((9, 25, 9, 7), (0, 112)), ((9, 47, 9, 6), (0, 110)), ((9, 50, 9, 8), (0, 113)), ((9, 53, 9, 4), (0, 108)), ((9, 56, 9, 5), (0, 109))]
set_option maxRecDepth 100000 in
theorem am_FL_o9_0_ok : am_FL_o9_0.map (fun q => am_pw q.2) = am_FL_o9_0.map (fun q => some (Cond.fieldLink (am_cn q.1.1) q.1.2.1 (am_rc q.1.1 q.1.2.2.1 q.1.2.2.2) ((am_vc q.1.2.2.1).2.1 q.1.2.2.2).2.1 ((am_vc q.1.2.2.1).2.1 q.1.2.2.2).2.2.1)) := by rfl
def am_FL_o9 : List ((Nat × Nat × Nat × Nat) × (Nat × Nat)) := am_FL_o9_0
theorem am_FL_o9_ok : am_FL_o9.map (fun q => am_pw q.2) = am_FL_o9.map (fun q => some (Cond.fieldLink (am_cn q.1.1) q.1.2.1 (am_rc q.1.1 q.1.2.2.1 q.1.2.2.2) ((am_vc q.1.2.2.1).2.1 q.1.2.2.2).2.1 ((am_vc q.1.2.2.1).2.1 q.1.2.2.2).2.2.1)) := by
  simp only [am_FL_o9, List.map_append, am_FL_o9_0_ok]
def am_FL_o10_0 : List ((Nat × Nat × Nat × Nat) × (Nat × Nat)) := [((10, 9, 10, 0), (1, 145)), ((10, 16, 10, 2), (1, 147)), ((10, 25, 10, 3), (1, 148)), ((10, 32, 10, 5), (1, 150)), ((10, 41, 10, 4), (1, 149)), ((10, 48, 10, 6), (1, 151)), ((10, 55, 10, 7), (1, 152)), ((10, 61, 10, 8), (1, 153)), ((10, 66, 10, 10), (1, 155)), ((10, 70, 10, 12), (1, 156)), ((10, 73, 10, 13), (1, 157)), ((10, 76, 10, 1), (1, 146)), ((10, 103, 10, 9), (1, 154)), ((10, 106, 3, 1), (1, 119)), ((10, 110, 0, 1), (1, 49)), ((10, 134, 8, 2), (0, 159)), ((10, 150, 9, 6), (0, 111)), ((10, 156, 9, 8), (0, 114)), ((10, 159, 0, 0), (1, 45)), ((10, 162, 3, 2), (1, 123)), ((10, 165, 3, 3), (1, 127)), ((10, 168, 3, 0), (1, 115)), ((10, 171, 3, 5), (1, 131)), ((10, 181, 2, 7), (1, 96)), ((10, 284, 3, 4), (1, 129))]
set_option maxRecDepth 100000 in
theorem am_FL_o10_0_ok : am_FL_o10_0.map (fun q => am_pw q.2) = am_FL_o10_0.map (fun q => some (Cond.fieldLink (am_cn q.1.1) q.1.2.1 (am_rc q.1.1 q.1.2.2.1 q.1.2.2.2) ((am_vc q.1.2.2.1).2.1 q.1.2.2.2).2.1 ((am_vc q.1.2.2.1).2.1 q.1.2.2.2).2.2.1)) := by rfl
def am_FL_o10 : List ((Nat × Nat × Nat × Nat) × (Nat × Nat)) := am_FL_o10_0
theorem am_FL_o10_ok : am_FL_o10.map (fun q => am_pw q.2) = am_FL_o10.map (fun q => some (Cond.fieldLink (am_cn q.1.1) q.1.2.1 (am_rc q.1.1 q.1.2.2.1 q.1.2.2.2) ((am_vc q.1.2.2.1).2.1 q.1.2.2.2).2.1 ((am_vc q.1.2.2.1).2.1 q.1.2.2.2).2.2.1)) := by
  simp only [am_FL_o10, List.map_append, am_FL_o10_0_ok]
def am_FL_o11_0 : List ((Nat × Nat × Nat × Nat) × (Nat × Nat)) := [((11, 10, 11, 0), (4, 175)), ((11, 16, 11, 1), (4, 177))]
set_option maxRecDepth 100000 in
theorem am_FL_o11_0_ok : am_FL_o11_0.map (fun q => am_pw q.2) = am_FL_o11_0.map (fun q => some (Cond.fieldLink (am_cn q.1.1) q.1.2.1 (am_rc q.1.1 q.1.2.2.1 q.1.2.2.2) ((am_vc q.1.2.2.1).2.1 q.1.2.2.2).2.1 ((am_vc q.1.2.2.1).2.1 q.1.2.2.2).2.2.1)) := by rfl
def am_FL_o11 : List ((Nat × Nat × Nat × Nat) × (Nat × Nat)) := am_FL_o11_0
theorem am_FL_o11_ok : am_FL_o11.map (fun q => am_pw q.2) = am_FL_o11.map (fun q => some (Cond.fieldLink (am_cn q.1.1) q.1.2.1 (am_rc q.1.1 q.1.2.2.1 q.1.2.2.2) ((am_vc q.1.2.2.1).2.1 q.1.2.2.2).2.1 ((am_vc q.1.2.2.1).2.1 q.1.2.2.2).2.2.1)) := by
  simp only [am_FL_o11, List.map_append, am_FL_o11_0_ok]
def am_FL_o12_0 : List ((Nat × Nat × Nat × Nat) × (Nat × Nat)) := [((12, 10, 12, 3), (3, 86)), ((12, 16, 12, 4), (3, 88)), ((12, 19, 12, 5), (3, 90)), ((12, 22, 12, 6), (3, 92)), ((12, 26, 12, 7), (3, 94)), ((12, 30, 12, 8), (3, 96)), ((12, 35, 12, 9), (3, 97)), ((12, 38, 12, 10), (3, 99)), ((12, 41, 12, 11), (3, 100)), ((12, 44, 12, 12), (3, 101)), ((12, 47, 12, 13), (3, 103)), ((12, 52, 12, 14), (3, 105)), ((12, 56, 12, 16), (3, 108)), ((12, 59, 12, 17), (3, 109)), ((12, 69, 12, 15), (3, 107)), ((12, 94, 12, 0), (3, 81)), ((12, 141, 11, 1), (4, 178)), ((12, 161, 11, 0), (4, 176)), ((12, 216, 12, 1), (3, 83)), ((12, 219, 12, 2), (3, 85))]
set_option maxRecDepth 100000 in
theorem am_FL_o12_0_ok : am_FL_o12_0.map (fun q => am_pw q.2) = am_FL_o12_0.map (fun q => some (Cond.fieldLink (am_cn q.1.1) q.1.2.1 (am_rc q.1.1 q.1.2.2.1 q.1.2.2.2) ((am_vc q.1.2.2.1).2.1 q.1.2.2.2).2.1 ((am_vc q.1.2.2.1).2.1 q.1.2.2.2).2.2.1)) := by rfl
def am_FL_o12 : List ((Nat × Nat × Nat × Nat) × (Nat × Nat)) := am_FL_o12_0
theorem am_FL_o12_ok : am_FL_o12.map (fun q => am_pw q.2) = am_FL_o12.map (fun q => some (Cond.fieldLink (am_cn q.1.1) q.1.2.1 (am_rc q.1.1 q.1.2.2.1 q.1.2.2.2) ((am_vc q.1.2.2.1).2.1 q.1.2.2.2).2.1 ((am_vc q.1.2.2.1).2.1 q.1.2.2.2).2.2.1)) := by
  simp only [am_FL_o12, List.map_append, am_FL_o12_0_ok]
def am_FL_o14_0 : List ((Nat × Nat × Nat × Nat) × (Nat × Nat)) := [((14, 9, 14, 0), (4, 110)), ((14, 15, 14, 1), (4, 111)), ((14, 1048, 13, 2), (3, 166))]
set_option maxRecDepth 100000 in
theorem am_FL_o14_0_ok : am_FL_o14_0.map (fun q => am_pw q.2) = am_FL_o14_0.map (fun q => some (Cond.fieldLink (am_cn q.1.1) q.1.2.1 (am_rc q.1.1 q.1.2.2.1 q.1.2.2.2) ((am_vc q.1.2.2.1).2.1 q.1.2.2.2).2.1 ((am_vc q.1.2.2.1).2.1 q.1.2.2.2).2.2.1)) := by rfl
def am_FL_o14 : List ((Nat × Nat × Nat × Nat) × (Nat × Nat)) := am_FL_o14_0
theorem am_FL_o14_ok : am_FL_o14.map (fun q => am_pw q.2) = am_FL_o14.map (fun q => some (Cond.fieldLink (am_cn q.1.1) q.1.2.1 (am_rc q.1.1 q.1.2.2.1 q.1.2.2.2) ((am_vc q.1.2.2.1).2.1 q.1.2.2.2).2.1 ((am_vc q.1.2.2.1).2.1 q.1.2.2.2).2.2.1)) := by
  simp only [am_FL_o14, List.map_append, am_FL_o14_0_ok]
def am_FL_o15_0 : List ((Nat × Nat × Nat × Nat) × (Nat × Nat)) := [((15, 9, 15, 1), (3, 62)), ((15, 48, 15, 2), (3, 65)), ((15, 63, 15, 0), (3, 69))]
set_option maxRecDepth 100000 in
theorem am_FL_o15_0_ok : am_FL_o15_0.map (fun q => am_pw q.2) = am_FL_o15_0.map (fun q => some (Cond.fieldLink (am_cn q.1.1) q.1.2.1 (am_rc q.1.1 q.1.2.2.1 q.1.2.2.2) ((am_vc q.1.2.2.1).2.1 q.1.2.2.2).2.1 ((am_vc q.1.2.2.1).2.1 q.1.2.2.2).2.2.1)) := by rfl
def am_FL_o15 : List ((Nat × Nat × Nat × Nat) × (Nat × Nat)) := am_FL_o15_0
theorem am_FL_o15_ok : am_FL_o15.map (fun q => am_pw q.2) = am_FL_o15.map (fun q => some (Cond.fieldLink (am_cn q.1.1) q.1.2.1 (am_rc q.1.1 q.1.2.2.1 q.1.2.2.2) ((am_vc q.1.2.2.1).2.1 q.1.2.2.2).2.1 ((am_vc q.1.2.2.1).2.1 q.1.2.2.2).2.2.1)) := by
  simp only [am_FL_o15, List.map_append, am_FL_o15_0_ok]
def am_FL_o16_0 : List ((Nat × Nat × Nat × Nat) × (Nat × Nat)) := [((16, 1, 16, 3), (5, 56)), ((16, 13, 16, 1), (5, 54)), ((16, 17, 15, 0), (3, 67)), ((16, 22, 16, 2), (5, 55)), ((16, 25, 16, 0), (5, 53)), ((16, 37, 15, 1), (3, 63))]
set_option maxRecDepth 100000 in
theorem am_FL_o16_0_ok : am_FL_o16_0.map (fun q => am_pw q.2) = am_FL_o16_0.map (fun q => some (Cond.fieldLink (am_cn q.1.1) q.1.2.1 (am_rc q.1.1 q.1.2.2.1 q.1.2.2.2) ((am_vc q.1.2.2.1).2.1 q.1.2.2.2).2.1 ((am_vc q.1.2.2.1).2.1 q.1.2.2.2).2.2.1)) := by rfl
def am_FL_o16 : List ((Nat × Nat × Nat × Nat) × (Nat × Nat)) := am_FL_o16_0
theorem am_FL_o16_ok : am_FL_o16.map (fun q => am_pw q.2) = am_FL_o16.map (fun q => some (Cond.fieldLink (am_cn q.1.1) q.1.2.1 (am_rc q.1.1 q.1.2.2.1 q.1.2.2.2) ((am_vc q.1.2.2.1).2.1 q.1.2.2.2).2.1 ((am_vc q.1.2.2.1).2.1 q.1.2.2.2).2.2.1)) := by
  simp only [am_FL_o16, List.map_append, am_FL_o16_0_ok]
def am_FL_o17_0 : List ((Nat × Nat × Nat × Nat) × (Nat × Nat)) := [((17, 42, 12, 1), (3, 82)), ((17, 48, 12, 2), (3, 84)), ((17, 51, 12, 12), (3, 102)), ((17, 63, 12, 13), (3, 104)), ((17, 65, 12, 0), (3, 80)), ((17, 72, 12, 7), (3, 95)), ((17, 79, 12, 9), (3, 98)), ((17, 85, 12, 6), (3, 93)), ((17, 88, 12, 5), (3, 91)), ((17, 100, 12, 4), (3, 89)), ((17, 110, 12, 3), (3, 87)), ((17, 194, 12, 14), (3, 106))]
set_option maxRecDepth 100000 in
theorem am_FL_o17_0_ok : am_FL_o17_0.map (fun q => am_pw q.2) = am_FL_o17_0.map (fun q => some (Cond.fieldLink (am_cn q.1.1) q.1.2.1 (am_rc q.1.1 q.1.2.2.1 q.1.2.2.2) ((am_vc q.1.2.2.1).2.1 q.1.2.2.2).2.1 ((am_vc q.1.2.2.1).2.1 q.1.2.2.2).2.2.1)) := by rfl
def am_FL_o17 : List ((Nat × Nat × Nat × Nat) × (Nat × Nat)) := am_FL_o17_0
theorem am_FL_o17_ok : am_FL_o17.map (fun q => am_pw q.2) = am_FL_o17.map (fun q => some (Cond.fieldLink (am_cn q.1.1) q.1.2.1 (am_rc q.1.1 q.1.2.2.1 q.1.2.2.2) ((am_vc q.1.2.2.1).2.1 q.1.2.2.2).2.1 ((am_vc q.1.2.2.1).2.1 q.1.2.2.2).2.2.1)) := by
  simp only [am_FL_o17, List.map_append, am_FL_o17_0_ok]
def am_FL_o21_0 : List ((Nat × Nat × Nat × Nat) × (Nat × Nat)) := [((21, 15, 13, 0), (3, 164)), ((21, 22, 13, 1), (3, 165)), ((21, 79, 13, 3), (3, 167))]
set_option maxRecDepth 100000 in
theorem am_FL_o21_0_ok : am_FL_o21_0.map (fun q => am_pw q.2) = am_FL_o21_0.map (fun q => some (Cond.fieldLink (am_cn q.1.1) q.1.2.1 (am_rc q.1.1 q.1.2.2.1 q.1.2.2.2) ((am_vc q.1.2.2.1).2.1 q.1.2.2.2).2.1 ((am_vc q.1.2.2.1).2.1 q.1.2.2.2).2.2.1)) := by rfl
def am_FL_o21 : List ((Nat × Nat × Nat × Nat) × (Nat × Nat)) := am_FL_o21_0
theorem am_FL_o21_ok : am_FL_o21.map (fun q => am_pw q.2) = am_FL_o21.map (fun q => some (Cond.fieldLink (am_cn q.1.1) q.1.2.1 (am_rc q.1.1 q.1.2.2.1 q.1.2.2.2) ((am_vc q.1.2.2.1).2.1 q.1.2.2.2).2.1 ((am_vc q.1.2.2.1).2.1 q.1.2.2.2).2.2.1)) := by
  simp only [am_FL_o21, List.map_append, am_FL_o21_0_ok]
def am_FL_o25_0 : List ((Nat × Nat × Nat × Nat) × (Nat × Nat)) := [((25, 7, 15, 0), (3, 66))]
set_option maxRecDepth 100000 in
theorem am_FL_o25_0_ok : am_FL_o25_0.map (fun q => am_pw q.2) = am_FL_o25_0.map (fun q => some (Cond.fieldLink (am_cn q.1.1) q.1.2.1 (am_rc q.1.1 q.1.2.2.1 q.1.2.2.2) ((am_vc q.1.2.2.1).2.1 q.1.2.2.2).2.1 ((am_vc q.1.2.2.1).2.1 q.1.2.2.2).2.2.1)) := by rfl
def am_FL_o25 : List ((Nat × Nat × Nat × Nat) × (Nat × Nat)) := am_FL_o25_0
theorem am_FL_o25_ok : am_FL_o25.map (fun q => am_pw q.2) = am_FL_o25.map (fun q => some (Cond.fieldLink (am_cn q.1.1) q.1.2.1 (am_rc q.1.1 q.1.2.2.1 q.1.2.2.2) ((am_vc q.1.2.2.1).2.1 q.1.2.2.2).2.1 ((am_vc q.1.2.2.1).2.1 q.1.2.2.2).2.2.1)) := by
  simp only [am_FL_o25, List.map_append, am_FL_o25_0_ok]
def am_FLo : Nat → List ((Nat × Nat × Nat × Nat) × (Nat × Nat)) := fun k => match k with
  | 0 => am_FL_o0
  | 1 => am_FL_o1
  | 2 => am_FL_o2
  | 3 => am_FL_o3
  | 4 => am_FL_o4
  | 5 => am_FL_o5
  | 6 => am_FL_o6
  | 7 => am_FL_o7
  | 8 => am_FL_o8
  | 9 => am_FL_o9
  | 10 => am_FL_o10
  | 11 => am_FL_o11
  | 12 => am_FL_o12
  | 14 => am_FL_o14
  | 15 => am_FL_o15
  | 16 => am_FL_o16
  | 17 => am_FL_o17
  | 21 => am_FL_o21
  | 25 => am_FL_o25
  | _ => []
theorem am_FLo_ok : ∀ k, (am_FLo k).map (fun q => am_pw q.2) = (am_FLo k).map (fun q => some (Cond.fieldLink (am_cn q.1.1) q.1.2.1 (am_rc q.1.1 q.1.2.2.1 q.1.2.2.2) ((am_vc q.1.2.2.1).2.1 q.1.2.2.2).2.1 ((am_vc q.1.2.2.1).2.1 q.1.2.2.2).2.2.1)) := by
  intro k
  unfold am_FLo
  split
  · exact am_FL_o0_ok
  · exact am_FL_o1_ok
  · exact am_FL_o2_ok
  · exact am_FL_o3_ok
  · exact am_FL_o4_ok
  · exact am_FL_o5_ok
  · exact am_FL_o6_ok
  · exact am_FL_o7_ok
  · exact am_FL_o8_ok
  · exact am_FL_o9_ok
  · exact am_FL_o10_ok
  · exact am_FL_o11_ok
  · exact am_FL_o12_ok
  · exact am_FL_o14_ok
  · exact am_FL_o15_ok
  · exact am_FL_o16_ok
  · exact am_FL_o17_ok
  · exact am_FL_o21_ok
  · exact am_FL_o25_ok
  · rfl
def am_FN_o16_0 : List ((Nat × Nat × Nat × Nat) × (Nat × Nat)) := [((16, 28, 15, 2), (3, 64))]
set_option maxRecDepth 100000 in
theorem am_FN_o16_0_ok : am_FN_o16_0.map (fun q => am_pw q.2) = am_FN_o16_0.map (fun q => some (Cond.fieldLinkNest (am_cn q.1.1) q.1.2.1 (am_rc q.1.1 q.1.2.2.1 q.1.2.2.2) ((am_vc q.1.2.2.1).2.1 q.1.2.2.2).2.1 ((am_vc q.1.2.2.1).2.1 q.1.2.2.2).2.2.1 "java/util/ArrayList")) := by rfl
def am_FN_o16 : List ((Nat × Nat × Nat × Nat) × (Nat × Nat)) := am_FN_o16_0
theorem am_FN_o16_ok : am_FN_o16.map (fun q => am_pw q.2) = am_FN_o16.map (fun q => some (Cond.fieldLinkNest (am_cn q.1.1) q.1.2.1 (am_rc q.1.1 q.1.2.2.1 q.1.2.2.2) ((am_vc q.1.2.2.1).2.1 q.1.2.2.2).2.1 ((am_vc q.1.2.2.1).2.1 q.1.2.2.2).2.2.1 "java/util/ArrayList")) := by
  simp only [am_FN_o16, List.map_append, am_FN_o16_0_ok]
def am_FNo : Nat → List ((Nat × Nat × Nat × Nat) × (Nat × Nat)) := fun k => match k with
  | 16 => am_FN_o16
  | _ => []
theorem am_FNo_ok : ∀ k, (am_FNo k).map (fun q => am_pw q.2) = (am_FNo k).map (fun q => some (Cond.fieldLinkNest (am_cn q.1.1) q.1.2.1 (am_rc q.1.1 q.1.2.2.1 q.1.2.2.2) ((am_vc q.1.2.2.1).2.1 q.1.2.2.2).2.1 ((am_vc q.1.2.2.1).2.1 q.1.2.2.2).2.2.1 "java/util/ArrayList")) := by
  intro k
  unfold am_FNo
  split
  · exact am_FN_o16_ok
  · rfl
def am_KI_o7_0 : List ((Nat × Nat × Int32) × (Nat × Nat)) := [((7, 85, 99999), (2, 132)), ((7, 160, 999999), (3, 34))]
set_option maxRecDepth 100000 in
theorem am_KI_o7_0_ok : am_KI_o7_0.map (fun q => am_pw q.2) = am_KI_o7_0.map (fun q => some (Cond.constant (am_cn q.1.1) q.1.2.1 q.1.2.2)) := by rfl
def am_KI_o7 : List ((Nat × Nat × Int32) × (Nat × Nat)) := am_KI_o7_0
theorem am_KI_o7_ok : am_KI_o7.map (fun q => am_pw q.2) = am_KI_o7.map (fun q => some (Cond.constant (am_cn q.1.1) q.1.2.1 q.1.2.2)) := by
  simp only [am_KI_o7, List.map_append, am_KI_o7_0_ok]
def am_KI_o10_0 : List ((Nat × Nat × Int32) × (Nat × Nat)) := [((10, 373, 9999999), (5, 188)), ((10, 374, 99999), (6, 166))]
set_option maxRecDepth 100000 in
theorem am_KI_o10_0_ok : am_KI_o10_0.map (fun q => am_pw q.2) = am_KI_o10_0.map (fun q => some (Cond.constant (am_cn q.1.1) q.1.2.1 q.1.2.2)) := by rfl
def am_KI_o10 : List ((Nat × Nat × Int32) × (Nat × Nat)) := am_KI_o10_0
theorem am_KI_o10_ok : am_KI_o10.map (fun q => am_pw q.2) = am_KI_o10.map (fun q => some (Cond.constant (am_cn q.1.1) q.1.2.1 q.1.2.2)) := by
  simp only [am_KI_o10, List.map_append, am_KI_o10_0_ok]
def am_KI_o17_0 : List ((Nat × Nat × Int32) × (Nat × Nat)) := [((17, 7, 1664525), (3, 187)), ((17, 14, 2147483647), (3, 188)), ((17, 218, 50000), (7, 76))]
set_option maxRecDepth 100000 in
theorem am_KI_o17_0_ok : am_KI_o17_0.map (fun q => am_pw q.2) = am_KI_o17_0.map (fun q => some (Cond.constant (am_cn q.1.1) q.1.2.1 q.1.2.2)) := by rfl
def am_KI_o17 : List ((Nat × Nat × Int32) × (Nat × Nat)) := am_KI_o17_0
theorem am_KI_o17_ok : am_KI_o17.map (fun q => am_pw q.2) = am_KI_o17.map (fun q => some (Cond.constant (am_cn q.1.1) q.1.2.1 q.1.2.2)) := by
  simp only [am_KI_o17, List.map_append, am_KI_o17_0_ok]
def am_KI_o21_0 : List ((Nat × Nat × Int32) × (Nat × Nat)) := [((21, 39, 2147483647), (3, 217))]
set_option maxRecDepth 100000 in
theorem am_KI_o21_0_ok : am_KI_o21_0.map (fun q => am_pw q.2) = am_KI_o21_0.map (fun q => some (Cond.constant (am_cn q.1.1) q.1.2.1 q.1.2.2)) := by rfl
def am_KI_o21 : List ((Nat × Nat × Int32) × (Nat × Nat)) := am_KI_o21_0
theorem am_KI_o21_ok : am_KI_o21.map (fun q => am_pw q.2) = am_KI_o21.map (fun q => some (Cond.constant (am_cn q.1.1) q.1.2.1 q.1.2.2)) := by
  simp only [am_KI_o21, List.map_append, am_KI_o21_0_ok]
def am_KI_o23_0 : List ((Nat × Nat × Int32) × (Nat × Nat)) := [((23, 200, 2147483639), (3, 213))]
set_option maxRecDepth 100000 in
theorem am_KI_o23_0_ok : am_KI_o23_0.map (fun q => am_pw q.2) = am_KI_o23_0.map (fun q => some (Cond.constant (am_cn q.1.1) q.1.2.1 q.1.2.2)) := by rfl
def am_KI_o23 : List ((Nat × Nat × Int32) × (Nat × Nat)) := am_KI_o23_0
theorem am_KI_o23_ok : am_KI_o23.map (fun q => am_pw q.2) = am_KI_o23.map (fun q => some (Cond.constant (am_cn q.1.1) q.1.2.1 q.1.2.2)) := by
  simp only [am_KI_o23, List.map_append, am_KI_o23_0_ok]
def am_KIo : Nat → List ((Nat × Nat × Int32) × (Nat × Nat)) := fun k => match k with
  | 7 => am_KI_o7
  | 10 => am_KI_o10
  | 17 => am_KI_o17
  | 21 => am_KI_o21
  | 23 => am_KI_o23
  | _ => []
theorem am_KIo_ok : ∀ k, (am_KIo k).map (fun q => am_pw q.2) = (am_KIo k).map (fun q => some (Cond.constant (am_cn q.1.1) q.1.2.1 q.1.2.2)) := by
  intro k
  unfold am_KIo
  split
  · exact am_KI_o7_ok
  · exact am_KI_o10_ok
  · exact am_KI_o17_ok
  · exact am_KI_o21_ok
  · exact am_KI_o23_ok
  · rfl
def am_KL_o9_0 : List ((Nat × Nat × Int64) × (Nat × Nat)) := [((9, 45, 32), (0, 103)), ((9, 90, 10), (1, 228))]
set_option maxRecDepth 100000 in
theorem am_KL_o9_0_ok : am_KL_o9_0.map (fun q => am_pw q.2) = am_KL_o9_0.map (fun q => some (Cond.constantLong (am_cn q.1.1) q.1.2.1 q.1.2.2)) := by rfl
def am_KL_o9 : List ((Nat × Nat × Int64) × (Nat × Nat)) := am_KL_o9_0
theorem am_KL_o9_ok : am_KL_o9.map (fun q => am_pw q.2) = am_KL_o9.map (fun q => some (Cond.constantLong (am_cn q.1.1) q.1.2.1 q.1.2.2)) := by
  simp only [am_KL_o9, List.map_append, am_KL_o9_0_ok]
def am_KLo : Nat → List ((Nat × Nat × Int64) × (Nat × Nat)) := fun k => match k with
  | 9 => am_KL_o9
  | _ => []
theorem am_KLo_ok : ∀ k, (am_KLo k).map (fun q => am_pw q.2) = (am_KLo k).map (fun q => some (Cond.constantLong (am_cn q.1.1) q.1.2.1 q.1.2.2)) := by
  intro k
  unfold am_KLo
  split
  · exact am_KL_o9_ok
  · rfl
def am_CL_o0_0 : List ((Nat × Nat × Nat) × (Nat × Nat)) := [((0, 28, 8), (1, 41))]
set_option maxRecDepth 100000 in
theorem am_CL_o0_0_ok : am_CL_o0_0.map (fun q => am_pw q.2) = am_CL_o0_0.map (fun q => some (Cond.classLink (am_cn q.1.1) q.1.2.1 (am_vc q.1.2.2).1)) := by rfl
def am_CL_o0 : List ((Nat × Nat × Nat) × (Nat × Nat)) := am_CL_o0_0
theorem am_CL_o0_ok : am_CL_o0.map (fun q => am_pw q.2) = am_CL_o0.map (fun q => some (Cond.classLink (am_cn q.1.1) q.1.2.1 (am_vc q.1.2.2).1)) := by
  simp only [am_CL_o0, List.map_append, am_CL_o0_0_ok]
def am_CL_o1_0 : List ((Nat × Nat × Nat) × (Nat × Nat)) := [((1, 30, 8), (0, 219))]
set_option maxRecDepth 100000 in
theorem am_CL_o1_0_ok : am_CL_o1_0.map (fun q => am_pw q.2) = am_CL_o1_0.map (fun q => some (Cond.classLink (am_cn q.1.1) q.1.2.1 (am_vc q.1.2.2).1)) := by rfl
def am_CL_o1 : List ((Nat × Nat × Nat) × (Nat × Nat)) := am_CL_o1_0
theorem am_CL_o1_ok : am_CL_o1.map (fun q => am_pw q.2) = am_CL_o1.map (fun q => some (Cond.classLink (am_cn q.1.1) q.1.2.1 (am_vc q.1.2.2).1)) := by
  simp only [am_CL_o1, List.map_append, am_CL_o1_0_ok]
def am_CL_o3_0 : List ((Nat × Nat × Nat) × (Nat × Nat)) := [((3, 9, 0), (1, 35)), ((3, 18, 8), (1, 80)), ((3, 33, 2), (1, 82))]
set_option maxRecDepth 100000 in
theorem am_CL_o3_0_ok : am_CL_o3_0.map (fun q => am_pw q.2) = am_CL_o3_0.map (fun q => some (Cond.classLink (am_cn q.1.1) q.1.2.1 (am_vc q.1.2.2).1)) := by rfl
def am_CL_o3 : List ((Nat × Nat × Nat) × (Nat × Nat)) := am_CL_o3_0
theorem am_CL_o3_ok : am_CL_o3.map (fun q => am_pw q.2) = am_CL_o3.map (fun q => some (Cond.classLink (am_cn q.1.1) q.1.2.1 (am_vc q.1.2.2).1)) := by
  simp only [am_CL_o3, List.map_append, am_CL_o3_0_ok]
def am_CL_o5_0 : List ((Nat × Nat × Nat) × (Nat × Nat)) := [((5, 9, 8), (0, 186))]
set_option maxRecDepth 100000 in
theorem am_CL_o5_0_ok : am_CL_o5_0.map (fun q => am_pw q.2) = am_CL_o5_0.map (fun q => some (Cond.classLink (am_cn q.1.1) q.1.2.1 (am_vc q.1.2.2).1)) := by rfl
def am_CL_o5 : List ((Nat × Nat × Nat) × (Nat × Nat)) := am_CL_o5_0
theorem am_CL_o5_ok : am_CL_o5.map (fun q => am_pw q.2) = am_CL_o5.map (fun q => some (Cond.classLink (am_cn q.1.1) q.1.2.1 (am_vc q.1.2.2).1)) := by
  simp only [am_CL_o5, List.map_append, am_CL_o5_0_ok]
def am_CL_o7_0 : List ((Nat × Nat × Nat) × (Nat × Nat)) := [((7, 9, 8), (0, 143))]
set_option maxRecDepth 100000 in
theorem am_CL_o7_0_ok : am_CL_o7_0.map (fun q => am_pw q.2) = am_CL_o7_0.map (fun q => some (Cond.classLink (am_cn q.1.1) q.1.2.1 (am_vc q.1.2.2).1)) := by rfl
def am_CL_o7 : List ((Nat × Nat × Nat) × (Nat × Nat)) := am_CL_o7_0
theorem am_CL_o7_ok : am_CL_o7.map (fun q => am_pw q.2) = am_CL_o7.map (fun q => some (Cond.classLink (am_cn q.1.1) q.1.2.1 (am_vc q.1.2.2).1)) := by
  simp only [am_CL_o7, List.map_append, am_CL_o7_0_ok]
def am_CL_o10_0 : List ((Nat × Nat × Nat) × (Nat × Nat)) := [((10, 13, 9), (0, 45)), ((10, 20, 7), (0, 137)), ((10, 29, 5), (0, 180)), ((10, 36, 6), (0, 198)), ((10, 45, 1), (0, 213)), ((10, 52, 4), (1, 13)), ((10, 59, 3), (1, 28))]
set_option maxRecDepth 100000 in
theorem am_CL_o10_0_ok : am_CL_o10_0.map (fun q => am_pw q.2) = am_CL_o10_0.map (fun q => some (Cond.classLink (am_cn q.1.1) q.1.2.1 (am_vc q.1.2.2).1)) := by rfl
def am_CL_o10 : List ((Nat × Nat × Nat) × (Nat × Nat)) := am_CL_o10_0
theorem am_CL_o10_ok : am_CL_o10.map (fun q => am_pw q.2) = am_CL_o10.map (fun q => some (Cond.classLink (am_cn q.1.1) q.1.2.1 (am_vc q.1.2.2).1)) := by
  simp only [am_CL_o10, List.map_append, am_CL_o10_0_ok]
def am_CL_o11_0 : List ((Nat × Nat × Nat) × (Nat × Nat)) := [((11, 7, 15), (4, 173))]
set_option maxRecDepth 100000 in
theorem am_CL_o11_0_ok : am_CL_o11_0.map (fun q => am_pw q.2) = am_CL_o11_0.map (fun q => some (Cond.classLink (am_cn q.1.1) q.1.2.1 (am_vc q.1.2.2).1)) := by rfl
def am_CL_o11 : List ((Nat × Nat × Nat) × (Nat × Nat)) := am_CL_o11_0
theorem am_CL_o11_ok : am_CL_o11.map (fun q => am_pw q.2) = am_CL_o11.map (fun q => some (Cond.classLink (am_cn q.1.1) q.1.2.1 (am_vc q.1.2.2).1)) := by
  simp only [am_CL_o11, List.map_append, am_CL_o11_0_ok]
def am_CL_o12_0 : List ((Nat × Nat × Nat) × (Nat × Nat)) := [((12, 7, 15), (3, 48)), ((12, 11, 12), (3, 42)), ((12, 77, 13), (3, 147)), ((12, 138, 11), (4, 167))]
set_option maxRecDepth 100000 in
theorem am_CL_o12_0_ok : am_CL_o12_0.map (fun q => am_pw q.2) = am_CL_o12_0.map (fun q => some (Cond.classLink (am_cn q.1.1) q.1.2.1 (am_vc q.1.2.2).1)) := by rfl
def am_CL_o12 : List ((Nat × Nat × Nat) × (Nat × Nat)) := am_CL_o12_0
theorem am_CL_o12_ok : am_CL_o12.map (fun q => am_pw q.2) = am_CL_o12.map (fun q => some (Cond.classLink (am_cn q.1.1) q.1.2.1 (am_vc q.1.2.2).1)) := by
  simp only [am_CL_o12, List.map_append, am_CL_o12_0_ok]
def am_CL_o13_0 : List ((Nat × Nat × Nat) × (Nat × Nat)) := [((13, 18, 14), (4, 68))]
set_option maxRecDepth 100000 in
theorem am_CL_o13_0_ok : am_CL_o13_0.map (fun q => am_pw q.2) = am_CL_o13_0.map (fun q => some (Cond.classLink (am_cn q.1.1) q.1.2.1 (am_vc q.1.2.2).1)) := by rfl
def am_CL_o13 : List ((Nat × Nat × Nat) × (Nat × Nat)) := am_CL_o13_0
theorem am_CL_o13_ok : am_CL_o13.map (fun q => am_pw q.2) = am_CL_o13.map (fun q => some (Cond.classLink (am_cn q.1.1) q.1.2.1 (am_vc q.1.2.2).1)) := by
  simp only [am_CL_o13, List.map_append, am_CL_o13_0_ok]
def am_CL_o15_0 : List ((Nat × Nat × Nat) × (Nat × Nat)) := [((15, 267, 16), (5, 47))]
set_option maxRecDepth 100000 in
theorem am_CL_o15_0_ok : am_CL_o15_0.map (fun q => am_pw q.2) = am_CL_o15_0.map (fun q => some (Cond.classLink (am_cn q.1.1) q.1.2.1 (am_vc q.1.2.2).1)) := by rfl
def am_CL_o15 : List ((Nat × Nat × Nat) × (Nat × Nat)) := am_CL_o15_0
theorem am_CL_o15_ok : am_CL_o15.map (fun q => am_pw q.2) = am_CL_o15.map (fun q => some (Cond.classLink (am_cn q.1.1) q.1.2.1 (am_vc q.1.2.2).1)) := by
  simp only [am_CL_o15, List.map_append, am_CL_o15_0_ok]
def am_CL_o17_0 : List ((Nat × Nat × Nat) × (Nat × Nat)) := [((17, 26, 10), (0, 37)), ((17, 148, 13), (7, 22))]
set_option maxRecDepth 100000 in
theorem am_CL_o17_0_ok : am_CL_o17_0.map (fun q => am_pw q.2) = am_CL_o17_0.map (fun q => some (Cond.classLink (am_cn q.1.1) q.1.2.1 (am_vc q.1.2.2).1)) := by rfl
def am_CL_o17 : List ((Nat × Nat × Nat) × (Nat × Nat)) := am_CL_o17_0
theorem am_CL_o17_ok : am_CL_o17.map (fun q => am_pw q.2) = am_CL_o17.map (fun q => some (Cond.classLink (am_cn q.1.1) q.1.2.1 (am_vc q.1.2.2).1)) := by
  simp only [am_CL_o17, List.map_append, am_CL_o17_0_ok]
def am_CLo : Nat → List ((Nat × Nat × Nat) × (Nat × Nat)) := fun k => match k with
  | 0 => am_CL_o0
  | 1 => am_CL_o1
  | 3 => am_CL_o3
  | 5 => am_CL_o5
  | 7 => am_CL_o7
  | 10 => am_CL_o10
  | 11 => am_CL_o11
  | 12 => am_CL_o12
  | 13 => am_CL_o13
  | 15 => am_CL_o15
  | 17 => am_CL_o17
  | _ => []
theorem am_CLo_ok : ∀ k, (am_CLo k).map (fun q => am_pw q.2) = (am_CLo k).map (fun q => some (Cond.classLink (am_cn q.1.1) q.1.2.1 (am_vc q.1.2.2).1)) := by
  intro k
  unfold am_CLo
  split
  · exact am_CL_o0_ok
  · exact am_CL_o1_ok
  · exact am_CL_o3_ok
  · exact am_CL_o5_ok
  · exact am_CL_o7_ok
  · exact am_CL_o10_ok
  · exact am_CL_o11_ok
  · exact am_CL_o12_ok
  · exact am_CL_o13_ok
  · exact am_CL_o15_ok
  · exact am_CL_o17_ok
  · rfl
def am_nk (k : Nat) : String := if k = 2 then "[I" else if k = 3 then "[B" else if k = 12 then "[[J" else if k = 10 then "[Ljava/lang/Object;" else if k = 206 then "RoyaltyOffice$Office" else if k = 210 then "java/lang/Object" else if k = 211 then "[I" else (am_vc (k - 100)).1
def am_CK_o10_0 : List ((Nat × Nat × Nat) × (Nat × Nat)) := [((10, 59, 206), (1, 28))]
set_option maxRecDepth 100000 in
theorem am_CK_o10_0_ok : am_CK_o10_0.map (fun q => am_pw q.2) = am_CK_o10_0.map (fun q => some (Cond.classLink (am_cn q.1.1) q.1.2.1 (am_nk q.1.2.2))) := by rfl
def am_CK_o10 : List ((Nat × Nat × Nat) × (Nat × Nat)) := am_CK_o10_0
theorem am_CK_o10_ok : am_CK_o10.map (fun q => am_pw q.2) = am_CK_o10.map (fun q => some (Cond.classLink (am_cn q.1.1) q.1.2.1 (am_nk q.1.2.2))) := by
  simp only [am_CK_o10, List.map_append, am_CK_o10_0_ok]
def am_CK_o11_0 : List ((Nat × Nat × Nat) × (Nat × Nat)) := [((11, 25, 2), (6, 98))]
set_option maxRecDepth 100000 in
theorem am_CK_o11_0_ok : am_CK_o11_0.map (fun q => am_pw q.2) = am_CK_o11_0.map (fun q => some (Cond.classLink (am_cn q.1.1) q.1.2.1 (am_nk q.1.2.2))) := by rfl
def am_CK_o11 : List ((Nat × Nat × Nat) × (Nat × Nat)) := am_CK_o11_0
theorem am_CK_o11_ok : am_CK_o11.map (fun q => am_pw q.2) = am_CK_o11.map (fun q => some (Cond.classLink (am_cn q.1.1) q.1.2.1 (am_nk q.1.2.2))) := by
  simp only [am_CK_o11, List.map_append, am_CK_o11_0_ok]
def am_CK_o12_0 : List ((Nat × Nat × Nat) × (Nat × Nat)) := [((12, 33, 12), (3, 77)), ((12, 133, 2), (4, 184)), ((12, 133, 211), (4, 184)), ((12, 138, 111), (4, 167))]
set_option maxRecDepth 100000 in
theorem am_CK_o12_0_ok : am_CK_o12_0.map (fun q => am_pw q.2) = am_CK_o12_0.map (fun q => some (Cond.classLink (am_cn q.1.1) q.1.2.1 (am_nk q.1.2.2))) := by rfl
def am_CK_o12 : List ((Nat × Nat × Nat) × (Nat × Nat)) := am_CK_o12_0
theorem am_CK_o12_ok : am_CK_o12.map (fun q => am_pw q.2) = am_CK_o12.map (fun q => some (Cond.classLink (am_cn q.1.1) q.1.2.1 (am_nk q.1.2.2))) := by
  simp only [am_CK_o12, List.map_append, am_CK_o12_0_ok]
def am_CK_o15_0 : List ((Nat × Nat × Nat) × (Nat × Nat)) := [((15, 7, 210), (5, 2))]
set_option maxRecDepth 100000 in
theorem am_CK_o15_0_ok : am_CK_o15_0.map (fun q => am_pw q.2) = am_CK_o15_0.map (fun q => some (Cond.classLink (am_cn q.1.1) q.1.2.1 (am_nk q.1.2.2))) := by rfl
def am_CK_o15 : List ((Nat × Nat × Nat) × (Nat × Nat)) := am_CK_o15_0
theorem am_CK_o15_ok : am_CK_o15.map (fun q => am_pw q.2) = am_CK_o15.map (fun q => some (Cond.classLink (am_cn q.1.1) q.1.2.1 (am_nk q.1.2.2))) := by
  simp only [am_CK_o15, List.map_append, am_CK_o15_0_ok]
def am_CK_o17_0 : List ((Nat × Nat × Nat) × (Nat × Nat)) := [((17, 99, 2), (6, 138))]
set_option maxRecDepth 100000 in
theorem am_CK_o17_0_ok : am_CK_o17_0.map (fun q => am_pw q.2) = am_CK_o17_0.map (fun q => some (Cond.classLink (am_cn q.1.1) q.1.2.1 (am_nk q.1.2.2))) := by rfl
def am_CK_o17 : List ((Nat × Nat × Nat) × (Nat × Nat)) := am_CK_o17_0
theorem am_CK_o17_ok : am_CK_o17.map (fun q => am_pw q.2) = am_CK_o17.map (fun q => some (Cond.classLink (am_cn q.1.1) q.1.2.1 (am_nk q.1.2.2))) := by
  simp only [am_CK_o17, List.map_append, am_CK_o17_0_ok]
def am_CK_o18_0 : List ((Nat × Nat × Nat) × (Nat × Nat)) := [((18, 2, 210), (5, 0)), ((18, 110, 10), (4, 238)), ((18, 311, 3), (3, 227))]
set_option maxRecDepth 100000 in
theorem am_CK_o18_0_ok : am_CK_o18_0.map (fun q => am_pw q.2) = am_CK_o18_0.map (fun q => some (Cond.classLink (am_cn q.1.1) q.1.2.1 (am_nk q.1.2.2))) := by rfl
def am_CK_o18 : List ((Nat × Nat × Nat) × (Nat × Nat)) := am_CK_o18_0
theorem am_CK_o18_ok : am_CK_o18.map (fun q => am_pw q.2) = am_CK_o18.map (fun q => some (Cond.classLink (am_cn q.1.1) q.1.2.1 (am_nk q.1.2.2))) := by
  simp only [am_CK_o18, List.map_append, am_CK_o18_0_ok]
def am_CKo : Nat → List ((Nat × Nat × Nat) × (Nat × Nat)) := fun k => match k with
  | 10 => am_CK_o10
  | 11 => am_CK_o11
  | 12 => am_CK_o12
  | 15 => am_CK_o15
  | 17 => am_CK_o17
  | 18 => am_CK_o18
  | _ => []
theorem am_CKo_ok : ∀ k, (am_CKo k).map (fun q => am_pw q.2) = (am_CKo k).map (fun q => some (Cond.classLink (am_cn q.1.1) q.1.2.1 (am_nk q.1.2.2))) := by
  intro k
  unfold am_CKo
  split
  · exact am_CK_o10_ok
  · exact am_CK_o11_ok
  · exact am_CK_o12_ok
  · exact am_CK_o15_ok
  · exact am_CK_o17_ok
  · exact am_CK_o18_ok
  · rfl
def am_CI_0 : List (Nat × (Nat × Nat)) := [(0, (1, 36)), (1, (0, 214)), (2, (1, 83)), (3, (1, 30)), (4, (1, 14)), (5, (0, 181)), (6, (0, 199)), (7, (0, 138)), (8, (0, 144)), (9, (0, 46)), (10, (0, 38)), (11, (4, 168)), (12, (3, 43)), (13, (3, 148)), (14, (4, 69)), (15, (3, 49)), (16, (5, 48))]
set_option maxRecDepth 100000 in
theorem am_CI_0_ok : am_CI_0.map (fun q => am_pw q.2) = am_CI_0.map (fun q => some (Cond.instantiable (am_vc q.1).1 (am_vc q.1).2.2)) := by rfl
def am_CI : List (Nat × (Nat × Nat)) := am_CI_0
theorem am_CI_ok : am_CI.map (fun q => am_pw q.2) = am_CI.map (fun q => some (Cond.instantiable (am_vc q.1).1 (am_vc q.1).2.2)) := by
  simp only [am_CI, List.map_append, am_CI_0_ok]
def am_CZ_0 : List (Nat × (Nat × Nat)) := [(0, (0, 29)), (1, (0, 26)), (2, (0, 30)), (3, (0, 28)), (4, (0, 27)), (5, (0, 24)), (6, (0, 25)), (7, (0, 22)), (8, (0, 23)), (9, (0, 21)), (10, (0, 20)), (11, (0, 17)), (12, (0, 1)), (13, (0, 6)), (14, (0, 7)), (15, (0, 4)), (16, (0, 19))]
set_option maxRecDepth 100000 in
theorem am_CZ_0_ok : am_CZ_0.map (fun q => am_pw q.2) = am_CZ_0.map (fun q => some (Cond.initialized (am_vc q.1).1)) := by rfl
def am_CZ : List (Nat × (Nat × Nat)) := am_CZ_0
theorem am_CZ_ok : am_CZ.map (fun q => am_pw q.2) = am_CZ.map (fun q => some (Cond.initialized (am_vc q.1).1)) := by
  simp only [am_CZ, List.map_append, am_CZ_0_ok]
def am_CO_0 : List (Nat × (Nat × Nat)) := [(0, (7, 173)), (1, (7, 171)), (2, (7, 174)), (3, (7, 158)), (4, (7, 172)), (5, (7, 169)), (6, (7, 170)), (7, (7, 167)), (8, (7, 168)), (9, (7, 166)), (10, (7, 165)), (11, (7, 163)), (12, (7, 159)), (13, (7, 161)), (14, (7, 162)), (15, (7, 160)), (16, (7, 164))]
set_option maxRecDepth 100000 in
theorem am_CO_0_ok : am_CO_0.map (fun q => am_pw q.2) = am_CO_0.map (fun q => some (Cond.castable (am_vc q.1).1 "java/lang/Object")) := by rfl
def am_CO : List (Nat × (Nat × Nat)) := am_CO_0
theorem am_CO_ok : am_CO.map (fun q => am_pw q.2) = am_CO.map (fun q => some (Cond.castable (am_vc q.1).1 "java/lang/Object")) := by
  simp only [am_CO, List.map_append, am_CO_0_ok]
def am_UL_0 : List ((Nat × Nat) × (Nat × Nat)) := [((0, 0), (1, 59)), ((0, 1), (1, 61)), ((0, 2), (1, 63)), ((0, 3), (1, 65)), ((0, 4), (1, 67)), ((0, 5), (1, 69)), ((0, 6), (1, 71)), ((0, 7), (1, 73)), ((0, 8), (1, 75)), ((0, 9), (1, 77)), ((1, 0), (0, 232)), ((1, 1), (0, 234)), ((1, 2), (0, 236)), ((1, 3), (0, 238)), ((1, 4), (1, 0)), ((1, 5), (1, 2)), ((1, 6), (1, 4)), ((1, 7), (1, 6)), ((1, 8), (1, 8)), ((1, 9), (1, 10)), ((2, 0), (1, 97)), ((2, 1), (1, 99)), ((2, 2), (1, 101)), ((2, 3), (1, 103)), ((2, 4), (1, 105)), ((2, 5), (1, 107)), ((2, 6), (1, 109)), ((2, 7), (1, 111)), ((3, 0), (1, 132)), ((3, 1), (1, 134)), ((3, 2), (1, 136)), ((3, 3), (1, 138)), ((3, 4), (1, 140)), ((3, 5), (1, 142)), ((4, 0), (1, 21)), ((4, 1), (1, 23)), ((4, 2), (1, 25)), ((5, 0), (0, 189)), ((5, 1), (0, 191)), ((5, 2), (0, 193)), ((5, 3), (0, 195)), ((6, 0), (0, 206)), ((6, 1), (0, 208)), ((6, 2), (0, 210)), ((7, 0), (0, 171)), ((7, 1), (0, 173)), ((7, 2), (0, 175)), ((7, 3), (0, 177)), ((8, 0), (0, 160)), ((8, 1), (0, 162)), ((8, 2), (0, 164)), ((9, 0), (0, 115)), ((9, 1), (0, 117)), ((9, 2), (0, 119)), ((9, 3), (0, 121)), ((9, 4), (0, 123)), ((9, 5), (0, 125)), ((9, 6), (0, 127)), ((9, 7), (0, 129)), ((9, 8), (0, 131))]
set_option maxRecDepth 100000 in
theorem am_UL_0_ok : am_UL_0.map (fun q => am_pw q.2) = am_UL_0.map (fun q => some (u_lay (am_vc q.1.1).1 (am_vc q.1.1).2.1 q.1.2)) := by rfl
def am_UL_1 : List ((Nat × Nat) × (Nat × Nat)) := [((10, 0), (1, 158)), ((10, 1), (1, 160)), ((10, 2), (1, 162)), ((10, 3), (1, 164)), ((10, 4), (1, 166)), ((10, 5), (1, 168)), ((10, 6), (1, 170)), ((10, 7), (1, 172)), ((10, 8), (1, 174)), ((10, 9), (1, 176)), ((10, 10), (1, 178)), ((10, 11), (1, 180)), ((10, 12), (1, 182)), ((10, 13), (1, 184)), ((11, 0), (4, 179)), ((11, 1), (4, 181)), ((12, 0), (3, 110)), ((12, 1), (3, 112)), ((12, 2), (3, 114)), ((12, 3), (3, 116)), ((12, 4), (3, 118)), ((12, 5), (3, 120)), ((12, 6), (3, 122)), ((12, 7), (3, 124)), ((12, 8), (3, 126)), ((12, 9), (3, 128)), ((12, 10), (3, 130)), ((12, 11), (3, 132)), ((12, 12), (3, 134)), ((12, 13), (3, 136)), ((12, 14), (3, 138)), ((12, 15), (3, 140)), ((12, 16), (3, 142)), ((12, 17), (3, 144)), ((13, 0), (3, 168)), ((13, 1), (3, 170)), ((13, 2), (3, 172)), ((13, 3), (3, 174)), ((14, 0), (4, 112)), ((14, 1), (4, 114)), ((14, 2), (4, 116)), ((14, 3), (4, 118)), ((15, 0), (3, 74)), ((15, 1), (3, 70)), ((15, 2), (3, 72)), ((16, 0), (5, 57)), ((16, 1), (5, 59)), ((16, 2), (5, 61)), ((16, 3), (5, 63))]
set_option maxRecDepth 100000 in
theorem am_UL_1_ok : am_UL_1.map (fun q => am_pw q.2) = am_UL_1.map (fun q => some (u_lay (am_vc q.1.1).1 (am_vc q.1.1).2.1 q.1.2)) := by rfl
def am_UL : List ((Nat × Nat) × (Nat × Nat)) := am_UL_0 ++ (am_UL_1)
theorem am_UL_ok : am_UL.map (fun q => am_pw q.2) = am_UL.map (fun q => some (u_lay (am_vc q.1.1).1 (am_vc q.1.1).2.1 q.1.2)) := by
  simp only [am_UL, List.map_append, am_UL_0_ok, am_UL_1_ok]
