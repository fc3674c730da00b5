/-! constructors: the class -/
section N89
variable {sa sv d a z z' p p' : Nat} {L L' : Nat → Int64} {m0 m m' : am_M} {ks ks' : List (Nat × Nat)} {rs rs' : List (Nat × Nat × Nat)} {ws ws' : List (Nat × Nat × Int32)}
theorem BS.r (h : BS m0 a m ks rs ws z p L) (i k j : Nat) (hq : (i, k, j) ∈ rs) : gr_ m (a + i) k = a + j := (h.2.1.2.1 _ hq).2
theorem BS.rn (h : BS m0 a m ks rs ws z p L) (k : Nat × Nat) (n i f j : Nat) (hq : (i, f, j) ∈ rs) : gr_ (al_ m k n) (a + i) f = a + j := by
  have h1 : i < ks.length := (h.2.1.2.1 _ hq).1
  have : ¬ a + i = gt_ m := by rw [h.gt]; omega
  exact (congrFun (if_neg this) f).trans (h.r i f j hq)
theorem BS.goT2 (h : BS m0 a m ks rs ws z p L) {r : Option am_R} {m1 : am_M} {ks1 : List (Nat × Nat)} {rs1 : List (Nat × Nat × Nat)} {ws1 : List (Nat × Nat × Int32)} {z1 p1 : Nat} {L1 : Nat → Int64} (hr : r = some (.inl none, m1)) (h' : BS m0 a m1 ks1 rs1 ws1 z1 p1 L1) (c : Nat × Nat) (f : Nat) (h0 : ks.length < ks1.length) (hc : ks1.getD 0 (0, 0) = c) (hn : ∀ q, q ∈ rs1 → ¬ (q.1 = 0 ∧ q.2.1 = f)) : ∃ m', BS m0 a m' ks1 ((0, f, ks.length) :: rs1) ws1 z1 p1 L1 ∧ ∀ (F : am_M → Option am_R) (G : Nat → am_M → Option am_R), am_c0 r (fun m1 => gq_ (gk_ m1 a = c ∧ ¬ (gt_ m) = 0) (F (sr_ m1 a f (gt_ m)))) G = F m' := by
  obtain ⟨m', b, e⟩ := h.goT hr h' c f h0 hc hn
  exact ⟨m', b, fun F G => (gq_pos h.ge).symm.trans (e F G)⟩
theorem BS.goU (h : BS m0 a m ks rs ws z p L) {r : Option am_R} {m1 : am_M} (hr : r = some (.inl none, m1)) (h' : BS m (gt_ m) m1 ks' rs' ws' z' p' z_) (i : Nat) (hi : i < 5) (h26 : 26 < ks.length) (hk : ks.getD 26 (0, 0) = (6, 5)) (h8 : (0, 8, 26) ∈ rs) (hc : ks'.getD 0 (0, 0) = (1, 3)) (hn : ∀ q, q ∈ rs ++ shf ks.length rs' → ¬ (q.1 = 26 ∧ q.2.1 = i)) : ∃ m', BS m0 a m' (ks ++ ks') ((26, i, ks.length) :: (rs ++ shf ks.length rs')) (ws ++ shw ks.length ws') (z + z') p L ∧ ∀ (F : am_M → Option am_R) (G : Nat → am_M → Option am_R), gq_ (ge_ m = true) (am_c0 r (fun m1 => gq_ (in_ (nI i) (gk_ m1 (gr_ m a 8)).2 ∧ am_el m1 (gk_ m1 (gr_ m a 8)).1 (gt_ m)) (F (sr_ m1 (gr_ m a 8) (nI i).toNatClampNeg (gt_ m)))) G) = F m' := by
  have h6 := (h.at h').2.1.2.2.2.2.2
  have ap := h.app (h.at h')
  have b2 := ap.sr 26 i ks.length (by rw [List.length_append]; omega) hn
  have r8 : gr_ m a 8 = a + 26 := h.r 0 8 26 h8
  have k1 := ap.k 26 (by rw [List.length_append]; omega)
  rw [List.getD_eq_getElem?_getD, List.getElem?_append_left h26, ← List.getD_eq_getElem?_getD, hk] at k1
  have k2 := h'.k 0 (by omega)
  rw [Nat.add_zero, hc] at k2
  refine ⟨_, b2, fun F G => ?_⟩
  rw [gq_pos h.ge, hr, c0_v, r8, k1, gq_pos ⟨in_of hi (by omega), (am_el6 _ _).mpr ⟨h.gz, k2⟩⟩, nI_clamp (by omega), ← h.gt]
end N89
def ck_ : List (Nat × Nat) := [(1, 10), (3, 900), (1, 9), (4, 21), (2, 901), (2, 901), (4, 901), (1, 7), (1, 8), (2, 8), (1, 5), (1, 8), (2, 120), (1, 6), (1, 1), (2, 12), (2, 120), (2, 10), (2, 12), (2, 12), (2, 10), (1, 8), (2, 256), (1, 4), (3, 3840), (3, 20), (6, 5), (1, 3), (1, 0), (4, 10), (2, 10), (4, 12), (2, 12), (2, 12), (1, 8), (2, 72), (1, 8), (2, 96), (1, 8), (2, 384), (1, 8), (2, 96), (1, 8), (2, 72), (1, 8), (2, 256), (1, 2), (4, 10), (4, 40), (4, 30), (4, 120), (4, 12), (4, 250), (2, 5), (1, 3), (1, 0), (4, 10), (2, 10), (4, 12), (2, 12), (2, 12), (1, 8), (2, 72), (1, 8), (2, 96), (1, 8), (2, 384), (1, 8), (2, 96), (1, 8), (2, 72), (1, 8), (2, 256), (1, 2), (4, 10), (4, 40), (4, 30), (4, 120), (4, 12), (4, 250), (2, 5), (1, 3), (1, 0), (4, 10), (2, 10), (4, 12), (2, 12), (2, 12), (1, 8), (2, 72), (1, 8), (2, 96), (1, 8), (2, 384), (1, 8), (2, 96), (1, 8), (2, 72), (1, 8), (2, 256), (1, 2), (4, 10), (4, 40), (4, 30), (4, 120), (4, 12), (4, 250), (2, 5), (1, 3), (1, 0), (4, 10), (2, 10), (4, 12), (2, 12), (2, 12), (1, 8), (2, 72), (1, 8), (2, 96), (1, 8), (2, 384), (1, 8), (2, 96), (1, 8), (2, 72), (1, 8), (2, 256), (1, 2), (4, 10), (4, 40), (4, 30), (4, 120), (4, 12), (4, 250), (2, 5), (1, 3), (1, 0), (4, 10), (2, 10), (4, 12), (2, 12), (2, 12), (1, 8), (2, 72), (1, 8), (2, 96), (1, 8), (2, 384), (1, 8), (2, 96), (1, 8), (2, 72), (1, 8), (2, 256), (1, 2), (4, 10), (4, 40), (4, 30), (4, 120), (4, 12), (4, 250), (2, 5), (1, 3), (1, 0), (4, 10), (2, 10), (4, 12), (2, 12), (2, 12), (1, 8), (2, 72), (1, 8), (2, 96), (1, 8), (2, 384), (1, 8), (2, 96), (1, 8), (2, 72), (1, 8), (2, 256), (1, 2), (4, 10), (4, 40), (4, 30), (4, 120), (4, 12), (4, 250), (2, 5), (1, 3), (1, 0), (4, 10), (2, 10), (4, 12), (2, 12), (2, 12), (1, 8), (2, 72), (1, 8), (2, 96), (1, 8), (2, 384), (1, 8), (2, 96), (1, 8), (2, 72), (1, 8), (2, 256), (1, 2), (4, 10), (4, 40), (4, 30), (4, 120), (4, 12), (4, 250), (2, 5), (1, 3), (1, 0), (4, 10), (2, 10), (4, 12), (2, 12), (2, 12), (1, 8), (2, 72), (1, 8), (2, 96), (1, 8), (2, 384), (1, 8), (2, 96), (1, 8), (2, 72), (1, 8), (2, 256), (1, 2), (4, 10), (4, 40), (4, 30), (4, 120), (4, 12), (4, 250), (2, 5)]
def cr_ : List (Nat × Nat × Nat) := [(0, 13, 216), (0, 12, 189), (0, 10, 162), (26, 4, 135), (26, 3, 108), (26, 2, 81), (26, 1, 54), (26, 0, 27), (0, 8, 26), (0, 7, 23), (0, 6, 14), (0, 4, 13), (13, 1, 10), (13, 0, 2), (0, 5, 10), (0, 3, 7), (7, 0, 2), (7, 1, 8), (0, 2, 2), (0, 0, 1), (2, 3, 6), (2, 2, 5), (2, 1, 4), (2, 0, 3), (8, 1, 9), (10, 0, 11), (11, 1, 12), (14, 6, 21), (14, 5, 20), (14, 4, 19), (14, 3, 18), (14, 2, 17), (14, 1, 16), (14, 0, 15), (21, 1, 22), (23, 1, 25), (23, 0, 24), (27, 5, 46), (27, 4, 44), (27, 3, 42), (27, 2, 40), (27, 1, 28), (28, 9, 38), (28, 8, 36), (28, 7, 34), (28, 6, 33), (28, 5, 32), (28, 4, 31), (28, 3, 30), (28, 2, 29), (34, 1, 35), (36, 1, 37), (38, 1, 39), (40, 1, 41), (42, 1, 43), (44, 1, 45), (46, 6, 53), (46, 5, 52), (46, 4, 51), (46, 3, 50), (46, 2, 49), (46, 1, 48), (46, 0, 47), (54, 5, 73), (54, 4, 71), (54, 3, 69), (54, 2, 67), (54, 1, 55), (55, 9, 65), (55, 8, 63), (55, 7, 61), (55, 6, 60), (55, 5, 59), (55, 4, 58), (55, 3, 57), (55, 2, 56), (61, 1, 62), (63, 1, 64), (65, 1, 66), (67, 1, 68), (69, 1, 70), (71, 1, 72), (73, 6, 80), (73, 5, 79), (73, 4, 78), (73, 3, 77), (73, 2, 76), (73, 1, 75), (73, 0, 74), (81, 5, 100), (81, 4, 98), (81, 3, 96), (81, 2, 94), (81, 1, 82), (82, 9, 92), (82, 8, 90), (82, 7, 88), (82, 6, 87), (82, 5, 86), (82, 4, 85), (82, 3, 84), (82, 2, 83), (88, 1, 89), (90, 1, 91), (92, 1, 93), (94, 1, 95), (96, 1, 97), (98, 1, 99), (100, 6, 107), (100, 5, 106), (100, 4, 105), (100, 3, 104), (100, 2, 103), (100, 1, 102), (100, 0, 101), (108, 5, 127), (108, 4, 125), (108, 3, 123), (108, 2, 121), (108, 1, 109), (109, 9, 119), (109, 8, 117), (109, 7, 115), (109, 6, 114), (109, 5, 113), (109, 4, 112), (109, 3, 111), (109, 2, 110), (115, 1, 116), (117, 1, 118), (119, 1, 120), (121, 1, 122), (123, 1, 124), (125, 1, 126), (127, 6, 134), (127, 5, 133), (127, 4, 132), (127, 3, 131), (127, 2, 130), (127, 1, 129), (127, 0, 128), (135, 5, 154), (135, 4, 152), (135, 3, 150), (135, 2, 148), (135, 1, 136), (136, 9, 146), (136, 8, 144), (136, 7, 142), (136, 6, 141), (136, 5, 140), (136, 4, 139), (136, 3, 138), (136, 2, 137), (142, 1, 143), (144, 1, 145), (146, 1, 147), (148, 1, 149), (150, 1, 151), (152, 1, 153), (154, 6, 161), (154, 5, 160), (154, 4, 159), (154, 3, 158), (154, 2, 157), (154, 1, 156), (154, 0, 155), (162, 5, 181), (162, 4, 179), (162, 3, 177), (162, 2, 175), (162, 1, 163), (163, 9, 173), (163, 8, 171), (163, 7, 169), (163, 6, 168), (163, 5, 167), (163, 4, 166), (163, 3, 165), (163, 2, 164), (169, 1, 170), (171, 1, 172), (173, 1, 174), (175, 1, 176), (177, 1, 178), (179, 1, 180), (181, 6, 188), (181, 5, 187), (181, 4, 186), (181, 3, 185), (181, 2, 184), (181, 1, 183), (181, 0, 182), (189, 5, 208), (189, 4, 206), (189, 3, 204), (189, 2, 202), (189, 1, 190), (190, 9, 200), (190, 8, 198), (190, 7, 196), (190, 6, 195), (190, 5, 194), (190, 4, 193), (190, 3, 192), (190, 2, 191), (196, 1, 197), (198, 1, 199), (200, 1, 201), (202, 1, 203), (204, 1, 205), (206, 1, 207), (208, 6, 215), (208, 5, 214), (208, 4, 213), (208, 3, 212), (208, 2, 211), (208, 1, 210), (208, 0, 209), (216, 5, 235), (216, 4, 233), (216, 3, 231), (216, 2, 229), (216, 1, 217), (217, 9, 227), (217, 8, 225), (217, 7, 223), (217, 6, 222), (217, 5, 221), (217, 4, 220), (217, 3, 219), (217, 2, 218), (223, 1, 224), (225, 1, 226), (227, 1, 228), (229, 1, 230), (231, 1, 232), (233, 1, 234), (235, 6, 242), (235, 5, 241), (235, 4, 240), (235, 3, 239), (235, 2, 238), (235, 1, 237), (235, 0, 236)]
def cw_ : List (Nat × Nat × Int32) := [(2, 7, -1), (8, 0, nI 2), (11, 0, nI 4), (21, 0, nI 4), (34, 0, nI 2), (36, 0, nI 2), (38, 0, nI 2), (40, 0, nI 6), (42, 0, nI 6), (44, 0, nI 4), (61, 0, nI 2), (63, 0, nI 2), (65, 0, nI 2), (67, 0, nI 6), (69, 0, nI 6), (71, 0, nI 4), (88, 0, nI 2), (90, 0, nI 2), (92, 0, nI 2), (94, 0, nI 6), (96, 0, nI 6), (98, 0, nI 4), (115, 0, nI 2), (117, 0, nI 2), (119, 0, nI 2), (121, 0, nI 6), (123, 0, nI 6), (125, 0, nI 4), (142, 0, nI 2), (144, 0, nI 2), (146, 0, nI 2), (148, 0, nI 6), (150, 0, nI 6), (152, 0, nI 4), (169, 0, nI 2), (171, 0, nI 2), (173, 0, nI 2), (175, 0, nI 6), (177, 0, nI 6), (179, 0, nI 4), (196, 0, nI 2), (198, 0, nI 2), (200, 0, nI 2), (202, 0, nI 6), (204, 0, nI 6), (206, 0, nI 4), (223, 0, nI 2), (225, 0, nI 2), (227, 0, nI 2), (229, 0, nI 6), (231, 0, nI 6), (233, 0, nI 4)]
def cz_ : Nat := 20433
section N89
variable {sa sv d : Nat} {m : am_M}
theorem n150 (hg : ge_ m = true) (h0 : 0 < gt_ m) (hT : TXm m sa) (hsv : sa < gt_ m ∧ gr_ m sa 0 < gt_ m) : ∃ m' L, am_ca sa sv (d + 4) 150 [.ref (gt_ m)] (al_ m (1, 10) 14) = some (.inl none, m') ∧ BS m (gt_ m) m' ck_ cr_ cw_ cz_ 3 L ∧ ∀ k, k < 21 → L k = qi_ k := by
  have b0 := BS.one rfl hg h0 (1, 10) 14
  rw [c150]
  obtain ⟨m1, b1, e1⟩ := b0.goA (1, 10) 3 900 0 (by omega) (by decide +kernel) (by decide +kernel) (by decide +kernel)
  rw [b150_0, e1 (r150 sa sv (d + 3) 13 [some (.ref (gt_ m)), none] [])]
  obtain ⟨w2, L, q2, p2, hL⟩ := n132 (sa := sa) (sv := sv) (d := d) b1.ge (Nat.pos_of_ne_zero b1.gz) (b1.tx hT hsv) (b1.txs (by rw [b1.gt]; omega) hsv)
  obtain ⟨m2, b2, e2⟩ := b1.goT q2 (b1.app1 (b1.at p2)) (1, 10) 2 (by decide +kernel) (by decide +kernel) (by decide +kernel)
  rw [b150_13, e2 (r150 sa sv (d + 3) 24 [some (.ref (gt_ m)), none] [])]
  obtain ⟨w3, q3, p3⟩ := n108 (sa := sa) (sv := sv) (d := d + 1) b2 2 (by decide +kernel)
  obtain ⟨m3, b3, e3⟩ := b2.goT2 q3 p3 (1, 10) 3 (by decide +kernel) (by decide +kernel) (by decide +kernel)
  have r2 : gr_ (al_ m2 (1, 7) 4) (gt_ m) 2 = gt_ m + 2 := b2.rn (1, 7) 4 0 2 2 (by decide +kernel)
  rw [b150_24, gq_pos b2.ge, r2, gq_pos ⟨b2.kn (1, 7) 4 0 (by decide +kernel), by omega⟩, e3 (r150 sa sv (d + 3) 39 [some (.ref (gt_ m)), none] [])]
  obtain ⟨w4, q4, p4⟩ := n96 (sa := sa) (sv := sv) (d := d + 1) b3.ge (Nat.pos_of_ne_zero b3.gz)
  obtain ⟨m4, b4, e4⟩ := b3.goS q4 p4 (1, 10) 5 (by decide +kernel) (by decide +kernel) (by decide +kernel)
  rw [b150_39, e4 (r150 sa sv (d + 3) 50 [some (.ref (gt_ m)), none] [])]
  obtain ⟨w5, q5, p5⟩ := n102 (sa := sa) (sv := sv) (d := d + 2) b4 2 10
  obtain ⟨m5, b5, e5⟩ := b4.goT2 q5 p5 (1, 10) 4 (by decide +kernel) (by decide +kernel) (by decide +kernel)
  have r3 : gr_ (al_ m4 (1, 6) 3) (gt_ m) 2 = gt_ m + 2 := b4.rn (1, 6) 3 0 2 2 (by decide +kernel)
  have r4 : gr_ (al_ m4 (1, 6) 3) (gt_ m) 5 = gt_ m + 10 := b4.rn (1, 6) 3 0 5 10 (by decide +kernel)
  rw [b150_50, gq_pos b4.ge, r3, r4, gq_pos ⟨b4.kn (1, 6) 3 0 (by decide +kernel), by omega⟩, gq_pos ⟨b4.kn (1, 6) 3 0 (by decide +kernel), by omega⟩, e5 (r150 sa sv (d + 3) 69 [some (.ref (gt_ m)), none] [])]
  obtain ⟨w6, q6, p6⟩ := n31 (sa := sa) (sv := sv) (d := d + 1) b5.ge (Nat.pos_of_ne_zero b5.gz)
  obtain ⟨m6, b6, e6⟩ := b5.goS q6 p6 (1, 10) 6 (by decide +kernel) (by decide +kernel) (by decide +kernel)
  rw [b150_69, e6 (r150 sa sv (d + 3) 80 [some (.ref (gt_ m)), none] [])]
  obtain ⟨w7, q7, p7⟩ := n89 (sa := sa) (sv := sv) (d := d + 2) b6.ge (Nat.pos_of_ne_zero b6.gz)
  obtain ⟨m7, b7, e7⟩ := b6.goS q7 p7 (1, 10) 7 (by decide +kernel) (by decide +kernel) (by decide +kernel)
  rw [b150_80, e7 (r150 sa sv (d + 3) 91 [some (.ref (gt_ m)), none] [])]
  obtain ⟨m8, b8, e8⟩ := b7.goA (1, 10) 6 5 8 (by omega) (by decide +kernel) (by decide +kernel) (by decide +kernel)
  rw [b150_91, e8 (r150 sa sv (d + 3) 99 [some (.ref (gt_ m)), none] []), b150_99]
  obtain ⟨w9, q9, p9⟩ := n70 (sa := sa) (sv := sv) (d := d) b8.ge (Nat.pos_of_ne_zero b8.gz)
  obtain ⟨m9, b9, e9⟩ := b8.goU q9 p9 0 (by omega) (by decide +kernel) (by decide +kernel) (by decide +kernel) (by decide +kernel) (by decide +kernel)
  rw [b150_101, gb_neg (by decide), gq_pos ⟨b8.k 0 (by decide +kernel), by rw [show gr_ m8 (gt_ m) 8 = gt_ m + 26 from b8.r 0 8 26 (by decide +kernel)]; omega⟩, e9 (r150 sa sv (d + 3) 101 [some (.ref (gt_ m)), some (.int (nI 0 + nI 1))] []), nI_add]
  obtain ⟨w10, q10, p10⟩ := n70 (sa := sa) (sv := sv) (d := d) b9.ge (Nat.pos_of_ne_zero b9.gz)
  obtain ⟨m10, b10, e10⟩ := b9.goU q10 p10 1 (by omega) (by decide +kernel) (by decide +kernel) (by decide +kernel) (by decide +kernel) (by decide +kernel)
  rw [b150_101, gb_neg (by decide), gq_pos ⟨b9.k 0 (by decide +kernel), by rw [show gr_ m9 (gt_ m) 8 = gt_ m + 26 from b9.r 0 8 26 (by decide +kernel)]; omega⟩, e10 (r150 sa sv (d + 3) 101 [some (.ref (gt_ m)), some (.int (nI 1 + nI 1))] []), nI_add]
  obtain ⟨w11, q11, p11⟩ := n70 (sa := sa) (sv := sv) (d := d) b10.ge (Nat.pos_of_ne_zero b10.gz)
  obtain ⟨m11, b11, e11⟩ := b10.goU q11 p11 2 (by omega) (by decide +kernel) (by decide +kernel) (by decide +kernel) (by decide +kernel) (by decide +kernel)
  rw [b150_101, gb_neg (by decide), gq_pos ⟨b10.k 0 (by decide +kernel), by rw [show gr_ m10 (gt_ m) 8 = gt_ m + 26 from b10.r 0 8 26 (by decide +kernel)]; omega⟩, e11 (r150 sa sv (d + 3) 101 [some (.ref (gt_ m)), some (.int (nI 2 + nI 1))] []), nI_add]
  obtain ⟨w12, q12, p12⟩ := n70 (sa := sa) (sv := sv) (d := d) b11.ge (Nat.pos_of_ne_zero b11.gz)
  obtain ⟨m12, b12, e12⟩ := b11.goU q12 p12 3 (by omega) (by decide +kernel) (by decide +kernel) (by decide +kernel) (by decide +kernel) (by decide +kernel)
  rw [b150_101, gb_neg (by decide), gq_pos ⟨b11.k 0 (by decide +kernel), by rw [show gr_ m11 (gt_ m) 8 = gt_ m + 26 from b11.r 0 8 26 (by decide +kernel)]; omega⟩, e12 (r150 sa sv (d + 3) 101 [some (.ref (gt_ m)), some (.int (nI 3 + nI 1))] []), nI_add]
  obtain ⟨w13, q13, p13⟩ := n70 (sa := sa) (sv := sv) (d := d) b12.ge (Nat.pos_of_ne_zero b12.gz)
  obtain ⟨m13, b13, e13⟩ := b12.goU q13 p13 4 (by omega) (by decide +kernel) (by decide +kernel) (by decide +kernel) (by decide +kernel) (by decide +kernel)
  rw [b150_101, gb_neg (by decide), gq_pos ⟨b12.k 0 (by decide +kernel), by rw [show gr_ m12 (gt_ m) 8 = gt_ m + 26 from b12.r 0 8 26 (by decide +kernel)]; omega⟩, e13 (r150 sa sv (d + 3) 101 [some (.ref (gt_ m)), some (.int (nI 4 + nI 1))] []), nI_add]
  rw [b150_101, gb_pos (by decide)]
  obtain ⟨w14, q14, p14⟩ := n70 (sa := sa) (sv := sv) (d := d) b13.ge (Nat.pos_of_ne_zero b13.gz)
  obtain ⟨m14, b14, e14⟩ := b13.goS q14 p14 (1, 10) 10 (by decide +kernel) (by decide +kernel) (by decide +kernel)
  rw [e14 (r150 sa sv (d + 3) 136 [some (.ref (gt_ m)), some (.int (nI (4 + 1)))] [])]
  obtain ⟨w15, q15, p15⟩ := n70 (sa := sa) (sv := sv) (d := d) b14.ge (Nat.pos_of_ne_zero b14.gz)
  obtain ⟨m15, b15, e15⟩ := b14.goS q15 p15 (1, 10) 12 (by decide +kernel) (by decide +kernel) (by decide +kernel)
  rw [b150_136, e15 (r150 sa sv (d + 3) 147 [some (.ref (gt_ m)), some (.int (nI (4 + 1)))] [])]
  obtain ⟨w16, q16, p16⟩ := n70 (sa := sa) (sv := sv) (d := d) b15.ge (Nat.pos_of_ne_zero b15.gz)
  obtain ⟨m16, b16, e16⟩ := b15.goS q16 p16 (1, 10) 13 (by decide +kernel) (by decide +kernel) (by decide +kernel)
  rw [b150_147, e16 (r150 sa sv (d + 3) 158 [some (.ref (gt_ m)), some (.int (nI (4 + 1)))] [])]
  rw [b150_158]
  exact ⟨_, L, rfl, b16.to (by decide +kernel) (by decide +kernel) (by decide +kernel) (by decide +kernel), hL⟩
end N89
