/-! constructors: what each makes -/
section N89y
variable {sa sv d : Nat} {m : am_M}
theorem n0 (hg : ge_ m = true) (h0 : 0 < gt_ m) : ∃ m', am_ca sa sv (d + 2) 0 [.ref (gt_ m)] (al_ m (1, 0) 10) = some (.inl none, m') ∧ BS m (gt_ m) m' [(1, 0), (4, 10), (2, 10), (4, 12), (2, 12), (2, 12), (1, 8), (2, 72), (1, 8), (2, 96), (1, 8), (2, 384)] [(0, 9, 10), (0, 8, 8), (0, 7, 6), (0, 6, 5), (0, 5, 4), (0, 4, 3), (0, 3, 2), (0, 2, 1), (6, 1, 7), (8, 1, 9), (10, 1, 11)] [(6, 0, nI 2), (8, 0, nI 2), (10, 0, nI 2)] 627 0 z_ := by
  have b0 := BS.one rfl hg h0 (1, 0) 10
  rw [c0]
  obtain ⟨m1, b1, e1⟩ := b0.goA (1, 0) 4 10 2 (by omega) (by show 0 < 1; omega) rfl (by decide)
  rw [b0_0, e1 (r0 sa sv (d + 1) 12 [some (.ref (gt_ m))] [])]
  obtain ⟨m2, b2, e2⟩ := b1.goA (1, 0) 2 10 3 (by omega) (by show 0 < 2; omega) rfl (by decide)
  rw [b0_12, e2 (r0 sa sv (d + 1) 20 [some (.ref (gt_ m))] [])]
  obtain ⟨m3, b3, e3⟩ := b2.goA (1, 0) 4 12 4 (by omega) (by show 0 < 3; omega) rfl (by decide)
  rw [b0_20, e3 (r0 sa sv (d + 1) 28 [some (.ref (gt_ m))] [])]
  obtain ⟨m4, b4, e4⟩ := b3.goA (1, 0) 2 12 5 (by omega) (by show 0 < 4; omega) rfl (by decide)
  rw [b0_28, e4 (r0 sa sv (d + 1) 36 [some (.ref (gt_ m))] [])]
  obtain ⟨m5, b5, e5⟩ := b4.goA (1, 0) 2 12 6 (by omega) (by show 0 < 5; omega) rfl (by decide)
  rw [b0_36, e5 (r0 sa sv (d + 1) 44 [some (.ref (gt_ m))] [])]
  obtain ⟨w6, q6, p6⟩ := n126 (sa := sa) (sv := sv) (d := d) b5.ge (Nat.pos_of_ne_zero b5.gz) 36 2 (by omega) (by omega) (by omega) (by omega)
  obtain ⟨m6, b6, e6⟩ := b5.goS q6 p6 (1, 0) 7 (by show 0 < 6; omega) rfl (by decide)
  rw [b0_44, e6 (r0 sa sv (d + 1) 58 [some (.ref (gt_ m))] [])]
  obtain ⟨w7, q7, p7⟩ := n126 (sa := sa) (sv := sv) (d := d) b6.ge (Nat.pos_of_ne_zero b6.gz) 48 2 (by omega) (by omega) (by omega) (by omega)
  obtain ⟨m7, b7, e7⟩ := b6.goS q7 p7 (1, 0) 8 (by show 0 < 8; omega) rfl (by decide)
  rw [b0_58, e7 (r0 sa sv (d + 1) 72 [some (.ref (gt_ m))] [])]
  obtain ⟨w8, q8, p8⟩ := n126 (sa := sa) (sv := sv) (d := d) b7.ge (Nat.pos_of_ne_zero b7.gz) 192 2 (by omega) (by omega) (by omega) (by omega)
  obtain ⟨m8, b8, e8⟩ := b7.goS q8 p8 (1, 0) 9 (by show 0 < 10; omega) rfl (by decide)
  rw [b0_72, e8 (r0 sa sv (d + 1) 87 [some (.ref (gt_ m))] [])]
  rw [b0_87]
  exact ⟨_, rfl, b8.to rfl rfl rfl rfl⟩
theorem n46 (hg : ge_ m = true) (h0 : 0 < gt_ m) : ∃ m', am_ca sa sv (d + 1) 46 [.ref (gt_ m)] (al_ m (1, 2) 8) = some (.inl none, m') ∧ BS m (gt_ m) m' [(1, 2), (4, 10), (4, 40), (4, 30), (4, 120), (4, 12), (4, 250), (2, 5)] [(0, 6, 7), (0, 5, 6), (0, 4, 5), (0, 3, 4), (0, 2, 3), (0, 1, 2), (0, 0, 1)] [] 475 0 z_ := by
  have b0 := BS.one rfl hg h0 (1, 2) 8
  rw [c46]
  obtain ⟨m1, b1, e1⟩ := b0.goA (1, 2) 4 10 0 (by omega) (by show 0 < 1; omega) rfl (by decide)
  rw [b46_0, e1 (r46 sa sv d 12 [some (.ref (gt_ m))] [])]
  obtain ⟨m2, b2, e2⟩ := b1.goA (1, 2) 4 40 1 (by omega) (by show 0 < 2; omega) rfl (by decide)
  rw [b46_12, e2 (r46 sa sv d 20 [some (.ref (gt_ m))] [])]
  obtain ⟨m3, b3, e3⟩ := b2.goA (1, 2) 4 30 2 (by omega) (by show 0 < 3; omega) rfl (by decide)
  rw [b46_20, e3 (r46 sa sv d 28 [some (.ref (gt_ m))] [])]
  obtain ⟨m4, b4, e4⟩ := b3.goA (1, 2) 4 120 3 (by omega) (by show 0 < 4; omega) rfl (by decide)
  rw [b46_28, e4 (r46 sa sv d 36 [some (.ref (gt_ m))] [])]
  obtain ⟨m5, b5, e5⟩ := b4.goA (1, 2) 4 12 4 (by omega) (by show 0 < 5; omega) rfl (by decide)
  rw [b46_36, e5 (r46 sa sv d 44 [some (.ref (gt_ m))] [])]
  obtain ⟨m6, b6, e6⟩ := b5.goA (1, 2) 4 250 5 (by omega) (by show 0 < 6; omega) rfl (by decide)
  rw [b46_44, e6 (r46 sa sv d 53 [some (.ref (gt_ m))] [])]
  obtain ⟨m7, b7, e7⟩ := b6.goA (1, 2) 2 5 6 (by omega) (by show 0 < 7; omega) rfl (by decide)
  rw [b46_53, e7 (r46 sa sv d 60 [some (.ref (gt_ m))] [])]
  rw [b46_60]
  exact ⟨_, rfl, b7.to rfl rfl rfl rfl⟩
theorem n70 (hg : ge_ m = true) (h0 : 0 < gt_ m) : ∃ m', am_ca sa sv (d + 3) 70 [.ref (gt_ m)] (al_ m (1, 3) 6) = some (.inl none, m') ∧ BS m (gt_ m) m' [(1, 3), (1, 0), (4, 10), (2, 10), (4, 12), (2, 12), (2, 12), (1, 8), (2, 72), (1, 8), (2, 96), (1, 8), (2, 384), (1, 8), (2, 96), (1, 8), (2, 72), (1, 8), (2, 256), (1, 2), (4, 10), (4, 40), (4, 30), (4, 120), (4, 12), (4, 250), (2, 5)] [(0, 5, 19), (0, 4, 17), (0, 3, 15), (0, 2, 13), (0, 1, 1), (1, 9, 11), (1, 8, 9), (1, 7, 7), (1, 6, 6), (1, 5, 5), (1, 4, 4), (1, 3, 3), (1, 2, 2), (7, 1, 8), (9, 1, 10), (11, 1, 12), (13, 1, 14), (15, 1, 16), (17, 1, 18), (19, 6, 26), (19, 5, 25), (19, 4, 24), (19, 3, 23), (19, 2, 22), (19, 1, 21), (19, 0, 20)] [(7, 0, nI 2), (9, 0, nI 2), (11, 0, nI 2), (13, 0, nI 6), (15, 0, nI 6), (17, 0, nI 4)] 1541 0 z_ := by
  have b0 := BS.one rfl hg h0 (1, 3) 6
  rw [c70]
  obtain ⟨w1, q1, p1⟩ := n0 (sa := sa) (sv := sv) (d := d) b0.ge (Nat.pos_of_ne_zero b0.gz)
  obtain ⟨m1, b1, e1⟩ := b0.goS q1 p1 (1, 3) 1 (by show 0 < 1; omega) rfl (by decide)
  rw [b70_0, e1 (r70 sa sv (d + 2) 15 [some (.ref (gt_ m))] [])]
  obtain ⟨w2, q2, p2⟩ := n126 (sa := sa) (sv := sv) (d := d + 1) b1.ge (Nat.pos_of_ne_zero b1.gz) 16 6 (by omega) (by omega) (by omega) (by omega)
  obtain ⟨m2, b2, e2⟩ := b1.goS q2 p2 (1, 3) 2 (by show 0 < 13; omega) rfl (by decide)
  rw [b70_15, e2 (r70 sa sv (d + 2) 30 [some (.ref (gt_ m))] [])]
  obtain ⟨w3, q3, p3⟩ := n126 (sa := sa) (sv := sv) (d := d + 1) b2.ge (Nat.pos_of_ne_zero b2.gz) 12 6 (by omega) (by omega) (by omega) (by omega)
  obtain ⟨m3, b3, e3⟩ := b2.goS q3 p3 (1, 3) 3 (by show 0 < 15; omega) rfl (by decide)
  rw [b70_30, e3 (r70 sa sv (d + 2) 45 [some (.ref (gt_ m))] [])]
  obtain ⟨w4, q4, p4⟩ := n126 (sa := sa) (sv := sv) (d := d + 1) b3.ge (Nat.pos_of_ne_zero b3.gz) 64 4 (by omega) (by omega) (by omega) (by omega)
  obtain ⟨m4, b4, e4⟩ := b3.goS q4 p4 (1, 3) 4 (by show 0 < 17; omega) rfl (by decide)
  rw [b70_45, e4 (r70 sa sv (d + 2) 59 [some (.ref (gt_ m))] [])]
  obtain ⟨w5, q5, p5⟩ := n46 (sa := sa) (sv := sv) (d := d + 1) b4.ge (Nat.pos_of_ne_zero b4.gz)
  obtain ⟨m5, b5, e5⟩ := b4.goS q5 p5 (1, 3) 5 (by show 0 < 19; omega) rfl (by decide)
  rw [b70_59, e5 (r70 sa sv (d + 2) 70 [some (.ref (gt_ m))] [])]
  rw [b70_70]
  exact ⟨_, rfl, b5.to rfl rfl rfl rfl⟩
theorem n31 (hg : ge_ m = true) (h0 : 0 < gt_ m) : ∃ m', am_ca sa sv (d + 2) 31 [.ref (gt_ m)] (al_ m (1, 1) 10) = some (.inl none, m') ∧ BS m (gt_ m) m' [(1, 1), (2, 12), (2, 120), (2, 10), (2, 12), (2, 12), (2, 10), (1, 8), (2, 256)] [(0, 6, 7), (0, 5, 6), (0, 4, 5), (0, 3, 4), (0, 2, 3), (0, 1, 2), (0, 0, 1), (7, 1, 8)] [(7, 0, nI 4)] 445 0 z_ := by
  have b0 := BS.one rfl hg h0 (1, 1) 10
  rw [c31]
  obtain ⟨m1, b1, e1⟩ := b0.goA (1, 1) 2 12 0 (by omega) (by show 0 < 1; omega) rfl (by decide)
  rw [b31_0, e1 (r31 sa sv (d + 1) 12 [some (.ref (gt_ m))] [])]
  obtain ⟨m2, b2, e2⟩ := b1.goA (1, 1) 2 120 1 (by omega) (by show 0 < 2; omega) rfl (by decide)
  rw [b31_12, e2 (r31 sa sv (d + 1) 20 [some (.ref (gt_ m))] [])]
  obtain ⟨m3, b3, e3⟩ := b2.goA (1, 1) 2 10 2 (by omega) (by show 0 < 3; omega) rfl (by decide)
  rw [b31_20, e3 (r31 sa sv (d + 1) 28 [some (.ref (gt_ m))] [])]
  obtain ⟨m4, b4, e4⟩ := b3.goA (1, 1) 2 12 3 (by omega) (by show 0 < 4; omega) rfl (by decide)
  rw [b31_28, e4 (r31 sa sv (d + 1) 36 [some (.ref (gt_ m))] [])]
  obtain ⟨m5, b5, e5⟩ := b4.goA (1, 1) 2 12 4 (by omega) (by show 0 < 5; omega) rfl (by decide)
  rw [b31_36, e5 (r31 sa sv (d + 1) 44 [some (.ref (gt_ m))] [])]
  obtain ⟨m6, b6, e6⟩ := b5.goA (1, 1) 2 10 5 (by omega) (by show 0 < 6; omega) rfl (by decide)
  rw [b31_44, e6 (r31 sa sv (d + 1) 52 [some (.ref (gt_ m))] [])]
  obtain ⟨w7, q7, p7⟩ := n126 (sa := sa) (sv := sv) (d := d) b6.ge (Nat.pos_of_ne_zero b6.gz) 64 4 (by omega) (by omega) (by omega) (by omega)
  obtain ⟨m7, b7, e7⟩ := b6.goS q7 p7 (1, 1) 6 (by show 0 < 7; omega) rfl (by decide)
  rw [b31_52, e7 (r31 sa sv (d + 1) 66 [some (.ref (gt_ m))] [])]
  rw [b31_66]
  exact ⟨_, rfl, b7.to rfl rfl rfl rfl⟩
end N89y
