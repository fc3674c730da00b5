/-! constructors: the reference -/
section N89
variable {sa sv d a z z' p p' : Nat} {L L' : Nat → Int64} {m0 m m' : am_M} {ks ks' : List (Nat × Nat)} {rs rs' : List (Nat × Nat × Nat)} {ws ws' : List (Nat × Nat × Int32)}
theorem BS.s0 (h : BS m0 a m ks rs ws z p L) (i k : Nat) (hi : i < ks.length) (hw : wv_ ws i k = 0) : BS m0 a (si_ m (a + i) k (nI 0)) ks rs ws z p L := by
  obtain ⟨h1, ⟨a1, a2, a3, a4, a5, a6⟩, h3, h4, h5⟩ := h
  refine ⟨h1, ⟨a1, a2, fun i' k' hi' => ?_, a4, a5, a6⟩, h3.si (by omega), h4, h5⟩
  rw [gi_si]
  by_cases e : i' = i ∧ k' = k
  · obtain ⟨e1, e2⟩ := e
    subst e1
    subst e2
    rw [if_pos ⟨rfl, rfl⟩, hw]
    rfl
  · rw [if_neg (fun z => e ⟨by omega, z.2⟩)]
    exact a3 i' k' hi'
theorem BS.l0 (h : BS m0 a m ks rs ws z p z_) (k : Nat) : BS m0 a (sl_ m (a + p) k (0 : Int64)) ks rs ws z p z_ := by
  have b := h.sl k 0
  have e : (fun j => if j = k then (0 : Int64) else z_ j) = z_ := funext fun j => by
    by_cases e : j = k
    · exact if_pos e
    · exact if_neg e
  rw [e] at b
  exact b
theorem lp248a (hk : ks.getD 0 (0, 0) = (1, 11)) (hk1 : ks.getD 2 (0, 0) = (2, 1023)) (hr : (0, 15, 2) ∈ rs) (hks : 2 < ks.length) (hw : ∀ k, wv_ ws 2 k = 0) : ∀ (t j : Nat) (m : am_M), j + t = 1023 → BS m0 a m ks rs ws z p L → ∃ m', r248 sa sv d 2 [some (.ref a), some (.int (nI j))] [] m = r248 sa sv d 24 [some (.ref a), some (.int (nI 0))] [] m' ∧ BS m0 a m' ks rs ws z p L := by
  intro t
  induction t with
  | zero =>
    intro j m hj b
    refine ⟨m, ?_, b⟩
    rw [b248_2, gb_pos (by rw [nI_leE (by omega) (by omega)]; omega)]
  | succ t ih =>
    intro j m hj b
    have k0 := b.k 0 (by omega)
    rw [Nat.add_zero, hk] at k0
    have k1 := b.k 2 (by omega)
    rw [hk1] at k1
    have r0 : gr_ m a 15 = a + 2 := b.r 0 15 2 hr
    have h0 := b.2.2.2.2.2
    rw [b248_2, gb_neg (by rw [nI_leE (by omega) (by omega)]; omega), r0, gq_pos ⟨k0, by omega⟩, k1, gq_pos ⟨rfl, in_of (by omega) (by omega)⟩, nI_clamp (by omega), nI_add]
    exact ih (j + 1) _ (by omega) (b.s0 2 j (by omega) (hw j))
theorem lp248b (hk : ks.getD 0 (0, 0) = (1, 11)) (hk1 : ks.getD 6 (0, 0) = (4, 484)) (hr : (0, 19, 6) ∈ rs) (hks : 6 < ks.length) : ∀ (t j : Nat) (m : am_M), j + t = 484 → BS m0 a m ks rs ws z 6 z_ → ∃ m', r248 sa sv d 24 [some (.ref a), some (.int (nI j))] [] m = some (.inl none, m') ∧ BS m0 a m' ks rs ws z 6 z_ := by
  intro t
  induction t with
  | zero =>
    intro j m hj b
    refine ⟨m, ?_, b⟩
    rw [b248_24, gb_pos (by rw [nI_leE (by omega) (by omega)]; omega)]
  | succ t ih =>
    intro j m hj b
    have k0 := b.k 0 (by omega)
    rw [Nat.add_zero, hk] at k0
    have k1 := b.k 6 (by omega)
    rw [hk1] at k1
    have r0 : gr_ m a 19 = a + 6 := b.r 0 19 6 hr
    have h0 := b.2.2.2.2.2
    rw [b248_24, gb_neg (by rw [nI_leE (by omega) (by omega)]; omega), r0, gq_pos ⟨k0, by omega⟩, k1, gq_pos ⟨rfl, in_of (by omega) (by omega)⟩, nI_clamp (by omega), nI_add]
    exact ih (j + 1) _ (by omega) (b.l0 j)
end N89
def zrk_ : List (Nat × Nat) := [(1, 11), (2, 900), (2, 1023), (2, 1023), (2, 5115), (2, 1023), (4, 484), (4, 484), (4, 2420), (4, 484), (2, 4), (2, 4), (2, 256), (2, 12), (2, 12), (2, 10), (2, 10), (2, 60), (2, 60), (2, 60), (2, 2), (2, 2), (2, 3000)]
def zrr_ : List (Nat × Nat × Nat) := [(0, 43, 22), (0, 38, 21), (0, 37, 20), (0, 36, 19), (0, 35, 18), (0, 34, 17), (0, 32, 16), (0, 31, 15), (0, 30, 14), (0, 29, 13), (0, 28, 12), (0, 26, 11), (0, 25, 10), (0, 22, 9), (0, 21, 8), (0, 20, 7), (0, 19, 6), (0, 18, 5), (0, 17, 4), (0, 16, 3), (0, 15, 2), (0, 1, 1)]
def zrw_ : List (Nat × Nat × Int32) := [(0, 12, -1), (0, 9, -1)]
def zrz_ : Nat := 16494
section N89
variable {sa sv d : Nat} {m : am_M}
theorem n220 (hg : ge_ m = true) (h0 : 0 < gt_ m) : ∃ m', am_ca sa sv (d + 2) 220 [.ref (gt_ m)] (al_ m (1, 11) 46) = some (.inl none, m') ∧ BS m (gt_ m) m' zrk_ zrr_ zrw_ zrz_ 6 z_ := by
  have b0 := BS.one rfl hg h0 (1, 11) 46
  rw [c220]
  obtain ⟨m1, b1, e1⟩ := b0.goA (1, 11) 2 900 1 (by omega) (by decide +kernel) (by decide +kernel) (by decide +kernel)
  rw [b220_0, e1 (r220 sa sv (d + 1) 13 [some (.ref (gt_ m))] [])]
  have b1b := (b1.si 0 9 (-1) (by decide +kernel)).si 0 12 (-1) (by decide +kernel)
  obtain ⟨m2, b2, e2⟩ := b1b.goA (1, 11) 2 1023 15 (by omega) (by decide +kernel) (by decide +kernel) (by decide +kernel)
  have k13 : gk_ m1 (gt_ m) = (1, 11) := b1.k 0 (by decide +kernel)
  have q13 : r220 sa sv (d + 1) 13 [some (.ref (gt_ m))] [] m1 = r220 sa sv (d + 1) 32 [some (.ref (gt_ m))] [] m2 := by
    rw [b220_13, gq_pos k13, gq_pos k13]
    exact e2 (r220 sa sv (d + 1) 32 [some (.ref (gt_ m))] [])
  rw [q13]
  obtain ⟨m3, b3, e3⟩ := b2.goA (1, 11) 2 1023 16 (by omega) (by decide +kernel) (by decide +kernel) (by decide +kernel)
  rw [b220_32, e3 (r220 sa sv (d + 1) 41 [some (.ref (gt_ m))] [])]
  obtain ⟨m4, b4, e4⟩ := b3.goA (1, 11) 2 5115 17 (by omega) (by decide +kernel) (by decide +kernel) (by decide +kernel)
  rw [b220_41, e4 (r220 sa sv (d + 1) 50 [some (.ref (gt_ m))] [])]
  obtain ⟨m5, b5, e5⟩ := b4.goA (1, 11) 2 1023 18 (by omega) (by decide +kernel) (by decide +kernel) (by decide +kernel)
  rw [b220_50, e5 (r220 sa sv (d + 1) 59 [some (.ref (gt_ m))] [])]
  obtain ⟨m6, b6, e6⟩ := b5.goA (1, 11) 4 484 19 (by omega) (by decide +kernel) (by decide +kernel) (by decide +kernel)
  rw [b220_59, e6 (r220 sa sv (d + 1) 68 [some (.ref (gt_ m))] [])]
  obtain ⟨m7, b7, e7⟩ := b6.goA (1, 11) 4 484 20 (by omega) (by decide +kernel) (by decide +kernel) (by decide +kernel)
  rw [b220_68, e7 (r220 sa sv (d + 1) 77 [some (.ref (gt_ m))] [])]
  obtain ⟨m8, b8, e8⟩ := b7.goA (1, 11) 4 2420 21 (by omega) (by decide +kernel) (by decide +kernel) (by decide +kernel)
  rw [b220_77, e8 (r220 sa sv (d + 1) 86 [some (.ref (gt_ m))] [])]
  obtain ⟨m9, b9, e9⟩ := b8.goA (1, 11) 4 484 22 (by omega) (by decide +kernel) (by decide +kernel) (by decide +kernel)
  rw [b220_86, e9 (r220 sa sv (d + 1) 95 [some (.ref (gt_ m))] [])]
  obtain ⟨m10, b10, e10⟩ := b9.goA (1, 11) 2 4 25 (by omega) (by decide +kernel) (by decide +kernel) (by decide +kernel)
  rw [b220_95, e10 (r220 sa sv (d + 1) 102 [some (.ref (gt_ m))] [])]
  obtain ⟨m11, b11, e11⟩ := b10.goA (1, 11) 2 4 26 (by omega) (by decide +kernel) (by decide +kernel) (by decide +kernel)
  rw [b220_102, e11 (r220 sa sv (d + 1) 109 [some (.ref (gt_ m))] [])]
  obtain ⟨m12, b12, e12⟩ := b11.goA (1, 11) 2 256 28 (by omega) (by decide +kernel) (by decide +kernel) (by decide +kernel)
  rw [b220_109, e12 (r220 sa sv (d + 1) 118 [some (.ref (gt_ m))] [])]
  obtain ⟨m13, b13, e13⟩ := b12.goA (1, 11) 2 12 29 (by omega) (by decide +kernel) (by decide +kernel) (by decide +kernel)
  rw [b220_118, e13 (r220 sa sv (d + 1) 126 [some (.ref (gt_ m))] [])]
  obtain ⟨m14, b14, e14⟩ := b13.goA (1, 11) 2 12 30 (by omega) (by decide +kernel) (by decide +kernel) (by decide +kernel)
  rw [b220_126, e14 (r220 sa sv (d + 1) 134 [some (.ref (gt_ m))] [])]
  obtain ⟨m15, b15, e15⟩ := b14.goA (1, 11) 2 10 31 (by omega) (by decide +kernel) (by decide +kernel) (by decide +kernel)
  rw [b220_134, e15 (r220 sa sv (d + 1) 142 [some (.ref (gt_ m))] [])]
  obtain ⟨m16, b16, e16⟩ := b15.goA (1, 11) 2 10 32 (by omega) (by decide +kernel) (by decide +kernel) (by decide +kernel)
  rw [b220_142, e16 (r220 sa sv (d + 1) 150 [some (.ref (gt_ m))] [])]
  obtain ⟨m17, b17, e17⟩ := b16.goA (1, 11) 2 60 34 (by omega) (by decide +kernel) (by decide +kernel) (by decide +kernel)
  rw [b220_150, e17 (r220 sa sv (d + 1) 158 [some (.ref (gt_ m))] [])]
  obtain ⟨m18, b18, e18⟩ := b17.goA (1, 11) 2 60 35 (by omega) (by decide +kernel) (by decide +kernel) (by decide +kernel)
  rw [b220_158, e18 (r220 sa sv (d + 1) 166 [some (.ref (gt_ m))] [])]
  obtain ⟨m19, b19, e19⟩ := b18.goA (1, 11) 2 60 36 (by omega) (by decide +kernel) (by decide +kernel) (by decide +kernel)
  rw [b220_166, e19 (r220 sa sv (d + 1) 174 [some (.ref (gt_ m))] [])]
  obtain ⟨m20, b20, e20⟩ := b19.goA (1, 11) 2 2 37 (by omega) (by decide +kernel) (by decide +kernel) (by decide +kernel)
  rw [b220_174, e20 (r220 sa sv (d + 1) 181 [some (.ref (gt_ m))] [])]
  obtain ⟨m21, b21, e21⟩ := b20.goA (1, 11) 2 2 38 (by omega) (by decide +kernel) (by decide +kernel) (by decide +kernel)
  rw [b220_181, e21 (r220 sa sv (d + 1) 188 [some (.ref (gt_ m))] [])]
  obtain ⟨m22, b22, e22⟩ := b21.goA (1, 11) 2 3000 43 (by omega) (by decide +kernel) (by decide +kernel) (by decide +kernel)
  rw [b220_188, e22 (r220 sa sv (d + 1) 197 [some (.ref (gt_ m))] [])]
  have c0 : BS m (gt_ m) m22 zrk_ zrr_ zrw_ zrz_ 6 z_ := (b22.to (by decide +kernel) (by decide +kernel) (by decide +kernel) (by decide +kernel)).mv 6 (by decide +kernel)
  have kc : gk_ m22 (gt_ m) = (1, 11) := c0.k 0 (by decide +kernel)
  obtain ⟨m', e', b'⟩ := lp248a (sa := sa) (sv := sv) (d := d) (by decide +kernel) (by decide +kernel) (by decide +kernel) (by decide +kernel) (fun k => wv_no (by decide +kernel)) 1023 0 m22 (by omega) c0
  obtain ⟨m'', e'', b''⟩ := lp248b (sa := sa) (sv := sv) (d := d) (by decide +kernel) (by decide +kernel) (by decide +kernel) (by decide +kernel) 484 0 m' (by omega) b'
  rw [b220_197, gq_pos kc, c248, b248_0, e', e'', c0_v]
  exact ⟨_, rfl, b''⟩
end N89
