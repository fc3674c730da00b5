/-! constructors: the words -/
def tx_ : List Int32 := kb_ 0
/-- the text of the words is at sa -/
def TXm (m : am_M) (sa : Nat) : Prop := SV m sa tx_
/-- the words that a text holds -/
def wt (t : List Int32) (i : Nat) (v : Int64) (L : Nat → Int64) : Nat → Int64 := match t with
  | [] => L
  | c :: t => if c = nI 32 then (if 21 ≤ i then wt t i v L else wt t (i + 1) 0 (fun j => if j = i then v else L j)) else wt t i (v * (32 : Int64) + ((c - nI 97) + nI 1).toInt64) L
theorem wt_qi : ∀ k, k < 21 → wt tx_ 0 0 z_ k = qi_ k := by decide +kernel
theorem tx_ln : tx_.length ≤ 1000 := by decide
section N89
variable {sa sv d a z p : Nat} {L : Nat → Int64} {m0 m : am_M} {ks : List (Nat × Nat)} {rs : List (Nat × Nat × Nat)} {ws : List (Nat × Nat × Int32)}
theorem BS.tx (h : BS m0 a m ks rs ws z p L) (hT : TXm m0 sa) (hsv : sa < a ∧ gr_ m0 sa 0 < a) : TXm m sa := by
  obtain ⟨e1, e2, _, e3, _⟩ := h.2.2.1 sa hsv.1
  obtain ⟨f1, f2, _⟩ := h.2.2.1 _ hsv.2
  exact SV.cg hT e1 e2 e3 f1 f2
theorem BS.txs (h : BS m0 a m ks rs ws z p L) {c : Nat} (hz : a ≤ c) (hsv : sa < a ∧ gr_ m0 sa 0 < a) : sa < c ∧ gr_ m sa 0 < c := by
  obtain ⟨e1, e2, _, e3, _⟩ := h.2.2.1 sa hsv.1
  rw [e3]
  omega
theorem BS.mv (h : BS m0 a m ks rs ws z p z_) (q : Nat) (hq : q < ks.length) : BS m0 a m ks rs ws z q z_ := ⟨h.1, ⟨h.2.1.1, h.2.1.2.1, h.2.1.2.2.1, fun i k hi => by rw [h.2.1.2.2.2.1 i k hi, z_if, z_if], h.2.1.2.2.2.2.1, hq⟩, h.2.2⟩
theorem lp132 (hT : TXm m0 sa) (hsv : sa < a ∧ gr_ m0 sa 0 < a) (hk : ks.getD 0 (0, 0) = (1, 9)) (hk1 : ks.getD 1 (0, 0) = (4, 21)) (hr : (0, 0, 1) ∈ rs) (hks : 1 < ks.length) : ∀ (t : List Int32) (j i : Nat) (v : Int64) (L : Nat → Int64) (o5 : Option Value) (m : am_M), tx_.drop j = t → j ≤ 1000 → i ≤ 21 → BS m0 a m ks rs ws z 1 L → ∃ m', r132 sa sv (d + 2) 51 [some (.ref a), some (.int (nI i)), some (.long v), none, some (.int (nI j)), o5] [] m = some (.inl none, m') ∧ BS m0 a m' ks rs ws z 1 (wt t i v L) := by
  have hl := tx_ln
  intro t
  induction t with
  | nil =>
    intro j i v L o5 m ht hj hi b
    have h1 : tx_.length ≤ j := by
      have := congrArg List.length ht
      rw [List.length_drop] at this
      have e : ([] : List Int32).length = 0 := rfl
      omega
    refine ⟨m, ?_, b⟩
    rw [b132_51, gq_pos (b.tx hT hsv).b, n362 (b.tx hT hsv), ci_v, gb_pos (by rw [nI_leE (by omega) (by omega)]; exact h1)]
  | cons c t ih =>
    intro j i v L o5 m ht hj hi b
    have h1 : j < tx_.length := by
      have := congrArg List.length ht
      rw [List.length_drop] at this
      have e : (c :: t).length = t.length + 1 := rfl
      omega
    have hd := List.drop_eq_getElem_cons h1
    rw [ht] at hd
    have hc : tx_.getD j 0 = c := by
      rw [List.getD_eq_getElem?_getD, List.getElem?_eq_getElem h1]
      exact (List.cons.inj hd).1.symm
    have ht' : tx_.drop (j + 1) = t := (List.cons.inj hd).2.symm
    have k0 := b.k 0 (by omega)
    rw [Nat.add_zero, hk] at k0
    have k1 := b.k 1 (by omega)
    rw [hk1] at k1
    have r0 := (b.2.1.2.1 _ hr).2
    dsimp only at r0
    rw [Nat.add_zero] at r0
    have h0 := b.2.2.2.2.2
    rw [b132_51, gq_pos (b.tx hT hsv).b, n362 (b.tx hT hsv), ci_v, gb_neg (by rw [nI_leE (by omega) (by omega)]; omega), gq_pos (b.tx hT hsv).b, n363 (b.tx hT hsv) j h1, ci_v, hc, nI_add]
    unfold wt
    by_cases e : c = nI 32
    · rw [gb_pos e, if_pos e]
      by_cases e2 : 21 ≤ i
      · rw [gb_pos (by rw [nI_leE (by omega) (by omega)]; exact e2), if_pos e2]
        exact ih (j + 1) i v L _ m ht' (by omega) hi b
      · rw [gb_neg (by rw [nI_leE (by omega) (by omega)]; exact e2), if_neg e2, gq_pos ⟨k0, by rw [r0]; omega⟩, r0, k1, gq_pos ⟨rfl, in_of (by omega) (by omega)⟩, nI_clamp (by omega), nI_add]
        exact ih (j + 1) (i + 1) 0 _ _ _ ht' (by omega) (by omega) (b.sl i v)
    · rw [gb_neg e, if_neg e, c133, b133_0, cl_v]
      exact ih (j + 1) i _ L _ m ht' (by omega) hi b
theorem n132 (hg : ge_ m = true) (h0 : 0 < gt_ m) (hT : TXm m sa) (hsv : sa < gt_ m ∧ gr_ m sa 0 < gt_ m) : ∃ m' L, am_ca sa sv (d + 3) 132 [.ref (gt_ m)] (al_ m (1, 9) 9) = some (.inl none, m') ∧ BS m (gt_ m) m' [(1, 9), (4, 21), (2, 901), (2, 901), (4, 901)] [(0, 3, 4), (0, 2, 3), (0, 1, 2), (0, 0, 1)] [(0, 7, -1)] 2733 1 L ∧ ∀ k, k < 21 → L k = qi_ k := by
  have b0 := BS.one rfl hg h0 (1, 9) 9
  rw [c132]
  obtain ⟨m1, b1, e1⟩ := b0.goA (1, 9) 4 21 0 (by omega) (by show 0 < 1; omega) rfl (by decide)
  rw [b132_0, e1 (r132 sa sv (d + 2) 12 [some (.ref (gt_ m)), none, none, none, none, none] [])]
  obtain ⟨m2, b2, e2⟩ := b1.goA (1, 9) 2 901 1 (by omega) (by show 0 < 2; omega) rfl (by decide)
  rw [b132_12, e2 (r132 sa sv (d + 2) 21 [some (.ref (gt_ m)), none, none, none, none, none] [])]
  obtain ⟨m3, b3, e3⟩ := b2.goA (1, 9) 2 901 2 (by omega) (by show 0 < 3; omega) rfl (by decide)
  rw [b132_21, e3 (r132 sa sv (d + 2) 30 [some (.ref (gt_ m)), none, none, none, none, none] [])]
  obtain ⟨m4, b4, e4⟩ := b3.goA (1, 9) 4 901 3 (by omega) (by show 0 < 4; omega) rfl (by decide)
  rw [b132_30, e4 (r132 sa sv (d + 2) 39 [some (.ref (gt_ m)), none, none, none, none, none] [])]
  have b5 : BS m (gt_ m) m4 [(1, 9), (4, 21), (2, 901), (2, 901), (4, 901)] [(0, 3, 4), (0, 2, 3), (0, 1, 2), (0, 0, 1)] [] 2733 1 z_ := (b4.to rfl rfl rfl rfl).mv 1 (by show 1 < 5; omega)
  have k0 : gk_ m4 (gt_ m) = (1, 9) := b5.k 0 (by show 0 < 5; omega)
  rw [b132_39, gq_pos k0]
  obtain ⟨m6, e6, b6⟩ := lp132 (sa := sa) (d := d) hT hsv rfl rfl (by decide) (by show 1 < 5; omega) tx_ 0 0 0 z_ none _ rfl (by omega) (by omega) (b5.si 0 7 (-1) (by show 0 < 5; omega))
  exact ⟨m6, _, e6, b6, wt_qi⟩
theorem n89 (hg : ge_ m = true) (h0 : 0 < gt_ m) : ∃ m', am_ca sa sv (d + 1) 89 [.ref (gt_ m)] (al_ m (1, 4) 3) = some (.inl none, m') ∧ BS m (gt_ m) m' [(1, 4), (3, 3840), (3, 20)] [(0, 1, 2), (0, 0, 1)] [] 3863 0 z_ := by
  have b0 := BS.one rfl hg h0 (1, 4) 3
  obtain ⟨m1, b1, e1⟩ := b0.goA (1, 4) 3 3840 0 (by omega) (by show 0 < 1; omega) rfl (by decide)
  obtain ⟨m2, b2, e2⟩ := b1.goA (1, 4) 3 20 1 (by omega) (by show 0 < 2; omega) rfl (by decide)
  refine ⟨m2, ?_, b2.to rfl rfl rfl rfl⟩
  rw [c89, b89_0]
  exact (e1 (fun m1 => gq_ (¬ (nI 20) < 0 ∧ ((nI 20)).toNatClampNeg ≤ 60000 ∧ ge_ m1 = true) (gq_ (gk_ (al_ m1 (3, ((nI 20)).toNatClampNeg) ((nI 20)).toNatClampNeg) (gt_ m) = (1, 4) ∧ ¬ (gt_ m1) = 0) (some (.inl none, sr_ (al_ m1 (3, ((nI 20)).toNatClampNeg) ((nI 20)).toNatClampNeg) (gt_ m) 1 (gt_ m1)))))).trans (e2 (fun m2 => some (.inl none, m2)))
theorem n96 (hg : ge_ m = true) (h0 : 0 < gt_ m) : ∃ m', am_ca sa sv (d + 2) 96 [.ref (gt_ m)] (al_ m (1, 5) 4) = some (.inl none, m') ∧ BS m (gt_ m) m' [(1, 5), (1, 8), (2, 120)] [(0, 0, 1), (1, 1, 2)] [(1, 0, nI 4)] 127 0 z_ := by
  have b0 := BS.one rfl hg h0 (1, 5) 4
  obtain ⟨w1, q1, p1⟩ := n126 (sa := sa) (sv := sv) (d := d) b0.ge (Nat.pos_of_ne_zero b0.gz) 30 4 (by omega) (by omega) (by omega) (by omega)
  obtain ⟨m1, b1, e1⟩ := b0.goS q1 p1 (1, 5) 0 (by show 0 < 1; omega) rfl (by decide)
  refine ⟨m1, ?_, b1.to rfl rfl rfl rfl⟩
  rw [c96, b96_0]
  exact e1 (fun m1 => some (.inl none, m1)) _
/-- the parser: its first field lies before it -/
theorem n108 (h : BS m0 a m ks rs ws z p L) (j : Nat) (hj : j < ks.length) : ∃ m', am_ca sa sv (d + 2) 108 [.ref (gt_ m), .ref (a + j)] (al_ m (1, 7) 4) = some (.inl none, m') ∧ BS m0 a m' (ks ++ [(1, 7)] ++ [(1, 8), (2, 8)]) ((ks.length, 0, j) :: (ks.length, 1, ks.length + 1) :: (rs ++ shf (ks.length + 1) [(0, 1, 1)])) (ws ++ shw (ks.length + 1) [(0, 0, nI 2)]) (z + 4 + 11) p L := by
  have hp := h.2.2.2.2.2
  have b0 := h.nw (1, 7) 4
  have hl : (ks ++ [(1, 7)]).length = ks.length + 1 := List.length_append
  obtain ⟨w1, q1, p1⟩ := n126 (sa := sa) (sv := sv) (d := d) b0.ge (Nat.pos_of_ne_zero b0.gz) 4 2 (by omega) (by omega) (by omega) (by omega)
  have b1 := b0.app (b0.at p1)
  rw [hl] at b1
  have hl1 : (ks ++ [(1, 7)] ++ [(1, 8), (2, 4 * 2)]).length = ks.length + 3 := by rw [List.length_append, hl]; rfl
  have b2 := b1.sr ks.length 1 (ks.length + 1) (by omega) (fun q hq ⟨z1, z2⟩ => by
    rcases List.mem_append.mp hq with hq | hq
    · exact h.nr 1 q hq ⟨z1, z2⟩
    · obtain ⟨y, hy, rfl⟩ := List.mem_map.mp hq
      dsimp only at z1
      omega)
  have b3 := b2.sr ks.length 0 j (by omega) (fun q hq ⟨z1, z2⟩ => by
    rcases List.mem_cons.mp hq with e | hq
    · subst e
      exact Nat.one_ne_zero z2
    rcases List.mem_append.mp hq with hq | hq
    · exact h.nr 0 q hq ⟨z1, z2⟩
    · obtain ⟨y, hy, rfl⟩ := List.mem_map.mp hq
      dsimp only at z1
      omega)
  have g0 : gt_ m = a + ks.length := h.gt
  have g1 : gt_ (al_ m (1, 7) 4) = a + (ks.length + 1) := by rw [b0.gt, hl]
  refine ⟨_, ?_, b3⟩
  have k := b1.k ks.length (by omega)
  rw [List.append_assoc, List.getD_eq_getElem?_getD, List.getElem?_append_right (Nat.le_refl _), Nat.sub_self] at k
  have k' : gk_ w1 (a + ks.length) = (1, 7) := k
  rw [c108, b108_0, gq_pos b0.ge, q1, c0_v, g0, g1, gq_pos ⟨k', by omega⟩, gq_pos ⟨k', by omega⟩]
/-- the script: both its fields lie before it -/
theorem n102 (h : BS m0 a m ks rs ws z p L) (j j' : Nat) : ∃ m', am_ca sa sv (d + 1) 102 [.ref (gt_ m), .ref (a + j), .ref (a + j')] (al_ m (1, 6) 3) = some (.inl none, m') ∧ BS m0 a m' (ks ++ [(1, 6)]) ((ks.length, 1, j') :: (ks.length, 0, j) :: rs) ws (z + 3) p L := by
  have hp := h.2.2.2.2.2
  have b0 := h.nw (1, 6) 3
  have hl : (ks ++ [(1, 6)]).length = ks.length + 1 := List.length_append
  have b2 := b0.sr ks.length 0 j (by omega) (fun q hq => h.nr 0 q hq)
  have b3 := b2.sr ks.length 1 j' (by omega) (fun q hq ⟨z1, z2⟩ => by
    rcases List.mem_cons.mp hq with e | hq
    · subst e
      exact Nat.zero_ne_one z2
    · exact h.nr 1 q hq ⟨z1, z2⟩)
  have g0 : gt_ m = a + ks.length := h.gt
  refine ⟨_, ?_, b3⟩
  have k' : gk_ (al_ m (1, 6) 3) (a + ks.length) = (1, 6) := by rw [← g0]; exact gk_al _ _ _
  rw [c102, b102_0, g0, gq_pos ⟨k', by omega⟩, gq_pos ⟨k', by omega⟩]
end N89
