/-! constructors: blocks step by step -/
def BS (m0 : am_M) (a : Nat) (m : am_M) (ks : List (Nat × Nat)) (rs : List (Nat × Nat × Nat)) (ws : List (Nat × Nat × Int32)) (z p : Nat) (L : Nat → Int64) : Prop := gt_ m0 = a ∧ BK m a ks rs ws p L ∧ Sm a m0 m ∧ Nw m0 m ks.length z ∧ ge_ m0 = true ∧ 0 < a
section N89
variable {sa sv d a z z' p p' : Nat} {L : Nat → Int64} {m0 m m' : am_M} {ks ks' : List (Nat × Nat)} {rs rs' : List (Nat × Nat × Nat)} {ws ws' : List (Nat × Nat × Int32)}
theorem BS.one (h : gt_ m0 = a) (hg : ge_ m0 = true) (h0 : 0 < a) (k : Nat × Nat) (n : Nat) : BS m0 a (al_ m0 k n) [k] [] [] n 0 z_ := by
  subst h
  exact ⟨rfl, BK.one m0 k n, Sm.al m0 k n, Nw.al m0 k n, hg, h0⟩
theorem BS.gt (h : BS m0 a m ks rs ws z p L) : gt_ m = a + ks.length := by
  rw [h.2.2.2.1.1, h.1]
theorem BS.ge (h : BS m0 a m ks rs ws z p L) : ge_ m = true := h.2.2.2.1.2.2.2.trans h.2.2.2.2.1
theorem BS.app (h : BS m0 a m ks rs ws z p L) (h' : BS m (a + ks.length) m' ks' rs' ws' z' p' z_) : BS m0 a m' (ks ++ ks') (rs ++ shf ks.length rs') (ws ++ shw ks.length ws') (z + z') p L := by
  refine ⟨h.1, h.2.1.app h'.2.2.1 h'.2.1, h.2.2.1.trans (h'.2.2.1.lo (by omega)), ?_, h.2.2.2.2.1, h.2.2.2.2.2⟩
  rw [List.length_append]
  exact h.2.2.2.1.trans h'.2.2.2.1
theorem BS.app1 (h : BS m0 a m ks rs ws z p z_) (h' : BS m (a + ks.length) m' ks' rs' ws' z' p' L) : BS m0 a m' (ks ++ ks') (rs ++ shf ks.length rs') (ws ++ shw ks.length ws') (z + z') (ks.length + p') L := by
  refine ⟨h.1, h.2.1.app1 h'.2.2.1 h'.2.1, h.2.2.1.trans (h'.2.2.1.lo (by omega)), ?_, h.2.2.2.2.1, h.2.2.2.2.2⟩
  rw [List.length_append]
  exact h.2.2.2.1.trans h'.2.2.2.1
theorem BS.sr (h : BS m0 a m ks rs ws z p L) (i k j : Nat) (hi : i < ks.length) (hn : ∀ q, q ∈ rs → ¬ (q.1 = i ∧ q.2.1 = k)) : BS m0 a (sr_ m (a + i) k (a + j)) ks ((i, k, j) :: rs) ws z p L := ⟨h.1, h.2.1.sr i k j hi hn, h.2.2.1.sr (by omega), h.2.2.2.1, h.2.2.2.2⟩
theorem BS.si (h : BS m0 a m ks rs ws z p L) (i k : Nat) (v : Int32) (hi : i < ks.length) : BS m0 a (si_ m (a + i) k v) ks rs ((i, k, v) :: ws) z p L := ⟨h.1, h.2.1.si i k v hi, h.2.2.1.si (by omega), h.2.2.2.1, h.2.2.2.2⟩
theorem BS.sl (h : BS m0 a m ks rs ws z p L) (k : Nat) (v : Int64) : BS m0 a (sl_ m (a + p) k v) ks rs ws z p (fun j => if j = k then v else L j) := ⟨h.1, h.2.1.sl k v, h.2.2.1.sl (by omega), h.2.2.2.1, h.2.2.2.2⟩
theorem BS.k (h : BS m0 a m ks rs ws z p L) (i : Nat) (hi : i < ks.length) : gk_ m (a + i) = ks.getD i (0, 0) := h.2.1.1 i hi
/-- a new array in a field -/
theorem BS.arr (h : BS m0 a m ks rs ws z p L) (k : Nat × Nat) (n f : Nat) (h0 : 0 < ks.length) (hn : ∀ q, q ∈ rs → ¬ (q.1 = 0 ∧ q.2.1 = f)) : BS m0 a (sr_ (al_ m k n) a f (gt_ m)) (ks ++ [k]) ((0, f, ks.length) :: rs) ws (z + n) p L := by
  have one : BS m (a + ks.length) (al_ m k n) [k] [] [] n 0 z_ := BS.one h.gt h.ge (by have := h.2.2.2.2.2; omega) k n
  have ap := h.app one
  have e1 : rs ++ shf ks.length [] = rs := List.append_nil _
  have e2 : ws ++ shw ks.length [] = ws := List.append_nil _
  rw [e1, e2] at ap
  have := ap.sr 0 f ks.length (by rw [List.length_append]; omega) hn
  rw [Nat.add_zero, ← h.gt] at this
  exact this
/-- a new object in a field -/
theorem BS.sub (h : BS m0 a m ks rs ws z p L) (h' : BS m (a + ks.length) m' ks' rs' ws' z' p' z_) (f : Nat) (h0 : 0 < ks.length) (hn : ∀ q, q ∈ rs ++ shf ks.length rs' → ¬ (q.1 = 0 ∧ q.2.1 = f)) : BS m0 a (sr_ m' a f (gt_ m)) (ks ++ ks') ((0, f, ks.length) :: (rs ++ shf ks.length rs')) (ws ++ shw ks.length ws') (z + z') p L := by
  have := (h.app h').sr 0 f ks.length (by rw [List.length_append]; omega) hn
  rw [Nat.add_zero, ← h.gt] at this
  exact this
/-- a new object in a field -/
theorem BS.sub1 (h : BS m0 a m ks rs ws z p z_) (h' : BS m (a + ks.length) m' ks' rs' ws' z' p' L) (f : Nat) (h0 : 0 < ks.length) (hn : ∀ q, q ∈ rs ++ shf ks.length rs' → ¬ (q.1 = 0 ∧ q.2.1 = f)) : BS m0 a (sr_ m' a f (gt_ m)) (ks ++ ks') ((0, f, ks.length) :: (rs ++ shf ks.length rs')) (ws ++ shw ks.length ws') (z + z') (ks.length + p') L := by
  have := (h.app1 h').sr 0 f ks.length (by rw [List.length_append]; omega) hn
  rw [Nat.add_zero, ← h.gt] at this
  exact this
theorem n126 (h : gt_ m0 = a) (hg : ge_ m0 = true) (h0 : 0 < a) (r w : Nat) (hr : 0 < r * w) (hrw : r * w ≤ 60000) (hr1 : r < 2 ^ 30) (hw1 : w < 2 ^ 30) : ∃ m', am_ca sa sv (d + 1) 126 [.ref a, .int (nI r), .int (nI w)] (al_ m0 (1, 8) 3) = some (.inl none, m') ∧ BS m0 a m' [(1, 8), (2, r * w)] [(0, 1, 1)] [(0, 0, nI w)] (3 + r * w) 0 z_ := by
  have b1 := BS.one h hg h0 (1, 8) 3
  have b2 := b1.si 0 0 (nI w) (by show 0 < 1; omega)
  have b3 := b2.arr (2, r * w) (r * w) 1 (by show 0 < 1; omega) (fun q hq => by cases hq)
  refine ⟨_, ?_, b3⟩
  have k0 : gk_ (al_ m0 (1, 8) 3) a = (1, 8) := by rw [← h]; exact gk_al _ _ _
  have ka : ∀ p n, gk_ (al_ (al_ m0 (1, 8) 3) p n) a = (1, 8) := fun p n => by
    have : ¬ a = gt_ (al_ m0 (1, 8) 3) := by
      rw [b1.gt]
      show ¬ a = a + 1
      omega
    exact (if_neg this).trans k0
  have gg : ge_ (al_ m0 (1, 8) 3) = true := hg
  have gz : ¬ gt_ (al_ m0 (1, 8) 3) = 0 := by
    rw [b1.gt]
    show ¬ a + 1 = 0
    omega
  rw [c126, b126_0]
  simp (disch := omega) only [gq_true, gb_true, gb_false, true_and, and_true, eq_self, not_false_eq_true, not_true_eq_false, true_or, or_true, false_or, or_false, false_and, and_false, c0_v, ci_v, cl_v, cf_v, pk_mul, nI_add, nI_clamp, nI_lt0, nI_0le, nI_eq0, nI_lt0r, nI_ltE, nI_leE, nI_eqE, nI_m1, in_t, ba0, ba1, Nat.one_ne_zero, Nat.reduceEqDiff, Nat.reduceLeDiff, Nat.add_eq_zero_iff, k0, ka, gg, eq_false gz, eq_true hr, eq_true hrw, if_true]
  rfl
end N89
