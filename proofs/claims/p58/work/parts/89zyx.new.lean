/-! constructors: blocks step by step -/
def BS (m0 : am_M) (a : Nat) (m : am_M) (ks : List (Nat × Nat)) (rs : List (Nat × Nat × Nat)) (ws : List (Nat × Nat × Int32)) (z p : Nat) (L : Nat → Int64) : Prop := gt_ m0 = a ∧ BK m a ks rs ws p L ∧ Sm a m0 m ∧ Nw m0 m ks.length z ∧ ge_ m0 = true ∧ 0 < a
section N89
variable {sa sv d a z z' p p' : Nat} {L L' : Nat → Int64} {m0 m m' : am_M} {ks ks' : List (Nat × Nat)} {rs rs' : List (Nat × Nat × Nat)} {ws ws' : List (Nat × Nat × Int32)}
theorem BS.one (h : gt_ m0 = a) (hg : ge_ m0 = true) (h0 : 0 < a) (k : Nat × Nat) (n : Nat) : BS m0 a (al_ m0 k n) [k] [] [] n 0 z_ := by
  subst h
  exact ⟨rfl, BK.one m0 k n, Sm.al m0 k n, Nw.al m0 k n, hg, h0⟩
theorem BS.gt (h : BS m0 a m ks rs ws z p L) : gt_ m = a + ks.length := by
  rw [h.2.2.2.1.1, h.1]
theorem BS.ge (h : BS m0 a m ks rs ws z p L) : ge_ m = true := h.2.2.2.1.2.2.2.trans h.2.2.2.2.1
theorem BS.app (h : BS m0 a m ks rs ws z p L) (h' : BS m (a + ks.length) m' ks' rs' ws' z' p' z_) : BS m0 a m' (ks ++ ks') (rs ++ shf ks.length rs') (ws ++ shw ks.length ws') (z + z') p L := by
  refine ⟨h.1, h.2.1.app h'.2.2.1 h'.2.1, h.2.2.1.trans (h'.2.2.1.lo (by omega)), ?_, h.2.2.2.2.1, h.2.2.2.2.2⟩
  rw [List.length_append]
  exact h.2.2.2.1.trans h'.2.2.2.1
theorem BS.app1 (h : BS m0 a m ks rs ws z p z_) (h' : BS m (a + ks.length) m' ks' rs' ws' z' p' L) : BS m0 a m' (ks ++ ks') (rs ++ shf ks.length rs') (ws ++ shw ks.length ws') (z + z') (ks.length + p') L := by
  refine ⟨h.1, h.2.1.app1 h'.2.2.1 h'.2.1, h.2.2.1.trans (h'.2.2.1.lo (by omega)), ?_, h.2.2.2.2.1, h.2.2.2.2.2⟩
  rw [List.length_append]
  exact h.2.2.2.1.trans h'.2.2.2.1
theorem BS.sr (h : BS m0 a m ks rs ws z p L) (i k j : Nat) (hi : i < ks.length) (hn : ∀ q, q ∈ rs → ¬ (q.1 = i ∧ q.2.1 = k)) : BS m0 a (sr_ m (a + i) k (a + j)) ks ((i, k, j) :: rs) ws z p L := ⟨h.1, h.2.1.sr i k j hi hn, h.2.2.1.sr (by omega), h.2.2.2.1, h.2.2.2.2⟩
theorem BS.si (h : BS m0 a m ks rs ws z p L) (i k : Nat) (v : Int32) (hi : i < ks.length) : BS m0 a (si_ m (a + i) k v) ks rs ((i, k, v) :: ws) z p L := ⟨h.1, h.2.1.si i k v hi, h.2.2.1.si (by omega), h.2.2.2.1, h.2.2.2.2⟩
theorem BS.sl (h : BS m0 a m ks rs ws z p L) (k : Nat) (v : Int64) : BS m0 a (sl_ m (a + p) k v) ks rs ws z p (fun j => if j = k then v else L j) := ⟨h.1, h.2.1.sl k v, h.2.2.1.sl (by omega), h.2.2.2.1, h.2.2.2.2⟩
theorem BS.k (h : BS m0 a m ks rs ws z p L) (i : Nat) (hi : i < ks.length) : gk_ m (a + i) = ks.getD i (0, 0) := h.2.1.1 i hi
theorem BS.kn (h : BS m0 a m ks rs ws z p L) (k : Nat × Nat) (n i : Nat) (hi : i < ks.length) : gk_ (al_ m k n) (a + i) = ks.getD i (0, 0) := by
  have : ¬ a + i = gt_ m := by rw [h.gt]; omega
  exact (if_neg this).trans (h.k i hi)
theorem BS.gz (h : BS m0 a m ks rs ws z p L) : ¬ gt_ m = 0 := by
  rw [h.gt]
  have := h.2.2.2.2.2
  omega
theorem BS.nw (h : BS m0 a m ks rs ws z p L) (k : Nat × Nat) (n : Nat) : BS m0 a (al_ m k n) (ks ++ [k]) rs ws (z + n) p L := by
  have one : BS m (a + ks.length) (al_ m k n) [k] [] [] n 0 z_ := BS.one h.gt h.ge (by have := h.2.2.2.2.2; omega) k n
  have ap := h.app one
  have e1 : rs ++ shf ks.length [] = rs := List.append_nil _
  have e2 : ws ++ shw ks.length [] = ws := List.append_nil _
  rw [e1, e2] at ap
  exact ap
theorem BS.nr (h : BS m0 a m ks rs ws z p L) (f : Nat) : ∀ q, q ∈ rs → ¬ (q.1 = ks.length ∧ q.2.1 = f) := fun q hq z => by
  have := (h.2.1.2.1 q hq).1
  omega
/-- a new array in a field -/
theorem BS.goA (h : BS m0 a m ks rs ws z p L) (c : Nat × Nat) (t n f : Nat) (h1 : n ≤ 60000) (h0 : 0 < ks.length) (hc : ks.getD 0 (0, 0) = c) (hn : ∀ q, q ∈ rs → ¬ (q.1 = 0 ∧ q.2.1 = f)) : ∃ m', BS m0 a m' (ks ++ [(t, n)]) ((0, f, ks.length) :: rs) ws (z + n) p L ∧ ∀ F : am_M → Option am_R, gq_ (¬ (nI n) < 0 ∧ ((nI n)).toNatClampNeg ≤ 60000 ∧ ge_ m = true) (gq_ (gk_ (al_ m (t, ((nI n)).toNatClampNeg) ((nI n)).toNatClampNeg) a = c ∧ ¬ (gt_ m) = 0) (F (sr_ (al_ m (t, ((nI n)).toNatClampNeg) ((nI n)).toNatClampNeg) a f (gt_ m)))) = F m' := by
  have ap := (h.nw (t, n) n).sr 0 f ks.length (by rw [List.length_append]; omega) hn
  rw [Nat.add_zero, ← h.gt] at ap
  refine ⟨_, ap, fun F => ?_⟩
  have k := h.kn (t, n) n 0 h0
  rw [Nat.add_zero, hc] at k
  rw [nI_clamp (by omega), gq_pos ⟨by rw [nI_lt0 (by omega)]; exact not_false, h1, h.ge⟩, gq_pos ⟨k, h.gz⟩]
/-- a new object in a field -/
theorem BS.goT (h : BS m0 a m ks rs ws z p L) {r : Option am_R} {m1 : am_M} {ks1 : List (Nat × Nat)} {rs1 : List (Nat × Nat × Nat)} {ws1 : List (Nat × Nat × Int32)} {z1 p1 : Nat} {L1 : Nat → Int64} (hr : r = some (.inl none, m1)) (h' : BS m0 a m1 ks1 rs1 ws1 z1 p1 L1) (c : Nat × Nat) (f : Nat) (h0 : ks.length < ks1.length) (hc : ks1.getD 0 (0, 0) = c) (hn : ∀ q, q ∈ rs1 → ¬ (q.1 = 0 ∧ q.2.1 = f)) : ∃ m', BS m0 a m' ks1 ((0, f, ks.length) :: rs1) ws1 z1 p1 L1 ∧ ∀ (F : am_M → Option am_R) (G : Nat → am_M → Option am_R), gq_ (ge_ m = true) (am_c0 r (fun m1 => gq_ (gk_ m1 a = c ∧ ¬ (gt_ m) = 0) (F (sr_ m1 a f (gt_ m)))) G) = F m' := by
  have ap := h'.sr 0 f ks.length (by omega) hn
  rw [Nat.add_zero, ← h.gt] at ap
  refine ⟨_, ap, fun F G => ?_⟩
  have k := h'.k 0 (by omega)
  rw [Nat.add_zero, hc] at k
  rw [gq_pos h.ge, hr, c0_v, gq_pos ⟨k, h.gz⟩]
theorem BS.at (h : BS m0 a m ks rs ws z p L) (h' : BS m (gt_ m) m' ks' rs' ws' z' p' L') : BS m (a + ks.length) m' ks' rs' ws' z' p' L' := by
  rw [← h.gt]
  exact h'
theorem BS.goS (h : BS m0 a m ks rs ws z p L) {r : Option am_R} {m1 : am_M} (hr : r = some (.inl none, m1)) (h' : BS m (gt_ m) m1 ks' rs' ws' z' p' z_) (c : Nat × Nat) (f : Nat) (h0 : 0 < ks.length) (hc : ks.getD 0 (0, 0) = c) (hn : ∀ q, q ∈ rs ++ shf ks.length rs' → ¬ (q.1 = 0 ∧ q.2.1 = f)) : ∃ m', BS m0 a m' (ks ++ ks') ((0, f, ks.length) :: (rs ++ shf ks.length rs')) (ws ++ shw ks.length ws') (z + z') p L ∧ ∀ (F : am_M → Option am_R) (G : Nat → am_M → Option am_R), gq_ (ge_ m = true) (am_c0 r (fun m1 => gq_ (gk_ m1 a = c ∧ ¬ (gt_ m) = 0) (F (sr_ m1 a f (gt_ m)))) G) = F m' := by
  have := (h.at h').2.1.2.2.2.2.2
  refine h.goT hr (h.app (h.at h')) c f (by rw [List.length_append]; omega) ?_ hn
  rw [← hc, List.getD_eq_getElem?_getD, List.getElem?_append_left h0, ← List.getD_eq_getElem?_getD]
theorem BS.to (h : BS m0 a m ks rs ws z p L) (hk : ks = ks') (hr : rs = rs') (hw : ws = ws') (hz : z = z') : BS m0 a m ks' rs' ws' z' p L := by
  subst hk
  subst hr
  subst hw
  subst hz
  exact h
theorem n126 (hg : ge_ m = true) (h0 : 0 < gt_ m) (r w : Nat) (hr : 0 < r * w) (hrw : r * w ≤ 60000) (hr1 : r < 2 ^ 30) (hw1 : w < 2 ^ 30) : ∃ m', am_ca sa sv (d + 1) 126 [.ref (gt_ m), .int (nI r), .int (nI w)] (al_ m (1, 8) 3) = some (.inl none, m') ∧ BS m (gt_ m) m' [(1, 8), (2, r * w)] [(0, 1, 1)] [(0, 0, nI w)] (3 + r * w) 0 z_ := by
  obtain ⟨a, h⟩ : ∃ a, gt_ m = a := ⟨_, rfl⟩
  rw [h] at h0 ⊢
  have b1 := BS.one h hg h0 (1, 8) 3
  have b2 := b1.si 0 0 (nI w) (by show 0 < 1; omega)
  have b3 := (b2.nw (2, r * w) (r * w)).sr 0 1 1 (by show 0 < 2; omega) (fun q hq => by cases hq)
  rw [Nat.add_zero] at b3
  have et : gt_ (al_ m (1, 8) 3) = a + 1 := by rw [b1.gt]; rfl
  refine ⟨_, ?_, b3⟩
  have k0 : gk_ (al_ m (1, 8) 3) a = (1, 8) := by rw [← h]; exact gk_al _ _ _
  have ka : ∀ p n, gk_ (al_ (al_ m (1, 8) 3) p n) a = (1, 8) := fun p n => b1.kn p n 0 (by show 0 < 1; omega)
  have gg : ge_ (al_ m (1, 8) 3) = true := hg
  have gz : ¬ gt_ (al_ m (1, 8) 3) = 0 := b1.gz
  rw [c126, b126_0]
  simp (disch := omega) only [gq_true, gb_true, gb_false, true_and, and_true, eq_self, not_false_eq_true, not_true_eq_false, true_or, or_true, false_or, or_false, false_and, and_false, c0_v, ci_v, cl_v, cf_v, pk_mul, nI_add, nI_clamp, nI_lt0, nI_0le, nI_eq0, nI_lt0r, nI_ltE, nI_leE, nI_eqE, nI_m1, in_t, ba0, ba1, Nat.one_ne_zero, Nat.reduceEqDiff, Nat.reduceLeDiff, Nat.add_eq_zero_iff, k0, ka, gg, eq_false gz, eq_true hr, eq_true hrw, if_true]
  rw [et]
end N89
