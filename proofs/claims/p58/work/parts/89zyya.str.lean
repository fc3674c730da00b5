/-! strings of one byte a sign -/
theorem ch_f : ∀ k, k < 128 → (nI k &&& nI 255).toUInt32.toUInt16.toUInt32.toInt32 = nI k ∧ (nI k).toUInt32.toUInt16.toUInt32.toInt32 = nI k ∧ (nI k).toInt8.toInt32 = nI k := by decide +kernel
def Asc (l : List Int32) : Prop := ∀ c, c ∈ l → ∃ k, k < 128 ∧ c = nI k
/-- the string at t is l -/
def SV (m : am_M) (t : Nat) (l : List Int32) : Prop := ((gk_ m t = (1, 14) ∧ ¬ gr_ m t 0 = 0) ∨ (gk_ m t).1 = 8) ∧ gi_ m t 1 = 0 ∧ ((gk_ m (gr_ m t 0)).1 = 3 ∨ (gk_ m (gr_ m t 0)).1 = 9) ∧ (gk_ m (gr_ m t 0)).2 = l.length ∧ (∀ j, j < l.length → gi_ m (gr_ m t 0) j = l.getD j 0) ∧ l.length < 2 ^ 20 ∧ Asc l
section S89
variable {sa sv d t : Nat} {m m' : am_M} {l : List Int32}
theorem SV.b (h : SV m t l) : gk_ m t = (1, 14) ∨ (gk_ m t).1 = 8 := h.1.imp (fun z => z.1) id
theorem SV.fit (h : SV m t l) {j : Nat} (hj : j < l.length) : (l.getD j 0 &&& nI 255).toUInt32.toUInt16.toUInt32.toInt32 = l.getD j 0 ∧ (l.getD j 0).toUInt32.toUInt16.toUInt32.toInt32 = l.getD j 0 ∧ (l.getD j 0).toInt8.toInt32 = l.getD j 0 := by
  have hm : l.getD j 0 ∈ l := by
    rw [List.getD_eq_getElem?_getD, List.getElem?_eq_getElem hj]
    exact List.getElem_mem hj
  obtain ⟨k, hk, e⟩ := h.2.2.2.2.2.2 _ hm
  rw [e]
  exact ch_f k hk
theorem SV.cg (h : SV m t l) (e1 : gk_ m' t = gk_ m t) (e2 : gi_ m' t = gi_ m t) (e3 : gr_ m' t = gr_ m t) (e4 : gk_ m' (gr_ m t 0) = gk_ m (gr_ m t 0)) (e5 : gi_ m' (gr_ m t 0) = gi_ m (gr_ m t 0)) : SV m' t l := by
  unfold SV
  rw [e1, e2, e3, e4, e5]
  exact h
theorem n364 (h : SV m t l) : am_ca sa sv (d + 1) 364 [.ref t] m = some (.inl (some (.int (nI 0))), m) := by
  rw [c364, b364_0, gb_neg (by decide), gq_pos h.b, h.2.1, gq_pos (by decide)]
  rfl
theorem n365 (h : SV m t l) : am_ca sa sv (d + 1) 365 [.ref t] m = some (.inl (some (.int (nI 1))), m) := by
  rw [c365, b365_0, gb_neg (by decide), gq_pos h.b, gb_pos h.2.1, gq_pos (by decide)]
theorem n362 (h : SV m t l) : am_ca sa sv (d + 2) 362 [.ref t] m = some (.inl (some (.int (nI l.length))), m) := by
  rw [c362, b362_0, gq_pos h.1, gq_pos (by have := h.2.2.1; omega), gq_pos h.b, n364 h, ci_v, h.2.2.2.1, show (nI 0 &&& 31 : Int32) = 0 from by decide, Int32.shiftRight_zero]
theorem n363 (h : SV m t l) (j : Nat) (hj : j < l.length) : am_ca sa sv (d + 2) 363 [.ref t, .int (nI j)] m = some (.inl (some (.int (l.getD j 0))), m) := by
  have hl := h.2.2.2.2.2.1
  have hc : (nI j).toNatClampNeg = j := nI_clamp (by omega)
  obtain ⟨a1, a2, _⟩ := h.fit hj
  rw [c363, b363_0, gq_pos h.b, n365 h, ci_v, gb_neg (by decide), gq_pos h.1, c366, b366_0, h.2.2.2.1, hc, h.2.2.2.2.1 j hj, a1, gq_pos (by have := h.2.2.1; omega), gq_pos ⟨nI_pos (by omega), (nI_ltI (by omega) (by omega)).mpr hj⟩, gq_pos ⟨h.2.2.1, in_of hj (by omega)⟩, gq_pos a2, ci_v, gq_pos a2]
end S89
