/-! lists: add, iterate -/
section L8
variable {sa sv d a c x : Nat} {m m1 : am_M} {L : List Nat}
theorem app_n {L w : List Nat} {j : Nat} : (L ++ w).getD j 0 = if j < L.length then L.getD j 0 else w.getD (j - L.length) 0 := by
  split
  · next h => rw [List.getD_eq_getElem?_getD, List.getElem?_append_left h, ← List.getD_eq_getElem?_getD]
  · next h => rw [List.getD_eq_getElem?_getD, List.getElem?_append_right (by omega), ← List.getD_eq_getElem?_getD]
theorem LC.nae (h : LC m sv a c L) : ¬ a = gr_ m a 1 := fun z => by
  have h1 := h.1
  rcases h.2.2.2.1 with q | q
  · have := q.2.2
    rw [← z, h1] at this
    exact absurd (congrArg (fun q => q.1) this) (by show ¬ 1 = 13; decide)
  · have := q.1
    rw [← z, h1] at this
    exact absurd (congrArg (fun q => q.1) this) (by show ¬ 1 = 10; decide)
theorem LC.mod (h : LC m sv a c L) (v : Int32) : LC (si_ m a 0 v) sv a c L := by
  obtain ⟨h1, h3, h4, h5, h6, h7, h8, h9, h10, h11, h12⟩ := h
  exact ⟨h1, by rw [gi_si, if_neg (fun z => absurd z.2 (by decide)), h3], by rw [gi_si, if_neg (fun z => absurd z.2 (by decide)), h4], h5, h6, h7, h8, h9, h10, h11, h12⟩
theorem LC.put (h : LC m sv a c L) (k10 : gk_ m (gr_ m a 1) = (10, c)) (hc : 10 ≤ c) (hl : L.length < c) (hx : am_el m 10 x ∧ x < gt_ m) : LC (si_ (sr_ m (gr_ m a 1) L.length x) a 2 (nI (L.length + 1))) sv a c (L ++ [x]) := by
  have nae := h.nae
  obtain ⟨h1, h3, h4, h5, h6, h7, h8, h9, h10, h11, h12⟩ := h
  have len : (L ++ [x]).length = L.length + 1 := List.length_append
  have r1 : gr_ (si_ (sr_ m (gr_ m a 1) L.length x) a 2 (nI (L.length + 1))) a 1 = gr_ m a 1 := by rw [gr_si, gr_sr, if_neg (fun z => nae z.1)]
  refine ⟨h1, by rw [gi_si, if_neg (fun z => absurd z.2 (by decide)), gi_sr, h3], by rw [gi_si1, len], .inr ⟨by rw [r1]; exact k10, hc⟩, by omega, h7, fun j hj => ?_, fun y hy => ?_, h10, by rw [r1]; exact h11, h12⟩
  · rw [len] at hj
    rw [r1, gr_si, gr_sr, app_n]
    by_cases q : j < L.length
    · rw [if_neg (by omega), if_pos q, h8 j q]
    · have e : j = L.length := by omega
      rw [if_pos ⟨rfl, e⟩, if_neg q, e, Nat.sub_self]
      rfl
  · rcases List.mem_append.mp hy with q | q
    · exact h9 y q
    · rw [List.mem_singleton.mp q]
      exact hx
theorem x237 (h : LC m sv a c L) (hx : am_el m 10 x ∧ x < gt_ m) (h2 : L.length < 100) : ∃ m', am_ca sa sv (d + 5) 237 [.ref a, .ref x, .ref (gr_ m a 1), .int (nI L.length)] m = some (.inl none, m') ∧ LV m' sv a (L ++ [x]) ∧ Ela a 1 160 m m' := by
  have hlen := h.len
  have hc := h.2.2.2.2.2.1
  have k0 : 2 ≤ (gk_ m (gr_ m a 1)).1 ∧ ¬ (gk_ m (gr_ m a 1)).1 = 8 ∧ (gk_ m (gr_ m a 1)).2 = c := by
    rcases h.2.2.2.1 with ⟨q, _, q2⟩ | ⟨q, _⟩
    · rw [q2, q]
      exact ⟨by decide, by decide, rfl⟩
    · rw [q]
      exact ⟨by show 2 ≤ 10; decide, by show ¬ 10 = 8; decide, rfl⟩
  rw [c237, b237_0, gq_pos ⟨k0.1, k0.2.1⟩, k0.2.2]
  by_cases hf : L.length = c
  · obtain ⟨m1, c1, e1, b1, l1, k1, x1, i1⟩ := x232 (sa := sa) (d := d) h hf (by omega)
    have hx1 : am_el m1 10 x ∧ x < gt_ m1 := ⟨el_cg hx.1 (x1.1.k hx.2), Nat.lt_of_lt_of_le hx.2 x1.1.gt⟩
    have hp := b1.put k1 (by rcases b1.2.2.2.1 with q | q <;> omega) (by omega) hx1
    refine ⟨_, ?_, ⟨c1, hp⟩, ⟨?_, ?_⟩⟩
    · rw [gb_pos (by rw [hf]), gq_pos h.1, e1, cr_v, k1, gq_pos ⟨in_of (show L.length < c1 by omega) (by have := b1.2.2.2.2.2.1; show c1 < _; omega), hx1.1⟩, gq_pos b1.1, nI_clamp (by omega), nI_add]
    · refine (x1.1.sr ?_).si (.inr (.inl rfl))
      rcases x1.2 with q | q
      · refine .inr (.inr ⟨q, ?_⟩)
        have hq : gr_ m1 a 1 < gt_ m := by rw [q]; exact h.2.2.2.2.2.2.2.2.2.1
        rw [← x1.1.k hq, k1]
      · exact .inl q
    · rw [gr_si, gr_sr, if_neg (fun z => b1.nae z.1)]
      exact x1.2
  · have hl : L.length < c := by
      have := h.2.2.2.2.1
      omega
    obtain ⟨k1, k2⟩ : gk_ m (gr_ m a 1) = (10, c) ∧ 10 ≤ c := by
      rcases h.2.2.2.1 with q | q
      · omega
      · exact q
    refine ⟨_, ?_, ⟨c, h.put k1 k2 hl hx⟩, ⟨?_, ?_⟩⟩
    · rw [gb_neg (by rw [nI_eqE (by omega) (by omega)]; exact hf), k1, gq_pos ⟨in_of hl (by omega), hx.1⟩, gq_pos h.1, nI_clamp (by omega), nI_add]
    · exact (((Ex.refl _ _).sr (.inr (.inr ⟨rfl, by rw [k1]⟩))).si (.inr (.inl rfl))).mono (fun _ _ q => q) (by omega) (by omega)
    · rw [gr_si, gr_sr, if_neg (fun z => h.nae z.1)]
      exact .inl rfl
theorem x238 (h : LV m sv a L) (hx : am_el m 10 x ∧ x < gt_ m) (h2 : L.length < 100) : ∃ m', am_ca sa sv (d + 6) 238 [.ref a, .ref x] m = some (.inl (some (.int (nI 1))), m') ∧ LV m' sv a (L ++ [x]) ∧ Ela a 1 160 m m' := by
  obtain ⟨c, h⟩ := h
  have hm := h.mod (gi_ m a 0 + nI 1)
  obtain ⟨m1, e1, b1, x1⟩ := x237 (sa := sa) (d := d) hm hx h2
  rw [gr_si] at e1
  refine ⟨m1, ?_, b1, ?_⟩
  · rw [c238, b238_0, gq_pos h.1, gq_pos h.1, gq_pos ⟨h.1, by rw [gi_si, if_neg (fun z => absurd z.2 (by decide)), h.2.1]; rfl⟩, gq_pos h.1, gq_pos h.1, gi_si, if_neg (fun z => absurd z.2 (by decide)), h.2.2.1, e1, c0_v, gq_pos (by decide)]
  · obtain ⟨y1, y2⟩ := x1
    rw [gr_si] at y2
    exact ⟨Ex.trans (n := 0) (z := 0) ((Ex.refl (LPa m a) m).si (.inr (.inl rfl))) y1 (fun b hb q => q) |>.mono (fun _ _ q => q) (by omega) (by omega), y2⟩
/-- an iterator at it over the list at a stands before number i -/
def IT (m : am_M) (it a i : Nat) : Prop := gk_ m it = (1, 16) ∧ gr_ m it 3 = a ∧ gi_ m it 0 = nI i ∧ gi_ m it 2 = gi_ m a 0 ∧ it < gt_ m
theorem x243 (h : LC m sv a c L) (ha : 0 < a) : ∃ m', am_ca sa sv (d + 2) 243 [.ref a] m = some (.inl (some (.ref (gt_ m))), m') ∧ IT m' (gt_ m) a 0 ∧ Ex NoP 1 4 m m' ∧ gt_ m' = gt_ m + 1 := by
  have hl : a < gt_ m := h.2.2.2.2.2.2.2.2.1
  have kM : gk_ (al_ m (1, 16) 4) (gt_ m) = (1, 16) := gk_al m (1, 16) 4
  have ka : gk_ (al_ m (1, 16) 4) a = (1, 15) := by rw [gk_alo _ _ _ hl, h.1]
  have r3 : gr_ (sr_ (al_ m (1, 16) 4) (gt_ m) 3 a) (gt_ m) 3 = a := by rw [gr_sr, if_pos ⟨rfl, rfl⟩]
  have na : ¬ a = gt_ m := by omega
  refine ⟨si_ (si_ (sr_ (al_ m (1, 16) 4) (gt_ m) 3 a) (gt_ m) 1 (-1 : Int32)) (gt_ m) 2 (gi_ (si_ (al_ m (1, 16) 4) (gt_ m) 1 (-1 : Int32)) a 0), by rw [c243, b243_0, gq_pos h.2.2.2.2.2.2.2.2.2.2, c244, b244_0, gq_pos ⟨kM, by omega⟩, gq_pos kM, gq_pos ⟨kM, by rw [r3]; omega⟩, gq_pos (by rw [r3]; exact ka), gq_pos kM, c0_v, r3], ⟨kM, ?_, ?_, ?_, ?_⟩, ((Ex.al m _ _).sr (.inl (Nat.le_refl _)) |>.si (.inl (Nat.le_refl _)) |>.si (.inl (Nat.le_refl _))), rfl⟩
  · rw [gr_si, gr_si, r3]
  · rw [gi_si, if_neg (fun z => absurd z.2 (by decide)), gi_si, if_neg (fun z => absurd z.2 (by decide)), gi_sr, gi_al]
    rfl
  · rw [gi_si1, gi_si, if_neg (fun z => na z.1), gi_si, if_neg (fun z => na z.1), gi_si, if_neg (fun z => na z.1), gi_sr]
  · show gt_ m < gt_ m + 1
    omega
theorem x245 {it i : Nat} (h : LC m sv a c L) (hI : IT m it a i) (ha : 0 < a) (hi : i ≤ L.length) : am_ca sa sv (d + 1) 245 [.ref it] m = some (.inl (some (.int (nI (if i < L.length then 1 else 0)))), m) := by
  have hl := h.len
  obtain ⟨h1, h2, h3, h4, h5⟩ := hI
  rw [c245, b245_0, gq_pos h1, gq_pos ⟨h1, by omega⟩, h2, gq_pos h.1, h3, h.2.2.1]
  by_cases q : i < L.length
  · rw [gb_neg (by rw [nI_eqE (by omega) (by omega)]; omega), gq_pos (by decide), if_pos q]
  · rw [gb_pos (by rw [show i = L.length by omega]), gq_pos (by decide), if_neg q]
theorem x246 {it i : Nat} (h : LC m sv a c L) (hI : IT m it a i) (ha : 0 < a) (hi : i < L.length) : ∃ m', am_ca sa sv (d + 2) 246 [.ref it] m = some (.inl (some (.ref (L.getD i 0))), m') ∧ IT m' it a (i + 1) ∧ Fr (fun b _ => b = it) m m' := by
  have hl := h.len
  obtain ⟨k1, k2⟩ := h.k10 hi
  have h6 := h.2.2.2.2.1
  have h7 := h.2.2.2.2.2.1
  obtain ⟨h1, h2, h3, h4, h5⟩ := hI
  have ni : ¬ a = it := fun z => by
    have := h.1
    rw [z, h1] at this
    exact absurd (congrArg (fun q => q.2) this) (by show ¬ 16 = 15; decide)
  refine ⟨si_ (si_ m it 0 (nI i + nI 1)) it 1 (nI i), by rw [c246, b246_0, gq_pos h1, c247, b247_0, gq_pos ⟨h1, by omega⟩, h2, gq_pos h.1, gq_pos h1, gb_pos h4.symm, c0_v, gq_pos h1, gq_pos ⟨h1, by omega⟩, h2, gq_pos h.1, h3, h.2.2.1, gb_pos ((nI_ltI (by omega) (by omega)).mpr hi), gq_pos ⟨h1, by omega⟩, gq_pos ⟨h.1, h.2.1⟩, k1, gq_pos (by show 2 ≤ 10 ∧ ¬ 10 = 8; decide), gb_pos ((nI_ltI (by omega) (by omega)).mpr (show i < c by omega)), gq_pos h1, gq_pos h1, nI_clamp (show i < 2 ^ 31 by omega), h.2.2.2.2.2.2.1 i hi, gq_pos ⟨.inr (.inl rfl), in_of (show i < c by omega) (by omega), h.nz hi⟩], ⟨h1, h2, ?_, ?_, h5⟩, ((Fr.refl (fun b _ => b = it) m).si rfl).si rfl⟩
  · rw [gi_si, if_neg (fun z => absurd z.2 (by decide)), gi_si1, nI_add]
  · rw [gi_si, if_neg (fun z => absurd z.2 (by decide)), gi_si, if_neg (fun z => absurd z.2 (by decide)), gi_si, if_neg (fun z => ni z.1), gi_si, if_neg (fun z => ni z.1), h4]
end L8
