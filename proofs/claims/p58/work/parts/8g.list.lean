/-! lists: add at the front, remove the last -/
section L8
variable {sa sv d a c x : Nat} {m m1 : am_M} {L : List Nat}
theorem cons_n {j : Nat} : (x :: L).getD j 0 = if j = 0 then x else L.getD (j - 1) 0 := by
  cases j with
  | zero => rfl
  | succ j => rfl
theorem LC.ins (h : LC m sv a c L) (k10 : gk_ m (gr_ m a 1) = (10, c)) (hc : 10 ≤ c) (hl : L.length < c) (hx : am_el m 10 x ∧ x < gt_ m) : LC (si_ (sr_ (rr_ m (gr_ m a 1) (va_cpy (gr_ m (gr_ m a 1)) (gr_ m (gr_ m a 1)) 0 1 L.length)) (gr_ m a 1) 0 x) a 2 (nI (L.length + 1))) sv a c (x :: L) := by
  have nae := h.nae
  obtain ⟨h1, h3, h4, h5, h6, h7, h8, h9, h10, h11, h12⟩ := h
  have r1 : gr_ (si_ (sr_ (rr_ m (gr_ m a 1) (va_cpy (gr_ m (gr_ m a 1)) (gr_ m (gr_ m a 1)) 0 1 L.length)) (gr_ m a 1) 0 x) a 2 (nI (L.length + 1))) a 1 = gr_ m a 1 := by rw [gr_si, gr_sr, if_neg (fun z => nae z.1), gr_rr, if_neg nae]
  refine ⟨h1, ?_, gi_si1 _ _ _ _, .inr ⟨by rw [r1]; exact k10, hc⟩, hl, h7, fun j hj => ?_, fun y hy => ?_, h10, by rw [r1]; exact h11, h12⟩
  · rw [gi_si, if_neg (fun z => absurd z.2 (by decide)), gi_sr, gi_rr', h3]
  · have hj : j < L.length + 1 := hj
    rw [r1, gr_si, gr_sr, cons_n]
    by_cases q : j = 0
    · rw [if_pos ⟨rfl, q⟩, if_pos q]
    · rw [if_neg (fun z => q z.2), if_neg q, gr_rr, if_pos rfl, cpy1, if_pos (by omega), Nat.zero_add, h8 _ (by omega)]
  · rcases List.mem_cons.mp hy with q | q
    · rw [q]
      exact hx
    · exact h9 y q
theorem x239 (h : LV m sv a L) (hx : am_el m 10 x ∧ x < gt_ m) (h2 : L.length < 100) : ∃ m', am_ca sa sv (d + 5) 239 [.ref a, .int (nI 0), .ref x] m = some (.inl none, m') ∧ LV m' sv a (x :: L) ∧ Ela a 1 160 m m' := by
  obtain ⟨c, h⟩ := h
  have hlen := h.len
  have hc := h.2.2.2.2.2.1
  have k0 : 2 ≤ (gk_ m (gr_ m a 1)).1 ∧ ¬ (gk_ m (gr_ m a 1)).1 = 8 ∧ (gk_ m (gr_ m a 1)).2 = c := by
    rcases h.2.2.2.1 with ⟨q, _, q2⟩ | ⟨q, _⟩
    · rw [q2, q]
      exact ⟨by decide, by decide, rfl⟩
    · rw [q]
      exact ⟨by show 2 ≤ 10; decide, by show ¬ 10 = 8; decide, rfl⟩
  have s2 : gi_ (si_ m a 0 (gi_ m a 0 + nI 1)) a 2 = nI L.length := by rw [gi_si, if_neg (fun z => absurd z.2 (by decide)), h.2.2.1]
  have s1 : gi_ (si_ m a 0 (gi_ m a 0 + nI 1)) a 1 = 1 := by rw [gi_si, if_neg (fun z => absurd z.2 (by decide)), h.2.1]; rfl
  have hm := h.mod (gi_ m a 0 + nI 1)
  have eM : Ex (LPa m a) 0 0 m (si_ m a 0 (gi_ m a 0 + nI 1)) := (Ex.refl _ _).si (.inr (.inl rfl))
  rw [c239, b239_0, gq_pos h.1, c242, b242_0, gq_pos h.1, h.2.2.1, gb_neg (show ¬ nI L.length < nI 0 from nI_pos (by omega)), gb_pos (by decide), c0_v, gq_pos h.1, gq_pos h.1, gq_pos h.1, gq_pos ⟨h.1, s1⟩, gq_pos ⟨k0.1, k0.2.1⟩, k0.2.2, s2]
  generalize hM : si_ m a 0 (gi_ m a 0 + nI 1) = M at hm eM s2
  have rM : gr_ M a 1 = gr_ m a 1 := by rw [← hM]; rfl
  have kM : gk_ M = gk_ m := by rw [← hM]; rfl
  have hxM : am_el M 10 x ∧ x < gt_ M := ⟨el_cg hx.1 (by rw [kM]), Nat.lt_of_lt_of_le hx.2 eM.gt⟩
  have core : ∀ (M : am_M) (c : Nat) (_ : LC M sv a c L) (_ : gk_ M (gr_ M a 1) = (10, c)) (_ : 10 ≤ c) (_ : L.length < c) (_ : am_el M 10 x ∧ x < gt_ M), r239 sa sv (d + 4) 38 [some (.ref a), some (.int (nI 0)), some (.ref x), some (.int (nI L.length)), some (.ref (gr_ M a 1))] [] M = some (.inl none, si_ (sr_ (rr_ M (gr_ M a 1) (va_cpy (gr_ M (gr_ M a 1)) (gr_ M (gr_ M a 1)) 0 1 L.length)) (gr_ M a 1) 0 x) a 2 (nI (L.length + 1))) := by
    intro M c hM k10 hc hl hx
    have hc2 := hM.2.2.2.2.2.1
    have e0 : nI 0 + nI 1 = nI 1 := by decide
    rw [b239_38, k10, gb_neg (by show ¬ 10 = 2; decide), gb_pos (.inr rfl), e0, nI_sub (Nat.zero_le _), Nat.sub_zero, nI_clamp (show 0 < 2 ^ 31 by omega), nI_clamp (show 1 < 2 ^ 31 by omega), nI_clamp (show L.length < 2 ^ 31 by omega), gq_pos ⟨by decide, by decide, nI_pos (by omega), by show 0 + L.length ≤ c; omega, by show 1 + L.length ≤ c; omega⟩, gb_neg (by show ¬ 10 = 3; decide), gq_pos ⟨rfl, fun j hj => by rw [Nat.zero_add, hM.2.2.2.2.2.2.1 j hj]; exact .inr (hM.el hj).1⟩, gq_pos ⟨in_of (show 0 < c by omega) (by omega), hx.1⟩, gq_pos hM.1, nI_add]
  by_cases hf : L.length = c
  · obtain ⟨m1, c1, e1, b1, l1, k1, x1, i1⟩ := x232 (sa := sa) (d := d) hm hf (by omega)
    have hx1 : am_el m1 10 x ∧ x < gt_ m1 := ⟨el_cg hxM.1 (x1.1.k hxM.2), Nat.lt_of_lt_of_le hxM.2 x1.1.gt⟩
    have c10 : 10 ≤ c1 := by rcases b1.2.2.2.1 with q | q <;> omega
    refine ⟨_, ?_, ⟨c1, b1.ins k1 c10 (by omega) hx1⟩, ⟨?_, ?_⟩⟩
    · rw [gb_pos (by rw [hf]), gq_pos h.1, e1, cr_v, core m1 c1 b1 k1 c10 (by omega) hx1]
    · have e2 : Ex (LPa m a) (0 + 1) (0 + 160) m m1 := eM.trans x1.1 (fun b _ q => by unfold LPa at q ⊢; rw [rM, kM] at q; exact q)
      refine (((e2.mono (fun _ _ q => q) (by omega) (by omega)).rr ?_).sr ?_).si (.inr (.inl rfl))
      all_goals
        rcases x1.2 with q | q
        · refine .inr (.inr ⟨q.trans rM, ?_⟩)
          have hq : gr_ m1 a 1 < gt_ M := by rw [q]; exact hm.2.2.2.2.2.2.2.2.2.1
          rw [← kM, ← x1.1.k hq, k1]
        · exact .inl (Nat.le_trans eM.gt q)
    · rw [gr_si, gr_sr, if_neg (fun z => b1.nae z.1), gr_rr, if_neg b1.nae]
      rcases x1.2 with q | q
      · exact .inl (q.trans rM)
      · exact .inr (Nat.le_trans eM.gt q)
  · have hl : L.length < c := by
      have := h.2.2.2.2.1
      omega
    obtain ⟨k1, k2⟩ : gk_ M (gr_ M a 1) = (10, c) ∧ 10 ≤ c := by
      rcases hm.2.2.2.1 with q | q
      · omega
      · exact q
    refine ⟨_, ?_, ⟨c, hm.ins k1 k2 hl hxM⟩, ⟨?_, ?_⟩⟩
    · rw [gb_neg (by rw [nI_eqE (by omega) (by omega)]; exact hf), ← rM, core M c hm k1 k2 hl hxM]
    · have kk : (gk_ m (gr_ M a 1)).1 = 10 := by rw [← kM, k1]
      exact ((((eM.rr (.inr (.inr ⟨rM, kk⟩))).sr (.inr (.inr ⟨rM, kk⟩))).si (.inr (.inl rfl))).mono (fun _ _ q => q) (by omega) (by omega))
    · rw [gr_si, gr_sr, if_neg (fun z => hm.nae z.1), gr_rr, if_neg hm.nae]
      exact .inl rM
/-- the last goes -/
theorem x240 (h : LC m sv a c (L ++ [x])) : ∃ m' y, am_ca sa sv (d + 3) 240 [.ref a, .int (nI L.length)] m = some (.inl (some (.ref y)), m') ∧ y = x ∧ LC m' sv a c L ∧ Ela a 0 0 m m' := by
  have hlen := h.len
  have len : (L ++ [x]).length = L.length + 1 := List.length_append
  have h' := h
  rw [len] at hlen
  have hi : L.length < (L ++ [x]).length := by omega
  obtain ⟨k1, k2⟩ := h.k10 hi
  have nae := h.nae
  have h6 := h.2.2.2.2.1
  have h7 := h.2.2.2.2.2.1
  have s2 : gi_ (si_ m a 0 (gi_ m a 0 + nI 1)) a 2 = nI (L.length + 1) := by rw [gi_si, if_neg (fun z => absurd z.2 (by decide)), h.2.2.1, len]
  have hv : gr_ m (gr_ m a 1) L.length = x := by
    rw [h.2.2.2.2.2.2.1 _ hi, app_n, if_neg (Nat.lt_irrefl _), Nat.sub_self]
    rfl
  have hx := h.2.2.2.2.2.2.2.1 x (List.mem_append.mpr (.inr (List.mem_singleton.mpr rfl)))
  refine ⟨sr_ (si_ (si_ m a 0 (gi_ m a 0 + nI 1)) a 2 (nI L.length)) (gr_ m a 1) L.length 0, x, ?_, rfl, ?_, ?_, ?_⟩
  · rw [c240, b240_0, gq_pos h.1, h.2.2.1, x270 hi (by omega), ci_v, gq_pos ⟨h.1, h.2.1⟩, k1, nI_clamp (show L.length < 2 ^ 31 by omega), hv, gq_pos ⟨.inr (.inl rfl), in_of (show L.length < c by omega) (by omega), hx.1.1⟩, gq_pos h.1, c241, b241_0, gq_pos h.1, gq_pos h.1, gq_pos h.1, s2, nI_sub (show 1 ≤ L.length + 1 by omega), Nat.add_sub_cancel, gb_pos (by rw [nI_leI (by omega) (by omega)]; exact Nat.le_refl _), gq_pos h.1, k1, gq_pos ⟨rfl, in_of (show L.length < c by omega) (by omega)⟩, nI_clamp (show L.length < 2 ^ 31 by omega), c0_v]
  · obtain ⟨h1, h3, h4, h5, _, _, h8, h9, h10, h11, h12⟩ := h
    have r1 : gr_ (sr_ (si_ (si_ m a 0 (gi_ m a 0 + nI 1)) a 2 (nI L.length)) (gr_ m a 1) L.length 0) a 1 = gr_ m a 1 := by rw [gr_sr, if_neg (fun z => nae z.1), gr_si, gr_si]
    refine ⟨h1, ?_, ?_, .inr ⟨by rw [r1]; exact k1, k2⟩, by omega, h7, fun j hj => ?_, fun y hy => h9 y (List.mem_append.mpr (.inl hy)), h10, by rw [r1]; exact h11, h12⟩
    · rw [gi_sr, gi_si, if_neg (fun z => absurd z.2 (by decide)), gi_si, if_neg (fun z => absurd z.2 (by decide)), h3]
    · rw [gi_sr, gi_si1]
    · rw [r1, gr_sr, if_neg (by omega), gr_si, gr_si, h8 j (by omega), app_n, if_pos hj]
  · exact (((Ex.refl _ _).si (.inr (.inl rfl))).si (.inr (.inl rfl))).sr (.inr (.inr ⟨rfl, by rw [k1]⟩))
  · rw [gr_sr, if_neg (fun z => nae z.1), gr_si, gr_si]
    exact .inl rfl
end L8
