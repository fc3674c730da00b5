/-! lists -/
/-- the list at a, with room for c, holds L -/
def LC (m : am_M) (sv a c : Nat) (L : List Nat) : Prop := gk_ m a = (1, 15) ∧ gi_ m a 1 = nI 1 ∧ gi_ m a 2 = nI L.length ∧ ((c = 0 ∧ gr_ m a 1 = gr_ m sv 40 ∧ gk_ m (gr_ m a 1) = (13, 0)) ∨ (gk_ m (gr_ m a 1) = (10, c) ∧ 10 ≤ c)) ∧ L.length ≤ c ∧ c ≤ 160 ∧ (∀ j, j < L.length → gr_ m (gr_ m a 1) j = L.getD j 0) ∧ (∀ y, y ∈ L → am_el m 10 y ∧ y < gt_ m) ∧ a < gt_ m ∧ gr_ m a 1 < gt_ m ∧ ge_ m = true
def LV (m : am_M) (sv a : Nat) (L : List Nat) : Prop := ∃ c, LC m sv a c L
/-- what a list's work may change -/
def LPa (m : am_M) (a b : Nat) : Prop := b = a ∨ (b = gr_ m a 1 ∧ (gk_ m b).1 = 10)
def Ela (a n z : Nat) (m m' : am_M) : Prop := Ex (LPa m a) n z m m' ∧ (gr_ m' a 1 = gr_ m a 1 ∨ gt_ m ≤ gr_ m' a 1)
section L8
variable {sa sv d a c : Nat} {m m1 : am_M} {L : List Nat}
theorem Ela.mono {n z n' z' : Nat} (h : Ela a n z m m1) (hn : n ≤ n') (hz : z ≤ z') : Ela a n' z' m m1 := ⟨h.1.mono (fun _ _ q => q) hn hz, h.2⟩
theorem mem_getD {L : List Nat} {j : Nat} (hj : j < L.length) : L.getD j 0 ∈ L := by
  rw [List.getD_eq_getElem?_getD, List.getElem?_eq_getElem hj]
  exact List.getElem_mem hj
theorem LC.el (h : LC m sv a c L) {j : Nat} (hj : j < L.length) : am_el m 10 (L.getD j 0) ∧ L.getD j 0 < gt_ m := h.2.2.2.2.2.2.2.1 _ (mem_getD hj)
theorem LC.nz (h : LC m sv a c L) {j : Nat} (hj : j < L.length) : ¬ L.getD j 0 = 0 := (h.el hj).1.1
theorem LC.k10 (h : LC m sv a c L) {j : Nat} (hj : j < L.length) : gk_ m (gr_ m a 1) = (10, c) ∧ 10 ≤ c := by
  rcases h.2.2.2.1 with q | q
  · have := h.2.2.2.2.1
    omega
  · exact q
theorem LC.len (h : LC m sv a c L) : L.length ≤ 160 := by
  have h1 := h.2.2.2.2.1
  have h2 := h.2.2.2.2.2.1
  omega
theorem x233 (h : LC m sv a c L) : am_ca sa sv (d + 1) 233 [.ref a] m = some (.inl (some (.int (nI L.length))), m) := by
  rw [c233, b233_0, gq_pos h.1, h.2.2.1]
theorem x234 (h : LC m sv a c L) : am_ca sa sv (d + 1) 234 [.ref a] m = some (.inl (some (.int (nI (if L.length = 0 then 1 else 0)))), m) := by
  have h1 := h.len
  rw [c234, b234_0, gq_pos h.1, h.2.2.1]
  by_cases q : L.length = 0
  · rw [gb_pos (by rw [q]; exact nI_0), gq_pos (by decide), if_pos q]
  · rw [gb_neg (by rw [nI_eq0 (by omega)]; exact q), gq_pos (by decide), if_neg q]
theorem x270 {i n : Nat} (hi : i < n) (hn : n < 2 ^ 31) : am_ca sa sv (d + 2) 270 [.int (nI i), .int (nI n)] m = some (.inl (some (.int (nI i))), m) := by
  rw [c270, b270_0, c255, b255_0, gb_neg (nI_pos (by omega)), gb_pos ((nI_ltI (by omega) hn).mpr hi), ci_v]
theorem x235 (h : LC m sv a c L) {j : Nat} (hj : j < L.length) : am_ca sa sv (d + 1) 235 [.ref a, .int (nI j)] m = some (.inl (some (.ref (L.getD j 0))), m) := by
  have h1 := h.len
  obtain ⟨k1, k2⟩ := h.k10 hj
  have h2 := h.2.2.2.2.1
  rw [c235, b235_0, gq_pos ⟨h.1, h.2.1⟩, k1, nI_clamp (show j < 2 ^ 31 by omega), h.2.2.2.2.2.2.1 j hj, gq_pos ⟨.inr (.inl rfl), in_of (show j < c by omega) (by have := h.2.2.2.2.2.1; omega), h.nz hj⟩]
theorem x236 (h : LC m sv a c L) {j : Nat} (hj : j < L.length) : am_ca sa sv (d + 3) 236 [.ref a, .int (nI j)] m = some (.inl (some (.ref (L.getD j 0))), m) := by
  have h1 := h.len
  rw [c236, b236_0, gq_pos h.1, h.2.2.1, x270 hj (by omega), ci_v, gq_pos h.1, x235 h hj, cr_v]
/-- a new list -/
theorem x230 {z : Nat} (hg : ge_ m = true) (h40 : gk_ m (gr_ m sv 40) = (13, 0) ∧ gr_ m sv 40 < gt_ m) (hsv : sv < gt_ m) : ∃ m', am_ca sa sv (d + 3) 230 [.ref (gt_ m)] (al_ m (1, 15) z) = some (.inl none, m') ∧ LC m' sv (gt_ m) 0 [] ∧ Ex NoP 1 z m m' ∧ gt_ m' = gt_ m + 1 := by
  have kM : gk_ (al_ m (1, 15) z) (gt_ m) = (1, 15) := gk_al _ _ _
  have rs : gr_ (al_ m (1, 15) z) sv = gr_ m sv := gr_alo _ _ _ hsv
  refine ⟨_, by rw [c230, b230_0, c271, b271_0, c272, b272_0, c0_v, gq_pos kM, c0_v, gk_siF, gq_pos kM, gr_si, rs], ?_, ((Ex.al m _ _).si (.inl (Nat.le_refl _)) |>.sr (.inl (Nat.le_refl _)) |>.si (.inl (Nat.le_refl _))), rfl⟩
  have r1 : gr_ (si_ (sr_ (si_ (al_ m (1, 15) z) (gt_ m) 0 (nI 0)) (gt_ m) 1 (gr_ m sv 40)) (gt_ m) 1 1) (gt_ m) 1 = gr_ m sv 40 := by rw [gr_si, gr_sr, if_pos ⟨rfl, rfl⟩]
  have ns : ¬ sv = gt_ m := by omega
  refine ⟨kM, gi_si1 _ _ _ _, ?_, .inl ⟨rfl, ?_, ?_⟩, Nat.le_refl _, Nat.zero_le _, fun j hj => absurd hj (Nat.not_lt_zero _), fun y hy => absurd hy List.not_mem_nil, ?_, ?_, hg⟩
  · rw [gi_si, if_neg (fun z => absurd z.2 (by decide)), gi_sr, gi_si, if_neg (fun z => absurd z.2 (by decide)), gi_al]
    rfl
  · rw [r1, gr_si, gr_sr, if_neg (fun z => ns z.1), gr_si, rs]
  · rw [r1]
    show gk_ (al_ m (1, 15) z) _ = _
    rw [gk_alo _ _ _ h40.2, h40.1]
  · show gt_ m < gt_ m + 1
    omega
  · rw [r1]
    show _ < gt_ m + 1
    omega
theorem x269L {c : Nat} (hc : 10 ≤ c) (h2 : c ≤ 1000) : am_ca sa sv (d + 1) 269 [.int (nI c), .int (nI 1), .int (nI (c / 2))] m = some (.inl (some (.int (nI (c + c / 2)))), m) := by
  rw [c269, b269_0, if_pos ((nI_ltI (by omega) (by omega)).mpr (show 1 < c / 2 by omega)), nI_add, gb_neg (by rw [nI_leI (by omega) (by omega)]; omega), gb_neg (by rw [nI_ltI (by omega) (by omega)]; omega)]
/-- a longer array of references -/
theorem x248 (a n c : Nat) (ha : gk_ m a = (10, c)) (hc : c < n) (hn : n ≤ 60000) (hg : ge_ m = true) (hlt : a < gt_ m) (hel : ∀ j, j < c → am_el m 10 (gr_ m a j) ∧ gr_ m a j < gt_ m) : am_ca sa sv (d + 2) 248 [.ref a, .int (nI n)] m = some (.inl (some (.ref (gt_ m))), rr_ (al_ m (10, n) n) (gt_ m) (va_cpy (gr_ m a) (gr_ (al_ m (10, n) n) (gt_ m)) 0 0 c)) := by
  have hel' : ∀ j, j < c → gr_ m a j = 0 ∨ am_el (al_ m (10, n) n) 10 (gr_ m a j) := fun j hj => by
    obtain ⟨e1, e2⟩ := hel j hj
    refine .inr ?_
    unfold am_el at e1 ⊢
    rw [gk_alo _ _ _ e2]
    exact e1
  rw [c248, b248_0, gq_pos (by rw [ha]), c249, b249_0, gb_pos rfl]
  have hm : (if nI n < nI c then nI n else nI c) = nI c := if_neg (fun z => absurd ((nI_ltI (by omega) (by omega)).mp z) (by omega))
  rw [nI_clamp (show n < 2 ^ 31 by omega), gq_pos ⟨nI_pos (by omega), hn, hg⟩, gk_alo _ _ _ hlt, ha, gq_pos (by show 2 ≤ 10 ∧ ¬ 10 = 8; decide), gk_al, gb_neg (by show ¬ 10 = 2; decide), gb_pos (.inr rfl), gr_alo _ _ _ hlt]
  show am_cr (gq_ (¬ nI 0 < 0 ∧ ¬ nI 0 < 0 ∧ ¬ (if nI n < nI c then nI n else nI c) < 0 ∧ (nI 0).toNatClampNeg + (if nI n < nI c then nI n else nI c).toNatClampNeg ≤ c ∧ (nI 0).toNatClampNeg + (if nI n < nI c then nI n else nI c).toNatClampNeg ≤ n) _) _ _ = _
  rw [hm, nI_clamp (show c < 2 ^ 31 by omega), nI_clamp (show 0 < 2 ^ 31 by omega), gq_pos ⟨by decide, by decide, nI_pos (by omega), by omega, by omega⟩, gb_neg (by show ¬ 10 = 3; decide), gq_pos ⟨rfl, fun j hj => by rw [Nat.zero_add]; exact hel' j hj⟩, cr_v]
theorem gk_rr' (m : am_M) (a : Nat) (g : Nat → Nat) : gk_ (rr_ m a g) = gk_ m := rfl
theorem gi_rr' (m : am_M) (a : Nat) (g : Nat → Nat) : gi_ (rr_ m a g) = gi_ m := rfl
theorem el_cg {m m1 : am_M} {t y : Nat} (h : am_el m t y) (e : gk_ m1 y = gk_ m y) : am_el m1 t y := by
  unfold am_el at h ⊢
  rw [e]
  exact h
/-- a full list gets room -/
theorem x232 (h : LC m sv a c L) (hf : L.length = c) (h2 : c ≤ 100) : ∃ m' c', am_ca sa sv (d + 4) 232 [.ref a] m = some (.inl (some (.ref (gr_ m' a 1))), m') ∧ LC m' sv a c' L ∧ c < c' ∧ gk_ m' (gr_ m' a 1) = (10, c') ∧ Ela a 1 160 m m' ∧ gi_ m' a = gi_ m a := by
  have h' := h
  obtain ⟨h1, h3, h4, h5, h6, h7, h8, h9, h10, h11, h12⟩ := h
  rw [c232, b232_0, gq_pos h1, gq_pos h1, h4, nI_add, c231, b231_0, gq_pos ⟨h1, h3⟩]
  rcases h5 with ⟨hc, h40, k13⟩ | ⟨k10, hc10⟩
  · have hL : L.length = 0 := by omega
    have hL' : L = [] := List.length_eq_zero_iff.mp hL
    subst hL'
    have nsv : ¬ sv = a ∨ ¬ (40 = 1) := .inr (by decide)
    have kb : gk_ (al_ m (10, 10) 10) a = (1, 15) := by rw [gk_alo _ _ _ h10, h1]
    have r1 : gr_ (si_ (sr_ (al_ m (10, 10) 10) a 1 (gt_ m)) a 1 1) a 1 = gt_ m := by rw [gr_si, gr_sr, if_pos ⟨rfl, rfl⟩]
    have na : ¬ a = gt_ m := by omega
    refine ⟨si_ (sr_ (al_ m (10, 10) 10) a 1 (gt_ m)) a 1 1, 10, ?_, ⟨kb, gi_si1 _ _ _ _, ?_, .inr ⟨by rw [r1]; exact gk_al m (10, 10) 10, Nat.le_refl _⟩, Nat.zero_le _, by omega, fun j hj => absurd hj (Nat.not_lt_zero _), fun y hy => absurd hy List.not_mem_nil, ?_, ?_, h12⟩, by omega, by rw [r1]; exact gk_al m (10, 10) 10, ⟨((Ex.al m _ _).sr (.inr (.inl rfl)) |>.si (.inr (.inl rfl))).mono (fun _ _ q => q) (Nat.le_refl _) (by omega), .inr (by rw [r1]; exact Nat.le_refl _)⟩, ?_⟩
    · have hm : (if nI 10 < nI (0 + 1) then nI (0 + 1) else nI 10) = nI 10 := by decide
      rw [show ([] : List Nat).length = 0 from rfl, hm, k13, gq_pos (by show 2 ≤ 13 ∧ ¬ 13 = 8; decide), gb_neg (by show ¬ 0 < nI 0; decide), gq_pos ⟨h1, h3⟩, gb_pos h40, nI_clamp (show 10 < 2 ^ 31 by omega), gq_pos ⟨by decide, by decide, h12⟩, gq_pos kb, cr_v, r1]
    · rw [gi_si, if_neg (fun z => absurd z.2 (by decide)), gi_sr, gi_alo _ _ _ h10, h4]
    · show a < gt_ m + 1
      omega
    · rw [r1]
      exact Nat.lt_succ_self _
    · funext j
      rw [gi_si, gi_sr, gi_alo _ _ _ h10]
      by_cases q : j = 1
      · rw [if_pos ⟨rfl, q⟩, q, h3]; rfl
      · rw [if_neg (fun z => q z.2)]
  · have hel : ∀ j, j < c → am_el m 10 (gr_ m (gr_ m a 1) j) ∧ gr_ m (gr_ m a 1) j < gt_ m := fun j hj => by
      rw [h8 j (by omega)]
      exact h'.el (by omega)
    have e1 := x248 (sa := sa) (sv := sv) (d := d) (gr_ m a 1) (c + c / 2) c k10 (by omega) (by omega) h12 h11 hel
    generalize hM : rr_ (al_ m (10, c + c / 2) (c + c / 2)) (gt_ m) (va_cpy (gr_ m (gr_ m a 1)) (gr_ (al_ m (10, c + c / 2) (c + c / 2)) (gt_ m)) 0 0 c) = M at e1
    have kM : gk_ M = gk_ (al_ m (10, c + c / 2) (c + c / 2)) := by rw [← hM]; rfl
    have iM : gi_ M = gi_ (al_ m (10, c + c / 2) (c + c / 2)) := by rw [← hM]; rfl
    have kb : gk_ M a = (1, 15) := by rw [kM, gk_alo _ _ _ h10, h1]
    have r1 : gr_ (si_ (sr_ M a 1 (gt_ m)) a 1 1) a 1 = gt_ m := by rw [gr_si, gr_sr, if_pos ⟨rfl, rfl⟩]
    have na : ¬ a = gt_ m := by omega
    have na' : ¬ gt_ m = a := by omega
    have gM : gt_ M = gt_ m + 1 := by rw [← hM]; rfl
    have kk : gk_ (si_ (sr_ M a 1 (gt_ m)) a 1 1) (gt_ m) = (10, c + c / 2) := by
      show gk_ M _ = _
      rw [kM, gk_al]
    refine ⟨si_ (sr_ M a 1 (gt_ m)) a 1 1, c + c / 2, ?_, ⟨kb, gi_si1 _ _ _ _, ?_, .inr ⟨by rw [r1]; exact kk, by omega⟩, by omega, by omega, fun j hj => ?_, fun y hy => ?_, ?_, ?_, ?_⟩, by omega, by rw [r1]; exact kk, ⟨?_, .inr (by rw [r1]; exact Nat.le_refl _)⟩, ?_⟩
    · have hb : gb_ (0 < nI c) = gb_ (α := am_R) True := by rw [nI_lt0r (by omega), eq_true (show 0 < c by omega)]
      rw [k10, gq_pos (by show 2 ≤ 10 ∧ ¬ 10 = 8; decide), gb_pos (by show 0 < nI c; rw [nI_lt0r (by omega)]; omega), b231_20, nI_sub (by omega), nI_shr (show c < 2 ^ 31 by omega) (show 1 < 16 by omega), show L.length + 1 - c = 1 by omega, show c / 2 ^ 1 = c / 2 from rfl, x269L hc10 (by omega), ci_v, gq_pos ⟨h1, h3⟩, e1, cr_v, gq_pos kb, cr_v, r1]
    · rw [gi_si, if_neg (fun z => absurd z.2 (by decide)), gi_sr, iM, gi_alo _ _ _ h10, h4]
    · rw [r1, gr_si, gr_sr, if_neg (fun z => na' z.1), ← hM, gr_rr, if_pos rfl, cpy1, if_pos (by omega), Nat.zero_add, Nat.sub_zero, h8 j hj]
    · obtain ⟨e3, e4⟩ := h9 y hy
      refine ⟨el_cg e3 ?_, ?_⟩
      · show gk_ M y = _
        rw [kM, gk_alo _ _ _ e4]
      · show y < gt_ M
        omega
    · show a < gt_ M
      omega
    · rw [r1]
      show _ < gt_ M
      omega
    · show ge_ M = true
      rw [← hM]
      exact h12
    · have e : Ex (LPa m a) 1 (c + c / 2) m M := by
        rw [← hM]
        exact (Ex.al m _ _).rr (.inl (Nat.le_refl _))
      exact ((e.sr (.inr (.inl rfl))).si (.inr (.inl rfl))).mono (fun _ _ q => q) (Nat.le_refl _) (by omega)
    · funext j
      rw [gi_si, gi_sr, iM, gi_alo _ _ _ h10]
      by_cases q : j = 1
      · rw [if_pos ⟨rfl, q⟩, q, h3]; rfl
      · rw [if_neg (fun z => q z.2)]
end L8
