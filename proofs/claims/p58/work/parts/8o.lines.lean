/-! the World's lines as they come -/
/-- since m: the lines ls in the list at a, what comes to works in the array at b -/
def AL (m M : am_M) (sv a b nw : Nat) (F : Nat → Nat) (ls : List Ln) (n z : Nat) : Prop := Ex NoP n z m M ∧ gt_ m ≤ a ∧ (∃ Ls, LV M sv a Ls ∧ Ls.length = ls.length ∧ Ls.Nodup ∧ (∀ i y, ls[i]? = some y → gt_ m ≤ Ls.getD i 0 ∧ ¬ Ls.getD i 0 = b ∧ gk_ M (Ls.getD i 0) = (2, 4) ∧ gi_ M (Ls.getD i 0) 0 = nI y.1 ∧ gi_ M (Ls.getD i 0) 1 = nI y.2.1 ∧ gi_ M (Ls.getD i 0) 2 = nI y.2.2.1 ∧ gi_ M (Ls.getD i 0) 3 = nI y.2.2.2) ∧ ((gk_ M (gr_ M a 1)).1 = 10 → gt_ m ≤ gr_ M a 1)) ∧ gt_ m ≤ b ∧ b < gt_ M ∧ gk_ M b = (2, nw) ∧ ∀ u, u < nw → gi_ M b u = nI (F u)
section W8
variable {sa sv d a b nw n z : Nat} {m M : am_M} {F : Nat → Nat} {ls : List Ln}
/-- a run that spares the lines -/
theorem AL.keep {M2 : am_M} {n' z' : Nat} {P : Nat → Prop} (h : AL m M sv a b nw F ls n z) (e : Ex P n' z' M M2) (hp : ∀ y, y < gt_ M → P y → gt_ m ≤ y ∧ ¬ (gk_ M y).1 = 2 ∧ ¬ (gk_ M y).1 = 10 ∧ ¬ gk_ M y = (1, 15)) (hsv : sv < gt_ m) : AL m M2 sv a b nw F ls (n + n') (z + z') := by
  obtain ⟨e0, h1, ⟨Ls, ⟨c, l1, l3, l4, l5, l6, l7, l8, l9, l10, l11, l12⟩, h3, h4, h5, h6⟩, h7, h8, h9, h10⟩ := h
  have g0 := e0.gt
  have g := e.gt
  have hsM : sv < gt_ M := by omega
  have pa : ¬ P a := fun y => (hp a l10 y).2.2.2 l1
  have pb : ¬ P b := fun y => (hp b h8 y).2.1 (by rw [h9])
  have ps : ¬ P sv := fun y => by have := (hp sv hsM y).1; omega
  have ra : gr_ M2 a = gr_ M a := e.r l10 pa
  have ia : gi_ M2 a = gi_ M a := e.i l10 pa
  have ke : gk_ M2 (gr_ M a 1) = gk_ M (gr_ M a 1) := e.k l11
  have hr : ∀ i y, ls[i]? = some y → Ls.getD i 0 < gt_ M := fun i y hy => by
    have hi : i < Ls.length := by
      rw [h3]
      exact (List.getElem?_eq_some_iff.mp hy).1
    exact (l9 _ (mem_getD hi)).2
  refine ⟨e0.trans e (fun y hy q => by have := (hp y (by omega) q).1; omega), h1, ⟨Ls, ⟨c, (e.k l10).trans l1, by rw [ia]; exact l3, by rw [ia]; exact l4, by rw [ra, ke, e.r hsM ps]; exact l5, l6, l7, fun j hj => ?_, fun y hy => ⟨el_cg (l9 y hy).1 (e.k (l9 y hy).2), Nat.lt_of_lt_of_le (l9 y hy).2 g⟩, by omega, by rw [ra]; omega, (e.ge).trans l12⟩, h3, h4, fun i y hy => ?_, by rw [ra, ke]; exact h6⟩, h7, by omega, (e.k h8).trans h9, fun u hu => by rw [e.i h8 pb]; exact h10 u hu⟩
  · have k10 : (gk_ M (gr_ M a 1)).1 = 10 := by
      rcases l5 with q | q
      · omega
      · rw [q.1]
    rw [ra, e.r l11 (fun y => (hp _ l11 y).2.2.1 k10)]
    exact l8 j hj
  · obtain ⟨r1, r2, r3, r4⟩ := h5 i y hy
    have hlt := hr i y hy
    have pr : ¬ P (Ls.getD i 0) := fun q => (hp _ hlt q).2.1 (by rw [r3])
    rw [e.k hlt, e.i hlt pr]
    exact ⟨r1, r2, r3, r4⟩
/-- one line more -/
theorem AL.add {k p c : Nat} (h : AL m M sv a b nw F ls n z) (hl : ls.length < 100) (hsv : sv < gt_ m) (h0 : 0 < gt_ m) : ∃ M2, am_ca sa sv (d + 6) 238 [.ref a, .ref (gt_ M)] (si_ (si_ (si_ (si_ (al_ M (2, 4) 4) (gt_ M) 0 (nI k)) (gt_ M) 1 (nI p)) (gt_ M) 2 (nI c)) (gt_ M) 3 (nI 0)) = some (.inl (some (.int (nI 1))), M2) ∧ AL m M2 sv a b nw F (ls ++ [(k, p, c, 0)]) (n + 2) (z + 164) ∧ Ex (fun y => y = a ∨ (gk_ M y).1 = 10 ∧ gt_ m ≤ y) 2 164 M M2 := by
  obtain ⟨e0, h1, ⟨Ls, ⟨c', hc⟩, h3, h4, h5, h6⟩, h7, h8, h9, h10⟩ := h
  have g0 := e0.gt
  have hc' := hc
  obtain ⟨l1, l3, l4, l5, l6, l7, l8, l9, l10, l11, l12⟩ := hc'
  have no : ∀ y, ¬ NoP y := fun _ y => y
  have eA : Ex NoP 1 4 M (al_ M (2, 4) 4) := Ex.al M _ _
  have eB : Ex NoP 1 4 M (si_ (si_ (si_ (si_ (al_ M (2, 4) 4) (gt_ M) 0 (nI k)) (gt_ M) 1 (nI p)) (gt_ M) 2 (nI c)) (gt_ M) 3 (nI 0)) := (((eA.si (.inl (Nat.le_refl _))).si (.inl (Nat.le_refl _))).si (.inl (Nat.le_refl _))).si (.inl (Nat.le_refl _))
  have vB : ∀ M1, si_ (si_ (si_ (si_ (al_ M (2, 4) 4) (gt_ M) 0 (nI k)) (gt_ M) 1 (nI p)) (gt_ M) 2 (nI c)) (gt_ M) 3 (nI 0) = M1 → gi_ M1 (gt_ M) 0 = nI k ∧ gi_ M1 (gt_ M) 1 = nI p ∧ gi_ M1 (gt_ M) 2 = nI c ∧ gi_ M1 (gt_ M) 3 = nI 0 ∧ gk_ M1 (gt_ M) = (2, 4) ∧ gt_ M1 = gt_ M + 1 := fun M1 e => by
    subst e
    refine ⟨?_, ?_, ?_, gi_si1 _ _ _ _, gk_al M (2, 4) 4, rfl⟩
    · rw [gi_si, if_neg (fun y => absurd y.2 (by decide)), gi_si, if_neg (fun y => absurd y.2 (by decide)), gi_si, if_neg (fun y => absurd y.2 (by decide)), gi_si1]
    · rw [gi_si, if_neg (fun y => absurd y.2 (by decide)), gi_si, if_neg (fun y => absurd y.2 (by decide)), gi_si1]
    · rw [gi_si, if_neg (fun y => absurd y.2 (by decide)), gi_si1]
  generalize hM1 : si_ (si_ (si_ (si_ (al_ M (2, 4) 4) (gt_ M) 0 (nI k)) (gt_ M) 1 (nI p)) (gt_ M) 2 (nI c)) (gt_ M) 3 (nI 0) = M1 at eB
  obtain ⟨v0, v1, v2, v3, kM, gM⟩ := vB M1 hM1
  obtain ⟨hc1, r1, i1⟩ := hc.no eB (by omega)
  have hx : am_el M1 10 (gt_ M) ∧ gt_ M < gt_ M1 := ⟨⟨by omega, .inr (.inl ⟨rfl, .inr (.inl (by rw [kM]))⟩)⟩, by omega⟩
  obtain ⟨M2, e2, b2, x2, y2⟩ := x238 (sa := sa) (sv := sv) (d := d) ⟨c', hc1⟩ hx (by omega)
  have g2 := x2.gt
  have ka10 : ∀ y, y < gt_ M → LPa M1 a y → y = a ∨ (gk_ M y).1 = 10 ∧ gt_ m ≤ y := fun y hy q => by
    rcases q with q | ⟨q, q2⟩
    · exact .inl q
    · rw [eB.k hy] at q2
      refine .inr ⟨q2, ?_⟩
      rw [r1] at q
      rw [q] at q2 ⊢
      exact h6 q2
  have eC : Ex (fun y => y = a ∨ (gk_ M y).1 = 10 ∧ gt_ m ≤ y) (1 + 1) (4 + 160) M M2 := (eB.mono (fun _ _ q => absurd q id) (Nat.le_refl _) (Nat.le_refl _)).trans x2 ka10
  have pk : ∀ y, y < gt_ M1 → (gk_ M1 y).1 = 2 → ¬ LPa M1 a y := fun y hy hk q => by
    rcases q with q | ⟨q, q2⟩
    · rw [q, hc1.1] at hk
      exact absurd hk (by show ¬ 1 = 2; decide)
    · omega
  have kk : ∀ y, y < gt_ M → (gk_ M y).1 = 2 → gk_ M2 y = gk_ M y ∧ gi_ M2 y = gi_ M y := fun y hy hk => by
    have h11 : y < gt_ M1 := by omega
    have h12 := pk y h11 (by rw [eB.k hy]; exact hk)
    exact ⟨(x2.k h11).trans (eB.k hy), (x2.i h11 h12).trans (eB.i hy (no _))⟩
  have kn : gk_ M2 (gt_ M) = (2, 4) ∧ gi_ M2 (gt_ M) = gi_ M1 (gt_ M) := ⟨(x2.k hx.2).trans kM, x2.i hx.2 (pk _ hx.2 (by rw [kM]))⟩
  have hr : ∀ i y, ls[i]? = some y → i < Ls.length ∧ Ls.getD i 0 < gt_ M := fun i y hy => by
    have hi : i < Ls.length := by
      rw [h3]
      exact (List.getElem?_eq_some_iff.mp hy).1
    exact ⟨hi, (l9 _ (mem_getD hi)).2⟩
  obtain ⟨kb, ib⟩ := kk b h8 (by rw [h9])
  refine ⟨M2, e2, ⟨(e0.trans eC (fun y hy q => by rcases q with q | q <;> omega)).mono (fun _ _ q => q) (by omega) (by omega), h1, ⟨Ls ++ [gt_ M], b2, by rw [List.length_append, List.length_append, h3]; rfl, ?_, ?_, ?_⟩, h7, by omega, kb.trans h9, fun u hu => by rw [ib]; exact h10 u hu⟩, eC⟩
  · rw [List.nodup_append]
    refine ⟨h4, List.nodup_cons.mpr ⟨List.not_mem_nil, List.nodup_nil⟩, fun y hy y' hy' e => ?_⟩
    rw [List.mem_singleton.mp hy'] at e
    have := (l9 y hy).2
    omega
  · intro i y hy
    by_cases hi : i < ls.length
    · rw [List.getElem?_append_left hi] at hy
      obtain ⟨r1', r2, r3, r4⟩ := h5 i y hy
      obtain ⟨q1, q2⟩ := hr i y hy
      obtain ⟨k5, i5⟩ := kk _ q2 (by rw [r3])
      rw [app_n, if_pos q1, k5, i5]
      exact ⟨r1', r2, r3, r4⟩
    · rw [List.getElem?_append_right (by omega)] at hy
      have hi2 : i - ls.length = 0 := by
        have := (List.getElem?_eq_some_iff.mp hy).1
        have e : [(k, p, c, 0)].length = 1 := rfl
        omega
      rw [hi2] at hy
      have hy' : (k, p, c, 0) = y := Option.some.inj hy
      subst hy'
      have eG : (Ls ++ [gt_ M]).getD i 0 = gt_ M := by
        rw [app_n, if_neg (by omega), show i - Ls.length = 0 by omega]
        rfl
      rw [eG, kn.1, kn.2]
      exact ⟨by omega, by omega, rfl, v0, v1, v2, v3⟩
  · intro hk
    rcases y2 with q | q
    · rw [q, r1] at hk ⊢
      rw [x2.k (by omega), eB.k l11] at hk
      exact h6 hk
    · omega
end W8
