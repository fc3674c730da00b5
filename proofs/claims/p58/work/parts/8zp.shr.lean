/-! the generator's shares -/
/-- what a run of the generator may change, besides cells of S -/
def Gs (S : Nat → Prop) (x b n z : Nat) (m m' : am_M) : Prop := Ex (fun y => y = x ∨ SBp m b y ∨ S y) n z m m' ∧ (gr_ m' b 0 = gr_ m b 0 ∨ gt_ m ≤ gr_ m' b 0)
def ow3 (g : Nat) (ow : Nat → Nat) (y : Nat) : Nat := if y < g then ow y else 300
section G8
variable {sa sv d x b t n z n' z' : Nat} {m m' m2 : am_M} {ow ow' : Nat → Nat} {s : Nat → Int32} {q : Nat → Int64} {l l' : List Int32} {S S' : Nat → Prop}
theorem Gs.trans (h : Gs S x b n z m m') (h' : Gs S x b n' z' m' m2) : Gs S x b (n + n') (z + z') m m2 := by
  obtain ⟨a1, a2⟩ := h
  obtain ⟨b1, b2⟩ := h'
  have g := a1.gt
  refine ⟨a1.trans b1 (fun a ha q => ?_), by omega⟩
  rcases q with q | q | q
  · exact .inl q
  · unfold SBp at q ⊢
    omega
  · exact .inr (.inr q)
theorem Gs.refl (m : am_M) : Gs S x b 0 0 m m := ⟨Ex.refl _ _, .inl rfl⟩
theorem Gs.mono (h : Gs S x b n z m m') (hs : ∀ y, y < gt_ m → S y → S' y) (hn : n ≤ n') (hz : z ≤ z') : Gs S' x b n' z' m m' := ⟨h.1.mono (fun y hy q => by
  rcases q with q | q | q
  · exact .inl q
  · exact .inr (.inl q)
  · exact .inr (.inr (hs y hy q))) hn hz, h.2⟩
theorem Gx.gs (h : Gx x b n z m m') : Gs S x b n z m m' := ⟨h.1.mono (fun y _ q => by
  rcases q with q | q
  · exact .inl q
  · exact .inr (.inl q)) (Nat.le_refl _) (Nat.le_refl _), h.2⟩
theorem Gs.gx (h : Gs S x b n z m m') (hs : ∀ y, y < gt_ m → ¬ S y) : Gx x b n z m m' := ⟨h.1.mono (fun y hy q => by
  rcases q with q | q | q
  · exact .inl q
  · exact .inr q
  · exact absurd q (hs y hy)) (Nat.le_refl _) (Nat.le_refl _), h.2⟩
theorem GS.ow3 (h : GS sa m sv x b t ow s q l) : GS sa m sv x b t (ow3 (gt_ m) ow) s q l := by
  have hna := h.na
  have hnd := h.nd
  have e : Xt m sv ow (Jvm.Pilot.CRoyaltyOfficeLaw_law_r9860_8148df.ow3 (gt_ m) ow) NoP NoP 0 0 m := ⟨Ex.refl _ _, fun _ _ y _ => absurd y id, fun b hb => if_pos hb, rfl⟩
  exact ⟨h.ws.xt e (fun t y => absurd y id) (by have := h.gl.1; omega) h.gl.2 (by omega) (by omega), h.xn, h.ks, h.sb, h.gl, h.wg, h.sm, h.na, h.nd⟩
/-- a write in a new row of ints -/
theorem GS.scr (h : GS sa m sv x b t ow s q l) {r N k : Nat} {v : Int32} (hr : 300 ≤ ow r) (kr : gk_ m r = (2, N)) : GS sa (si_ m r k v) sv x b t ow s q l := by
  have hna := h.na
  have hnd := h.nd
  obtain ⟨n1, n2, n3, n4, n5, n6⟩ := h.xn
  have nx : ¬ x = r := fun z => by
    rw [← z, n1] at kr
    exact absurd (congrArg (fun q => q.1) kr) (by show ¬ 1 = 2; decide)
  refine ⟨h.ws.scr h.gl (by omega) (by omega) hr k v, ⟨n1, by rw [gi_si, if_neg (fun z => nx z.1)]; exact n2, n3, by rw [gi_si, if_neg (fun z => nx z.1)]; exact n4, n5, n6⟩, h.ks.six (by rw [kr]; exact ⟨by show ¬ 2 = 0; decide, by show ¬ 2 = 8; decide, by show ¬ 2 = 9; decide⟩), h.sb.six (fun z => ?_) (by rw [kr]; show ¬ 2 = 3; decide), h.gl, h.wg, h.sm, h.na, h.nd⟩
  have := h.kb
  rw [← z, kr] at this
  exact absurd (congrArg (fun q => q.1) this) (by show ¬ 2 = 1; decide)
/-- a row of rows gets one -/
theorem GS.sto (h : GS sa m sv x b t ow s q l) {r N k v : Nat} (kr : gk_ m r = (11, N)) : GS sa (sr_ m r k v) sv x b t ow s q l := by
  have hna := h.na
  have hnd := h.nd
  obtain ⟨n1, n2, n3, n4, n5, n6⟩ := h.xn
  have nx : ¬ x = r := fun z => by
    rw [← z, n1] at kr
    exact absurd (congrArg (fun q => q.1) kr) (by show ¬ 1 = 11; decide)
  have e : Ex (fun y => y = r) 0 0 m (sr_ m r k v) := (Ex.refl _ _).sr (.inr rfl)
  have nsv : ¬ sv = r := fun z => by
    rw [← z, h.ks.2.1] at kr
    exact absurd (congrArg (fun q => q.1) kr) (by show ¬ 0 = 11; decide)
  have X : Xt m sv ow ow NoP (fun y => y = r) 0 0 (sr_ m r k v) := ⟨e, fun y _ z hw => by
    rw [z, kr] at hw
    unfold Wd at hw
    simp at hw, fun _ _ => rfl, funext fun j => by rw [gr_sr, if_neg (fun z => nsv z.1)]⟩
  obtain ⟨c, h1, h3, h4, h5, h6, h7, h8, h9, h10, h11, h12, h13⟩ := h.sb
  have nb : ¬ b = r := fun z => by
    rw [← z, h1] at kr
    exact absurd (congrArg (fun q => q.1) kr) (by show ¬ 1 = 11; decide)
  have rb : gr_ (sr_ m r k v) b 0 = gr_ m b 0 := by rw [gr_sr, if_neg (fun z => nb z.1)]
  exact ⟨h.ws.xt X (fun t y => absurd y id) (by have := h.gl.1; omega) h.gl.2 (by omega) (by omega), ⟨n1, n2, by rw [gr_sr, if_neg (fun z => nx z.1)]; exact n3, n4, n5, by rw [gr_sr, if_neg (fun z => nx z.1)]; exact n6⟩, h.ks.ex e (fun y _ z => by
    rw [z, kr]
    exact ⟨by show ¬ 11 = 0; decide, by show ¬ 11 = 8; decide, by show ¬ 11 = 9; decide⟩), ⟨c, h1, h3, by rw [rb]; exact h4, by rw [rb]; exact h5, h6, h7, h8, fun j hj => by rw [rb]; exact h9 j hj, h10, h11, by rw [rb]; exact h12, h13⟩, h.gl, h.wg, h.sm, h.na, h.nd⟩
/-- a row of a split: its first i shares -/
def RwL (m : am_M) (r : Nat) (L : List (Nat × Nat)) : Prop := gi_ m r 0 = 0 ∧ ∀ j y, L[j]? = some y → gi_ m r (2 * j + 1) = nI y.1 ∧ gi_ m r (2 * j + 2) = nI y.2
theorem Gs.keep (h : Gs S x b n z m m') (hb : SBv m b l) {r N k : Nat} (kr : gk_ m r = (k, N)) (hk : k = 2 ∨ k = 11 ∨ k = 4) (hx : gk_ m x = (1, 12)) (hr : r < gt_ m) (hS : ¬ S r) : gk_ m' r = gk_ m r ∧ gi_ m' r = gi_ m r ∧ gr_ m' r = gr_ m r := by
  obtain ⟨k1, k2, k3, k4, k5⟩ := hb.kb
  have np : ¬ (r = x ∨ SBp m b r ∨ S r) := fun z => by
    rcases z with z | z | z
    · rw [z, hx] at kr
      have := congrArg (fun q => q.1) kr
      have : 1 = k := this
      omega
    · rcases z with z | z
      · rw [z, k1] at kr
        have := congrArg (fun q => q.1) kr
        have : 1 = k := this
        omega
      · rw [← z, kr] at k4
        have : k = 3 := k4
        omega
    · exact hS z
  exact ⟨h.1.k hr, h.1.i hr np, h.1.r hr np⟩
theorem lsum_app (L : List (Nat × Nat)) (y : Nat × Nat) : lsum (L ++ [y]) = lsum L + y.2 := by
  unfold lsum
  rw [List.map_append, List.sum_append]
  show _ + (y.2 + 0) = _
  omega
theorem mod_ne {f i j n : Nat} (h1 : i < j) (h2 : j - i < n) : ¬ (f + i) % n = (f + j) % n := fun z => by
  have h3 := Nat.sub_mod_eq_zero_of_mod_eq z.symm
  rw [show f + j - (f + i) = j - i by omega, Nat.mod_eq_of_lt h2] at h3
  omega
theorem dg_len3 {v : Nat} (h : v < 1000) : (dg_ v).length ≤ 3 := by
  unfold dg_
  repeat' split
  all_goals simp only [List.length_cons, List.length_nil]
  all_goals omega
theorem bts_len (L : List (Nat × Nat)) (x : Nat × Nat) (h : x.2 < 1000) : (bts (L ++ [x])).length ≤ (bts L).length + 7 := by
  have h1 := dg_len3 h
  rw [bts_s, List.length_append, List.length_append, List.length_append, List.length_append, nm_len (.inl rfl), kb12]
  show _ + (1 + (2 + (1 + _))) ≤ _
  omega
/-- one share -/
theorem x280_82 {G to r N first k np v : Nat} {L : List (Nat × Nat)} (h : GS sa m sv x b t ow s q (l ++ bts L)) (hr3 : 300 ≤ ow r) (kr : gk_ m r = (2, N)) (hrG : G ≤ r) (hrl : r < gt_ m) (hR : RwL m r L) (hk : k = L.length) (hN : 2 * k + 2 < N) (hN2 : N < 100) (hnp : cN s 0 = np) (hnp0 : 0 < np) (hnp10 : np ≤ 10) (hf : first < 2 ^ 20) (hv : v ≤ 100) (h2 : (l ++ bts L).length + 8 ≤ 1000) (l3 l5 : Int32) (o8 : Option Value) : ∃ m', r280 sa sv (d + 7) 82 [some (.ref x), some (.ref b), some (.ref to), some (.int l3), some (.int (nI first)), some (.int l5), some (.ref r), some (.int (nI k)), o8] [(.int (nI v))] m = r280 sa sv (d + 7) 48 [some (.ref x), some (.ref b), some (.ref to), some (.int l3), some (.int (nI first)), some (.int (l5 - nI v)), some (.ref r), some (.int (nI (k + 1))), some (.int (nI v))] [] m' ∧ GS sa m' sv x b t ow s q (l ++ bts (L ++ [((first + k) % np, v)])) ∧ Gs (fun y => G ≤ y) x b 10 14008 m m' ∧ RwL m' r (L ++ [((first + k) % np, v)]) ∧ gk_ m' r = (2, N) := by
  have hx0 : gi_ m x 0 = nI np := by
    rw [h.ws.np, ((wc_np h.wg.C).c (by decide)).1, hnp]
  have hp : (first + k) % np < np := Nat.mod_lt _ hnp0
  have ha1 := h.scr (k := 2 * k + 1) (v := nI ((first + k) % np)) hr3 kr
  have ha2 := ha1.scr (k := 2 * k + 2) (v := nI v) hr3 kr
  have w1 : RwL (si_ (si_ m r (2 * k + 1) (nI ((first + k) % np))) r (2 * k + 2) (nI v)) r (L ++ [((first + k) % np, v)]) := by
    refine ⟨?_, fun j y hy => ?_⟩
    · rw [gi_si, if_neg (by omega), gi_si, if_neg (by omega)]
      exact hR.1
    · by_cases hj : j < L.length
      · rw [List.getElem?_append_left hj] at hy
        rw [gi_si, if_neg (by omega), gi_si, if_neg (by omega), gi_si, if_neg (by omega), gi_si, if_neg (by omega)]
        exact hR.2 j y hy
      · rw [List.getElem?_append_right (by omega)] at hy
        have hj2 := (List.getElem?_eq_some_iff.mp hy).1
        have hj3 : j - L.length < 1 := hj2
        have hj0 : j - L.length = 0 := by omega
        rw [hj0] at hy
        have hy' : ((first + k) % np, v) = y := Option.some.inj hy
        have hjk : j = k := by omega
        rw [← hy', hjk]
        exact ⟨by rw [gi_si, if_neg (by omega), gi_si1], gi_si1 _ _ _ _⟩
  have xA : Gs (fun y => G ≤ y) x b 0 0 m (si_ (si_ m r (2 * k + 1) (nI ((first + k) % np))) r (2 * k + 2) (nI v)) := ⟨((Ex.refl _ _).si (.inr (.inr (.inr hrG)))).si (.inr (.inr (.inr hrG))), .inl rfl⟩
  have rA : gr_ (si_ (si_ m r (2 * k + 1) (nI ((first + k) % np))) r (2 * k + 2) (nI v)) sv = gr_ m sv := rfl
  have kA : gk_ (si_ (si_ m r (2 * k + 1) (nI ((first + k) % np))) r (2 * k + 2) (nI v)) = gk_ m := rfl
  have gA : gt_ (si_ (si_ m r (2 * k + 1) (nI ((first + k) % np))) r (2 * k + 2) (nI v)) = gt_ m := rfl
  obtain ⟨m1, e1, G1, f1⟩ := ha2.c (sa := sa) (d := d + 2) (i := 12) (by omega) (by rw [kb12]; show _ + 1 ≤ 1000; omega)
  rw [rA] at e1
  generalize hA : si_ (si_ m r (2 * k + 1) (nI ((first + k) % np))) r (2 * k + 2) (nI v) = A at ha2 w1 xA kA gA e1 f1
  have kxA := ha2.xn.1
  have krA : gk_ A r = (2, N) := by rw [kA]; exact kr
  have cut : ∀ {n z : Nat} {A M : am_M} {l' : List Int32}, Gx x b n z A M → SBv A b l' → gk_ A x = (1, 12) → gk_ A r = (2, N) → r < gt_ A → gk_ M r = (2, N) ∧ gi_ M r = gi_ A r := fun f hb hx hk hl => by
    obtain ⟨y1, y2, y3⟩ := (f.gs (S := fun _ => False)).keep hb hk (.inl rfl) hx hl (fun z => z)
    exact ⟨y1.trans hk, y2⟩
  obtain ⟨kr1, ir1⟩ := cut f1 ha2.sb kxA krA (by omega)
  have g1 := f1.1.gt
  obtain ⟨m4, a, m2, e2, k2, e2', G2, f2⟩ := G1.p_ (sa := sa) (d := d) (p := (first + k) % np) (by omega) (by rw [List.length_append, kb12]; show _ + 1 + 2 ≤ 1000; omega)
  obtain ⟨kr2, ir2⟩ := cut f2 G1.sb G1.xn.1 kr1 (by omega)
  have g2 := f2.1.gt
  obtain ⟨m3, e3, G3, f3⟩ := G2.c (sa := sa) (d := d + 2) (i := 12) (by omega) (by rw [List.length_append, List.length_append, kb12, nm_len (.inl rfl)]; show _ + 1 + 2 + 1 ≤ 1000; omega)
  obtain ⟨kr3, ir3⟩ := cut f3 G2.sb G2.xn.1 kr2 (by omega)
  have g3 := f3.1.gt
  obtain ⟨m5, e4, G4, f4⟩ := G3.n_ (sa := sa) (d := d + 2) (v := v) (by omega) (by rw [List.length_append, List.length_append, List.length_append, kb12, nm_len (.inl rfl)]; show _ + 1 + 2 + 1 + 4 ≤ 1000; omega)
  obtain ⟨kr4, ir4⟩ := cut f4 G3.sb G3.xn.1 kr3 (by omega)
  have el : l ++ bts L ++ kb_ 12 ++ nm_ 9 ((first + k) % np) ++ kb_ 12 ++ dg_ v = l ++ bts (L ++ [((first + k) % np, v)]) := by
    rw [bts_s]
    simp only [List.append_assoc]
  rw [el] at G4
  refine ⟨m5, ?_, G4, ?_, ?_, kr4⟩
  · have kx : gk_ m x = (1, 12) := h.xn.1
    have hw1 : gi_ m1 r (2 * k + 1) = nI ((first + k) % np) := by
      rw [ir1]
      have y := w1.2 L.length ((first + k) % np, v) (by rw [List.getElem?_append_right (Nat.le_refl _), Nat.sub_self]; rfl)
      rw [← hk] at y
      exact y.1
    rw [b280_82, gq_pos kx, hx0, gq_pos (by rw [nI_eq0 (by omega)]; omega), pk_mul, nI_add, nI_add, nI_add, pk_rem (by omega) hnp0 (by omega), kr, gq_pos ⟨rfl, in_of (show 2 * k + 1 < N by omega) (by omega)⟩, gq_pos ⟨rfl, in_of (show 2 * k + 2 < N by omega) (by omega)⟩, gq_pos h.kb, nI_clamp (show 2 * k + 1 < 2 ^ 31 by omega), nI_clamp (show 2 * k + 2 < 2 ^ 31 by omega), hA, e1, cr_v, kr1, gq_pos ⟨.inl rfl, in_of (show 2 * k + 1 < N by omega) (by omega)⟩, hw1, e2, cr_v, gq_pos k2, e2', cr_v, gq_pos G2.kb, e3, cr_v, gq_pos G3.kb, e4, cr_v, nI_add]
  · exact ((((xA.trans f1.gs).trans f2.gs).trans f3.gs).trans f4.gs).mono (fun _ _ z => z) (by omega) (by omega)
  · refine ⟨?_, fun j y hy => ?_⟩
    · rw [ir4, ir3, ir2, ir1]
      exact w1.1
    · rw [ir4, ir3, ir2, ir1]
      exact w1.2 j y hy
end G8
