/-! steps of the class beside the World -/
section J8
variable {sa sv d N x n z r B B' : Nat} {m m' M : am_M} {ow ow' : Nat → Nat} {X X' : TX} {s s' : Nat → Int32} {q q' : Nat → Int64} {P : Nat → Prop}
theorem JT.top (h : JT sa m sv N x ow B X s q) : N + 243 ≤ gt_ m := by
  have := (h.kc (N + 242) (by omega) (by omega)).1
  omega
/-- a run that spares both -/
theorem JT.xs (h : JT sa m sv N x ow B X s q) (hl : LM s q) (e : Ex P n z m m') (hp : ∀ a, a < gt_ m → P a → 300 ≤ ow a ∧ ¬ (N ≤ a ∧ a < N + 243)) (nk : NK m P) (ho : ∀ b, b < gt_ m → ow' b = ow b) : JT sa m' sv N x ow' B X s q := by
  have xt : Xt m sv ow ow' (fun t => 300 ≤ t) P n z m' := ⟨e, fun a ha z _ => (hp a ha z).1, ho, e.r h.ks.1 (fun z => (nk sv h.ks.1 z).1 (by rw [h.ks.2.1]))⟩
  have w := h.ws.xt xt (fun t z => z) (by have := hl.w; omega) hl.gw (by have := hl.a; omega) (by have := hl.dd; omega)
  have kk := h.ks.tag h.s3 e ho (fun a ha z _ y => by have := nk a ha y; omega)
  refine ⟨h.tc.sm fun a z1 z2 => ?_, h.xg, h.bb, w, kk.1, fun a z1 z2 => ?_, kk.2, h.n0, e.ge.trans h.ge⟩
  · obtain ⟨y1, y2, y3⟩ := h.kc a z1 z2
    have np : ¬ P a := fun y => (hp a y1 y).2 ⟨z1, z2⟩
    exact ⟨e.k y1, e.i y1 np, e.l y1 np, e.r y1 np⟩
  · obtain ⟨y1, y2, y3⟩ := h.kc a z1 z2
    rw [ho a y1, e.k y1]
    exact ⟨Nat.lt_of_lt_of_le y1 e.gt, y2, y3⟩
theorem nk24 (hk : (gk_ m r).1 = 2 ∨ (gk_ m r).1 = 4) : NK m (fun y => y = r) := fun a _ z => by
  rw [z]
  rcases hk with e | e <;> rw [e] <;> decide
theorem JT.si8 (h : JT sa m sv N x ow B X s q) (hl : LM s q) (hr : N + 243 ≤ r) (ho : 300 ≤ ow r) (hk : (gk_ m r).1 = 2 ∨ (gk_ m r).1 = 4) (i : Nat) (v : Int32) : JT sa (si_ m r i v) sv N x ow B X s q :=
  h.xs hl (P := fun y => y = r) ((Ex.refl _ _).si (.inr rfl)) (fun a _ z => ⟨by rw [z]; exact ho, by omega⟩) (nk24 hk) (fun _ _ => rfl)
theorem JT.sl8 (h : JT sa m sv N x ow B X s q) (hl : LM s q) (hr : N + 243 ≤ r) (ho : 300 ≤ ow r) (hk : (gk_ m r).1 = 2 ∨ (gk_ m r).1 = 4) (i : Nat) (v : Int64) : JT sa (sl_ m r i v) sv N x ow B X s q :=
  h.xs hl (P := fun y => y = r) ((Ex.refl _ _).sl (.inr rfl)) (fun a _ z => ⟨by rw [z]; exact ho, by omega⟩) (nk24 hk) (fun _ _ => rfl)
theorem JT.wE (h : JT sa m sv N x ow B X s q) (hl : LM s q) {w A p : Nat} (hw : w < cN X.s 1) (hp : p < cN X.s 0) (hA : 1 ≤ A) (hA9 : A ≤ 9999999) : ∃ m', am_ca sa sv (d + 7) 193 [.ref N, .int (nI w), .int (nI A), .int (nI p)] m = some (.inl (some (.int (nI (eg_ (dL_ X.s w A) p (dL_ X.s w A).length)))), m') ∧ JT sa m' sv N x ow B X s q ∧ Fr (KC N) m m' := by
  have b0 := isN_lt (wc_np h.wc) (by decide)
  have b1 := isN_lt (wc_nw h.wc) (by decide)
  obtain ⟨o, c, ho⟩ := h.cq
  obtain ⟨m', f, e⟩ := x193 (sa := sa) (sv := sv) (d := d) c ho (nI w) (nI A) (nI p)
  rw [inR_lt hw (by omega), inR_lt hp (by omega), amt_t.mpr ⟨A, hA, hA9, rfl⟩, nI_N (k := w) (by omega), nI_N (k := A) (by omega), nI_N (k := p) (by omega)] at e
  have f' : Fr (KC N) m m' := f.mono fun a k z => z.kc
  exact ⟨m', e, (h.fr hl f' (h.tc.dx f) h.xg h.bb).1, f'⟩
theorem JT.wG (h : JT sa m sv N x ow B X s q) (hl : LM s q) {w A p : Nat} (hw : w < cN X.s 1) (hp : p < cN X.s 0) (hA : 1 ≤ A) (hA9 : A ≤ 9999999) : ∃ m', am_ca sa sv (d + 7) 194 [.ref N, .int (nI w), .int (nI A), .int (nI p)] m = some (.inl (some (.int (nI (og_ X.s (dL_ X.s w A) p (dL_ X.s w A).length + (wh_ X.s (dL_ X.s w A) (dL_ X.s w A).length).2 p)))), m') ∧ JT sa m' sv N x ow B X s q ∧ Fr (KC N) m m' := by
  have b0 := isN_lt (wc_np h.wc) (by decide)
  have b1 := isN_lt (wc_nw h.wc) (by decide)
  obtain ⟨o, c, ho⟩ := h.cq
  obtain ⟨m', f, e⟩ := x194 (sa := sa) (sv := sv) (d := d) c ho (nI w) (nI A) (nI p)
  rw [inR_lt hw (by omega), inR_lt hp (by omega), amt_t.mpr ⟨A, hA, hA9, rfl⟩, nI_N (k := w) (by omega), nI_N (k := A) (by omega), nI_N (k := p) (by omega)] at e
  have f' : Fr (KC N) m m' := f.mono fun a k z => z.kc
  exact ⟨m', e, (h.fr hl f' (h.tc.dx f) h.xg h.bb).1, f'⟩
theorem JT.wC (h : JT sa m sv N x ow B X s q) (hl : LM s q) {w A : Nat} (hw : w < cN X.s 1) (hA : 1 ≤ A) (hA9 : A ≤ 9999999) : ∃ m', am_ca sa sv (d + 6) 192 [.ref N, .int (nI w), .int (nI A), .int (nI w)] m = some (.inl (some (.int (nI A))), m') ∧ JT sa m' sv N x ow B X s q ∧ Fr (KC N) m m' := by
  have b1 := isN_lt (wc_nw h.wc) (by decide)
  obtain ⟨o, c, ho⟩ := h.cq
  obtain ⟨m', f, e⟩ := x192 (sa := sa) (sv := sv) (d := d) c ho (nI w) (nI A) (nI w)
  rw [inR_lt hw (by omega), amt_t.mpr ⟨A, hA, hA9, rfl⟩, nI_N (k := w) (by omega), nI_N (k := A) (by omega), dvd_self h.wc h.ww _ _ _ hw] at e
  have f' : Fr (KC N) m m' := f.mono fun a k z => z.kc
  exact ⟨m', e, (h.fr hl f' (h.tc.dx f) h.xg h.bb).1, f'⟩
theorem rem_u (X : TX) (s : Nat → Int32) (q : Nat → Int64) : 1 ≤ (X.rem.wS s q).u ∧ (unX (X.rem.wS s q)).s = X.s ∧ (unX (X.rem.wS s q)).q = X.q := by
  have hu : (X.rem.wS s q).u = min X.u 4 + 1 := rfl
  refine ⟨by omega, ?_, ?_⟩
  · unfold unX
    rw [if_neg (by omega)]
    show (if min X.u 4 + 1 - 1 < min X.u 4 then _ else X.s : Nat → Int32) = X.s
    exact if_neg (by omega)
  · unfold unX
    rw [if_neg (by omega)]
    show (if min X.u 4 + 1 - 1 < min X.u 4 then _ else X.q : Nat → Int64) = X.q
    exact if_neg (by omega)
theorem JT.inc (h : JT sa m sv N x ow B X s q) (hl : LM s q) {w A : Nat} (hw : w < cN X.s 1) (hA : 1 ≤ A) (hA9 : A ≤ 9999999) (hB : B + 1 < 2 ^ 20) : ∃ m', am_ca sa sv (d + 6) 200 [.ref N, .int (nI w), .int (nI A)] m = some (.inl (some (.int (nI (dL_ X.s w A).length))), m') ∧ JT sa m' sv N x ow (B + 1) (X.rem.wS (bS_ X.s (dL_ X.s w A)) (bQ_ X.s (dL_ X.s w A) (dvd_ X.s (cN X.s 4) w A).1 X.q)) s q ∧ Fr (KC N) m m' := by
  have b1 := isN_lt (wc_nw h.wc) (by decide)
  obtain ⟨m', f, t, e⟩ := x200 (sa := sa) (sv := sv) (d := d) h.tc h.xg h.n0 (by have := h.bb; omega) (nI w) (nI A)
  have g := h.xg.inc (by have := h.bb; omega) (nI w) (nI A)
  have i1 := inR_lt hw (show cN X.s 1 < 2 ^ 31 by omega)
  have i2 := amt_t.mpr ⟨A, hA, hA9, rfl⟩
  have eX : incX X (nI w) (nI A) = X.rem.wS (bS_ X.s (dL_ X.s w A)) (bQ_ X.s (dL_ X.s w A) (dvd_ X.s (cN X.s 4) w A).1 X.q) := by
    unfold incX
    rw [i1, i2, nI_N (k := w) (by omega), nI_N (k := A) (by omega)]; rfl
  have eE : incE X.s (nI w) (nI A) = none := by
    unfold incE E3
    rw [i1, i2]; rfl
  rw [eX] at t g
  rw [eE, nI_N (k := w) (by omega), nI_N (k := A) (by omega)] at e
  exact ⟨m', e, (h.fr hl f t g hB).1, f⟩
theorem JT.undo (h : JT sa m sv N x ow B X s q) (hl : LM s q) (hu : 1 ≤ X.u) : ∃ m', am_ca sa sv (d + 1) 208 [.ref N] m = some (.inl (some (.int (nI (X.u - 1)))), m') ∧ JT sa m' sv N x ow B (unX X) s q ∧ Fr (KC N) m m' := by
  obtain ⟨m', f, t, e⟩ := x208 (sa := sa) (sv := sv) (d := d) h.tc
  have ev : unV X = nI (X.u - 1) := if_neg (by omega)
  rw [ev] at e
  exact ⟨m', e, (h.fr hl f t h.xg.un h.bb).1, f⟩
end J8
