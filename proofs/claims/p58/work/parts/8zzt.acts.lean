/-! acts: pass, setLeast, revert -/
section J8
variable {sa sv d N x b n z B B' v w p i : Nat} {m M m' : am_M} {ow : Nat → Nat} {X X' : TX} {s : Nat → Int32} {q : Nat → Int64} {P : Nat → Prop} {r : Option am_R}
theorem exc {a : Nat} (e : Ex P n z m m') (hp : ∀ y, y < gt_ m → P y → y = a) : Ex (fun y => y = a) n z m m' := e.mono hp (Nat.le_refl _) (Nat.le_refl _)
theorem acts_pass (h : JT sa m sv N x ow B X X.s X.q) (hl : LM X.s X.q) (hp : PI X.s X.q) (hn : X.n = 0) (hB : B + 1 < 2 ^ 20) (hd : cN X.s 4 ≤ 9000) {y : Nat} (hy : y < 14) : ∃ M2, am_ca sa sv (d + 5) 201 [.ref N, .int (nI y)] (si_ m x 1 (gi_ m x 1 + nI y)) = some (.inl (some (.int (X.s 4 + nI y))), M2) ∧ gk_ M2 x = (1, 12) ∧ gi_ M2 x 1 = X.s 4 + nI y ∧ ∀ r, r = some (.inl (some (.int (nI 1))), M2) → AO sa m sv N x B X r := by
  have hday : gi_ m x 1 = X.s 4 := h.ws.day
  obtain ⟨e4, b4⟩ := (wc_day h.wc).c (by decide)
  rw [hday]
  have w1 := h.ws.own h.wc h.ww hl.g (by have := hl.a; omega) (by have := hl.dd; omega) (c := 1) (k := 4) (v := X.s 4 + nI y) (.inr (.inl ⟨rfl, rfl⟩))
  have j1 := h.wr (P := fun a => a = x) ((Ex.refl _ _).si (.inr rfl)) (fun a _ z => by rw [z, h.ws.x.1]; decide) w1 (fun _ _ => rfl)
  have hl1 : LM (up1 X.s 4 (X.s 4 + nI y)) X.q := hl.up (by decide) (.inl (by decide))
  obtain ⟨M2, f2, t2, e2⟩ := x201 (sa := sa) (sv := sv) (d := d) j1.tc j1.xg (nI y)
  have g2 := j1.xg.pas (nI y)
  have c : cps_ X.s (nI y) = true := by
    unfold cps_
    rw [inR_lt (by omega) (by decide), e4, nI_toInt (by omega), nI_toInt (by omega), Bool.true_and]
    exact decide_eq_true (by omega)
  have eX : pasX X (nI y) = X.rem.wS (up1 X.s 4 (X.s 4 + nI y)) X.q := by unfold pasX; rw [c]; rfl
  have eE : pasE X.s (nI y) = none := by unfold pasE; rw [c]; rfl
  rw [eX] at t2 g2
  rw [eE] at e2
  obtain ⟨j2, x2⟩ := j1.fr hl1 f2 t2 (g2.mono (Nat.le_succ B)) hB
  refine ⟨M2, e2, j2.ws.k, j2.ws.day, fun r hr => AO.of j2 hr rfl rfl hn hl1 (hp.up ⟨by decide, by decide, by decide⟩ (by decide)) ?_ ?_⟩
  · have : cN (up1 X.s 4 (X.s 4 + nI y)) 4 = cN X.s 4 + y := cN_ (show up1 X.s 4 (X.s 4 + nI y) 4 = nI (cN X.s 4 + y) from by
      show (if 4 = 4 then X.s 4 + nI y else _) = _
      rw [if_pos rfl]
      conv => lhs; rw [e4]
      exact nI_add _ _) (by omega)
    omega
  · have x1 : Ex (fun _ => True) 0 0 m (si_ m x 1 (X.s 4 + nI y)) := (Ex.refl _ _).si (.inr trivial)
    exact (x1.trans x2 (fun _ _ _ => trivial)).mono (fun _ _ z => z) (by omega) (by omega)
theorem acts_least (h : JT sa m sv N x ow B X X.s X.q) (hl : LM X.s X.q) (hp : PI X.s X.q) (hn : X.n = 0) (hB : B + 1 < 2 ^ 20) (hpp : p < cN X.s 0) (hv : v < 4000) : ∃ M2, am_ca sa sv (d + 5) 203 [.ref N, .int (nI p), .int (nI v)] (si_ m (gr_ m x 6) p (nI v)) = some (.inl (some (.int (X.s (8 + p)))), M2) ∧ ∀ r, r = some (.inl (some (.int (nI 1))), M2) → AO sa m sv N x B X r := by
  have b0 := isN_lt (wc_np h.wc) (by decide)
  have w1 := h.ws.lea1 h.wc h.ww hl.g (p := p) (by omega) (by have := hl.a; omega) (by have := hl.dd; omega) (nI v)
  have j1 := h.wr (P := fun a => a = gr_ m x 6) ((Ex.refl _ _).si (.inr rfl)) (fun a _ z => by rw [z, h.ws.le.2.1.1]; decide) w1 (fun _ _ => rfl)
  have hl1 : LM (up1 X.s (8 + p) (nI v)) X.q := hl.up (by omega) (.inl (by omega))
  obtain ⟨M2, f2, t2, e2⟩ := x203 (sa := sa) (sv := sv) (d := d) j1.tc j1.xg j1.n0 (by have := h.bb; omega) (nI p) (nI v)
  have g2 := j1.xg.lea (nI p) (nI v)
  have c1 := inR_lt hpp (show cN X.s 0 < 2 ^ 31 by omega)
  have c2 : inR (nI v) 100000 = true := inR_lt (by omega) (by decide)
  have eX : leaX X (nI p) (nI v) = X.rem.wS (up1 X.s (8 + p) (nI v)) X.q := by unfold leaX; rw [c1, c2, nI_N (k := p) (by omega)]; rfl
  have eE : leaE X.s (nI p) (nI v) = none := by unfold leaE E3; rw [c1, c2]; rfl
  rw [eX] at t2 g2
  rw [eE, nI_N (k := p) (by omega)] at e2
  obtain ⟨j2, x2⟩ := j1.fr hl1 f2 t2 (g2.mono (Nat.le_succ B)) hB
  refine ⟨M2, e2, fun r hr => AO.of j2 hr rfl rfl hn hl1 (hp.up ⟨by omega, by omega, by omega⟩ (by omega)) ?_ ?_⟩
  · rw [cN_cg (show up1 X.s (8 + p) (nI v) 4 = X.s 4 from if_neg (by omega))]; omega
  · have x1 : Ex (fun _ => True) 0 0 m (si_ m (gr_ m x 6) p (nI v)) := (Ex.refl _ _).si (.inr trivial)
    exact (x1.trans x2 (fun _ _ _ => trivial)).mono (fun _ _ z => z) (by omega) (by omega)
theorem acts_rev (h : JT sa m sv N x ow B X X.s X.q) (hl : LM X.s X.q) (hp : PI X.s X.q) (hn : X.n = 0) (hB : B + 1 < 2 ^ 20) {L : List Nat} (hL : LW m sv ow (gr_ m x 4) 3 L) (hlen : L.length = cN X.s 2) {j D : Nat} (hj : j < L.length) (hlo : ow (L.getD j 0) < 300) (h1 : X.s 4 ≤ nI D) (h2 : nI D < X.s (594 + 6 * j + 5)) (h3 : X.s (594 + 6 * j + 4) < nI D) (hD : D < 2 ^ 20) : gk_ (si_ m (L.getD j 0) 5 (nI D)) N = (1, 10) ∧ am_ca sa sv (d + 1) 233 [.ref (gr_ m x 4)] (si_ m (L.getD j 0) 5 (nI D)) = some (.inl (some (.int (nI L.length))), si_ m (L.getD j 0) 5 (nI D)) ∧ ∃ M2, am_ca sa sv (d + 5) 202 [.ref N, .int (nI j), .int (nI D)] (si_ m (L.getD j 0) 5 (nI D)) = some (.inl (some (.int (X.s (594 + 6 * j + 5)))), M2) ∧ ∀ r, r = some (.inl (some (.int (nI 1))), M2) → AO sa m sv N x B X r := by
  have b2 := isN_lt (h.wc.2.2.1) (by decide)
  have w1 := h.ws.asg1 h.wc h.ww hl.g hL hlen (a := j) (c := 5) hj (by omega) (by decide) (by have := hl.a; omega) (by have := hl.dd; omega) (nI D)
  have j1 := h.wr (P := fun a => a = L.getD j 0) ((Ex.refl _ _).si (.inr rfl)) (fun a _ z => by rw [z]; exact hlo) w1 (fun _ _ => rfl)
  have hl1 : LM (up1 X.s (594 + 6 * j + 5) (nI D)) X.q := hl.up (by omega) (.inr (by omega))
  obtain ⟨L1, ⟨⟨c, hc⟩, a4, a5⟩, a6, a7⟩ := w1.as
  have ez := x233 (sa := sa) (sv := sv) (d := d) hc
  have e6 : L1.length = L.length := by
    rw [a6, hlen]; exact cN_cg (if_neg (by omega))
  rw [e6] at ez
  obtain ⟨M2, f2, t2, e2⟩ := x202 (sa := sa) (sv := sv) (d := d) j1.tc j1.xg (nI j) (nI D)
  have g2 := j1.xg.rev (nI j) (nI D)
  have c1 := inR_lt (show j < cN X.s 2 by omega) (show cN X.s 2 < 2 ^ 31 by omega)
  have c2 : crv_ X.s j (nI D) = true := decide_eq_true ⟨h1, h2, h3⟩
  have eX : revX X (nI j) (nI D) = X.rem.wS (up1 X.s (594 + 6 * j + 5) (nI D)) X.q := by unfold revX; rw [c1, nI_N (k := j) (by omega), c2]; rfl
  have eE : revE X.s (nI j) (nI D) = none := by unfold revE E3; rw [c1, nI_N (k := j) (by omega), c2]; rfl
  rw [eX] at t2 g2
  rw [eE, nI_N (k := j) (by omega)] at e2
  obtain ⟨j2, x2⟩ := j1.fr hl1 f2 t2 (g2.mono (Nat.le_succ B)) hB
  refine ⟨h.k0, ez, M2, e2, fun r hr => AO.of j2 hr rfl rfl hn hl1 (hp.up ⟨by omega, by omega, by omega⟩ (by omega)) ?_ ?_⟩
  · rw [cN_cg (show up1 X.s (594 + 6 * j + 5) (nI D) 4 = X.s 4 from if_neg (by omega))]; omega
  · have x1 : Ex (fun _ => True) 0 0 m (si_ m (L.getD j 0) 5 (nI D)) := (Ex.refl _ _).si (.inr trivial)
    exact (x1.trans x2 (fun _ _ _ => trivial)).mono (fun _ _ z => z) (by omega) (by omega)
end J8
