/-! acts: one change of both -/
section J8
variable {sa sv d N x b n z B B' v w p i : Nat} {m M m' : am_M} {ow : Nat → Nat} {X X' : TX} {s : Nat → Int32} {q : Nat → Int64} {P : Nat → Prop} {r : Option am_R}
/-- a step of both that answers 1 -/
def AO (sa : Nat) (m : am_M) (sv N x B : Nat) (X : TX) (r : Option am_R) : Prop := ∃ m' ow' X', r = some (.inl (some (.int (nI 1))), m') ∧ JT sa m' sv N x ow' (B + 1) X' X'.s X'.q ∧ LM X'.s X'.q ∧ PI X'.s X'.q ∧ X'.n = 0 ∧ cN X'.s 4 ≤ cN X.s 4 + 13 ∧ Ex (fun _ => True) 500 60000 m m'
theorem JT.up (h : JT sa m sv N x ow B X s q) (hb : B ≤ B') (h2 : B' < 2 ^ 20) : JT sa m sv N x ow B' X s q := ⟨h.tc, h.xg.mono hb, h2, h.ws, h.ks, h.kc, h.s3, h.n0, h.ge⟩
theorem JT.g0 (h : JT sa m sv N x ow B X s q) : 0 < gt_ m := by have := h.top; have := h.n0; omega
theorem AO.of (h : JT sa m' sv N x ow (B + 1) X' s q) (e : r = some (.inl (some (.int (nI 1))), m')) (es : X'.s = s) (eq : X'.q = q) (hn : X'.n = 0) (hl : LM s q) (hp : PI s q) (hd : cN s 4 ≤ cN X.s 4 + 13) (x1 : Ex (fun _ => True) 500 60000 m m') : AO sa m sv N x B X r := by
  refine ⟨m', ow, X', e, h.re es eq, ?_, ?_, hn, ?_, x1⟩
  · rw [es, eq]; exact hl
  · rw [es, eq]; exact hp
  · rw [es]; exact hd
theorem exT (h : Ex P n z m m') {n' z' : Nat} (hn : n ≤ n') (hz : z ≤ z') : Ex (fun _ => True) n' z' m m' := h.mono (fun _ _ _ => trivial) hn hz
/-- nothing changes -/
theorem AO.no (h : JT sa m sv N x ow B X X.s X.q) (hB : B + 1 < 2 ^ 20) (hl : LM X.s X.q) (hp : PI X.s X.q) (hn : X.n = 0) (e : r = some (.inl (some (.int (nI 1))), m)) : AO sa m sv N x B X r :=
  ⟨m, ow, X, e, h.up (by omega) hB, hl, hp, hn, by omega, exT (Ex.refl (fun _ => True) m) (by omega) (by omega)⟩
theorem x296_108 (h : JT sa m sv N x ow B X X.s X.q) (hl : LM X.s X.q) (hp : PI X.s X.q) (hn : X.n = 0) (hB : B + 1 < 2 ^ 20) (hw : w < cN X.s 1) (hv : v < 4000) (l2 : Nat) (l3 l6 : Int32) (o7 o8 o9 : Option Value) : AO sa m sv N x B X (r296 sa sv (d + 8) 108 [some (.ref N), some (.ref x), some (.ref l2), some (.int l3), some (.int (nI v)), some (.int (nI w)), some (.int l6), o7, o8, o9] [] m) := by
  obtain ⟨M1, e1, j1, f1⟩ := h.inc (sa := sa) (d := d + 2) hl hw (show 1 ≤ 1 + v by omega) (show 1 + v ≤ 9999999 by omega) hB
  obtain ⟨M2, ow2, e2, w2, o2, x2⟩ := x290 (sa := sa) (d := d) j1.ws h.wa h.wc h.ww h.wd hl.g j1.ks j1.ge j1.g0 hl.a (by have := hl.dd; omega) j1.s3.1 hw (show 1 + v ≤ 9999998 by omega)
  rw [show (dvd_ X.s (cN X.s 4) w (1 + v)).2 = dL_ X.s w (1 + v) from rfl] at e2 w2
  have j2 := j1.wr x2 (fun a _ z => Nat.lt_trans z (by decide)) w2 o2
  have hG : ∀ y ∈ dL_ X.s w (1 + v), GL X.s y := dvd_GL h.wc h.ww h.wa (cN X.s 4) w (1 + v) hw (by omega)
  have hlen : (dL_ X.s w (1 + v)).length ≤ 64 := dvd_64 h.wc h.ww (cN X.s 4) w (1 + v) hw
  have hsum : lsm_ (dL_ X.s w (1 + v)) = 1 + v := dvd_lsmE h.wc h.ww h.wa (cN X.s 4) w (1 + v) hw
  refine AO.of j2 ?_ rfl rfl hn (hl.inc _ _) (hp.inc h.wc h.ww h.wa h.wd _ hG hlen (by rw [hsum]; omega)) ?_ ?_
  · rw [b296_108, gq_pos h.k0, nI_add, e1, ci_v, gq_pos j1.ws.k, e2, ci_v, gb_pos rfl, gq_pos (by decide)]
  · rw [cN_cg (bS_o (s := X.s) (dL_ X.s w (1 + v)) (k := 4) (by decide) (.inl (by decide)))]; omega
  · have x1 : Ex (fun _ => True) 0 0 m M1 := Ex.of f1 fun _ _ _ => trivial
    exact (x1.trans x2 (fun _ _ _ => trivial)).mono (fun _ _ _ => trivial) (by omega) (by omega)
/-- closing both -/
theorem acts_close (h : JT sa m sv N x ow B X X.s X.q) (hl : LM X.s X.q) (hp : PI X.s X.q) (hn : X.n = 0) (hB : B + 1 < 2 ^ 20) : ∃ M1 M2, am_ca sa sv (d + 8) 204 [.ref N] m = some (.inl (some (.long (spd_ X.s X.q 10))), M1) ∧ gk_ M1 x = (1, 12) ∧ am_ca sa sv (d + 8) 291 [.ref x] M1 = some (.inl (some (.long (spd_ X.s X.q 10))), M2) ∧ ∀ r, r = some (.inl (some (.int (nI 1))), M2) → AO sa m sv N x B X r := by
  obtain ⟨M1, e1, j1, f1⟩ := h.clo (sa := sa) (d := d + 3) hl hB
  obtain ⟨M2, ow2, e2, w2, o2, x2⟩ := x291 (sa := sa) (d := d + 2) j1.ws h.wc h.ww hl.g h.xg.1.K (by have := h.bb; omega) j1.ks j1.ge j1.g0 (by have := hl.a; omega) (by have := hl.dd; omega) j1.s3.1
  have j2 := j1.wr x2 (fun a _ z => Nat.lt_trans z (by decide)) w2 o2
  refine ⟨M1, M2, e1, j1.ws.k, e2, fun r hr => AO.of j2 hr rfl rfl hn hl.close (hp.close h.wc) ?_ ?_⟩
  · show cN X.s 4 ≤ _
    omega
  · have x1 : Ex (fun _ => True) 0 0 m M1 := Ex.of f1 fun _ _ _ => trivial
    exact (x1.trans x2 (fun _ _ _ => trivial)).mono (fun _ _ _ => trivial) (by omega) (by omega)
end J8
