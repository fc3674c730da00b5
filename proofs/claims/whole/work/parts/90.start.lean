/-! the law's own run, from its start -/
def am_m0 (N0 b L : Nat) (xs : Nat → Int32) (sv : Nat) : am_M := ((fun a => if a = b then (7, L) else if a = sv then (9, tx_.length) else (0, 0)), (fun a j => if a = b then xs j else if a = sv then tx_.getD j 0 else 0), fun _ _ => 0, fun _ _ => 0, fun _ _ => 0, (N0, 0, 0, true))
theorem am_law_run (N0 b L : Nat) (xs : Nat → Int32) (sa sv : Nat) (hL : L ≤ 3072) (hb : b < N0) (hv : sv < N0) (hbv : ¬ b = sv) : ∃ m', am_rn sa sv (am_ca sa sv 20) (am_hd 411) (am_cd 411) 0 (am_en 9 [.ref b]) [] (am_m0 N0 b L xs sv) = some (.inl (some (.int 1)), m') ∧ gc_ m' ≤ 601024 ∧ gs_ m' ≤ 7293034 := by
  have hN : 0 < N0 := by omega
  have hT : TXm (am_m0 N0 b L xs sv) sv := ⟨(if_neg (fun z => hbv z.symm)).trans (if_pos rfl), fun j _ => (if_neg (fun z => hbv z.symm)).trans (if_pos rfl)⟩
  have e0 : gt_ (am_m0 N0 b L xs sv) = N0 := rfl
  have c0 : gc_ (am_m0 N0 b L xs sv) = 0 := rfl
  have s0 : gs_ (am_m0 N0 b L xs sv) = 0 := rfl
  have g0 : ge_ (am_m0 N0 b L xs sv) = true := rfl
  have kb : gk_ (am_m0 N0 b L xs sv) b = (7, L) := if_pos rfl
  show ∃ m', r411 sa sv 20 0 [some (.ref b), none, none, none, none, none, none, none, none] [] (am_m0 N0 b L xs sv) = some (.inl (some (.int 1)), m') ∧ gc_ m' ≤ 601024 ∧ gs_ m' ≤ 7293034
  generalize am_m0 N0 b L xs sv = m0 at *
  subst e0
  obtain ⟨m1, W, q1, b1, w1⟩ := n150 (sa := sa) (sv := sv) (d := 16) g0 hN hT hv
  have t1 : gt_ m1 = gt_ m0 + 243 := b1.gt
  obtain ⟨m2, q2, b2⟩ := n220 (sa := sa) (sv := sv) (d := 18) b1.ge (by omega)
  have b3 := b1.app (b1.at b2)
  have l2 : (ck_ ++ zrk_).length = 266 := by decide +kernel
  have t2 : gt_ m2 = gt_ m0 + 266 := by rw [b3.gt, l2]
  have e1 : (nI 1).toNatClampNeg = 1 := nI_clamp (by omega)
  have b4 := ((b3.nw (4, 1) 1).nw (5, 1) 1).to (ks' := fk_) (rs' := fr_) (ws' := fw_) (z' := 36929) rfl (by decide +kernel) (by decide +kernel) (by decide +kernel)
  have hS : LZ (gt_ m0) b L 268 36929 0 (al_ (al_ m2 (4, 1) 1) (5, 1) 1) Xz0 := by
    obtain ⟨d1, d2, d3, d4⟩ := b4.2.2.2.1
    have l : fk_.length = 268 := fk_len
    exact ⟨hN, hb, hL, b4.fTC w1, b4.fTR, XG_0, (b4.2.2.1 b hb).1.trans kb, by omega, by omega⟩
  rw [b411_0, gq_pos g0, q1, c0_v, gq_pos b1.ge, q2, c0_v, e1, gq_pos ⟨by decide, by omega, b3.ge⟩, gq_pos ⟨by decide, by omega, b3.ge⟩, t1, show gt_ (al_ m2 (4, 1) 1) = gt_ m2 + 1 from rfl, t2]
  obtain ⟨m', r1, r2, r3⟩ := law_loop (sa := sa) (sv := sv) 512 0 _ Xz0 none none none hS (by omega) (by omega)
  exact ⟨m', r1, by omega, by omega⟩
