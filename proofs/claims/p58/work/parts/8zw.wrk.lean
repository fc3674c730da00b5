/-! the generator's work: its end -/
section G8
variable {sa sv d x b t w : Nat} {m m' : am_M} {ow : Nat → Nat} {s : Nat → Int32} {q : Nat → Int64} {l : List Int32}
/-- what a step of the generator leaves: rows that grew behind place k0 -/
def GP (sa : Nat) (m : am_M) (sv x b t : Nat) (ow : Nat → Nat) (s : Nat → Int32) (q : Nat → Int64) (l : List Int32) (k0 dt dl n z : Nat) (m' : am_M) : Prop := ∃ t' ow' s' l', GS sa m' sv x b t' ow' s' q l' ∧ GT l' s' q ∧ (∀ y, y < gt_ m → ow' y = ow y) ∧ (∀ y, gt_ m' ≤ y → 300 ≤ ow' y) ∧ t' ≤ t + dt ∧ l'.length ≤ l.length + dl ∧ (∀ k, k < k0 → s' k = s k) ∧ Ex (fun _ => True) n z m m'
theorem GP.refl (h : GS sa m sv x b t ow s q l) (hT : GT l s q) (h3 : ∀ y, gt_ m ≤ y → 300 ≤ ow y) (k0 dt dl n z : Nat) : GP sa m sv x b t ow s q l k0 dt dl n z m := ⟨t, ow, s, l, h, hT, fun _ _ => rfl, h3, by omega, by omega, fun _ _ => rfl, (Ex.refl _ _).mono (fun _ _ z => z) (Nat.zero_le _) (Nat.zero_le _)⟩
theorem x282_3 (h : GS sa m sv x b t ow s q l) (hT : GT l s q) (h3 : ∀ y, gt_ m ≤ y → 300 ≤ ow y) (hw : w < cN s 1) (hn : cN s (18 + 48 * w) = 1) (h0 : cN s (19 + 48 * w) = 0) (hnp : 1 ≤ cN s 0) (h2 : l.length + 70 ≤ 1000) (ht : t + 30 < 2 ^ 20) : ∃ m', gq_ (gk_ m x = (1, 12)) (am_ci (am_ca sa sv (d + 9) 276 [(.ref x), (.int (nI 3))] m) (fun v47 m46 => gb_ (v47 = 0) (gq_ (gk_ m46 x = (1, 12)) (am_c0 (am_ca sa sv (d + 9) 284 [(.ref x), (.ref b), (.int (nI w))] m46) (fun m48 => some (.inl none, m48)) am_xg)) (some (.inl none, m46))) am_xg) = some (.inl none, m') ∧ GP sa m sv x b t ow s q l 18 12 51 90 95000 m' := by
  obtain ⟨v, M1, hv, e1, G1, f1⟩ := h.next (sa := sa) (d := d + 6) (n := 3) (by omega) (by omega) (by omega)
  have g1 := f1.1.gt
  by_cases q0 : v = 0
  · obtain ⟨m', t', ow', s', l', r1, r2, r3, r4, r5, r6, r7, r8, r9⟩ := x284 (sa := sa) (d := d) G1 hT (fun y hy => h3 y (by omega)) hw hn h0 hnp h2 (by omega)
    refine ⟨m', ?_, t', ow', s', l', r2, r3, fun y hy => r4 y (by omega), r5, by omega, r7, r8, (f1.tr.trans r9 (fun _ _ z => z)).mono (fun _ _ z => z) (by omega) (by omega)⟩
    rw [gq_pos h.xn.1, e1, ci_v, gb_pos (by rw [q0]; rfl), gq_pos G1.xn.1, r1, c0_v]
  · refine ⟨M1, ?_, t + 1, ow, s, l, G1, hT, fun _ _ => rfl, fun y hy => h3 y (by omega), by omega, by omega, fun _ _ => rfl, f1.tr.mono (fun _ _ z => z) (by omega) (by omega)⟩
    rw [gq_pos h.xn.1, e1, ci_v, gb_neg (by rw [nI_eq0 (by omega)]; exact q0)]
theorem x282_t (h : GS sa m sv x b t ow s q l) (hT : GT l s q) (h3 : ∀ y, gt_ m ≤ y → 300 ≤ ow y) (hw : w < cN s 1) (hn : cN s (18 + 48 * w) = 1) (h0 : cN s (19 + 48 * w) = 0) (hn2 : cN s (59 + 48 * w) < 2) (hnp : 1 ≤ cN s 0) (h2 : l.length + 110 ≤ 1000) (ht : t + 40 < 2 ^ 20) : ∃ m', gb_ (nI w ≤ 0) (gq_ (gk_ m x = (1, 12)) (am_ci (am_ca sa sv (d + 9) 276 [(.ref x), (.int (nI 3))] m) (fun v47 m46 => gb_ (v47 = 0) (gq_ (gk_ m46 x = (1, 12)) (am_c0 (am_ca sa sv (d + 9) 284 [(.ref x), (.ref b), (.int (nI w))] m46) (fun m48 => some (.inl none, m48)) am_xg)) (some (.inl none, m46))) am_xg)) (gq_ (gk_ m x = (1, 12)) (am_ci (am_ca sa sv (d + 9) 276 [(.ref x), (.int (nI 2))] m) (fun v50 m49 => gb_ (v50 = 0) (gq_ (gk_ m49 x = (1, 12)) (am_c0 (am_ca sa sv (d + 9) 283 [(.ref x), (.ref b), (.int (nI w))] m49) (fun m54 => gq_ (gk_ m54 x = (1, 12)) (am_ci (am_ca sa sv (d + 9) 276 [(.ref x), (.int (nI 3))] m54) (fun v56 m55 => gb_ (v56 = 0) (gq_ (gk_ m55 x = (1, 12)) (am_c0 (am_ca sa sv (d + 9) 284 [(.ref x), (.ref b), (.int (nI w))] m55) (fun m57 => some (.inl none, m57)) am_xg)) (some (.inl none, m55))) am_xg)) am_xg)) (gq_ (gk_ m49 x = (1, 12)) (am_ci (am_ca sa sv (d + 9) 276 [(.ref x), (.int (nI 3))] m49) (fun v52 m51 => gb_ (v52 = 0) (gq_ (gk_ m51 x = (1, 12)) (am_c0 (am_ca sa sv (d + 9) 284 [(.ref x), (.ref b), (.int (nI w))] m51) (fun m53 => some (.inl none, m53)) am_xg)) (some (.inl none, m51))) am_xg))) am_xg)) = some (.inl none, m') ∧ GP sa m sv x b t ow s q l 18 16 73 150 150000 m' := by
  have hG1 := h.gl.1
  by_cases q0 : w = 0
  · obtain ⟨m', r1, t', ow', s', l', r2, r3, r4, r5, r6, r7, r8, r9⟩ := x282_3 (sa := sa) (d := d) h hT h3 hw hn h0 hnp (by omega) (by omega)
    refine ⟨m', ?_, t', ow', s', l', r2, r3, r4, r5, by omega, by omega, r8, r9.mono (fun _ _ z => z) (by omega) (by omega)⟩
    rw [gb_pos (by rw [q0]; decide)]
    exact r1
  · obtain ⟨v, M1, hv, e1, G1, f1⟩ := h.next (sa := sa) (d := d + 6) (n := 2) (by omega) (by omega) (by omega)
    have g1 := f1.1.gt
    rw [gb_neg (by rw [nI_le0 (by omega)]; exact q0), gq_pos h.xn.1, e1, ci_v]
    by_cases qv : v = 0
    · obtain ⟨M2, t2, ow2, s2, l2, u1, u2, u3, u4, u5, u6, u7, u8, u9⟩ := x283 (sa := sa) (d := d) G1 hT (fun y hy => h3 y (by omega)) hw (by omega) hn2 (by omega) (by omega)
      have c : ∀ k, k < 59 + 48 * w → cN s2 k = cN s k := fun k hk => cN_cg (u8 k hk)
      obtain ⟨m', r1, t', ow', s', l', r2, r3, r4, r5, r6, r7, r8, r9⟩ := x282_3 (sa := sa) (d := d) u2 u3 u5 (by rw [c _ (by omega)]; exact hw) (by rw [c _ (by omega)]; exact hn) (by rw [c _ (by omega)]; exact h0) (by rw [c _ (by omega)]; exact hnp) (by omega) (by omega)
      have g2 := u9.gt
      refine ⟨m', ?_, t', ow', s', l', r2, r3, fun y hy => (r4 y (by omega)).trans (u4 y (by omega)), r5, by omega, by omega, fun k hk => (r8 k hk).trans (u8 k (by omega)), ((f1.tr.trans u9 (fun _ _ z => z)).trans r9 (fun _ _ z => z)).mono (fun _ _ z => z) (by omega) (by omega)⟩
      rw [gb_pos (by rw [qv]; rfl), gq_pos G1.xn.1, u1, c0_v]
      exact r1
    · obtain ⟨m', r1, t', ow', s', l', r2, r3, r4, r5, r6, r7, r8, r9⟩ := x282_3 (sa := sa) (d := d) G1 hT (fun y hy => h3 y (by omega)) hw hn h0 hnp (by omega) (by omega)
      refine ⟨m', ?_, t', ow', s', l', r2, r3, fun y hy => r4 y (by omega), r5, by omega, by omega, r8, (f1.tr.trans r9 (fun _ _ z => z)).mono (fun _ _ z => z) (by omega) (by omega)⟩
      rw [gb_neg (by rw [nI_eq0 (by omega)]; exact qv)]
      exact r1
end G8
