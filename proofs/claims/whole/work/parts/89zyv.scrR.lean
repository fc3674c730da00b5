/-! runScript: the reference -/
def PSc (N a k : Nat) : Prop := (a = N + 243 ∧ (k = 0 ∨ (2 ≤ k ∧ k ≤ 14) ∨ k = 39 ∨ k = 40 ∨ k = 41)) ∨ a = N + 260 ∨ a = N + 261 ∨ a = N + 262
section R89
variable {sa sv d N B : Nat} {X : TX} {m m' : am_M}
theorem PSc.xf {a k : Nat} (h : PSc N a k) : XF N a k := by
  rcases h with h | h
  · exact XF.a243 h.1 (by omega)
  · exact XF.hi (by omega)
theorem PSc.g {a k : Nat} (h : PSc N a k) : XF N a k ∧ ¬ a = N + 244 ∧ ¬ a = N + 246 ∧ ¬ a = N + 247 ∧ ¬ a = N + 250 ∧ ¬ a = N + 251 ∧ ¬ a = N + 265 ∧ ¬ (a = N + 243 ∧ (k = 23 ∨ k = 24 ∨ k = 44 ∨ k = 45)) := by
  refine ⟨h.xf, ?_⟩
  unfold PSc at h
  omega
theorem PSc.k {a k : Nat} (h : PSc N a k) : KR N a k := ⟨by unfold PSc at h; omega, by unfold PSc at h; omega, h.xf⟩
theorem y353 (h : TR m N X) (hs : X.s = gi_ m (N + 245)) (hq : X.q = gl_ m (N + 249)) (hn : X.n ≤ 900) (hb : ∀ k, k < X.n → X.b k < 256) (hu5 : X.u ≤ 5) (hG : XG B X) (hB : B + 40 < 2 ^ 29) : match sFx X.s X.q X.b X.n 0 0 [] 0 with
    | .inl e => ∃ m', am_ca sa sv (d + 9) 353 [.ref (N + 243)] m = some (.inl (some (.int (nI 0))), m') ∧ Fr (KR N) m m' ∧ gi_ m' (N + 243) 0 = nI 1 ∧ TR m' N ((X.wB X.b 0).wE (nI e.1) (nI e.2.1) (nI e.2.2))
    | .inr C => ∀ l p' g, C = flL 2 l → RwL (RwI g X.s 2) 0 p' l → ∃ m', am_ca sa sv (d + 9) 353 [.ref (N + 243)] m = some (.inl (some (.int (nI (exL (exI 2) l (X.s, X.q, 0)).2.2.2))), m') ∧ Fr (KR N) m m' ∧ gi_ m' (N + 243) 0 = nI 0 ∧ TR m' N ((X157 X).rem.wS (exL (exI 2) l (X.s, X.q, 0)).2.1 (exL (exI 2) l (X.s, X.q, 0)).2.2.1) := by
  obtain ⟨T, hT⟩ := Tk_ex X.b X.n hn
  obtain ⟨m1, a1, a2, a3, a4⟩ := y243 (sa := sa) (sv := sv) (d := d + 5) h hn hb
  have f2 : Fr (fun a k => a = N + 243 ∧ (k = 39 ∨ k = 40 ∨ k = 41)) m1 (si_ (si_ (si_ m1 (N + 243) 39 (nI 0)) (N + 243) 40 (nI 0)) (N + 243) 41 (nI 0)) := (((Fr.refl _ _).si ⟨rfl, by omega⟩).si ⟨rfl, by omega⟩).si ⟨rfl, by omega⟩
  have q2 : RQ (si_ (si_ (si_ m1 (N + 243) 39 (nI 0)) (N + 243) 40 (nI 0)) (N + 243) 41 (nI 0)) N X.b X.n (.inr 0) := a3.y f2 (fun a k z => Or.inl z)
  have g39 : gi_ (si_ (si_ (si_ m1 (N + 243) 39 (nI 0)) (N + 243) 40 (nI 0)) (N + 243) 41 (nI 0)) (N + 243) 39 = nI 0 := by simp [gi_si]
  have g40 : gi_ (si_ (si_ (si_ m1 (N + 243) 39 (nI 0)) (N + 243) 40 (nI 0)) (N + 243) 41 (nI 0)) (N + 243) 40 = nI 0 := by simp [gi_si]
  have g41 : gi_ (si_ (si_ (si_ m1 (N + 243) 39 (nI 0)) (N + 243) 40 (nI 0)) (N + 243) 41 (nI 0)) (N + 243) 41 = nI 0 := by simp [gi_si]
  have fA : Fr (PSc N) m (si_ (si_ (si_ m1 (N + 243) 39 (nI 0)) (N + 243) 40 (nI 0)) (N + 243) 41 (nI 0)) := (a2.mono fun a k z => by unfold PSc; omega).trans (f2.mono fun a k z => by unfold PSc; omega)
  generalize hm2 : si_ (si_ (si_ m1 (N + 243) 39 (nI 0)) (N + 243) 40 (nI 0)) (N + 243) 41 (nI 0) = m2 at *
  have hR2 : RS m2 N X.s X.q := ⟨q2.1, by rw [hs]; exact funext fun k => fA.2.1 _ _ (by unfold PSc; omega), by rw [hq]; exact funext fun k => fA.2.2.1 _ _ (by unfold PSc; omega)⟩
  have c2 : CdR m2 N [] := ⟨g39, fun k x hx => by cases hx⟩
  obtain ⟨m3, o2, b1, b2, b3⟩ := y353_19 (sa := sa) (sv := sv) (d := d + 2) hG.1 hT T 0 0 0 [] m2 none (by omega) (Nat.zero_le _) q2 hR2 c2 (Nat.le_refl _) (by omega) (by omega) g40 g41 (fun z => absurd z.1 (Nat.lt_irrefl 0))
  have fB : Fr (PSc N) m m3 := fA.trans (b2.mono fun a k z => by unfold PRy RH at z; unfold PSc; omega)
  have g2 : gi_ m3 (N + 243) 2 = nI 0 := (b2.2.1 _ _ (by unfold PRy RH; omega)).trans ((f2.2.1 _ _ (by omega)).trans a4)
  have run : ∀ r, r353 sa sv (d + 8) 82 [some (.ref (N + 243)), o2] [] m3 = r → am_ca sa sv (d + 9) 353 [.ref (N + 243)] m = r := fun r hr => by
    rw [c353, b353_0]
    simp (disch := omega) only [gq_true, gb_true, gb_false, true_and, and_true, eq_self, not_false_eq_true, not_true_eq_false, true_or, or_true, false_or, or_false, false_and, and_false, c0_v, ci_v, cl_v, cf_v, pk_mul, nI_add, nI_clamp, nI_lt0, nI_0le, nI_eq0, nI_lt0r, nI_ltE, nI_leE, nI_eqE, nI_m1, in_t, ba0, ba1, Nat.one_ne_zero, Nat.reduceEqDiff, Nat.reduceLeDiff, Nat.add_eq_zero_iff, xk243 h.x, a1, xk243 a3.1, hm2]
    exact b1.trans hr
  have eI : ∀ {z : Er ⊕ List Ins}, ScO X.n 0 X.b m3 z → True := fun _ => trivial
  cases z : sFx X.s X.q X.b X.n 0 0 [] 0 with
  | inl e =>
    rw [z] at b3
    rcases b3 with ⟨e', e1, e2⟩ | ⟨C, j, e1, -⟩
    · have ee : e = e' := Sum.inl.inj e1
      subst ee
      have g := y244 (sa := sa) (sv := sv) (d := d + 5) e2
      have g' : am_ca sa sv (d + 8) 244 [.ref (N + 243)] m3 = some (.inl (some (.int (nI 0))), si_ (m244 m3 N (nI e.1) (nI e.2.1) (nI e.2.2)) (N + 243) 0 (nI 1)) := g
      have f6 : Fr (fun a k => a = N + 243 ∧ (k = 0 ∨ (11 ≤ k ∧ k ≤ 13))) m3 (si_ (m244 m3 N (nI e.1) (nI e.2.1) (nI e.2.2)) (N + 243) 0 (nI 1)) := Fr.si ((m244_fr _ _ _ _ _).mono fun a k z => ⟨z.1, Or.inr z.2⟩) ⟨rfl, Or.inl rfl⟩
      have fC : Fr (PSc N) m (si_ (m244 m3 N (nI e.1) (nI e.2.1) (nI e.2.2)) (N + 243) 0 (nI 1)) := fB.trans (f6.mono fun a k z => by unfold PSc; omega)
      refine ⟨_, run _ ?_, fC.mono fun a k z => z.k, if_pos ⟨rfl, rfl⟩, TR.gen h fC (fun a k z => z.g) _ (fun k hk => (fC.2.1 _ _ (by unfold PSc; omega)).trans (h.s k hk)) (fun k hk => (fC.2.2.1 _ _ (by unfold PSc; omega)).trans (h.q k hk)) ((f6.2.1 _ _ (by omega)).trans g2) (Nat.zero_le _) rfl ?_ ?_ ?_ rfl rfl rfl rfl rfl rfl rfl rfl⟩
      · rw [b353_82]
        simp (disch := omega) only [gq_true, gb_true, gb_false, true_and, and_true, eq_self, not_false_eq_true, not_true_eq_false, true_or, or_true, false_or, or_false, false_and, and_false, c0_v, ci_v, cl_v, cf_v, pk_mul, nI_add, nI_clamp, nI_lt0, nI_0le, nI_eq0, nI_lt0r, nI_ltE, nI_leE, nI_eqE, nI_m1, in_t, ba0, ba1, Nat.one_ne_zero, Nat.reduceEqDiff, Nat.reduceLeDiff, Nat.add_eq_zero_iff, xk243 e2.1, g']
      · simp [gi_si, m244]
        rfl
      · simp [gi_si, m244]
        rfl
      · simp [gi_si, m244]
        rfl
    · cases e1
  | inr C =>
    rw [z] at b3
    intro l p' gg hC hr
    rcases b3 with ⟨e', e1, e2⟩ | ⟨C', j, e1, e2, e3, e4⟩
    · cases e1
    · have ee : C = C' := Sum.inr.inj e1
      subst ee
      have g := y244 (sa := sa) (sv := sv) (d := d + 5) e2
      have g' : am_ca sa sv (d + 8) 244 [.ref (N + 243)] m3 = some (.inl (some (.int (nI 1))), si_ (m244 m3 N (nI 0) (-1) (nI 0)) (N + 243) 0 (nI 0)) := g
      have f6 : Fr (fun a k => a = N + 243 ∧ 11 ≤ k ∧ k ≤ 13) m3 (m244 m3 N (nI 0) (-1) (nI 0)) := m244_fr _ _ _ _ _
      have fC : Fr (PSc N) m (m244 m3 N (nI 0) (-1) (nI 0)) := fB.trans (f6.mono fun a k z => by unfold PSc; omega)
      have hT6 : TR (m244 m3 N (nI 0) (-1) (nI 0)) N (X157 X) := TR.gen h fC (fun a k z => z.g) _ (fun k hk => (fC.2.1 _ _ (by unfold PSc; omega)).trans (h.s k hk)) (fun k hk => (fC.2.2.1 _ _ (by unfold PSc; omega)).trans (h.q k hk)) ((f6.2.1 _ _ (by omega)).trans g2) (Nat.zero_le _) rfl (by simp [gi_si, m244]; rfl) (by simp [gi_si, m244]; rfl) (by simp [gi_si, m244]; rfl) rfl rfl rfl rfl rfl rfl rfl rfl
      have hs6 : (X157 X).s = gi_ (m244 m3 N (nI 0) (-1) (nI 0)) (N + 245) := hs.trans (funext fun k => ((fC.2.1 _ _ (by unfold PSc; omega)) : gi_ _ (N + 245) k = gi_ m (N + 245) k).symm)
      have hq6 : (X157 X).q = gl_ (m244 m3 N (nI 0) (-1) (nI 0)) (N + 249) := hq.trans (funext fun k => ((fC.2.2.1 _ _ (by unfold PSc; omega)) : gl_ _ (N + 249) k = gl_ m (N + 249) k).symm)
      have c6 : CdR (m244 m3 N (nI 0) (-1) (nI 0)) N C := e3.fr f6 (fun a k z => ⟨by omega, by omega, by omega, by omega⟩)
      obtain ⟨m4, k1, k2, k3, k4⟩ := tr_chg (sa := sa) (sv := sv) (d := d + 7) hT6 hs6 hq6 (nI 0) hu5
      have f0 : Fr (fun a k => a = N + 243 ∧ k = 0) (m244 m3 N (nI 0) (-1) (nI 0)) (si_ (m244 m3 N (nI 0) (-1) (nI 0)) (N + 243) 0 (nI 0)) := (Fr.refl _ _).si ⟨rfl, rfl⟩
      have hX0 := hT6.x.frg f0 (fun a k z => XF.a243 z.1 (by omega))
      obtain ⟨m4', w1, w2, -, -⟩ := y249 (sa := sa) (sv := sv) (d := d + 7) hX0
      have em : m4' = m4 := by
        rw [k1] at w1
        exact (congrArg (fun r => r.2) (Option.some.inj w1)).symm
      rw [em] at w2
      have c4 : CdR m4 N C := (c6.fr f0 (fun a k z => ⟨by omega, by omega, by omega, by omega⟩)).fr w2 (fun a k z => ⟨by omega, by omega, by omega, by omega⟩)
      have hY : YY m4 N B X.s C (X.s, X.q, 0) := ⟨k2, ⟨hG.1, Nat.zero_le _, rfl, rfl⟩, c4, e4, k3⟩
      have out := ReL_of (ReI_k (sa := sa) (sv := sv) (d := d) (N := N) (s := X.s) (g := gg) hB 2 (Nat.le_refl _)) l C [] [] 0 p' 0 m4 (X.s, X.q, 0) none hr (by rw [hC, List.nil_append, List.append_nil]) (by omega) hY
      have fin : ∃ m5, am_ca sa sv (d + 8) 354 [.ref (N + 243)] m4 = some (.inl (some (.int (nI (exL (exI 2) l (X.s, X.q, 0)).2.2.2))), m5) ∧ Fr (PZr N) m4 m5 ∧ YY m5 N B X.s C (exL (exI 2) l (X.s, X.q, 0)).2 := by
        have e0 : am_ca sa sv (d + 8) 354 [.ref (N + 243)] m4 = rst sa sv (d + 7) N (X.s, X.q, 0) 0 ([] : List Ins).length m4 none := by
          rw [c354, b354_0]
          rfl
        rcases out with ⟨m5, o5, -, u2, u3, u4, -⟩ | ⟨m5, -, u2, u3, u4⟩
        · refine ⟨m5, ?_, u3, u4⟩
          have hlen : ([] : List Ins).length + (flL 2 l).length = C.length := by rw [hC]; exact Nat.zero_add _
          rw [hlen] at u2
          rw [e0, u2, rst_end u4]
        · exact ⟨m5, e0.trans u2, u3, u4⟩
      obtain ⟨m5, v1, v2, v3⟩ := fin
      obtain ⟨m6, y1, y2, y3, y4, -⟩ := k4 v2 (fun a k z => by unfold PZr PYr RXB RX RB at z; unfold PT; omega) (fun a k z => by unfold PZr PYr RXB RX RB at z; omega) v3.1 v3.2.2.2.2
      refine ⟨m6, run _ ?_, (fC.mono fun a k z => z.k).trans y2, y3, y4⟩
      rw [b353_82]
      simp (disch := omega) only [gq_true, gb_true, gb_false, true_and, and_true, eq_self, not_false_eq_true, not_true_eq_false, true_or, or_true, false_or, or_false, false_and, and_false, c0_v, ci_v, cl_v, cf_v, pk_mul, nI_add, nI_clamp, nI_lt0, nI_0le, nI_eq0, nI_lt0r, nI_ltE, nI_leE, nI_eqE, nI_m1, in_t, ba0, ba1, Nat.one_ne_zero, Nat.reduceEqDiff, Nat.reduceLeDiff, Nat.add_eq_zero_iff, xk243 e2.1, g', gk_siF, xk243 hT6.x]
      rw [k1, c0_v]
      simp (disch := omega) only [gq_true, gb_true, gb_false, true_and, and_true, eq_self, not_false_eq_true, not_true_eq_false, true_or, or_true, false_or, or_false, false_and, and_false, c0_v, ci_v, cl_v, cf_v, pk_mul, nI_add, nI_clamp, nI_lt0, nI_0le, nI_eq0, nI_lt0r, nI_ltE, nI_leE, nI_eqE, nI_m1, in_t, ba0, ba1, Nat.one_ne_zero, Nat.reduceEqDiff, Nat.reduceLeDiff, Nat.add_eq_zero_iff, xk243 k2.1, v1, xk243 v3.1.1, y1]
end R89
