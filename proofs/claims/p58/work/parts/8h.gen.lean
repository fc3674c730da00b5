/-! what the generator's steps stand on -/
theorem and31 (y : Int32) : y &&& nI 2147483647 = nI (y.toBitVec.toNat % 2147483648) := by
  apply Int32.toBitVec_inj.mp
  apply BitVec.eq_of_toNat_eq
  have h1 : (y &&& nI 2147483647).toBitVec.toNat = y.toBitVec.toNat &&& 2147483647 := rfl
  have h2 : (nI (y.toBitVec.toNat % 2147483648)).toBitVec.toNat = y.toBitVec.toNat % 2147483648 % 2 ^ 32 := rfl
  rw [h1, h2, Nat.mod_eq_of_lt (a := y.toBitVec.toNat % 2147483648) (by omega)]
  exact Nat.and_two_pow_sub_one_eq_mod _ 31
/-- the constants -/
def KS (sa : Nat) (m : am_M) (sv : Nat) : Prop := sv < gt_ m ∧ gk_ m sv = (0, 0) ∧ (∀ i, i < 28 → gr_ m sv i < gt_ m ∧ gk_ m (gr_ m sv i) = (8, 0) ∧ gi_ m (gr_ m sv i) 1 = 0 ∧ gr_ m (gr_ m sv i) 0 < gt_ m ∧ gk_ m (gr_ m (gr_ m sv i) 0) = (9, (kb_ i).length) ∧ ∀ j, j < (kb_ i).length → gi_ m (gr_ m (gr_ m sv i) 0) j = (kb_ i).getD j 0) ∧ (∀ i, i < 2 → gr_ m sv (41 + i) < gt_ m ∧ gk_ m (gr_ m sv (41 + i)) = (9, 100) ∧ (∀ j, j < 100 → gi_ m (gr_ m sv (41 + i)) j = (kb_ (28 + i)).getD j 0) ∧ gr_ m sv 0 = sa) ∧ gr_ m sv 40 < gt_ m ∧ gk_ m (gr_ m sv 40) = (13, 0)
theorem kb_asc : ∀ i, i < 28 → ∀ c, c ∈ kb_ i → ∃ k, k < 128 ∧ c = nI k := by
  have h : ∀ i, i < 28 → (kb_ i).all (fun c => decide (c.toBitVec.toNat < 128)) = true := by decide +kernel
  intro i hi c hc
  have h2 := of_decide_eq_true (List.all_eq_true.mp (h i hi) c hc)
  refine ⟨c.toBitVec.toNat, h2, ?_⟩
  apply Int32.toBitVec_inj.mp
  apply BitVec.eq_of_toNat_eq
  show _ = c.toBitVec.toNat % 2 ^ 32
  omega
theorem kb_len : ∀ i, i < 28 → (kb_ i).length < 200 := by decide +kernel
theorem kb_t1 : ∀ j, j < 100 → (kb_ 28).getD j 0 = c0_ (j % 10) := by decide +kernel
theorem kb_t2 : ∀ j, j < 100 → (kb_ 29).getD j 0 = c0_ (j / 10) := by decide +kernel
section G8
variable {sa sv d b c n z : Nat} {m m1 m2 : am_M} {l w : List Int32} {P : Nat → Prop}
/-- none of these is a constant -/
def NK (m : am_M) (P : Nat → Prop) : Prop := ∀ a, a < gt_ m → P a → ¬ (gk_ m a).1 = 0 ∧ ¬ (gk_ m a).1 = 8 ∧ ¬ (gk_ m a).1 = 9
theorem KS.ex (h : KS sa m sv) (e : Ex P n z m m1) (hp : NK m P) : KS sa m1 sv := by
  obtain ⟨h1, h2, h3, h4, h5, h6⟩ := h
  have g := e.gt
  have nsv : ¬ P sv := fun q => (hp sv h1 q).1 (by rw [h2])
  have rs : gr_ m1 sv = gr_ m sv := e.r h1 nsv
  refine ⟨by omega, by rw [e.k h1, h2], fun i hi => ?_, fun i hi => ?_, by rw [rs]; omega, by rw [rs, e.k h5, h6]⟩
  · obtain ⟨a1, a2, a3, a4, a5, a6⟩ := h3 i hi
    have n1 : ¬ P (gr_ m sv i) := fun q => (hp _ a1 q).2.1 (by rw [a2])
    have n2 : ¬ P (gr_ m (gr_ m sv i) 0) := fun q => (hp _ a4 q).2.2 (by rw [a5])
    rw [rs, e.k a1, e.i a1 n1, e.r a1 n1, e.k a4, e.i a4 n2]
    exact ⟨by omega, a2, a3, by omega, a5, a6⟩
  · obtain ⟨a1, a2, a3⟩ := h4 i hi
    have n1 : ¬ P (gr_ m sv (41 + i)) := fun q => (hp _ a1 q).2.2 (by rw [a2])
    rw [rs, e.k a1, e.i a1 n1]
    exact ⟨by omega, a2, a3⟩
theorem KS.str (h : KS sa m sv) {i : Nat} (hi : i < 28) : SV m (gr_ m sv i) (kb_ i) := by
  obtain ⟨a1, a2, a3, a4, a5, a6⟩ := h.2.2.1 i hi
  exact ⟨.inr (by rw [a2]), a3, .inr (by rw [a5]), by rw [a5], a6, by have := kb_len i hi; omega, kb_asc i hi⟩
theorem KS.dt (h : KS sa m sv) : DT m sv := by
  obtain ⟨a1, a2, a3⟩ := h.2.2.2.1 0 (by omega)
  obtain ⟨b1, b2, b3⟩ := h.2.2.2.1 1 (by omega)
  exact ⟨a2, b2, fun j hj => (a3.1 j hj).trans (kb_t1 j hj), fun j hj => (b3.1 j hj).trans (kb_t2 j hj)⟩
theorem SBc.nk (h : SBc m b c l) : NK m (SBp m b) := fun a ha q => by
  have h1 := h.1
  have h2 := h.2.2.2.1
  rcases q with q | q
  · rw [q, h1]
    exact ⟨by show ¬ 1 = 0; decide, by show ¬ 1 = 8; decide, by show ¬ 1 = 9; decide⟩
  · rw [q, h2]
    exact ⟨by show ¬ 3 = 0; decide, by show ¬ 3 = 8; decide, by show ¬ 3 = 9; decide⟩
theorem NoP.nk : NK m NoP := fun _ _ q => absurd q id
theorem KS.eb (h : KS sa m sv) (hb : SBv m b l) (e : Eb b n z m m1) : KS sa m1 sv := h.ex e.1 hb.choose_spec.nk
theorem st_c (hK : KS sa m sv) (h : SBv m b l) {i : Nat} (hi : i < 28) (h2 : l.length + (kb_ i).length ≤ 1000) : ∃ m', am_ca sa sv (d + 5) 221 [.ref b, .ref (gr_ m sv i)] m = some (.inl (some (.ref b)), m') ∧ KS sa m' sv ∧ SBv m' b (l ++ kb_ i) ∧ Eb b 1 2002 m m' := by
  obtain ⟨a1, a2, a3, a4, a5, a6⟩ := hK.2.2.1 i hi
  obtain ⟨c, hc⟩ := h
  have k1 := hc.1
  have k2 := hc.2.2.2.1
  have ne : ∀ {x y : Nat} {k k' : Nat × Nat}, gk_ m x = k → gk_ m y = k' → ¬ k.1 = k'.1 → ¬ x = y := fun e1 e2 e3 z => e3 (by rw [← e1, ← e2, z])
  obtain ⟨m1, e1, b1, x1⟩ := x221 (sa := sa) (sv := sv) (d := d) ⟨c, hc⟩ (hK.str hi) a1 a4 (ne a5 k2 (by show ¬ 9 = 3; decide)) (ne a2 k1 (by show ¬ 8 = 1; decide)) (ne a5 k1 (by show ¬ 9 = 1; decide)) (ne a2 k2 (by show ¬ 8 = 3; decide)) h2
  exact ⟨m1, e1, hK.eb ⟨c, hc⟩ x1, b1, x1⟩
theorem st_n (hK : KS sa m sv) (h : SBv m b l) {n : Nat} (hn : n < 10000) (h2 : l.length + (dg_ n).length ≤ 1000) : ∃ m', am_ca sa sv (d + 5) 223 [.ref b, .int (nI n)] m = some (.inl (some (.ref b)), m') ∧ KS sa m' sv ∧ SBv m' b (l ++ dg_ n) ∧ Eb b 1 2002 m m' := by
  obtain ⟨m1, e1, b1, x1⟩ := x223 (sa := sa) (sv := sv) (d := d) h hK.dt ⟨(hK.2.2.2.1 0 (by omega)).1, (hK.2.2.2.1 1 (by omega)).1, hK.1⟩ hn hK.2.1 h2
  exact ⟨m1, e1, hK.eb h x1, b1, x1⟩
/-- a name: p or w and a letter -/
def nm_ (k p : Nat) : List Int32 := kb_ k ++ [nI (97 + p)]
theorem nm_len {k p : Nat} (hk : k = 9 ∨ k = 10) : (nm_ k p).length = 2 := by
  rcases hk with rfl | rfl <;> rfl
theorem SBv.no (h : SBv m b l) (e : Ex NoP n z m m1) : SBv m1 b l := by
  obtain ⟨c, h1, h3, h4, h5, h6, h7, h8, h9, h10, h11, h12, h13⟩ := h
  have no : ∀ a, ¬ NoP a := fun _ z => z
  have g := e.gt
  have rb : gr_ m1 b = gr_ m b := e.r h11 (no _)
  exact ⟨c, (e.k h11).trans h1, (congrFun (e.i h11 (no _)) 1).trans h3, by rw [rb]; exact h4, by rw [rb, e.k h12]; exact h5, h6, h7, (congrFun (e.i h11 (no _)) 3).trans h8, fun j hj => by rw [rb, e.i h12 (no _)]; exact h9 j hj, h10, by omega, by rw [rb]; omega, (e.ge).trans h13⟩
/-- the core of payee(p) and work(w) -/
theorem nm_core (hK : KS sa m sv) (hg : ge_ m = true) {k p : Nat} (hk : k = 9 ∨ k = 10) (hp : p < 26) : ∃ m1 m2 m3 m4 t, am_ca sa sv (d + 6) 220 [.ref (gt_ m)] (al_ m (1, 13) 4) = some (.inl none, m1) ∧ gk_ m1 (gt_ m) = (1, 13) ∧ am_ca sa sv (d + 6) 221 [.ref (gt_ m), .ref (gr_ m1 sv k)] m1 = some (.inl (some (.ref (gt_ m))), m2) ∧ gk_ m2 (gt_ m) = (1, 13) ∧ am_ca sa sv (d + 6) 222 [.ref (gt_ m), .int (nI (97 + p))] m2 = some (.inl (some (.ref (gt_ m))), m3) ∧ gk_ m3 (gt_ m) = (1, 13) ∧ am_ca sa sv (d + 6) 224 [.ref (gt_ m)] m3 = some (.inl (some (.ref t)), m4) ∧ KS sa m4 sv ∧ SV m4 t (nm_ k p) ∧ Ex NoP 6 6000 m m4 ∧ gt_ m ≤ t ∧ t < gr_ m4 t 0 ∧ gr_ m4 t 0 < gt_ m4 ∧ gk_ m4 t = (1, 14) := by
  have hk' : k < 28 := by omega
  have hl : (kb_ k).length = 1 := by rcases hk with rfl | rfl <;> rfl
  have kz : ∀ {M : am_M} {a : Nat} {w : List Int32}, SBv M a w → gk_ M a = (1, 13) := fun h => h.choose_spec.1
  obtain ⟨m1, e1, b1, x1, r1⟩ := x220 (sa := sa) (sv := sv) (d := d + 4) (m := m) (z := 4) hg
  have K1 := hK.ex x1 NoP.nk
  obtain ⟨m2, e2, K2, b2, x2⟩ := st_c (sa := sa) (d := d + 1) K1 b1 hk' (by rw [hl]; show 0 + 1 ≤ 1000; omega)
  obtain ⟨m3, e3, b3, x3⟩ := x222 (sa := sa) (sv := sv) (d := d + 1) b2 (show 97 + p < 128 by omega) (by rw [List.length_append, hl]; show 0 + 1 + 1 ≤ 1000; omega)
  have K3 := K2.eb b2 x3
  obtain ⟨m4, e4, s4, b4, x4, r4, r5, k4, _⟩ := x224 (sa := sa) (sv := sv) (d := d) b3 (by rw [List.length_append, List.length_append, hl]; show 0 + 1 + 1 ≤ 1000; omega)
  have g1 := x1.gt
  have g2 := x2.1.gt
  have g3 := x3.1.gt
  have hn : ∀ a, a < gt_ m → ¬ SBp m1 (gt_ m) a := fun a ha q => by
    unfold SBp at q
    omega
  have hn2 : ∀ a, a < gt_ m → ¬ SBp m2 (gt_ m) a := fun a ha q => by
    unfold SBp at q
    rcases x2.2 with y | y <;> omega
  have f1 : Ex NoP (2 + 1) (4 + 16 + 2002) m m2 := x1.trans x2.1 (fun a ha q => hn a ha q)
  have f2 : Ex NoP (2 + 1 + 1) (4 + 16 + 2002 + 2002) m m3 := f1.trans x3.1 (fun a ha q => hn2 a ha q)
  have f3 : Ex NoP (2 + 1 + 1 + 2) (4 + 16 + 2002 + 2002 + 1004) m m4 := f2.trans x4 (fun a ha q => q)
  exact ⟨m1, m2, m3, m4, gt_ m3, e1, kz b1, e2, kz b2, e3, kz b3, e4, K3.ex x4 NoP.nk, s4, f3.mono (fun _ _ q => q) (by omega) (by omega), by omega, r4, r5, k4⟩
theorem chr_ {p : Nat} (hp : p < 26) : ((nI 97 + nI p)).toUInt32.toUInt16.toUInt32.toInt32 = nI (97 + p) := by
  rw [nI_add]
  exact (ch_f (97 + p) (by omega)).2.1
theorem x278 (hK : KS sa m sv) (hg : ge_ m = true) {p : Nat} (hp : p < 26) : ∃ m4 t, am_ca sa sv (d + 7) 278 [.int (nI p)] m = some (.inl (some (.ref t)), m4) ∧ KS sa m4 sv ∧ SV m4 t (nm_ 9 p) ∧ Ex NoP 6 6000 m m4 ∧ gt_ m ≤ t ∧ t < gr_ m4 t 0 ∧ gr_ m4 t 0 < gt_ m4 ∧ gk_ m4 t = (1, 14) := by
  obtain ⟨m1, m2, m3, m4, t, e1, k1, e2, k2, e3, k3, e4, r⟩ := nm_core (sa := sa) (d := d) hK hg (k := 9) (.inl rfl) hp
  exact ⟨m4, t, by rw [c278, b278_0, gq_pos hg, e1, c0_v, gq_pos k1, e2, cr_v, gq_pos k2, chr_ hp, e3, cr_v, gq_pos k3, e4, cr_v], r⟩
theorem x279 (hK : KS sa m sv) (hg : ge_ m = true) {p : Nat} (hp : p < 26) : ∃ m4 t, am_ca sa sv (d + 7) 279 [.int (nI p)] m = some (.inl (some (.ref t)), m4) ∧ KS sa m4 sv ∧ SV m4 t (nm_ 10 p) ∧ Ex NoP 6 6000 m m4 ∧ gt_ m ≤ t ∧ t < gr_ m4 t 0 ∧ gr_ m4 t 0 < gt_ m4 ∧ gk_ m4 t = (1, 14) := by
  obtain ⟨m1, m2, m3, m4, t, e1, k1, e2, k2, e3, k3, e4, r⟩ := nm_core (sa := sa) (d := d) hK hg (k := 10) (.inr rfl) hp
  exact ⟨m4, t, by rw [c279, b279_0, gq_pos hg, e1, c0_v, gq_pos k1, e2, cr_v, gq_pos k2, chr_ hp, e3, cr_v, gq_pos k3, e4, cr_v], r⟩
end G8
