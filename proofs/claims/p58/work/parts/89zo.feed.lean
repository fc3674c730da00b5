/-! bytes are fed and cut -/
def byt (x l : Int32) : Nat := (x >>> (l &&& 31)).toBitVec.toNat % 256
def putb (b : Nat → Nat) (n c k : Nat) : Nat := if k = n then c else b k
def fourB (b : Nat → Nat) (n : Nat) (x : Int32) : Nat → Nat := putb (putb (putb (putb b n (byt x (nI 24))) (n + 1) (byt x (nI 16))) (n + 2) (byt x (nI 8))) (n + 3) (byt x (nI 0))
theorem byt_lt (x l : Int32) : byt x l < 256 := Nat.mod_lt _ (by decide)
theorem and255 (y : Int32) : y &&& nI 255 = nI (y.toBitVec.toNat % 256) := by
  apply Int32.toBitVec_inj.mp
  apply BitVec.eq_of_toNat_eq
  have h1 : (y &&& nI 255).toBitVec.toNat = y.toBitVec.toNat &&& 255 := rfl
  have h2 : (nI (y.toBitVec.toNat % 256)).toBitVec.toNat = y.toBitVec.toNat % 256 % 2 ^ 32 := rfl
  rw [h1, h2, Nat.mod_eq_of_lt (a := y.toBitVec.toNat % 256) (by omega)]
  exact Nat.and_two_pow_sub_one_eq_mod _ 8
theorem i8_eq (y : Int32) : y.toInt8 = (nI (y.toBitVec.toNat % 256)).toInt8 := by
  apply Int8.toInt_inj.mp
  rw [Int32.toInt_toInt8, Int32.toInt_toInt8, nI_toInt (by omega)]
  have : y.toInt = (y.toBitVec.toNat : Int).bmod (2 ^ 32) := BitVec.toInt_eq_toNat_bmod _
  rw [this, Int.bmod_bmod_of_dvd (by decide), Int.natCast_emod]
  exact (Int.emod_bmod _ 256).symm
theorem i8_sb (y : Int32) : y.toInt8.toInt32.toInt8.toInt32 = sb (y.toBitVec.toNat % 256) := by
  unfold sb
  rw [Int8.toInt8_toInt32, i8_eq]
section I89
variable {sa sv d N n B : Nat} {X : TX} {m m' : am_M} {b : Nat → Nat}
def PFd (N a k : Nat) : Prop := a = N + 1 ∨ (a = N ∧ k = 1)
def BYc (m : am_M) (N : Nat) (b : Nat → Nat) (n : Nat) : Prop := (∀ k, k < n → b k < 256 ∧ gi_ m (N + 1) k = sb (b k)) ∧ gi_ m N 1 = nI n
theorem PFd.x {a k : Nat} (h : PFd N a k) : XF N a k := by
  rcases h with h | h
  · exact ⟨by omega, Or.inr (Or.inr (Or.inr (Or.inr (Or.inl (by omega)))))⟩
  · exact XF.a0 h.1 (by omega)
theorem x152_3 (hX : XS m N) (h : BYc m N b n) (hn : n < 900) (x l : Int32) (hl : ¬ l < 0) : ∃ m', r152 sa sv d 3 [some (.ref N), some (.int x), some (.int l)] [] m = r152 sa sv d 3 [some (.ref N), some (.int x), some (.int (l + -8))] [] m' ∧ Fr (PFd N) m m' ∧ XS m' N ∧ BYc m' N (putb b n (byt x l)) (n + 1) := by
  have f : Fr (PFd N) m (si_ (si_ m (N + 1) n (sb (byt x l))) N 1 (nI (n + 1))) := ((Fr.refl _ _).si (Or.inl rfl)).si (Or.inr ⟨rfl, rfl⟩)
  have e1 : gi_ (si_ m (N + 1) n (sb (byt x l))) N 1 = nI n := (if_neg (by omega)).trans h.2
  have e2 : (x >>> (l &&& 31)).toInt8.toInt32.toInt8.toInt32 = sb (byt x l) := i8_sb _
  refine ⟨_, ?_, f, hX.frg f (fun a k z => z.x), fun k hk => ?_, if_pos ⟨rfl, rfl⟩⟩
  · rw [b152_3, gb_neg hl]
    simp (disch := omega) only [gq_true, gb_true, gb_false, true_and, and_true, eq_self, not_false_eq_true, not_true_eq_false, true_or, or_true, false_or, or_false, false_and, and_false, c0_v, ci_v, cl_v, cf_v, pk_mul, nI_add, nI_clamp, nI_lt0, nI_0le, nI_eq0, nI_lt0r, nI_ltE, nI_leE, nI_eqE, nI_m1, in_t, ba0, ba1, Nat.one_ne_zero, Nat.reduceEqDiff, Nat.reduceLeDiff, Nat.add_eq_zero_iff, xk0 hX, xr0_0 hX, xk1 hX, h.2, eq_false (show ¬ N + 1 = 0 by omega), eq_false (show ¬ 900 ≤ n by omega), e2, e1]
  · have e3 : gi_ (si_ (si_ m (N + 1) n (sb (byt x l))) N 1 (nI (n + 1))) (N + 1) k = if k = n then sb (byt x l) else gi_ m (N + 1) k := by
      rw [gi_si, if_neg (by omega), gi_si]
      by_cases e : k = n
      · rw [if_pos ⟨rfl, e⟩, if_pos e]
      · rw [if_neg (fun z => e z.2), if_neg e]
    rw [e3]
    unfold putb
    by_cases e : k = n
    · rw [if_pos e, if_pos e]
      exact ⟨byt_lt _ _, rfl⟩
    · rw [if_neg e, if_neg e]
      exact h.1 k (by omega)
theorem x152 (hX : XS m N) (h : BYc m N b n) (hn : n + 4 ≤ 900) (x : Int32) : ∃ m', am_ca sa sv (d + 1) 152 [.ref N, .int x] m = some (.inl none, m') ∧ Fr (PFd N) m m' ∧ XS m' N ∧ BYc m' N (fourB b n x) (n + 4) := by
  obtain ⟨m1, a1, a2, a3, a4⟩ := x152_3 (sa := sa) (sv := sv) (d := d) hX h (by omega) x (nI 24) (by decide)
  obtain ⟨m2, b1, b2, b3, b4⟩ := x152_3 (sa := sa) (sv := sv) (d := d) a3 a4 (by omega) x (nI 16) (by decide)
  obtain ⟨m3, c1, c2, c3, c4⟩ := x152_3 (sa := sa) (sv := sv) (d := d) b3 b4 (by omega) x (nI 8) (by decide)
  obtain ⟨m4, d1, d2, d3, d4⟩ := x152_3 (sa := sa) (sv := sv) (d := d) c3 c4 (by omega) x (nI 0) (by decide)
  refine ⟨m4, ?_, ((a2.trans b2).trans c2).trans d2, d3, d4⟩
  rw [c152, b152_0, a1, show nI 24 + -8 = nI 16 by decide, b1, show nI 16 + -8 = nI 8 by decide, c1, show nI 8 + -8 = nI 0 by decide, d1, b152_3, gb_pos (by decide)]
def fedB (X : TX) (a b c e f : Int32) : Nat → Nat := fourB (fourB (fourB (fourB (fourB X.b X.n a) (X.n + 4) b) (X.n + 8) c) (X.n + 12) e) (X.n + 16) f
def fedX (X : TX) (a b c e f : Int32) : TX := if X.n + 20 ≤ 900 then X.wB (fedB X a b c e f) (X.n + 20) else X
theorem x151 (h : TC m N X) (a b c e f : Int32) : CI m N (fedX X a b c e f) (if X.n + 20 ≤ 900 then none else some 0) (nI (X.n + 20)) (am_ca sa sv (d + 2) 151 [.ref N, .int a, .int b, .int c, .int e, .int f] m) := by
  have hX := h.x
  have h9 := h.b.1
  unfold fedX
  by_cases z : X.n + 20 ≤ 900
  · rw [if_pos z, if_pos z]
    obtain ⟨m1, a1, a2, a3, a4⟩ := x152 (sa := sa) (sv := sv) (d := d) hX ⟨h.b.2, h.n⟩ (by omega) a
    obtain ⟨m2, b1, b2, b3, b4⟩ := x152 (sa := sa) (sv := sv) (d := d) a3 a4 (by omega) b
    obtain ⟨m3, c1, c2, c3, c4⟩ := x152 (sa := sa) (sv := sv) (d := d) b3 b4 (by omega) c
    obtain ⟨m4, d1, d2, d3, d4⟩ := x152 (sa := sa) (sv := sv) (d := d) c3 c4 (by omega) e
    obtain ⟨m5, e1, e2, e3, e4⟩ := x152 (sa := sa) (sv := sv) (d := d) d3 d4 (by omega) f
    have hf : Fr (PFd N) m m5 := (((a2.trans b2).trans c2).trans d2).trans e2
    have hi : ∀ a k, ¬ PFd N a k → gi_ m5 a k = gi_ m a k := fun a k y => hf.2.1 a k y
    have no : ∀ j a k, oa N j ≤ a → a < oa N j + 27 → ¬ PFd N a k := fun j a k z1 z2 y => by
      have := oa_lo N j
      unfold PFd at y
      omega
    obtain ⟨g, hF⟩ := h.f
    have hF' : TF m5 N g (X.wB (fedB X a b c e f) (X.n + 20)) := TF.fr (X := X) hF h.u5 hf (fun a k y => by unfold PFd at y; exact ⟨by omega, by omega, Or.inl (by omega)⟩)
    refine ⟨m5, hf.mono fun a k y => ⟨by unfold PFd at y; omega, y.x⟩, TC.gen h hf (fun a k y => ⟨y.x, by unfold PFd at y; omega, by unfold PFd at y; omega, by unfold PFd at y; omega, by unfold PFd at y; omega⟩) _ rfl rfl rfl ⟨z, e4.1⟩ e4.2 ((hi _ _ (by unfold PFd; omega)).trans h.u) h.u5 ((hi _ _ (by unfold PFd; omega)).trans h.e1) ((hi _ _ (by unfold PFd; omega)).trans h.e2) ((hi _ _ (by unfold PFd; omega)).trans h.e3) (fun j hj => (h.o j hj).fr' hf (no j)) ⟨g, hF'⟩, ?_⟩
    have e5 : gi_ m5 N 1 = nI (X.n + 20) := e4.2
    rw [c151, b151_0]
    simp (disch := omega) only [gq_true, gb_true, gb_false, true_and, and_true, eq_self, not_false_eq_true, not_true_eq_false, true_or, or_true, false_or, or_false, false_and, and_false, c0_v, ci_v, cl_v, cf_v, pk_mul, nI_add, nI_clamp, nI_lt0, nI_0le, nI_eq0, nI_lt0r, nI_ltE, nI_leE, nI_eqE, nI_m1, in_t, ba0, ba1, Nat.one_ne_zero, Nat.reduceEqDiff, Nat.reduceLeDiff, Nat.add_eq_zero_iff, xk0 hX, h.n, z, a1, xk0 a3, b1, xk0 b3, c1, xk0 c3, d1, xk0 d3, e1, xk0 e3, e5]
  · rw [if_neg z, if_neg z]
    refine ⟨m, Fr.refl _ _, h, ?_⟩
    rw [c151, b151_0]
    simp (disch := omega) only [gq_true, gb_true, gb_false, true_and, and_true, eq_self, not_false_eq_true, not_true_eq_false, true_or, or_true, false_or, or_false, false_and, and_false, c0_v, ci_v, cl_v, cf_v, pk_mul, nI_add, nI_clamp, nI_lt0, nI_0le, nI_eq0, nI_lt0r, nI_ltE, nI_leE, nI_eqE, nI_m1, in_t, ba0, ba1, Nat.one_ne_zero, Nat.reduceEqDiff, Nat.reduceLeDiff, Nat.add_eq_zero_iff, xk0 hX, h.n, z]
def cutX (X : TX) (l : Int32) : TX := if 0 ≤ l.toInt ∧ l.toInt ≤ X.n then X.wB X.b l.toNatClampNeg else X
theorem x153 (h : TC m N X) (l : Int32) : CI m N (cutX X l) (if 0 ≤ l.toInt ∧ l.toInt ≤ X.n then none else some 1) l (am_ca sa sv (d + 1) 153 [.ref N, .int l] m) := by
  have hX := h.x
  have h9 := h.b.1
  unfold cutX
  by_cases z : 0 ≤ l.toInt ∧ l.toInt ≤ X.n
  · rw [if_pos z, if_pos z]
    obtain ⟨k, hk, rfl⟩ := nI_of (x := l) (by rw [Int32.lt_iff_toInt_lt]; show ¬ l.toInt < 0; omega)
    rw [nI_toInt hk] at z
    rw [nI_clamp (by omega)]
    have hf : Fr (fun a k => a = N ∧ k = 1) m (si_ m N 1 (nI k)) := (Fr.refl _ _).si ⟨rfl, rfl⟩
    have hi : ∀ a j, ¬ (a = N ∧ j = 1) → gi_ (si_ m N 1 (nI k)) a j = gi_ m a j := fun a k y => hf.2.1 a k y
    have no : ∀ j a k, oa N j ≤ a → a < oa N j + 27 → ¬ (a = N ∧ k = 1) := fun j a k z1 z2 y => by
      have := oa_lo N j
      omega
    obtain ⟨g, hF⟩ := h.f
    have hF' : TF (si_ m N 1 (nI k)) N g (X.wB X.b k) := TF.fr (X := X) hF h.u5 hf (fun a k y => ⟨by omega, by omega, Or.inl (by omega)⟩)
    refine ⟨_, hf.mono fun a k y => ⟨by omega, XF.a0 y.1 (by omega)⟩, TC.gen h hf (fun a k y => ⟨XF.a0 y.1 (by omega), by omega, by omega, by omega, by omega⟩) _ rfl rfl rfl ⟨show k ≤ 900 by omega, fun j hj => ?_⟩ (if_pos ⟨rfl, rfl⟩) ((hi _ _ (by omega)).trans h.u) h.u5 ((hi _ _ (by omega)).trans h.e1) ((hi _ _ (by omega)).trans h.e2) ((hi _ _ (by omega)).trans h.e3) (fun j hj => (h.o j hj).fr' hf (no j)) ⟨g, hF'⟩, ?_⟩
    · have hj' : j < k := hj
      exact ⟨(h.b.2 j (by omega)).1, (hi _ _ (by omega)).trans (h.b.2 j (by omega)).2⟩
    · rw [c153, b153_0]
      simp (disch := omega) only [gq_true, gb_true, gb_false, true_and, and_true, eq_self, not_false_eq_true, not_true_eq_false, true_or, or_true, false_or, or_false, false_and, and_false, c0_v, ci_v, cl_v, cf_v, pk_mul, nI_add, nI_clamp, nI_lt0, nI_0le, nI_eq0, nI_lt0r, nI_ltE, nI_leE, nI_eqE, nI_m1, in_t, ba0, ba1, Nat.one_ne_zero, Nat.reduceEqDiff, Nat.reduceLeDiff, Nat.add_eq_zero_iff, xk0 hX, h.n, show k ≤ X.n by omega]
  · rw [if_neg z, if_neg z]
    refine ⟨m, Fr.refl _ _, h, ?_⟩
    rw [c153, b153_0]
    simp (disch := omega) only [gq_true, gb_true, gb_false, true_and, and_true, eq_self, not_false_eq_true, not_true_eq_false, true_or, or_true, false_or, or_false, false_and, and_false, c0_v, ci_v, cl_v, cf_v, pk_mul, nI_add, nI_clamp, nI_lt0, nI_0le, nI_eq0, nI_lt0r, nI_ltE, nI_leE, nI_eqE, nI_m1, in_t, ba0, ba1, Nat.one_ne_zero, Nat.reduceEqDiff, Nat.reduceLeDiff, Nat.add_eq_zero_iff, xk0 hX, h.n]
    by_cases y : l < 0
    · rw [gb_pos y]
    · rw [gb_neg y]
      obtain ⟨k, hk, rfl⟩ := nI_of y
      rw [nI_toInt hk] at z
      rw [gb_neg (fun y2 => by
        have := (nI_leI hk (by omega)).mp y2
        omega)]
end I89
