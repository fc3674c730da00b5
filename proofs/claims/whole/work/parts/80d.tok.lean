/-! the reference goes on along the tokens -/
theorem l_sh5 {x y : Nat} (hx : x < 2 ^ 40) (hy : y < 32) : Int64.ofNat x <<< ((nI 5).toInt64 &&& 63) ||| Int64.ofNat y = Int64.ofNat (x * 32 + y) := by
  apply Int64.toBitVec_inj.mp
  have e5 : ((((nI 5).toInt64 &&& 63).toBitVec).smod 64) = 5#64 := by decide
  show (BitVec.ofNat 64 x <<< ((((nI 5).toInt64 &&& 63).toBitVec).smod 64)) ||| BitVec.ofNat 64 y = BitVec.ofNat 64 (x * 32 + y)
  rw [e5]
  apply BitVec.eq_of_toNat_eq
  rw [BitVec.toNat_or, BitVec.toNat_ofNat, BitVec.toNat_ofNat]
  show ((BitVec.ofNat 64 x <<< 5).toNat) ||| y % 2 ^ 64 = _
  rw [BitVec.toNat_shiftLeft, BitVec.toNat_ofNat, Nat.mod_eq_of_lt (show x < 2 ^ 64 by omega), Nat.mod_eq_of_lt (show y < 2 ^ 64 by omega), Nat.shiftLeft_eq, Nat.mod_eq_of_lt (show x * 2 ^ 5 < 2 ^ 64 by omega), Nat.mod_eq_of_lt (show x * 32 + y < 2 ^ 64 by omega)]
  have := Nat.shiftLeft_add_eq_or_of_lt (show y < 2 ^ 5 by omega) x
  rw [Nat.shiftLeft_eq] at this
  rw [← this]
/-- the kind of a word -/
theorem qi_inj : ∀ i, i < 21 → ∀ j, j < 21 → qi_ i = qi_ j → i = j := by decide +kernel
theorem wki_q {k : Nat} (hk : k < 21) (v : Int64) : wki v = 7 + k ↔ v = qi_ k := by
  unfold wki
  rcases fst_spec (fun k => decide (qi_ k = v)) 21 0 with ⟨h1, h2⟩ | ⟨h1, h2, h3, h4⟩
  · rw [h1, if_neg (by omega)]
    refine ⟨fun z => by omega, fun z => ?_⟩
    have := h2 k (by omega) (by omega)
    rw [z, decide_eq_true rfl] at this
    cases this
  · rw [if_pos (by omega)]
    have h5 := of_decide_eq_true h3
    constructor
    · intro z
      rw [← h5]; congr 1; omega
    · intro z
      have := qi_inj _ (by omega) k hk (h5.trans z)
      omega
theorem wki_2 (v : Int64) : wki v = 2 ∨ (7 ≤ wki v ∧ wki v < 28) := by
  unfold wki
  split
  · right; omega
  · left; rfl
/-- the reference's sort of a token -/
def srt (k : Nat) : Nat := if k = 0 then 0 else if k = 1 then 4 else if k = 2 then 1 else if k = 3 then 2 else if k < 7 then 3 else 1
def Nv (b : Nat → Nat) (n i : Nat) : Nat := nvn b (St b n i) (nnd b n (St b n i) - St b n i)
/-- the text that the reference reads -/
def GB (m : am_M) (N : Nat) (b : Nat → Nat) (n : Nat) : Prop := gi_ m (N + 243) 3 = nI n ∧ n ≤ 900 ∧ ∀ k, k < n → b k < 256 ∧ gi_ m (N + 244) k = nI (b k)
/-- it stands at token i -/
def RP (m : am_M) (N : Nat) (b : Nat → Nat) (n i : Nat) : Prop := gi_ m (N + 243) 4 = nI (tp b n (i + 1)) ∧ gi_ m (N + 243) 5 = nI (St b n i) ∧ gi_ m (N + 243) 6 = nI (srt (Kd b n i)) ∧ (Kd b n i = 3 → gi_ m (N + 243) 7 = nI (Nv b n i)) ∧ (Kd b n i = 4 → gi_ m (N + 243) 7 = nI 59) ∧ (Kd b n i = 5 → gi_ m (N + 243) 7 = nI 40) ∧ (Kd b n i = 6 → gi_ m (N + 243) 7 = nI 41) ∧ (srt (Kd b n i) = 1 → gl_ m (N + 243) 14 = Vl b n i)
def RG (N a k : Nat) : Prop := a = N + 243 ∧ ((4 ≤ k ∧ k ≤ 7) ∨ k = 14)
theorem XF.a243 {N a k : Nat} (h : a = N + 243) (h2 : ¬ (k = 1 ∨ (15 ≤ k ∧ k ≤ 22) ∨ k = 25 ∨ k = 26 ∨ (28 ≤ k ∧ k ≤ 32) ∨ (34 ≤ k ∧ k ≤ 38) ∨ k = 43)) : XF N a k := ⟨by omega, Or.inr (Or.inl ⟨by omega, h2⟩)⟩
theorem XF.hi {N a k : Nat} (h : N + 243 < a) : XF N a k := ⟨by omega, Or.inl (by omega)⟩
theorem RG.x {N a k : Nat} (h : RG N a k) : XF N a k := XF.a243 h.1 (by have := h.2; omega)
section D80
variable {sa sv d N : Nat} {m : am_M} {b : Nat → Nat} {n i : Nat}
theorem GB.fr {P : Nat → Nat → Prop} {m m' : am_M} (h : GB m N b n) (hf : Fr P m m') (hp : ∀ k, ¬ P (N + 244) k) (h3 : ¬ P (N + 243) 3) : GB m' N b n := ⟨(hf.2.1 _ _ h3).trans h.1, h.2.1, fun k hk => ⟨(h.2.2 k hk).1, (hf.2.1 _ _ (hp k)).trans (h.2.2 k hk).2⟩⟩
theorem y230 (hX : XS m N) (hG : GB m N b n) (p k : Nat) (hp : gi_ m (N + 243) 4 = nI p) (hpk : p + k < 2 ^ 30) : am_ca sa sv (d + 1) 230 [.ref (N + 243), .int (nI k)] m = some (.inl (some (.int (if p + k < n then nI (b (p + k)) else -1))), m) := by
  obtain ⟨h3, h9, hb⟩ := hG
  rw [c230, b230_0]
  simp (disch := omega) only [gq_true, gb_true, gb_false, true_and, and_true, eq_self, not_false_eq_true, not_true_eq_false, true_or, or_true, false_or, or_false, false_and, and_false, c0_v, ci_v, cl_v, cf_v, pk_mul, nI_add, nI_clamp, nI_lt0, nI_0le, nI_eq0, nI_lt0r, nI_ltE, nI_leE, nI_eqE, nI_m1, in_t, ba0, ba1, Nat.one_ne_zero, Nat.reduceEqDiff, Nat.reduceLeDiff, Nat.add_eq_zero_iff, xk243 hX, h3, hp, xr243_1 hX, xk244 hX]
  by_cases e : p + k < n
  · rw [gb_neg (by omega), if_pos e]
    simp (disch := omega) only [gq_true, gb_true, gb_false, true_and, and_true, eq_self, not_false_eq_true, not_true_eq_false, true_or, or_true, false_or, or_false, false_and, and_false, c0_v, ci_v, cl_v, cf_v, pk_mul, nI_add, nI_clamp, nI_lt0, nI_0le, nI_eq0, nI_lt0r, nI_ltE, nI_leE, nI_eqE, nI_m1, in_t, ba0, ba1, Nat.one_ne_zero, Nat.reduceEqDiff, Nat.reduceLeDiff, Nat.add_eq_zero_iff, (hb _ e).2]
  · rw [gb_pos (by omega), if_neg e]
theorem y231 (c : Nat) (hc : c < 256) : am_ca sa sv (d + 1) 231 [.int (nI c)] m = some (.inl (some (.int (tr_ (tL c)))), m) := by
  rw [c231, b231_0]
  simp (disch := omega) only [gq_true, gb_true, gb_false, true_and, and_true, eq_self, not_false_eq_true, not_true_eq_false, true_or, or_true, false_or, or_false, false_and, and_false, c0_v, ci_v, cl_v, cf_v, pk_mul, nI_add, nI_clamp, nI_lt0, nI_0le, nI_eq0, nI_lt0r, nI_ltE, nI_leE, nI_eqE, nI_m1, in_t, ba0, ba1, Nat.one_ne_zero, Nat.reduceEqDiff, Nat.reduceLeDiff, Nat.add_eq_zero_iff]
  unfold tL
  by_cases h1 : c < 97
  · rw [gb_pos h1, decide_eq_false (by omega)]; rfl
  · rw [gb_neg h1]
    by_cases h2 : 122 < c
    · rw [gb_pos h2, decide_eq_false (by omega)]; rfl
    · rw [gb_neg h2, decide_eq_true (by omega)]; rfl
theorem y232 (c : Nat) (hc : c < 256) : am_ca sa sv (d + 1) 232 [.int (nI c)] m = some (.inl (some (.int (tr_ (tD c)))), m) := by
  rw [c232, b232_0]
  simp (disch := omega) only [gq_true, gb_true, gb_false, true_and, and_true, eq_self, not_false_eq_true, not_true_eq_false, true_or, or_true, false_or, or_false, false_and, and_false, c0_v, ci_v, cl_v, cf_v, pk_mul, nI_add, nI_clamp, nI_lt0, nI_0le, nI_eq0, nI_lt0r, nI_ltE, nI_leE, nI_eqE, nI_m1, in_t, ba0, ba1, Nat.one_ne_zero, Nat.reduceEqDiff, Nat.reduceLeDiff, Nat.add_eq_zero_iff]
  unfold tD
  by_cases h1 : c < 48
  · rw [gb_pos h1, decide_eq_false (by omega)]; rfl
  · rw [gb_neg h1]
    by_cases h2 : 57 < c
    · rw [gb_pos h2, decide_eq_false (by omega)]; rfl
    · rw [gb_neg h2, decide_eq_true (by omega)]; rfl
theorem y231m : am_ca sa sv (d + 1) 231 [.int (-1)] m = some (.inl (some (.int (nI 0))), m) := by
  rw [c231, b231_0, gb_pos (by decide)]
  simp (disch := omega) only [gq_true, gb_true, gb_false, true_and, and_true, eq_self, not_false_eq_true, not_true_eq_false, true_or, or_true, false_or, or_false, false_and, and_false, c0_v, ci_v, cl_v, cf_v, pk_mul, nI_add, nI_clamp, nI_lt0, nI_0le, nI_eq0, nI_lt0r, nI_ltE, nI_leE, nI_eqE, nI_m1, in_t, ba0, ba1, Nat.one_ne_zero, Nat.reduceEqDiff, Nat.reduceLeDiff, Nat.add_eq_zero_iff]
theorem y232m : am_ca sa sv (d + 1) 232 [.int (-1)] m = some (.inl (some (.int (nI 0))), m) := by
  rw [c232, b232_0, gb_pos (by decide)]
  simp (disch := omega) only [gq_true, gb_true, gb_false, true_and, and_true, eq_self, not_false_eq_true, not_true_eq_false, true_or, or_true, false_or, or_false, false_and, and_false, c0_v, ci_v, cl_v, cf_v, pk_mul, nI_add, nI_clamp, nI_lt0, nI_0le, nI_eq0, nI_lt0r, nI_ltE, nI_leE, nI_eqE, nI_m1, in_t, ba0, ba1, Nat.one_ne_zero, Nat.reduceEqDiff, Nat.reduceLeDiff, Nat.add_eq_zero_iff]
/-- here, as a letter or a digit -/
theorem y231h (hG : GB m N b n) (p : Nat) : am_ca sa sv (d + 1) 231 [.int (if p < n then nI (b p) else -1)] m = some (.inl (some (.int (tr_ (decide (p < n) && tL (b p))))), m) := by
  by_cases e : p < n
  · rw [if_pos e, y231 _ (hG.2.2 p e).1, decide_eq_true e]; rfl
  · rw [if_neg e, y231m, decide_eq_false e]; rfl
theorem y232h (hG : GB m N b n) (p : Nat) : am_ca sa sv (d + 1) 232 [.int (if p < n then nI (b p) else -1)] m = some (.inl (some (.int (tr_ (decide (p < n) && tD (b p))))), m) := by
  by_cases e : p < n
  · rw [if_pos e, y232 _ (hG.2.2 p e).1, decide_eq_true e]; rfl
  · rw [if_neg e, y232m, decide_eq_false e]; rfl
theorem wvn_lt (hb : ∀ k, b k < 128) (a : Nat) : ∀ k, wvn b a k < 32 ^ k := by
  intro k
  induction k with
  | zero => exact Nat.one_pos
  | succ k ih =>
    have := hb (a + k)
    rw [wvn, Nat.pow_succ]
    omega
/-- the letters of a word -/
theorem y233_76 (hX : XS m N) (hG : GB m N b n) (a : Nat) (ha : a < n) (c : Int32) (h4 : gi_ m (N + 243) 4 = nI a) (h14 : gl_ m (N + 243) 14 = 0) : ∃ m', r233 sa sv (d + 1) 76 [some (.ref (N + 243)), some (.int c), some (.int (nI 0))] [] m = some (.inl none, m') ∧ Fr (RG N) m m' ∧ gi_ m' (N + 243) 4 = nI (wnd b n a) ∧ gi_ m' (N + 243) 5 = gi_ m (N + 243) 5 ∧ gi_ m' (N + 243) 6 = nI (if wnd b n a - a ≤ 8 then 1 else 4) ∧ (wnd b n a - a ≤ 8 → gl_ m' (N + 243) 14 = Int64.ofNat (wvn b a (wnd b n a - a))) := by
  have h9 := hG.2.1
  have hge : a ≤ wnd b n a := rnd_ge (f := tL) (b := b) (n := n) (p := a)
  have hle : wnd b n a ≤ n := rnd_le (f := tL) (b := b) (n := n) (p := a) (by omega)
  have step : ∀ j k m1, a + k + j = n → wnd b n a = rnd tL b n (a + k) → Fr (fun x y => x = N + 243 ∧ y = 14) m m1 → gl_ m1 (N + 243) 14 = Int64.ofNat (wvn b a (min k 8)) → (∀ t, t < k → tL (b (a + t)) = true) → ∃ m', r233 sa sv (d + 1) 76 [some (.ref (N + 243)), some (.int c), some (.int (nI k))] [] m1 = some (.inl none, m') ∧ Fr (RG N) m m' ∧ gi_ m' (N + 243) 4 = nI (wnd b n a) ∧ gi_ m' (N + 243) 5 = gi_ m (N + 243) 5 ∧ gi_ m' (N + 243) 6 = nI (if wnd b n a - a ≤ 8 then 1 else 4) ∧ (wnd b n a - a ≤ 8 → gl_ m' (N + 243) 14 = Int64.ofNat (wvn b a (wnd b n a - a))) := by
    intro j
    induction j with
    | zero =>
      intro k m1 hk hw hF hv hl
      have hX1 := hX.frg hF (fun a k z => XF.a243 z.1 (by have := z.2; omega))
      have hG1 := hG.fr hF (fun k => by omega) (by omega)
      have e4 : gi_ m1 (N + 243) 4 = nI a := (hF.2.1 _ _ (by omega)).trans h4
      rw [rnd_e (by omega)] at hw
      have e1 := y230 (sa := sa) (sv := sv) (d := d) hX1 hG1 a k e4 (by omega)
      have e2 := y231h (sa := sa) (sv := sv) (d := d) hG1 (a + k)
      rw [decide_eq_false (show ¬ a + k < n by omega), Bool.false_and, tr_f] at e2
      have g4 : gi_ (si_ m1 (N + 243) 6 (nI (if wnd b n a - a ≤ 8 then 1 else 4))) (N + 243) 4 = nI a := by rw [gi_si, if_neg (by omega)]; exact e4
      refine ⟨si_ (si_ m1 (N + 243) 6 (nI (if wnd b n a - a ≤ 8 then 1 else 4))) (N + 243) 4 (nI (wnd b n a)), ?_, ((hF.mono fun x y z => ⟨z.1, Or.inr z.2⟩).si ⟨rfl, by omega⟩).si ⟨rfl, by omega⟩, by rw [gi_si, if_pos ⟨rfl, rfl⟩], by rw [gi_si, if_neg (by omega), gi_si, if_neg (by omega)]; exact hF.2.1 _ _ (by omega), by rw [gi_si, if_neg (by omega), gi_si, if_pos ⟨rfl, rfl⟩], fun h8 => ?_⟩
      · rw [b233_76]
        simp (disch := omega) only [gq_true, gb_true, gb_false, true_and, and_true, eq_self, not_false_eq_true, not_true_eq_false, true_or, or_true, false_or, or_false, false_and, and_false, c0_v, ci_v, cl_v, cf_v, pk_mul, nI_add, nI_clamp, nI_lt0, nI_0le, nI_eq0, nI_lt0r, nI_ltE, nI_leE, nI_eqE, nI_m1, in_t, ba0, ba1, Nat.one_ne_zero, Nat.reduceEqDiff, Nat.reduceLeDiff, Nat.add_eq_zero_iff, xk243 hX1, e1, e2]
        by_cases e : k ≤ 8
        · rw [if_pos (show wnd b n a - a ≤ 8 by omega)] at g4 ⊢
          rw [gb_pos e]
          simp (disch := omega) only [gq_true, gb_true, gb_false, true_and, and_true, eq_self, not_false_eq_true, not_true_eq_false, true_or, or_true, false_or, or_false, false_and, and_false, c0_v, ci_v, cl_v, cf_v, pk_mul, nI_add, nI_clamp, nI_lt0, nI_0le, nI_eq0, nI_lt0r, nI_ltE, nI_leE, nI_eqE, nI_m1, in_t, ba0, ba1, Nat.one_ne_zero, Nat.reduceEqDiff, Nat.reduceLeDiff, Nat.add_eq_zero_iff, g4]
          rw [show a + k = wnd b n a by omega]
        · rw [if_neg (show ¬ wnd b n a - a ≤ 8 by omega)] at g4 ⊢
          rw [gb_neg e]
          simp (disch := omega) only [gq_true, gb_true, gb_false, true_and, and_true, eq_self, not_false_eq_true, not_true_eq_false, true_or, or_true, false_or, or_false, false_and, and_false, c0_v, ci_v, cl_v, cf_v, pk_mul, nI_add, nI_clamp, nI_lt0, nI_0le, nI_eq0, nI_lt0r, nI_ltE, nI_leE, nI_eqE, nI_m1, in_t, ba0, ba1, Nat.one_ne_zero, Nat.reduceEqDiff, Nat.reduceLeDiff, Nat.add_eq_zero_iff, g4]
          rw [show a + k = wnd b n a by omega]
      · rw [gl_si, gl_si, hv, show min k 8 = wnd b n a - a by omega]
    | succ j ih =>
      intro k m1 hk hw hF hv hl
      have hX1 := hX.frg hF (fun a k z => XF.a243 z.1 (by have := z.2; omega))
      have hG1 := hG.fr hF (fun k => by omega) (by omega)
      have e4 : gi_ m1 (N + 243) 4 = nI a := (hF.2.1 _ _ (by omega)).trans h4
      have e1 := y230 (sa := sa) (sv := sv) (d := d) hX1 hG1 a k e4 (by omega)
      have e2 := y231h (sa := sa) (sv := sv) (d := d) hG1 (a + k)
      rw [decide_eq_true (show a + k < n by omega), Bool.true_and] at e2
      cases hlp : tL (b (a + k)) with
      | false =>
        rw [rnd_f hlp] at hw
        rw [hlp, tr_f] at e2
        have g4 : gi_ (si_ m1 (N + 243) 6 (nI (if wnd b n a - a ≤ 8 then 1 else 4))) (N + 243) 4 = nI a := by rw [gi_si, if_neg (by omega)]; exact e4
        refine ⟨si_ (si_ m1 (N + 243) 6 (nI (if wnd b n a - a ≤ 8 then 1 else 4))) (N + 243) 4 (nI (wnd b n a)), ?_, ((hF.mono fun x y z => ⟨z.1, Or.inr z.2⟩).si ⟨rfl, by omega⟩).si ⟨rfl, by omega⟩, by rw [gi_si, if_pos ⟨rfl, rfl⟩], by rw [gi_si, if_neg (by omega), gi_si, if_neg (by omega)]; exact hF.2.1 _ _ (by omega), by rw [gi_si, if_neg (by omega), gi_si, if_pos ⟨rfl, rfl⟩], fun h8 => ?_⟩
        · rw [b233_76]
          simp (disch := omega) only [gq_true, gb_true, gb_false, true_and, and_true, eq_self, not_false_eq_true, not_true_eq_false, true_or, or_true, false_or, or_false, false_and, and_false, c0_v, ci_v, cl_v, cf_v, pk_mul, nI_add, nI_clamp, nI_lt0, nI_0le, nI_eq0, nI_lt0r, nI_ltE, nI_leE, nI_eqE, nI_m1, in_t, ba0, ba1, Nat.one_ne_zero, Nat.reduceEqDiff, Nat.reduceLeDiff, Nat.add_eq_zero_iff, xk243 hX1, e1, e2]
          by_cases e : k ≤ 8
          · rw [if_pos (show wnd b n a - a ≤ 8 by omega)] at g4 ⊢
            rw [gb_pos e]
            simp (disch := omega) only [gq_true, gb_true, gb_false, true_and, and_true, eq_self, not_false_eq_true, not_true_eq_false, true_or, or_true, false_or, or_false, false_and, and_false, c0_v, ci_v, cl_v, cf_v, pk_mul, nI_add, nI_clamp, nI_lt0, nI_0le, nI_eq0, nI_lt0r, nI_ltE, nI_leE, nI_eqE, nI_m1, in_t, ba0, ba1, Nat.one_ne_zero, Nat.reduceEqDiff, Nat.reduceLeDiff, Nat.add_eq_zero_iff, g4]
            rw [show a + k = wnd b n a by omega]
          · rw [if_neg (show ¬ wnd b n a - a ≤ 8 by omega)] at g4 ⊢
            rw [gb_neg e]
            simp (disch := omega) only [gq_true, gb_true, gb_false, true_and, and_true, eq_self, not_false_eq_true, not_true_eq_false, true_or, or_true, false_or, or_false, false_and, and_false, c0_v, ci_v, cl_v, cf_v, pk_mul, nI_add, nI_clamp, nI_lt0, nI_0le, nI_eq0, nI_lt0r, nI_ltE, nI_leE, nI_eqE, nI_m1, in_t, ba0, ba1, Nat.one_ne_zero, Nat.reduceEqDiff, Nat.reduceLeDiff, Nat.add_eq_zero_iff, g4]
            rw [show a + k = wnd b n a by omega]
        · rw [gl_si, gl_si, hv, show min k 8 = wnd b n a - a by omega]
      | true =>
        have hc := of_decide_eq_true hlp
        rw [rnd_t hlp (by omega)] at hw
        rw [hlp, tr_t] at e2
        have hl2 : ∀ t, t < k + 1 → tL (b (a + t)) = true := fun t ht => by
          by_cases e : t = k
          · rw [e]; exact hlp
          · exact hl t (by omega)
        by_cases e : 8 ≤ k
        · obtain ⟨m', q1, q2⟩ := ih (k + 1) m1 (by omega) hw hF (by rw [hv, show min k 8 = min (k + 1) 8 by omega]) hl2
          refine ⟨m', ?_, q2⟩
          rw [b233_76]
          simp (disch := omega) only [gq_true, gb_true, gb_false, true_and, and_true, eq_self, not_false_eq_true, not_true_eq_false, true_or, or_true, false_or, or_false, false_and, and_false, c0_v, ci_v, cl_v, cf_v, pk_mul, nI_add, nI_clamp, nI_lt0, nI_0le, nI_eq0, nI_lt0r, nI_ltE, nI_leE, nI_eqE, nI_m1, in_t, ba0, ba1, Nat.one_ne_zero, Nat.reduceEqDiff, Nat.reduceLeDiff, Nat.add_eq_zero_iff, xk243 hX1, e1, e2]
          rw [gb_pos e]
          exact q1
        · have hwv : wvn b a k < 2 ^ 40 := by
            have key : ∀ t, t ≤ k → wvn b a t < 32 ^ t := by
              intro t
              induction t with
              | zero => exact fun _ => Nat.one_pos
              | succ t iht =>
                intro ht
                have h1 := iht (by omega)
                have h2 := of_decide_eq_true (hl2 t (by omega))
                rw [wvn, Nat.pow_succ]
                omega
            have h1 := key k (Nat.le_refl _)
            have h2 : 32 ^ k ≤ 32 ^ 8 := Nat.pow_le_pow_right (by decide) (by omega)
            have h3 : (32 : Nat) ^ 8 = 2 ^ 40 := by decide
            omega
          have e26 : ∀ c, c < 123 → 97 ≤ c → (nI c - nI 97 + nI 1).toInt64 = Int64.ofNat (c - 96) := by decide +kernel
          obtain ⟨m', q1, q2⟩ := ih (k + 1) (sl_ m1 (N + 243) 14 (Int64.ofNat (wvn b a (k + 1)))) (by omega) hw (hF.sl ⟨rfl, rfl⟩) (by rw [gl_sl, if_pos ⟨rfl, rfl⟩, show min (k + 1) 8 = k + 1 by omega]) hl2
          refine ⟨m', ?_, q2⟩
          rw [b233_76]
          simp (disch := omega) only [gq_true, gb_true, gb_false, true_and, and_true, eq_self, not_false_eq_true, not_true_eq_false, true_or, or_true, false_or, or_false, false_and, and_false, c0_v, ci_v, cl_v, cf_v, pk_mul, nI_add, nI_clamp, nI_lt0, nI_0le, nI_eq0, nI_lt0r, nI_ltE, nI_leE, nI_eqE, nI_m1, in_t, ba0, ba1, Nat.one_ne_zero, Nat.reduceEqDiff, Nat.reduceLeDiff, Nat.add_eq_zero_iff, xk243 hX1, e1, e2]
          rw [gb_neg e]
          rw [if_pos (show a + k < n by omega), e26 _ (by omega) (by omega), hv, show min k 8 = k by omega, l_sh5 hwv (by omega)]
          exact q1
  exact step (n - a) 0 m (by omega) rfl (Fr.refl _ _) (by rw [h14]; rfl) (fun t ht => absurd ht (by omega))
end D80
