/-! the class closes a period -/
/-- what is paid to p -/
def pd_ (s : Nat → Int32) (q : Nat → Int64) (p : Nat) : Int64 := if p < cN s 0 ∧ paid_ s q p = true then q p else 0
/-- a statement's amounts of p -/
def nv_ (s : Nat → Int32) (q : Nat → Int64) (p w : Nat) : Int64 := if w < 3 then q (50 + 3 * p + w) else if w = 3 then pd_ s q p else q p - pd_ s q p
def cS_ (s : Nat → Int32) (k : Nat) : Int32 := if k = 5 then nI (cN s 5 + 1) else if k = 7 then nI (min (cN s 5 + 1) 5) else if k = 762 then s 4 else if 763 ≤ k ∧ k < 767 then s (k - 1) else s k
def cQ_ (s : Nat → Int32) (q : Nat → Int64) (k : Nat) : Int64 := if k < 10 then q k - pd_ s q k else if k < 50 then (if (k - 10) % 4 = 3 then q k + pd_ s q ((k - 10) / 4) else q k) else if k < 80 then 0 else if k < 212 then q k else if k < 262 then nv_ s q ((k - 212) / 5) ((k - 212) % 5) else if k < 462 then q (k - 50) else q k
section R79
variable {sa sv d o B : Nat} {m : am_M} {s : Nat → Int32} {q : Nat → Int64}
theorem x57 (hO : OS m o) (c p w : Nat) (v : Int64) (hc : gi_ m (o + 19) 7 = nI c) (hcb : c < 2 ^ 30) (hp : p < 10) (hw : w < 5) : am_ca sa sv (d + 2) 57 [.ref (o + 19), .int (nI p), .int (nI w), .long v] m = some (.inl none, sl_ m (o + 25) ((c % 5 * 10 + p) * 5 + w) v) := by
  have hm := Nat.mod_lt c (by decide : 5 > 0)
  rw [c57, b57_0]
  simp (disch := omega) only [gq_true, gb_true, gb_false, true_and, and_true, eq_self, not_false_eq_true, not_true_eq_false, true_or, or_true, false_or, or_false, false_and, and_false, c0_v, ci_v, cl_v, cf_v, pk_mul, nI_add, nI_clamp, nI_lt0, nI_0le, nI_eq0, nI_lt0r, nI_ltE, nI_leE, nI_eqE, nI_m1, in_t, ba0, ba1, Nat.one_ne_zero, Nat.reduceEqDiff, Nat.reduceLeDiff, Nat.add_eq_zero_iff, ok19 hO, hc]
  rw [c59, b59_0]
  rw [pk_rem (by omega) (by decide) (by decide)]
  simp (disch := omega) only [gq_true, gb_true, gb_false, true_and, and_true, eq_self, not_false_eq_true, not_true_eq_false, true_or, or_true, false_or, or_false, false_and, and_false, c0_v, ci_v, cl_v, cf_v, pk_mul, nI_add, nI_clamp, nI_lt0, nI_0le, nI_eq0, nI_lt0r, nI_ltE, nI_leE, nI_eqE, nI_m1, in_t, ba0, ba1, Nat.one_ne_zero, Nat.reduceEqDiff, Nat.reduceLeDiff, Nat.add_eq_zero_iff, ok19 hO, or19_5 hO, ok25 hO, Nat.reduceEqDiff, Nat.reduceLeDiff]
  rw [gb_neg (by omega)]
def st5_ (m : am_M) (o r p : Nat) (f : Nat → Int64) : am_M := sl_ (sl_ (sl_ (sl_ (sl_ m (o + 25) ((r * 10 + p) * 5 + 0) (f 0)) (o + 25) ((r * 10 + p) * 5 + 1) (f 1)) (o + 25) ((r * 10 + p) * 5 + 2) (f 2)) (o + 25) ((r * 10 + p) * 5 + 3) (f 3)) (o + 25) ((r * 10 + p) * 5 + 4) (f 4)
theorem x56 (hO : OS m o) (c p : Nat) (l : Int32) (f : Nat → Int64) (b pd : Int64) (hc : gi_ m (o + 19) 7 = nI c) (hcb : c < 2 ^ 30) (hp : p < 10) (hb : gl_ m (o + 20) p = b) (hf : ∀ w, w < 3 → gl_ m (o + 22) (p * 3 + w) = f w) (h3 : f 3 = pd) (h4 : f 4 = b - pd) (hpd : pd = if 0 < b ∧ l.toInt64 ≤ b then b else 0) : am_ca sa sv (d + 3) 56 [.ref (o + 19), .int (nI p), .int l] m = some (.inl (some (.long pd)), st5_ (ad_ (ad_ m (o + 21) (p * 4 + 3) pd) (o + 20) p (-pd)) o (c % 5) p f) := by
  have hm := Nat.mod_lt c (by decide : 5 > 0)
  have e63 : am_ca sa sv (d + 2) 63 [.ref (o + 19), .int (nI p)] m = some (.inl (some (.long (b))), m) := by
    rw [c63, b63_0]
    simp (disch := omega) only [gq_true, gb_true, gb_false, true_and, and_true, eq_self, not_false_eq_true, not_true_eq_false, true_or, or_true, false_or, or_false, false_and, and_false, c0_v, ci_v, cl_v, cf_v, pk_mul, nI_add, nI_clamp, nI_lt0, nI_0le, nI_eq0, nI_lt0r, nI_ltE, nI_leE, nI_eqE, nI_m1, in_t, ba0, ba1, Nat.one_ne_zero, Nat.reduceEqDiff, Nat.reduceLeDiff, Nat.add_eq_zero_iff, ok19 hO, or19_0 hO, x49 (o + 20) 10 p (ok20 hO) (by omega) (by omega), hb]
  have key : r56 sa sv (d + 2) 19 [some (.ref (o + 19)), some (.int (nI p)), some (.int l), some (.long b), none, none, none, none] [.long pd] m = some (.inl (some (.long pd)), st5_ (ad_ (ad_ m (o + 21) (p * 4 + 3) pd) (o + 20) p (-pd)) o (c % 5) p f) := by
    have hO1 : OS (ad_ m (o + 21) (p * 4 + 3) pd) o := hO
    have hO2 : OS (ad_ (ad_ m (o + 21) (p * 4 + 3) pd) (o + 20) p (-pd)) o := hO
    have hc2 : gi_ (ad_ (ad_ m (o + 21) (p * 4 + 3) pd) (o + 20) p (-pd)) (o + 19) 7 = nI c := hc
    have hf2 : ∀ w, w < 3 → gl_ (ad_ (ad_ m (o + 21) (p * 4 + 3) pd) (o + 20) p (-pd)) (o + 22) (p * 3 + w) = f w := fun w hw => by
      rw [gl_ad, if_neg (by omega), gl_ad, if_neg (by omega)]; exact hf w hw
    rw [b56_19]
    simp (disch := omega) only [gq_true, gb_true, gb_false, true_and, and_true, eq_self, not_false_eq_true, not_true_eq_false, true_or, or_true, false_or, or_false, false_and, and_false, c0_v, ci_v, cl_v, cf_v, pk_mul, nI_add, nI_clamp, nI_lt0, nI_0le, nI_eq0, nI_lt0r, nI_ltE, nI_leE, nI_eqE, nI_m1, in_t, ba0, ba1, Nat.one_ne_zero, Nat.reduceEqDiff, Nat.reduceLeDiff, Nat.add_eq_zero_iff, ok19 hO, or19_1 hO, x50 (o + 21) 40 (p * 4 + 3) pd (ok21 hO) (by omega) (by omega), ok19 hO1, or19_0 hO1, x50 (o + 20) 10 p (-pd) (ok20 hO1) (by omega) (by omega)]
    generalize ad_ (ad_ m (o + 21) (p * 4 + 3) pd) (o + 20) p (-pd) = m2 at *
    have st : ∀ (m1 : am_M) (w : Nat), w < 3 → OS m1 o → gi_ m1 (o + 19) 7 = nI c → gl_ m1 (o + 22) (p * 3 + w) = f w → r56 sa sv (d + 2) 49 [some (.ref (o + 19)), some (.int (nI p)), some (.int l), some (.long b), none, some (.long pd), none, some (.int (nI w))] [] m1 = r56 sa sv (d + 2) 49 [some (.ref (o + 19)), some (.int (nI p)), some (.int l), some (.long b), none, some (.long pd), none, some (.int (nI (w + 1)))] [] (sl_ m1 (o + 25) ((c % 5 * 10 + p) * 5 + w) (f w)) := fun m1 w hw hO1 hc1 hf1 => by
      have e65 : am_ca sa sv (d + 2) 65 [.ref (o + 19), .int (nI p), .int (nI w)] m1 = some (.inl (some (.long (f w))), m1) := by
        rw [c65, b65_0]
        simp (disch := omega) only [gq_true, gb_true, gb_false, true_and, and_true, eq_self, not_false_eq_true, not_true_eq_false, true_or, or_true, false_or, or_false, false_and, and_false, c0_v, ci_v, cl_v, cf_v, pk_mul, nI_add, nI_clamp, nI_lt0, nI_0le, nI_eq0, nI_lt0r, nI_ltE, nI_leE, nI_eqE, nI_m1, in_t, ba0, ba1, Nat.one_ne_zero, Nat.reduceEqDiff, Nat.reduceLeDiff, Nat.add_eq_zero_iff, ok19 hO1, or19_2 hO1, x49 (o + 22) 30 (p * 3 + w) (ok22 hO1) (by omega) (by omega), hf1]
      rw [b56_49, gb_neg (by rw [nI_ltE (by omega) (by omega)]; omega)]
      simp (disch := omega) only [gq_true, gb_true, gb_false, true_and, and_true, eq_self, not_false_eq_true, not_true_eq_false, true_or, or_true, false_or, or_false, false_and, and_false, c0_v, ci_v, cl_v, cf_v, pk_mul, nI_add, nI_clamp, nI_lt0, nI_0le, nI_eq0, nI_lt0r, nI_ltE, nI_leE, nI_eqE, nI_m1, in_t, ba0, ba1, Nat.one_ne_zero, Nat.reduceEqDiff, Nat.reduceLeDiff, Nat.add_eq_zero_iff, ok19 hO1, e65, x57 hO1 c p w (f w) hc1 hcb hp (by omega)]
    rw [st m2 0 (by omega) hO2 hc2 (hf2 0 (by omega))]
    rw [st (sl_ m2 _ _ _) 1 (by omega) hO2 hc2 ((by rw [gl_sl, if_neg (by omega)]; exact hf2 1 (by omega)))]
    rw [st (sl_ (sl_ m2 _ _ _) _ _ _) 2 (by omega) hO2 hc2 ((by rw [gl_sl, if_neg (by omega), gl_sl, if_neg (by omega)]; exact hf2 2 (by omega)))]
    have hO3 : OS (sl_ (sl_ (sl_ m2 (o + 25) ((c % 5 * 10 + p) * 5 + 0) (f 0)) (o + 25) ((c % 5 * 10 + p) * 5 + 1) (f 1)) (o + 25) ((c % 5 * 10 + p) * 5 + 2) (f 2)) o := hO2
    have hc3 : gi_ (sl_ (sl_ (sl_ m2 (o + 25) ((c % 5 * 10 + p) * 5 + 0) (f 0)) (o + 25) ((c % 5 * 10 + p) * 5 + 1) (f 1)) (o + 25) ((c % 5 * 10 + p) * 5 + 2) (f 2)) (o + 19) 7 = nI c := hc2
    unfold st5_
    generalize sl_ (sl_ (sl_ m2 (o + 25) ((c % 5 * 10 + p) * 5 + 0) (f 0)) (o + 25) ((c % 5 * 10 + p) * 5 + 1) (f 1)) (o + 25) ((c % 5 * 10 + p) * 5 + 2) (f 2) = m3 at *
    have hO4 : OS (sl_ m3 (o + 25) ((c % 5 * 10 + p) * 5 + 3) pd) o := hO3
    have hc4 : gi_ (sl_ m3 (o + 25) ((c % 5 * 10 + p) * 5 + 3) pd) (o + 19) 7 = nI c := hc3
    rw [b56_49, gb_pos (by rw [nI_ltE (by omega) (by omega)]; omega)]
    simp (disch := omega) only [gq_true, gb_true, gb_false, true_and, and_true, eq_self, not_false_eq_true, not_true_eq_false, true_or, or_true, false_or, or_false, false_and, and_false, c0_v, ci_v, cl_v, cf_v, pk_mul, nI_add, nI_clamp, nI_lt0, nI_0le, nI_eq0, nI_lt0r, nI_ltE, nI_leE, nI_eqE, nI_m1, in_t, ba0, ba1, Nat.one_ne_zero, Nat.reduceEqDiff, Nat.reduceLeDiff, Nat.add_eq_zero_iff, ok19 hO3, x57 hO3 c p 3 pd hc3 hcb hp (by omega), ok19 hO4, x57 hO4 c p 4 (b - pd) hc4 hcb hp (by omega), h3, h4]
  rw [c56, b56_0]
  simp (disch := omega) only [gq_true, gb_true, gb_false, true_and, and_true, eq_self, not_false_eq_true, not_true_eq_false, true_or, or_true, false_or, or_false, false_and, and_false, c0_v, ci_v, cl_v, cf_v, pk_mul, nI_add, nI_clamp, nI_lt0, nI_0le, nI_eq0, nI_lt0r, nI_ltE, nI_leE, nI_eqE, nI_m1, in_t, ba0, ba1, Nat.one_ne_zero, Nat.reduceEqDiff, Nat.reduceLeDiff, Nat.add_eq_zero_iff, ok19 hO, e63, x55]
  rw [tr_0]
  by_cases e : 0 < b ∧ l.toInt64 ≤ b
  · rw [if_pos e] at hpd
    rw [decide_eq_true e, gb_neg (by decide), ← hpd]
    rw [hpd] at key ⊢
    exact key
  · rw [if_neg e] at hpd
    rw [decide_eq_false e, gb_pos rfl, ← hpd]
    exact key
theorem x58 (hO : OS m o) (c : Nat) (day : Int32) (hc : gi_ m (o + 19) 7 = nI c) (hcb : c < 2 ^ 30) : ∃ m', am_ca sa sv (d + 2) 58 [.ref (o + 19), .int day] m = some (.inl none, m') ∧ Fr (fun a k => a = o + 26 ∨ a = o + 22 ∨ (a = o + 19 ∧ k = 7)) m m' ∧ (∀ k, gi_ m' (o + 26) k = if k = c % 5 then day else gi_ m (o + 26) k) ∧ (∀ k, k < 30 → gl_ m' (o + 22) k = 0) ∧ gi_ m' (o + 19) 7 = nI (c + 1) ∧ gl_ m' (o + 26) = gl_ m (o + 26) := by
  have hm := Nat.mod_lt c (by decide : 5 > 0)
  have hO1 : OS (si_ m (o + 26) (c % 5) day) o := hO.frd (P := fun a _ => a = o + 26) ((Fr.refl _ _).si rfl) (fun a k z => by omega)
  obtain ⟨m1, g1, g2, g3⟩ := x367 (sa := sa) (sv := sv) (d := d) (m := si_ m (o + 26) (c % 5) day) (o + 22) 30 0 (ok22 hO1) (by decide)
  have hO2 := hO1.frd g2 (fun a k z => by omega)
  have e7 : gi_ m1 (o + 19) 7 = nI c := by rw [g2.2.1 _ _ (by omega), gi_si, if_neg (by omega)]; exact hc
  refine ⟨si_ m1 (o + 19) 7 (nI (c + 1)), ?_, Fr.si (P := fun a k => a = o + 26 ∨ a = o + 22 ∨ (a = o + 19 ∧ k = 7)) ((Fr.si (P := fun a k => a = o + 26 ∨ a = o + 22 ∨ (a = o + 19 ∧ k = 7)) (Fr.refl _ _) (Or.inl rfl)).trans (g2.mono fun a k z => Or.inr (Or.inl z))) (Or.inr (Or.inr ⟨rfl, rfl⟩)), fun k => ?_, fun k hk => ?_, by rw [gi_si, if_pos ⟨rfl, rfl⟩], ?_⟩
  · rw [c58, b58_0, hc, pk_rem (by omega) (by decide) (by decide)]
    simp (disch := omega) only [gq_true, gb_true, gb_false, true_and, and_true, eq_self, not_false_eq_true, not_true_eq_false, true_or, or_true, false_or, or_false, false_and, and_false, c0_v, ci_v, cl_v, cf_v, pk_mul, nI_add, nI_clamp, nI_lt0, nI_0le, nI_eq0, nI_lt0r, nI_ltE, nI_leE, nI_eqE, nI_m1, in_t, ba0, ba1, Nat.one_ne_zero, Nat.reduceEqDiff, Nat.reduceLeDiff, Nat.add_eq_zero_iff, ok19 hO, or19_6 hO, ok26 hO, or19_2 hO]
    rw [g1, c0_v]
    simp (disch := omega) only [gq_true, gb_true, gb_false, true_and, and_true, eq_self, not_false_eq_true, not_true_eq_false, true_or, or_true, false_or, or_false, false_and, and_false, c0_v, ci_v, cl_v, cf_v, pk_mul, nI_add, nI_clamp, nI_lt0, nI_0le, nI_eq0, nI_lt0r, nI_ltE, nI_leE, nI_eqE, nI_m1, in_t, ba0, ba1, Nat.one_ne_zero, Nat.reduceEqDiff, Nat.reduceLeDiff, Nat.add_eq_zero_iff, ok19 hO2, e7]
  · rw [gi_si, if_neg (by omega), g2.2.1 _ _ (by omega), gi_si]
    by_cases e : k = c % 5
    · rw [if_pos ⟨rfl, e⟩, if_pos e]
    · rw [if_neg (fun z => e z.2), if_neg e]
  · rw [gl_si]; exact g3 k hk
  · rw [gl_si]; exact funext fun k => g2.2.2.1 _ _ (by omega)
end R79
