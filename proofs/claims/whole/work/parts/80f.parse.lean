/-! what may go wrong in a text, and how the reference keeps it -/
abbrev Er : Type := Nat × Nat × Nat
def eb {α β : Type} (r : Er ⊕ α) (f : α → Er ⊕ β) : Er ⊕ β := match r with
  | .inl e => .inl e
  | .inr a => f a
def pst {α : Type} (r : Er ⊕ (Nat × α)) : Er ⊕ Nat := match r with
  | .inl e => .inl e
  | .inr x => .inr x.1
def rr_ {α : Type} (b : Nat → Nat) (n c i : Nat) : Er ⊕ α := .inl (c, St b n i, 0)
/-- a token of this kind; a number -/
def sTake (b : Nat → Nat) (n k i : Nat) : Er ⊕ (Nat × Unit) := if Kd b n i = k then .inr (i + 1, ()) else rr_ b n 1 i
def sNum (b : Nat → Nat) (n lo hi i : Nat) : Er ⊕ (Nat × Nat) := if Kd b n i = 3 then (if lo ≤ Nv b n i ∧ Nv b n i ≤ hi then .inr (i + 1, Nv b n i) else rr_ b n 2 i) else rr_ b n 1 i
/-- the reference's state in a text -/
def RQ (m : am_M) (N : Nat) (b : Nat → Nat) (n : Nat) (σ : Er ⊕ Nat) : Prop := XS m N ∧ GB m N b n ∧ match σ with
  | .inl e => gi_ m (N + 243) 8 = nI e.1 ∧ 0 < e.1 ∧ e.1 < 100 ∧ gi_ m (N + 243) 9 = nI e.2.1 ∧ gi_ m (N + 243) 10 = nI e.2.2
  | .inr i => gi_ m (N + 243) 8 = nI 0 ∧ gi_ m (N + 243) 9 = -1 ∧ gi_ m (N + 243) 10 = nI 0 ∧ RP m N b n i
def RH (N a k : Nat) : Prop := a = N + 243 ∧ ((4 ≤ k ∧ k ≤ 10) ∨ k = 14)
theorem RH.x {N a k : Nat} (h : RH N a k) : XF N a k := XF.a243 h.1 (by have := h.2; omega)
theorem RG.h {N a k : Nat} (h : RG N a k) : RH N a k := ⟨h.1, by have := h.2; omega⟩
theorem srt_1 {k : Nat} : (srt k = 1) ↔ (k = 2 ∨ 7 ≤ k) := by
  unfold srt
  repeat' split
  all_goals omega
theorem srt_2 {k : Nat} : (srt k = 2) ↔ k = 3 := by
  unfold srt
  repeat' split
  all_goals omega
theorem srt_3 {k : Nat} : (srt k = 3) ↔ (k = 4 ∨ k = 5 ∨ k = 6) := by
  unfold srt
  repeat' split
  all_goals omega
theorem srt_4 {k : Nat} : (srt k = 4) ↔ k = 1 := by
  unfold srt
  repeat' split
  all_goals omega
theorem srt_lt (k : Nat) : srt k < 5 := by
  unfold srt
  repeat' split
  all_goals omega
theorem tK_lt (b : Nat → Nat) (n a : Nat) : tK b n a < 28 := by
  unfold tK
  have := wki_2 (Int64.ofNat (wvn b a (wnd b n a - a)))
  repeat' split
  all_goals omega
theorem Kd_lt (b : Nat → Nat) (n i : Nat) : Kd b n i < 28 := by
  unfold Kd
  split
  · exact tK_lt _ _ _
  · omega
/-- the kind of a word is told by its value -/
theorem Kd_w {b : Nat → Nat} {n i : Nat} (h : Kd b n i = 2 ∨ 7 ≤ Kd b n i) : Kd b n i = wki (Vl b n i) := by
  unfold Kd Vl at *
  split at h
  · rename_i h1
    rw [if_pos h1, if_pos h1]
    unfold tK tV at *
    split at h
    · rename_i h2
      rw [if_pos h2, if_pos h2]
      split at h
      · rename_i h3
        rw [if_pos h3]
      · omega
    · exfalso
      repeat' split at h
      all_goals omega
  · omega
section D80
variable {sa sv d N : Nat} {m : am_M} {b : Nat → Nat} {n : Nat} {σ : Er ⊕ Nat}
theorem RQ.x (h : RQ m N b n σ) : XS m N := h.1
theorem RQ.g (h : RQ m N b n σ) : GB m N b n := h.2.1
def gd_s (σ : Er ⊕ Nat) : Bool := match σ with
  | .inl _ => false
  | .inr _ => true
theorem y235 (h : RQ m N b n σ) : am_ca sa sv (d + 1) 235 [.ref (N + 243)] m = some (.inl (some (.int (tr_ (gd_s σ)))), m) := by
  obtain ⟨hX, hG, h⟩ := h
  rw [c235, b235_0]
  cases σ with
  | inl e =>
    obtain ⟨h1, h2, h3, -⟩ := h
    simp (disch := omega) only [gq_true, gb_true, gb_false, true_and, and_true, eq_self, not_false_eq_true, not_true_eq_false, true_or, or_true, false_or, or_false, false_and, and_false, c0_v, ci_v, cl_v, cf_v, pk_mul, nI_add, nI_clamp, nI_lt0, nI_0le, nI_eq0, nI_lt0r, nI_ltE, nI_leE, nI_eqE, nI_m1, in_t, ba0, ba1, Nat.one_ne_zero, Nat.reduceEqDiff, Nat.reduceLeDiff, Nat.add_eq_zero_iff, xk243 hX, h1]
    rw [gb_neg (by omega)]; rfl
  | inr i =>
    simp (disch := omega) only [gq_true, gb_true, gb_false, true_and, and_true, eq_self, not_false_eq_true, not_true_eq_false, true_or, or_true, false_or, or_false, false_and, and_false, c0_v, ci_v, cl_v, cf_v, pk_mul, nI_add, nI_clamp, nI_lt0, nI_0le, nI_eq0, nI_lt0r, nI_ltE, nI_leE, nI_eqE, nI_m1, in_t, ba0, ba1, Nat.one_ne_zero, Nat.reduceEqDiff, Nat.reduceLeDiff, Nat.add_eq_zero_iff, xk243 hX, h.1]
    rfl
/-- an error at token i -/
theorem y234 {i : Nat} (h : RQ m N b n (.inr i)) (c : Nat) (hc : 0 < c) (hc2 : c < 100) (hk : Kd b n i = 1 → c = 1) : ∃ m', am_ca sa sv (d + 1) 234 [.ref (N + 243), .int (nI c)] m = some (.inl none, m') ∧ Fr (RH N) m m' ∧ RQ m' N b n (.inl (c, St b n i, 0)) := by
  obtain ⟨hX, hG, h8, h9, h10, hP⟩ := h
  have e5 : gi_ (si_ m (N + 243) 8 (nI c)) (N + 243) 5 = nI (St b n i) := by rw [gi_si, if_neg (by omega)]; exact hP.2.1
  have hF : Fr (RH N) m (si_ (si_ m (N + 243) 8 (nI c)) (N + 243) 9 (nI (St b n i))) := ((Fr.refl _ _).si ⟨rfl, by omega⟩).si ⟨rfl, by omega⟩
  have hs := srt_lt (Kd b n i)
  refine ⟨si_ (si_ m (N + 243) 8 (nI c)) (N + 243) 9 (nI (St b n i)), ?_, hF, hX.frg hF (fun _ _ z => z.x), hG.fr hF (fun k => by unfold RH; omega) (by unfold RH; omega), by rw [gi_si, if_neg (by omega), gi_si, if_pos ⟨rfl, rfl⟩], hc, hc2, by rw [gi_si, if_pos ⟨rfl, rfl⟩], by rw [gi_si, if_neg (by omega), gi_si, if_neg (by omega)]; exact h10⟩
  rw [c234, b234_0]
  simp (disch := omega) only [gq_true, gb_true, gb_false, true_and, and_true, eq_self, not_false_eq_true, not_true_eq_false, true_or, or_true, false_or, or_false, false_and, and_false, c0_v, ci_v, cl_v, cf_v, pk_mul, nI_add, nI_clamp, nI_lt0, nI_0le, nI_eq0, nI_lt0r, nI_ltE, nI_leE, nI_eqE, nI_m1, in_t, ba0, ba1, Nat.one_ne_zero, Nat.reduceEqDiff, Nat.reduceLeDiff, Nat.add_eq_zero_iff, nI_le0, xk243 hX, h8, hP.2.2.1]
  by_cases e : srt (Kd b n i) = 4
  · have := hk (srt_4.mp e)
    subst this
    rw [gb_pos e]
    simp (disch := omega) only [gq_true, gb_true, gb_false, true_and, and_true, eq_self, not_false_eq_true, not_true_eq_false, true_or, or_true, false_or, or_false, false_and, and_false, c0_v, ci_v, cl_v, cf_v, pk_mul, nI_add, nI_clamp, nI_lt0, nI_0le, nI_eq0, nI_lt0r, nI_ltE, nI_leE, nI_eqE, nI_m1, in_t, ba0, ba1, Nat.one_ne_zero, Nat.reduceEqDiff, Nat.reduceLeDiff, Nat.add_eq_zero_iff, e5]
  · rw [gb_neg e]
    simp (disch := omega) only [gq_true, gb_true, gb_false, true_and, and_true, eq_self, not_false_eq_true, not_true_eq_false, true_or, or_true, false_or, or_false, false_and, and_false, c0_v, ci_v, cl_v, cf_v, pk_mul, nI_add, nI_clamp, nI_lt0, nI_0le, nI_eq0, nI_lt0r, nI_ltE, nI_leE, nI_eqE, nI_m1, in_t, ba0, ba1, Nat.one_ne_zero, Nat.reduceEqDiff, Nat.reduceLeDiff, Nat.add_eq_zero_iff, e5]
theorem y234e {e : Er} (h : RQ m N b n (.inl e)) (c : Int32) : am_ca sa sv (d + 1) 234 [.ref (N + 243), .int c] m = some (.inl none, m) := by
  obtain ⟨hX, hG, h1, h2, h3, -⟩ := h
  rw [c234, b234_0]
  simp (disch := omega) only [gq_true, gb_true, gb_false, true_and, and_true, eq_self, not_false_eq_true, not_true_eq_false, true_or, or_true, false_or, or_false, false_and, and_false, c0_v, ci_v, cl_v, cf_v, pk_mul, nI_add, nI_clamp, nI_lt0, nI_0le, nI_eq0, nI_lt0r, nI_ltE, nI_leE, nI_eqE, nI_m1, in_t, ba0, ba1, Nat.one_ne_zero, Nat.reduceEqDiff, Nat.reduceLeDiff, Nat.add_eq_zero_iff, nI_le0, xk243 hX, h1]
  rw [gb_neg (by omega)]
/-- on from token i -/
theorem y233n {i : Nat} (h : RQ m N b n (.inr i)) : ∃ m', am_ca sa sv (d + 2) 233 [.ref (N + 243)] m = some (.inl none, m') ∧ Fr (RH N) m m' ∧ RQ m' N b n (.inr (i + 1)) := by
  obtain ⟨hX, hG, h8, h9, h10, hP⟩ := h
  obtain ⟨m', g1, g2, g3⟩ := y233 (sa := sa) (sv := sv) (d := d) (i := i + 1) hX hG hP.1
  exact ⟨m', g1, g2.mono fun _ _ z => z.h, hX.frg g2 (fun _ _ z => z.x), hG.fr g2 (fun k => by unfold RG; omega) (by unfold RG; omega), (g2.2.1 _ _ (by unfold RG; omega)).trans h8, (g2.2.1 _ _ (by unfold RG; omega)).trans h9, (g2.2.1 _ _ (by unfold RG; omega)).trans h10, g3⟩
/-- is it this word, this sign, a name -/
def isK (b : Nat → Nat) (n k : Nat) (σ : Er ⊕ Nat) : Bool := match σ with
  | .inl _ => false
  | .inr i => decide (Kd b n i = k)
theorem y236 (h : RQ m N b n σ) (k : Nat) (hk : k < 21) : am_ca sa sv (d + 1) 236 [.ref (N + 243), .long (qi_ k)] m = some (.inl (some (.int (tr_ (isK b n (7 + k) σ)))), m) := by
  obtain ⟨hX, hG, h⟩ := h
  rw [c236, b236_0]
  cases σ with
  | inl e =>
    obtain ⟨h1, h2, h3, -⟩ := h
    simp (disch := omega) only [gq_true, gb_true, gb_false, true_and, and_true, eq_self, not_false_eq_true, not_true_eq_false, true_or, or_true, false_or, or_false, false_and, and_false, c0_v, ci_v, cl_v, cf_v, pk_mul, nI_add, nI_clamp, nI_lt0, nI_0le, nI_eq0, nI_lt0r, nI_ltE, nI_leE, nI_eqE, nI_m1, in_t, ba0, ba1, Nat.one_ne_zero, Nat.reduceEqDiff, Nat.reduceLeDiff, Nat.add_eq_zero_iff, xk243 hX, h1]
    rw [gb_neg (by omega)]; rfl
  | inr i =>
    obtain ⟨h8, h9, h10, hP⟩ := h
    have hs := srt_lt (Kd b n i)
    simp (disch := omega) only [gq_true, gb_true, gb_false, true_and, and_true, eq_self, not_false_eq_true, not_true_eq_false, true_or, or_true, false_or, or_false, false_and, and_false, c0_v, ci_v, cl_v, cf_v, pk_mul, nI_add, nI_clamp, nI_lt0, nI_0le, nI_eq0, nI_lt0r, nI_ltE, nI_leE, nI_eqE, nI_m1, in_t, ba0, ba1, Nat.one_ne_zero, Nat.reduceEqDiff, Nat.reduceLeDiff, Nat.add_eq_zero_iff, xk243 hX, h8, hP.2.2.1, lgc_eq]
    by_cases e : srt (Kd b n i) = 1
    · rw [gb_pos e, hP.2.2.2.2.2.2.2 e]
      have hw := Kd_w (srt_1.mp e)
      have := wki_q hk (Vl b n i)
      by_cases e2 : Vl b n i = qi_ k
      · rw [gb_pos e2]
        rw [show isK b n (7 + k) (.inr i) = decide (Kd b n i = 7 + k) from rfl]
        rw [decide_eq_true (hw.trans (this.mpr e2))]; rfl
      · rw [gb_neg e2]
        rw [show isK b n (7 + k) (.inr i) = decide (Kd b n i = 7 + k) from rfl]
        rw [decide_eq_false (fun z => e2 (this.mp (hw.symm.trans z)))]; rfl
    · rw [gb_neg e]
      rw [show isK b n (7 + k) (.inr i) = decide (Kd b n i = 7 + k) from rfl]
      rw [decide_eq_false (fun z => e (srt_1.mpr (Or.inr (by omega))))]; rfl
theorem y237 (h : RQ m N b n σ) (k c : Nat) (hk : (k = 4 ∧ c = 59) ∨ (k = 5 ∧ c = 40) ∨ (k = 6 ∧ c = 41)) : am_ca sa sv (d + 1) 237 [.ref (N + 243), .int (nI c)] m = some (.inl (some (.int (tr_ (isK b n k σ)))), m) := by
  obtain ⟨hX, hG, h⟩ := h
  rw [c237, b237_0]
  cases σ with
  | inl e =>
    obtain ⟨h1, h2, h3, -⟩ := h
    simp (disch := omega) only [gq_true, gb_true, gb_false, true_and, and_true, eq_self, not_false_eq_true, not_true_eq_false, true_or, or_true, false_or, or_false, false_and, and_false, c0_v, ci_v, cl_v, cf_v, pk_mul, nI_add, nI_clamp, nI_lt0, nI_0le, nI_eq0, nI_lt0r, nI_ltE, nI_leE, nI_eqE, nI_m1, in_t, ba0, ba1, Nat.one_ne_zero, Nat.reduceEqDiff, Nat.reduceLeDiff, Nat.add_eq_zero_iff, xk243 hX, h1]
    rw [gb_neg (by omega)]; rfl
  | inr i =>
    obtain ⟨h8, h9, h10, hP⟩ := h
    have hs := srt_lt (Kd b n i)
    simp (disch := omega) only [gq_true, gb_true, gb_false, true_and, and_true, eq_self, not_false_eq_true, not_true_eq_false, true_or, or_true, false_or, or_false, false_and, and_false, c0_v, ci_v, cl_v, cf_v, pk_mul, nI_add, nI_clamp, nI_lt0, nI_0le, nI_eq0, nI_lt0r, nI_ltE, nI_leE, nI_eqE, nI_m1, in_t, ba0, ba1, Nat.one_ne_zero, Nat.reduceEqDiff, Nat.reduceLeDiff, Nat.add_eq_zero_iff, xk243 hX, h8, hP.2.2.1]
    rw [show isK b n k (.inr i) = decide (Kd b n i = k) from rfl]
    by_cases e : srt (Kd b n i) = 3
    · rw [gb_pos e]
      rcases srt_3.mp e with e2 | e2 | e2
      · rw [hP.2.2.2.2.1 e2, nI_eqE (by omega) (by omega)]
        by_cases e3 : k = 4
        · rw [gb_pos (by omega), decide_eq_true (by omega)]; rfl
        · rw [gb_neg (by omega), decide_eq_false (by omega)]; rfl
      · rw [hP.2.2.2.2.2.1 e2, nI_eqE (by omega) (by omega)]
        by_cases e3 : k = 5
        · rw [gb_pos (by omega), decide_eq_true (by omega)]; rfl
        · rw [gb_neg (by omega), decide_eq_false (by omega)]; rfl
      · rw [hP.2.2.2.2.2.2.1 e2, nI_eqE (by omega) (by omega)]
        by_cases e3 : k = 6
        · rw [gb_pos (by omega), decide_eq_true (by omega)]; rfl
        · rw [gb_neg (by omega), decide_eq_false (by omega)]; rfl
    · rw [gb_neg e, decide_eq_false (fun z => e (srt_3.mpr (by omega)))]; rfl
end D80
