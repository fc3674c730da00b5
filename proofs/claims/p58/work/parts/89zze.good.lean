/-! what is always so stays so over each call -/
section I89
variable {B B' : Nat} {X : TX} {s : Nat → Int32} {q : Nat → Int64}
theorem XG.rem (h : XG B X) : XG B X.rem := ⟨h.1, fun i hi => by
  show WG B (if i < min X.u 4 then X.ps (i + (X.u - min X.u 4)) else X.s) (if i < min X.u 4 then X.pq (i + (X.u - min X.u 4)) else X.q)
  by_cases z : i < min X.u 4
  · rw [if_pos z, if_pos z]; exact h.2.1 _ (by omega)
  · rw [if_neg z, if_neg z]; exact h.1, h.2.2⟩
theorem XG.wS (h : XG B X) (hw : WG B s q) : XG B (X.wS s q) := ⟨hw, h.2.1, h.2.2⟩
theorem XG.wE (h : XG B X) (a b c : Int32) : XG B (X.wE a b c) := h
theorem XG.wB (h : XG B X) (b : Nat → Nat) (n : Nat) : XG B (X.wB b n) := h
theorem XG.wR (h : XG B X) (r : Nat) (b : Nat → Nat) : XG B (X.wR r b) := h
theorem XG.wH0 (h : XG B X) (ps : Nat → Nat → Int32) (pq : Nat → Nat → Int64) : XG B (X.wH 0 ps pq) := ⟨h.1, fun i hi => absurd hi (Nat.not_lt_zero _), h.2.2⟩
theorem XG.fed (h : XG B X) (a b c e f : Int32) : XG B (fedX X a b c e f) := by
  unfold fedX
  split
  · exact h.wB _ _
  · exact h
theorem XG.cut (h : XG B X) (l : Int32) : XG B (cutX X l) := by
  unfold cutX
  split
  · exact h.wB _ _
  · exact h
theorem XG.un (h : XG B X) : XG B (unX X) := by
  unfold unX
  split
  · exact h
  · exact ⟨h.2.1 _ (by omega), fun i (hi : i < X.u - 1) => h.2.1 i (by omega), h.2.2⟩
theorem XG.sa (h : XG B X) : XG B (saX X) := ⟨h.1, h.2.1, fun _ => h.1⟩
theorem XG.re (h : XG B X) : XG B (reX X) := by
  unfold reX
  split
  · rename_i z
    exact (h.wS (h.2.2 z)).wH0 _ _
  · exact h
theorem XG.inc (h : XG B X) (hB : B < 2 ^ 29) (w a : Int32) : XG (B + 1) (incX X w a) := by
  have hC := h.1.C
  have hF := h.1.1
  have n1 := isN_lt (wc_nw hC) (by decide)
  unfold incX
  cases z : inR w (cN X.s 1) && amt_ a with
  | false => exact h.mono (by omega)
  | true =>
    rw [Bool.and_eq_true] at z
    obtain ⟨k, hk, rfl⟩ := (inR_t (by omega)).mp z.1
    obtain ⟨y, a1, a2, rfl⟩ := amt_t.mp z.2
    rw [nI_clamp (by omega), nI_clamp (by omega)]
    exact (h.rem.mono (by omega)).wS (h.1.book (by omega) (dvd_64 hC (wf_w hF) _ _ _ hk) (by have := dvd_lsm hC (wf_w hF) (wf_a hF) (cN X.s 4) k y hk; show lsm_ (dvd_ X.s (cN X.s 4) k y).2 ≤ _; omega) (dvd_GL hC (wf_w hF) (wf_a hF) _ _ _ hk a2) (fun u => by have := dvd_le hC (wf_w hF) (wf_a hF) (cN X.s 4) k y hk u; omega) (fun u hu => dvd_hi hC (wf_w hF) _ _ _ hk hu))
theorem XG.pas (h : XG B X) (x : Int32) : XG B (pasX X x) := by
  unfold pasX
  cases z : cps_ X.s x with
  | false => exact h
  | true =>
    unfold cps_ at z
    rw [Bool.and_eq_true] at z
    obtain ⟨k, hk, rfl⟩ := (inR_t (by omega)).mp z.1
    have a2 := of_decide_eq_true z.2
    obtain ⟨e4, b4⟩ := (wc_day h.1.C).c (by decide)
    rw [e4, nI_toInt (by omega), nI_toInt (by omega)] at a2
    have := h.1.day (cN X.s 4 + k) (by omega)
    refine h.rem.wS ?_
    rw [e4, nI_add]
    exact this
theorem XG.rev (h : XG B X) (a x : Int32) : XG B (revX X a x) := by
  have hC := h.1.C
  have hF := h.1.1
  have na := isN_lt (wc_na hC) (by decide)
  unfold revX
  cases z : inR a (cN X.s 2) && crv_ X.s a.toNatClampNeg x with
  | false => exact h
  | true =>
    rw [Bool.and_eq_true] at z
    obtain ⟨k, hk, rfl⟩ := (inR_t (by omega)).mp z.1
    have c3 := of_decide_eq_true z.2
    rw [nI_clamp (by omega)] at c3 ⊢
    obtain ⟨u1, u2⟩ := (wa_u (wf_a hF) k hk).c (by decide)
    obtain ⟨e4, b4⟩ := (wc_day hC).c (by decide)
    have l1 := c3.1
    have l2 := c3.2.1
    rw [e4, Int32.le_iff_toInt_le, nI_toInt (by omega)] at l1
    rw [u1, Int32.lt_iff_toInt_lt, nI_toInt (by omega)] at l2
    have hx : inR x (cN X.s (594 + 6 * k + 5)) = true := decide_eq_true ⟨by omega, l2⟩
    obtain ⟨n, hn, rfl⟩ := (inR_t (by omega)).mp hx
    exact h.rem.wS (h.1.revert k n hk hn)
theorem XG.lea (h : XG B X) (p x : Int32) : XG B (leaX X p x) := by
  have n0 := isN_lt (wc_np h.1.C) (by decide)
  unfold leaX
  cases z : inR p (cN X.s 0) && inR x 100000 with
  | false => exact h
  | true =>
    rw [Bool.and_eq_true] at z
    obtain ⟨k, hk, rfl⟩ := (inR_t (by omega)).mp z.1
    obtain ⟨n, hn, rfl⟩ := (inR_t (by omega)).mp z.2
    rw [nI_clamp (by omega)]
    exact h.rem.wS (h.1.least k n (by omega) hn)
theorem XG.clo (h : XG B X) (hB : B < 2 ^ 29) : XG (B + 1) (cloX X) := (h.rem.mono (by omega)).wS (h.1.close hB)
end I89
