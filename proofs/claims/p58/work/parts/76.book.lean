/-! the class books an income: the whole -/
section R76
variable {sa sv d N o B : Nat} {m : am_M} {s : Nat → Int32} {q : Nat → Int64}
def OA (o a : Nat) : Prop := o ≤ a ∧ a < o + 27
theorem bS_o (l : List Ln) {k : Nat} (h6 : ¬ k = 6) (h1 : k < 690 ∨ (762 ≤ k ∧ k < 767) ∨ (k < 762 ∧ ¬ (k - 690) % 6 = 5)) : bS_ s l k = s k := by
  unfold bS_
  rw [if_neg h6, if_neg (by omega), if_neg (by omega)]
theorem bS_d (l : List Ln) {a : Nat} (ha : a < 12) : bS_ s l (690 + 6 * a + 5) = nI ((wh_ s l l.length).1 a) := by
  unfold bS_
  rw [if_neg (by omega), if_neg (by omega), if_pos (by omega), show (690 + 6 * a + 5 - 690) / 6 = a by omega]
theorem bS_l (l : List Ln) {j : Nat} (hj : j < 4 * l.length) : bS_ s l (767 + j) = lnv_ s l j := by
  unfold bS_
  rw [if_neg (by omega), if_pos (by omega), show 767 + j - 767 = j by omega]
theorem bN_o (l : List Ln) (f : Nat → Nat) {k : Nat} (h : 212 ≤ k) : bN_ s l f k = 0 := by
  unfold bN_ bD2 bD3
  rw [if_neg (by omega), if_neg (by omega), if_neg (by omega), if_neg (by omega), if_neg (by omega), if_neg (by omega), if_neg (by omega), if_neg (by omega)]
theorem bN_w (l : List Ln) (f : Nat → Nat) {w : Nat} (h : w < 12) : bN_ s l f (200 + w) = f w := by
  unfold bN_ bD2 bD3
  rw [if_pos (by omega), if_neg (by omega), if_neg (by omega), if_neg (by omega), if_neg (by omega), if_neg (by omega), if_neg (by omega), if_neg (by omega), show 200 + w - 200 = w by omega]
  rfl
theorem bN_e (l : List Ln) (f : Nat → Nat) {p w : Nat} (hp : p < 10) (h : w < 12) : bN_ s l f (80 + 12 * p + w) = ew_ l p w l.length := by
  unfold bN_ bD2 bD3
  rw [if_neg (by omega), if_neg (by omega), if_neg (by omega), if_neg (by omega), if_neg (by omega), if_neg (by omega), if_neg (by omega), if_pos (by omega), show (80 + 12 * p + w - 80) / 12 = p by omega, show (80 + 12 * p + w - 80) % 12 = w by omega]
  omega
theorem bN_b0 (l : List Ln) (f : Nat → Nat) {p : Nat} (hp : p < 10) : bN_ s l f p = og_ s l p l.length + (wh_ s l l.length).2 p := by
  unfold bN_ bD2 bD3
  rw [if_neg (by omega), if_pos (by omega), if_pos (by omega), if_pos (by omega)]
  show 0 + (og_ s l p l.length + (wh_ s l l.length).2 p) + 0 = _
  omega
theorem bD2_t (G R : Nat → Nat) {p c : Nat} (hp : p < 10) (hc : c < 4) : bD2 G R 10 (10 + 4 * p + c) = if c = 2 then R p else 0 := by
  unfold bD2
  rw [if_neg (by omega), if_pos (by omega), show (10 + 4 * p + c - 10) / 4 = p by omega, show (10 + 4 * p + c - 10) % 4 = c by omega]
  by_cases c2 : c = 2
  · rw [if_pos ⟨c2, hp⟩, if_pos c2]
  · rw [if_neg (fun z => c2 z.1), if_neg c2]
theorem bD2_p (G R : Nat → Nat) {p c : Nat} (hp : p < 10) (hc : c < 3) : bD2 G R 10 (50 + 3 * p + c) = if c = 2 then R p else 0 := by
  unfold bD2
  rw [if_neg (by omega), if_neg (by omega), if_pos (by omega), show (50 + 3 * p + c - 50) / 3 = p by omega, show (50 + 3 * p + c - 50) % 3 = c by omega]
  by_cases c2 : c = 2
  · rw [if_pos ⟨c2, hp⟩, if_pos c2]
  · rw [if_neg (fun z => c2 z.1), if_neg c2]
theorem bD3_t (l : List Ln) {p c i : Nat} (hp : p < 10) (hc : c < 4) : bD3 s l i (10 + 4 * p + c) = bA2 s l p c i := by
  unfold bD3 bA2
  rw [if_neg (by omega), if_pos (by omega), show (10 + 4 * p + c - 10) / 4 = p by omega, show (10 + 4 * p + c - 10) % 4 = c by omega]
theorem bD3_p (l : List Ln) {p c i : Nat} (hp : p < 10) (hc : c < 3) : bD3 s l i (50 + 3 * p + c) = bA2 s l p c i := by
  unfold bD3 bA2
  rw [if_neg (by omega), if_neg (by omega), if_pos (by omega), show (50 + 3 * p + c - 50) / 3 = p by omega, show (50 + 3 * p + c - 50) % 3 = c by omega]
theorem bN_t (l : List Ln) (f : Nat → Nat) {p c : Nat} (hp : p < 10) (hc : c < 4) : bN_ s l f (10 + 4 * p + c) = bA2 s l p c l.length + (if c = 2 then (wh_ s l l.length).2 p else 0) := by
  unfold bN_
  rw [if_neg (by omega), bD2_t _ _ hp hc, bD3_t l hp hc]
  omega
theorem bN_p (l : List Ln) (f : Nat → Nat) {p c : Nat} (hp : p < 10) (hc : c < 3) : bN_ s l f (50 + 3 * p + c) = bA2 s l p c l.length + (if c = 2 then (wh_ s l l.length).2 p else 0) := by
  unfold bN_
  rw [if_neg (by omega), bD2_p _ _ hp hc, bD3_p l hp hc]
  omega
end R76
