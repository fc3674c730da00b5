/-! what is always so of works stays so behind a split, a source, a work more -/
def PWn (s : Nat → Int32) (w n : Nat) : Prop :=
  (0 < n → s (19 + 48 * w) = nI 0) ∧
  (∀ k, k < n → isN (s (19 + 48 * w + k)) 10000) ∧
  (∀ k, k + 1 < n → cN s (19 + 48 * w + k) < cN s (19 + 48 * w + (k + 1))) ∧
  (∀ k, k < n → isN (s (23 + 48 * w + k)) 5 ∧ 0 < cN s (23 + 48 * w + k)) ∧
  (∀ k j, k < n → j < cN s (23 + 48 * w + k) → isN (s (27 + 48 * w + 4 * k + j)) (cN s 0)) ∧
  (∀ k i j, k < n → j < cN s (23 + 48 * w + k) → i < j → cN s (27 + 48 * w + 4 * k + i) ≠ cN s (27 + 48 * w + 4 * k + j)) ∧
  (∀ k j, k < n → j < cN s (23 + 48 * w + k) → isN (s (43 + 48 * w + 4 * k + j)) 101 ∧ 0 < cN s (43 + 48 * w + 4 * k + j)) ∧
  (∀ k, k < n → sum_ (fun j => cN s (43 + 48 * w + 4 * k + j)) (cN s (23 + 48 * w + k)) = 100)
def SWn (s : Nat → Int32) (w n : Nat) : Prop := (∀ i, i < n → isN (s (60 + 48 * w + i)) w) ∧ (∀ i, i < n → isN (s (63 + 48 * w + i)) 91) ∧ sum_ (fun i => cN s (63 + 48 * w + i)) n ≤ 90
def PW (s : Nat → Int32) (w : Nat) : Prop := (isN (s (18 + 48 * w)) 5 ∧ 0 < cN s (18 + 48 * w)) ∧ PWn s w (cN s (18 + 48 * w)) ∧ isN (s (59 + 48 * w)) 4 ∧ SWn s w (cN s (59 + 48 * w))
theorem ww_iff {s : Nat → Int32} : WW s ↔ (∀ w, w < cN s 1 → PW s w) ∧ ∀ w, cN s 1 ≤ w → w < 12 → s (18 + 48 * w) = 0 ∧ s (59 + 48 * w) = 0 := by
  constructor
  · rintro ⟨a1, a2, a3, a4, a5, a6, a7, a8, a9, b1, b2, b3, b4, b5⟩
    exact ⟨fun w hw => ⟨a1 w hw, ⟨fun _ => a2 w hw, fun k => a3 w k hw, fun k => a4 w k hw, fun k => a5 w k hw, fun k j => a6 w k j hw, fun k i j => a7 w k i j hw, fun k j => a8 w k j hw, fun k => a9 w k hw⟩, b1 w hw, fun i => b2 w i hw, fun i => b3 w i hw, b4 w hw⟩, b5⟩
  · rintro ⟨h, b5⟩
    exact ⟨fun w hw => (h w hw).1, fun w hw => (h w hw).2.1.1 (h w hw).1.2, fun w k hw => (h w hw).2.1.2.1 k, fun w k hw => (h w hw).2.1.2.2.1 k, fun w k hw => (h w hw).2.1.2.2.2.1 k, fun w k j hw => (h w hw).2.1.2.2.2.2.1 k j, fun w k i j hw => (h w hw).2.1.2.2.2.2.2.1 k i j, fun w k j hw => (h w hw).2.1.2.2.2.2.2.2.1 k j, fun w k hw => (h w hw).2.1.2.2.2.2.2.2.2 k, fun w hw => (h w hw).2.2.1, fun w i hw => (h w hw).2.2.2.1 i, fun w i hw => (h w hw).2.2.2.2.1 i, fun w hw => (h w hw).2.2.2.2.2, b5⟩
def LG (s : Nat → Int32) (L : List (Nat × Nat)) : Prop := 0 < L.length ∧ L.length ≤ 4 ∧ (∀ (j : Nat) (x : Nat × Nat), L[j]? = some x → x.1 < cN s 0 ∧ 0 < x.2 ∧ x.2 ≤ 100) ∧ (∀ (i j : Nat) (x y : Nat × Nat), i < j → L[i]? = some x → L[j]? = some y → x.1 ≠ y.1)
section W84
variable {s s' : Nat → Int32} {q q' : Nat → Int64} {L : List (Nat × Nat)} {B : Nat}
theorem PWn.cg {w n : Nat} (h : PWn s w n) (hn : n ≤ 4) (h0 : cN s' 0 = cN s 0) (hk : ∀ k, 19 + 48 * w ≤ k → k < 59 + 48 * w → s' k = s k) : PWn s' w n := by
  obtain ⟨a1, a2, a3, a4, a5, a6, a7, a8⟩ := h
  have b4 : ∀ k, k < n → cN s (23 + 48 * w + k) < 5 := fun k hk => isN_lt (a4 k hk).1 (by decide)
  have c4 : ∀ k, k < n → cN s' (23 + 48 * w + k) = cN s (23 + 48 * w + k) := fun k h => cN_cg (hk _ (by omega) (by omega))
  refine ⟨fun h => ?_, fun k h => ?_, fun k h => ?_, fun k h => ?_, fun k j h h2 => ?_, fun k i j h h2 h3 => ?_, fun k j h h2 => ?_, fun k h => ?_⟩
  · rw [hk _ (by omega) (by omega)]; exact a1 h
  · rw [hk _ (by omega) (by omega)]; exact a2 k h
  · rw [cN_cg (hk (19 + 48 * w + k) (by omega) (by omega)), cN_cg (hk (19 + 48 * w + (k + 1)) (by omega) (by omega))]; exact a3 k h
  · rw [c4 k h, hk _ (by omega) (by omega)]; exact a4 k h
  · rw [c4 k h] at h2; have := b4 k h; rw [h0, hk _ (by omega) (by omega)]; exact a5 k j h h2
  · rw [c4 k h] at h2; have := b4 k h; rw [cN_cg (hk (27 + 48 * w + 4 * k + i) (by omega) (by omega)), cN_cg (hk (27 + 48 * w + 4 * k + j) (by omega) (by omega))]; exact a6 k i j h h2 h3
  · rw [c4 k h] at h2; have := b4 k h; rw [cN_cg (hk (43 + 48 * w + 4 * k + j) (by omega) (by omega)), hk _ (by omega) (by omega)]; exact a7 k j h h2
  · rw [c4 k h]; have := b4 k h; rw [sum_cg fun j hj => cN_cg (hk (43 + 48 * w + 4 * k + j) (by omega) (by omega))]; exact a8 k h
theorem SWn.cg {w n : Nat} (h : SWn s w n) (hn : n ≤ 3) (hk : ∀ k, 60 + 48 * w ≤ k → k < 66 + 48 * w → s' k = s k) : SWn s' w n := by
  obtain ⟨a1, a2, a3⟩ := h
  refine ⟨fun i h => ?_, fun i h => ?_, ?_⟩
  · rw [hk _ (by omega) (by omega)]; exact a1 i h
  · rw [hk _ (by omega) (by omega)]; exact a2 i h
  · rw [sum_cg fun j hj => cN_cg (hk (63 + 48 * w + j) (by omega) (by omega))]; exact a3
theorem PW.cg {w : Nat} (h : PW s w) (h0 : cN s' 0 = cN s 0) (hk : ∀ k, 18 + 48 * w ≤ k → k < 66 + 48 * w → s' k = s k) : PW s' w := by
  obtain ⟨a1, a2, a3, a4⟩ := h
  have n1 := isN_lt a1.1 (by decide)
  have n2 := isN_lt a3 (by decide)
  unfold PW
  rw [cN_cg (hk (18 + 48 * w) (by omega) (by omega)), cN_cg (hk (59 + 48 * w) (by omega) (by omega)), hk _ (by omega) (by omega), hk _ (by omega) (by omega)]
  exact ⟨a1, a2.cg (by omega) h0 (fun k _ _ => hk k (by omega) (by omega)), a3, a4.cg (by omega) (fun k _ _ => hk k (by omega) (by omega))⟩
theorem lsum_sum (L : List (Nat × Nat)) : ∀ k, k ≤ L.length → sum_ (fun j => (L.getD j (0, 0)).2) k = lsum (L.take k) := by
  intro k
  induction k with
  | zero => intro _; rfl
  | succ k ih =>
    intro hk
    have hx : L[k]? = some L[k] := List.getElem?_eq_getElem (by omega)
    generalize L[k] = x at hx
    rw [lsum_take hx, ← ih (by omega)]
    show sum_ _ k + (L.getD k (0, 0)).2 = _
    rw [getD_some hx]
theorem PWn.spl {w n day : Nat} (h : PWn s w n) (hn : n < 4) (hL : LG s L) (hS : lsum L = 100) (hp : cN s 0 ≤ 10) (hd : day < 10000) (h0 : n = 0 → day = 0) (h1 : 0 < n → cN s (19 + 48 * w + (n - 1)) < day) : PWn (splU s w n day L) w (n + 1) := by
  obtain ⟨l1, l2, l3, l4⟩ := hL
  have e0 : cN (splU s w n day L) 0 = cN s 0 := cN_cg (by unfold splU; rw [if_neg (by omega), if_neg (by omega), if_neg (by omega), if_neg (by omega), if_neg (by omega)])
  have hs : ∀ k, ¬ (k = 18 + 48 * w ∨ k = 19 + 48 * w + n ∨ k = 23 + 48 * w + n ∨ (27 + 48 * w + 4 * n ≤ k ∧ k < 31 + 48 * w + 4 * n) ∨ (43 + 48 * w + 4 * n ≤ k ∧ k < 47 + 48 * w + 4 * n)) → splU s w n day L k = s k := fun k z => by
    unfold splU; rw [if_neg (by omega), if_neg (by omega), if_neg (by omega), if_neg (by omega), if_neg (by omega)]
  have u1 : splU s w n day L (19 + 48 * w + n) = nI day := by unfold splU; rw [if_neg (by omega), if_pos rfl]
  have u2 : splU s w n day L (23 + 48 * w + n) = nI L.length := by unfold splU; rw [if_neg (by omega), if_neg (by omega), if_pos rfl]
  have u3 : ∀ j, j < L.length → splU s w n day L (27 + 48 * w + 4 * n + j) = nI (L.getD j (0, 0)).1 := fun j hj => by unfold splU; rw [if_neg (by omega), if_neg (by omega), if_neg (by omega), if_pos (by omega), show 27 + 48 * w + 4 * n + j - (27 + 48 * w + 4 * n) = j by omega]
  have u4 : ∀ j, j < L.length → splU s w n day L (43 + 48 * w + 4 * n + j) = nI (L.getD j (0, 0)).2 := fun j hj => by unfold splU; rw [if_neg (by omega), if_neg (by omega), if_neg (by omega), if_neg (by omega), if_pos (by omega), show 43 + 48 * w + 4 * n + j - (43 + 48 * w + 4 * n) = j by omega]
  have c1 : cN (splU s w n day L) (19 + 48 * w + n) = day := cN_ u1 (by omega)
  have c2 : cN (splU s w n day L) (23 + 48 * w + n) = L.length := cN_ u2 (by omega)
  have lg : ∀ j, j < L.length → (L.getD j (0, 0)).1 < cN s 0 ∧ 0 < (L.getD j (0, 0)).2 ∧ (L.getD j (0, 0)).2 ≤ 100 := fun j hj => by
    have hx : L[j]? = some L[j] := List.getElem?_eq_getElem hj
    rw [getD_some hx]; exact l3 j _ hx
  have c3 : ∀ j, j < L.length → cN (splU s w n day L) (27 + 48 * w + 4 * n + j) = (L.getD j (0, 0)).1 := fun j hj => cN_ (u3 j hj) (by have := (lg j hj).1; omega)
  have c5 : ∀ j, j < L.length → cN (splU s w n day L) (43 + 48 * w + 4 * n + j) = (L.getD j (0, 0)).2 := fun j hj => cN_ (u4 j hj) (by have := (lg j hj).2; omega)
  obtain ⟨a1, a2, a3, a4, a5, a6, a7, a8⟩ := h
  have b4 : ∀ k, k < n → cN s (23 + 48 * w + k) < 5 := fun k hk => isN_lt (a4 k hk).1 (by decide)
  have c4 : ∀ k, k < n → cN (splU s w n day L) (23 + 48 * w + k) = cN s (23 + 48 * w + k) := fun k h => cN_cg (hs _ (by omega))
  refine ⟨fun h => ?_, fun k h => ?_, fun k h => ?_, fun k h => ?_, fun k j h h2 => ?_, fun k i j h h2 h3 => ?_, fun k j h h2 => ?_, fun k h => ?_⟩
  · by_cases e : n = 0
    · obtain rfl := e
      have := u1
      rw [h0 rfl] at this ⊢
      exact this
    · rw [hs _ (by omega)]; exact a1 (by omega)
  · by_cases e : k = n
    · subst e; exact ⟨day, hd, u1⟩
    · rw [hs _ (by omega)]; exact a2 k (by omega)
  · by_cases e : k + 1 = n
    · rw [e, c1, cN_cg (hs (19 + 48 * w + k) (by omega)), show k = n - 1 by omega]; exact h1 (by omega)
    · rw [cN_cg (hs (19 + 48 * w + k) (by omega)), cN_cg (hs (19 + 48 * w + (k + 1)) (by omega))]; exact a3 k (by omega)
  · by_cases e : k = n
    · subst e; rw [c2]; exact ⟨⟨L.length, by omega, u2⟩, l1⟩
    · rw [c4 k (by omega), hs _ (by omega)]; exact a4 k (by omega)
  · by_cases e : k = n
    · subst e; rw [c2] at h2; rw [e0]; exact ⟨_, (lg j h2).1, u3 j h2⟩
    · rw [c4 k (by omega)] at h2; have := b4 k (by omega); rw [e0, hs _ (by omega)]; exact a5 k j (by omega) h2
  · by_cases e : k = n
    · subst e
      rw [c2] at h2
      rw [c3 i (by omega), c3 j h2]
      have hx : L[i]? = some L[i] := List.getElem?_eq_getElem (by omega)
      have hy : L[j]? = some L[j] := List.getElem?_eq_getElem h2
      rw [getD_some hx, getD_some hy]
      exact l4 i j _ _ h3 hx hy
    · rw [c4 k (by omega)] at h2; have := b4 k (by omega); rw [cN_cg (hs (27 + 48 * w + 4 * k + i) (by omega)), cN_cg (hs (27 + 48 * w + 4 * k + j) (by omega))]; exact a6 k i j (by omega) h2 h3
  · by_cases e : k = n
    · subst e; rw [c2] at h2; rw [c5 j h2]; exact ⟨⟨_, by have := (lg j h2).2; omega, u4 j h2⟩, (lg j h2).2.1⟩
    · rw [c4 k (by omega)] at h2; have := b4 k (by omega); rw [cN_cg (hs (43 + 48 * w + 4 * k + j) (by omega)), hs _ (by omega)]; exact a7 k j (by omega) h2
  · by_cases e : k = n
    · subst e
      rw [c2, sum_cg fun j hj => c5 j hj, lsum_sum L L.length (Nat.le_refl _), List.take_length]; exact hS
    · rw [c4 k (by omega)]; have := b4 k (by omega); rw [sum_cg fun j hj => cN_cg (hs (43 + 48 * w + 4 * k + j) (by omega))]; exact a8 k (by omega)
theorem SWn.src {w n so pc : Nat} (h : SWn s w n) (hn : n < 3) (h1 : so < w) (h2 : pc < 91) (h3 : sum_ (fun i => cN s (63 + 48 * w + i)) n + pc ≤ 90) : SWn (srcU s w n so pc) w (n + 1) := by
  have hs : ∀ k, ¬ (k = 59 + 48 * w ∨ k = 60 + 48 * w + n ∨ k = 63 + 48 * w + n) → srcU s w n so pc k = s k := fun k z => by
    unfold srcU; rw [if_neg (by omega), if_neg (by omega), if_neg (by omega)]
  have u1 : srcU s w n so pc (60 + 48 * w + n) = nI so := by unfold srcU; rw [if_neg (by omega), if_pos rfl]
  have u2 : srcU s w n so pc (63 + 48 * w + n) = nI pc := by unfold srcU; rw [if_neg (by omega), if_neg (by omega), if_pos rfl]
  obtain ⟨a1, a2, a3⟩ := h
  refine ⟨fun i h => ?_, fun i h => ?_, ?_⟩
  · by_cases e : i = n
    · subst e; exact ⟨so, h1, u1⟩
    · rw [hs _ (by omega)]; exact a1 i (by omega)
  · by_cases e : i = n
    · subst e; exact ⟨pc, h2, u2⟩
    · rw [hs _ (by omega)]; exact a2 i (by omega)
  · show sum_ _ n + cN _ _ ≤ 90
    rw [sum_cg fun j hj => cN_cg (hs (63 + 48 * w + j) (by omega)), cN_ u2 (by omega)]; exact h3
end W84
