/-! the best day -/
def bst_ (f : Nat → Nat) (lo : Nat) : Nat → Nat
  | 0 => lo
  | n + 1 => if f (bst_ f lo n) < f (lo + (n + 1)) then lo + (n + 1) else bst_ f lo n
theorem bst_ge (f : Nat → Nat) (lo : Nat) : ∀ n, f (lo + n) ≤ f (bst_ f lo n) := by
  intro n
  cases n with
  | zero => exact Nat.le_refl _
  | succ n =>
    rw [bst_]
    split
    · exact Nat.le_refl _
    · omega
theorem bst_st (f : Nat → Nat) (lo n : Nat) : ∀ j, (∀ i, i ≤ j → f (lo + (n + i)) = f (lo + n)) → bst_ f lo (n + j) = bst_ f lo n := by
  intro j
  induction j with
  | zero => exact fun _ => rfl
  | succ j ih =>
    intro h
    have h1 := ih fun i hi => h i (by omega)
    have h2 := h (j + 1) (Nat.le_refl _)
    have h3 := bst_ge f lo n
    show bst_ f lo (n + j + 1) = _
    rw [bst_, h1, show n + j + 1 = n + (j + 1) by omega, if_neg (by omega)]
theorem bst_le (f : Nat → Nat) (lo : Nat) : ∀ n, bst_ f lo n ≤ lo + n := by
  intro n
  induction n with
  | zero => exact Nat.le_refl _
  | succ n ih => rw [bst_]; split <;> omega
/-- what p earns of an income to w on a day -/
def er_ (s : Nat → Int32) (w a p day : Nat) : Nat := eg_ (dvd_ s day w a).2 p (dvd_ s day w a).2.length
theorem eg_le {l : List Ln} (p : Nat) : ∀ i, i ≤ l.length → eg_ l p i ≤ lsm_ (l.take i) := by
  intro i
  induction i with
  | zero => exact fun _ => Nat.zero_le _
  | succ i ih =>
    intro hi
    have hx : l[i]? = some l[i] := List.getElem?_eq_getElem (by omega)
    generalize l[i] = x at hx
    have e : l.take (i + 1) = l.take i ++ [x] := by
      rw [List.take_succ, hx]; rfl
    rw [e, lsm_app, eg_s hx]
    have := ih (by omega)
    show _ ≤ lsm_ (l.take i) + (x.2.2.1 + 0)
    split <;> omega
theorem er_le {s : Nat → Int32} (hC : WC s) (hW : WW s) (hA : WA s) (w a p day : Nat) (hw : w < cN s 1) : er_ s w a p day ≤ a := by
  have h1 := eg_le (l := (dvd_ s day w a).2) p _ (Nat.le_refl _)
  rw [List.take_length] at h1
  exact Nat.le_trans h1 (dvd_lsm hC hW hA day w a hw)
theorem XS.frX {m m' : am_M} {N : Nat} (h : XS m N) (hf : Fr (DX N) m m') : XS m' N := by
  refine h.fr hf (fun x hx => ?_) (fun x hx => ?_)
  · have h2 := of_decide_eq_true (List.all_eq_true.mp (by decide : xr_.all (fun x => decide (¬ (x.1 = 15 ∨ x.1 = 16 ∨ x.1 = 17 ∨ (x.1 = 14 ∧ 7 ≤ x.2.1) ∨ x.1 = 19 ∨ x.1 = 20 ∨ x.1 = 18 ∨ x.1 = 22 ∨ (x.1 = 21 ∧ x.2.1 = 2)))) = true) x hx)
    rintro ((z | z | z | ⟨z, z2⟩) | (z | z | z | z | ⟨z, z2⟩)) <;> exact h2 (by omega)
  · have h2 := of_decide_eq_true (List.all_eq_true.mp (by decide : xw_.all (fun x => decide (¬ (x.1 = 15 ∨ x.1 = 16 ∨ x.1 = 17 ∨ x.1 = 19 ∨ x.1 = 20 ∨ x.1 = 18 ∨ x.1 = 22))) = true) x hx)
    rintro ((z | z | z | ⟨z, z2⟩) | (z | z | z | z | ⟨z, z2⟩)) <;> first | exact h2 (by omega) | omega
theorem CQ.frX {B : Nat} {m m' : am_M} {N o : Nat} {s : Nat → Int32} {q : Nat → Int64} (h : CQ B m N o s q) (hNo : N + 27 ≤ o) (hf : Fr (DX N) m m') : CQ B m' N o s q := by
  obtain ⟨hX, hN, ho, ho0, hO, hV, hF, hB⟩ := h
  have np : ∀ a k, o ≤ a → a < o + 27 → ¬ DX N a k := by
    rintro a k ha _ ((z | z | z | ⟨z, -⟩) | (z | z | z | z | ⟨z, -⟩)) <;> omega
  exact ⟨hX.frX hf, hN, (hf.2.2.2.1 _ _ (by rintro ((z | z | z | ⟨z, -⟩) | (z | z | z | z | ⟨z, -⟩)) <;> omega)).trans ho, ho0, hO.fr' hf np, hV.fr hf np, hF, hB⟩
section R68
variable {sa sv d N o B : Nat} {m : am_M} {s : Nat → Int32} {q : Nat → Int64}
end R68
