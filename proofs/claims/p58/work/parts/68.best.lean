/-! the division is the same between days of change -/
/-- a day of change -/
def ch_ (s : Nat → Int32) (c : Nat) : Prop := (∃ w k, w < cN s 1 ∧ 0 < k ∧ k < cN s (18 + 48 * w) ∧ c = cN s (19 + 48 * w + k)) ∨ (∃ a, a < cN s 2 ∧ (c = cN s (594 + 6 * a + 4) ∨ c = cN s (594 + 6 * a + 5)))
theorem lst_cg {p p' : Nat → Bool} : ∀ {n : Nat}, (∀ k, 0 < k → k < n → p k = p' k) → lst_ p n = lst_ p' n
  | 0, _ => rfl
  | 1, _ => by
    have h0 : ∀ r : Nat → Bool, lst_ r 1 = 0 := fun r => by
      have := lst_lt (p := r) (n := 1) (by omega)
      omega
    rw [h0, h0]
  | n + 2, h => by
    have ih := lst_cg (n := n + 1) fun k h1 h2 => h k h1 (by omega)
    have e := h (n + 1) (by omega) (by omega)
    cases hp : p (n + 1) with
    | true => rw [lst_s hp, lst_s (e ▸ hp)]
    | false => rw [lst_n hp, lst_n (e.symm.trans hp), ih]
section R68
variable {s : Nat → Int32} {t day : Nat}
theorem spl_cg (h : ∀ c, ch_ s c → c ≤ t ∨ day < c) (hd : t ≤ day) {w : Nat} (hw : w < cN s 1) : spl_ s w t = spl_ s w day := by
  unfold spl_
  refine lst_cg fun k h1 h2 => decide_eq_decide.mpr ?_
  have := h _ (Or.inl ⟨w, k, hw, h1, h2, rfl⟩)
  omega
theorem isf_cg (h : ∀ c, ch_ s c → c ≤ t ∨ day < c) (hd : t ≤ day) {a : Nat} (ha : a < cN s 2) : isf_ s a t = isf_ s a day := by
  unfold isf_
  have h1 := h _ (Or.inr ⟨a, ha, Or.inl rfl⟩)
  have h2 := h _ (Or.inr ⟨a, ha, Or.inr rfl⟩)
  exact decide_eq_decide.mpr (by omega)
theorem asm_cg (h : ∀ c, ch_ s c → c ≤ t ∨ day < c) (hd : t ≤ day) (w p : Nat) {a : Nat} (ha : a < cN s 2) : asm_ s w p t a = asm_ s w p day a := by
  unfold asm_; rw [isf_cg h hd ha]
theorem asg_cg (h : ∀ c, ch_ s c → c ≤ t ∨ day < c) (hd : t ≤ day) (w p part : Nat) : ∀ n, n ≤ cN s 2 → asg_ s w p part t n = asg_ s w p part day n := by
  intro n
  induction n with
  | zero => exact fun _ => rfl
  | succ n ih => intro hn; rw [asg_, asg_, ih (by omega), asm_cg h hd w p (by omega)]
theorem pl_cg (h : ∀ c, ch_ s c → c ≤ t ∨ day < c) (hd : t ≤ day) (w p part : Nat) : pl_ s w p part t = pl_ s w p part day := by
  have e : asu_ s w p part t (cN s 2) = asu_ s w p part day (cN s 2) := sum_cg fun a ha => by rw [asm_cg h hd w p ha]
  unfold pl_
  rw [asg_cg h hd w p part _ (Nat.le_refl _), e]
theorem shs_cg (h : ∀ c, ch_ s c → c ≤ t ∨ day < c) (hd : t ≤ day) (w k c : Nat) : ∀ n, shs_ s w k c t n = shs_ s w k c day n := by
  intro n
  induction n with
  | zero => rfl
  | succ n ih => rw [shs_, shs_, ih, pl_cg h hd]
theorem dv_cg (h : ∀ c, ch_ s c → c ≤ t ∨ day < c) (hd : t ≤ day) : ∀ v st, v ≤ cN s 1 → dv_ s t v st = dv_ s day v st := by
  intro v
  induction v with
  | zero => exact fun st _ => rfl
  | succ v ih =>
    intro st hv
    rw [dv_, dv_, ih _ (by omega)]
    unfold wk_
    rw [spl_cg h hd (show v < cN s 1 by omega), shs_cg h hd]
theorem dvd_cg (h : ∀ c, ch_ s c → c ≤ t ∨ day < c) (hd : t ≤ day) {w : Nat} (hw : w < cN s 1) (a : Nat) : dvd_ s t w a = dvd_ s day w a := dv_cg h hd (w + 1) _ hw
/-- n is the next of the days in S behind t, if there is one -/
def Nx (t : Nat) (S : Nat → Prop) (n : Int32) : Prop := (n = -1 ∧ ∀ c, S c → c ≤ t) ∨ (∃ c, n = nI c ∧ t < c ∧ c < 10000 ∧ ∀ c', S c' → c' ≤ t ∨ c ≤ c')
theorem Nx.cg {S S' : Nat → Prop} {n : Int32} (h : Nx t S n) (hs : ∀ c, S' c → S c) : Nx t S' n := by
  rcases h with ⟨h1, h2⟩ | ⟨c, h1, h2, h3, h4⟩
  · exact Or.inl ⟨h1, fun c hc => h2 c (hs c hc)⟩
  · exact Or.inr ⟨c, h1, h2, h3, fun c' hc => h4 c' (hs c' hc)⟩
theorem Nx.ea {S : Nat → Prop} {n x : Int32} {v : Nat} (h : Nx t S n) (hx : x = nI v) (hv : v < 10000) (ht : t < 2 ^ 31) : Nx t (fun c => S c ∨ c = v) (ea_ (nI t) x n) := by
  subst hx
  have e0 : nI t < nI v ↔ t < v := nI_ltI ht (by omega)
  unfold ea_
  by_cases h0 : t < v
  · rcases h with ⟨rfl, h2⟩ | ⟨c, rfl, h2, h3, h4⟩
    · rw [if_pos ⟨e0.mpr h0, Or.inl rfl⟩]
      refine Or.inr ⟨v, rfl, h0, hv, ?_⟩
      rintro c' (z | z)
      · exact Or.inl (h2 c' z)
      · omega
    · have e1 : nI v < nI c ↔ v < c := nI_ltI (by omega) (by omega)
      have e2 : ¬ nI c = -1 := of_eq_false (nI_m1 (by omega))
      by_cases h5 : v < c
      · rw [if_pos ⟨e0.mpr h0, Or.inr (e1.mpr h5)⟩]
        refine Or.inr ⟨v, rfl, h0, hv, ?_⟩
        rintro c' (z | z)
        · have := h4 c' z; omega
        · omega
      · rw [if_neg (by rintro ⟨-, z | z⟩; exact e2 z; exact h5 (e1.mp z))]
        refine Or.inr ⟨c, rfl, h2, h3, ?_⟩
        rintro c' (z | z)
        · exact h4 c' z
        · omega
  · rw [if_neg (fun z => h0 (e0.mp z.1))]
    rcases h with ⟨h1, h2⟩ | ⟨c, h1, h2, h3, h4⟩
    · refine Or.inl ⟨h1, ?_⟩
      rintro c' (z | z)
      · exact h2 c' z
      · omega
    · refine Or.inr ⟨c, h1, h2, h3, ?_⟩
      rintro c' (z | z)
      · exact h4 c' z
      · omega
theorem nch_spec (hW : WW s) (hA : WA s) (ht : t < 2 ^ 31) : Nx t (ch_ s) (nch_ s (nI t)) := by
  have l1 : ∀ w, w < cN s 1 → ∀ S n, Nx t S n → ∀ j, j ≤ cN s (18 + 48 * w) → Nx t (fun c => S c ∨ ∃ k, 0 < k ∧ k < j ∧ c = cN s (19 + 48 * w + k)) (nsp_ s (nI t) w n j) := by
    intro w hw S n hn j
    induction j with
    | zero =>
      intro _
      refine hn.cg ?_
      rintro c (z | ⟨k, h1, h2, h3⟩)
      · exact z
      · omega
    | succ j ih =>
      intro hj
      have h1 := ih (by omega)
      show Nx t _ (if j = 0 then nsp_ s (nI t) w n j else ea_ (nI t) (s (19 + 48 * w + j)) (nsp_ s (nI t) w n j))
      by_cases e : j = 0
      · rw [if_pos e]
        refine h1.cg ?_
        rintro c (z | ⟨k, h2, h3, h4⟩)
        · exact Or.inl z
        · omega
      · rw [if_neg e]
        obtain ⟨e1, b1⟩ := (ww_dk hW w j hw (by omega)).c (by decide)
        refine (h1.ea e1 b1 ht).cg ?_
        rintro c (z | ⟨k, h2, h3, h4⟩)
        · exact Or.inl (Or.inl z)
        · by_cases e2 : k = j
          · subst e2; exact Or.inr h4
          · exact Or.inl (Or.inr ⟨k, h2, by omega, h4⟩)
  have l2 : ∀ v, v ≤ cN s 1 → Nx t (fun c => ∃ w k, w < v ∧ 0 < k ∧ k < cN s (18 + 48 * w) ∧ c = cN s (19 + 48 * w + k)) (nc1_ s (nI t) v) := by
    intro v
    induction v with
    | zero =>
      intro _
      refine Or.inl ⟨rfl, ?_⟩
      rintro c ⟨w, k, h, -⟩
      omega
    | succ v ih =>
      intro hv
      refine (l1 v (by omega) _ _ (ih (by omega)) _ (Nat.le_refl _)).cg ?_
      rintro c ⟨w, k, h1, h2, h3, h4⟩
      by_cases e : w = v
      · subst e; exact Or.inr ⟨k, h2, h3, h4⟩
      · exact Or.inl ⟨w, k, by omega, h2, h3, h4⟩
  have l3 : ∀ S n, Nx t S n → ∀ b, b ≤ cN s 2 → Nx t (fun c => S c ∨ ∃ a, a < b ∧ (c = cN s (594 + 6 * a + 4) ∨ c = cN s (594 + 6 * a + 5))) (nc2_ s (nI t) n b) := by
    intro S n hn b
    induction b with
    | zero =>
      intro _
      refine hn.cg ?_
      rintro c (z | ⟨a, h, -⟩)
      · exact z
      · omega
    | succ b ih =>
      intro hb
      obtain ⟨e1, b1⟩ := (wa_f hA b hb).c (by decide)
      obtain ⟨e2, b2⟩ := (wa_u hA b hb).c (by decide)
      refine (((ih (by omega)).ea e1 b1 ht).ea e2 b2 ht).cg ?_
      rintro c (z | ⟨a, h1, h2⟩)
      · exact Or.inl (Or.inl (Or.inl z))
      · by_cases e : a = b
        · subst e
          rcases h2 with h2 | h2
          · exact Or.inl (Or.inr h2)
          · exact Or.inr h2
        · exact Or.inl (Or.inl (Or.inr ⟨a, by omega, h2⟩))
  refine (l3 _ _ (l2 _ (Nat.le_refl _)) _ (Nat.le_refl _)).cg ?_
  rintro c (z | z)
  · exact Or.inl z
  · exact Or.inr z
end R68
