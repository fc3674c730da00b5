/-! a script is done (reference), whole -/
section R89
variable {sa sv d D N B p p' inner pc : Nat} {m m' m1 : am_M} {s g : Nat → Int32} {q : Nat → Int64} {x : Ins} {t : EX} {C A Z : List Ins} {r : Option am_R} {y : Bool × EX}
theorem YY.fr {P : Nat → Nat → Prop} (h : YY m N B s C t) (hf : Fr P m m') (hp : ∀ a k, P a k → a = N + 263 ∨ a = N + 264) : YY m' N B s C t := by
  obtain ⟨h1, h2, h3, h4⟩ := h
  exact ⟨⟨h1.1.frg hf (fun a k z => XF.hi (by have := hp a k z; omega)), (funext fun k => hf.2.1 _ _ (fun z => by have := hp _ _ z; omega)).trans h1.2.1, (funext fun k => hf.2.2.1 _ _ (fun z => by have := hp _ _ z; omega)).trans h1.2.2⟩, h2, h3.fr hf (fun a k z => by have := hp a k z; exact ⟨by omega, by omega, by omega, by omega⟩), h4.1, (hf.2.1 _ _ (fun z => by have := hp _ _ z; omega)).trans h4.2⟩
def ReL (sa sv D N B : Nat) (s g : Nat → Int32) (k : Nat) : Prop := ∀ (l : List (Cm k)) (C A Z : List Ins) (p p' inner : Nat) (m : am_M) (t : EX) (o5 : Option Value), RwL (RwI g s k) p p' l → C = A ++ (flL k l ++ Z) → inner + k ≤ 2 → YY m N B s C t → OuR sa sv D N B s C inner (A.length + (flL k l).length) m (rst sa sv D N t inner A.length m o5) (exL (exI k) l t)
def ReI (sa sv D N B : Nat) (s g : Nat → Int32) (k : Nat) : Prop := ∀ (x : Cm k) (C A Z : List Ins) (p p' inner : Nat) (m : am_M) (t : EX) (o5 : Option Value), RwI g s k p p' x → C = A ++ (flI k x ++ Z) → inner + k ≤ 2 → YY m N B s C t → OuR sa sv D N B s C inner (A.length + (flI k x).length) m (rst sa sv D N t inner A.length m o5) (exI k x t)
theorem flL_c (k : Nat) (x : Cm k) (l : List (Cm k)) : flL k (x :: l) = flI k x ++ flL k l := rfl
theorem ReL_of {k : Nat} (h : ReI sa sv D N B s g k) : ReL sa sv D N B s g k := by
  intro l
  induction l with
  | nil =>
    intro C A Z p p' inner m t o5 hr hC hi hY
    exact Or.inl ⟨m, o5, rfl, rfl, Fr.refl _ _, hY, fun _ _ => ⟨rfl, rfl⟩⟩
  | cons x l ih =>
    intro C A Z p p' inner m t o5 hr hC hi hY
    obtain ⟨r, r1, r2, r3⟩ := hr
    rw [flL_c, List.append_assoc] at hC
    have e : exL (exI k) (x :: l) t = bif (exI k x t).1 then exL (exI k) l (exI k x t).2 else (false, (exI k x t).2) := rfl
    rcases h x C A (flL k l ++ Z) p r inner m t o5 r2 hC hi hY with ⟨m1, o6, h1, h2, h3, h4, h5⟩ | ⟨m1, h1, h2, h3, h4⟩
    · have hC2 : C = (A ++ flI k x) ++ (flL k l ++ Z) := by rw [hC, List.append_assoc]
      have := ih C (A ++ flI k x) Z r p' inner m1 (exI k x t).2 o6 r3 hC2 hi h4
      rw [List.length_append] at this
      rw [e, h1, flL_c, List.length_append, ← Nat.add_assoc, h2]
      exact OuR.tr h3 h5 this
    · rw [e]
      cases z : (exI k x t).1 with
      | false => exact Or.inr ⟨m1, Or.inl rfl, h2, h3, h4⟩
      | true =>
        have h40 : 40 ≤ (exI k x t).2.2.2 := by
          rcases h1 with h1 | h1
          · rw [z] at h1; cases h1
          · exact h1
        have e2 : (exL (exI k) l (exI k x t).2).2 = (exI k x t).2 := ex40_L (ex40_I k) l _ h40
        refine Or.inr ⟨m1, Or.inr ?_, ?_, h3, ?_⟩
        · show 40 ≤ (exL (exI k) l (exI k x t).2).2.2.2
          rw [e2]; exact h40
        · show (_ : Option am_R) = some (.inl (some (.int (nI (exL (exI k) l (exI k x t).2).2.2.2))), m1)
          rw [e2]; exact h2
        · show YY m1 N B s C (exL (exI k) l (exI k x t).2).2
          rw [e2]; exact h4
theorem ReR {k : Nat} (hL : ReL sa sv (D + 1) N B s g k) (l : List (Cm k)) (n p p' : Nat) (hr : RwL (RwI g s k) p p' l) (C A Z : List Ins) (hC : C = A ++ ((27, n, 0) :: (flL k l ++ ((6, 0, 0) :: Z)))) (inner : Nat) (hi : inner + 1 + k ≤ 2) : ∀ (c : Nat) (m : am_M) (t : EX) (o5 : Option Value), c < 20 → YY m N B s C t → gi_ m (N + 263) inner = nI A.length → gi_ m (N + 264) inner = nI (c + 1) → OuR sa sv (D + 1) N B s C inner (A.length + (1 + ((flL k l).length + 1))) m (rst sa sv (D + 1) N t (inner + 1) (A.length + 1) m o5) (exR (exL (exI k) l) (c + 1) t) := by
  have hC1 : C = (A ++ [(27, n, 0)]) ++ (flL k l ++ ((6, 0, 0) :: Z)) := by rw [hC, List.append_assoc]; rfl
  have hC2 : C = ((A ++ [(27, n, 0)]) ++ flL k l) ++ ((6, 0, 0) :: Z) := by rw [hC1]; exact (List.append_assoc _ _ _).symm
  have len2 : ((A ++ [((27, n, 0) : Ins)]) ++ flL k l).length = A.length + 1 + (flL k l).length := by rw [List.length_append, List.length_append]; rfl
  intro c
  induction c with
  | zero =>
    intro m t o5 hc hY hb hl
    have e : exR (exL (exI k) l) 1 t = bif (exL (exI k) l t).1 then (true, (exL (exI k) l t).2) else (false, (exL (exI k) l t).2) := rfl
    have b := hL l C (A ++ [(27, n, 0)]) ((6, 0, 0) :: Z) p p' (inner + 1) m t o5 hr hC1 (by omega) hY
    rw [List.length_append] at b
    have e' : exR (exL (exI k) l) (0 + 1) t = ((exL (exI k) l t).1, (exL (exI k) l t).2) := by
      rw [show 0 + 1 = 1 from rfl, e]
      cases (exL (exI k) l t).1 <;> rfl
    rw [e']
    rcases b with ⟨m1, o6, h1, h2, h3, h4, h5⟩ | ⟨m1, h1, h2, h3, h4⟩
    · have h2' : rst sa sv (D + 1) N t (inner + 1) (A.length + 1) m o5 = rst sa sv (D + 1) N (exL (exI k) l t).2 (inner + 1) (A.length + 1 + (flL k l).length) m1 o6 := h2
      by_cases h40 : 40 ≤ (exL (exI k) l t).2.2.2
      · have c60 := h4.2.2.2.1
        have cl : C.length = A.length + 1 + (flL k l).length + (1 + Z.length) := by rw [hC2, List.length_append, len2, List.length_cons]; omega
        exact Or.inr ⟨m1, Or.inr h40, by rw [h2', rst_40 h4 h40 _ _ (by omega)], h3, h4⟩
      · have hat : C[A.length + 1 + (flL k l).length]? = some (6, 0, 0) := by rw [← len2]; exact C_at hC2
        obtain ⟨o7, w⟩ := rst_en (sa := sa) (sv := sv) (D := D) (inner := inner) h4 0 0 0 hat (by omega) h40 A.length ((h5 inner (by omega)).1.trans hb) ((h5 inner (by omega)).2.trans hl) (by omega) o6
        rw [if_pos rfl] at w
        have f : Fr (fun a k => a = N + 264 ∧ k = inner) m1 (si_ m1 (N + 264) inner (nI 0)) := (Fr.refl _ _).si ⟨rfl, rfl⟩
        refine Or.inl ⟨_, o7, h1, ?_, h3.trans (f.mono fun a k z => Or.inr (Or.inr z.1)), h4.fr f (fun a k z => Or.inr z.1), fun i hi' => ⟨(f.2.1 _ _ (by omega)).trans (h5 i (by omega)).1, (f.2.1 _ _ (by omega)).trans (h5 i (by omega)).2⟩⟩
        rw [h2', w, show A.length + (1 + ((flL k l).length + 1)) = A.length + 1 + (flL k l).length + 1 by omega]
    · exact Or.inr ⟨m1, h1, h2, h3, h4⟩
  | succ c ih =>
    intro m t o5 hc hY hb hl
    have e : exR (exL (exI k) l) (c + 1 + 1) t = bif (exL (exI k) l t).1 then exR (exL (exI k) l) (c + 1) (exL (exI k) l t).2 else (false, (exL (exI k) l t).2) := rfl
    have b := hL l C (A ++ [(27, n, 0)]) ((6, 0, 0) :: Z) p p' (inner + 1) m t o5 hr hC1 (by omega) hY
    rw [List.length_append] at b
    rw [e]
    rcases b with ⟨m1, o6, h1, h2, h3, h4, h5⟩ | ⟨m1, h1, h2, h3, h4⟩
    · have h2' : rst sa sv (D + 1) N t (inner + 1) (A.length + 1) m o5 = rst sa sv (D + 1) N (exL (exI k) l t).2 (inner + 1) (A.length + 1 + (flL k l).length) m1 o6 := h2
      rw [h1]
      by_cases h40 : 40 ≤ (exL (exI k) l t).2.2.2
      · have c60 := h4.2.2.2.1
        have cl : C.length = A.length + 1 + (flL k l).length + (1 + Z.length) := by rw [hC2, List.length_append, len2, List.length_cons]; omega
        have e2 : (exR (exL (exI k) l) (c + 1) (exL (exI k) l t).2).2 = (exL (exI k) l t).2 := ex40_R (fun t h => ex40_L (ex40_I k) l t h) (c + 1) _ h40
        refine Or.inr ⟨m1, Or.inr ?_, ?_, h3, ?_⟩
        · show 40 ≤ (exR (exL (exI k) l) (c + 1) (exL (exI k) l t).2).2.2.2
          rw [e2]; exact h40
        · show (_ : Option am_R) = some (.inl (some (.int (nI (exR (exL (exI k) l) (c + 1) (exL (exI k) l t).2).2.2.2))), m1)
          rw [e2, h2', rst_40 h4 h40 _ _ (by omega)]
        · show YY m1 N B s C (exR (exL (exI k) l) (c + 1) (exL (exI k) l t).2).2
          rw [e2]; exact h4
      · have hat : C[A.length + 1 + (flL k l).length]? = some (6, 0, 0) := by rw [← len2]; exact C_at hC2
        obtain ⟨o7, w⟩ := rst_en (sa := sa) (sv := sv) (D := D) (inner := inner) h4 0 0 (c + 1) hat (by omega) h40 A.length ((h5 inner (by omega)).1.trans hb) ((h5 inner (by omega)).2.trans hl) (by omega) o6
        rw [if_neg (by omega)] at w
        have f : Fr (fun a k => a = N + 264 ∧ k = inner) m1 (si_ m1 (N + 264) inner (nI (c + 1))) := (Fr.refl _ _).si ⟨rfl, rfl⟩
        have := ih (si_ m1 (N + 264) inner (nI (c + 1))) (exL (exI k) l t).2 o7 (by omega) (h4.fr f (fun a k z => Or.inr z.1)) ((f.2.1 _ _ (by omega)).trans ((h5 inner (by omega)).1.trans hb)) (if_pos ⟨rfl, rfl⟩)
        rw [h2', w]
        exact OuR.tr (h3.trans (f.mono fun a k z => Or.inr (Or.inr z.1))) (fun i hi' => ⟨(f.2.1 _ _ (by omega)).trans (h5 i (by omega)).1, (f.2.1 _ _ (by omega)).trans (h5 i (by omega)).2⟩) this
    · cases z : (exL (exI k) l t).1 with
      | false => exact Or.inr ⟨m1, Or.inl rfl, h2, h3, h4⟩
      | true =>
        have h40 : 40 ≤ (exL (exI k) l t).2.2.2 := by
          rcases h1 with h1 | h1
          · rw [z] at h1; cases h1
          · exact h1
        have e2 : (exR (exL (exI k) l) (c + 1) (exL (exI k) l t).2).2 = (exL (exI k) l t).2 := ex40_R (fun t h => ex40_L (ex40_I k) l t h) (c + 1) _ h40
        refine Or.inr ⟨m1, Or.inr ?_, ?_, h3, ?_⟩
        · show 40 ≤ (exR (exL (exI k) l) (c + 1) (exL (exI k) l t).2).2.2.2
          rw [e2]; exact h40
        · show (_ : Option am_R) = some (.inl (some (.int (nI (exR (exL (exI k) l) (c + 1) (exL (exI k) l t).2).2.2.2))), m1)
          rw [e2]; exact h2
        · show YY m1 N B s C (exR (exL (exI k) l) (c + 1) (exL (exI k) l t).2).2
          rw [e2]; exact h4
theorem ReI_k (hB : B + 40 < 2 ^ 29) : ∀ k, k ≤ 2 → ReI sa sv (d + 7) N B s g k := by
  intro k
  induction k with
  | zero =>
    intro _ x C A Z p p' inner m t o5 hr hC hi hY
    exact rst_op (d := d) hY hB hr.2.2 A.length inner (C_at (Z := Z) hC) o5
  | succ k ih =>
    intro hk x C A Z p p' inner m t o5 hr hC hi hY
    cases x with
    | inl x => exact rst_op (d := d) hY hB hr.2.2 A.length inner (C_at (Z := Z) hC) o5
    | inr x =>
      obtain ⟨n, l⟩ := x
      obtain ⟨r1, r2, r3, r4, r5⟩ := hr
      have c60 := hY.2.2.2.1
      have hCx : C = A ++ ((27, n, 0) :: (flL k l ++ ((6, 0, 0) :: Z))) := by
        rw [hC]
        show A ++ (((27, n, 0) :: (flL k l ++ [(6, 0, 0)])) ++ Z) = _
        rw [List.cons_append, List.append_assoc]
        rfl
      have hlen : (flI (k + 1) (.inr (n, l))).length = 1 + ((flL k l).length + 1) := by
        show ((27, n, 0) :: (flL k l ++ [((6, 0, 0) : Ins)])).length = _
        rw [List.length_cons, List.length_append, List.length_singleton]
        omega
      have e : exI (k + 1) (.inr (n, l)) t = exR (exL (exI k) l) n t := rfl
      rw [hlen, e]
      by_cases h40 : 40 ≤ t.2.2
      · have e2 : (exR (exL (exI k) l) n t).2 = t := ex40_R (fun t h => ex40_L (ex40_I k) l t h) n _ h40
        have cl : C.length = A.length + (1 + ((flL k l).length + (1 + Z.length))) := by
          rw [hCx, List.length_append, List.length_cons, List.length_append, List.length_cons]
          omega
        refine Or.inr ⟨m, Or.inr ?_, ?_, Fr.refl _ _, ?_⟩
        · rw [e2]; exact h40
        · rw [e2]; exact rst_40 hY h40 _ _ (by omega) o5
        · rw [e2]; exact hY
      · obtain ⟨c, hn⟩ : ∃ c, n = c + 1 := ⟨n - 1, by have := r4.1; omega⟩
        have w := rst_rp (sa := sa) (sv := sv) (D := d + 7) (inner := inner) hY n 0 (C_at hCx) (by omega) h40 o5
        rw [w]
        have f : Fr (fun a k => (a = N + 263 ∨ a = N + 264) ∧ k = inner) m (si_ (si_ m (N + 263) inner (nI A.length)) (N + 264) inner (nI n)) := ((Fr.refl _ _).si ⟨Or.inl rfl, rfl⟩).si ⟨Or.inr rfl, rfl⟩
        have hY1 := hY.fr f (fun a k z => z.1)
        have R := ReR (D := d + 6) (ReL_of (ih (by omega))) l n (p + 1) p' r5 C A Z hCx inner (by omega) c _ t o5 (by have := r4.2; omega) hY1 ((if_neg (by omega)).trans (if_pos ⟨rfl, rfl⟩)) (by rw [hn]; exact if_pos ⟨rfl, rfl⟩)
        rw [← hn] at R
        exact OuR.tr (f.mono fun a k z => by unfold PZr; omega) (fun i hi' => ⟨f.2.1 _ _ (by omega), f.2.1 _ _ (by omega)⟩) R
end R89
