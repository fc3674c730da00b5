/-! the queries' ends as outcomes of calls -/
section I89
variable {sa sv N B : Nat} {m m' : am_M} {X : TX} {v : Int32} {w : Int64} {r : Option am_R} {a b c d : Bool}
theorem TC.dx (h : TC m N X) (hf : Fr (DX N) m m') : TC m' N X := by
  obtain ⟨f, hF⟩ := h.f
  have g7 := hF.1.lt (i := 7) (by omega)
  have no : ∀ a k, oa N (f 7) ≤ a → a < oa N (f 7) + 27 → ¬ DX N a k := fun a k z1 z2 z => by
    have := z.xf
    have := oa_lo N (f 7)
    omega
  exact (TC.off h hF hf (fun a k z => ⟨z.xf.1, Or.inr z.xf.2⟩) ((h.o _ g7).fr' hf no) (hF.2.2.2.2.1.fr hf no)).1
theorem DX.kc {a k : Nat} (z : DX N a k) : KC N a k := ⟨by have := z.xf; omega, z.xf.1⟩
theorem CI.ok (h : TC m N X) (hf : Fr (DX N) m m') (e : r = some (.inl (some (.int v)), m')) : CI m N X none v r := ⟨m', hf.mono fun a k z => z.kc, h.dx hf, e⟩
theorem CI.no (h : TC m N X) (x : Nat) (v : Int32) (e : r = some (.inr x, th_ m)) : CI m N X (some x) v r := ⟨m, Fr.refl _ _, h, e⟩
theorem CJ.ok (h : TC m N X) (hf : Fr (DX N) m m') (e : r = some (.inl (some (.long w)), m')) : CJ m N X none w r := ⟨m', hf.mono fun a k z => z.kc, h.dx hf, e⟩
theorem CJ.no (h : TC m N X) (x : Nat) (w : Int64) (e : r = some (.inr x, th_ m)) : CJ m N X (some x) w r := ⟨m, Fr.refl _ _, h, e⟩
theorem CI.q1 {x1 : Nat} (h : TC m N X) (hf : Fr (DX N) m m') (e : r = bif a then some (.inl (some (.int v)), m') else some (.inr x1, th_ m)) : CI m N X (bif a then none else some x1) v r := by
  cases a with
  | false => exact CI.no h _ _ e
  | true => exact CI.ok h hf e
theorem CI.q2 {x1 x2 : Nat} (h : TC m N X) (hf : Fr (DX N) m m') (e : r = bif a then (bif b then some (.inl (some (.int v)), m') else some (.inr x2, th_ m)) else some (.inr x1, th_ m)) : CI m N X (bif a then (bif b then none else some x2) else some x1) v r := by
  cases a with
  | false => exact CI.no h _ _ e
  | true => exact CI.q1 h hf e
theorem CI.q3 {x1 x2 x3 : Nat} (h : TC m N X) (hf : Fr (DX N) m m') (e : r = bif a then (bif b then (bif c then some (.inl (some (.int v)), m') else some (.inr x3, th_ m)) else some (.inr x2, th_ m)) else some (.inr x1, th_ m)) : CI m N X (bif a then (bif b then (bif c then none else some x3) else some x2) else some x1) v r := by
  cases a with
  | false => exact CI.no h _ _ e
  | true => exact CI.q2 h hf e
theorem CI.q4 {x1 x2 x3 x4 : Nat} (h : TC m N X) (hf : Fr (DX N) m m') (e : r = bif a then (bif b then (bif c then (bif d then some (.inl (some (.int v)), m') else some (.inr x4, th_ m)) else some (.inr x3, th_ m)) else some (.inr x2, th_ m)) else some (.inr x1, th_ m)) : CI m N X (bif a then (bif b then (bif c then (bif d then none else some x4) else some x3) else some x2) else some x1) v r := by
  cases a with
  | false => exact CI.no h _ _ e
  | true => exact CI.q3 h hf e
theorem CJ.q1 {x1 : Nat} (h : TC m N X) (hf : Fr (DX N) m m') (e : r = bif a then some (.inl (some (.long w)), m') else some (.inr x1, th_ m)) : CJ m N X (bif a then none else some x1) w r := by
  cases a with
  | false => exact CJ.no h _ _ e
  | true => exact CJ.ok h hf e
theorem CJ.q2 {x1 x2 : Nat} (h : TC m N X) (hf : Fr (DX N) m m') (e : r = bif a then (bif b then some (.inl (some (.long w)), m') else some (.inr x2, th_ m)) else some (.inr x1, th_ m)) : CJ m N X (bif a then (bif b then none else some x2) else some x1) w r := by
  cases a with
  | false => exact CJ.no h _ _ e
  | true => exact CJ.q1 h hf e
theorem CJ.q3 {x1 x2 x3 : Nat} (h : TC m N X) (hf : Fr (DX N) m m') (e : r = bif a then (bif b then (bif c then some (.inl (some (.long w)), m') else some (.inr x3, th_ m)) else some (.inr x2, th_ m)) else some (.inr x1, th_ m)) : CJ m N X (bif a then (bif b then (bif c then none else some x3) else some x2) else some x1) w r := by
  cases a with
  | false => exact CJ.no h _ _ e
  | true => exact CJ.q2 h hf e
end I89
section R89
variable {sa sv N B : Nat} {m m' : am_M} {X : TX} {v v' : Int32} {w w' : Int64} {r : Option am_R} {a b c d : Bool}
theorem cd2_0 (h : cd2_ a b = 0) : (a && b) = true := by
  cases a <;> cases b <;> first | rfl | cases h
end R89
/-! the handlers' numbers -/
section H89
variable {g : Nat → am_M → Option am_R} {E : Option Nat} {k : Nat}
theorem HC.z : HC g none 0 := Or.inl ⟨rfl, rfl⟩
theorem HC.s {e : Nat} (h0 : 0 < k) (h3 : k < 3) (h : ∀ m, g e m = some (.inl (some (.int (nI k))), m)) : HC g (some e) k := Or.inr ⟨e, rfl, h0, h3, h⟩
theorem HC.q1 {e : Nat} (h : ∀ m, g e m = some (.inl (some (.int (nI 1))), m)) (a : Bool) : HC g (bif a then none else some e) (bif a then 0 else 1) := by
  cases a
  · exact HC.s (k := 1) (by omega) (by omega) h
  · exact HC.z
theorem HC.i1 {p : Prop} [Decidable p] {e : Nat} (h : ∀ m, g e m = some (.inl (some (.int (nI 1))), m)) : HC g (if p then none else some e) (if p then 0 else 1) := by
  by_cases z : p
  · rw [if_pos z, if_pos z]; exact HC.z
  · rw [if_neg z, if_neg z]; exact HC.s (k := 1) (by omega) (by omega) h
theorem HC.q2 (h2 : ∀ m, g 2 m = some (.inl (some (.int (nI 1))), m)) (h1 : ∀ m, g 1 m = some (.inl (some (.int (nI 2))), m)) (a b : Bool) : HC g (bif a then (bif b then none else some 1) else some 2) (bif a then (bif b then 0 else 2) else 1) := by
  cases a
  · exact HC.s (k := 1) (by omega) (by omega) h2
  · cases b
    · exact HC.s (k := 2) (by omega) (by omega) h1
    · exact HC.z
theorem HC.q2s (h2 : ∀ m, g 2 m = some (.inl (some (.int (nI 1))), m)) (a b : Bool) : HC g (bif a then (bif b then none else some 2) else some 2) (bif a then (bif b then 0 else 1) else 1) := by
  cases a
  · exact HC.s (k := 1) (by omega) (by omega) h2
  · cases b
    · exact HC.s (k := 1) (by omega) (by omega) h2
    · exact HC.z
theorem HC.q3s (h2 : ∀ m, g 2 m = some (.inl (some (.int (nI 1))), m)) (a b c : Bool) : HC g (bif a then (bif b then (bif c then none else some 2) else some 2) else some 2) (bif a then (bif c then (bif b then 0 else 1) else 1) else 1) := by
  cases a
  · exact HC.s (k := 1) (by omega) (by omega) h2
  · cases b
    · cases c
      · exact HC.s (k := 1) (by omega) (by omega) h2
      · exact HC.s (k := 1) (by omega) (by omega) h2
    · cases c
      · exact HC.s (k := 1) (by omega) (by omega) h2
      · exact HC.z
theorem HC.q3 (h2 : ∀ m, g 2 m = some (.inl (some (.int (nI 1))), m)) (h1 : ∀ m, g 1 m = some (.inl (some (.int (nI 2))), m)) (a b c : Bool) : HC g (bif a then (bif b then (bif c then none else some 1) else some 2) else some 2) (bif a then (bif b then (bif c then 0 else 2) else 1) else 1) := by
  cases a
  · exact HC.s (k := 1) (by omega) (by omega) h2
  · exact HC.q2 h2 h1 b c
theorem HC.w3 (h2 : ∀ m, g 2 m = some (.inl (some (.int (nI 1))), m)) (h1 : ∀ m, g 1 m = some (.inl (some (.int (nI 2))), m)) (a b c : Bool) : HC g (bif a then (bif b then (bif c then none else some 1) else some 2) else some 2) (cd2_ (a && b) c) := by
  cases a
  · exact HC.s (k := 1) (by omega) (by omega) h2
  · exact HC.q2 h2 h1 b c
theorem HC.w4 (h2 : ∀ m, g 2 m = some (.inl (some (.int (nI 1))), m)) (h1 : ∀ m, g 1 m = some (.inl (some (.int (nI 2))), m)) (a b c d : Bool) : HC g (bif a then (bif b then (bif c then (bif d then none else some 1) else some 1) else some 2) else some 2) (cd2_ (a && b) (c && d)) := by
  cases a
  · exact HC.s (k := 1) (by omega) (by omega) h2
  · cases b
    · exact HC.s (k := 1) (by omega) (by omega) h2
    · cases c
      · exact HC.s (k := 2) (by omega) (by omega) h1
      · cases d
        · exact HC.s (k := 2) (by omega) (by omega) h1
        · exact HC.z
theorem HC.e3 (h2 : ∀ m, g 2 m = some (.inl (some (.int (nI 1))), m)) (h1 : ∀ m, g 1 m = some (.inl (some (.int (nI 2))), m)) (a b : Bool) : HC g (E3 a b) (cd2_ a b) := HC.q2 h2 h1 a b
end H89
/-! an arm from its pc on -/
section K89
variable {sa sv N b L C S n i : Nat} {m : am_M} {X : TX}
end K89
