/-! a text is read, a text amends (class) -/
section I89
variable {sa sv d N n T B : Nat} {X X1 : TX} {m m' : am_M} {f : Nat → Nat} {P : Nat → Nat → Prop} {b : Nat → Nat} {s s0 : Nat → Int32} {q q0 : Nat → Int64}
def swp (f : Nat → Nat) (i : Nat) : Nat := if i = 6 then f 7 else if i = 7 then f 6 else f i
theorem SL.swpS (h : SL f) : SL (swp f) := by
  obtain ⟨h1, h2, h3⟩ := h
  refine ⟨fun i hi => ?_, fun i j hi hj e => ?_, ?_⟩
  · unfold swp
    repeat' split
    all_goals exact h1 _ (by omega)
  · unfold swp at e
    (repeat' split at e)
    all_goals have := h2 _ _ (by omega) (by omega) e
    all_goals omega
  · exact h3
def PSw (N a k : Nat) : Prop := a = N ∧ (k = 9 ∨ k = 12 ∨ k = 13)
theorem PSw.x {a k : Nat} (h : PSw N a k) : XF N a k := XF.a0 h.1 (by have := h.2; omega)
theorem PSw.o {a k : Nat} (h : PSw N a k) : a = N ∧ ¬ k = 1 ∧ ¬ k = 11 := ⟨h.1, by have := h.2; omega, by have := h.2; omega⟩
theorem TC.swap (h : TC m N X) (hF : TF m N f X) (hV : OV m (oa N (f 6)) s q) : TC (sr_ (sr_ m N 13 (oa N (f 6))) N 12 (oa N (f 7))) N (X.wS s q) := by
  have hf : Fr (PSw N) m (sr_ (sr_ m N 13 (oa N (f 6))) N 12 (oa N (f 7))) := ((Fr.refl _ _).sr ⟨rfl, by omega⟩).sr ⟨rfl, by omega⟩
  obtain ⟨f1, f2, f3, f4, f5, f6, f7⟩ := hF
  have no : ∀ a k, N + 27 ≤ a → ¬ PSw N a k := fun a k z z2 => by have := z2.1; omega
  have oo : ∀ j a k, oa N j ≤ a → a < oa N j + 27 → ¬ PSw N a k := fun j a k z z2 => no a k (by have := oa_lo N j; omega)
  refine TC.gen h hf (fun a k z => ⟨z.x, by have := z.o; omega, by have := z.o; omega, by have := z.o; omega, by have := z.o; omega⟩) (X.wS s q) rfl rfl rfl (h.b.fr hf (fun k z => by have := z.o; omega)) h.n h.u h.u5 h.e1 h.e2 h.e3 (fun j hj => (h.o j hj).fr' hf (oo j)) ⟨swp f, f1.swpS, ?_, ?_, fun i hi => ?_, ?_, fun i hi => ?_, fun z => ?_⟩
  · rw [gr_sr, if_neg (by omega), gr_sr, if_pos ⟨rfl, rfl⟩]; rfl
  · rw [gr_sr, if_pos ⟨rfl, rfl⟩]; rfl
  · have e : swp f i = f i := by unfold swp; rw [if_neg (by omega), if_neg (by omega)]
    rw [e]
    exact (hf.2.2.2.1 _ _ (fun z => by have := z.o; omega)).trans (f4 i hi)
  · exact hV.fr hf (oo _)
  · have h5 := h.u5
    have hi' : i < X.u := hi
    have e : swp f i = f i := by unfold swp; rw [if_neg (by omega), if_neg (by omega)]
    rw [e]
    exact (f6 i hi).fr hf (oo _)
  · exact (f7 z).fr hf (oo 5)
theorem TC.fresh (h : TC m N X) : TC (si_ m N 9 (nI 0)) N (X.wH 0 X.ps X.pq) := by
  have hf : Fr (PSw N) m (si_ m N 9 (nI 0)) := (Fr.refl _ _).si ⟨rfl, by omega⟩
  obtain ⟨f, f1, f2, f3, f4, f5, f6, f7⟩ := h.f
  have oo : ∀ j a k, oa N j ≤ a → a < oa N j + 27 → ¬ PSw N a k := fun j a k z z2 z3 => by
    have := oa_lo N j
    have := z3.1
    omega
  exact TC.gen h hf (fun a k z => ⟨z.x, by have := z.o; omega, by have := z.o; omega, by have := z.o; omega, by have := z.o; omega⟩) (X.wH 0 X.ps X.pq) rfl rfl rfl (h.b.fr hf (fun k z => by have := z.o; omega)) ((hf.2.1 _ _ (fun z => by have := z.o; omega)).trans h.n) (by rw [gi_si, if_pos ⟨rfl, rfl⟩]; rfl) (Nat.zero_le _) ((hf.2.1 _ _ (fun z => by have := z.o; omega)).trans h.e1) ((hf.2.1 _ _ (fun z => by have := z.o; omega)).trans h.e2) ((hf.2.1 _ _ (fun z => by have := z.o; omega)).trans h.e3) (fun j hj => (h.o j hj).fr' hf (oo j)) ⟨f, f1, f2, f3, f4, f5.fr hf (oo _), fun i hi => absurd hi (Nat.not_lt_zero _), fun z => (f7 z).fr hf (oo 5)⟩
theorem P157.k {a k : Nat} (h : P157 N a k) : KC N a k := ⟨by have := h.x.2; omega, h.x.1⟩
theorem PRd.k {o a k : Nat} (h : PRd N o a k) (h1 : N + 27 ≤ o) (h2 : o + 27 ≤ N + 243) : KC N a k := ⟨by
  unfold PRd OA P7 at h
  omega, h.x h1 h2⟩
theorem PSw.k {a k : Nat} (h : PSw N a k) : KC N a k := ⟨by have := h.1; omega, h.x⟩
theorem CT.frO (h : CT m N b n T 0) {o : Nat} (h1 : N + 27 ≤ o) (h2 : o + 27 ≤ N + 243) (hf : Fr (fun a _ => OA o a) m m') : CT m' N b n T 0 := h.fr hf (fun a k z => by
  unfold OA at z
  exact ⟨XF.of (by omega) (by omega), by omega, by omega, by omega, by omega⟩)
end I89
