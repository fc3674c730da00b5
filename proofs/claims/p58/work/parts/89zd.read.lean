/-! a text is read (class) -/
section I89
variable {sa sv d N n T B : Nat} {X X1 : TX} {m m' : am_M} {f : Nat → Nat} {P : Nat → Nat → Prop} {b : Nat → Nat} {s0 : Nat → Int32} {q0 : Nat → Int64}
/-- what is written while the spare office is filled -/
def PRd (N o a k : Nat) : Prop := OA o a ∨ (a = N + 2 ∧ 5 ≤ k ∧ k ≤ 8) ∨ a = N + 9 ∨ (a = N + 8 ∧ k = 2) ∨ P7 N a k
theorem PRd.x {o a k : Nat} (h : PRd N o a k) (h1 : N + 27 ≤ o) (h2 : o + 27 ≤ N + 243) : XF N a k := by
  rcases h with h | h | h | h | h
  · unfold OA at h
    exact XF.of (by omega) (by omega)
  · exact XF.a2 h.1 (by omega)
  · exact XF.a9 h
  · exact XF.a8 h.1 (by omega)
  · exact XF.a7 h.1 h.2
theorem TC.read (h : TC m N X) (hF : TF m N f X) (hf : Fr (PRd N (oa N (f 6))) m m') (hO : OS m' (oa N (f 6))) {e1 e2 e3 : Int32} (h1 : gi_ m' (N + 2) 6 = e1) (h2 : gi_ m' (N + 2) 7 = e2) (h3 : gi_ m' (N + 2) 8 = e3) : TC m' N (X.wE e1 e2 e3) ∧ TF m' N f (X.wE e1 e2 e3) := by
  have f6 := oa_lo N (f 6)
  have g6 := oa_hi N (hF.1.lt (i := 6) (by omega))
  have ar : ∀ a k, PRd N (oa N (f 6)) a k → a = N + 2 ∧ 5 ≤ k ∧ k ≤ 8 ∨ a = N + 9 ∨ a = N + 8 ∨ a = N + 7 ∨ OA (oa N (f 6)) a := fun a k z => by unfold PRd P7 OA at z; unfold OA; omega
  have lo : ∀ a k, (a ≤ N + 1 ∨ a = N + 3 ∨ a = N + 23 ∨ a = N + 24 ∨ a = N + 26) → ¬ PRd N (oa N (f 6)) a k := fun a k z z2 => by
    have := ar a k z2
    unfold OA at this
    omega
  have hF' : TF m' N f (X.wE e1 e2 e3) := TF.fr (X := X) hF h.u5 hf (fun a k z => by
    have := ar a k z
    refine ⟨fun z2 => lo a k (by omega) z, fun z2 => lo a k (by omega) z, ?_⟩
    unfold OA at this
    unfold OA
    omega)
  refine ⟨TC.gen h hf (fun a k z => ?_) (X.wE e1 e2 e3) rfl rfl rfl (h.b.fr hf (fun k => lo _ k (by omega))) ((hf.2.1 _ _ (lo _ _ (by omega))).trans h.n) ((hf.2.1 _ _ (lo _ _ (by omega))).trans h.u) h.u5 h1 h2 h3 (fun j hj => ?_) ⟨f, hF'⟩, hF'⟩
  · exact ⟨z.x f6 g6, fun z2 => lo a k (by omega) z, fun z2 => lo a k (by omega) z, fun z2 => lo a k (by omega) z, fun z2 => lo a k (by omega) z⟩
  · by_cases e : j = f 6
    · rw [e]; exact hO
    · refine (h.o j hj).fr' hf (fun a k z1 z2 z => ?_)
      have h1 := ar a k z
      have h2 := oa_ne N e
      have h3 := oa_lo N j
      unfold OA at h1
      omega
theorem PU.rd {o a k : Nat} (h : PU N o a k) : PRd N o a k := by
  rcases h with h | h
  · unfold PS at h
    unfold PRd
    omega
  · exact Or.inl h.a
theorem OS.rd {o : Nat} (h : OS m o) (ho : N + 27 ≤ o) (hf : Fr (PU N o) m m') : OS m' o := OC.os h hf (fun a k z => by
  rcases z with z | z
  · right
    unfold PS at z
    unfold OA
    omega
  · exact Or.inl z)
/-- a text is read into the spare office that holds s0 and q0 -/
theorem x109w (h : TC m N X) (hF : TF m N f X) (hT : CT m N b n T 0) (hV : OV m (oa N (f 6)) s0 q0) (hG : WG B s0 q0) : match sLp b n 900 0 0 s0 q0 with
    | .inl e => ∃ m', am_ca sa sv (d + 7) 109 [.ref (N + 7), .ref (oa N (f 6))] m = some (.inr 1, th_ m') ∧ Fr (PRd N (oa N (f 6))) m m' ∧ TC m' N (X.wE (nI e.1) (nI e.2.1) (nI e.2.2))
    | .inr x => ∃ m', am_ca sa sv (d + 7) 109 [.ref (N + 7), .ref (oa N (f 6))] m = some (.inl (some (.int (nI x.2.1))), m') ∧ Fr (PRd N (oa N (f 6))) m m' ∧ TC m' N (X.wE (nI 0) (-1) (nI 0)) ∧ TF m' N f (X.wE (nI 0) (-1) (nI 0)) ∧ OV m' (oa N (f 6)) x.2.2.1 x.2.2.2 ∧ Kd b n x.1 = 0 ∧ WG B x.2.2.1 x.2.2.2 := by
  have g6 := hF.1.lt (i := 6) (by omega)
  have c := x109 (sa := sa) (sv := sv) (d := d) hT (h.o _ g6) hV (oa_lo N _) (oa_hi N g6) hG
  have hO1 : OS (m109 m N (oa N (f 6))) (oa N (f 6)) := (h.o _ g6).fr' m109_fr (fun a k z1 z2 z => by
    have := oa_lo N (f 6)
    have := z.1
    omega)
  have hf1 : Fr (PRd N (oa N (f 6))) m (m109 m N (oa N (f 6))) := m109_fr.mono fun a k z => Or.inr (Or.inr (Or.inr (Or.inr z)))
  have hT1 : CT (m109 m N (oa N (f 6))) N b n T 0 := hT.fr m109_fr (fun a k z => ⟨XF.a7 z.1 z.2, by have := z.1; omega, by have := z.1; omega, by have := z.1; omega, by have := z.1; omega⟩)
  have hS1 : SR (m109 m N (oa N (f 6))) N (oa N (f 6)) s0 q0 := by
    refine ⟨?_, ?_, hO1, hV.fr m109_fr (fun a k z1 z2 z => by
      have := oa_lo N (f 6)
      have := z.1
      omega), oa_lo N _, oa_hi N g6⟩
    · unfold m109
      rw [gr_sr, if_neg (by omega), gr_sr, if_pos ⟨rfl, rfl⟩]
    · unfold m109
      rw [gr_sr, if_pos ⟨rfl, rfl⟩]
  cases z : sLp b n 900 0 0 s0 q0 with
  | inl e =>
    rw [z] at c
    obtain ⟨m2, c1, c2, c3, c4, c5⟩ := c
    have hf := hf1.trans (c2.mono fun a k z => PU.rd z)
    exact ⟨m2, c1, hf, (TC.read h hF hf (hO1.rd (oa_lo N _) c2) c3 c4 c5).1⟩
  | inr x =>
    rw [z] at c
    obtain ⟨m2, c1, c2, hT2, hS2⟩ := c
    have hf := hf1.trans (c2.mono fun a k z => PU.rd z)
    obtain ⟨t1, t2⟩ := TC.read h hF hf hS2.O hT2.2.2.2.2.2.2.2.2.2.1 hT2.2.2.2.2.2.2.2.2.2.2 hT2.2.2.2.2.2.2.2.1
    have en := sLp_end (B := B) 900 0 0 _ s0 q0 (by have := hT.2.2.1; omega) hT1 hS1 hG x z
    exact ⟨m2, c1, hf, t1, t2, hS2.V, en.1, en.2⟩
end I89
