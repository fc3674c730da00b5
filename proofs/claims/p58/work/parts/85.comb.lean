/-! how the class's statements are put together -/
def lwl (b : Nat → Nat) (a : Nat) : Nat → List Nat
  | 0 => []
  | k + 1 => (b (a + k) - 96) :: lwl b a k
theorem lwl_len (b : Nat → Nat) (a : Nat) : ∀ k, (lwl b a k).length = k
  | 0 => rfl
  | k + 1 => congrArg (· + 1) (lwl_len b a k)
theorem lwl_ltr (b : Nat → Nat) (a : Nat) : ∀ k, ltr_ (lwl b a k) = wvn b a k
  | 0 => rfl
  | k + 1 => by show ltr_ (lwl b a k) * 32 + _ = wvn b a k * 32 + _; rw [lwl_ltr b a k]
theorem lwl_ok {b : Nat → Nat} {a : Nat} : ∀ {k}, (∀ j, j < k → tL (b (a + j)) = true) → ∀ c ∈ lwl b a k, 1 ≤ c ∧ c ≤ 26
  | 0, _, c, h => by cases h
  | k + 1, h, c, hc => by
    rcases List.mem_cons.mp hc with rfl | hc
    · have := of_decide_eq_true (h k (by omega)); omega
    · exact lwl_ok (fun j hj => h j (by omega)) c hc
section I85
variable {sa sv d N o T n i : Nat} {m : am_M} {b : Nat → Nat} {s : Nat → Int32} {q : Nat → Int64}
theorem wki_n2 {v : Int64} : wki v = 2 ∨ 7 ≤ wki v := by
  unfold wki
  split
  · exact Or.inr (by omega)
  · exact Or.inl rfl
theorem Vl_gd (hk : Kd b n i = 2) : gdn_ (Vl b n i) := by
  unfold Kd at hk
  unfold Vl
  split at hk
  · rename_i h1
    rw [if_pos h1]
    generalize St b n i = a at *
    unfold tK at hk
    unfold tV
    by_cases hl : tL (b a) = true
    · rw [if_pos hl] at hk ⊢
      by_cases h8 : wnd b n a - a ≤ 8
      · have hA : ∀ j, a ≤ j → j < wnd b n a → tL (b j) = true := fun j h2 h3 => by
          unfold wnd at h3
          rcases fst_spec (fun i => !tL (b i)) (n - a) a with ⟨g1, g2⟩ | ⟨g1, g2, g3, g4⟩
          · have := g2 j h2 (by omega)
            cases h : tL (b j)
            · rw [h] at this; cases this
            · rfl
          · have := g4 j h2 h3
            cases h : tL (b j)
            · rw [h] at this; cases this
            · rfl
        have hp : a < wnd b n a := by
          unfold wnd
          rcases fst_spec (fun i => !tL (b i)) (n - a) a with ⟨g1, g2⟩ | ⟨g1, g2, g3, g4⟩
          · omega
          · by_cases e : fst_ (fun i => !tL (b i)) (n - a) a = a
            · rw [e, hl] at g3; cases g3
            · omega
        refine ⟨lwl b a (wnd b n a - a), by rw [lwl_len]; omega, by rw [lwl_len]; exact h8, lwl_ok fun j hj => hA _ (by omega) (by omega), by rw [lwl_ltr]⟩
      · rw [if_neg h8] at hk; omega
    · rw [if_neg hl] at hk
      split at hk
      · split at hk <;> omega
      · split at hk
        · omega
        · split at hk
          · omega
          · split at hk <;> omega
  · omega
theorem sTake_i {k : Nat} {x : Nat × Unit} (h : sTake b n k i = .inr x) : Kd b n i = k ∧ x.1 = i + 1 := by
  unfold sTake at h
  split at h
  · rename_i e; exact ⟨e, by rw [← Sum.inr.inj h]⟩
  · cases h
theorem sNum_i {lo hi : Nat} {x : Nat × Nat} (h : sNum b n lo hi i = .inr x) : Kd b n i = 3 ∧ x.1 = i + 1 ∧ lo ≤ x.2 ∧ x.2 ≤ hi := by
  unfold sNum at h
  split at h
  · rename_i e
    split at h
    · rename_i e2; rw [← Sum.inr.inj h]; exact ⟨e, rfl, e2⟩
    · cases h
  · cases h
theorem sSemi_i {w : Nat} {x : Nat × Unit} (h : sSemi b n w i = .inr x) : Kd b n i = 4 ∧ w = 0 ∧ x.1 = i + 1 := by
  unfold sSemi at h
  split at h
  · rename_i e
    split at h
    · rename_i e2; rw [← Sum.inr.inj h]; exact ⟨e, e2, rfl⟩
    · cases h
  · cases h
theorem sFst_i {c k : Nat} {x : Nat × Unit} (h : sFst b n c k i = .inr x) : c ≠ k ∧ x.1 = i + 1 := by
  unfold sFst at h
  split at h
  · cases h
  · rename_i e; rw [← Sum.inr.inj h]; exact ⟨e, rfl⟩
theorem sNew_i {x : Nat × Int64} (h : sNew s q b n i = .inr x) : Kd b n i = 2 ∧ x.1 = i + 1 ∧ x.2 = Vl b n i ∧ ¬ pnm_ s q x.2 < cN s 0 ∧ ¬ wnm_ s q x.2 < cN s 1 := by
  unfold sNew at h
  split at h
  · rename_i e
    split at h
    · cases h
    · rename_i e2; rw [← Sum.inr.inj h]; exact ⟨e, rfl, rfl, fun z => e2 (Or.inl z), fun z => e2 (Or.inr z)⟩
  · cases h
theorem sPay_i {x : Nat × Nat} (h : sPay s q b n i = .inr x) : Kd b n i = 2 ∧ x.1 = i + 1 ∧ x.2 < cN s 0 := by
  unfold sPay at h
  split at h
  · rename_i e
    split at h
    · rename_i e2; rw [← Sum.inr.inj h]; exact ⟨e, rfl, e2⟩
    · cases h
  · cases h
theorem sWrk_i {t : Nat} {x : Nat × Nat} (h : sWrk s q b n t i = .inr x) : Kd b n i = 2 ∧ x.1 = i + 1 ∧ x.2 < cN s 1 ∧ ¬ rm_ s t x.2 := by
  unfold sWrk at h
  split at h
  · rename_i e
    split at h
    · rename_i e2
      split at h
      · cases h
      · rename_i e3; rw [← Sum.inr.inj h]; exact ⟨e, rfl, e2, e3⟩
    · cases h
  · cases h
theorem CO.cw {α : Type} {P : Nat → Nat → Prop} {g : α → Option Value} {z : Er ⊕ (Nat × α)} {r : Option am_R} (h : CO N m g z r) (hp : ∀ a k, P8 N a k → P a k) : CW N m P g (fun j _ m' => m' = stp m N j) z r := by
  cases z with
  | inl e => obtain ⟨m', g1, g2, g3⟩ := h; exact ⟨m', g1, g2.mono hp, g3⟩
  | inr x => exact ⟨_, h, (Fr.refl _ _).si (hp _ _ ⟨rfl, by omega, by omega⟩), rfl⟩
theorem CW.tr {α : Type} {P P' : Nat → Nat → Prop} {g : α → Option Value} {Q : Nat → α → am_M → Prop} {z : Er ⊕ (Nat × α)} {r : Option am_R} {m1 : am_M} (h : CW N m1 P g Q z r) (hf : Fr P' m m1) (hp : ∀ a k, P' a k → P a k) : CW N m P g Q z r := by
  cases z with
  | inl e => obtain ⟨m', g1, g2, g3⟩ := h; exact ⟨m', g1, (hf.mono hp).trans g2, g3⟩
  | inr x => obtain ⟨m', g1, g2, g3⟩ := h; exact ⟨m', g1, (hf.mono hp).trans g2, g3⟩
theorem CW.c0 {α β : Type} {P : Nat → Nat → Prop} {g : α → Option Value} {g' : β → Option Value} {Q : Nat → α → am_M → Prop} {Q' : Nat → β → am_M → Prop} {z : Er ⊕ (Nat × α)} {r : Option am_R} {f : Nat × α → Er ⊕ (Nat × β)} {K : am_M → Option am_R} (h : CW N m P g Q z r) (hg : ∀ v, g v = none) (hk : ∀ x m', z = .inr x → Fr P m m' → Q x.1 x.2 m' → CW N m' P g' Q' (f x) (K m')) : CW N m P g' Q' (eb z f) (am_c0 r K am_xg) := by
  cases z with
  | inl e => obtain ⟨m', g1, g2, g3⟩ := h; exact ⟨m', by rw [g1, c0_x, xg_v], g2, g3⟩
  | inr x =>
    obtain ⟨m', g1, g2, g3⟩ := h
    rw [g1, hg, c0_v]
    exact (hk x m' rfl g2 g3).tr g2 (fun _ _ z => z)
theorem CW.ci {α β : Type} {P : Nat → Nat → Prop} {g : α → Option Value} {g' : β → Option Value} {Q : Nat → α → am_M → Prop} {Q' : Nat → β → am_M → Prop} {z : Er ⊕ (Nat × α)} {r : Option am_R} {f : Nat × α → Er ⊕ (Nat × β)} {K : Int32 → am_M → Option am_R} (v : α → Int32) (h : CW N m P g Q z r) (hg : ∀ x, g x = some (.int (v x))) (hk : ∀ x m', z = .inr x → Fr P m m' → Q x.1 x.2 m' → CW N m' P g' Q' (f x) (K (v x.2) m')) : CW N m P g' Q' (eb z f) (am_ci r K am_xg) := by
  cases z with
  | inl e => obtain ⟨m', g1, g2, g3⟩ := h; exact ⟨m', by rw [g1, ci_x, xg_v], g2, g3⟩
  | inr x =>
    obtain ⟨m', g1, g2, g3⟩ := h
    rw [g1, hg, ci_v]
    exact (hk x m' rfl g2 g3).tr g2 (fun _ _ z => z)
theorem CW.cl {α β : Type} {P : Nat → Nat → Prop} {g : α → Option Value} {g' : β → Option Value} {Q : Nat → α → am_M → Prop} {Q' : Nat → β → am_M → Prop} {z : Er ⊕ (Nat × α)} {r : Option am_R} {f : Nat × α → Er ⊕ (Nat × β)} {K : Int64 → am_M → Option am_R} (v : α → Int64) (h : CW N m P g Q z r) (hg : ∀ x, g x = some (.long (v x))) (hk : ∀ x m', z = .inr x → Fr P m m' → Q x.1 x.2 m' → CW N m' P g' Q' (f x) (K (v x.2) m')) : CW N m P g' Q' (eb z f) (am_cl r K am_xg) := by
  cases z with
  | inl e => obtain ⟨m', g1, g2, g3⟩ := h; exact ⟨m', by rw [g1, cl_x, xg_v], g2, g3⟩
  | inr x =>
    obtain ⟨m', g1, g2, g3⟩ := h
    rw [g1, hg, cl_v]
    exact (hk x m' rfl g2 g3).tr g2 (fun _ _ z => z)
theorem CT.frA {m' : am_M} (h : CT m N b n T i) (hf : Fr (OC o) m m') (h1 : N + 27 ≤ o) (h2 : o + 27 ≤ N + 243) : CT m' N b n T i := h.fr hf (fun a k z => by
  unfold OC OA at z
  exact ⟨⟨by omega, Or.inr (Or.inr (Or.inl (by omega)))⟩, by omega, by omega, by omega, by omega⟩)
theorem SR.upd {m' : am_M} {s' : Nat → Int32} {q' : Nat → Int64} (h : SR m N o s q) (hf : Fr (OC o) m m') (hO : OS m' o) (hV : OV m' o s' q') : SR m' N o s' q' := by
  obtain ⟨h1, h2, h3, h4, h5, h6⟩ := h
  exact ⟨(hf.2.2.2.1 _ _ (by unfold OC OA; omega)).trans h1, (hf.2.2.2.1 _ _ (by unfold OC OA; omega)).trans h2, hO, hV, h5, h6⟩
def PU (N o a k : Nat) : Prop := PS N a k ∨ OC o a k
theorem P8.u {N o a k : Nat} (h : P8 N a k) : PU N o a k := Or.inl (Or.inl h)
end I85
