/-! a statement goes on by a token at least -/
section G89
variable {s : Nat → Int32} {q : Nat → Int64} {B n i : Nat} {b : Nat → Nat}
theorem sShare_lt {l : List (Nat × Nat)} {x : Nat × List (Nat × Nat)} (h : sShare s q b n l i = .inr x) : i < x.1 := by
  unfold sShare at h
  split at h
  · split at h
    · split at h
      · cases h
      · split at h
        · cases h
        · obtain ⟨y, z1, h⟩ := eb_r h
          have := (sNum_i z1).2.1
          rw [← Sum.inr.inj h]
          show i < y.1
          omega
    · cases h
  · cases h
theorem sShl_le : ∀ (f : Nat) (l : List (Nat × Nat)) (i : Nat) {x : Nat × List (Nat × Nat)}, sShl s q b n f l i = .inr x → i ≤ x.1 := by
  intro f
  induction f with
  | zero => intro l i x h; rw [← Sum.inr.inj h]; exact Nat.le_refl _
  | succ f ih =>
    intro l i x h
    unfold sShl at h
    obtain ⟨y, z1, h⟩ := eb_r h
    have := sShare_lt z1
    split at h
    · have := ih _ _ h; omega
    · rw [← Sum.inr.inj h]; omega
theorem sShs_lt {x : Nat × List (Nat × Nat)} (h : sShs s q b n i = .inr x) : i < x.1 := by
  unfold sShs at h
  obtain ⟨y, z1, h⟩ := eb_r h
  have := (sTake_i z1).2
  have := sShl_le _ _ _ h
  omega
theorem sST_lt (hG : WG B s q) {x : Nat × ((Nat → Int32) × (Nat → Int64))} (h : sST s q b n i = .inr x) : i < x.1 := by
  unfold sST at h
  split at h
  · exact (sPS_WG hG h).2
  split at h
  · obtain ⟨x1, z1, h⟩ := eb_r h
    obtain ⟨x2, z2, h⟩ := eb_r h
    obtain ⟨x3, z3, h⟩ := eb_r h
    obtain ⟨x4, z4, h⟩ := eb_r h
    rw [← Sum.inr.inj h]
    have k1 := (sFst_i z1).2
    have k2 := (sNew_i z2).2.1
    have k3 := sShs_lt z3
    have k4 := (sSemi_i z4).2.2
    show i < x4.1
    omega
  split at h
  · obtain ⟨x1, z1, h⟩ := eb_r h
    obtain ⟨x2, z2, h⟩ := eb_r h
    obtain ⟨x5, z5, h⟩ := eb_r h
    obtain ⟨x6, z6, h⟩ := eb_r h
    obtain ⟨x7, z7, h⟩ := eb_r h
    obtain ⟨x3, z3, h⟩ := eb_r h
    obtain ⟨x4, z4, h⟩ := eb_r h
    rw [← Sum.inr.inj h]
    have k1 := (sFst_i z1).2
    have k2 := (sNew_i z2).2.1
    have k5 := (sTake_i z5).2
    have k6 := (sWrk_i z6).2.1
    have k7 := (sNum_i z7).2.1
    have k3 := sShs_lt z3
    have k4 := (sSemi_i z4).2.2
    show i < x4.1
    omega
  split at h
  · obtain ⟨x1, z1, h⟩ := eb_r h
    obtain ⟨x2, z2, h⟩ := eb_r h
    obtain ⟨x3, z3, h⟩ := eb_r h
    obtain ⟨x4, z4, h⟩ := eb_r h
    obtain ⟨x5, z5, h⟩ := eb_r h
    rw [← Sum.inr.inj h]
    have k1 := (sWrk_i z1).2.1
    have k2 := (sTake_i z2).2
    have k3 := (sWrk_i z3).2.1
    have k4 := (sNum_i z4).2.1
    have k5 := (sSemi_i z5).2.2
    show i < x5.1
    omega
  split at h
  · obtain ⟨x1, z1, h⟩ := eb_r h
    obtain ⟨x2, z2, h⟩ := eb_r h
    obtain ⟨x3, z3, h⟩ := eb_r h
    obtain ⟨x4, z4, h⟩ := eb_r h
    obtain ⟨x5, z5, h⟩ := eb_r h
    rw [← Sum.inr.inj h]
    have k1 := (sWrk_i z1).2.1
    have k2 := (sTake_i z2).2
    have k3 := (sNum_i z3).2.1
    have k4 := sShs_lt z4
    have k5 := (sSemi_i z5).2.2
    show i < x5.1
    omega
  split at h
  · obtain ⟨x1, z1, h⟩ := eb_r h
    obtain ⟨x2, z2, h⟩ := eb_r h
    obtain ⟨x3, z3, h⟩ := eb_r h
    obtain ⟨x4, z4, h⟩ := eb_r h
    obtain ⟨x5, z5, h⟩ := eb_r h
    obtain ⟨x6, z6, h⟩ := eb_r h
    obtain ⟨x7, z7, h⟩ := eb_r h
    obtain ⟨x8, z8, h⟩ := eb_r h
    obtain ⟨x9, z9, h⟩ := eb_r h
    obtain ⟨x10, z10, h⟩ := eb_r h
    obtain ⟨x11, z11, h⟩ := eb_r h
    obtain ⟨x12, z12, h⟩ := eb_r h
    rw [← Sum.inr.inj h]
    have k1 := (sFst_i z1).2
    have k2 := (sPay_i z2).2.1
    have k3 := (sTake_i z3).2
    have k4 := (sWrk_i z4).2.1
    have k5 := (sTake_i z5).2
    have k6 := (sPay_i z6).2.1
    have k7 := (sNum_i z7).2.1
    have k8 := (sTake_i z8).2
    have k9 := (sNum_i z9).2.1
    have k10 := (sTake_i z10).2
    have k11 := (sNum_i z11).2.1
    have k12 := (sSemi_i z12).2.2
    show i < x12.1
    omega
  split at h
  · obtain ⟨x1, z1, h⟩ := eb_r h
    obtain ⟨x2, z2, h⟩ := eb_r h
    obtain ⟨x3, z3, h⟩ := eb_r h
    obtain ⟨x4, z4, h⟩ := eb_r h
    obtain ⟨x5, z5, h⟩ := eb_r h
    obtain ⟨x6, z6, h⟩ := eb_r h
    obtain ⟨x7, z7, h⟩ := eb_r h
    have k1 := (sFst_i z1).2
    have k2 := (sPay_i z2).2.1
    have k3 := (sNum_i z3).2.1
    have k4 := (sTake_i z4).2
    have k5 := (sPay_i z5).2.1
    have k6 := (sTake_i z6).2
    have k7 := (sNum_i z7).2.1
    split at h
    · obtain ⟨x8, z8, h⟩ := eb_r h
      obtain ⟨x9, z9, h⟩ := eb_r h
      rw [← Sum.inr.inj h]
      have k8 := (sWrk_i z8).2.1
      have k9 := (sSemi_i z9).2.2
      show i < x9.1
      omega
    · obtain ⟨x9, z9, h⟩ := eb_r h
      rw [← Sum.inr.inj h]
      have k9 := (sSemi_i z9).2.2
      show i < x9.1
      omega
  cases h
end G89
