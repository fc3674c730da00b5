/-! a statement is read: the class -/
noncomputable def sST (s : Nat → Int32) (q : Nat → Int64) (b : Nat → Nat) (n i : Nat) : Er ⊕ (Nat × ((Nat → Int32) × (Nat → Int64))) := if Kd b n i = 7 then sPS s q b n i else if Kd b n i = 9 then sWK s q b n i else if Kd b n i = 10 then sCV s q b n i else if Kd b n i = 12 then sSA s q b n i else if Kd b n i = 14 then sSP s q b n i else if Kd b n i = 16 then sAS s q b n i else if Kd b n i = 19 then sAD s q b n i else err_ b n 1 i
section I89
variable {sa sv d N o T n i B : Nat} {m : am_M} {b : Nat → Nat} {s : Nat → Int32} {q : Nat → Int64}
theorem sST_7 (h : Kd b n i = 7) : sST s q b n i = sPS s q b n i := by unfold sST; rw [if_pos h]
theorem sST_9 (h : Kd b n i = 9) : sST s q b n i = sWK s q b n i := by unfold sST; rw [if_neg (by omega), if_pos h]
theorem sST_10 (h : Kd b n i = 10) : sST s q b n i = sCV s q b n i := by unfold sST; rw [if_neg (by omega), if_neg (by omega), if_pos h]
theorem sST_12 (h : Kd b n i = 12) : sST s q b n i = sSA s q b n i := by unfold sST; rw [if_neg (by omega), if_neg (by omega), if_neg (by omega), if_pos h]
theorem sST_14 (h : Kd b n i = 14) : sST s q b n i = sSP s q b n i := by unfold sST; rw [if_neg (by omega), if_neg (by omega), if_neg (by omega), if_neg (by omega), if_pos h]
theorem sST_16 (h : Kd b n i = 16) : sST s q b n i = sAS s q b n i := by unfold sST; rw [if_neg (by omega), if_neg (by omega), if_neg (by omega), if_neg (by omega), if_neg (by omega), if_pos h]
theorem sST_19 (h : Kd b n i = 19) : sST s q b n i = sAD s q b n i := by unfold sST; rw [if_neg (by omega), if_neg (by omega), if_neg (by omega), if_neg (by omega), if_neg (by omega), if_neg (by omega), if_pos h]
theorem sST_e (h : ∀ k ∈ [7, 9, 10, 12, 14, 16, 19], Kd b n i ≠ k) : sST s q b n i = err_ b n 1 i := by
  unfold sST
  rw [if_neg (h 7 (by decide)), if_neg (h 9 (by decide)), if_neg (h 10 (by decide)), if_neg (h 12 (by decide)), if_neg (h 14 (by decide)), if_neg (h 16 (by decide)), if_neg (h 19 (by decide))]
theorem CW.ret {α : Type} {P : Nat → Nat → Prop} {Q : Nat → α → am_M → Prop} {z : Er ⊕ (Nat × α)} {r : Option am_R} (h : CW N m P (fun _ => none) Q z r) : CW N m P (fun _ => none) Q z (am_c0 r (fun m1 => some (.inl none, m1)) am_xg) := by
  cases z with
  | inl e => obtain ⟨m', g1, g2, g3⟩ := h; exact ⟨m', by rw [g1, c0_x, xg_v], g2, g3⟩
  | inr x => obtain ⟨m', g1, g2, g3⟩ := h; exact ⟨m', by rw [g1, c0_v], g2, g3⟩
theorem x110 (h : CT m N b n T i) (hS : SR m N o s q) (hG : WG B s q) (hk : ¬ Kd b n i = 0) : CW N m (PU N o) (fun _ => none) (fun j z m' => CT m' N b n T j ∧ SR m' N o z.1 z.2) (sST s q b n i) (am_ca sa sv (d + 6) 110 [.ref (N + 7), .int (nI (Kd b n i))] m) := by
  have hK := Kd_lt b n i
  have bad : ∀ k, (∀ j ∈ [7, 9, 10, 12, 14, 16, 19], k ≠ j) → Kd b n i = k → CW N m (PU N o) (fun _ => none) (fun j z m' => CT m' N b n T j ∧ SR m' N o z.1 z.2) (sST s q b n i) (am_c0 (am_ca sa sv (d + 5) 149 [.ref (N + 2), .int (nI 1)] m) (fun m1 => some (.inl none, m1)) am_xg) := fun k h1 h2 => by
    rw [sST_e (fun j hj => by rw [h2]; exact h1 j hj)]
    obtain ⟨m', g1, g2, g3⟩ := CO.fail (α := Unit) (g := fun _ => none) h 1
    rw [x149 h 1, c0_x, xg_v]
    exact ⟨m', g1, g2.mono fun a k z => P8.u z, g3⟩
  rw [c110, b110_0]
  simp (disch := omega) only [gq_true, gb_true, gb_false, true_and, and_true, eq_self, not_false_eq_true, not_true_eq_false, true_or, or_true, false_or, or_false, false_and, and_false, c0_v, ci_v, cl_v, cf_v, pk_mul, nI_add, nI_clamp, nI_lt0, nI_0le, nI_eq0, nI_lt0r, nI_ltE, nI_leE, nI_eqE, nI_m1, in_t, ba0, ba1, Nat.one_ne_zero, Nat.reduceEqDiff, Nat.reduceLeDiff, Nat.add_eq_zero_iff, xk7 h.1, xr7_0 h.1, xk2 h.1]
  by_cases e7 : Kd b n i = 7
  · rw [gb_pos e7, sST_7 e7]; exact (x111 (sa := sa) (sv := sv) (d := d + 1) h hS hG hk).ret
  rw [gb_neg e7]
  by_cases e8 : Kd b n i = 8
  · rw [gb_pos e8]; exact bad 8 (by decide) e8
  rw [gb_neg e8]
  by_cases e9 : Kd b n i = 9
  · rw [gb_pos e9, sST_9 e9]; exact (x112 (sa := sa) (sv := sv) (d := d) h hS hG hk).ret
  rw [gb_neg e9]
  by_cases e10 : Kd b n i = 10
  · rw [gb_pos e10, sST_10 e10]; exact (x113 (sa := sa) (sv := sv) (d := d) h hS hG hk).ret
  rw [gb_neg e10]
  by_cases e11 : Kd b n i = 11
  · rw [gb_pos e11]; exact bad 11 (by decide) e11
  rw [gb_neg e11]
  by_cases e12 : Kd b n i = 12
  · rw [gb_pos e12, sST_12 e12]; exact (x114 (sa := sa) (sv := sv) (d := d + 1) h hS hG hk).ret
  rw [gb_neg e12]
  by_cases e13 : Kd b n i = 13
  · rw [gb_pos e13]; exact bad 13 (by decide) e13
  rw [gb_neg e13]
  by_cases e14 : Kd b n i = 14
  · rw [gb_pos e14, sST_14 e14]; exact (x115 (sa := sa) (sv := sv) (d := d) h hS hG hk).ret
  rw [gb_neg e14]
  by_cases e15 : Kd b n i = 15
  · rw [gb_pos e15]; exact bad 15 (by decide) e15
  rw [gb_neg e15]
  by_cases e16 : Kd b n i = 16
  · rw [gb_pos e16, sST_16 e16]; exact (x116 (sa := sa) (sv := sv) (d := d) h hS hG hk).ret
  rw [gb_neg e16]
  by_cases e17 : Kd b n i = 17
  · rw [gb_pos e17]; exact bad 17 (by decide) e17
  rw [gb_neg e17]
  by_cases e18 : Kd b n i = 18
  · rw [gb_pos e18]; exact bad 18 (by decide) e18
  rw [gb_neg e18]
  by_cases e19 : Kd b n i = 19
  · rw [gb_pos e19, sST_19 e19]; exact (x117 (sa := sa) (sv := sv) (d := d) h hS hG hk).ret
  rw [gb_neg e19]
  refine bad _ (fun j hj => ?_) rfl
  rcases List.mem_cons.mp hj with rfl | hj
  · exact e7
  rcases List.mem_cons.mp hj with rfl | hj
  · exact e9
  rcases List.mem_cons.mp hj with rfl | hj
  · exact e10
  rcases List.mem_cons.mp hj with rfl | hj
  · exact e12
  rcases List.mem_cons.mp hj with rfl | hj
  · exact e14
  rcases List.mem_cons.mp hj with rfl | hj
  · exact e16
  rcases List.mem_cons.mp hj with rfl | hj
  · exact e19
  cases hj
theorem sST_WG (hG : WG B s q) {x : Nat × ((Nat → Int32) × (Nat → Int64))} (h : sST s q b n i = .inr x) : WG B x.2.1 x.2.2 := by
  unfold sST at h
  split at h
  · exact (sPS_WG hG h).1
  split at h
  · exact sWK_WG hG h
  split at h
  · exact sCV_WG hG h
  split at h
  · exact sSA_WG hG h
  split at h
  · exact sSP_WG hG h
  split at h
  · exact sAS_WG hG h
  split at h
  · exact sAD_WG hG h
  cases h
end I89
