/-! the reference's steps in a text: names, signs, words, numbers -/
section D80
variable {sa sv d N : Nat} {m : am_M} {b : Nat → Nat} {n : Nat} {σ : Er ⊕ Nat}
theorem gs_r (i : Nat) : gd_s (.inr i) = true := rfl
theorem gs_l (e : Er) : gd_s (.inl e) = false := rfl
theorem Nv_lt {i : Nat} (hk : Kd b n i = 3) : Nv b n i < 1000000 := by
  unfold Kd at hk
  split at hk
  · rename_i h1
    unfold tK at hk
    split at hk
    · rename_i h2
      have := wki_2 (Int64.ofNat (wvn b (St b n i) (wnd b n (St b n i) - St b n i)))
      split at hk <;> omega
    · split at hk
      · rename_i h3
        split at hk
        · rename_i h4
          unfold Nv
          have hd : ∀ t, t < nnd b n (St b n i) - St b n i → tD (b (St b n i + t)) = true := fun t ht => by
            rcases fst_spec (fun j => !tD (b j)) (n - St b n i) (St b n i) with ⟨q1, q2⟩ | ⟨q1, q2, q3, q4⟩
            · have := q2 (St b n i + t) (by omega) (by unfold nnd at ht; omega)
              simpa using this
            · have := q4 (St b n i + t) (by omega) (by unfold nnd at ht; omega)
              simpa using this
          have key : ∀ t, t ≤ nnd b n (St b n i) - St b n i → nvn b (St b n i) t < 10 ^ t := by
            intro t
            induction t with
            | zero => exact fun _ => Nat.one_pos
            | succ t iht =>
              intro ht
              have h1 := iht (by omega)
              have h2 := of_decide_eq_true (hd t (by omega))
              rw [nvn, Nat.pow_succ]
              omega
          have h5 := key _ (Nat.le_refl _)
          have h6 : 10 ^ (nnd b n (St b n i) - St b n i) ≤ 10 ^ 6 := Nat.pow_le_pow_right (by decide) h4
          omega
        · omega
      · repeat' split at hk
        all_goals omega
  · omega
end D80
