/-! words, names, numbers -/
def kwl_ : List (List Nat) := [[112, 97, 121, 101, 101], [108, 101, 97, 115, 116], [119, 111, 114, 107], [99, 111, 118, 101, 114], [111, 102], [115, 97, 109, 112, 108, 101], [105, 110], [115, 112, 108, 105, 116], [102, 114, 111, 109], [97, 115, 115, 105, 103, 110], [116, 111], [117, 110, 116, 105, 108], [97, 100, 118, 97, 110, 99, 101], [114, 97, 116, 101], [111, 110], [98, 121]]
def kw (k : Nat) : List Nat := kwl_.getD (k - 7) []
def nmw (c p : Nat) : List Nat := [c, 97 + p]
def dgn (n : Nat) : List Nat := if n < 10 then [48 + n] else if n < 100 then [48 + n / 10, 48 + n % 10] else if n < 1000 then [48 + n / 100, 48 + n / 10 % 10, 48 + n % 10] else [48 + n / 1000, 48 + n / 100 % 10, 48 + n / 10 % 10, 48 + n % 10]
def pv (p : Nat) : Int64 := Int64.ofNat (16 * 32 + (1 + p))
def wv (p : Nat) : Int64 := Int64.ofNat (23 * 32 + (1 + p))
theorem kw_kd : ∀ k, k < 16 → kd_ (kw (7 + k)) = 7 + k := by decide +kernel
theorem kw_L : ∀ k, k < 16 → (kw (7 + k)).all tL = true ∧ ¬ kw (7 + k) = [] := by decide +kernel
theorem nm_kd : ∀ p, p < 20 → kd_ (nmw 112 p) = 2 ∧ vl_ (nmw 112 p) = pv p ∧ kd_ (nmw 119 p) = 2 ∧ vl_ (nmw 119 p) = wv p := by decide +kernel
theorem nm_L : ∀ p, p < 20 → (nmw 112 p).all tL = true ∧ (nmw 119 p).all tL = true := by decide +kernel
theorem pv_inj : ∀ p, p < 20 → ∀ r, r < 20 → pv p = pv r → p = r := by decide +kernel
theorem wv_inj : ∀ p, p < 20 → ∀ r, r < 20 → wv p = wv r → p = r := by decide +kernel
theorem pw_ne : ∀ p, p < 20 → ∀ r, r < 20 → ¬ pv p = wv r := by decide +kernel
theorem dg_n {n : Nat} : dg_ n = (dgn n).map nI := by
  unfold dg_ dgn c0_
  repeat' split
  all_goals rfl
theorem dgn_f {n : Nat} (h : n < 10000) : (∀ c, c ∈ dgn n → tD c = true) ∧ 0 < (dgn n).length ∧ (dgn n).length ≤ 4 ∧ nv_l (dgn n) = n := by
  have ht : ∀ k, k < 10 → tD (48 + k) = true := fun k hk => decide_eq_true (by omega)
  unfold dgn
  by_cases h1 : n < 10
  · rw [if_pos h1]
    refine ⟨fun c hc => ?_, by show 0 < 1; omega, by show 1 ≤ 4; omega, ?_⟩
    · simp only [List.mem_cons, List.not_mem_nil, or_false] at hc
      rw [hc]
      exact ht _ h1
    · show 0 * 10 + (48 + n - 48) = n
      omega
  · rw [if_neg h1]
    by_cases h2 : n < 100
    · rw [if_pos h2]
      refine ⟨fun c hc => ?_, by show 0 < 2; omega, by show 2 ≤ 4; omega, ?_⟩
      · simp only [List.mem_cons, List.not_mem_nil, or_false] at hc
        rcases hc with hc | hc <;> rw [hc] <;> exact ht _ (by omega)
      · show (0 * 10 + (48 + n / 10 - 48)) * 10 + (48 + n % 10 - 48) = n
        omega
    · rw [if_neg h2]
      by_cases h3 : n < 1000
      · rw [if_pos h3]
        refine ⟨fun c hc => ?_, by show 0 < 3; omega, by show 3 ≤ 4; omega, ?_⟩
        · simp only [List.mem_cons, List.not_mem_nil, or_false] at hc
          rcases hc with hc | hc | hc <;> rw [hc] <;> exact ht _ (by omega)
        · show ((0 * 10 + (48 + n / 100 - 48)) * 10 + (48 + n / 10 % 10 - 48)) * 10 + (48 + n % 10 - 48) = n
          omega
      · rw [if_neg h3]
        refine ⟨fun c hc => ?_, by show 0 < 4; omega, by show 4 ≤ 4; omega, ?_⟩
        · simp only [List.mem_cons, List.not_mem_nil, or_false] at hc
          rcases hc with hc | hc | hc | hc <;> rw [hc] <;> exact ht _ (by omega)
        · show (((0 * 10 + (48 + n / 1000 - 48)) * 10 + (48 + n / 100 % 10 - 48)) * 10 + (48 + n / 10 % 10 - 48)) * 10 + (48 + n % 10 - 48) = n
          omega
theorem kd_dig {w : List Nat} (h : ∀ c, c ∈ w → tD c = true) (h0 : 0 < w.length) (h6 : w.length ≤ 6) : kd_ w = 3 := by
  have hw' : nnd (bw w) w.length 0 = 0 + w.length := rnd_run _ _ (fun j hj => by rw [Nat.zero_add]; exact h _ (bw_mem hj)) (by omega) (.inl (by omega))
  have y0 : tD (bw w 0) = true := h _ (bw_mem h0)
  have y1 : ¬ tL (bw w 0) = true := by rw [(tD_S y0).2]; decide
  unfold kd_ tK
  rw [if_neg y1, if_pos y0, hw', if_pos (by omega)]
section T8
variable {b : Nat → Nat} {n i : Nat} {sp : List Nat}
theorem AG.kw {k : Nat} (h : AG b n i (sp, kw k)) (h7 : 7 ≤ k) (hk : k < 23) : Kd b n i = k := by
  have := kw_kd (k - 7) (by omega)
  rw [show 7 + (k - 7) = k by omega] at this
  exact h.1.trans this
theorem AG.p {p : Nat} (h : AG b n i (sp, nmw 112 p)) (hp : p < 20) : Kd b n i = 2 ∧ Vl b n i = pv p := ⟨h.1.trans (nm_kd p hp).1, h.2.1.trans (nm_kd p hp).2.1⟩
theorem AG.w {p : Nat} (h : AG b n i (sp, nmw 119 p)) (hp : p < 20) : Kd b n i = 2 ∧ Vl b n i = wv p := ⟨h.1.trans (nm_kd p hp).2.2.1, h.2.1.trans (nm_kd p hp).2.2.2⟩
theorem AG_n {v : Nat} (h : AG b n i (sp, dgn v)) (hv : v < 10000) : Kd b n i = 3 ∧ Nv b n i = v := by
  obtain ⟨d1, d2, d3, d4⟩ := dgn_f hv
  have d5 := kd_dig d1 d2 (show (dgn v).length ≤ 6 by omega)
  exact ⟨h.1.trans d5, (h.2.2 d1).trans d4⟩
theorem AG.s (h : AG b n i (sp, [59])) : Kd b n i = 4 := h.1.trans (show kd_ [59] = 4 by decide)
/-- spaces -/
def spc (sp : List Nat) : Prop := ∀ c, c ∈ sp → tS c = true
theorem spc0 : spc [] := fun c h => absurd h List.not_mem_nil
theorem spc1 : spc [32] := fun c h => by rw [List.mem_singleton.mp h]; rfl
theorem spc2 : spc [10] := fun c h => by rw [List.mem_singleton.mp h]; rfl
theorem gtk_kw (h : spc sp) {k : Nat} (h7 : 7 ≤ k) (hk : k < 23) : gtk (sp, kw k) := by
  have := kw_L (k - 7) (by omega)
  rw [show 7 + (k - 7) = k by omega] at this
  exact ⟨h, this.2, .inl (fun c hc => List.all_eq_true.mp this.1 c hc)⟩
theorem gtk_p (h : spc sp) {p : Nat} (hp : p < 20) : gtk (sp, nmw 112 p) := ⟨h, (fun z => by cases z), .inl (fun c hc => List.all_eq_true.mp (nm_L p hp).1 c hc)⟩
theorem gtk_w (h : spc sp) {p : Nat} (hp : p < 20) : gtk (sp, nmw 119 p) := ⟨h, (fun z => by cases z), .inl (fun c hc => List.all_eq_true.mp (nm_L p hp).2 c hc)⟩
theorem gtk_n (h : spc sp) {v : Nat} (hv : v < 10000) : gtk (sp, dgn v) := by
  obtain ⟨d1, d2, d3, d4⟩ := dgn_f hv
  exact ⟨h, fun z => by rw [show dgn v = [] from z] at d2; exact absurd d2 (by decide), .inr (.inl d1)⟩
theorem gtk_s (h : spc sp) : gtk (sp, [59]) := ⟨h, (fun z => by cases z), .inr (.inr rfl)⟩
end T8
