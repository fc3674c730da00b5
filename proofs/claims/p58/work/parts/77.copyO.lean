/-! an office takes what another holds, or is emptied -/
/-- what matters of an office's cells: ints, longs -/
def dI_ (j k : Nat) : Prop := (j = 0 ∧ k = 0) ∨ (j = 1 ∧ k < 2) ∨ (j = 3 ∧ k < 10) ∨ (j = 5 ∧ k < 12) ∨ (j = 6 ∧ k < 12) ∨ (j = 8 ∧ k < 72) ∨ (j = 10 ∧ k < 96) ∨ (j = 12 ∧ k < 384) ∨ (j = 13 ∧ k = 2) ∨ (j = 14 ∧ k < 96) ∨ (j = 15 ∧ k = 2) ∨ (j = 16 ∧ k < 72) ∨ (j = 17 ∧ k = 2) ∨ (j = 18 ∧ k < 256) ∨ (j = 19 ∧ k = 7) ∨ (j = 26 ∧ k < 5)
def dL_' (j k : Nat) : Prop := (j = 2 ∧ k < 10) ∨ (j = 4 ∧ k < 12) ∨ (j = 20 ∧ k < 10) ∨ (j = 21 ∧ k < 40) ∨ (j = 22 ∧ k < 30) ∨ (j = 23 ∧ k < 120) ∨ (j = 24 ∧ k < 12) ∨ (j = 25 ∧ k < 250)
def PCo (m0 : am_M) (a : Nat) (fI : Nat → Nat → Int32) (fL : Nat → Nat → Int64) (S : Nat → Prop) (m : am_M) : Prop := Fr (fun x _ => OA a x) m0 m ∧ OS m a ∧ (∀ j k, S j → j < 27 → dI_ j k → gi_ m (a + j) k = fI j k) ∧ (∀ j k, S j → j < 27 → dL_' j k → gl_ m (a + j) k = fL j k)
section R77
variable {m0 m : am_M} {a b : Nat} {fI : Nat → Nat → Int32} {fL : Nat → Nat → Int64} {S S' : Nat → Prop}
theorem PCo.mono (h : PCo m0 a fI fL S m) (hs : ∀ j, S' j → S j) : PCo m0 a fI fL S' m := ⟨h.1, h.2.1, fun j k h1 => h.2.2.1 j k (hs j h1), fun j k h1 => h.2.2.2 j k (hs j h1)⟩
theorem PCo.si (h : PCo m0 a fI fL S m) {j k : Nat} (v : Int32) (hj : j < 27) (hk : (j = 0 ∧ k = 0) ∨ (j = 1 ∧ k < 2) ∨ (j = 19 ∧ k = 7) ∨ ((j = 7 ∨ j = 9 ∨ j = 11 ∨ j = 13 ∨ j = 15 ∨ j = 17) ∧ k = 2)) (hv : dI_ j k → v = fI j k) : PCo m0 a fI fL S (si_ m (a + j) k v) := by
  obtain ⟨h1, h2, h3, h4⟩ := h
  refine ⟨h1.si (by unfold OA; omega), h2.frd (P := fun x y => x = a + j ∧ y = k) ((Fr.refl _ _).si ⟨rfl, rfl⟩) (fun x y z => by omega), fun i k' s hi d => ?_, h4⟩
  rw [gi_si]
  by_cases e : a + i = a + j ∧ k' = k
  · rw [if_pos e]
    obtain ⟨rfl, rfl⟩ : i = j ∧ k' = k := by omega
    exact hv d
  · rw [if_neg e]; exact h3 i k' s hi d
theorem PCo.add (h : PCo m0 a fI fL S m) (j : Nat) (h1 : ∀ k, dI_ j k → gi_ m (a + j) k = fI j k) (h2 : ∀ k, dL_' j k → gl_ m (a + j) k = fL j k) : PCo m0 a fI fL (fun i => S i ∨ i = j) m := by
  refine ⟨h.1, h.2.1, fun i k s hi d => ?_, fun i k s hi d => ?_⟩
  · rcases s with s | rfl
    · exact h.2.2.1 i k s hi d
    · exact h1 k d
  · rcases s with s | rfl
    · exact h.2.2.2 i k s hi d
    · exact h2 k d
/-- a row as a whole -/
theorem PCo.fri (h : PCo m0 a fI fL S m) {m' : am_M} (j : Nat) (hj : j = 3 ∨ j = 5 ∨ j = 6 ∨ j = 8 ∨ j = 10 ∨ j = 12 ∨ j = 14 ∨ j = 16 ∨ j = 18 ∨ j = 26) (hf : Fr (fun x _ => x = a + j) m m') (hv : ∀ k, dI_ j k → gi_ m' (a + j) k = fI j k) : PCo m0 a fI fL (fun i => S i ∨ i = j) m' := by
  obtain ⟨h1, h2, h3, h4⟩ := h
  refine ⟨h1.trans (hf.mono fun x y z => by unfold OA; omega), h2.frd hf (fun x y z => by omega), fun i k s hi d => ?_, fun i k s hi d => ?_⟩
  · by_cases e : i = j
    · subst e; exact hv k d
    · rw [hf.2.1 _ _ (by omega)]
      exact h3 i k (by rcases s with s | s; exact s; exact absurd s e) hi d
  · have e : ¬ i = j := by unfold dL_' at d; omega
    rw [hf.2.2.1 _ _ (by omega)]
    exact h4 i k (by rcases s with s | s; exact s; exact absurd s e) hi d
theorem PCo.frl (h : PCo m0 a fI fL S m) {m' : am_M} (j : Nat) (hj : j = 2 ∨ j = 4 ∨ j = 20 ∨ j = 21 ∨ j = 22 ∨ j = 23 ∨ j = 24 ∨ j = 25) (hf : Fr (fun x _ => x = a + j) m m') (hv : ∀ k, dL_' j k → gl_ m' (a + j) k = fL j k) : PCo m0 a fI fL (fun i => S i ∨ i = j) m' := by
  obtain ⟨h1, h2, h3, h4⟩ := h
  refine ⟨h1.trans (hf.mono fun x y z => by unfold OA; omega), h2.frd hf (fun x y z => by omega), fun i k s hi d => ?_, fun i k s hi d => ?_⟩
  · have e : ¬ i = j := by unfold dI_ at d; omega
    rw [hf.2.1 _ _ (by omega)]
    exact h3 i k (by rcases s with s | s; exact s; exact absurd s e) hi d
  · by_cases e : i = j
    · subst e; exact hv k d
    · rw [hf.2.2.1 _ _ (by omega)]
      exact h4 i k (by rcases s with s | s; exact s; exact absurd s e) hi d
theorem cpy0 {α : Type} (f g : Nat → α) (n k : Nat) (h : k < n) : va_cpy f g 0 0 n k = f k := by
  show (if 0 ≤ k ∧ k < 0 + n then f (0 + (k - 0)) else g k) = f k
  rw [if_pos (by omega), show 0 + (k - 0) = k by omega]
/-- copying rows of another office -/
theorem PCo.ri (h : PCo m0 a fI fL S m) (j n : Nat) (g : Nat → Int32) (hj : j = 3 ∨ j = 5 ∨ j = 6 ∨ j = 8 ∨ j = 10 ∨ j = 12 ∨ j = 14 ∨ j = 16 ∨ j = 18 ∨ j = 26) (hv : ∀ k, dI_ j k → g k = fI j k) : PCo m0 a fI fL (fun i => S i ∨ i = j) (ri_ m (a + j) g) :=
  h.fri j hj ((Fr.refl _ _).ri (fun _ => rfl)) (fun k d => by rw [gi_ri, if_pos rfl]; exact hv k d)
theorem PCo.rl (h : PCo m0 a fI fL S m) (j n : Nat) (g : Nat → Int64) (hj : j = 2 ∨ j = 4 ∨ j = 20 ∨ j = 21 ∨ j = 22 ∨ j = 23 ∨ j = 24 ∨ j = 25) (hv : ∀ k, dL_' j k → g k = fL j k) : PCo m0 a fI fL (fun i => S i ∨ i = j) (rl_ m (a + j) g) :=
  h.frl j hj ((Fr.refl _ _).rl (fun _ => rfl)) (fun k d => by rw [gl_rl, if_pos rfl]; exact hv k d)
/-- the other office is as it was -/
theorem PCo.src (h : PCo m0 a fI fL S m) (hab : a + 27 ≤ b ∨ b + 27 ≤ a) (j : Nat) (hj : j < 27) : gi_ m (b + j) = gi_ m0 (b + j) ∧ gl_ m (b + j) = gl_ m0 (b + j) :=
  ⟨funext fun k => h.1.2.1 _ _ (by unfold OA; omega), funext fun k => h.1.2.2.1 _ _ (by unfold OA; omega)⟩
theorem PCo.osb (h : PCo m0 a fI fL S m) (hab : a + 27 ≤ b ∨ b + 27 ≤ a) (hb : OS m0 b) : OS m b := hb.fr' h.1 (fun x k h1 h2 => by unfold OA; omega)
theorem PCo.ov {s : Nat → Int32} {q : Nat → Int64} {B : Nat} (h : PCo m0 a fI fL S m) (hS : ∀ j, j < 27 → S j) (hV : OV m0 b s q) (hC : WC s) (hK : WK B s) (e1 : ∀ j k, fI j k = gi_ m0 (b + j) k) (e2 : ∀ j k, fL j k = gl_ m0 (b + j) k) : OV m a s q := by
  have hnl := isN_lt (wc_nl hC) (by decide)
  have h7 := hK.b7
  obtain ⟨-, -, h3, h4⟩ := h
  have i3 : ∀ j k, j < 27 → dI_ j k → gi_ m (a + j) k = gi_ m0 (b + j) k := fun j k hj d => (h3 j k (hS j hj) hj d).trans (e1 j k)
  have i4 : ∀ j k, j < 27 → dL_' j k → gl_ m (a + j) k = gl_ m0 (b + j) k := fun j k hj d => (h4 j k (hS j hj) hj d).trans (e2 j k)
  obtain ⟨a1, a2, a3, a4, a5, a6, a7, a8, a9, b1, b2, b3, b4, b5, b6, b7, b8, b9, c1, c2, c3, c4, c5, c6, c7, c8, c9, d1⟩ := hV
  refine ⟨?_, ?_, ?_, fun k h => ?_, fun k h => ?_, fun k h => ?_, fun k h => ?_, fun k h => ?_, fun w i h1 h2 => ?_, fun w i h1 h2 => ?_, fun w k h1 h2 => ?_, fun w k h1 h2 => ?_, fun w k j h1 h2 h3 => ?_, fun w k j h1 h2 h3 => ?_, ?_, fun a c h1 h2 => ?_, ?_, fun a c h1 h2 => ?_, ?_, fun a c h1 h2 => ?_, ?_, fun p h1 => ?_, fun p c h1 h2 => ?_, fun p c h1 h2 => ?_, fun p w h1 h2 => ?_, fun w h1 => ?_, fun i p c h1 h2 h3 => ?_, fun i h1 => ?_⟩
  · rw [← a1]; exact i3 0 0 (by omega) (by unfold dI_; omega)
  · rw [← a2]; exact i3 1 0 (by omega) (by unfold dI_; omega)
  · rw [← a3]; exact i3 1 1 (by omega) (by unfold dI_; omega)
  · rw [← a4 k h]; exact i4 2 _ (by omega) (by unfold dL_'; omega)
  · rw [← a5 k h]; exact i3 3 _ (by omega) (by unfold dI_; omega)
  · rw [← a6 k h]; exact i4 4 _ (by omega) (by unfold dL_'; omega)
  · rw [← a7 k h]; exact i3 5 _ (by omega) (by unfold dI_; omega)
  · rw [← a8 k h]; exact i3 6 _ (by omega) (by unfold dI_; omega)
  · rw [← a9 w i h1 h2]; exact i3 8 _ (by omega) (by unfold dI_; omega)
  · rw [← b1 w i h1 h2]; exact i3 8 _ (by omega) (by unfold dI_; omega)
  · rw [← b2 w k h1 h2]; exact i3 10 _ (by omega) (by unfold dI_; omega)
  · rw [← b3 w k h1 h2]; exact i3 10 _ (by omega) (by unfold dI_; omega)
  · rw [← b4 w k j h1 h2 h3]; exact i3 12 _ (by omega) (by unfold dI_; omega)
  · rw [← b5 w k j h1 h2 h3]; exact i3 12 _ (by omega) (by unfold dI_; omega)
  · rw [← b6]; exact i3 13 _ (by omega) (by unfold dI_; omega)
  · rw [← b7 a c h1 h2]; exact i3 14 _ (by omega) (by unfold dI_; omega)
  · rw [← b8]; exact i3 15 _ (by omega) (by unfold dI_; omega)
  · rw [← b9 a c h1 h2]; exact i3 16 _ (by omega) (by unfold dI_; omega)
  · rw [← c1]; exact i3 17 _ (by omega) (by unfold dI_; omega)
  · rw [← c2 a c h1 h2]; exact i3 18 _ (by omega) (by unfold dI_; omega)
  · rw [← c3]; exact i3 19 _ (by omega) (by unfold dI_; omega)
  · rw [← c4 p h1]; exact i4 20 _ (by omega) (by unfold dL_'; omega)
  · rw [← c5 p c h1 h2]; exact i4 21 _ (by omega) (by unfold dL_'; omega)
  · rw [← c6 p c h1 h2]; exact i4 22 _ (by omega) (by unfold dL_'; omega)
  · rw [← c7 p w h1 h2]; exact i4 23 _ (by omega) (by unfold dL_'; omega)
  · rw [← c8 w h1]; exact i4 24 _ (by omega) (by unfold dL_'; omega)
  · rw [← c9 i p c h1 h2 h3]; exact i4 25 _ (by omega) (by unfold dL_'; omega)
  · rw [← d1 i h1]; exact i3 26 _ (by omega) (by unfold dI_; omega)
theorem PCo.ov0 (h : PCo m0 a (fun _ _ => 0) (fun _ _ => 0) S m) (hS : ∀ j, j < 27 → S j) : OV m a (fun _ => 0) (fun _ => 0) := by
  obtain ⟨-, -, h3, h4⟩ := h
  have i3 : ∀ j k, j < 27 → dI_ j k → gi_ m (a + j) k = 0 := fun j k hj d => h3 j k (hS j hj) hj d
  have i4 : ∀ j k, j < 27 → dL_' j k → gl_ m (a + j) k = 0 := fun j k hj d => h4 j k (hS j hj) hj d
  have z7 : ∀ k, cN (fun _ => 0) k = 0 := fun k => rfl
  refine ⟨i3 0 0 (by omega) (by unfold dI_; omega), i3 1 0 (by omega) (by unfold dI_; omega), i3 1 1 (by omega) (by unfold dI_; omega), fun k h => i4 2 _ (by omega) (by unfold dL_'; omega), fun k h => i3 3 _ (by omega) (by unfold dI_; omega), fun k h => i4 4 _ (by omega) (by unfold dL_'; omega), fun k h => i3 5 _ (by omega) (by unfold dI_; omega), fun k h => i3 6 _ (by omega) (by unfold dI_; omega), fun w i h1 h2 => i3 8 _ (by omega) (by unfold dI_; omega), fun w i h1 h2 => i3 8 _ (by omega) (by unfold dI_; omega), fun w k h1 h2 => i3 10 _ (by omega) (by unfold dI_; omega), fun w k h1 h2 => i3 10 _ (by omega) (by unfold dI_; omega), fun w k j h1 h2 h3 => i3 12 _ (by omega) (by unfold dI_; omega), fun w k j h1 h2 h3 => i3 12 _ (by omega) (by unfold dI_; omega), i3 13 _ (by omega) (by unfold dI_; omega), fun a c h1 h2 => i3 14 _ (by omega) (by unfold dI_; omega), i3 15 _ (by omega) (by unfold dI_; omega), fun a c h1 h2 => i3 16 _ (by omega) (by unfold dI_; omega), i3 17 _ (by omega) (by unfold dI_; omega), fun a c h1 h2 => absurd h1 (by rw [z7]; omega), i3 19 _ (by omega) (by unfold dI_; omega), fun p h1 => i4 20 _ (by omega) (by unfold dL_'; omega), fun p c h1 h2 => i4 21 _ (by omega) (by unfold dL_'; omega), fun p c h1 h2 => i4 22 _ (by omega) (by unfold dL_'; omega), fun p w h1 h2 => i4 23 _ (by omega) (by unfold dL_'; omega), fun w h1 => i4 24 _ (by omega) (by unfold dL_'; omega), fun i p c h1 h2 h3 => absurd h1 (by rw [z7]; omega), fun i h1 => absurd h1 (by rw [z7]; omega)⟩
end R77
