/-! what may go wrong in a text, and how the reference keeps it -/
abbrev Er : Type := Nat × Nat × Nat
def eb {α β : Type} (r : Er ⊕ α) (f : α → Er ⊕ β) : Er ⊕ β := match r with
  | .inl e => .inl e
  | .inr a => f a
def pst {α : Type} (r : Er ⊕ (Nat × α)) : Er ⊕ Nat := match r with
  | .inl e => .inl e
  | .inr x => .inr x.1
def err_ {α : Type} (b : Nat → Nat) (n c i : Nat) : Er ⊕ α := .inl (c, St b n i, 0)
/-- a token of this kind; a number -/
def sTake (b : Nat → Nat) (n k i : Nat) : Er ⊕ (Nat × Unit) := if Kd b n i = k then .inr (i + 1, ()) else err_ b n 1 i
def sNum (b : Nat → Nat) (n lo hi i : Nat) : Er ⊕ (Nat × Nat) := if Kd b n i = 3 then (if lo ≤ Nv b n i ∧ Nv b n i ≤ hi then .inr (i + 1, Nv b n i) else err_ b n 2 i) else err_ b n 1 i
theorem srt_1 {k : Nat} : (srt k = 1) ↔ (k = 2 ∨ 7 ≤ k) := by
  unfold srt
  repeat' split
  all_goals omega
theorem srt_2 {k : Nat} : (srt k = 2) ↔ k = 3 := by
  unfold srt
  repeat' split
  all_goals omega
theorem srt_3 {k : Nat} : (srt k = 3) ↔ (k = 4 ∨ k = 5 ∨ k = 6) := by
  unfold srt
  repeat' split
  all_goals omega
theorem srt_4 {k : Nat} : (srt k = 4) ↔ k = 1 := by
  unfold srt
  repeat' split
  all_goals omega
theorem srt_lt (k : Nat) : srt k < 5 := by
  unfold srt
  repeat' split
  all_goals omega
theorem tK_lt (b : Nat → Nat) (n a : Nat) : tK b n a < 28 := by
  unfold tK
  have := wki_2 (Int64.ofNat (wvn b a (wnd b n a - a)))
  repeat' split
  all_goals omega
theorem Kd_lt (b : Nat → Nat) (n i : Nat) : Kd b n i < 28 := by
  unfold Kd
  split
  · exact tK_lt _ _ _
  · omega
/-- the kind of a word is told by its value -/
theorem Kd_w {b : Nat → Nat} {n i : Nat} (h : Kd b n i = 2 ∨ 7 ≤ Kd b n i) : Kd b n i = wki (Vl b n i) := by
  unfold Kd Vl at *
  split at h
  · rename_i h1
    rw [if_pos h1, if_pos h1]
    unfold tK tV at *
    split at h
    · rename_i h2
      rw [if_pos h2, if_pos h2]
      split at h
      · rename_i h3
        rw [if_pos h3]
      · omega
    · exfalso
      repeat' split at h
      all_goals omega
  · omega
section D80
variable {sa sv d N : Nat} {m : am_M} {b : Nat → Nat} {n : Nat} {σ : Er ⊕ Nat}
def gd_s (σ : Er ⊕ Nat) : Bool := match σ with
  | .inl _ => false
  | .inr _ => true
/-- is it this word, this sign, a name -/
def isK (b : Nat → Nat) (n k : Nat) (σ : Er ⊕ Nat) : Bool := match σ with
  | .inl _ => false
  | .inr i => decide (Kd b n i = k)
end D80
