/-! scripts: what a script's text says -/
abbrev Ins : Type := Nat × Nat × Nat
noncomputable def sCm (s : Nat → Int32) (q : Nat → Int64) (b : Nat → Nat) (n o W i : Nat) : Er ⊕ (Nat × Ins) :=
  if ¬ (Kd b n i = 8 ∨ (23 ≤ Kd b n i ∧ Kd b n i ≤ 27)) then rr_ b n 1 i
  else if Kd b n i = 27 ∧ o = 2 then rr_ b n 4 i
  else if W = 30 then rr_ b n 6 i
  else if Kd b n i = 23 then eb (sWrk s q b n 0 (i + 1)) fun x => eb (sNum b n 0 999999 x.1) fun y => .inr (y.1, 23, x.2, y.2)
  else if Kd b n i = 8 then eb (sPay s q b n (i + 1)) fun x => eb (sNum b n 0 999999 x.1) fun y => .inr (y.1, 8, x.2, y.2)
  else if Kd b n i = 24 then eb (sNum b n 0 999999 (i + 1)) fun x => .inr (x.1, 24, x.2, 0)
  else if Kd b n i = 25 then eb (sNum b n 0 999999 (i + 1)) fun x => eb (sNum b n 0 999999 x.1) fun y => .inr (y.1, 25, x.2, y.2)
  else if Kd b n i = 26 then .inr (i + 1, 26, 0, 0)
  else eb (sNum b n 1 20 (i + 1)) fun x => eb (sTake b n 5 x.1) fun y => .inr (y.1, 27, x.2, 0)
noncomputable def sFl (s : Nat → Int32) (q : Nat → Int64) (b : Nat → Nat) (n : Nat) : Nat → Nat → Nat → List Ins → Nat → Er ⊕ List Ins
  | 0, _, _, C, _ => .inr C
  | F + 1, o, W, C, i => if 900 < i then .inr C else if 0 < o ∧ Kd b n i = 6 then (if Kd b n (i + 1) = 4 then sFl s q b n F (o - 1) W (C ++ [(6, 0, 0)]) (i + 2) else rr_ b n 1 (i + 1))
    else if Kd b n i = 0 then (if 0 < o then rr_ b n 1 i else .inr C)
    else eb (sCm s q b n o W i) fun x => if x.2.1 = 27 then sFl s q b n F (o + 1) (W + 1) (C ++ [x.2]) x.1 else if Kd b n x.1 = 4 then sFl s q b n F o (W + 1) (C ++ [x.2]) (x.1 + 1) else rr_ b n 1 x.1
/-- what is so of a command that was read -/
def InG (s : Nat → Int32) (x : Ins) : Prop := (x.1 = 23 ∧ x.2.1 < cN s 1 ∧ x.2.2 ≤ 999999) ∨ (x.1 = 8 ∧ x.2.1 < cN s 0 ∧ x.2.2 ≤ 999999) ∨ (x.1 = 24 ∧ x.2.1 ≤ 999999) ∨ (x.1 = 25 ∧ x.2.1 ≤ 999999 ∧ x.2.2 ≤ 999999) ∨ x.1 = 26
section Y89
variable {s : Nat → Int32} {q : Nat → Int64} {b : Nat → Nat} {n o W i : Nat}
theorem sCm_i {x : Nat × Ins} (h : sCm s q b n o W i = .inr x) : i < x.1 ∧ W ≠ 30 ∧ x.2.1 = Kd b n i ∧ ((x.2.1 = 27 ∧ ¬ o = 2 ∧ 1 ≤ x.2.2.1 ∧ x.2.2.1 ≤ 20) ∨ (¬ x.2.1 = 27 ∧ InG s x.2)) := by
  unfold sCm at h
  split at h
  · cases h
  rename_i hk
  split at h
  · cases h
  rename_i h27
  split at h
  · cases h
  rename_i hW
  unfold InG
  split at h
  · rename_i e
    obtain ⟨y, y1, h⟩ := eb_r h
    obtain ⟨z, z1, h⟩ := eb_r h
    rw [← Sum.inr.inj h]
    have k1 := sWrk_i y1
    have k2 := sNum_i z1
    exact ⟨by show i < z.1; omega, hW, e.symm, Or.inr ⟨(by show ¬ (23 : Nat) = 27; decide), Or.inl ⟨rfl, k1.2.2.1, by show z.2 ≤ 999999; omega⟩⟩⟩
  split at h
  · rename_i e
    obtain ⟨y, y1, h⟩ := eb_r h
    obtain ⟨z, z1, h⟩ := eb_r h
    rw [← Sum.inr.inj h]
    have k1 := sPay_i y1
    have k2 := sNum_i z1
    exact ⟨by show i < z.1; omega, hW, e.symm, Or.inr ⟨(by show ¬ (8 : Nat) = 27; decide), Or.inr (Or.inl ⟨rfl, k1.2.2, by show z.2 ≤ 999999; omega⟩)⟩⟩
  split at h
  · rename_i e
    obtain ⟨z, z1, h⟩ := eb_r h
    rw [← Sum.inr.inj h]
    have k2 := sNum_i z1
    exact ⟨by show i < z.1; omega, hW, e.symm, Or.inr ⟨(by show ¬ (24 : Nat) = 27; decide), Or.inr (Or.inr (Or.inl ⟨rfl, by show z.2 ≤ 999999; omega⟩))⟩⟩
  split at h
  · rename_i e
    obtain ⟨y, y1, h⟩ := eb_r h
    obtain ⟨z, z1, h⟩ := eb_r h
    rw [← Sum.inr.inj h]
    have k1 := sNum_i y1
    have k2 := sNum_i z1
    exact ⟨by show i < z.1; omega, hW, e.symm, Or.inr ⟨(by show ¬ (25 : Nat) = 27; decide), Or.inr (Or.inr (Or.inr (Or.inl ⟨rfl, by show y.2 ≤ 999999; omega, by show z.2 ≤ 999999; omega⟩)))⟩⟩
  split at h
  · rename_i e
    rw [← Sum.inr.inj h]
    exact ⟨by show i < i + 1; omega, hW, e.symm, Or.inr ⟨(by show ¬ (26 : Nat) = 27; decide), Or.inr (Or.inr (Or.inr (Or.inr rfl)))⟩⟩
  · obtain ⟨y, y1, h⟩ := eb_r h
    obtain ⟨z, z1, h⟩ := eb_r h
    rw [← Sum.inr.inj h]
    have k1 := sNum_i y1
    have k2 := sTake_i z1
    exact ⟨by show i < z.1; omega, hW, by show 27 = Kd b n i; omega, Or.inl ⟨rfl, (fun z => h27 ⟨by omega, z⟩), by show 1 ≤ y.2; omega, by show y.2 ≤ 20; omega⟩⟩
theorem sFl_f : ∀ (F F' o W : Nat) (C : List Ins) (i : Nat), 901 ≤ F + i → 901 ≤ F' + i → sFl s q b n F o W C i = sFl s q b n F' o W C i := by
  intro F
  induction F with
  | zero =>
    intro F' o W C i h h'
    cases F' with
    | zero => rfl
    | succ F' =>
      unfold sFl
      rw [if_pos (by omega)]
  | succ F ih =>
    intro F' o W C i h h'
    by_cases hi : 900 < i
    · cases F' with
      | zero =>
        unfold sFl
        rw [if_pos hi]
      | succ F' =>
        unfold sFl
        rw [if_pos hi, if_pos hi]
    · obtain ⟨G, rfl⟩ : ∃ G, F' = G + 1 := ⟨F' - 1, by omega⟩
      unfold sFl
      rw [if_neg hi, if_neg hi, ih G (o - 1) W _ (i + 2) (by omega) (by omega)]
      cases z : sCm s q b n o W i with
      | inl e => rfl
      | inr x =>
        have := (sCm_i z).1
        show (if 0 < o ∧ Kd b n i = 6 then _ else if Kd b n i = 0 then _ else (if x.2.1 = 27 then sFl s q b n F (o + 1) (W + 1) (C ++ [x.2]) x.1 else if Kd b n x.1 = 4 then sFl s q b n F o (W + 1) (C ++ [x.2]) (x.1 + 1) else rr_ b n 1 x.1)) = (if 0 < o ∧ Kd b n i = 6 then _ else if Kd b n i = 0 then _ else (if x.2.1 = 27 then sFl s q b n G (o + 1) (W + 1) (C ++ [x.2]) x.1 else if Kd b n x.1 = 4 then sFl s q b n G o (W + 1) (C ++ [x.2]) (x.1 + 1) else rr_ b n 1 x.1))
        rw [ih G (o + 1) (W + 1) _ x.1 (by omega) (by omega), ih G o (W + 1) _ (x.1 + 1) (by omega) (by omega)]
/-- the text of a script from token i on -/
noncomputable def sFx (s : Nat → Int32) (q : Nat → Int64) (b : Nat → Nat) (n o W : Nat) (C : List Ins) (i : Nat) : Er ⊕ List Ins := sFl s q b n 901 o W C i
theorem sFl_u (F : Nat) (h9 : F = 900) (hi : i ≤ 900) (C : List Ins) : sFl s q b n (F + 1) o W C i = if 0 < o ∧ Kd b n i = 6 then (if Kd b n (i + 1) = 4 then sFl s q b n (F + 1) (o - 1) W (C ++ [(6, 0, 0)]) (i + 2) else rr_ b n 1 (i + 1))
    else if Kd b n i = 0 then (if 0 < o then rr_ b n 1 i else .inr C)
    else eb (sCm s q b n o W i) fun x => if x.2.1 = 27 then sFl s q b n (F + 1) (o + 1) (W + 1) (C ++ [x.2]) x.1 else if Kd b n x.1 = 4 then sFl s q b n (F + 1) o (W + 1) (C ++ [x.2]) (x.1 + 1) else rr_ b n 1 x.1 := by
  have l : sFl s q b n (F + 1) o W C i = if 900 < i then .inr C else if 0 < o ∧ Kd b n i = 6 then (if Kd b n (i + 1) = 4 then sFl s q b n F (o - 1) W (C ++ [(6, 0, 0)]) (i + 2) else rr_ b n 1 (i + 1))
    else if Kd b n i = 0 then (if 0 < o then rr_ b n 1 i else .inr C)
    else eb (sCm s q b n o W i) fun x => if x.2.1 = 27 then sFl s q b n F (o + 1) (W + 1) (C ++ [x.2]) x.1 else if Kd b n x.1 = 4 then sFl s q b n F o (W + 1) (C ++ [x.2]) (x.1 + 1) else rr_ b n 1 x.1 := rfl
  rw [l, if_neg (by omega), sFl_f F (F + 1) (o - 1) W _ (i + 2) (by omega) (by omega)]
  cases z : sCm s q b n o W i with
  | inl e => rfl
  | inr x =>
    have := (sCm_i z).1
    have e1 : ∀ f : Nat × Ins → Er ⊕ List Ins, eb (.inr x) f = f x := fun _ => rfl
    rw [e1, e1, sFl_f F (F + 1) (o + 1) (W + 1) _ x.1 (by omega) (by omega), sFl_f F (F + 1) o (W + 1) _ (x.1 + 1) (by omega) (by omega)]
theorem sFx_u (hi : i ≤ 900) (C : List Ins) : sFx s q b n o W C i = if 0 < o ∧ Kd b n i = 6 then (if Kd b n (i + 1) = 4 then sFx s q b n (o - 1) W (C ++ [(6, 0, 0)]) (i + 2) else rr_ b n 1 (i + 1))
    else if Kd b n i = 0 then (if 0 < o then rr_ b n 1 i else .inr C)
    else eb (sCm s q b n o W i) fun x => if x.2.1 = 27 then sFx s q b n (o + 1) (W + 1) (C ++ [x.2]) x.1 else if Kd b n x.1 = 4 then sFx s q b n o (W + 1) (C ++ [x.2]) (x.1 + 1) else rr_ b n 1 x.1 := sFl_u 900 rfl hi C
end Y89
/-! the tree of a script's commands, at most k repeats deep -/
def Cm : Nat → Type
  | 0 => Ins
  | k + 1 => Ins ⊕ (Nat × List (Cm k))
def flI : (k : Nat) → Cm k → List Ins
  | 0, x => [x]
  | _ + 1, .inl x => [x]
  | k + 1, .inr (t, l) => (27, t, 0) :: ((l.map (flI k)).flatten ++ [(6, 0, 0)])
def flL (k : Nat) (l : List (Cm k)) : List Ins := (l.map (flI k)).flatten
/-- where a command stands in the class's table: its row, and the row behind all that it repeats -/
def RwO (g : Nat → Int32) (p : Nat) (x : Ins) : Prop := g (p * 4) = nI x.1 ∧ (¬ x.1 = 26 → g (p * 4 + 1) = nI x.2.1) ∧ (x.1 = 23 ∨ x.1 = 25 ∨ x.1 = 8 → g (p * 4 + 2) = nI x.2.2)
def RwL {α : Type} (f : Nat → Nat → α → Prop) : Nat → Nat → List α → Prop
  | p, p', [] => p = p'
  | p, p', x :: l => ∃ r, p < r ∧ f p r x ∧ RwL f r p' l
def RwI (g : Nat → Int32) (s : Nat → Int32) : (k : Nat) → Nat → Nat → Cm k → Prop
  | 0, p, p', x => p' = p + 1 ∧ RwO g p x ∧ InG s x
  | _ + 1, p, p', .inl x => p' = p + 1 ∧ RwO g p x ∧ InG s x
  | k + 1, p, p', .inr (t, l) => g (p * 4) = nI 27 ∧ g (p * 4 + 1) = nI t ∧ g (p * 4 + 3) = nI p' ∧ (1 ≤ t ∧ t ≤ 20) ∧ RwL (RwI g s k) (p + 1) p' l
