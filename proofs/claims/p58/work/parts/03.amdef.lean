/-! am_: an abstract machine for this claim's bytecode: typed cells, locals and stack as lists; what one run of it answers is a value. Sound for the machine: part 05 on. -/
abbrev am_L : Type := List (Option Value)
abbrev am_M : Type := (Nat → Nat × Nat) × (Nat → Nat → Int32) × (Nat → Nat → Int64) × (Nat → Nat → Nat) × (Nat → Nat → UInt64) × (Nat × Nat × Nat × Bool)
abbrev am_R : Type := (Option Value ⊕ Nat) × am_M
abbrev am_X : Type := Nat × Nat × Nat × Nat × Int32 × Int64 × List (Int32 × Nat)
abbrev am_I : Type := Nat × Instr × am_X
/-- the kind of a cell: 1 an object of class n, 2 int, 3 byte, 4 long, 5 double, 6 office array of n, 7 the script's, 8 a text constant, 9 bytes that nobody writes, 10 Object[], 11 int[][], 12 long[][], 13 the empty Object[]; 0 none. What stands at address 0 in the references: where constants are -/
def gk_ (m : am_M) (a : Nat) : Nat × Nat := m.1 a
def gi_ (m : am_M) (a k : Nat) : Int32 := m.2.1 a k
def gl_ (m : am_M) (a k : Nat) : Int64 := m.2.2.1 a k
def gr_ (m : am_M) (a k : Nat) : Nat := m.2.2.2.1 a k
def gd_ (m : am_M) (a k : Nat) : UInt64 := m.2.2.2.2.1 a k
def gt_ (m : am_M) : Nat := m.2.2.2.2.2.1
def gc_ (m : am_M) : Nat := m.2.2.2.2.2.2.1
def gs_ (m : am_M) : Nat := m.2.2.2.2.2.2.2.1
def ge_ (m : am_M) : Bool := m.2.2.2.2.2.2.2.2
def up_ {α : Type} (f : Nat → Nat → α) (a k : Nat) (x : α) : Nat → Nat → α := fun b j => if b = a ∧ j = k then x else f b j
def ur_ {α : Type} (f : Nat → Nat → α) (a : Nat) (g : Nat → α) : Nat → Nat → α := fun b => if b = a then g else f b
def si_ (m : am_M) (a k : Nat) (x : Int32) : am_M := (m.1, up_ m.2.1 a k x, m.2.2)
def sl_ (m : am_M) (a k : Nat) (x : Int64) : am_M := (m.1, m.2.1, up_ m.2.2.1 a k x, m.2.2.2)
def sr_ (m : am_M) (a k : Nat) (x : Nat) : am_M := (m.1, m.2.1, m.2.2.1, up_ m.2.2.2.1 a k x, m.2.2.2.2)
def sd_ (m : am_M) (a k : Nat) (x : UInt64) : am_M := (m.1, m.2.1, m.2.2.1, m.2.2.2.1, up_ m.2.2.2.2.1 a k x, m.2.2.2.2.2)
/-- a whole row at once -/
def ri_ (m : am_M) (a : Nat) (g : Nat → Int32) : am_M := (m.1, ur_ m.2.1 a g, m.2.2)
def rl_ (m : am_M) (a : Nat) (g : Nat → Int64) : am_M := (m.1, m.2.1, ur_ m.2.2.1 a g, m.2.2.2)
def rr_ (m : am_M) (a : Nat) (g : Nat → Nat) : am_M := (m.1, m.2.1, m.2.2.1, ur_ m.2.2.2.1 a g, m.2.2.2.2)
/-- a new cell of kind k and n slots -/
def al_ (m : am_M) (k : Nat × Nat) (n : Nat) : am_M :=
  ((fun b => if b = gt_ m then k else m.1 b), ur_ m.2.1 (gt_ m) (fun _ => 0), ur_ m.2.2.1 (gt_ m) (fun _ => 0), ur_ m.2.2.2.1 (gt_ m) (fun _ => 0), ur_ m.2.2.2.2.1 (gt_ m) (fun _ => 0), gt_ m + 1, gc_ m + 1, gs_ m + n, ge_ m)
/-- n rows of k longs, behind a row of them -/
def mu_ (m : am_M) (n k : Nat) : am_M :=
  ((fun b => if b = gt_ m then (12, n) else if gt_ m < b ∧ b ≤ gt_ m + n then (4, k) else m.1 b), (fun b => if gt_ m ≤ b ∧ b ≤ gt_ m + n then fun _ => 0 else m.2.1 b), (fun b => if gt_ m ≤ b ∧ b ≤ gt_ m + n then fun _ => 0 else m.2.2.1 b),
   (fun b => if b = gt_ m then (fun j => if j < n then gt_ m + 1 + j else 0) else if gt_ m ≤ b ∧ b ≤ gt_ m + n then fun _ => 0 else m.2.2.2.1 b), (fun b => if gt_ m ≤ b ∧ b ≤ gt_ m + n then fun _ => 0 else m.2.2.2.2.1 b), gt_ m + (1 + n), gc_ m + (1 + n), gs_ m + (n + n * k), ge_ m)
/-- behind a throw: one cell of six slots more, at an address that isn't told -/
def th_ (m : am_M) : am_M := (m.1, m.2.1, m.2.2.1, m.2.2.2.1, m.2.2.2.2.1, gt_ m, gc_ m + 1, gs_ m + 6, false)
noncomputable def gq_ {α : Type} (p : Prop) (x : Option α) : Option α := @ite _ p (Classical.propDecidable p) x none
noncomputable def gb_ {α : Type} (p : Prop) (x y : Option α) : Option α := @ite _ p (Classical.propDecidable p) x y
def am_lg : am_L → Nat → Option Value
  | [], _ => none
  | o :: _, 0 => o
  | _ :: L, n + 1 => am_lg L n
def am_c2 : Option Value → Bool
  | some (.long _) => true
  | some (.double _) => true
  | _ => false
def am_t0 : am_L → am_L
  | [] => []
  | _ :: L => none :: L
def am_ls : am_L → Nat → Value → am_L
  | [], _, _ => []
  | _ :: L, 0, v => some v :: (bif am_c2 (some v) then am_t0 L else L)
  | o :: L, n + 1, v => (bif n.beq 0 && am_c2 o then none else o) :: am_ls L n v
def am_c0 (r : Option am_R) (f : am_M → Option am_R) (g : Nat → am_M → Option am_R) : Option am_R :=
  match r with
  | some (.inl none, m) => f m
  | some (.inr E, m) => g E m
  | _ => none
def am_ci (r : Option am_R) (f : Int32 → am_M → Option am_R) (g : Nat → am_M → Option am_R) : Option am_R :=
  match r with
  | some (.inl (some (.int v)), m) => f v m
  | some (.inr E, m) => g E m
  | _ => none
def am_cl (r : Option am_R) (f : Int64 → am_M → Option am_R) (g : Nat → am_M → Option am_R) : Option am_R :=
  match r with
  | some (.inl (some (.long v)), m) => f v m
  | some (.inr E, m) => g E m
  | _ => none
def am_cr (r : Option am_R) (f : Nat → am_M → Option am_R) (g : Nat → am_M → Option am_R) : Option am_R :=
  match r with
  | some (.inl (some (.ref v)), m) => f v m
  | some (.inr E, m) => g E m
  | _ => none
def am_cf (r : Option am_R) (f : UInt32 → am_M → Option am_R) (g : Nat → am_M → Option am_R) : Option am_R :=
  match r with
  | some (.inl (some (.float v)), m) => f v m
  | some (.inr E, m) => g E m
  | _ => none
/-- an index within a row of n -/
def in_ (i : Int32) (n : Nat) : Prop := vp_in i n
/-- a switch: its cases in their order, else the default -/
noncomputable def am_sw (K : Nat → Option am_R) (x : Int32) (d : Nat) : List (Int32 × Nat) → Option am_R
  | [] => K d
  | q :: r => gb_ (x = q.1) (K q.2) (am_sw K x d r)
/-- the length of an instruction but a switch -/
def am_ln : Instr → Nat
  | .bipush _ => 2
  | .sipush _ => 3
  | .ldc _ => 2
  | .ldc_w _ => 3
  | .ldc2_w _ => 3
  | .iload _ => 2
  | .lload _ => 2
  | .aload _ => 2
  | .fload _ => 2
  | .istore _ => 2
  | .lstore _ => 2
  | .astore _ => 2
  | .fstore _ => 2
  | .iinc _ _ => 3
  | .ifCond _ _ => 3
  | .if_icmp _ _ => 3
  | .goto _ => 3
  | .ifnull _ => 3
  | .ifnonnull _ => 3
  | .getfield _ => 3
  | .putfield _ => 3
  | .getstatic _ => 3
  | .invokevirtual _ => 3
  | .invokestatic _ => 3
  | .invokespecial _ => 3
  | .invokeinterface _ _ => 5
  | .if_acmp _ _ => 3
  | .checkcast _ => 3
  | .multianewarray _ _ => 4
  | .new _ => 3
  | .newarray _ => 2
  | .anewarray _ => 3
  | _ => 1
def am_cp {α : Type} (f g : Nat → α) (sp dp n : Nat) : Nat → α := va_cpy f g sp dp n
def q_i {α : Type} (S : List Value) (f : Int32 → List Value → Option α) : Option α :=
  match S with
  | .int v0 :: S => f v0 S
  | _ => none
theorem q_i_D {α : Type} (S : List Value) : (∃ v0 R, S = .int v0 :: R ∧ ∀ f : Int32 → List Value → Option α, q_i S f = f v0 R) ∨ ∀ f : Int32 → List Value → Option α, q_i S f = none := by
  by_cases h : ∃ v0 R, S = .int v0 :: R
  · obtain ⟨v0, R, rfl⟩ := h
    exact Or.inl ⟨v0, R, rfl, fun _ => rfl⟩
  · refine Or.inr fun f => ?_
    unfold q_i
    split
    · exact absurd ⟨_, _, rfl⟩ h
    · rfl
theorem q_i_I {α : Type} {S : List Value} {f : Int32 → List Value → Option α} {r : α} (h : q_i S f = some r) : ∃ v0 R, S = .int v0 :: R ∧ f v0 R = some r := by
  rcases q_i_D (α := α) S with ⟨v0, R, h1, h2⟩ | h2
  · exact ⟨v0, R, h1, (h2 _).symm.trans h⟩
  · rw [h2] at h; cases h
def q_l {α : Type} (S : List Value) (f : Int64 → List Value → Option α) : Option α :=
  match S with
  | .long v0 :: S => f v0 S
  | _ => none
theorem q_l_D {α : Type} (S : List Value) : (∃ v0 R, S = .long v0 :: R ∧ ∀ f : Int64 → List Value → Option α, q_l S f = f v0 R) ∨ ∀ f : Int64 → List Value → Option α, q_l S f = none := by
  by_cases h : ∃ v0 R, S = .long v0 :: R
  · obtain ⟨v0, R, rfl⟩ := h
    exact Or.inl ⟨v0, R, rfl, fun _ => rfl⟩
  · refine Or.inr fun f => ?_
    unfold q_l
    split
    · exact absurd ⟨_, _, rfl⟩ h
    · rfl
theorem q_l_I {α : Type} {S : List Value} {f : Int64 → List Value → Option α} {r : α} (h : q_l S f = some r) : ∃ v0 R, S = .long v0 :: R ∧ f v0 R = some r := by
  rcases q_l_D (α := α) S with ⟨v0, R, h1, h2⟩ | h2
  · exact ⟨v0, R, h1, (h2 _).symm.trans h⟩
  · rw [h2] at h; cases h
def q_f {α : Type} (S : List Value) (f : UInt32 → List Value → Option α) : Option α :=
  match S with
  | .float v0 :: S => f v0 S
  | _ => none
theorem q_f_D {α : Type} (S : List Value) : (∃ v0 R, S = .float v0 :: R ∧ ∀ f : UInt32 → List Value → Option α, q_f S f = f v0 R) ∨ ∀ f : UInt32 → List Value → Option α, q_f S f = none := by
  by_cases h : ∃ v0 R, S = .float v0 :: R
  · obtain ⟨v0, R, rfl⟩ := h
    exact Or.inl ⟨v0, R, rfl, fun _ => rfl⟩
  · refine Or.inr fun f => ?_
    unfold q_f
    split
    · exact absurd ⟨_, _, rfl⟩ h
    · rfl
theorem q_f_I {α : Type} {S : List Value} {f : UInt32 → List Value → Option α} {r : α} (h : q_f S f = some r) : ∃ v0 R, S = .float v0 :: R ∧ f v0 R = some r := by
  rcases q_f_D (α := α) S with ⟨v0, R, h1, h2⟩ | h2
  · exact ⟨v0, R, h1, (h2 _).symm.trans h⟩
  · rw [h2] at h; cases h
def q_r {α : Type} (S : List Value) (f : Nat → List Value → Option α) : Option α :=
  match S with
  | .ref v0 :: S => f v0 S
  | _ => none
theorem q_r_D {α : Type} (S : List Value) : (∃ v0 R, S = .ref v0 :: R ∧ ∀ f : Nat → List Value → Option α, q_r S f = f v0 R) ∨ ∀ f : Nat → List Value → Option α, q_r S f = none := by
  by_cases h : ∃ v0 R, S = .ref v0 :: R
  · obtain ⟨v0, R, rfl⟩ := h
    exact Or.inl ⟨v0, R, rfl, fun _ => rfl⟩
  · refine Or.inr fun f => ?_
    unfold q_r
    split
    · exact absurd ⟨_, _, rfl⟩ h
    · rfl
theorem q_r_I {α : Type} {S : List Value} {f : Nat → List Value → Option α} {r : α} (h : q_r S f = some r) : ∃ v0 R, S = .ref v0 :: R ∧ f v0 R = some r := by
  rcases q_r_D (α := α) S with ⟨v0, R, h1, h2⟩ | h2
  · exact ⟨v0, R, h1, (h2 _).symm.trans h⟩
  · rw [h2] at h; cases h
def q_ii {α : Type} (S : List Value) (f : Int32 → Int32 → List Value → Option α) : Option α :=
  match S with
  | .int v0 :: .int v1 :: S => f v0 v1 S
  | _ => none
theorem q_ii_D {α : Type} (S : List Value) : (∃ v0 v1 R, S = .int v0 :: .int v1 :: R ∧ ∀ f : Int32 → Int32 → List Value → Option α, q_ii S f = f v0 v1 R) ∨ ∀ f : Int32 → Int32 → List Value → Option α, q_ii S f = none := by
  by_cases h : ∃ v0 v1 R, S = .int v0 :: .int v1 :: R
  · obtain ⟨v0, v1, R, rfl⟩ := h
    exact Or.inl ⟨v0, v1, R, rfl, fun _ => rfl⟩
  · refine Or.inr fun f => ?_
    unfold q_ii
    split
    · exact absurd ⟨_, _, _, rfl⟩ h
    · rfl
theorem q_ii_I {α : Type} {S : List Value} {f : Int32 → Int32 → List Value → Option α} {r : α} (h : q_ii S f = some r) : ∃ v0 v1 R, S = .int v0 :: .int v1 :: R ∧ f v0 v1 R = some r := by
  rcases q_ii_D (α := α) S with ⟨v0, v1, R, h1, h2⟩ | h2
  · exact ⟨v0, v1, R, h1, (h2 _).symm.trans h⟩
  · rw [h2] at h; cases h
def q_ll {α : Type} (S : List Value) (f : Int64 → Int64 → List Value → Option α) : Option α :=
  match S with
  | .long v0 :: .long v1 :: S => f v0 v1 S
  | _ => none
theorem q_ll_D {α : Type} (S : List Value) : (∃ v0 v1 R, S = .long v0 :: .long v1 :: R ∧ ∀ f : Int64 → Int64 → List Value → Option α, q_ll S f = f v0 v1 R) ∨ ∀ f : Int64 → Int64 → List Value → Option α, q_ll S f = none := by
  by_cases h : ∃ v0 v1 R, S = .long v0 :: .long v1 :: R
  · obtain ⟨v0, v1, R, rfl⟩ := h
    exact Or.inl ⟨v0, v1, R, rfl, fun _ => rfl⟩
  · refine Or.inr fun f => ?_
    unfold q_ll
    split
    · exact absurd ⟨_, _, _, rfl⟩ h
    · rfl
theorem q_ll_I {α : Type} {S : List Value} {f : Int64 → Int64 → List Value → Option α} {r : α} (h : q_ll S f = some r) : ∃ v0 v1 R, S = .long v0 :: .long v1 :: R ∧ f v0 v1 R = some r := by
  rcases q_ll_D (α := α) S with ⟨v0, v1, R, h1, h2⟩ | h2
  · exact ⟨v0, v1, R, h1, (h2 _).symm.trans h⟩
  · rw [h2] at h; cases h
def q_ff {α : Type} (S : List Value) (f : UInt32 → UInt32 → List Value → Option α) : Option α :=
  match S with
  | .float v0 :: .float v1 :: S => f v0 v1 S
  | _ => none
theorem q_ff_D {α : Type} (S : List Value) : (∃ v0 v1 R, S = .float v0 :: .float v1 :: R ∧ ∀ f : UInt32 → UInt32 → List Value → Option α, q_ff S f = f v0 v1 R) ∨ ∀ f : UInt32 → UInt32 → List Value → Option α, q_ff S f = none := by
  by_cases h : ∃ v0 v1 R, S = .float v0 :: .float v1 :: R
  · obtain ⟨v0, v1, R, rfl⟩ := h
    exact Or.inl ⟨v0, v1, R, rfl, fun _ => rfl⟩
  · refine Or.inr fun f => ?_
    unfold q_ff
    split
    · exact absurd ⟨_, _, _, rfl⟩ h
    · rfl
theorem q_ff_I {α : Type} {S : List Value} {f : UInt32 → UInt32 → List Value → Option α} {r : α} (h : q_ff S f = some r) : ∃ v0 v1 R, S = .float v0 :: .float v1 :: R ∧ f v0 v1 R = some r := by
  rcases q_ff_D (α := α) S with ⟨v0, v1, R, h1, h2⟩ | h2
  · exact ⟨v0, v1, R, h1, (h2 _).symm.trans h⟩
  · rw [h2] at h; cases h
def q_dd {α : Type} (S : List Value) (f : UInt64 → UInt64 → List Value → Option α) : Option α :=
  match S with
  | .double v0 :: .double v1 :: S => f v0 v1 S
  | _ => none
theorem q_dd_D {α : Type} (S : List Value) : (∃ v0 v1 R, S = .double v0 :: .double v1 :: R ∧ ∀ f : UInt64 → UInt64 → List Value → Option α, q_dd S f = f v0 v1 R) ∨ ∀ f : UInt64 → UInt64 → List Value → Option α, q_dd S f = none := by
  by_cases h : ∃ v0 v1 R, S = .double v0 :: .double v1 :: R
  · obtain ⟨v0, v1, R, rfl⟩ := h
    exact Or.inl ⟨v0, v1, R, rfl, fun _ => rfl⟩
  · refine Or.inr fun f => ?_
    unfold q_dd
    split
    · exact absurd ⟨_, _, _, rfl⟩ h
    · rfl
theorem q_dd_I {α : Type} {S : List Value} {f : UInt64 → UInt64 → List Value → Option α} {r : α} (h : q_dd S f = some r) : ∃ v0 v1 R, S = .double v0 :: .double v1 :: R ∧ f v0 v1 R = some r := by
  rcases q_dd_D (α := α) S with ⟨v0, v1, R, h1, h2⟩ | h2
  · exact ⟨v0, v1, R, h1, (h2 _).symm.trans h⟩
  · rw [h2] at h; cases h
def q_il {α : Type} (S : List Value) (f : Int32 → Int64 → List Value → Option α) : Option α :=
  match S with
  | .int v0 :: .long v1 :: S => f v0 v1 S
  | _ => none
theorem q_il_D {α : Type} (S : List Value) : (∃ v0 v1 R, S = .int v0 :: .long v1 :: R ∧ ∀ f : Int32 → Int64 → List Value → Option α, q_il S f = f v0 v1 R) ∨ ∀ f : Int32 → Int64 → List Value → Option α, q_il S f = none := by
  by_cases h : ∃ v0 v1 R, S = .int v0 :: .long v1 :: R
  · obtain ⟨v0, v1, R, rfl⟩ := h
    exact Or.inl ⟨v0, v1, R, rfl, fun _ => rfl⟩
  · refine Or.inr fun f => ?_
    unfold q_il
    split
    · exact absurd ⟨_, _, _, rfl⟩ h
    · rfl
theorem q_il_I {α : Type} {S : List Value} {f : Int32 → Int64 → List Value → Option α} {r : α} (h : q_il S f = some r) : ∃ v0 v1 R, S = .int v0 :: .long v1 :: R ∧ f v0 v1 R = some r := by
  rcases q_il_D (α := α) S with ⟨v0, v1, R, h1, h2⟩ | h2
  · exact ⟨v0, v1, R, h1, (h2 _).symm.trans h⟩
  · rw [h2] at h; cases h
def q_ir {α : Type} (S : List Value) (f : Int32 → Nat → List Value → Option α) : Option α :=
  match S with
  | .int v0 :: .ref v1 :: S => f v0 v1 S
  | _ => none
theorem q_ir_D {α : Type} (S : List Value) : (∃ v0 v1 R, S = .int v0 :: .ref v1 :: R ∧ ∀ f : Int32 → Nat → List Value → Option α, q_ir S f = f v0 v1 R) ∨ ∀ f : Int32 → Nat → List Value → Option α, q_ir S f = none := by
  by_cases h : ∃ v0 v1 R, S = .int v0 :: .ref v1 :: R
  · obtain ⟨v0, v1, R, rfl⟩ := h
    exact Or.inl ⟨v0, v1, R, rfl, fun _ => rfl⟩
  · refine Or.inr fun f => ?_
    unfold q_ir
    split
    · exact absurd ⟨_, _, _, rfl⟩ h
    · rfl
theorem q_ir_I {α : Type} {S : List Value} {f : Int32 → Nat → List Value → Option α} {r : α} (h : q_ir S f = some r) : ∃ v0 v1 R, S = .int v0 :: .ref v1 :: R ∧ f v0 v1 R = some r := by
  rcases q_ir_D (α := α) S with ⟨v0, v1, R, h1, h2⟩ | h2
  · exact ⟨v0, v1, R, h1, (h2 _).symm.trans h⟩
  · rw [h2] at h; cases h
def q_iir {α : Type} (S : List Value) (f : Int32 → Int32 → Nat → List Value → Option α) : Option α :=
  match S with
  | .int v0 :: .int v1 :: .ref v2 :: S => f v0 v1 v2 S
  | _ => none
theorem q_iir_D {α : Type} (S : List Value) : (∃ v0 v1 v2 R, S = .int v0 :: .int v1 :: .ref v2 :: R ∧ ∀ f : Int32 → Int32 → Nat → List Value → Option α, q_iir S f = f v0 v1 v2 R) ∨ ∀ f : Int32 → Int32 → Nat → List Value → Option α, q_iir S f = none := by
  by_cases h : ∃ v0 v1 v2 R, S = .int v0 :: .int v1 :: .ref v2 :: R
  · obtain ⟨v0, v1, v2, R, rfl⟩ := h
    exact Or.inl ⟨v0, v1, v2, R, rfl, fun _ => rfl⟩
  · refine Or.inr fun f => ?_
    unfold q_iir
    split
    · exact absurd ⟨_, _, _, _, rfl⟩ h
    · rfl
theorem q_iir_I {α : Type} {S : List Value} {f : Int32 → Int32 → Nat → List Value → Option α} {r : α} (h : q_iir S f = some r) : ∃ v0 v1 v2 R, S = .int v0 :: .int v1 :: .ref v2 :: R ∧ f v0 v1 v2 R = some r := by
  rcases q_iir_D (α := α) S with ⟨v0, v1, v2, R, h1, h2⟩ | h2
  · exact ⟨v0, v1, v2, R, h1, (h2 _).symm.trans h⟩
  · rw [h2] at h; cases h
def q_lir {α : Type} (S : List Value) (f : Int64 → Int32 → Nat → List Value → Option α) : Option α :=
  match S with
  | .long v0 :: .int v1 :: .ref v2 :: S => f v0 v1 v2 S
  | _ => none
theorem q_lir_D {α : Type} (S : List Value) : (∃ v0 v1 v2 R, S = .long v0 :: .int v1 :: .ref v2 :: R ∧ ∀ f : Int64 → Int32 → Nat → List Value → Option α, q_lir S f = f v0 v1 v2 R) ∨ ∀ f : Int64 → Int32 → Nat → List Value → Option α, q_lir S f = none := by
  by_cases h : ∃ v0 v1 v2 R, S = .long v0 :: .int v1 :: .ref v2 :: R
  · obtain ⟨v0, v1, v2, R, rfl⟩ := h
    exact Or.inl ⟨v0, v1, v2, R, rfl, fun _ => rfl⟩
  · refine Or.inr fun f => ?_
    unfold q_lir
    split
    · exact absurd ⟨_, _, _, _, rfl⟩ h
    · rfl
theorem q_lir_I {α : Type} {S : List Value} {f : Int64 → Int32 → Nat → List Value → Option α} {r : α} (h : q_lir S f = some r) : ∃ v0 v1 v2 R, S = .long v0 :: .int v1 :: .ref v2 :: R ∧ f v0 v1 v2 R = some r := by
  rcases q_lir_D (α := α) S with ⟨v0, v1, v2, R, h1, h2⟩ | h2
  · exact ⟨v0, v1, v2, R, h1, (h2 _).symm.trans h⟩
  · rw [h2] at h; cases h
def q_dir {α : Type} (S : List Value) (f : UInt64 → Int32 → Nat → List Value → Option α) : Option α :=
  match S with
  | .double v0 :: .int v1 :: .ref v2 :: S => f v0 v1 v2 S
  | _ => none
theorem q_dir_D {α : Type} (S : List Value) : (∃ v0 v1 v2 R, S = .double v0 :: .int v1 :: .ref v2 :: R ∧ ∀ f : UInt64 → Int32 → Nat → List Value → Option α, q_dir S f = f v0 v1 v2 R) ∨ ∀ f : UInt64 → Int32 → Nat → List Value → Option α, q_dir S f = none := by
  by_cases h : ∃ v0 v1 v2 R, S = .double v0 :: .int v1 :: .ref v2 :: R
  · obtain ⟨v0, v1, v2, R, rfl⟩ := h
    exact Or.inl ⟨v0, v1, v2, R, rfl, fun _ => rfl⟩
  · refine Or.inr fun f => ?_
    unfold q_dir
    split
    · exact absurd ⟨_, _, _, _, rfl⟩ h
    · rfl
theorem q_dir_I {α : Type} {S : List Value} {f : UInt64 → Int32 → Nat → List Value → Option α} {r : α} (h : q_dir S f = some r) : ∃ v0 v1 v2 R, S = .double v0 :: .int v1 :: .ref v2 :: R ∧ f v0 v1 v2 R = some r := by
  rcases q_dir_D (α := α) S with ⟨v0, v1, v2, R, h1, h2⟩ | h2
  · exact ⟨v0, v1, v2, R, h1, (h2 _).symm.trans h⟩
  · rw [h2] at h; cases h
def q_rir {α : Type} (S : List Value) (f : Nat → Int32 → Nat → List Value → Option α) : Option α :=
  match S with
  | .ref v0 :: .int v1 :: .ref v2 :: S => f v0 v1 v2 S
  | _ => none
theorem q_rir_D {α : Type} (S : List Value) : (∃ v0 v1 v2 R, S = .ref v0 :: .int v1 :: .ref v2 :: R ∧ ∀ f : Nat → Int32 → Nat → List Value → Option α, q_rir S f = f v0 v1 v2 R) ∨ ∀ f : Nat → Int32 → Nat → List Value → Option α, q_rir S f = none := by
  by_cases h : ∃ v0 v1 v2 R, S = .ref v0 :: .int v1 :: .ref v2 :: R
  · obtain ⟨v0, v1, v2, R, rfl⟩ := h
    exact Or.inl ⟨v0, v1, v2, R, rfl, fun _ => rfl⟩
  · refine Or.inr fun f => ?_
    unfold q_rir
    split
    · exact absurd ⟨_, _, _, _, rfl⟩ h
    · rfl
theorem q_rir_I {α : Type} {S : List Value} {f : Nat → Int32 → Nat → List Value → Option α} {r : α} (h : q_rir S f = some r) : ∃ v0 v1 v2 R, S = .ref v0 :: .int v1 :: .ref v2 :: R ∧ f v0 v1 v2 R = some r := by
  rcases q_rir_D (α := α) S with ⟨v0, v1, v2, R, h1, h2⟩ | h2
  · exact ⟨v0, v1, v2, R, h1, (h2 _).symm.trans h⟩
  · rw [h2] at h; cases h
def q_lr {α : Type} (S : List Value) (f : Int64 → Nat → List Value → Option α) : Option α :=
  match S with
  | .long v0 :: .ref v1 :: S => f v0 v1 S
  | _ => none
theorem q_lr_D {α : Type} (S : List Value) : (∃ v0 v1 R, S = .long v0 :: .ref v1 :: R ∧ ∀ f : Int64 → Nat → List Value → Option α, q_lr S f = f v0 v1 R) ∨ ∀ f : Int64 → Nat → List Value → Option α, q_lr S f = none := by
  by_cases h : ∃ v0 v1 R, S = .long v0 :: .ref v1 :: R
  · obtain ⟨v0, v1, R, rfl⟩ := h
    exact Or.inl ⟨v0, v1, R, rfl, fun _ => rfl⟩
  · refine Or.inr fun f => ?_
    unfold q_lr
    split
    · exact absurd ⟨_, _, _, rfl⟩ h
    · rfl
theorem q_lr_I {α : Type} {S : List Value} {f : Int64 → Nat → List Value → Option α} {r : α} (h : q_lr S f = some r) : ∃ v0 v1 R, S = .long v0 :: .ref v1 :: R ∧ f v0 v1 R = some r := by
  rcases q_lr_D (α := α) S with ⟨v0, v1, R, h1, h2⟩ | h2
  · exact ⟨v0, v1, R, h1, (h2 _).symm.trans h⟩
  · rw [h2] at h; cases h
def q_rr {α : Type} (S : List Value) (f : Nat → Nat → List Value → Option α) : Option α :=
  match S with
  | .ref v0 :: .ref v1 :: S => f v0 v1 S
  | _ => none
theorem q_rr_D {α : Type} (S : List Value) : (∃ v0 v1 R, S = .ref v0 :: .ref v1 :: R ∧ ∀ f : Nat → Nat → List Value → Option α, q_rr S f = f v0 v1 R) ∨ ∀ f : Nat → Nat → List Value → Option α, q_rr S f = none := by
  by_cases h : ∃ v0 v1 R, S = .ref v0 :: .ref v1 :: R
  · obtain ⟨v0, v1, R, rfl⟩ := h
    exact Or.inl ⟨v0, v1, R, rfl, fun _ => rfl⟩
  · refine Or.inr fun f => ?_
    unfold q_rr
    split
    · exact absurd ⟨_, _, _, rfl⟩ h
    · rfl
theorem q_rr_I {α : Type} {S : List Value} {f : Nat → Nat → List Value → Option α} {r : α} (h : q_rr S f = some r) : ∃ v0 v1 R, S = .ref v0 :: .ref v1 :: R ∧ f v0 v1 R = some r := by
  rcases q_rr_D (α := α) S with ⟨v0, v1, R, h1, h2⟩ | h2
  · exact ⟨v0, v1, R, h1, (h2 _).symm.trans h⟩
  · rw [h2] at h; cases h
def q_iirir {α : Type} (S : List Value) (f : Int32 → Int32 → Nat → Int32 → Nat → List Value → Option α) : Option α :=
  match S with
  | .int v0 :: .int v1 :: .ref v2 :: .int v3 :: .ref v4 :: S => f v0 v1 v2 v3 v4 S
  | _ => none
theorem q_iirir_D {α : Type} (S : List Value) : (∃ v0 v1 v2 v3 v4 R, S = .int v0 :: .int v1 :: .ref v2 :: .int v3 :: .ref v4 :: R ∧ ∀ f : Int32 → Int32 → Nat → Int32 → Nat → List Value → Option α, q_iirir S f = f v0 v1 v2 v3 v4 R) ∨ ∀ f : Int32 → Int32 → Nat → Int32 → Nat → List Value → Option α, q_iirir S f = none := by
  by_cases h : ∃ v0 v1 v2 v3 v4 R, S = .int v0 :: .int v1 :: .ref v2 :: .int v3 :: .ref v4 :: R
  · obtain ⟨v0, v1, v2, v3, v4, R, rfl⟩ := h
    exact Or.inl ⟨v0, v1, v2, v3, v4, R, rfl, fun _ => rfl⟩
  · refine Or.inr fun f => ?_
    unfold q_iirir
    split
    · exact absurd ⟨_, _, _, _, _, _, rfl⟩ h
    · rfl
theorem q_iirir_I {α : Type} {S : List Value} {f : Int32 → Int32 → Nat → Int32 → Nat → List Value → Option α} {r : α} (h : q_iirir S f = some r) : ∃ v0 v1 v2 v3 v4 R, S = .int v0 :: .int v1 :: .ref v2 :: .int v3 :: .ref v4 :: R ∧ f v0 v1 v2 v3 v4 R = some r := by
  rcases q_iirir_D (α := α) S with ⟨v0, v1, v2, v3, v4, R, h1, h2⟩ | h2
  · exact ⟨v0, v1, v2, v3, v4, R, h1, (h2 _).symm.trans h⟩
  · rw [h2] at h; cases h
def q_gi {α : Type} (o : Option Value) (f : Int32 → Option α) : Option α :=
  match o with
  | some (.int v) => f v
  | _ => none
theorem q_gi_D {α : Type} (o : Option Value) : (∃ v, o = some (.int v) ∧ ∀ f : Int32 → Option α, q_gi o f = f v) ∨ ∀ f : Int32 → Option α, q_gi o f = none := by
  by_cases h : ∃ v, o = some (.int v)
  · obtain ⟨v, rfl⟩ := h
    exact Or.inl ⟨v, rfl, fun _ => rfl⟩
  · refine Or.inr fun f => ?_
    unfold q_gi
    split
    · exact absurd ⟨_, rfl⟩ h
    · rfl
theorem q_gi_I {α : Type} {o : Option Value} {f : Int32 → Option α} {r : α} (h : q_gi o f = some r) : ∃ v, o = some (.int v) ∧ f v = some r := by
  rcases q_gi_D (α := α) o with ⟨v, h1, h2⟩ | h2
  · exact ⟨v, h1, (h2 _).symm.trans h⟩
  · rw [h2] at h; cases h
def q_gl {α : Type} (o : Option Value) (f : Int64 → Option α) : Option α :=
  match o with
  | some (.long v) => f v
  | _ => none
theorem q_gl_D {α : Type} (o : Option Value) : (∃ v, o = some (.long v) ∧ ∀ f : Int64 → Option α, q_gl o f = f v) ∨ ∀ f : Int64 → Option α, q_gl o f = none := by
  by_cases h : ∃ v, o = some (.long v)
  · obtain ⟨v, rfl⟩ := h
    exact Or.inl ⟨v, rfl, fun _ => rfl⟩
  · refine Or.inr fun f => ?_
    unfold q_gl
    split
    · exact absurd ⟨_, rfl⟩ h
    · rfl
theorem q_gl_I {α : Type} {o : Option Value} {f : Int64 → Option α} {r : α} (h : q_gl o f = some r) : ∃ v, o = some (.long v) ∧ f v = some r := by
  rcases q_gl_D (α := α) o with ⟨v, h1, h2⟩ | h2
  · exact ⟨v, h1, (h2 _).symm.trans h⟩
  · rw [h2] at h; cases h
def q_gf {α : Type} (o : Option Value) (f : UInt32 → Option α) : Option α :=
  match o with
  | some (.float v) => f v
  | _ => none
theorem q_gf_D {α : Type} (o : Option Value) : (∃ v, o = some (.float v) ∧ ∀ f : UInt32 → Option α, q_gf o f = f v) ∨ ∀ f : UInt32 → Option α, q_gf o f = none := by
  by_cases h : ∃ v, o = some (.float v)
  · obtain ⟨v, rfl⟩ := h
    exact Or.inl ⟨v, rfl, fun _ => rfl⟩
  · refine Or.inr fun f => ?_
    unfold q_gf
    split
    · exact absurd ⟨_, rfl⟩ h
    · rfl
theorem q_gf_I {α : Type} {o : Option Value} {f : UInt32 → Option α} {r : α} (h : q_gf o f = some r) : ∃ v, o = some (.float v) ∧ f v = some r := by
  rcases q_gf_D (α := α) o with ⟨v, h1, h2⟩ | h2
  · exact ⟨v, h1, (h2 _).symm.trans h⟩
  · rw [h2] at h; cases h
def q_gr {α : Type} (o : Option Value) (f : Nat → Option α) : Option α :=
  match o with
  | some (.ref v) => f v
  | _ => none
theorem q_gr_D {α : Type} (o : Option Value) : (∃ v, o = some (.ref v) ∧ ∀ f : Nat → Option α, q_gr o f = f v) ∨ ∀ f : Nat → Option α, q_gr o f = none := by
  by_cases h : ∃ v, o = some (.ref v)
  · obtain ⟨v, rfl⟩ := h
    exact Or.inl ⟨v, rfl, fun _ => rfl⟩
  · refine Or.inr fun f => ?_
    unfold q_gr
    split
    · exact absurd ⟨_, rfl⟩ h
    · rfl
theorem q_gr_I {α : Type} {o : Option Value} {f : Nat → Option α} {r : α} (h : q_gr o f = some r) : ∃ v, o = some (.ref v) ∧ f v = some r := by
  rcases q_gr_D (α := α) o with ⟨v, h1, h2⟩ | h2
  · exact ⟨v, h1, (h2 _).symm.trans h⟩
  · rw [h2] at h; cases h
def q_o {α β : Type} (o : Option α) (f : α → Option β) : Option β :=
  match o with
  | some x => f x
  | none => none
theorem q_o_D {α β : Type} (o : Option α) : (∃ x, o = some x ∧ ∀ f : α → Option β, q_o o f = f x) ∨ ∀ f : α → Option β, q_o o f = none := by
  cases o with
  | none => exact Or.inr fun _ => rfl
  | some x => exact Or.inl ⟨x, rfl, fun _ => rfl⟩
theorem q_o_I {α β : Type} {o : Option α} {f : α → Option β} {r : β} (h : q_o o f = some r) : ∃ x, o = some x ∧ f x = some r := by
  cases o with
  | none => cases h
  | some x => exact ⟨x, rfl, h⟩
def am_d1 (S : List Value) : Option (List Value) :=
  match S with
  | .int a :: S => some (.int a :: .int a :: S)
  | .ref a :: S => some (.ref a :: .ref a :: S)
  | _ => none
def am_d2 (S : List Value) : Option (List Value) :=
  match S with
  | .int b :: .int a :: S => some (.int b :: .int a :: .int b :: .int a :: S)
  | .int b :: .ref a :: S => some (.int b :: .ref a :: .int b :: .ref a :: S)
  | .long a :: S => some (.long a :: .long a :: S)
  | _ => none
def am_x1 (S : List Value) : Option (List Value) :=
  match S with
  | .int a :: .ref b :: S => some (.int a :: .ref b :: .int a :: S)
  | .ref a :: .ref b :: S => some (.ref a :: .ref b :: .ref a :: S)
  | .int a :: .int b :: S => some (.int a :: .int b :: .int a :: S)
  | _ => none
def am_x2 (S : List Value) : Option (List Value) :=
  match S with
  | .int a :: .int b :: .ref c :: S => some (.int a :: .int b :: .ref c :: .int a :: S)
  | _ => none
def am_p1 (S : List Value) : Option (List Value) :=
  match S with
  | .int _ :: S => some S
  | .ref _ :: S => some S
  | _ => none
/-- a reference, or none, above an int and a row -/
def q_zir {α : Type} (S : List Value) (f : Option Nat → Int32 → Nat → List Value → Option α) : Option α :=
  match S with
  | .ref v :: .int j :: .ref a :: S => f (some v) j a S
  | .null :: .int j :: .ref a :: S => f none j a S
  | _ => none
def am_z (o : Option Nat) : Value := match o with
  | some v => .ref v
  | none => .null
theorem q_zir_D {α : Type} (S : List Value) : (∃ v0 v1 v2 R, S = am_z v0 :: .int v1 :: .ref v2 :: R ∧ ∀ f : Option Nat → Int32 → Nat → List Value → Option α, q_zir S f = f v0 v1 v2 R) ∨ ∀ f : Option Nat → Int32 → Nat → List Value → Option α, q_zir S f = none := by
  by_cases h : ∃ v0 v1 v2 R, S = am_z v0 :: .int v1 :: .ref v2 :: R
  · obtain ⟨v0, v1, v2, R, rfl⟩ := h
    exact Or.inl ⟨v0, v1, v2, R, rfl, fun _ => by cases v0 <;> rfl⟩
  · refine Or.inr fun f => ?_
    unfold q_zir
    split
    · exact absurd ⟨some _, _, _, _, rfl⟩ h
    · exact absurd ⟨none, _, _, _, rfl⟩ h
    · rfl
theorem q_zir_I {α : Type} {S : List Value} {f : Option Nat → Int32 → Nat → List Value → Option α} {r : α} (h : q_zir S f = some r) : ∃ v0 v1 v2 R, S = am_z v0 :: .int v1 :: .ref v2 :: R ∧ f v0 v1 v2 R = some r := by
  rcases q_zir_D (α := α) S with ⟨v0, v1, v2, R, h1, h2⟩ | h2
  · exact ⟨v0, v1, v2, R, h1, (h2 _).symm.trans h⟩
  · rw [h2] at h; cases h
def q_zz {α : Type} (o : Option Nat) (f : Nat → Option α) (g : Option α) : Option α :=
  match o with
  | some v => f v
  | none => g
/-- what a row of kind t may hold -/
def am_el (m : am_M) (t v : Nat) : Prop := ¬ v = 0 ∧ ((t = 6 ∧ gk_ m v = (1, 3)) ∨ (t = 10 ∧ (((gk_ m v).1 = 1 ∧ (gk_ m v).2 < 17) ∨ (gk_ m v).1 = 2 ∨ (gk_ m v).1 = 12)) ∨ (t = 11 ∧ (gk_ m v).1 = 2) ∨ (t = 12 ∧ (gk_ m v).1 = 4))
def am_e1 (S : List Value) (v : Value) : Option Value := match S with
  | [] => some v
  | _ => none
/-- what comes back of a call: its value on the stack, or the handler's int, or on with the exception -/
def am_xc (hd : Nat → Nat → Option Int32) (pc : Nat) (E : Nat) (m : am_M) : Option am_R :=
  match hd pc E with
  | none => some (.inr E, m)
  | some v => some (.inl (some (.int v)), m)
def am_cc (hd : Nat → Nat → Option Int32) (pc : Nat) (r : Option am_R) (t : Nat) (k : List Value → am_M → Option am_R) (R : List Value) : Option am_R :=
  match t with
  | 0 => am_c0 r (fun m => k R m) (am_xc hd pc)
  | 1 => am_ci r (fun v m => k (.int v :: R) m) (am_xc hd pc)
  | 2 => am_cl r (fun v m => k (.long v :: R) m) (am_xc hd pc)
  | 4 => am_cr r (fun v m => k (.ref v :: R) m) (am_xc hd pc)
  | _ => am_cf r (fun v m => k (.float v :: R) m) (am_xc hd pc)
/-- how many words the rest of a stack weighs -/
def am_w (S : List Value) : Nat := (S.map fun v => v.category).sum
/-- one instruction: K goes on at a pc, k behind it, C calls, hd tells which int the handler of an exception E at this pc returns -/
noncomputable def am_st (sa sv : Nat) (K : Nat → am_L → List Value → am_M → Option am_R) (C : Nat → List Value → am_M → Option am_R) (hd : Nat → Nat → Option Int32)
    (pc : Nat) (i : Instr) (x : am_X) (k : am_L → List Value → am_M → Option am_R) (L : am_L) (S : List Value) (m : am_M) : Option am_R :=
  match i with
  | .iconst _ => k L (.int x.2.2.2.2.1 :: S) m
  | .bipush _ => k L (.int x.2.2.2.2.1 :: S) m
  | .sipush _ => k L (.int x.2.2.2.2.1 :: S) m
  | .aconst_null => k L (.null :: S) m
  | .ldc _ => match x.1 with
    | 0 => k L (.int x.2.2.2.2.1 :: S) m
    | 1 => k L (.ref sa :: S) m
    | 2 => k L (.ref (gr_ m sv x.2.1) :: S) m
    | 3 => k L (.ref (gr_ m sv 43) :: S) m
    | _ => none
  | .ldc_w _ => bif x.1.beq 9 then none else k L (.int x.2.2.2.2.1 :: S) m
  | .lconst _ => k L (.long x.2.2.2.2.2.1 :: S) m
  | .ldc2_w _ => k L (.long x.2.2.2.2.2.1 :: S) m
  | .fconst _ => k L (.float 0 :: S) m
  | .iload_n _ => q_gi (am_lg L x.1) fun v => k L (.int v :: S) m
  | .iload _ => q_gi (am_lg L x.1) fun v => k L (.int v :: S) m
  | .lload_n _ => q_gl (am_lg L x.1) fun v => k L (.long v :: S) m
  | .lload _ => q_gl (am_lg L x.1) fun v => k L (.long v :: S) m
  | .aload_n _ => q_gr (am_lg L x.1) fun v => k L (.ref v :: S) m
  | .aload _ => q_gr (am_lg L x.1) fun v => k L (.ref v :: S) m
  | .fload _ => q_gf (am_lg L x.1) fun v => k L (.float v :: S) m
  | .istore_n _ => q_i S fun v S => k (am_ls L x.1 (.int v)) S m
  | .istore _ => q_i S fun v S => k (am_ls L x.1 (.int v)) S m
  | .lstore_n _ => q_l S fun v S => k (am_ls L x.1 (.long v)) S m
  | .lstore _ => q_l S fun v S => k (am_ls L x.1 (.long v)) S m
  | .astore_n _ => q_r S fun v S => k (am_ls L x.1 (.ref v)) S m
  | .astore _ => q_r S fun v S => k (am_ls L x.1 (.ref v)) S m
  | .fstore _ => q_f S fun v S => k (am_ls L x.1 (.float v)) S m
  | .iinc _ _ => q_gi (am_lg L x.1) fun v => k (am_ls L x.1 (.int (v + x.2.2.2.2.1))) S m
  | .iadd => q_ii S fun b a S => k L (.int (a + b) :: S) m
  | .ineg => q_i S fun a S => k L (.int (-a) :: S) m
  | .isub => q_ii S fun b a S => k L (.int (a - b) :: S) m
  | .imul => q_ii S fun b a S => k L (.int (a * b) :: S) m
  | .idiv => q_ii S fun b a S => gq_ (¬ b = 0) (k L (.int (a / b) :: S) m)
  | .irem => q_ii S fun b a S => gq_ (¬ b = 0) (k L (.int (a - a / b * b) :: S) m)
  | .iand => q_ii S fun b a S => k L (.int (a &&& b) :: S) m
  | .ior => q_ii S fun b a S => k L (.int (a ||| b) :: S) m
  | .ishl => q_ii S fun b a S => k L (.int (a <<< (b &&& 31)) :: S) m
  | .ishr => q_ii S fun b a S => k L (.int (a >>> (b &&& 31)) :: S) m
  | .ladd => q_ll S fun b a S => k L (.long (a + b) :: S) m
  | .lsub => q_ll S fun b a S => k L (.long (a - b) :: S) m
  | .lmul => q_ll S fun b a S => k L (.long (a * b) :: S) m
  | .ldiv => q_ll S fun b a S => gq_ (¬ b = 0) (k L (.long (a / b) :: S) m)
  | .lrem => q_ll S fun b a S => gq_ (¬ b = 0) (k L (.long (a - a / b * b) :: S) m)
  | .land => q_ll S fun b a S => k L (.long (a &&& b) :: S) m
  | .lor => q_ll S fun b a S => k L (.long (a ||| b) :: S) m
  | .lneg => q_l S fun a S => k L (.long (-a) :: S) m
  | .lshl => q_il S fun b a S => k L (.long (a <<< (b.toInt64 &&& 63)) :: S) m
  | .lshr => q_il S fun b a S => k L (.long (a >>> (b.toInt64 &&& 63)) :: S) m
  | .lcmp => q_ll S fun b a S => k L (.int (lg_cmp a b) :: S) m
  | .i2l => q_i S fun a S => k L (.long a.toInt64 :: S) m
  | .l2i => q_l S fun a S => k L (.int a.toInt32 :: S) m
  | .i2b => q_i S fun a S => k L (.int a.toInt8.toInt32 :: S) m
  | .i2c => q_i S fun a S => k L (.int a.toUInt32.toUInt16.toUInt32.toInt32 :: S) m
  | .l2f => q_l S fun a S => k L (.float (FP.l2f a) :: S) m
  | .f2d => q_f S fun a S => gq_ (vf_n64 (FP.f2d a)) (k L (.double (FP.f2d a) :: S) m)
  | .fdiv => q_ff S fun b a S => gq_ (vf_n32 (FP.fdiv a b)) (k L (.float (FP.fdiv a b) :: S) m)
  | .fcmp o => q_ff S fun b a S => k L (.int (Op.cmpValue (FP.fcmp a b) o) :: S) m
  | .dcmp o => q_dd S fun b a S => k L (.int (Op.cmpValue (FP.dcmp a b) o) :: S) m
  | .dup => q_o (am_d1 S) fun S => k L S m
  | .dup2 => q_o (am_d2 S) fun S => k L S m
  | .dup_x1 => q_o (am_x1 S) fun S => k L S m
  | .dup_x2 => q_o (am_x2 S) fun S => k L S m
  | .pop => q_o (am_p1 S) fun S => k L S m
  | .pop2 => q_l S fun _ S => k L S m
  | .goto _ => K x.2.1 L S m
  | .ifCond .eq _ => q_i S fun a S => gb_ (a = 0) (K x.2.1 L S m) (K (pc + 3) L S m)
  | .ifCond .ne _ => q_i S fun a S => gb_ (a = 0) (K (pc + 3) L S m) (K x.2.1 L S m)
  | .ifCond .lt _ => q_i S fun a S => gb_ (a < 0) (K x.2.1 L S m) (K (pc + 3) L S m)
  | .ifCond .ge _ => q_i S fun a S => gb_ (0 ≤ a) (K x.2.1 L S m) (K (pc + 3) L S m)
  | .ifCond .gt _ => q_i S fun a S => gb_ (0 < a) (K x.2.1 L S m) (K (pc + 3) L S m)
  | .ifCond .le _ => q_i S fun a S => gb_ (a ≤ 0) (K x.2.1 L S m) (K (pc + 3) L S m)
  | .if_icmp .eq _ => q_ii S fun b a S => gb_ (a = b) (K x.2.1 L S m) (K (pc + 3) L S m)
  | .if_icmp .ne _ => q_ii S fun b a S => gb_ (a = b) (K (pc + 3) L S m) (K x.2.1 L S m)
  | .if_icmp .lt _ => q_ii S fun b a S => gb_ (a < b) (K x.2.1 L S m) (K (pc + 3) L S m)
  | .if_icmp .ge _ => q_ii S fun b a S => gb_ (b ≤ a) (K x.2.1 L S m) (K (pc + 3) L S m)
  | .if_icmp .gt _ => q_ii S fun b a S => gb_ (b < a) (K x.2.1 L S m) (K (pc + 3) L S m)
  | .if_icmp .le _ => q_ii S fun b a S => gb_ (a ≤ b) (K x.2.1 L S m) (K (pc + 3) L S m)
  | .if_acmp .eq _ => q_rr S fun b a S => gb_ (a = b) (K x.2.1 L S m) (K (pc + 3) L S m)
  | .if_acmp .ne _ => q_rr S fun b a S => gb_ (a = b) (K (pc + 3) L S m) (K x.2.1 L S m)
  | .ifnull _ => q_r S fun _ S => K (pc + 3) L S m
  | .ifnonnull _ => q_r S fun _ S => K x.2.1 L S m
  | .tableswitch _ _ _ _ => q_i S fun a S => am_sw (fun t => K t L S m) a x.2.1 x.2.2.2.2.2.2
  | .lookupswitch _ _ => q_i S fun a S => am_sw (fun t => K t L S m) a x.2.1 x.2.2.2.2.2.2
  | .getfield _ => q_r S fun a S => match x.2.2.1 with
    | 0 => gq_ (gk_ m a = (1, x.1)) (k L (.int (gi_ m a x.2.1) :: S) m)
    | 1 => gq_ (gk_ m a = (1, x.1)) (k L (.int (gi_ m a x.2.1) :: S) m)
    | 2 => gq_ (gk_ m a = (1, x.1)) (k L (.long (gl_ m a x.2.1) :: S) m)
    | 3 => gq_ (gk_ m a = (1, x.1) ∧ ¬ gr_ m a x.2.1 = 0) (k L (.ref (gr_ m a x.2.1) :: S) m)
    | 5 => gq_ (gk_ m a = (1, x.1)) (k L (.int (gi_ m a x.2.1) :: S) m)
    | 6 => gq_ (gk_ m a = (1, x.1) ∧ gi_ m a x.2.1 = 1) (k L (.ref (gr_ m a x.2.1) :: S) m)
    | 7 => gq_ ((gk_ m a = (1, 14) ∧ ¬ gr_ m a 0 = 0) ∨ (gk_ m a).1 = 8) (k L (.ref (gr_ m a 0) :: S) m)
    | 8 => gq_ (gk_ m a = (1, 14) ∨ (gk_ m a).1 = 8) (k L (.int (gi_ m a 1) :: S) m)
    | _ => none
  | .putfield _ => match x.2.2.1 with
    | 0 => q_ir S fun v a S => gq_ (gk_ m a = (1, x.1)) (k L S (si_ m a x.2.1 v))
    | 1 => q_ir S fun v a S => gq_ (gk_ m a = (1, x.1) ∧ v &&& 1 = v) (k L S (si_ m a x.2.1 v))
    | 2 => q_lr S fun v a S => gq_ (gk_ m a = (1, x.1)) (k L S (sl_ m a x.2.1 v))
    | 3 => q_rr S fun v a S => gq_ (gk_ m a = (1, x.1) ∧ ¬ v = 0) (k L S (sr_ m a x.2.1 v))
    | 5 => q_ir S fun v a S => gq_ (gk_ m a = (1, x.1) ∧ v.toInt8.toInt32 = v) (k L S (si_ m a x.2.1 v))
    | 6 => q_rr S fun v a S => gq_ (gk_ m a = (1, x.1)) (k L S (si_ (sr_ m a x.2.1 v) a x.2.1 1))
    | _ => none
  | .getstatic _ => match x.1 with
    | 0 => k L (.int 1 :: S) m
    | 1 => k L (.ref (gr_ m sv x.2.1) :: S) m
    | _ => none
  | .checkcast _ => q_r S fun a S => gq_ ((gk_ m a).1 = x.1 ∧ (x.1 = 1 → (gk_ m a).2 = x.2.1)) (k L (.ref a :: S) m)
  | .arraylength => q_r S fun a S => gq_ (2 ≤ (gk_ m a).1 ∧ ¬ (gk_ m a).1 = 8) (k L (.int (nI (gk_ m a).2) :: S) m)
  | .iaload => q_ir S fun j a S => gq_ (((gk_ m a).1 = 2 ∨ (gk_ m a).1 = 7) ∧ in_ j (gk_ m a).2) (k L (.int (gi_ m a j.toNatClampNeg) :: S) m)
  | .baload => q_ir S fun j a S => gq_ (((gk_ m a).1 = 3 ∨ (gk_ m a).1 = 9) ∧ in_ j (gk_ m a).2) (k L (.int (gi_ m a j.toNatClampNeg) :: S) m)
  | .laload => q_ir S fun j a S => gq_ ((gk_ m a).1 = 4 ∧ in_ j (gk_ m a).2) (k L (.long (gl_ m a j.toNatClampNeg) :: S) m)
  | .daload => q_ir S fun j a S => gq_ ((gk_ m a).1 = 5 ∧ in_ j (gk_ m a).2) (k L (.double (gd_ m a j.toNatClampNeg) :: S) m)
  | .aaload => q_ir S fun j a S => gq_ (((gk_ m a).1 = 6 ∨ (gk_ m a).1 = 10 ∨ (gk_ m a).1 = 11 ∨ (gk_ m a).1 = 12) ∧ in_ j (gk_ m a).2 ∧ ¬ gr_ m a j.toNatClampNeg = 0) (k L (.ref (gr_ m a j.toNatClampNeg) :: S) m)
  | .iastore => q_iir S fun v j a S => gq_ ((gk_ m a).1 = 2 ∧ in_ j (gk_ m a).2) (k L S (si_ m a j.toNatClampNeg v))
  | .bastore => q_iir S fun v j a S => gq_ ((gk_ m a).1 = 3 ∧ in_ j (gk_ m a).2) (k L S (si_ m a j.toNatClampNeg v.toInt8.toInt32))
  | .lastore => q_lir S fun v j a S => gq_ ((gk_ m a).1 = 4 ∧ in_ j (gk_ m a).2) (k L S (sl_ m a j.toNatClampNeg v))
  | .dastore => q_dir S fun v j a S => gq_ ((gk_ m a).1 = 5 ∧ in_ j (gk_ m a).2) (k L S (sd_ m a j.toNatClampNeg v))
  | .aastore => q_zir S fun o j a S => q_zz o (fun v => gq_ (in_ j (gk_ m a).2 ∧ am_el m (gk_ m a).1 v) (k L S (sr_ m a j.toNatClampNeg v)))
      (gq_ ((gk_ m a).1 = 10 ∧ in_ j (gk_ m a).2) (k L S (sr_ m a j.toNatClampNeg 0)))
  | .newarray _ => q_i S fun n S => gq_ (¬ n < 0 ∧ n.toNatClampNeg ≤ 60000 ∧ ge_ m = true) (k L (.ref (gt_ m) :: S) (al_ m (x.1, n.toNatClampNeg) n.toNatClampNeg))
  | .anewarray _ => q_i S fun n S => gq_ (¬ n < 0 ∧ n.toNatClampNeg ≤ 60000 ∧ ge_ m = true) (k L (.ref (gt_ m) :: S) (al_ m (x.1, n.toNatClampNeg) n.toNatClampNeg))
  | .multianewarray _ _ => q_ii S fun b a S => gq_ (¬ a < 0 ∧ ¬ b < 0 ∧ a.toNatClampNeg ≤ 100 ∧ b.toNatClampNeg ≤ 100 ∧ ge_ m = true) (k L (.ref (gt_ m) :: S) (mu_ m a.toNatClampNeg b.toNatClampNeg))
  | .new _ => match x.2.2.1 with
    | 0 => gq_ (ge_ m = true) (k L (.ref (gt_ m) :: S) (al_ m (1, x.1) x.2.1))
    | 1 => bif (am_w S).ble 8 then some (.inr x.1, th_ m) else none
    | _ => none
  | .ireturn => q_i S fun v S => q_o (am_e1 S (.int v)) fun w => match x.1 with
    | 0 => some (.inl (some w), m)
    | 1 => gq_ (v &&& 1 = v) (some (.inl (some w), m))
    | 2 => gq_ (v.toInt8.toInt32 = v) (some (.inl (some w), m))
    | _ => gq_ (v.toUInt32.toUInt16.toUInt32.toInt32 = v) (some (.inl (some w), m))
  | .lreturn => q_l S fun v S => q_o (am_e1 S (.long v)) fun w => some (.inl (some w), m)
  | .freturn => q_f S fun v S => q_o (am_e1 S (.float v)) fun w => some (.inl (some w), m)
  | .areturn => q_r S fun v S => q_o (am_e1 S (.ref v)) fun w => some (.inl (some w), m)
  | .return_ => q_o (am_e1 S .null) fun _ => some (.inl none, m)
  | .invokevirtual _ => bif x.2.2.2.1.beq 29 then none else bif x.2.2.2.1.beq 30 then (q_r S fun b R => bif (am_w R).ble 8 then gq_ ((gk_ m b).1 = 3 ∧ ge_ m = true) (k L (.ref (gt_ m) :: R) (ri_ (al_ m (gk_ m b) (gk_ m b).2) (gt_ m) (gi_ m b))) else none)
    else bif x.2.2.2.1.beq 31 then (q_r S fun b R => bif (am_w R).ble 8 then gq_ ((gk_ m b).1 = 10) (k L (.ref (gr_ m sv 43) :: R) m) else none)
    else q_r (S.drop x.2.1) fun b R => bif (am_w R).ble 8 then (bif x.2.2.2.1.beq 14 then gq_ (gk_ m b = (1, 14) ∨ (gk_ m b).1 = 8) (am_cc hd pc (C x.1 (.ref b :: (S.take x.2.1).reverse) m) x.2.2.1 (k L) R) else gq_ (gk_ m b = (1, x.2.2.2.1)) (am_cc hd pc (C x.1 (.ref b :: (S.take x.2.1).reverse) m) x.2.2.1 (k L) R)) else none
  | .invokeinterface _ _ => q_r (S.drop x.2.1) fun b R => bif (am_w R).ble 8 then gq_ (gk_ m b = (1, x.2.2.2.1)) (am_cc hd pc (C x.1 (.ref b :: (S.take x.2.1).reverse) m) x.2.2.1 (k L) R) else none
  | .invokestatic _ => match x.2.2.2.1 with
    | 0 => bif (am_w (S.drop x.2.1)).ble 8 && x.2.1.ble S.length then am_cc hd pc (C x.1 (S.take x.2.1).reverse m) x.2.2.1 (k L) (S.drop x.2.1) else none
    | 1 => q_ii S fun b a S => bif (am_w S).ble 8 then k L (.int (if b < a then b else a) :: S) m else none
    | 2 => q_ii S fun b a S => bif (am_w S).ble 8 then k L (.int (if a < b then b else a) :: S) m else none
    | 3 => q_iirir S fun n dp a sp a0 S =>
        bif (am_w S).ble 8 then gb_ ((gk_ m a).1 = 2)
          (gq_ ((gk_ m a0).1 = 2 ∧ ¬ a0 = a ∧ ¬ sp < 0 ∧ ¬ dp < 0 ∧ ¬ n < 0 ∧ sp.toNatClampNeg + n.toNatClampNeg ≤ (gk_ m a0).2 ∧ dp.toNatClampNeg + n.toNatClampNeg ≤ (gk_ m a).2)
            (k L S (ri_ m a (va_cpy (gi_ m a0) (gi_ m a) sp.toNatClampNeg dp.toNatClampNeg n.toNatClampNeg))))
          (gb_ ((gk_ m a).1 = 3 ∨ (gk_ m a).1 = 10)
            (gq_ (¬ sp < 0 ∧ ¬ dp < 0 ∧ ¬ n < 0 ∧ sp.toNatClampNeg + n.toNatClampNeg ≤ (gk_ m a0).2 ∧ dp.toNatClampNeg + n.toNatClampNeg ≤ (gk_ m a).2)
              (gb_ ((gk_ m a).1 = 3)
                (gq_ ((gk_ m a0).1 = 3 ∨ (gk_ m a0).1 = 9) (k L S (ri_ m a (va_cpy (gi_ m a0) (gi_ m a) sp.toNatClampNeg dp.toNatClampNeg n.toNatClampNeg))))
                (gq_ ((gk_ m a0).1 = 10 ∧ ∀ j, j < n.toNatClampNeg → gr_ m a0 (sp.toNatClampNeg + j) = 0 ∨ am_el m 10 (gr_ m a0 (sp.toNatClampNeg + j))) (k L S (rr_ m a (va_cpy (gr_ m a0) (gr_ m a) sp.toNatClampNeg dp.toNatClampNeg n.toNatClampNeg))))))
          (gq_ ((gk_ m a).1 = 4 ∧ (gk_ m a0).1 = 4 ∧ ¬ a0 = a ∧ ¬ sp < 0 ∧ ¬ dp < 0 ∧ ¬ n < 0 ∧ sp.toNatClampNeg + n.toNatClampNeg ≤ (gk_ m a0).2 ∧ dp.toNatClampNeg + n.toNatClampNeg ≤ (gk_ m a).2)
            (k L S (rl_ m a (va_cpy (gl_ m a0) (gl_ m a) sp.toNatClampNeg dp.toNatClampNeg n.toNatClampNeg)))))
        else none
    | 4 => q_ii S fun n i S => bif (am_w S).ble 8 then gq_ (¬ i < 0 ∧ i < n) (k L S m) else none
    | 5 => bif (am_w (S.drop x.2.1)).ble 8 && x.2.1.ble S.length then am_ci (C x.1 (S.take x.2.1).reverse m) (fun v m => k L (.int v :: S.drop x.2.1) m) (fun _ _ => none) else none
    | _ => none
  | .invokespecial _ => match x.2.2.2.1 with
    | 3 => q_r (S.drop x.2.1) fun b R => bif (am_w R).ble 8 then gq_ (gk_ m b = (1, 13)) (am_cc hd pc (C x.1 (.ref b :: (S.take x.2.1).reverse) m) x.2.2.1 (k L) R) else none
    | 4 => none
    | 1 => q_r S fun _ S => bif (am_w S).ble 8 then k L S m else none
    | _ => q_r (S.drop x.2.1) fun b R => bif (am_w R).ble 8 then am_c0 (C x.1 (.ref b :: (S.take x.2.1).reverse) m) (fun m => k L R m) (fun _ _ => none) else none
  | _ => none
noncomputable def am_sg (sa sv : Nat) (K : Nat → am_L → List Value → am_M → Option am_R) (C : Nat → List Value → am_M → Option am_R) (hd : Nat → Nat → Option Int32) : List am_I → am_L → List Value → am_M → Option am_R
  | [] => fun _ _ _ => none
  | q :: r => am_st sa sv K C hd q.1 q.2.1 q.2.2 (am_sg sa sv K C hd r)
def am_dr (pc : Nat) : List am_I → List am_I
  | [] => []
  | q :: r => bif q.1.beq pc then q :: r else am_dr pc r
/-- a run of at most n segments from a pc -/
noncomputable def am_ex (sa sv : Nat) (C : Nat → List Value → am_M → Option am_R) (hd : Nat → Nat → Option Int32) (is : List am_I) : Nat → Nat → am_L → List Value → am_M → Option am_R
  | 0 => fun _ _ _ _ => none
  | n + 1 => fun pc => am_sg sa sv (am_ex sa sv C hd is n) C hd (am_dr pc is)
/-- the value that a rising row comes to -/
noncomputable def am_lm {α : Type} (f : Nat → Option α) : Option α := @dite _ (∃ n, (f n).isSome = true) (Classical.propDecidable _) (fun h => f (Classical.choose h)) (fun _ => none)
noncomputable def am_rn (sa sv : Nat) (C : Nat → List Value → am_M → Option am_R) (hd : Nat → Nat → Option Int32) (is : List am_I) (pc : Nat) (L : am_L) (S : List Value) (m : am_M) : Option am_R := am_lm (fun n => am_ex sa sv C hd is n pc L S m)
