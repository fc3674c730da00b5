/-- the constants: texts, then the ones and tens of the numbers below 100 -/
def ktx_ : List (List Int32) := [[112, 97, 121, 101, 101, 32, 108, 101, 97, 115, 116, 32, 119, 111, 114, 107, 32, 99, 111, 118, 101, 114, 32, 111, 102, 32, 115, 97, 109, 112, 108, 101, 32, 105, 110, 32, 115, 112, 108, 105, 116, 32, 102, 114, 111, 109, 32, 97, 115, 115, 105, 103, 110, 32, 116, 111, 32, 117, 110, 116, 105, 108, 32, 97, 100, 118, 97, 110, 99, 101, 32, 114, 97, 116, 101, 32, 111, 110, 32, 98, 121, 32, 105, 110, 99, 111, 109, 101, 32, 112, 97, 115, 115, 32, 114, 101, 118, 101, 114, 116, 32, 99, 108, 111, 115, 101, 32, 114, 101, 112, 101, 97, 116, 32],
  [97, 100, 118, 97, 110, 99, 101, 32],
  [32],
  [32, 116, 111, 32],
  [32, 114, 97, 116, 101, 32],
  [59],
  [],
  [32, 59, 10],
  [59],
  [112],
  [119],
  [32, 98, 121],
  [32],
  [99, 111, 118, 101, 114, 32],
  [32, 111, 102, 32],
  [119, 111, 114, 107, 32],
  [115, 97, 109, 112, 108, 101, 32],
  [32, 105, 110, 32],
  [115, 112, 108, 105, 116, 32],
  [32, 102, 114, 111, 109, 32],
  [112, 97, 121, 101, 101, 32],
  [32, 108, 101, 97, 115, 116, 32],
  [97, 115, 115, 105, 103, 110, 32],
  [32, 116, 111, 32],
  [32, 117, 110, 116, 105, 108, 32],
  [97, 100, 118, 97, 110, 99, 101, 32],
  [32, 114, 97, 116, 101, 32],
  [32, 111, 110, 32],
  [48, 49, 50, 51, 52, 53, 54, 55, 56, 57, 48, 49, 50, 51, 52, 53, 54, 55, 56, 57, 48, 49, 50, 51, 52, 53, 54, 55, 56, 57, 48, 49, 50, 51, 52, 53, 54, 55, 56, 57, 48, 49, 50, 51, 52, 53, 54, 55, 56, 57, 48, 49, 50, 51, 52, 53, 54, 55, 56, 57, 48, 49, 50, 51, 52, 53, 54, 55, 56, 57, 48, 49, 50, 51, 52, 53, 54, 55, 56, 57, 48, 49, 50, 51, 52, 53, 54, 55, 56, 57, 48, 49, 50, 51, 52, 53, 54, 55, 56, 57],
  [48, 48, 48, 48, 48, 48, 48, 48, 48, 48, 49, 49, 49, 49, 49, 49, 49, 49, 49, 49, 50, 50, 50, 50, 50, 50, 50, 50, 50, 50, 51, 51, 51, 51, 51, 51, 51, 51, 51, 51, 52, 52, 52, 52, 52, 52, 52, 52, 52, 52, 53, 53, 53, 53, 53, 53, 53, 53, 53, 53, 54, 54, 54, 54, 54, 54, 54, 54, 54, 54, 55, 55, 55, 55, 55, 55, 55, 55, 55, 55, 56, 56, 56, 56, 56, 56, 56, 56, 56, 56, 57, 57, 57, 57, 57, 57, 57, 57, 57, 57]]
/-- which class names which constant, at which place -/
def krf_ : List (Nat × Nat × String) := [(9, 29, "payee least work cover of sample in split from assign to until advance rate on by income pass revert close repeat "), (17, 151, "advance "), (17, 161, " "), (17, 166, " to "), (17, 168, " rate "), (17, 170, ";"), (12, 50, ""), (12, 72, " ;\n"), (12, 74, ";"), (12, 83, "p"), (12, 92, "w"), (12, 107, " by"), (12, 109, " "), (12, 148, "cover "), (12, 153, " of "), (12, 155, "work "), (12, 179, "sample "), (12, 181, " in "), (12, 183, "split "), (12, 185, " from "), (12, 188, "payee "), (12, 190, " least "), (12, 204, "assign "), (12, 206, " to "), (12, 208, " until "), (12, 210, "advance "), (12, 212, " rate "), (12, 214, " on ")]
def am_if : List Nat := [233, 234, 236, 238, 239, 240, 243, 245, 246]
/-! the abstract machine is sound: what stands in a heap, what holds of a start -/
/-- D and the classes of rows by kinds; where one's own begins; the script; the text constants' objects, the constant bytes, the empty Object[], the class object of Object[], a cell of statics: where the abstract machine keeps them -/
abbrev am_E : Type := (va_G × (Nat → ClassId)) × Nat × (Nat × Nat × (Nat → Int32)) × ((Nat → Nat) × (Nat → Nat) × Nat × Nat × Nat)
def am_A (E : am_E) : Nat → Prop := fun q => E.2.1 ≤ q
def rf_ (n : Nat) : Value := if n = 0 then .null else .ref n
def am_fv (d : String) (m : am_M) (a k : Nat) : Value := if d = "I" ∨ d = "Z" ∨ d = "B" then .int (gi_ m a k) else if d = "J" then .long (gl_ m a k) else if gi_ m a k = 1 then .ref (gr_ m a k) else rf_ (gr_ m a k)
/-- constant i's bytes -/
def kb_ (i : Nat) : List Int32 := ktx_.getD i []
def am_rk (t : Nat) : Prop := t = 6 ∨ t = 10 ∨ t = 11 ∨ t = 12
def am_at (E : am_E) (m : am_M) (H : Heap) (a : Nat) : Prop :=
  ((gk_ m a).1 = 1 → E.2.1 ≤ a ∧ (gk_ m a).2 < 17 ∧ t_OB a (E.1.1.1 (gk_ m a).2) (am_vc (gk_ m a).2).2.2 (E.1.1.2 (gk_ m a).2) H (fun k => am_fv ((am_vc (gk_ m a).2).2.1 k).2.2.1 m a k)) ∧
  ((gk_ m a).1 = 2 → E.2.1 ≤ a ∧ H[a]? = some (arrV (E.1.2 2) (gk_ m a).2 (fun j => .int (gi_ m a j)))) ∧
  ((gk_ m a).1 = 3 → E.2.1 ≤ a ∧ H[a]? = some (arrV (E.1.2 3) (gk_ m a).2 (fun j => .int (gi_ m a j))) ∧ ∀ j, j < (gk_ m a).2 → (gi_ m a j).toInt8.toInt32 = gi_ m a j) ∧
  ((gk_ m a).1 = 4 → E.2.1 ≤ a ∧ H[a]? = some (arrV (E.1.2 4) (gk_ m a).2 (fun j => .long (gl_ m a j)))) ∧
  (am_rk (gk_ m a).1 → E.2.1 ≤ a ∧ H[a]? = some (arrV (E.1.2 (gk_ m a).1) (gk_ m a).2 (fun j => rf_ (gr_ m a j)))) ∧
  ((gk_ m a).1 = 7 → a = E.2.2.1.1 ∧ (gk_ m a).2 = E.2.2.1.2.1 ∧ ∀ j, j < E.2.2.1.2.1 → gi_ m a j = E.2.2.1.2.2 j) ∧
  ((gk_ m a).1 = 8 → ∃ i, i < 28 ∧ a = E.2.2.2.1 i ∧ gr_ m a 0 = E.2.2.2.2.1 i ∧ gi_ m a 1 = 0) ∧
  ((gk_ m a).1 = 9 → ∃ i, i < 30 ∧ a = E.2.2.2.2.1 i ∧ (gk_ m a).2 = (kb_ i).length ∧ ∀ j, j < (kb_ i).length → gi_ m a j = (kb_ i).getD j 0) ∧
  ((gk_ m a).1 = 13 → a = E.2.2.2.2.2.1 ∧ (gk_ m a).2 = 0) ∧
  (gk_ m a).1 ≤ 13 ∧ ¬ (gk_ m a).1 = 5
/-- where constants are -/
abbrev am_sv (E : am_E) : Nat := E.2.2.2.2.2.2.2
def am_kz (E : am_E) (m : am_M) : Prop := (gk_ m (am_sv E)).1 = 0 ∧ (∀ i, i < 28 → gr_ m (am_sv E) i = E.2.2.2.1 i) ∧ gr_ m (am_sv E) 40 = E.2.2.2.2.2.1 ∧ gr_ m (am_sv E) 41 = E.2.2.2.2.1 28 ∧ gr_ m (am_sv E) 42 = E.2.2.2.2.1 (29) ∧ gr_ m (am_sv E) 43 = E.2.2.2.2.2.2.1
def am_Rp (E : am_E) (m : am_M) (H : Heap) : Prop := (∀ a, am_at E m H a) ∧ (ge_ m = true → H.size = gt_ m) ∧ E.2.1 ≤ H.size ∧ am_sv E < E.2.1 ∧ am_kz E m
/-- what a row of each kind holds -/
def am_ct (t : Nat) : FieldType := if t = 6 then .object "RoyaltyOffice$Office" else if t = 10 then .object "java/lang/Object" else if t = 11 then .array .int else .array .long
abbrev am_ty (E : am_E) : List (ClassId × FieldType) := [(E.1.2 2, .int), (E.1.2 3, .byte), (E.1.2 4, .long), (E.1.2 6, am_ct 6), (E.1.2 10, am_ct 10), (E.1.2 11, am_ct 11), (E.1.2 12, am_ct 12)]
/-- a row of rows: its class, its component's -/
def am_AA (t : FieldType) (U : State) : Prop := (Cond.arrayOver (.array t)).before #[] U = true
theorem am_AA.use {t : FieldType} {A : Array Value} {U : State} (h : am_AA t U) : (Cond.arrayOver (.array t)).before A U = true := h
theorem am_AA.moved {t : FieldType} {u U : State} (hvm : u.vm.Alike U.vm) (h : am_AA t u) : am_AA t U := by
  obtain ⟨comp, c, k, h1, h2, h3, h4, h5⟩ := arrayOverA_spec h
  obtain ⟨k', hk', he⟩ := hvm.2.2 _ _ h3
  have hi : (U.vm.classes.findIdx? fun (x : Class) => match x.kind with | .array component _ => component == comp | _ => false) = some c := by
    rw [hvm.findIdx?_eq _ (fun _ => rfl)]
    exact h2
  have hkind : k'.kind = .array comp (.array t) := by rw [he]; exact h4
  have f1 : U.vm.findClass (FieldType.array t).toString = some comp := by rw [hvm.findClass]; exact h1
  have f2 : U.vm.findClass ("[" ++ (FieldType.array t).toString) = some c := by rw [hvm.findClass]; exact h5
  unfold am_AA Cond.before Cond.holds
  simp only [Cond.value]
  rw [f1, Option.bind_some]
  refine (congrArg (fun o : Option Nat => (o.bind (fun c => (U.vm.classes[c]?).map fun (k : Class) => match k.kind with | .array _ ty => decide (ty = FieldType.array t) && decide (U.vm.findClass ("[" ++ (FieldType.array t).toString) = some c) | _ => false) == some true)) hi).trans ?_
  simp [hk', hkind, f2]
/-- a row of references knows its component's class -/
def am_ctn (t : Nat) : String := if t = 6 then "RoyaltyOffice$Office" else if t = 10 then "java/lang/Object" else if t = 11 then "[I" else "[J"
def am_can (t : Nat) : String := if t = 6 then "[LRoyaltyOffice$Office;" else if t = 10 then "[Ljava/lang/Object;" else if t = 11 then "[[I" else "[[J"
def am_RC (U : State) (cA : ClassId) (t : Nat) : Prop := ∃ (kA : Class) (comp : ClassId), U.vm.classes[cA]? = some kA ∧ kA.kind = .array comp (am_ct t) ∧ U.vm.findClass (am_ctn t) = some comp ∧ U.vm.findClass (am_can t) = some cA
theorem am_RC.moved {u U : State} (hvm : u.vm.Alike U.vm) {cA : ClassId} {t : Nat} (h : am_RC u cA t) : am_RC U cA t := by
  obtain ⟨kA, comp, h1, h2, h3, h4⟩ := h
  obtain ⟨k', hk', he⟩ := hvm.2.2 _ _ h1
  exact ⟨k', comp, hk', by rw [he]; exact h2, by rw [hvm.findClass]; exact h3, by rw [hvm.findClass]; exact h4⟩
/-- constants, statics -/
def am_Kc (E : am_E) (U : State) (H : Heap) : Prop :=
  (∀ i, i < 30 → va_T .byte (E.2.2.2.2.1 i) (kb_ i).length (fun j => .int ((kb_ i).getD j 0)) (am_A E) U H) ∧
  (∀ i, i < 28 → va_O "java/lang/String" (E.2.2.2.1 i) (am_A E) U H ∧ va_OF "java/lang/String" "coder" "B" (.int 0) (E.2.2.2.1 i) (am_A E) U H ∧ va_OF "java/lang/String" "value" "[B" (.ref (E.2.2.2.2.1 i)) (E.2.2.2.1 i) (am_A E) U H) ∧
  (∀ i q, krf_[i]? = some q → vk_R (am_cn q.1) q.2.1 q.2.2 (E.2.2.2.1 i) U)
def am_Ks (E : am_E) (U : State) (H : Heap) : Prop :=
  am_Kc E U H ∧ va_Z "java/lang/String" "COMPACT_STRINGS" "Z" (.int 1) (am_A E) U H ∧ va_Zq "jdk/internal/util/Preconditions" "SIOOBE_FORMATTER" "Ljava/util/function/BiFunction;" (am_A E) U H ∧
  va_Z "java/util/ArrayList" "DEFAULTCAPACITY_EMPTY_ELEMENTDATA" "[Ljava/lang/Object;" (.ref E.2.2.2.2.2.1) (am_A E) U H ∧ va_Z "java/lang/Integer" "DigitOnes" "[B" (.ref (E.2.2.2.2.1 28)) (am_A E) U H ∧ va_Z "java/lang/Integer" "DigitTens" "[B" (.ref (E.2.2.2.2.1 (29))) (am_A E) U H ∧
  va_T (.object "java/lang/Object") E.2.2.2.2.2.1 0 (fun _ => .null) (am_A E) U H ∧ va_Mi "[Ljava/lang/Object;" E.2.2.2.2.2.2.1 U
def am_Kf (U : State) : Prop := ∀ y ∈ am_if, va_Fw (am_mn y).cls (am_im y) (am_mn y) U
def am_Kr (E : am_E) (U : State) : Prop := (∀ t, am_rk t → am_RC U (E.1.2 t) t) ∧ va_AO "RoyaltyOffice$Office" U ∧ va_AO "java/lang/Object" U ∧ am_AA .int U ∧ am_AA .long U
def am_Kk (E : am_E) (U : State) (H : Heap) : Prop :=
  va_K E.1.1 vwCl (am_ty E) U ∧ (va_X E.2.2.1.1 E.2.2.1.2.1 E.2.2.1.2.2 U H ∧ E.2.2.1.1 < E.2.1 ∧ E.2.2.1.1 < H.size) ∧ am_Kr E U ∧ am_Kf U ∧ am_Ks E U H
theorem am_if_ok : ∀ y ∈ am_if, (am_im y).cls ≠ "java/lang/invoke/MethodHandle" ∧ (am_im y).cls ≠ "java/lang/invoke/VarHandle" := by decide +kernel
theorem am_Kk.moved {E : am_E} {u U : State} {H : Heap} (hvm : u.vm.Alike U.vm) (hW : u.WarmedH U.vm) (h : am_Kk E u H) : am_Kk E U H := by
  obtain ⟨h1, ⟨h4, h5, h6⟩, ⟨r1, r2, r3, r4, r5⟩, hf, ⟨k1, k2, k3⟩, h8, h9, h10, h11, h12, h13, h14⟩ := h
  exact ⟨va_K.moved hvm h1, ⟨va_X.moved hvm h4, h5, h6⟩, ⟨fun t ht => (r1 t ht).moved hvm, va_AO.moved hvm r2, va_AO.moved hvm r3, am_AA.moved hvm r4, am_AA.moved hvm r5⟩, fun y hy => (hf y hy).moved (am_if_ok y hy) hvm, ⟨fun i hi => va_T.moved hvm (k1 i hi), fun i hi => ⟨va_O.moved hvm (k2 i hi).1, va_OF.moved hvm (k2 i hi).2.1, va_OF.moved hvm (k2 i hi).2.2⟩, fun i q hq => vk_R.warm hW (k3 i q hq)⟩, va_Z.moved hvm h8, va_Zq.moved hvm h9, va_Z.moved hvm h10, va_Z.moved hvm h11, va_Z.moved hvm h12, va_T.moved hvm h13, va_Mi.moved hvm h14⟩
theorem am_Kk.kept {E : am_E} {U : State} {H H1 : Heap} (h : am_Kk E U H) (hz : H.size ≤ H1.size) (hq : ∀ a : Nat, a < H.size → ¬ am_A E a → H1[a]? = H[a]?) : am_Kk E U H1 := by
  obtain ⟨h1, ⟨h4, h5, h6⟩, hr, hf, ⟨k1, k2, k3⟩, h8, h9, h10, h11, h12, h13, h14⟩ := h
  exact ⟨h1, ⟨va_X.kept h4 (hq _ h6 (fun z => absurd z (Nat.not_le.mpr h5))), h5, Nat.lt_of_lt_of_le h6 hz⟩, hr, hf, ⟨fun i hi => (k1 i hi).kept hq, fun i hi => ⟨(k2 i hi).1.kept hq, (k2 i hi).2.1.kept hq, (k2 i hi).2.2.kept hq⟩, k3⟩, va_Z.kept h8 hq, va_Zq.kept h9 hq, va_Z.kept h10 hq, va_Z.kept h11 hq, va_Z.kept h12 hq, h13.kept hq, h14⟩
def am_Pc (E : am_E) (as : List Value) (m : am_M) : Array Value → State → Prop := fun v U => v = as.toArray ∧ am_Rp E m U.heap ∧ am_Kk E U U.heap
def am_Qc (E : am_E) (r : am_R) : Array Value → State → Outcome → State → Prop := fun _ st o t => (∃ v, r.1 = .inl v ∧ o = .returned v) ∧ am_Rp E r.2 t.heap ∧ va_F (am_A E) st t
def am_Cx (p : Program) (_ : Launch) (R : Room) (s : State) (mt : MethodId) (args : Array Value) (meth : Method) (c : Code) (cc : ByteArray) (nL own : Nat) (E : am_E) (m0 : am_M) (r : am_R) : Prop :=
  p.tables.exec = Jvm.exec ∧ c.code = cc ∧ c.maxLocals = nL ∧ s.vm.findClass (am_cn own) = some mt.cls ∧ (∀ w ∈ am_GW, w.before args s = true) ∧ meth.locks = false ∧ ge_ r.2 = true ∧
  am_Kk E s s.heap ∧ E.2.1 ≤ s.heap.size ∧ (gc_ r.2 ≤ gc_ m0 + R.cells ∧ gs_ r.2 ≤ gs_ m0 + R.slots) ∧ 2 ≤ R.frames ∧ 80 ≤ R.locals
def am_LH (ls : Array Slot) (nL : Nat) (L : am_L) : Prop := ls.size = nL ∧ lv_wf ls ∧ ∀ i v, am_lg L i = some v → ls[i]? = some (.val v)
def am_Pt (E : am_E) (s : State) (H : Heap) (locs : List Loc) (cells slots : Nat) (m0 m : am_M) : Prop := am_Rp E m H ∧ va_S (am_A E) s.heap H locs ∧ gc_ m0 + cells = gc_ m ∧ gs_ m0 + slots = gs_ m
def am_G (p : Program) (l : Launch) (e : Env) (R : Room) (s : State) (mt : MethodId) (args : Array Value) (below : List Frame) (meth : Method) (c : Code) (nL : Nat) (E : am_E) (Q : State → Prop) (m0 : am_M) (r : am_R) (f : am_L → List Value → am_M → Option am_R) (pc : Nat) : Prop :=
  ∀ (L : am_L) (S : List Value) (m : am_M) (H : Heap) (locs : List Loc) (cells slots : Nat) (ls : Array Slot), f L S m = some r → am_LH ls nL L → am_Pt E s H locs cells slots m0 m → W p l e R s mt args below meth c H locs cells slots Q (F0 mt pc ls S)
/-! the locals -/
def am_pl : Nat → am_L → List (Nat × Value)
  | _, [] => []
  | i, some v :: L => (i, v) :: am_pl (i + 1) L
  | i, none :: L => am_pl (i + 1) L
theorem am_pl_in : ∀ (L : am_L) (i j : Nat) (v : Value), (j, v) ∈ am_pl i L ↔ ∃ t, j = i + t ∧ am_lg L t = some v := by
  intro L
  induction L with
  | nil => intro i j v; exact ⟨fun h => (by cases h), fun ⟨t, _, h⟩ => (by cases h)⟩
  | cons o L ih =>
    intro i j v
    have key : (∃ t, j = i + 1 + t ∧ am_lg L t = some v) → ∃ t, j = i + t ∧ am_lg (o :: L) t = some v := fun ⟨t, h1, h2⟩ => ⟨t + 1, by omega, h2⟩
    cases o with
    | none =>
      show (j, v) ∈ am_pl (i + 1) L ↔ _
      rw [ih]
      refine ⟨key, fun ⟨t, h1, h2⟩ => ?_⟩
      cases t with
      | zero => cases h2
      | succ t => exact ⟨t, by omega, h2⟩
    | some w =>
      show (j, v) ∈ (i, w) :: am_pl (i + 1) L ↔ _
      rw [List.mem_cons, ih]
      refine ⟨fun h => ?_, fun ⟨t, h1, h2⟩ => ?_⟩
      · rcases h with h | h
        · cases h
          exact ⟨0, rfl, rfl⟩
        · exact key h
      · cases t with
        | zero => exact Or.inl (by rw [h1]; exact congrArg _ (Option.some.inj h2).symm)
        | succ t => exact Or.inr ⟨t, by omega, h2⟩
theorem am_LH.to {ls : Array Slot} {nL : Nat} {L : am_L} (h : am_LH ls nL L) : lv_has ls nL (am_pl 0 L) := by
  refine ⟨h.1, h.2.1, fun q hq => ?_⟩
  obtain ⟨t, h1, h2⟩ := (am_pl_in L 0 q.1 q.2).mp hq
  rw [h1, Nat.zero_add]
  exact h.2.2 t q.2 h2
theorem am_t0_g (L : am_L) (j : Nat) (w : Value) (h : am_lg (am_t0 L) j = some w) : j ≠ 0 ∧ am_lg L j = some w := by
  cases L with
  | nil => cases h
  | cons o L =>
    cases j with
    | zero => cases h
    | succ j => exact ⟨by omega, h⟩
theorem am_c2_iff (v : Value) : am_c2 (some v) = true ↔ v.category = 2 := by cases v <;> simp [am_c2, Value.category]
theorem am_ls_g : ∀ (L : am_L) (i : Nat) (v : Value) (j : Nat) (w : Value), am_lg (am_ls L i v) j = some w → (j = i ∧ w = v) ∨ (j ≠ i ∧ am_lg L j = some w ∧ ¬ (j + 1 = i ∧ w.category = 2) ∧ ¬ (j = i + 1 ∧ v.category = 2)) := by
  intro L
  induction L with
  | nil => intro i v j w h; cases h
  | cons o L ih =>
    intro i v j w h
    cases i with
    | zero =>
      cases j with
      | zero => exact Or.inl ⟨rfl, (Option.some.inj h).symm⟩
      | succ j =>
        have h : am_lg (bif am_c2 (some v) then am_t0 L else L) j = some w := h
        cases hc : am_c2 (some v) with
        | true =>
          rw [hc] at h
          obtain ⟨h1, h2⟩ := am_t0_g L j w h
          exact Or.inr ⟨by omega, h2, by omega, by omega⟩
        | false =>
          rw [hc] at h
          exact Or.inr ⟨by omega, h, by omega, fun z => by rw [(am_c2_iff v).mpr z.2] at hc; cases hc⟩
    | succ i =>
      cases j with
      | zero =>
        have h : (bif i.beq 0 && am_c2 o then none else o) = some w := h
        cases hb : (i.beq 0 && am_c2 o) with
        | true => rw [hb] at h; cases h
        | false =>
          rw [hb] at h
          have h : o = some w := h
          subst h
          refine Or.inr ⟨by omega, rfl, fun z => ?_, by omega⟩
          have h0 : i = 0 := by omega
          subst h0
          rw [(am_c2_iff w).mpr z.2] at hb
          cases hb
      | succ j =>
        rcases ih i v j w h with ⟨h1, h2⟩ | ⟨h1, h2, h3, h4⟩
        · exact Or.inl ⟨by omega, h2⟩
        · exact Or.inr ⟨by omega, h2, fun z => h3 ⟨by omega, z.2⟩, fun z => h4 ⟨by omega, z.2⟩⟩
theorem am_LH.s1 {ls ls' : Array Slot} {nL i : Nat} {L : am_L} {v : Value} (_ : am_LH ls nL L) (h' : lv_has ls' nL ((i, v) :: (am_pl 0 L).filter (fun q => !(q.1 == i) && !(q.1 + 1 == i && q.2.category == 2)))) : am_LH ls' nL (am_ls L i v) := by
  refine ⟨h'.1, h'.2.1, fun j w hj => ?_⟩
  rcases am_ls_g L i v j w hj with ⟨h1, h2⟩ | ⟨h1, h2, h3, h4⟩
  · rw [h1, h2]
    exact h'.2.2 (i, v) List.mem_cons_self
  · refine h'.2.2 (j, w) (List.mem_cons_of_mem _ (List.mem_filter.mpr ⟨(am_pl_in L 0 j w).mpr ⟨j, (Nat.zero_add j).symm, h2⟩, ?_⟩))
    simp only [Bool.and_eq_true, Bool.not_eq_true', beq_eq_false_iff_ne, ne_eq, Bool.and_eq_false_iff]
    exact ⟨h1, (Decidable.em (j + 1 = i)).elim (fun z => Or.inr (fun y => h3 ⟨z, y⟩)) (fun z => Or.inl z)⟩
theorem am_LH.s2 {ls' : Array Slot} {nL i : Nat} {L : am_L} {v : Value} (hv : v.category = 2) (h' : lv_has ls' nL ((i, v) :: (am_pl 0 L).filter (fun q => !(q.1 == i) && (!(q.1 == i + 1) && !(q.1 + 1 == i && q.2.category == 2))))) : am_LH ls' nL (am_ls L i v) := by
  refine ⟨h'.1, h'.2.1, fun j w hj => ?_⟩
  rcases am_ls_g L i v j w hj with ⟨h1, h2⟩ | ⟨h1, h2, h3, h4⟩
  · rw [h1, h2]
    exact h'.2.2 (i, v) List.mem_cons_self
  · refine h'.2.2 (j, w) (List.mem_cons_of_mem _ (List.mem_filter.mpr ⟨(am_pl_in L 0 j w).mpr ⟨j, (Nat.zero_add j).symm, h2⟩, ?_⟩))
    simp only [Bool.and_eq_true, Bool.not_eq_true', beq_eq_false_iff_ne, ne_eq, Bool.and_eq_false_iff]
    exact ⟨h1, fun z => h4 ⟨z, hv⟩, (Decidable.em (j + 1 = i)).elim (fun z => Or.inr (fun y => h3 ⟨z, y⟩)) (fun z => Or.inl z)⟩
theorem gq_I {α : Type} {p : Prop} {x : Option α} {r : α} (h : gq_ p x = some r) : p ∧ x = some r := by
  unfold gq_ at h
  by_cases q : p
  · rw [if_pos q] at h
    exact ⟨q, h⟩
  · rw [if_neg q] at h
    cases h
theorem gb_I {α : Type} {p : Prop} {x y : Option α} {r : α} (h : gb_ p x y = some r) : (p ∧ x = some r) ∨ (¬ p ∧ y = some r) := by
  unfold gb_ at h
  by_cases q : p
  · rw [if_pos q] at h
    exact Or.inl ⟨q, h⟩
  · rw [if_neg q] at h
    exact Or.inr ⟨q, h⟩
theorem gb_pos {α : Type} {p : Prop} {x y : Option α} (h : p) : gb_ p x y = x := if_pos h
theorem gb_neg {α : Type} {p : Prop} {x y : Option α} (h : ¬ p) : gb_ p x y = y := if_neg h
theorem gq_pos {α : Type} {p : Prop} {x : Option α} (h : p) : gq_ p x = x := if_pos h
theorem gq_neg {α : Type} {p : Prop} {x : Option α} (h : ¬ p) : gq_ p x = none := if_neg h
