/-- the text constant -/
def txs_ : String := "payee least work cover of sample in split from assign to until advance rate on by income pass revert close repeat "
def tx_ : List Int32 := [112, 97, 121, 101, 101, 32, 108, 101, 97, 115, 116, 32, 119, 111, 114, 107, 32, 99, 111, 118, 101, 114, 32, 111, 102, 32, 115, 97, 109, 112, 108, 101, 32, 105, 110, 32, 115, 112, 108, 105, 116, 32, 102, 114, 111, 109, 32, 97, 115, 115, 105, 103, 110, 32, 116, 111, 32, 117, 110, 116, 105, 108, 32, 97, 100, 118, 97, 110, 99, 101, 32, 114, 97, 116, 101, 32, 111, 110, 32, 98, 121, 32, 105, 110, 99, 111, 109, 101, 32, 112, 97, 115, 115, 32, 114, 101, 118, 101, 114, 116, 32, 99, 108, 111, 115, 101, 32, 114, 101, 112, 101, 97, 116, 32]
/-! the abstract machine is sound: what stands in a heap, what holds of a start -/
abbrev am_E : Type := (va_G × (Nat → ClassId)) × Nat × (Nat × Nat × (Nat → Int32)) × (Nat × Nat × (Nat → Nat → Int32))
def am_A (E : am_E) : Nat → Prop := fun q => E.2.1 ≤ q
def rf_ (n : Nat) : Value := if n = 0 then .null else .ref n
def am_fv (d : String) (m : am_M) (a k : Nat) : Value := if d = "I" ∨ d = "Z" then .int (gi_ m a k) else if d = "J" then .long (gl_ m a k) else rf_ (gr_ m a k)
def am_at (E : am_E) (m : am_M) (H : Heap) (a : Nat) : Prop :=
  ((gk_ m a).1 = 1 → E.2.1 ≤ a ∧ (gk_ m a).2 < 12 ∧ t_OB a (E.1.1.1 (gk_ m a).2) (am_vc (gk_ m a).2).2.2 (E.1.1.2 (gk_ m a).2) H (fun k => am_fv ((am_vc (gk_ m a).2).2.1 k).2.2.1 m a k)) ∧
  ((gk_ m a).1 = 2 → E.2.1 ≤ a ∧ H[a]? = some (arrV (E.1.2 2) (gk_ m a).2 (fun j => .int (gi_ m a j)))) ∧
  ((gk_ m a).1 = 3 → E.2.1 ≤ a ∧ H[a]? = some (arrV (E.1.2 3) (gk_ m a).2 (fun j => .int (gi_ m a j)))) ∧
  ((gk_ m a).1 = 4 → E.2.1 ≤ a ∧ H[a]? = some (arrV (E.1.2 4) (gk_ m a).2 (fun j => .long (gl_ m a j)))) ∧
  ((gk_ m a).1 = 5 → E.2.1 ≤ a ∧ H[a]? = some (arrV (E.1.2 5) (gk_ m a).2 (fun j => .double (gd_ m a j)))) ∧
  ((gk_ m a).1 = 6 → E.2.1 ≤ a ∧ H[a]? = some (arrV (E.1.2 6) (gk_ m a).2 (fun j => rf_ (gr_ m a j)))) ∧
  ((gk_ m a).1 = 7 → a = E.2.2.1.1 ∧ (gk_ m a).2 = E.2.2.1.2.1 ∧ ∀ j, j < E.2.2.1.2.1 → gi_ m a j = E.2.2.1.2.2 j) ∧
  ((gk_ m a).1 = 9 → a = E.2.2.2.2.1 ∧ (gk_ m a).2 = tx_.length ∧ ∀ j, j < tx_.length → gi_ m a j = tx_.getD j 0) ∧
  (gk_ m a).1 ≤ 9 ∧ ¬ (gk_ m a).1 = 8
def am_Rp (E : am_E) (m : am_M) (H : Heap) : Prop := (∀ a, am_at E m H a) ∧ (ge_ m = true → H.size = gt_ m) ∧ E.2.1 ≤ H.size ∧ 0 < E.2.1
abbrev am_ty (E : am_E) : List (ClassId × FieldType) := [(E.1.2 2, .int), (E.1.2 3, .byte), (E.1.2 4, .long), (E.1.2 5, .double), (E.1.2 6, .object "RoyaltyOffice$Office")]
/-- the text constant and what the JDK's statics hold -/
def am_Ks (E : am_E) (U : State) (H : Heap) : Prop :=
  vk_R "RoyaltyOffice$Tokens" 29 txs_ E.2.2.2.1 U ∧ vk_S 1 [tx_.length] [tx_] (fun _ => E.2.2.2.1) (fun _ => E.2.2.2.2.1) (am_A E) U H ∧
  va_Z "java/lang/String" "COMPACT_STRINGS" "Z" (.int 1) (am_A E) U H ∧ va_Zq "jdk/internal/util/Preconditions" "SIOOBE_FORMATTER" "Ljava/util/function/BiFunction;" (am_A E) U H
def am_Kk (E : am_E) (U : State) (H : Heap) : Prop :=
  va_K E.1.1 vwCl (am_ty E) U ∧ vx_Zq Bundle.tN "UNASSIGNED_STACK" Bundle.steD (am_A E) U H ∧ vx_Zq Bundle.tN "SUPPRESSED_SENTINEL" Bundle.listD (am_A E) U H ∧
  (va_X E.2.2.1.1 E.2.2.1.2.1 E.2.2.1.2.2 U H ∧ E.2.2.1.1 < E.2.1 ∧ E.2.2.1.1 < H.size) ∧ va_Nc "java/lang/IllegalArgumentException" "java/lang/IndexOutOfBoundsException" U ∧ va_AO "RoyaltyOffice$Office" U ∧ am_Ks E U H
theorem am_Kk.moved {E : am_E} {u U : State} {H : Heap} (hvm : u.vm.Alike U.vm) (hW : u.WarmedH U.vm) (h : am_Kk E u H) : am_Kk E U H := by
  obtain ⟨h1, h2, h3, ⟨h4, h5, h6⟩, h7, ho, h8, h9, h10, h11⟩ := h
  exact ⟨va_K.moved hvm h1, vx_Zq.moved hvm h2, vx_Zq.moved hvm h3, ⟨va_X.moved hvm h4, h5, h6⟩, va_Nc.moved hvm h7, va_AO.moved hvm ho, vk_R.warm hW h8, vk_S.moved hvm h9, va_Z.moved hvm h10, va_Zq.moved hvm h11⟩
theorem am_Kk.kept {E : am_E} {U : State} {H H1 : Heap} (h : am_Kk E U H) (hz : H.size ≤ H1.size) (hq : ∀ a : Nat, a < H.size → ¬ am_A E a → H1[a]? = H[a]?) : am_Kk E U H1 := by
  obtain ⟨h1, h2, h3, ⟨h4, h5, h6⟩, h7, ho, h8, h9, h10, h11⟩ := h
  exact ⟨h1, vx_Zq.kept h2 hq, vx_Zq.kept h3 hq, ⟨va_X.kept h4 (hq _ h6 (fun z => absurd z (Nat.not_le.mpr h5))), h5, Nat.lt_of_lt_of_le h6 hz⟩, h7, ho, h8, vk_S.kept h9 hq, va_Z.kept h10 hq, va_Zq.kept h11 hq⟩
def am_Pc (E : am_E) (as : List Value) (m : am_M) : Array Value → State → Prop := fun v U => v = as.toArray ∧ am_Rp E m U.heap ∧ am_Kk E U U.heap
def am_Qc (E : am_E) (r : am_R) : Array Value → State → Outcome → State → Prop := fun _ st o t => (∃ v, r.1 = .inl v ∧ o = .returned v) ∧ am_Rp E r.2 t.heap ∧ va_F (am_A E) st t
def am_XC (E : am_E) (r : am_R) : String → State → State → Prop := fun n st t => (∃ j, r.1 = .inr j ∧ n = am_xn j) ∧ am_Rp E r.2 t.heap ∧ va_F (am_A E) st t
def am_Cx (p : Program) (l : Launch) (R : Room) (s : State) (mt : MethodId) (args : Array Value) (meth : Method) (c : Code) (cc : ByteArray) (nL own : Nat) (E : am_E) (m0 : am_M) (r : am_R) : Prop :=
  p.tables.exec = Jvm.exec ∧ c.code = cc ∧ c.maxLocals = nL ∧ s.vm.findClass (am_cn own) = some mt.cls ∧ (∀ w ∈ am_GW, w.before args s = true) ∧ meth.locks = false ∧ l.stackTraces = false ∧
  am_Kk E s s.heap ∧ E.2.1 ≤ s.heap.size ∧ (gc_ r.2 ≤ gc_ m0 + R.cells ∧ gs_ r.2 ≤ gs_ m0 + R.slots) ∧ 12 ≤ R.frames ∧ 220 ≤ R.locals
def am_LH (ls : Array Slot) (nL : Nat) (L : am_L) : Prop := ls.size = nL ∧ lv_wf ls ∧ ∀ i v, am_lg L i = some v → ls[i]? = some (.val v)
def am_Pt (E : am_E) (s : State) (H : Heap) (locs : List Loc) (cells slots : Nat) (m0 m : am_M) : Prop := am_Rp E m H ∧ va_S (am_A E) s.heap H locs ∧ gc_ m0 + cells = gc_ m ∧ gs_ m0 + slots = gs_ m
def am_G (p : Program) (l : Launch) (e : Env) (R : Room) (s : State) (mt : MethodId) (args : Array Value) (below : List Frame) (meth : Method) (c : Code) (nL : Nat) (E : am_E) (Q : State → Prop) (m0 : am_M) (r : am_R) (f : am_L → List Value → am_M → Option am_R) (pc : Nat) : Prop :=
  ∀ (L : am_L) (S : List Value) (m : am_M) (H : Heap) (locs : List Loc) (cells slots : Nat) (ls : Array Slot), f L S m = some r → am_LH ls nL L → am_Pt E s H locs cells slots m0 m → W p l e R s mt args below meth c H locs cells slots Q (F0 mt pc ls S)
/-! the locals -/
def am_pl : Nat → am_L → List (Nat × Value)
  | _, [] => []
  | i, some v :: L => (i, v) :: am_pl (i + 1) L
  | i, none :: L => am_pl (i + 1) L
theorem am_pl_in : ∀ (L : am_L) (i j : Nat) (v : Value), (j, v) ∈ am_pl i L ↔ ∃ t, j = i + t ∧ am_lg L t = some v := by
  intro L
  induction L with
  | nil => intro i j v; exact ⟨fun h => (by cases h), fun ⟨t, _, h⟩ => (by cases h)⟩
  | cons o L ih =>
    intro i j v
    have key : (∃ t, j = i + 1 + t ∧ am_lg L t = some v) → ∃ t, j = i + t ∧ am_lg (o :: L) t = some v := fun ⟨t, h1, h2⟩ => ⟨t + 1, by omega, h2⟩
    cases o with
    | none =>
      show (j, v) ∈ am_pl (i + 1) L ↔ _
      rw [ih]
      refine ⟨key, fun ⟨t, h1, h2⟩ => ?_⟩
      cases t with
      | zero => cases h2
      | succ t => exact ⟨t, by omega, h2⟩
    | some w =>
      show (j, v) ∈ (i, w) :: am_pl (i + 1) L ↔ _
      rw [List.mem_cons, ih]
      refine ⟨fun h => ?_, fun ⟨t, h1, h2⟩ => ?_⟩
      · rcases h with h | h
        · cases h
          exact ⟨0, rfl, rfl⟩
        · exact key h
      · cases t with
        | zero => exact Or.inl (by rw [h1]; exact congrArg _ (Option.some.inj h2).symm)
        | succ t => exact Or.inr ⟨t, by omega, h2⟩
theorem am_LH.to {ls : Array Slot} {nL : Nat} {L : am_L} (h : am_LH ls nL L) : lv_has ls nL (am_pl 0 L) := by
  refine ⟨h.1, h.2.1, fun q hq => ?_⟩
  obtain ⟨t, h1, h2⟩ := (am_pl_in L 0 q.1 q.2).mp hq
  rw [h1, Nat.zero_add]
  exact h.2.2 t q.2 h2
theorem am_t0_g (L : am_L) (j : Nat) (w : Value) (h : am_lg (am_t0 L) j = some w) : j ≠ 0 ∧ am_lg L j = some w := by
  cases L with
  | nil => cases h
  | cons o L =>
    cases j with
    | zero => cases h
    | succ j => exact ⟨by omega, h⟩
theorem am_c2_iff (v : Value) : am_c2 (some v) = true ↔ v.category = 2 := by cases v <;> simp [am_c2, Value.category]
theorem am_ls_g : ∀ (L : am_L) (i : Nat) (v : Value) (j : Nat) (w : Value), am_lg (am_ls L i v) j = some w → (j = i ∧ w = v) ∨ (j ≠ i ∧ am_lg L j = some w ∧ ¬ (j + 1 = i ∧ w.category = 2) ∧ ¬ (j = i + 1 ∧ v.category = 2)) := by
  intro L
  induction L with
  | nil => intro i v j w h; cases h
  | cons o L ih =>
    intro i v j w h
    cases i with
    | zero =>
      cases j with
      | zero => exact Or.inl ⟨rfl, (Option.some.inj h).symm⟩
      | succ j =>
        have h : am_lg (bif am_c2 (some v) then am_t0 L else L) j = some w := h
        cases hc : am_c2 (some v) with
        | true =>
          rw [hc] at h
          obtain ⟨h1, h2⟩ := am_t0_g L j w h
          exact Or.inr ⟨by omega, h2, by omega, by omega⟩
        | false =>
          rw [hc] at h
          exact Or.inr ⟨by omega, h, by omega, fun z => by rw [(am_c2_iff v).mpr z.2] at hc; cases hc⟩
    | succ i =>
      cases j with
      | zero =>
        have h : (bif i.beq 0 && am_c2 o then none else o) = some w := h
        cases hb : (i.beq 0 && am_c2 o) with
        | true => rw [hb] at h; cases h
        | false =>
          rw [hb] at h
          have h : o = some w := h
          subst h
          refine Or.inr ⟨by omega, rfl, fun z => ?_, by omega⟩
          have h0 : i = 0 := by omega
          subst h0
          rw [(am_c2_iff w).mpr z.2] at hb
          cases hb
      | succ j =>
        rcases ih i v j w h with ⟨h1, h2⟩ | ⟨h1, h2, h3, h4⟩
        · exact Or.inl ⟨by omega, h2⟩
        · exact Or.inr ⟨by omega, h2, fun z => h3 ⟨by omega, z.2⟩, fun z => h4 ⟨by omega, z.2⟩⟩
theorem am_LH.s1 {ls ls' : Array Slot} {nL i : Nat} {L : am_L} {v : Value} (_ : am_LH ls nL L) (h' : lv_has ls' nL ((i, v) :: (am_pl 0 L).filter (fun q => !(q.1 == i) && !(q.1 + 1 == i && q.2.category == 2)))) : am_LH ls' nL (am_ls L i v) := by
  refine ⟨h'.1, h'.2.1, fun j w hj => ?_⟩
  rcases am_ls_g L i v j w hj with ⟨h1, h2⟩ | ⟨h1, h2, h3, h4⟩
  · rw [h1, h2]
    exact h'.2.2 (i, v) List.mem_cons_self
  · refine h'.2.2 (j, w) (List.mem_cons_of_mem _ (List.mem_filter.mpr ⟨(am_pl_in L 0 j w).mpr ⟨j, (Nat.zero_add j).symm, h2⟩, ?_⟩))
    simp only [Bool.and_eq_true, Bool.not_eq_true', beq_eq_false_iff_ne, ne_eq, Bool.and_eq_false_iff]
    exact ⟨h1, (Decidable.em (j + 1 = i)).elim (fun z => Or.inr (fun y => h3 ⟨z, y⟩)) (fun z => Or.inl z)⟩
theorem am_LH.s2 {ls' : Array Slot} {nL i : Nat} {L : am_L} {v : Value} (hv : v.category = 2) (h' : lv_has ls' nL ((i, v) :: (am_pl 0 L).filter (fun q => !(q.1 == i) && (!(q.1 == i + 1) && !(q.1 + 1 == i && q.2.category == 2))))) : am_LH ls' nL (am_ls L i v) := by
  refine ⟨h'.1, h'.2.1, fun j w hj => ?_⟩
  rcases am_ls_g L i v j w hj with ⟨h1, h2⟩ | ⟨h1, h2, h3, h4⟩
  · rw [h1, h2]
    exact h'.2.2 (i, v) List.mem_cons_self
  · refine h'.2.2 (j, w) (List.mem_cons_of_mem _ (List.mem_filter.mpr ⟨(am_pl_in L 0 j w).mpr ⟨j, (Nat.zero_add j).symm, h2⟩, ?_⟩))
    simp only [Bool.and_eq_true, Bool.not_eq_true', beq_eq_false_iff_ne, ne_eq, Bool.and_eq_false_iff]
    exact ⟨h1, fun z => h4 ⟨z, hv⟩, (Decidable.em (j + 1 = i)).elim (fun z => Or.inr (fun y => h3 ⟨z, y⟩)) (fun z => Or.inl z)⟩
theorem gq_I {α : Type} {p : Prop} {x : Option α} {r : α} (h : gq_ p x = some r) : p ∧ x = some r := by
  unfold gq_ at h
  by_cases q : p
  · rw [if_pos q] at h
    exact ⟨q, h⟩
  · rw [if_neg q] at h
    cases h
theorem gb_I {α : Type} {p : Prop} {x y : Option α} {r : α} (h : gb_ p x y = some r) : (p ∧ x = some r) ∨ (¬ p ∧ y = some r) := by
  unfold gb_ at h
  by_cases q : p
  · rw [if_pos q] at h
    exact Or.inl ⟨q, h⟩
  · rw [if_neg q] at h
    exact Or.inr ⟨q, h⟩
theorem gb_pos {α : Type} {p : Prop} {x y : Option α} (h : p) : gb_ p x y = x := if_pos h
theorem gb_neg {α : Type} {p : Prop} {x y : Option α} (h : ¬ p) : gb_ p x y = y := if_neg h
theorem gq_pos {α : Type} {p : Prop} {x : Option α} (h : p) : gq_ p x = x := if_pos h
theorem gq_neg {α : Type} {p : Prop} {x : Option α} (h : ¬ p) : gq_ p x = none := if_neg h
