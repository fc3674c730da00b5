/-! copies, ends, throws, switches, calls -/
section S4
variable {p : Program} {l : Launch} {e : Env} {R : Room} {s : State} {mt : MethodId} {args : Array Value} {below : List Frame} {meth : Method} {c : Code} {nL own : Nat} {cc : ByteArray} {E : am_E} {Q : State → Prop} {m0 : am_M} {r : am_R} {pc : Nat} {k : am_L → List Value → am_M → Option am_R} {x : am_X}
theorem am_bif {α : Type} {b : Bool} {x : Option α} {r : α} (h : (bif b then x else none) = some r) : b = true ∧ x = some r := by
  cases b
  · cases h
  · exact ⟨rfl, h⟩
theorem am_w8 {S : List Value} (h : (am_w S).ble 8 = true) : (S.map fun v => v.category).sum ≤ 8 := Nat.le_of_ble_eq_true h
theorem so_mmin (X : am_Cx p l R s mt args meth c cc nL own E m0 r) {n : Nat} (hw : Cond.methodLink (am_cn own) n Lib.Math.min.name ∈ am_GW) (hw2 : Cond.static Lib.Math.min.name ∈ am_GW) (hw3 : Cond.initialized "java/lang/Math" ∈ am_GW) (hw4 : Cond.code Lib.Math.min.name Lib.Math.min.code 2 (some .int) ∈ am_GW) (hd : decode cc pc = .ok (.invokestatic n, 3)) (hk9 : am_G p l e R s mt args below meth c nL E Q m0 r (k) (pc + 3)) (hmo : ∀ L S m, k L S m = some r → am_le m r) : am_G p l e R s mt args below meth c nL E Q m0 r (fun L S m => q_ii S fun v0 v1 S => bif (am_w S).ble 8 then k L (.int (if v0 < v1 then v0 else v1) :: S) m else none) (pc) := by
  intro L S m H locs cells slots ls h hL hP
  obtain ⟨hx, hb, hml, hown, hts, hlk, hst, hK, hN, hrm, hfr, hlo⟩ := X
  obtain ⟨v0, v1, S, rfl, h9⟩ := q_ii_I h
  obtain ⟨h8, h9⟩ := am_bif h9
  have h8 := am_w8 h8
  obtain ⟨hm1, hm2, -⟩ := hmo _ _ _ h9
  have hp1 := hP.2.2.1
  have hp2 := hP.2.2.2
  exact va_mmin hx hb (by rw [hml, hL.1]) hown (hts _ hw) (hts _ hw2) (hts _ hw3) (hts _ hw4) (by omega) (by omega) (by omega) (by omega) hd (hk9 _ _ _ _ _ _ _ _ h9 hL hP)
theorem so_mmax (X : am_Cx p l R s mt args meth c cc nL own E m0 r) {n : Nat} (hw : Cond.methodLink (am_cn own) n Lib.Math.max.name ∈ am_GW) (hw2 : Cond.static Lib.Math.max.name ∈ am_GW) (hw3 : Cond.initialized "java/lang/Math" ∈ am_GW) (hw4 : Cond.code Lib.Math.max.name Lib.Math.max.code 2 (some .int) ∈ am_GW) (hd : decode cc pc = .ok (.invokestatic n, 3)) (hk9 : am_G p l e R s mt args below meth c nL E Q m0 r (k) (pc + 3)) (hmo : ∀ L S m, k L S m = some r → am_le m r) : am_G p l e R s mt args below meth c nL E Q m0 r (fun L S m => q_ii S fun v0 v1 S => bif (am_w S).ble 8 then k L (.int (if v1 < v0 then v0 else v1) :: S) m else none) (pc) := by
  intro L S m H locs cells slots ls h hL hP
  obtain ⟨hx, hb, hml, hown, hts, hlk, hst, hK, hN, hrm, hfr, hlo⟩ := X
  obtain ⟨v0, v1, S, rfl, h9⟩ := q_ii_I h
  obtain ⟨h8, h9⟩ := am_bif h9
  have h8 := am_w8 h8
  obtain ⟨hm1, hm2, -⟩ := hmo _ _ _ h9
  have hp1 := hP.2.2.1
  have hp2 := hP.2.2.2
  exact va_mmax hx hb (by rw [hml, hL.1]) hown (hts _ hw) (hts _ hw2) (hts _ hw3) (hts _ hw4) (by omega) (by omega) (by omega) (by omega) hd (hk9 _ _ _ _ _ _ _ _ h9 hL hP)
theorem am_nn (z : Int32) (hz : ¬ z < 0) : z.toInt = (z.toNatClampNeg : Int) := by
  have hz0 : (0 : Int) ≤ z.toInt := by
    have := Int32.not_lt.mp hz
    simpa using Int32.le_iff_toInt_le.mp this
  show z.toInt = ((z.toInt.toNat : Nat) : Int)
  omega
theorem am_cpf {f g : Nat → Int32} {sp dp n n0 n1 : Nat} (hf : ∀ j, j < n0 → (f j).toInt8.toInt32 = f j) (hg : ∀ j, j < n1 → (g j).toInt8.toInt32 = g j) (h : sp + n ≤ n0) (j : Nat) (hj : j < n1) : (va_cpy f g sp dp n j).toInt8.toInt32 = va_cpy f g sp dp n j := by
  unfold va_cpy
  split
  · exact hf _ (by omega)
  · exact hg _ hj
theorem kb_all : (List.range 30).all (fun i => (kb_ i).all fun b => decide (b.toInt8.toInt32 = b)) = true := by decide +kernel
theorem kb_fit {i j : Nat} (hi : i < 30) (hj : j < (kb_ i).length) : ((kb_ i).getD j 0).toInt8.toInt32 = (kb_ i).getD j 0 := by
  have h := List.all_eq_true.mp kb_all i (List.mem_range.mpr hi)
  have h2 := List.all_eq_true.mp h ((kb_ i).getD j 0) (by rw [List.getD_eq_getElem?_getD, List.getElem?_eq_getElem hj]; exact List.getElem_mem hj)
  exact of_decide_eq_true h2
theorem am_cps {A : Nat → Prop} {H0 H H1 : Heap} {locs : List Loc} {a : Nat} (hS : va_S A H0 H locs) (z : H1.size = H.size) (oq : ∀ q : Nat, q ≠ a → H1[q]? = H[q]?) (ha : A a) (L : List Loc) (hl : ∀ q ∈ L, q.base = a) : va_S A H0 H1 (locs ++ L) :=
  ⟨by rw [z]; exact hS.1, fun q g1 g2 => by rw [oq q (fun e => g2 (by rw [e]; exact ha))]; exact hS.2.1 q g1 g2, fun q hq => (List.mem_append.mp hq).elim (hS.2.2 q) (fun h => by rw [hl q h]; exact ha)⟩
theorem so_copyI (X : am_Cx p l R s mt args meth c cc nL own E m0 r) {ix : Nat} (hw : Cond.methodLink (am_cn own) ix arraycopyName ∈ am_GW) (hw2 : Cond.native arraycopyName ∈ am_GW) (hw3 : Cond.static arraycopyName ∈ am_GW) (hw4 : Cond.initialized "java/lang/System" ∈ am_GW) (hd : decode cc pc = .ok (.invokestatic ix, 3)) (hk9 : am_G p l e R s mt args below meth c nL E Q m0 r (k) (pc + 3))
    {L : am_L} {S : List Value} {m : am_M} {H : Heap} {locs : List Loc} {cells slots : Nat} {ls : Array Slot} {n dp sp : Int32} {a a0 : Nat} (h8 : (S.map fun v => v.category).sum ≤ 8) (hka : (gk_ m a).1 = 2) (hka0 : (gk_ m a0).1 = 2) (h1 : ¬ sp < 0) (h2 : ¬ dp < 0) (h3 : ¬ n < 0) (h4 : sp.toNatClampNeg + n.toNatClampNeg ≤ (gk_ m a0).2) (h5 : dp.toNatClampNeg + n.toNatClampNeg ≤ (gk_ m a).2)
    (h9 : k L S (ri_ m a (va_cpy (gi_ m a0) (gi_ m a) sp.toNatClampNeg dp.toNatClampNeg n.toNatClampNeg)) = some r) (hL : am_LH ls nL L) (hP : am_Pt E s H locs cells slots m0 m) : W p l e R s mt args below meth c (H) (locs) (cells) (slots) Q (F0 mt pc ls (.int n :: .int dp :: .ref a :: .int sp :: .ref a0 :: S)) := by
  obtain ⟨hx, hb, hml, hown, hts, hlk, hst, hK, hN, hrm, hfr, hlo⟩ := X
  obtain ⟨-, hc0⟩ := (hP.1.1 a0).2.1 hka0
  obtain ⟨hN0, hc1⟩ := (hP.1.1 a).2.1 hka
  generalize hn0 : (gk_ m a0).2 = n0 at hc0 h4
  generalize hn1 : (gk_ m a).2 = n1 at hc1 h5
  intro T hT X
  obtain ⟨-, k0, hk0, cm0, hkk0⟩ := (am_tyk hK 0 rfl).1 n0 (fun j => .int (gi_ m a0 j))
  obtain ⟨-, k1, hk1, cm1, hkk1⟩ := (am_tyk hK 0 rfl).1 n1 (fun j => .int (gi_ m a j))
  obtain ⟨vm', X', step⟩ := X.arraycopy hx hown (hts _ hw) (hts _ hw2) (hts _ hw3) (hts _ hw4) (src := a0) (dst := a) (cs := arrV (E.1.2 2) n0 (fun j => .int (gi_ m a0 j))) (cd := arrV (E.1.2 2) n1 (fun j => .int (gi_ m a j))) (srcPos := sp) (destPos := dp) (n := n) (by rw [hT]; exact hc0) (by rw [hT]; exact hc1)
    (fun _ h => by cases h) (fun _ h => by cases h) (fun h => by cases h) (fun h => by cases h) hk0 hk1 hkk0 hkk1 (by simp [refKind]) h1 h2 h3
    (by rw [am_nn sp h1, am_nn n h3]; show ¬ _ > ((arrV _ n0 _).slots.size : Int); rw [arrV_size]; omega)
    (by rw [am_nn dp h2, am_nn n h3]; show ¬ _ > ((arrV _ n1 _).slots.size : Int); rw [arrV_size]; omega)
    (fun vm₁ _ i hi => by
      have e : (arrV (E.1.2 2) n0 (fun j => .int (gi_ m a0 j))).slots.getD (sp.toNatClampNeg + i) .null = .int (gi_ m a0 (sp.toNatClampNeg + i)) := by
        rw [Array.getD_eq_getD_getElem?, arrV_read _ _ (by omega)]
        rfl
      refine ⟨?_, ?_⟩
      · rw [e]
        rfl
      · rw [e]
        exact trivial)
    (g := F0 mt pc ls (.int n :: .int dp :: .ref a :: .int sp :: .ref a0 :: S)) rfl (by rw [hml]; exact hL.1) (rest := S) rfl (by rw [hb]; exact hd) (by omega) (by show 2 * 0 + _ + (nativeFrameWords "java/lang/System" "arraycopy" 5 + 11) ≤ _; have h7 : nativeFrameWords "java/lang/System" "arraycopy" 5 + 11 ≤ 60 := (by decide); omega)
  have e1 : copied (arrV (E.1.2 2) n0 (fun j => .int (gi_ m a0 j))) (arrV (E.1.2 2) n1 (fun j => .int (gi_ m a j))) sp dp n = arrV (E.1.2 2) n1 (fun j => .int (va_cpy (gi_ m a0) (gi_ m a) sp.toNatClampNeg dp.toNatClampNeg n.toNatClampNeg j)) := va_copied (fun z => .int z) _ _ (gi_ m a0) (gi_ m a) h4
  rw [e1] at X' step
  have hl : a < H.size := (Array.getElem?_eq_some_iff.mp hc1).1
  generalize hcell : arrV (E.1.2 2) n1 (fun j => .int (va_cpy (gi_ m a0) (gi_ m a) sp.toNatClampNeg dp.toNatClampNeg n.toNatClampNeg j)) = cell at X' step
  have hheap : ((T.setVm vm').setCell a cell).heap = H.setIfInBounds a cell := by rw [← hT]; rfl
  have oq : ∀ q : Nat, q ≠ a → (H.setIfInBounds a cell)[q]? = H[q]? := fun q hq => by simp [Array.getElem?_setIfInBounds, Ne.symm hq]
  have hcl : (H.setIfInBounds a cell)[a]? = some cell := by simp [Array.getElem?_setIfInBounds, hl]
  have hR := hP.1.upd (a := a) (by rw [hka]; decide) (H' := H.setIfInBounds a cell) (m' := ri_ m a (va_cpy (gi_ m a0) (gi_ m a) sp.toNatClampNeg dp.toNatClampNeg n.toNatClampNeg)) (by simp) oq (fun b hb => ⟨rfl, fun q => (gi_ri m a _ b q).trans (if_neg hb), fun q => rfl, fun q => rfl⟩) rfl rfl (am_at_k (t := 2) (n := n1) (Prod.ext hka hn1) (by decide) (fun z => by cases z) (fun _ => ⟨hN0, hcl.trans (by rw [← hcell]; exact congrArg some (congrArg (arrV _ n1) (funext fun q => congrArg _ ((gi_ri m a _ a q).trans (if_pos rfl)).symm)))⟩) (fun z => by cases z) (fun z => by cases z) (fun z => am_rkn z (by decide) (by decide) (by decide) (by decide)))
  obtain ⟨t, a1, b1⟩ := hk9 _ _ _ _ _ _ _ _ h9 hL ⟨hR, am_cps hP.2.1 (by simp) oq hN0 _ (fun q hq => by obtain ⟨z, -, hz⟩ := List.mem_map.mp hq; rw [← hz]), hP.2.2.1, hP.2.2.2⟩ _ hheap X'
  exact ⟨t, step t a1, b1⟩
theorem so_copyJ (X : am_Cx p l R s mt args meth c cc nL own E m0 r) {ix : Nat} (hw : Cond.methodLink (am_cn own) ix arraycopyName ∈ am_GW) (hw2 : Cond.native arraycopyName ∈ am_GW) (hw3 : Cond.static arraycopyName ∈ am_GW) (hw4 : Cond.initialized "java/lang/System" ∈ am_GW) (hd : decode cc pc = .ok (.invokestatic ix, 3)) (hk9 : am_G p l e R s mt args below meth c nL E Q m0 r (k) (pc + 3))
    {L : am_L} {S : List Value} {m : am_M} {H : Heap} {locs : List Loc} {cells slots : Nat} {ls : Array Slot} {n dp sp : Int32} {a a0 : Nat} (h8 : (S.map fun v => v.category).sum ≤ 8) (hka : (gk_ m a).1 = 4) (hka0 : (gk_ m a0).1 = 4) (h1 : ¬ sp < 0) (h2 : ¬ dp < 0) (h3 : ¬ n < 0) (h4 : sp.toNatClampNeg + n.toNatClampNeg ≤ (gk_ m a0).2) (h5 : dp.toNatClampNeg + n.toNatClampNeg ≤ (gk_ m a).2)
    (h9 : k L S (rl_ m a (va_cpy (gl_ m a0) (gl_ m a) sp.toNatClampNeg dp.toNatClampNeg n.toNatClampNeg)) = some r) (hL : am_LH ls nL L) (hP : am_Pt E s H locs cells slots m0 m) : W p l e R s mt args below meth c (H) (locs) (cells) (slots) Q (F0 mt pc ls (.int n :: .int dp :: .ref a :: .int sp :: .ref a0 :: S)) := by
  obtain ⟨hx, hb, hml, hown, hts, hlk, hst, hK, hN, hrm, hfr, hlo⟩ := X
  obtain ⟨-, hc0⟩ := (hP.1.1 a0).2.2.2.1 hka0
  obtain ⟨hN0, hc1⟩ := (hP.1.1 a).2.2.2.1 hka
  generalize hn0 : (gk_ m a0).2 = n0 at hc0 h4
  generalize hn1 : (gk_ m a).2 = n1 at hc1 h5
  intro T hT X
  obtain ⟨-, k0, hk0, cm0, hkk0⟩ := (am_tyk hK 2 rfl).1 n0 (fun j => .long (gl_ m a0 j))
  obtain ⟨-, k1, hk1, cm1, hkk1⟩ := (am_tyk hK 2 rfl).1 n1 (fun j => .long (gl_ m a j))
  obtain ⟨vm', X', step⟩ := X.arraycopy hx hown (hts _ hw) (hts _ hw2) (hts _ hw3) (hts _ hw4) (src := a0) (dst := a) (cs := arrV (E.1.2 4) n0 (fun j => .long (gl_ m a0 j))) (cd := arrV (E.1.2 4) n1 (fun j => .long (gl_ m a j))) (srcPos := sp) (destPos := dp) (n := n) (by rw [hT]; exact hc0) (by rw [hT]; exact hc1)
    (fun _ h => by cases h) (fun _ h => by cases h) (fun h => by cases h) (fun h => by cases h) hk0 hk1 hkk0 hkk1 (by simp [refKind]) h1 h2 h3
    (by rw [am_nn sp h1, am_nn n h3]; show ¬ _ > ((arrV _ n0 _).slots.size : Int); rw [arrV_size]; omega)
    (by rw [am_nn dp h2, am_nn n h3]; show ¬ _ > ((arrV _ n1 _).slots.size : Int); rw [arrV_size]; omega)
    (fun vm₁ _ i hi => by
      have e : (arrV (E.1.2 4) n0 (fun j => .long (gl_ m a0 j))).slots.getD (sp.toNatClampNeg + i) .null = .long (gl_ m a0 (sp.toNatClampNeg + i)) := by
        rw [Array.getD_eq_getD_getElem?, arrV_read _ _ (by omega)]
        rfl
      refine ⟨?_, ?_⟩
      · rw [e]
        rfl
      · rw [e]
        exact trivial)
    (g := F0 mt pc ls (.int n :: .int dp :: .ref a :: .int sp :: .ref a0 :: S)) rfl (by rw [hml]; exact hL.1) (rest := S) rfl (by rw [hb]; exact hd) (by omega) (by show 2 * 0 + _ + (nativeFrameWords "java/lang/System" "arraycopy" 5 + 11) ≤ _; have h7 : nativeFrameWords "java/lang/System" "arraycopy" 5 + 11 ≤ 60 := (by decide); omega)
  have e1 : copied (arrV (E.1.2 4) n0 (fun j => .long (gl_ m a0 j))) (arrV (E.1.2 4) n1 (fun j => .long (gl_ m a j))) sp dp n = arrV (E.1.2 4) n1 (fun j => .long (va_cpy (gl_ m a0) (gl_ m a) sp.toNatClampNeg dp.toNatClampNeg n.toNatClampNeg j)) := va_copied (fun z => .long z) _ _ (gl_ m a0) (gl_ m a) h4
  rw [e1] at X' step
  have hl : a < H.size := (Array.getElem?_eq_some_iff.mp hc1).1
  generalize hcell : arrV (E.1.2 4) n1 (fun j => .long (va_cpy (gl_ m a0) (gl_ m a) sp.toNatClampNeg dp.toNatClampNeg n.toNatClampNeg j)) = cell at X' step
  have hheap : ((T.setVm vm').setCell a cell).heap = H.setIfInBounds a cell := by rw [← hT]; rfl
  have oq : ∀ q : Nat, q ≠ a → (H.setIfInBounds a cell)[q]? = H[q]? := fun q hq => by simp [Array.getElem?_setIfInBounds, Ne.symm hq]
  have hcl : (H.setIfInBounds a cell)[a]? = some cell := by simp [Array.getElem?_setIfInBounds, hl]
  have hR := hP.1.upd (a := a) (by rw [hka]; decide) (H' := H.setIfInBounds a cell) (m' := rl_ m a (va_cpy (gl_ m a0) (gl_ m a) sp.toNatClampNeg dp.toNatClampNeg n.toNatClampNeg)) (by simp) oq (fun b hb => ⟨rfl, fun q => rfl, fun q => (gl_rl m a _ b q).trans (if_neg hb), fun q => rfl⟩) rfl rfl (am_at_k (t := 4) (n := n1) (Prod.ext hka hn1) (by decide) (fun z => by cases z) (fun z => by cases z) (fun z => by cases z) (fun _ => ⟨hN0, hcl.trans (by rw [← hcell]; exact congrArg some (congrArg (arrV _ n1) (funext fun q => congrArg _ ((gl_rl m a _ a q).trans (if_pos rfl)).symm)))⟩) (fun z => am_rkn z (by decide) (by decide) (by decide) (by decide)))
  obtain ⟨t, a1, b1⟩ := hk9 _ _ _ _ _ _ _ _ h9 hL ⟨hR, am_cps hP.2.1 (by simp) oq hN0 _ (fun q hq => by obtain ⟨z, -, hz⟩ := List.mem_map.mp hq; rw [← hz]), hP.2.2.1, hP.2.2.2⟩ _ hheap X'
  exact ⟨t, step t a1, b1⟩
theorem so_copyB (X : am_Cx p l R s mt args meth c cc nL own E m0 r) {ix : Nat} (hw : Cond.methodLink (am_cn own) ix arraycopyName ∈ am_GW) (hw2 : Cond.native arraycopyName ∈ am_GW) (hw3 : Cond.static arraycopyName ∈ am_GW) (hw4 : Cond.initialized "java/lang/System" ∈ am_GW) (hd : decode cc pc = .ok (.invokestatic ix, 3)) (hk9 : am_G p l e R s mt args below meth c nL E Q m0 r (k) (pc + 3))
    {L : am_L} {S : List Value} {m : am_M} {H : Heap} {locs : List Loc} {cells slots : Nat} {ls : Array Slot} {n dp sp : Int32} {a a0 : Nat} (h8 : (S.map fun v => v.category).sum ≤ 8) (hka : (gk_ m a).1 = 3) (hka0 : (gk_ m a0).1 = 3) (h1 : ¬ sp < 0) (h2 : ¬ dp < 0) (h3 : ¬ n < 0) (h4 : sp.toNatClampNeg + n.toNatClampNeg ≤ (gk_ m a0).2) (h5 : dp.toNatClampNeg + n.toNatClampNeg ≤ (gk_ m a).2)
    (h9 : k L S (ri_ m a (va_cpy (gi_ m a0) (gi_ m a) sp.toNatClampNeg dp.toNatClampNeg n.toNatClampNeg)) = some r) (hL : am_LH ls nL L) (hP : am_Pt E s H locs cells slots m0 m) : W p l e R s mt args below meth c (H) (locs) (cells) (slots) Q (F0 mt pc ls (.int n :: .int dp :: .ref a :: .int sp :: .ref a0 :: S)) := by
  obtain ⟨hx, hb, hml, hown, hts, hlk, hst, hK, hN, hrm, hfr, hlo⟩ := X
  obtain ⟨-, hc0, hb0⟩ := (hP.1.1 a0).2.2.1 hka0
  obtain ⟨hN0, hc1, hb1⟩ := (hP.1.1 a).2.2.1 hka
  generalize hn0 : (gk_ m a0).2 = n0 at hc0 hb0 h4
  generalize hn1 : (gk_ m a).2 = n1 at hc1 hb1 h5
  intro T hT X
  obtain ⟨-, k0, hk0, cm0, hkk0⟩ := (am_tyk hK 1 rfl).1 n0 (fun j => .int (gi_ m a0 j))
  obtain ⟨-, k1, hk1, cm1, hkk1⟩ := (am_tyk hK 1 rfl).1 n1 (fun j => .int (gi_ m a j))
  obtain ⟨vm', X', step⟩ := X.arraycopy hx hown (hts _ hw) (hts _ hw2) (hts _ hw3) (hts _ hw4) (src := a0) (dst := a) (cs := arrV (E.1.2 3) n0 (fun j => .int (gi_ m a0 j))) (cd := arrV (E.1.2 3) n1 (fun j => .int (gi_ m a j))) (srcPos := sp) (destPos := dp) (n := n) (by rw [hT]; exact hc0) (by rw [hT]; exact hc1)
    (fun _ h => by cases h) (fun _ h => by cases h) (fun h => by cases h) (fun h => by cases h) hk0 hk1 hkk0 hkk1 (by simp [refKind]) h1 h2 h3
    (by rw [am_nn sp h1, am_nn n h3]; show ¬ _ > ((arrV _ n0 _).slots.size : Int); rw [arrV_size]; omega)
    (by rw [am_nn dp h2, am_nn n h3]; show ¬ _ > ((arrV _ n1 _).slots.size : Int); rw [arrV_size]; omega)
    (fun vm₁ _ i hi => by
      have e : (arrV (E.1.2 3) n0 (fun j => .int (gi_ m a0 j))).slots.getD (sp.toNatClampNeg + i) .null = .int (gi_ m a0 (sp.toNatClampNeg + i)) := by
        rw [Array.getD_eq_getD_getElem?, arrV_read _ _ (by omega)]
        rfl
      refine ⟨?_, ?_⟩
      · rw [e]
        exact am_byt (hb0 _ (by omega))
      · rw [e]
        exact trivial)
    (g := F0 mt pc ls (.int n :: .int dp :: .ref a :: .int sp :: .ref a0 :: S)) rfl (by rw [hml]; exact hL.1) (rest := S) rfl (by rw [hb]; exact hd) (by omega) (by show 2 * 0 + _ + (nativeFrameWords "java/lang/System" "arraycopy" 5 + 11) ≤ _; have h7 : nativeFrameWords "java/lang/System" "arraycopy" 5 + 11 ≤ 60 := (by decide); omega)
  have e1 : copied (arrV (E.1.2 3) n0 (fun j => .int (gi_ m a0 j))) (arrV (E.1.2 3) n1 (fun j => .int (gi_ m a j))) sp dp n = arrV (E.1.2 3) n1 (fun j => .int (va_cpy (gi_ m a0) (gi_ m a) sp.toNatClampNeg dp.toNatClampNeg n.toNatClampNeg j)) := va_copied (fun z => .int z) _ _ (gi_ m a0) (gi_ m a) h4
  rw [e1] at X' step
  have hl : a < H.size := (Array.getElem?_eq_some_iff.mp hc1).1
  generalize hcell : arrV (E.1.2 3) n1 (fun j => .int (va_cpy (gi_ m a0) (gi_ m a) sp.toNatClampNeg dp.toNatClampNeg n.toNatClampNeg j)) = cell at X' step
  have hheap : ((T.setVm vm').setCell a cell).heap = H.setIfInBounds a cell := by rw [← hT]; rfl
  have oq : ∀ q : Nat, q ≠ a → (H.setIfInBounds a cell)[q]? = H[q]? := fun q hq => by simp [Array.getElem?_setIfInBounds, Ne.symm hq]
  have hcl : (H.setIfInBounds a cell)[a]? = some cell := by simp [Array.getElem?_setIfInBounds, hl]
  have hR := hP.1.upd (a := a) (by rw [hka]; decide) (H' := H.setIfInBounds a cell) (m' := ri_ m a (va_cpy (gi_ m a0) (gi_ m a) sp.toNatClampNeg dp.toNatClampNeg n.toNatClampNeg)) (by simp) oq (fun b hb => ⟨rfl, fun q => (gi_ri m a _ b q).trans (if_neg hb), fun q => rfl, fun q => rfl⟩) rfl rfl (am_at_k (t := 3) (n := n1) (Prod.ext hka hn1) (by decide) (fun z => by cases z) (fun z => by cases z) (fun _ => ⟨hN0, hcl.trans (by rw [← hcell]; exact congrArg some (congrArg (arrV _ n1) (funext fun q => congrArg _ ((gi_ri m a _ a q).trans (if_pos rfl)).symm))), fun j hj => by rw [gi_ri, if_pos rfl]; exact am_cpf hb0 hb1 h4 j hj⟩) (fun z => by cases z) (fun z => am_rkn z (by decide) (by decide) (by decide) (by decide)))
  obtain ⟨t, a1, b1⟩ := hk9 _ _ _ _ _ _ _ _ h9 hL ⟨hR, am_cps hP.2.1 (by simp) oq hN0 _ (fun q hq => by obtain ⟨z, -, hz⟩ := List.mem_map.mp hq; rw [← hz]), hP.2.2.1, hP.2.2.2⟩ _ hheap X'
  exact ⟨t, step t a1, b1⟩
theorem so_copyK (X : am_Cx p l R s mt args meth c cc nL own E m0 r) {ix : Nat} (hw : Cond.methodLink (am_cn own) ix arraycopyName ∈ am_GW) (hw2 : Cond.native arraycopyName ∈ am_GW) (hw3 : Cond.static arraycopyName ∈ am_GW) (hw4 : Cond.initialized "java/lang/System" ∈ am_GW) (hd : decode cc pc = .ok (.invokestatic ix, 3)) (hk9 : am_G p l e R s mt args below meth c nL E Q m0 r (k) (pc + 3))
    {L : am_L} {S : List Value} {m : am_M} {H : Heap} {locs : List Loc} {cells slots : Nat} {ls : Array Slot} {n dp sp : Int32} {a a0 : Nat} (h8 : (S.map fun v => v.category).sum ≤ 8) (hka : (gk_ m a).1 = 3) (hka0 : (gk_ m a0).1 = 9) (h1 : ¬ sp < 0) (h2 : ¬ dp < 0) (h3 : ¬ n < 0) (h4 : sp.toNatClampNeg + n.toNatClampNeg ≤ (gk_ m a0).2) (h5 : dp.toNatClampNeg + n.toNatClampNeg ≤ (gk_ m a).2)
    (h9 : k L S (ri_ m a (va_cpy (gi_ m a0) (gi_ m a) sp.toNatClampNeg dp.toNatClampNeg n.toNatClampNeg)) = some r) (hL : am_LH ls nL L) (hP : am_Pt E s H locs cells slots m0 m) : W p l e R s mt args below meth c (H) (locs) (cells) (slots) Q (F0 mt pc ls (.int n :: .int dp :: .ref a :: .int sp :: .ref a0 :: S)) := by
  obtain ⟨hx, hb, hml, hown, hts, hlk, hst, hK, hN, hrm, hfr, hlo⟩ := X
  obtain ⟨i9, hi9, e1, e2, e3⟩ := (hP.1.1 a0).2.2.2.2.2.2.2.1 hka0
  obtain ⟨cs, c1, ⟨cv0, k0, hk0, cm0, hkk0⟩, c3, c4, c5, c6, c7⟩ := hK.2.2.2.2.1.1 i9 hi9
  have hcs : H[a0]? = some cs := by rw [e1, hP.2.1.2.1 _ (Array.getElem?_eq_some_iff.mp c1).1 c7]; exact c1
  obtain ⟨hN0, hc1, hb1⟩ := (hP.1.1 a).2.2.1 hka
  rw [e2] at h4
  have hb0 : ∀ j, j < (kb_ i9).length → (gi_ m a0 j).toInt8.toInt32 = gi_ m a0 j := fun j hj => by rw [e3 j hj]; exact kb_fit hi9 hj
  generalize hn1 : (gk_ m a).2 = n1 at hc1 hb1 h5
  intro T hT X
  obtain ⟨-, k1, hk1, cm1, hkk1⟩ := (am_tyk hK 1 rfl).1 n1 (fun j => .int (gi_ m a j))
  have eg : ∀ i, i < n.toNatClampNeg → cs.slots.getD (sp.toNatClampNeg + i) .null = .int (gi_ m a0 (sp.toNatClampNeg + i)) := fun i hi => by
    rw [Array.getD_eq_getD_getElem?, c6 _ (by omega), e3 _ (by omega)]
    rfl
  obtain ⟨vm', X', step⟩ := X.arraycopy hx hown (hts _ hw) (hts _ hw2) (hts _ hw3) (hts _ hw4) (src := a0) (dst := a) (cs := cs) (cd := arrV (E.1.2 3) n1 (fun j => .int (gi_ m a j))) (srcPos := sp) (destPos := dp) (n := n) (by rw [hT]; exact hcs) (by rw [hT]; exact hc1)
    cv0 (fun _ h => by cases h) c3 (fun h => by cases h) hk0 hk1 hkk0 hkk1 (by simp [refKind]) h1 h2 h3
    (by rw [am_nn sp h1, am_nn n h3]; omega)
    (by rw [am_nn dp h2, am_nn n h3]; show ¬ _ > ((arrV _ n1 _).slots.size : Int); rw [arrV_size]; omega)
    (fun vm₁ _ i hi => by
      refine ⟨?_, ?_⟩
      · rw [eg i hi]
        exact am_byt (hb0 _ (by omega))
      · rw [eg i hi]
        exact trivial)
    (g := F0 mt pc ls (.int n :: .int dp :: .ref a :: .int sp :: .ref a0 :: S)) rfl (by rw [hml]; exact hL.1) (rest := S) rfl (by rw [hb]; exact hd) (by omega) (by show 2 * 0 + _ + (nativeFrameWords "java/lang/System" "arraycopy" 5 + 11) ≤ _; have h7 : nativeFrameWords "java/lang/System" "arraycopy" 5 + 11 ≤ 60 := (by decide); omega)
  have e1 : copied cs (arrV (E.1.2 3) n1 (fun j => .int (gi_ m a j))) sp dp n = arrV (E.1.2 3) n1 (fun j => .int (va_cpy (gi_ m a0) (gi_ m a) sp.toNatClampNeg dp.toNatClampNeg n.toNatClampNeg j)) := by
    exact va_copiedX (fun z => .int z) cs _ (gi_ m a0) (gi_ m a) (fun j hj => by rw [c6 j hj, e3 j hj]) h4
  rw [e1] at X' step
  have hl : a < H.size := (Array.getElem?_eq_some_iff.mp hc1).1
  generalize hcell : arrV (E.1.2 3) n1 (fun j => .int (va_cpy (gi_ m a0) (gi_ m a) sp.toNatClampNeg dp.toNatClampNeg n.toNatClampNeg j)) = cell at X' step
  have hheap : ((T.setVm vm').setCell a cell).heap = H.setIfInBounds a cell := by rw [← hT]; rfl
  have oq : ∀ q : Nat, q ≠ a → (H.setIfInBounds a cell)[q]? = H[q]? := fun q hq => by simp [Array.getElem?_setIfInBounds, Ne.symm hq]
  have hcl : (H.setIfInBounds a cell)[a]? = some cell := by simp [Array.getElem?_setIfInBounds, hl]
  have hR := hP.1.upd (a := a) (by rw [hka]; decide) (H' := H.setIfInBounds a cell) (m' := ri_ m a (va_cpy (gi_ m a0) (gi_ m a) sp.toNatClampNeg dp.toNatClampNeg n.toNatClampNeg)) (by simp) oq (fun b hb => ⟨rfl, fun q => (gi_ri m a _ b q).trans (if_neg hb), fun q => rfl, fun q => rfl⟩) rfl rfl (am_at_k (t := 3) (n := n1) (Prod.ext hka hn1) (by decide) (fun z => by cases z) (fun z => by cases z) (fun _ => ⟨hN0, hcl.trans (by rw [← hcell]; exact congrArg some (congrArg (arrV _ n1) (funext fun q => congrArg _ ((gi_ri m a _ a q).trans (if_pos rfl)).symm))), fun j hj => by rw [gi_ri, if_pos rfl]; exact am_cpf hb0 hb1 h4 j hj⟩) (fun z => by cases z) (fun z => am_rkn z (by decide) (by decide) (by decide) (by decide)))
  obtain ⟨t, a1, b1⟩ := hk9 _ _ _ _ _ _ _ _ h9 hL ⟨hR, am_cps hP.2.1 (by simp) oq hN0 _ (fun q hq => by obtain ⟨z, -, hz⟩ := List.mem_map.mp hq; rw [← hz]), hP.2.2.1, hP.2.2.2⟩ _ hheap X'
  exact ⟨t, step t a1, b1⟩
theorem so_copyR (X : am_Cx p l R s mt args meth c cc nL own E m0 r) {ix : Nat} (hw : Cond.methodLink (am_cn own) ix arraycopyName ∈ am_GW) (hw2 : Cond.native arraycopyName ∈ am_GW) (hw3 : Cond.static arraycopyName ∈ am_GW) (hw4 : Cond.initialized "java/lang/System" ∈ am_GW) (hd : decode cc pc = .ok (.invokestatic ix, 3)) (hk9 : am_G p l e R s mt args below meth c nL E Q m0 r (k) (pc + 3))
    {L : am_L} {S : List Value} {m : am_M} {H : Heap} {locs : List Loc} {cells slots : Nat} {ls : Array Slot} {n dp sp : Int32} {a a0 : Nat} (h8 : (S.map fun v => v.category).sum ≤ 8) (hka : (gk_ m a).1 = 10) (hka0 : (gk_ m a0).1 = 10) (h1 : ¬ sp < 0) (h2 : ¬ dp < 0) (h3 : ¬ n < 0) (h4 : sp.toNatClampNeg + n.toNatClampNeg ≤ (gk_ m a0).2) (h5 : dp.toNatClampNeg + n.toNatClampNeg ≤ (gk_ m a).2)
    (hel : ∀ j, j < n.toNatClampNeg → gr_ m a0 (sp.toNatClampNeg + j) = 0 ∨ am_el m 10 (gr_ m a0 (sp.toNatClampNeg + j)))
    (h9 : k L S (rr_ m a (va_cpy (gr_ m a0) (gr_ m a) sp.toNatClampNeg dp.toNatClampNeg n.toNatClampNeg)) = some r) (hL : am_LH ls nL L) (hP : am_Pt E s H locs cells slots m0 m) : W p l e R s mt args below meth c (H) (locs) (cells) (slots) Q (F0 mt pc ls (.int n :: .int dp :: .ref a :: .int sp :: .ref a0 :: S)) := by
  obtain ⟨hx, hb, hml, hown, hts, hlk, hst, hK, hN, hrm, hfr, hlo⟩ := X
  have hr10 : am_rk 10 := Or.inr (Or.inl rfl)
  obtain ⟨-, hc0⟩ := (hP.1.1 a0).2.2.2.2.1 (by rw [hka0]; exact hr10)
  obtain ⟨hN0, hc1⟩ := (hP.1.1 a).2.2.2.2.1 (by rw [hka]; exact hr10)
  rw [hka0] at hc0
  rw [hka] at hc1
  generalize hn0 : (gk_ m a0).2 = n0 at hc0 h4
  generalize hn1 : (gk_ m a).2 = n1 at hc1 h5
  intro T hT X
  obtain ⟨-, k0, hk0, cm0, hkk0⟩ := (am_tyr hK hr10) n0 (fun j => rf_ (gr_ m a0 j))
  obtain ⟨-, k1, hk1, cm1, hkk1⟩ := (am_tyr hK hr10) n1 (fun j => rf_ (gr_ m a j))
  obtain ⟨vm', X', step⟩ := X.arraycopy hx hown (hts _ hw) (hts _ hw2) (hts _ hw3) (hts _ hw4) (src := a0) (dst := a) (cs := arrV (E.1.2 10) n0 (fun j => rf_ (gr_ m a0 j))) (cd := arrV (E.1.2 10) n1 (fun j => rf_ (gr_ m a j))) (srcPos := sp) (destPos := dp) (n := n) (by rw [hT]; exact hc0) (by rw [hT]; exact hc1)
    (fun _ h => by cases h) (fun _ h => by cases h) (fun h => by cases h) (fun h => by cases h) hk0 hk1 hkk0 hkk1 rfl h1 h2 h3
    (by rw [am_nn sp h1, am_nn n h3]; show ¬ _ > ((arrV _ n0 _).slots.size : Int); rw [arrV_size]; omega)
    (by rw [am_nn dp h2, am_nn n h3]; show ¬ _ > ((arrV _ n1 _).slots.size : Int); rw [arrV_size]; omega)
    (fun vm₁ hal i hi => by
      have e : (arrV (E.1.2 10) n0 (fun j => rf_ (gr_ m a0 j))).slots.getD (sp.toNatClampNeg + i) .null = rf_ (gr_ m a0 (sp.toNatClampNeg + i)) := by
        rw [Array.getD_eq_getD_getElem?, arrV_read _ _ (by omega)]
        rfl
      rw [e]
      rcases hel i hi with hz | hz
      · rw [hz]
        exact ⟨rfl, trivial⟩
      · have hz0 := hz.1
        obtain ⟨-, cv, kA, comp, g1, g3, r1, r2, r3, ⟨kv, hkv⟩, hasg⟩ := am_el_ok hts hK hP.1 hz
        cases hk1.symm.trans r1
        cases hkk1.symm.trans r2
        rw [rf_, if_neg hz0]
        obtain ⟨kE, hkE⟩ := am_fcl r3
        obtain ⟨kC', hkC', -⟩ := hal.2.2 _ _ hkv
        obtain ⟨kE', hkE', -⟩ := hal.2.2 _ _ hkE
        refine ⟨rfl, cv, (show T.heap[_]? = some cv by rw [hT]; exact g1), (fun q h => by rw [h] at g3; cases g3), ⟨kC', hkC'⟩, ?_, ?_⟩
        · exact ⟨kE', hkE'⟩
        · show vm₁.assignable _ _ = true
          rw [hal.assignable]
          exact hasg)
    (g := F0 mt pc ls (.int n :: .int dp :: .ref a :: .int sp :: .ref a0 :: S)) rfl (by rw [hml]; exact hL.1) (rest := S) rfl (by rw [hb]; exact hd) (by omega) (by show 2 * 0 + _ + (nativeFrameWords "java/lang/System" "arraycopy" 5 + 11) ≤ _; have h7 : nativeFrameWords "java/lang/System" "arraycopy" 5 + 11 ≤ 60 := (by decide); omega)
  have e1 : copied (arrV (E.1.2 10) n0 (fun j => rf_ (gr_ m a0 j))) (arrV (E.1.2 10) n1 (fun j => rf_ (gr_ m a j))) sp dp n = arrV (E.1.2 10) n1 (fun j => rf_ (va_cpy (gr_ m a0) (gr_ m a) sp.toNatClampNeg dp.toNatClampNeg n.toNatClampNeg j)) := va_copied (fun z => rf_ z) _ _ (gr_ m a0) (gr_ m a) h4
  rw [e1] at X' step
  have hl : a < H.size := (Array.getElem?_eq_some_iff.mp hc1).1
  generalize hcell : arrV (E.1.2 10) n1 (fun j => rf_ (va_cpy (gr_ m a0) (gr_ m a) sp.toNatClampNeg dp.toNatClampNeg n.toNatClampNeg j)) = cell at X' step
  have hheap : ((T.setVm vm').setCell a cell).heap = H.setIfInBounds a cell := by rw [← hT]; rfl
  have oq : ∀ q : Nat, q ≠ a → (H.setIfInBounds a cell)[q]? = H[q]? := fun q hq => by simp [Array.getElem?_setIfInBounds, Ne.symm hq]
  have hcl : (H.setIfInBounds a cell)[a]? = some cell := by simp [Array.getElem?_setIfInBounds, hl]
  have hR := hP.1.upd (a := a) (by rw [hka]; decide) (H' := H.setIfInBounds a cell) (m' := rr_ m a (va_cpy (gr_ m a0) (gr_ m a) sp.toNatClampNeg dp.toNatClampNeg n.toNatClampNeg)) (by simp) oq (fun b hb => ⟨rfl, fun q => rfl, fun q => rfl, fun q => (gr_rr m a _ b q).trans (if_neg hb)⟩) rfl rfl (am_at_k (t := 10) (n := n1) (Prod.ext hka hn1) (by decide) (fun z => by cases z) (fun z => by cases z) (fun z => by cases z) (fun z => by cases z) (fun _ => ⟨hN0, hcl.trans (by rw [← hcell]; exact congrArg some (congrArg (arrV _ n1) (funext fun q => congrArg _ ((gr_rr m a _ a q).trans (if_pos rfl)).symm)))⟩))
  obtain ⟨t, a1, b1⟩ := hk9 _ _ _ _ _ _ _ _ h9 hL ⟨hR, am_cps hP.2.1 (by simp) oq hN0 _ (fun q hq => by obtain ⟨z, -, hz⟩ := List.mem_map.mp hq; rw [← hz]), hP.2.2.1, hP.2.2.2⟩ _ hheap X'
  exact ⟨t, step t a1, b1⟩
theorem so_copy (X : am_Cx p l R s mt args meth c cc nL own E m0 r) {n : Nat} (hw : Cond.methodLink (am_cn own) n arraycopyName ∈ am_GW) (hw2 : Cond.native arraycopyName ∈ am_GW) (hw3 : Cond.static arraycopyName ∈ am_GW) (hw4 : Cond.initialized "java/lang/System" ∈ am_GW) (hd : decode cc pc = .ok (.invokestatic n, 3)) (hk9 : am_G p l e R s mt args below meth c nL E Q m0 r (k) (pc + 3)) : am_G p l e R s mt args below meth c nL E Q m0 r (fun L S m => q_iirir S fun v0 v1 v2 v3 v4 S => bif (am_w S).ble 8 then gb_ ((gk_ m v2).1 = 2)
          (gq_ ((gk_ m v4).1 = 2 ∧ ¬ v4 = v2 ∧ ¬ v3 < 0 ∧ ¬ v1 < 0 ∧ ¬ v0 < 0 ∧ v3.toNatClampNeg + v0.toNatClampNeg ≤ (gk_ m v4).2 ∧ v1.toNatClampNeg + v0.toNatClampNeg ≤ (gk_ m v2).2)
            (k L S (ri_ m v2 (va_cpy (gi_ m v4) (gi_ m v2) v3.toNatClampNeg v1.toNatClampNeg v0.toNatClampNeg))))
          (gb_ ((gk_ m v2).1 = 3 ∨ (gk_ m v2).1 = 10)
            (gq_ (¬ v3 < 0 ∧ ¬ v1 < 0 ∧ ¬ v0 < 0 ∧ v3.toNatClampNeg + v0.toNatClampNeg ≤ (gk_ m v4).2 ∧ v1.toNatClampNeg + v0.toNatClampNeg ≤ (gk_ m v2).2)
              (gb_ ((gk_ m v2).1 = 3)
                (gq_ ((gk_ m v4).1 = 3 ∨ (gk_ m v4).1 = 9) (k L S (ri_ m v2 (va_cpy (gi_ m v4) (gi_ m v2) v3.toNatClampNeg v1.toNatClampNeg v0.toNatClampNeg))))
                (gq_ ((gk_ m v4).1 = 10 ∧ ∀ j, j < v0.toNatClampNeg → gr_ m v4 (v3.toNatClampNeg + j) = 0 ∨ am_el m 10 (gr_ m v4 (v3.toNatClampNeg + j))) (k L S (rr_ m v2 (va_cpy (gr_ m v4) (gr_ m v2) v3.toNatClampNeg v1.toNatClampNeg v0.toNatClampNeg))))))
          (gq_ ((gk_ m v2).1 = 4 ∧ (gk_ m v4).1 = 4 ∧ ¬ v4 = v2 ∧ ¬ v3 < 0 ∧ ¬ v1 < 0 ∧ ¬ v0 < 0 ∧ v3.toNatClampNeg + v0.toNatClampNeg ≤ (gk_ m v4).2 ∧ v1.toNatClampNeg + v0.toNatClampNeg ≤ (gk_ m v2).2)
            (k L S (rl_ m v2 (va_cpy (gl_ m v4) (gl_ m v2) v3.toNatClampNeg v1.toNatClampNeg v0.toNatClampNeg)))))
        else none) (pc) := by
  intro L S m H locs cells slots ls h hL hP
  obtain ⟨hx, hb, hml, hown, hts, hlk, hst, hK, hN, hrm, hfr, hlo⟩ := X
  obtain ⟨v0, v1, v2, v3, v4, S, rfl, h9⟩ := q_iirir_I h
  obtain ⟨h8, h9⟩ := am_bif h9
  have h8 := am_w8 h8
  rcases gb_I h9 with ⟨hg, h9⟩ | ⟨-, h9⟩
  · obtain ⟨⟨g1, g2, g3, g4, g5, g6, g7⟩, h9⟩ := gq_I h9
    exact so_copyI ⟨hx, hb, hml, hown, hts, hlk, hst, hK, hN, hrm, hfr, hlo⟩ hw hw2 hw3 hw4 hd hk9 h8 hg g1 g3 g4 g5 g6 g7 h9 hL hP
  · rcases gb_I h9 with ⟨hg, h9⟩ | ⟨-, h9⟩
    · obtain ⟨⟨g3, g4, g5, g6, g7⟩, h9⟩ := gq_I h9
      rcases gb_I h9 with ⟨hg3, h9⟩ | ⟨hg3, h9⟩
      · obtain ⟨g1, h9⟩ := gq_I h9
        rcases g1 with g1 | g1
        · exact so_copyB ⟨hx, hb, hml, hown, hts, hlk, hst, hK, hN, hrm, hfr, hlo⟩ hw hw2 hw3 hw4 hd hk9 h8 hg3 g1 g3 g4 g5 g6 g7 h9 hL hP
        · exact so_copyK ⟨hx, hb, hml, hown, hts, hlk, hst, hK, hN, hrm, hfr, hlo⟩ hw hw2 hw3 hw4 hd hk9 h8 hg3 g1 g3 g4 g5 g6 g7 h9 hL hP
      · obtain ⟨⟨g1, g2⟩, h9⟩ := gq_I h9
        exact so_copyR ⟨hx, hb, hml, hown, hts, hlk, hst, hK, hN, hrm, hfr, hlo⟩ hw hw2 hw3 hw4 hd hk9 h8 (hg.resolve_left hg3) g1 g3 g4 g5 g6 g7 g2 h9 hL hP
    · obtain ⟨⟨hg, g1, g2, g3, g4, g5, g6, g7⟩, h9⟩ := gq_I h9
      exact so_copyJ ⟨hx, hb, hml, hown, hts, hlk, hst, hK, hN, hrm, hfr, hlo⟩ hw hw2 hw3 hw4 hd hk9 h8 hg g1 g3 g4 g5 g6 g7 h9 hL hP
theorem am_e1_I {S : List Value} {v w : Value} (h : am_e1 S v = some w) : S = [] ∧ w = v := by
  unfold am_e1 at h
  split at h
  · cases h
    exact ⟨rfl, rfl⟩
  · cases h
theorem am_cnt {a b c : Nat} (h : a + b = c) : b = c - a := by omega
theorem so_iretI (X : am_Cx p l R s mt args meth c cc nL own E m0 r) (hr : meth.sig.returnType = some .int) (hd : decode cc pc = .ok (.ireturn, 1)) : am_G p l e R s mt args below meth c nL E (MQ below (am_Qc E r) args s (gc_ r.2 - gc_ m0) (gs_ r.2 - gs_ m0) (am_A E)) m0 r (fun L S m => q_i S fun v0 S => q_o (am_e1 S (.int v0)) fun w => some (.inl (some w), m)) (pc) := by
  intro L S m H locs cells slots ls h hL hP
  obtain ⟨hx, hb, hml, hown, hts, hlk, hst, hK, hN, hrm, hfr, hlo⟩ := X
  obtain ⟨v0, S, rfl, h9⟩ := q_i_I h
  obtain ⟨w, h1, h9⟩ := q_o_I h9
  obtain ⟨rfl, rfl⟩ := am_e1_I h1
  cases h9
  have hp1 := am_cnt hP.2.2.1
  have hp2 := am_cnt hP.2.2.2
  subst hp1
  subst hp2
  exact W.zret hx hb hr (rfl) (fun t ht hW => ⟨⟨_, rfl, rfl⟩, by rw [ht]; exact hP.1, hP.2.1.F ht⟩) hP.2.1.2.2 hd hlk
theorem so_iretZ (X : am_Cx p l R s mt args meth c cc nL own E m0 r) (hr : meth.sig.returnType = some .boolean) (hd : decode cc pc = .ok (.ireturn, 1)) : am_G p l e R s mt args below meth c nL E (MQ below (am_Qc E r) args s (gc_ r.2 - gc_ m0) (gs_ r.2 - gs_ m0) (am_A E)) m0 r (fun L S m => q_i S fun v0 S => q_o (am_e1 S (.int v0)) fun w => gq_ (v0 &&& 1 = v0) (some (.inl (some w), m))) (pc) := by
  intro L S m H locs cells slots ls h hL hP
  obtain ⟨hx, hb, hml, hown, hts, hlk, hst, hK, hN, hrm, hfr, hlo⟩ := X
  obtain ⟨v0, S, rfl, h9⟩ := q_i_I h
  obtain ⟨w, h1, h9⟩ := q_o_I h9
  obtain ⟨rfl, rfl⟩ := am_e1_I h1
  obtain ⟨hg, h9⟩ := gq_I h9
  cases h9
  have hp1 := am_cnt hP.2.2.1
  have hp2 := am_cnt hP.2.2.2
  subst hp1
  subst hp2
  exact W.zret hx hb hr (congrArg Value.int hg) (fun t ht hW => ⟨⟨_, rfl, rfl⟩, by rw [ht]; exact hP.1, hP.2.1.F ht⟩) hP.2.1.2.2 hd hlk
theorem so_iretB (X : am_Cx p l R s mt args meth c cc nL own E m0 r) (hr : meth.sig.returnType = some .byte) (hd : decode cc pc = .ok (.ireturn, 1)) : am_G p l e R s mt args below meth c nL E (MQ below (am_Qc E r) args s (gc_ r.2 - gc_ m0) (gs_ r.2 - gs_ m0) (am_A E)) m0 r (fun L S m => q_i S fun v0 S => q_o (am_e1 S (.int v0)) fun w => gq_ (v0.toInt8.toInt32 = v0) (some (.inl (some w), m))) (pc) := by
  intro L S m H locs cells slots ls h hL hP
  obtain ⟨hx, hb, hml, hown, hts, hlk, hst, hK, hN, hrm, hfr, hlo⟩ := X
  obtain ⟨v0, S, rfl, h9⟩ := q_i_I h
  obtain ⟨w, h1, h9⟩ := q_o_I h9
  obtain ⟨rfl, rfl⟩ := am_e1_I h1
  obtain ⟨hg, h9⟩ := gq_I h9
  cases h9
  have hp1 := am_cnt hP.2.2.1
  have hp2 := am_cnt hP.2.2.2
  subst hp1
  subst hp2
  exact W.zret hx hb hr (congrArg Value.int hg) (fun t ht hW => ⟨⟨_, rfl, rfl⟩, by rw [ht]; exact hP.1, hP.2.1.F ht⟩) hP.2.1.2.2 hd hlk
theorem so_iretC (X : am_Cx p l R s mt args meth c cc nL own E m0 r) (hr : meth.sig.returnType = some .char) (hd : decode cc pc = .ok (.ireturn, 1)) : am_G p l e R s mt args below meth c nL E (MQ below (am_Qc E r) args s (gc_ r.2 - gc_ m0) (gs_ r.2 - gs_ m0) (am_A E)) m0 r (fun L S m => q_i S fun v0 S => q_o (am_e1 S (.int v0)) fun w => gq_ (v0.toUInt32.toUInt16.toUInt32.toInt32 = v0) (some (.inl (some w), m))) (pc) := by
  intro L S m H locs cells slots ls h hL hP
  obtain ⟨hx, hb, hml, hown, hts, hlk, hst, hK, hN, hrm, hfr, hlo⟩ := X
  obtain ⟨v0, S, rfl, h9⟩ := q_i_I h
  obtain ⟨w, h1, h9⟩ := q_o_I h9
  obtain ⟨rfl, rfl⟩ := am_e1_I h1
  obtain ⟨hg, h9⟩ := gq_I h9
  cases h9
  have hp1 := am_cnt hP.2.2.1
  have hp2 := am_cnt hP.2.2.2
  subst hp1
  subst hp2
  exact W.zret hx hb hr (congrArg Value.int hg) (fun t ht hW => ⟨⟨_, rfl, rfl⟩, by rw [ht]; exact hP.1, hP.2.1.F ht⟩) hP.2.1.2.2 hd hlk
theorem so_lret (X : am_Cx p l R s mt args meth c cc nL own E m0 r) (hr : meth.sig.returnType = some .long) (hd : decode cc pc = .ok (.lreturn, 1)) : am_G p l e R s mt args below meth c nL E (MQ below (am_Qc E r) args s (gc_ r.2 - gc_ m0) (gs_ r.2 - gs_ m0) (am_A E)) m0 r (fun L S m => q_l S fun v0 S => q_o (am_e1 S (.long v0)) fun w => some (.inl (some w), m)) (pc) := by
  intro L S m H locs cells slots ls h hL hP
  obtain ⟨hx, hb, hml, hown, hts, hlk, hst, hK, hN, hrm, hfr, hlo⟩ := X
  obtain ⟨v0, S, rfl, h9⟩ := q_l_I h
  obtain ⟨w, h1, h9⟩ := q_o_I h9
  obtain ⟨rfl, rfl⟩ := am_e1_I h1
  cases h9
  have hp1 := am_cnt hP.2.2.1
  have hp2 := am_cnt hP.2.2.2
  subst hp1
  subst hp2
  exact W.lret hx hb hr (fun t ht hW => ⟨⟨_, rfl, rfl⟩, by rw [ht]; exact hP.1, hP.2.1.F ht⟩) hP.2.1.2.2 hd hlk
theorem so_vret (X : am_Cx p l R s mt args meth c cc nL own E m0 r) (hr : meth.sig.returnType = none) (hd : decode cc pc = .ok (.return_, 1)) : am_G p l e R s mt args below meth c nL E (MQ below (am_Qc E r) args s (gc_ r.2 - gc_ m0) (gs_ r.2 - gs_ m0) (am_A E)) m0 r (fun L S m => q_o (am_e1 S .null) fun _ => some (.inl none, m)) (pc) := by
  intro L S m H locs cells slots ls h hL hP
  obtain ⟨hx, hb, hml, hown, hts, hlk, hst, hK, hN, hrm, hfr, hlo⟩ := X
  obtain ⟨w, h1, h9⟩ := q_o_I h
  obtain ⟨rfl, rfl⟩ := am_e1_I h1
  cases h9
  have hp1 := am_cnt hP.2.2.1
  have hp2 := am_cnt hP.2.2.2
  subst hp1
  subst hp2
  exact W.vret hx hb hr (fun t ht hW => ⟨⟨_, rfl, rfl⟩, by rw [ht]; exact hP.1, hP.2.1.F ht⟩) hP.2.1.2.2 hd hlk
theorem so_aret (X : am_Cx p l R s mt args meth c cc nL own E m0 r) {rt : FieldType} (hr : meth.sig.returnType = some rt) (hrt : (∃ n, rt = .object n) ∨ ∃ t, rt = .array t) (hd : decode cc pc = .ok (.areturn, 1)) : am_G p l e R s mt args below meth c nL E (MQ below (am_Qc E r) args s (gc_ r.2 - gc_ m0) (gs_ r.2 - gs_ m0) (am_A E)) m0 r (fun L S m => q_r S fun v0 S => q_o (am_e1 S (.ref v0)) fun w => some (.inl (some w), m)) (pc) := by
  intro L S m H locs cells slots ls h hL hP
  obtain ⟨hx, hb, hml, hown, hts, hlk, hst, hK, hN, hrm, hfr, hlo⟩ := X
  obtain ⟨v0, S, rfl, h9⟩ := q_r_I h
  obtain ⟨w, h1, h9⟩ := q_o_I h9
  obtain ⟨rfl, rfl⟩ := am_e1_I h1
  cases h9
  have hp1 := am_cnt hP.2.2.1
  have hp2 := am_cnt hP.2.2.2
  subst hp1
  subst hp2
  exact W.aret hx hb hr hrt (Or.inr ⟨_, rfl⟩) (fun t ht hW => ⟨⟨_, rfl, rfl⟩, by rw [ht]; exact hP.1, hP.2.1.F ht⟩) hP.2.1.2.2 hd hlk
theorem am_sw_I (x : Int32) (d : Nat) (K : Nat → Option am_R) : ∀ (l : List (Int32 × Nat)) {r : am_R}, am_sw K x d l = some r → (∃ (i : Nat) (q : Int32 × Nat), l[i]? = some q ∧ x = q.1 ∧ K q.2 = some r ∧ ∀ (j : Nat), j < i → ∀ z : Int32 × Nat, l[j]? = some z → ¬ x = z.1) ∨ ((∀ q ∈ l, ¬ x = q.1) ∧ K d = some r) := by
  intro l
  induction l with
  | nil => exact fun h => Or.inr ⟨fun q hq => (nomatch hq), h⟩
  | cons q l ih =>
    intro r h
    rcases gb_I h with ⟨h1, h2⟩ | ⟨h1, h2⟩
    · exact Or.inl ⟨0, q, rfl, h1, h2, fun j hj => absurd hj (Nat.not_lt_zero j)⟩
    · rcases ih h2 with ⟨i, z, a1, a2, a3, a4⟩ | ⟨a1, a2⟩
      · refine Or.inl ⟨i + 1, z, a1, a2, a3, fun j hj y hy => ?_⟩
        cases j with
        | zero => cases hy; exact h1
        | succ j => exact a4 j (by omega) y hy
      · exact Or.inr ⟨fun z hz => (List.mem_cons.mp hz).elim (fun e => by rw [e]; exact h1) (a1 z), a2⟩
theorem so_table (X : am_Cx p l R s mt args meth c cc nL own E m0 r) {K : am_K} {dflt lo hi : Int} {offs : Array Int} {len d : Nat} {sw : List (Int32 × Nat)} (hd : decode cc pc = .ok (.tableswitch dflt lo hi offs, len)) (hdf : (pc : Int) + dflt = (d : Int)) (hn : offs.size = sw.length) (hsz : hi = lo + sw.length - 1) (hr : -2147483648 ≤ lo ∧ hi ≤ 2147483647)
    (hsw : ∀ i : Nat, i < sw.length → ∃ q off, sw[i]? = some q ∧ offs[i]? = some off ∧ q.1 = Int32.ofInt (lo + i) ∧ (pc : Int) + off = (q.2 : Int)) (hK9 : ∀ q, am_G p l e R s mt args below meth c nL E Q m0 r (K q) (q)) : am_G p l e R s mt args below meth c nL E Q m0 r (fun L S m => q_i S fun a S => am_sw (fun t => K t L S m) a d sw) (pc) := by
  intro L S m H locs cells slots ls h hL hP
  obtain ⟨hx, hb, hml, hown, hts, hlk, hst, hK, hN, hrm, hfr, hlo⟩ := X
  obtain ⟨v0, S, rfl, h9⟩ := q_i_I h
  rcases am_sw_I v0 d _ sw h9 with ⟨i, q, a1, a2, a3, a4⟩ | ⟨a1, a2⟩
  · obtain ⟨q2, off, b1, b2, b3, b4⟩ := hsw i (List.getElem?_eq_some_iff.mp a1).1
    have hi := (List.getElem?_eq_some_iff.mp a1).1
    cases Option.some.inj (b1.symm.trans a1)
    have hv : v0.toInt = lo + i := by rw [a2, b3]; exact Int32.toInt_ofInt_of_le (by omega) (by omega)
    refine lv_tableIn hx hb hd (by omega) (by omega) (off := off) (by rw [hv, show (lo + (i : Int) - lo).toNat = i by omega]; exact b2) b4 (hK9 _ _ _ _ _ _ _ _ _ a3 hL hP)
  · refine lv_tableOut hx hb hd ?_ hdf (hK9 _ _ _ _ _ _ _ _ _ a2 hL hP)
    by_cases c1 : v0.toInt < lo
    · exact Or.inl c1
    · by_cases c2 : hi < v0.toInt
      · exact Or.inr c2
      · exfalso
        obtain ⟨q, off, b1, -, b3, -⟩ := hsw (v0.toInt - lo).toNat (by omega)
        refine a1 q (List.mem_of_getElem? b1) ?_
        rw [b3, show lo + ((v0.toInt - lo).toNat : Int) = v0.toInt by omega, Int32.ofInt_toInt]
end S4
