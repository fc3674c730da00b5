/-! clones, rows of rows, class objects, constants -/
section S4b
variable {p : Program} {l : Launch} {e : Env} {R : Room} {s : State} {mt : MethodId} {args : Array Value} {below : List Frame} {meth : Method} {c : Code} {nL own : Nat} {cc : ByteArray} {E : am_E} {Q : State → Prop} {m0 : am_M} {r : am_R} {pc : Nat} {k : am_L → List Value → am_M → Option am_R} {x : am_X}
theorem mu_in {m : am_M} {n k b : Nat} (h1 : ¬ b = gt_ m) (h : gt_ m ≤ b ∧ b ≤ gt_ m + n) : gk_ (mu_ m n k) b = (4, k) := (if_neg h1).trans (if_pos ⟨by omega, h.2⟩)
theorem am_outer (c : ClassId) (N h0 : Nat) : ∀ i : Nat, i ≤ N → Jvm.Free.Multi.outerC c N h0 i = arrV c N (fun j => rf_ (if j < i then h0 + 1 + j else 0))
  | 0, _ => by
    show ({ cls := c, slots := Array.replicate N .null, vm := .none } : Cell) = _
    rw [arrV_new]
    refine congrArg (arrV c N) (funext fun j => ?_)
    simp [rf_]
  | i + 1, h => by
    show (Jvm.Free.Multi.outerC c N h0 i).setSlot i (.ref (h0 + 1 + i)) = _
    rw [am_outer c N h0 i (by omega), arrV_store]
    refine congrArg (arrV c N) (funext fun j => ?_)
    by_cases e : j = i
    · subst e
      simp [updV, rf_]
    · by_cases h : j < i
      · simp [updV, e, h, Nat.lt_succ_of_lt h]
      · simp [updV, e, h, show ¬ j < i + 1 by omega]
theorem so_multi (X : am_Cx p l R s mt args meth c cc nL own E m0 r) {n : Nat} (hw : Cond.classLink (am_cn own) n "[[J" ∈ am_GW) (hw2 : Cond.arrayClass .long ∈ am_GW) (hd : decode cc pc = .ok (.multianewarray n 2, 4)) (hk9 : am_G p l e R s mt args below meth c nL E Q m0 r (k) (pc + 4)) (hmo : ∀ L S m, k L S m = some r → am_le m r) : am_G p l e R s mt args below meth c nL E Q m0 r (fun L S m => q_ii S fun v0 v1 S => gq_ (¬ v1 < 0 ∧ ¬ v0 < 0 ∧ v1.toNatClampNeg ≤ 100 ∧ v0.toNatClampNeg ≤ 100 ∧ ge_ m = true) (k L (.ref (gt_ m) :: S) (mu_ m v1.toNatClampNeg v0.toNatClampNeg))) (pc) := by
  intro L S m H locs cells slots ls h hL hP
  obtain ⟨hx, hb, hml, hown, hts, hlk, hst, hK, hN, hrm, hfr, hlo⟩ := X
  obtain ⟨v0, v1, S, rfl, h9⟩ := q_ii_I h
  obtain ⟨⟨g1, g2, g3, g4, g5⟩, h9⟩ := gq_I h9
  have ht := hP.1.2.1 g5
  obtain ⟨hm1, hm2, -⟩ := hmo _ _ _ h9
  generalize hN1 : v1.toNatClampNeg = N1 at *
  generalize hK1 : v0.toNatClampNeg = K1 at *
  have hm1 : gc_ m + (1 + N1) ≤ gc_ r.2 := hm1
  have hm2 : gs_ m + (N1 + N1 * K1) ≤ gs_ r.2 := hm2
  have hp1 := hP.2.2.1
  have hp2 := hP.2.2.2
  intro T hT Xs
  obtain ⟨vm₁, cA, comp, -, fA, fC, hO, -, X', step⟩ := Xs.multianewarray2F hx hown (hts _ hw) (am_AA.use hK.2.2.1.2.2.2.2) (hts _ hw2) (ty := .long) (g := F0 mt pc ls (.int v0 :: .int v1 :: S)) rfl (by rw [hb]; exact hd) rfl g1 g2 (by rw [hN1]; omega) (by rw [hK1]; show K1 * 8 ≤ _; omega) (by rw [hK1]; omega) rfl rfl (by rw [hN1]; omega) (by rw [hN1, hK1]; omega)
  rw [hN1, hK1] at X' step
  have eA : cA = E.1.2 12 := by
    obtain ⟨_, _, -, -, -, z⟩ := hK.2.2.1.1 12 (Or.inr (Or.inr (Or.inr rfl)))
    exact Option.some.inj (fA.symm.trans z)
  have eC : comp = E.1.2 4 := Option.some.inj (fC.symm.trans (am_tyk hK 2 rfl).2)
  subst eA
  subst eC
  generalize hF : Jvm.Free.Multi.fill (T.setVm vm₁) (E.1.2 12) (E.1.2 4) N1 K1 (defaultValue .long) N1 = F at X' step
  have hTh : (T.setVm vm₁).heap = H := hT
  obtain ⟨f1, f2, -, -⟩ := Jvm.Free.Multi.fill_facts (T.setVm vm₁) (E.1.2 12) (E.1.2 4) N1 K1 (defaultValue .long) N1
  rw [hF, hTh] at f1 f2
  have hold : ∀ x : Nat, x < H.size → F.heap[x]? = H[x]? := fun x hx => by
    have := Jvm.Free.Multi.fill_old (T.setVm vm₁) (E.1.2 12) (E.1.2 4) N1 K1 (defaultValue .long) (a := x) (by rw [hTh]; exact hx) N1
    rw [hF, hTh] at this
    exact this
  have hrow : ∀ j : Nat, j < N1 → F.heap[H.size + 1 + j]? = some (arrV (E.1.2 4) K1 (fun _ => .long 0)) := fun j hj => by
    have := Jvm.Free.Multi.fill_inner (T.setVm vm₁) (E.1.2 12) (E.1.2 4) N1 K1 (defaultValue .long) N1 j hj
    rw [hF, hTh] at this
    rw [this]
    exact congrArg some (arrV_new _ _ _)
  rw [am_outer (E.1.2 12) N1 H.size N1 (Nat.le_refl _)] at f2
  have hb0 := hP.1.2.2.1
  have hb1 := hP.1.2.2.2.1
  have hout : ∀ b, ¬ (gt_ m ≤ b ∧ b ≤ gt_ m + N1) → am_at E (mu_ m N1 K1) F.heap b := fun b hb => by
    have q1 : ¬ b = gt_ m := fun e => hb ⟨by omega, by omega⟩
    have q2 : ¬ (gt_ m < b ∧ b ≤ gt_ m + N1) := fun e => hb ⟨by omega, e.2⟩
    refine (hP.1.1 b).of ((if_neg q1).trans (if_neg q2)) (fun j => congrFun (if_neg hb) j) (fun j => congrFun (if_neg hb) j) (fun j => congrFun ((if_neg q1).trans (if_neg hb)) j) ?_
    rcases Nat.lt_or_ge b H.size with q | q
    · exact hold b q
    · rw [Array.getElem?_eq_none q, Array.getElem?_eq_none (by rw [f1]; omega)]
  have hR : am_Rp E (mu_ m N1 K1) F.heap := by
    have z0 : ¬ (gt_ m ≤ am_sv E ∧ am_sv E ≤ gt_ m + N1) := fun e => by omega
    have z1 : ¬ am_sv E = gt_ m := by omega
    have z2 : ¬ (gt_ m < am_sv E ∧ am_sv E ≤ gt_ m + N1) := fun e => by omega
    refine ⟨fun b => ?_, fun _ => by rw [f1, ht]; show _ = gt_ m + (1 + N1); omega, by rw [f1]; omega, hP.1.2.2.2.1, hP.1.2.2.2.2.same ((if_neg z1).trans (if_neg z2)) (fun j => congrFun ((if_neg z1).trans (if_neg z0)) j)⟩
    by_cases hb : gt_ m ≤ b ∧ b ≤ gt_ m + N1
    · by_cases he : b = gt_ m
      · have hk : gk_ (mu_ m N1 K1) b = (12, N1) := if_pos he
        refine am_at_k (t := 12) (n := N1) hk (by decide) (fun z => by cases z) (fun z => by cases z) (fun z => by cases z) (fun z => by cases z) (fun _ => ⟨by omega, ?_⟩)
        rw [he, ← ht, f2]
        congr 2
        funext j
        congr 1
        rw [← ht] at he
        have e9 : gr_ (mu_ m N1 K1) (gt_ m) j = (if j < N1 then gt_ m + 1 + j else 0) := congrFun (if_pos rfl) j
        rw [ht, e9]
      · have hk : gk_ (mu_ m N1 K1) b = (4, K1) := mu_in he hb
        refine am_at_k (t := 4) (n := K1) hk (by decide) (fun z => by cases z) (fun z => by cases z) (fun z => by cases z) (fun _ => ⟨by omega, ?_⟩) (fun z => am_rkn z (by decide) (by decide) (by decide) (by decide))
        rw [show b = H.size + 1 + (b - H.size - 1) by omega, hrow _ (by omega)]
        congr 2
        funext j
        have e9 : gl_ (mu_ m N1 K1) (H.size + 1 + (b - H.size - 1)) j = 0 := congrFun (if_pos ⟨by omega, by omega⟩) j
        rw [e9]
    · exact hout b hb
  obtain ⟨t, a1, b1⟩ := hk9 _ _ _ _ _ (cells + 1 + N1) (slots + N1 + N1 * K1) _ h9 hL ⟨hR, ⟨by rw [f1]; have := hP.2.1.1; omega, fun x h1 h2 => (hold x (Nat.lt_of_lt_of_le h1 hP.2.1.1)).trans (hP.2.1.2.1 x h1 h2), hP.2.1.2.2⟩, by show _ = gc_ m + _; omega, by show _ = gs_ m + _; omega⟩ F rfl X'
  refine ⟨t, step t ?_, b1⟩
  have e : T.heap.size = gt_ m := by rw [hT, ht]
  rw [e]
  exact a1
theorem so_clone (X : am_Cx p l R s mt args meth c cc nL own E m0 r) {n : Nat} (hw : Cond.methodLink (am_cn own) n ⟨"[B", "clone", "()Ljava/lang/Object;"⟩ ∈ am_GW) (w2 : Cond.sameMethod "[B" "java/lang/Object" "clone" "()Ljava/lang/Object;" ∈ am_GW) (w3 : Cond.native ⟨"java/lang/Object", "clone", "()Ljava/lang/Object;"⟩ ∈ am_GW) (w4 : Cond.instanceMethod ⟨"java/lang/Object", "clone", "()Ljava/lang/Object;"⟩ ∈ am_GW) (w5 : Cond.selects "[B" ⟨"[B", "clone", "()Ljava/lang/Object;"⟩ ⟨"java/lang/Object", "clone", "()Ljava/lang/Object;"⟩ ∈ am_GW) (w6 : Cond.castable "[B" "java/lang/Cloneable" ∈ am_GW) (hd : decode cc pc = .ok (.invokevirtual n, 3)) (hk9 : am_G p l e R s mt args below meth c nL E Q m0 r (k) (pc + 3)) (hmo : ∀ L S m, k L S m = some r → am_le m r) : am_G p l e R s mt args below meth c nL E Q m0 r (fun L S m => q_r S fun b R => bif (am_w R).ble 8 then gq_ ((gk_ m b).1 = 3 ∧ ge_ m = true) (k L (.ref (gt_ m) :: R) (ri_ (al_ m (gk_ m b) (gk_ m b).2) (gt_ m) (gi_ m b))) else none) (pc) := by
  intro L S m H locs cells slots ls h hL hP
  obtain ⟨hx, hb, hml, hown, hts, hlk, hst, hK, hN, hrm, hfr, hlo⟩ := X
  obtain ⟨v0, S, rfl, h9⟩ := q_r_I h
  obtain ⟨h8, h9⟩ := am_bif h9
  have h8 := am_w8 h8
  obtain ⟨⟨g1, g5⟩, h9⟩ := gq_I h9
  have ht := hP.1.2.1 g5
  obtain ⟨hm1, hm2, -⟩ := hmo _ _ _ h9
  have hm1 : gc_ m + 1 ≤ gc_ r.2 := hm1
  have hm2 : gs_ m + (gk_ m v0).2 ≤ gs_ r.2 := hm2
  have hp1 := hP.2.2.1
  have hp2 := hP.2.2.2
  obtain ⟨-, hc, hby⟩ := (hP.1.1 v0).2.2.1 g1
  have hnm : s.vm.findClass "[B" = some (E.1.2 3) := (am_tyk hK 1 rfl).2
  obtain ⟨c0, t0, f1, f2, f3⟩ := Cond.castable_spec (hts _ w6)
  cases hnm.symm.trans f1
  generalize hn : (gk_ m v0).2 = N at *
  intro T hT Xs
  obtain ⟨-, kA, hkA, cm, hkind⟩ := State.isArrayOf_alike Xs.warmed.alike ((am_tyk hK 1 rfl).1 0 (fun _ => .null))
  obtain ⟨-, kS, hkS, cmS, hkindS⟩ := (am_tyk hK 1 rfl).1 0 (fun _ => .null)
  obtain ⟨vm', X', st⟩ := Xs.cloneArray hx hown (hts _ hw) (hts _ w2) (hts _ w3) (hts _ w4) (hts _ w5) (a := v0) (cell := arrV (E.1.2 3) N (fun j => .int (gi_ m v0 j))) (by rw [hT]; exact hc) (fun k h => by cases h) (fun h => by cases h) hnm f2 f3
    (fun i v hv => by
      have hk' : T.vm.classes[E.1.2 3]? = some kA := hkA
      have hfit : fits .byte v = true := va_fit (cA := E.1.2 3) (n := N) (F := fun j => .int (gi_ m v0 j)) (fun i hi => am_byt (hby i hi)) i v hv
      show T.fitsSlot (E.1.2 3) _ _ _ = true
      simpa [State.fitsSlot, State.slotType?, hk', hkind] using hfit)
    (g := F0 mt pc ls (.ref v0 :: S)) rfl (by rw [hml]; exact hL.1) rfl (by rw [hb]; exact hd) (by omega) (by show 2 * 0 + _ + 14 ≤ _; omega) (by omega) (by rw [arrV_size]; omega) (hloader := Vm.clonesLoader_of_array hkS hkindS)
  rw [arrV_size] at X'
  have hcellE : ({ cls := (arrV (E.1.2 3) N (fun j => .int (gi_ m v0 j))).cls, slots := (arrV (E.1.2 3) N (fun j => .int (gi_ m v0 j))).slots } : Cell) = arrV (E.1.2 3) N (fun j => .int (gi_ m v0 j)) := rfl
  rw [hcellE] at X' st
  generalize hcl : arrV (E.1.2 3) N (fun j => .int (gi_ m v0 j)) = cl at X' hc st
  generalize hH1 : H.push cl = H1
  have z1 : H1.size = H.size + 1 := by rw [← hH1, Array.size_push]
  have e1 : H1[H.size]? = some cl := by rw [← hH1, Array.getElem?_push_size]
  have o1 : ∀ q : Nat, q < H.size → H1[q]? = H[q]? := fun q hq => by rw [← hH1, Array.getElem?_push, if_neg (Nat.ne_of_lt hq)]
  have hkv : gk_ m v0 = (3, N) := Prod.ext g1 hn
  rw [hkv] at h9
  have hb0 := hP.1.2.2.1
  have hb1 := hP.1.2.2.2.1
  have z9 : ¬ am_sv E = gt_ m := by omega
  have hR : am_Rp E (ri_ (al_ m (3, N) N) (gt_ m) (gi_ m v0)) H1 := by
    refine ⟨fun b => ?_, fun _ => by rw [z1, ht]; rfl, by rw [z1]; omega, hb1, hP.1.2.2.2.2.same (if_neg z9) (fun j => congrFun (if_neg z9) j)⟩
    by_cases hb : b = gt_ m
    · have hk : gk_ (ri_ (al_ m (3, N) N) (gt_ m) (gi_ m v0)) b = (3, N) := if_pos hb
      refine am_at_k (t := 3) (n := N) hk (by decide) (fun z => by cases z) (fun z => by cases z) (fun _ => ⟨by omega, ?_, fun j hj => ?_⟩) (fun z => by cases z) (fun z => am_rkn z (by decide) (by decide) (by decide) (by decide))
      · rw [hb, ← ht, e1, ← hcl]
        congr 2
        funext j
        rw [ht, gi_ri, if_pos rfl]
      · rw [hb, gi_ri, if_pos rfl]
        exact hby j hj
    · refine (hP.1.1 b).of (if_neg hb) (fun j => ?_) (fun j => congrFun (if_neg hb) j) (fun j => congrFun (if_neg hb) j) ?_
      · rw [gi_ri, if_neg hb]
        exact congrFun (if_neg hb) j
      · rcases Nat.lt_or_ge b H.size with q | q
        · exact o1 b q
        · rw [Array.getElem?_eq_none q, Array.getElem?_eq_none (by omega)]
  obtain ⟨t, a1, b1⟩ := hk9 _ _ _ H1 _ (cells + 1) (slots + N) _ h9 hL ⟨hR, am_newS hP.2.1 z1 o1, by show _ = gc_ m + 1; omega, by show _ = gs_ m + _; omega⟩ ((T.setVm vm').pushCell cl) (by rw [← hH1, ← hT]; rfl) X'
  refine ⟨t, st t ?_, b1⟩
  have e : T.heap.size = gt_ m := by rw [hT, ht]
  rw [e]
  exact a1
theorem so_getc (X : am_Cx p l R s mt args meth c cc nL own E m0 r) {n : Nat} (hw : Cond.methodLink (am_cn own) n ⟨"java/lang/Object", "getClass", "()Ljava/lang/Class;"⟩ ∈ am_GW) (w2 : Cond.declares ⟨"java/lang/Object", "getClass", "()Ljava/lang/Class;"⟩ ∈ am_GW) (w3 : Cond.selects "[Ljava/lang/Object;" ⟨"java/lang/Object", "getClass", "()Ljava/lang/Class;"⟩ ⟨"java/lang/Object", "getClass", "()Ljava/lang/Class;"⟩ ∈ am_GW) (w4 : Cond.instanceMethod ⟨"java/lang/Object", "getClass", "()Ljava/lang/Class;"⟩ ∈ am_GW) (w5 : Cond.native ⟨"java/lang/Object", "getClass", "()Ljava/lang/Class;"⟩ ∈ am_GW) (hd : decode cc pc = .ok (.invokevirtual n, 3)) (hk9 : am_G p l e R s mt args below meth c nL E Q m0 r (k) (pc + 3)) : am_G p l e R s mt args below meth c nL E Q m0 r (fun L S m => q_r S fun b R => bif (am_w R).ble 8 then gq_ ((gk_ m b).1 = 10) (k L (.ref (gr_ m (am_sv E) 43) :: R) m) else none) (pc) := by
  intro L S m H locs cells slots ls h hL hP
  obtain ⟨hx, hb, hml, hown, hts, hlk, hst, hK, hN, hrm, hfr, hlo⟩ := X
  obtain ⟨v0, S, rfl, h9⟩ := q_r_I h
  obtain ⟨h8, h9⟩ := am_bif h9
  have h8 := am_w8 h8
  obtain ⟨g1, h9⟩ := gq_I h9
  obtain ⟨-, hc⟩ := (hP.1.1 v0).2.2.2.2.1 (Or.inr (Or.inl g1))
  rw [g1] at hc
  rw [hP.1.2.2.2.2.2.2.2.2.2] at h9
  exact va_getC hx hb (by rw [hml]; exact hL.1.symm) hown (hts _ hw) (hts _ w2) (hts _ w3) (hts _ w4) (hts _ w5) hK.2.2.2.2.2.2.2.2.2.2.2 ⟨_, hc, rfl, by obtain ⟨_, _, -, -, -, z⟩ := hK.2.2.1.1 10 (Or.inr (Or.inl rfl)); exact z⟩ (by omega) (by omega) hd (hk9 _ _ _ _ _ _ _ _ h9 hL hP)
theorem so_ldcm (X : am_Cx p l R s mt args meth c cc nL own E m0 r) {n : Nat} (hw : Cond.classLink (am_cn own) n "[Ljava/lang/Object;" ∈ am_GW) (hd : decode cc pc = .ok (.ldc n, 2)) (hk9 : am_G p l e R s mt args below meth c nL E Q m0 r (k) (pc + 2)) : am_G p l e R s mt args below meth c nL E Q m0 r (fun L S m => k L (.ref (gr_ m (am_sv E) 43) :: S) m) (pc) := by
  intro L S m H locs cells slots ls h hL hP
  obtain ⟨hx, hb, hml, hown, hts, hlk, hst, hK, hN, hrm, hfr, hlo⟩ := X
  replace h : k L (.ref (gr_ m (am_sv E) 43) :: S) m = some r := h
  rw [hP.1.2.2.2.2.2.2.2.2.2] at h
  exact va_ldcM hx hb hown (hts _ hw) hK.2.2.2.2.2.2.2.2.2.2.2 hd (hk9 _ _ _ _ _ _ _ _ h hL hP)
theorem am_rf_ok {E : am_E} {U : State} {H : Heap} (hK : am_Kk E U H) {own n i : Nat} (h : ((krf_[i]?).any fun q => q.1.beq own && q.2.1.beq n) = true) : ∃ tx, vk_R (am_cn own) n tx (E.2.2.2.1 i) U ∧ i < 28 := by
  rw [Option.any_eq_true] at h
  obtain ⟨q, hq, h1⟩ := h
  rw [Bool.and_eq_true] at h1
  have h2 := hK.2.2.2.2.1.2.2 i q hq
  rw [Nat.eq_of_beq_eq_true h1.1, Nat.eq_of_beq_eq_true h1.2] at h2
  exact ⟨_, h2, (List.getElem?_eq_some_iff.mp hq).1⟩
theorem so_ldct (X : am_Cx p l R s mt args meth c cc nL own E m0 r) {n i : Nat} (hi : ((krf_[i]?).any fun q => q.1.beq own && q.2.1.beq n) = true) (hd : decode cc pc = .ok (.ldc n, 2)) (hk9 : am_G p l e R s mt args below meth c nL E Q m0 r (k) (pc + 2)) : am_G p l e R s mt args below meth c nL E Q m0 r (fun L S m => k L (.ref (gr_ m (am_sv E) i) :: S) m) (pc) := by
  intro L S m H locs cells slots ls h hL hP
  obtain ⟨hx, hb, hml, hown, hts, hlk, hst, hK, hN, hrm, hfr, hlo⟩ := X
  obtain ⟨tx, h1, h2⟩ := am_rf_ok hK hi
  replace h : k L (.ref (gr_ m (am_sv E) i) :: S) m = some r := h
  rw [hP.1.2.2.2.2.2.1 i h2] at h
  exact va_ldcS hx hb hown h1 hd (hk9 _ _ _ _ _ _ _ _ h hL hP)
theorem so_ldc0 (X : am_Cx p l R s mt args meth c cc nL own E m0 r) {n : Nat} (hi : ((krf_[0]?).any fun q => q.1.beq own && q.2.1.beq n) = true) (hd : decode cc pc = .ok (.ldc n, 2)) (hk9 : am_G p l e R s mt args below meth c nL E Q m0 r (k) (pc + 2)) : am_G p l e R s mt args below meth c nL E Q m0 r (fun L S m => k L (.ref (E.2.2.2.1 0) :: S) m) (pc) := by
  intro L S m H locs cells slots ls h hL hP
  obtain ⟨hx, hb, hml, hown, hts, hlk, hst, hK, hN, hrm, hfr, hlo⟩ := X
  obtain ⟨tx, h1, h2⟩ := am_rf_ok hK hi
  exact va_ldcS hx hb hown h1 hd (hk9 _ _ _ _ _ _ _ _ h hL hP)
theorem so_gets (X : am_Cx p l R s mt args meth c cc nL own E m0 r) {n : Nat} (hw : Cond.fieldLink (am_cn own) n "java/lang/String" "COMPACT_STRINGS" "Z" ∈ am_GW) (hd : decode cc pc = .ok (.getstatic n, 3)) (hk9 : am_G p l e R s mt args below meth c nL E Q m0 r (k) (pc + 3)) : am_G p l e R s mt args below meth c nL E Q m0 r (fun L S m => k L (.int 1 :: S) m) (pc) := by
  intro L S m H locs cells slots ls h hL hP
  obtain ⟨hx, hb, hml, hown, hts, hlk, hst, hK, hN, hrm, hfr, hlo⟩ := X
  exact va_gets hx hb hK.2.2.2.2.2.1 hP.2.1 hown (hts _ hw) (fun _ h => h) hd (hk9 _ _ _ _ _ _ _ _ h hL hP)
theorem so_getsE (X : am_Cx p l R s mt args meth c cc nL own E m0 r) {n : Nat} (hw : Cond.fieldLink (am_cn own) n "java/util/ArrayList" "DEFAULTCAPACITY_EMPTY_ELEMENTDATA" "[Ljava/lang/Object;" ∈ am_GW) (hd : decode cc pc = .ok (.getstatic n, 3)) (hk9 : am_G p l e R s mt args below meth c nL E Q m0 r (k) (pc + 3)) : am_G p l e R s mt args below meth c nL E Q m0 r (fun L S m => k L (.ref (gr_ m (am_sv E) 40) :: S) m) (pc) := by
  intro L S m H locs cells slots ls h hL hP
  obtain ⟨hx, hb, hml, hown, hts, hlk, hst, hK, hN, hrm, hfr, hlo⟩ := X
  replace h : k L (.ref (gr_ m (am_sv E) 40) :: S) m = some r := h
  rw [hP.1.2.2.2.2.2.2.1] at h
  exact va_gets hx hb hK.2.2.2.2.2.2.2.1 hP.2.1 hown (hts _ hw) (fun _ h => h) hd (hk9 _ _ _ _ _ _ _ _ h hL hP)
theorem so_getsO (X : am_Cx p l R s mt args meth c cc nL own E m0 r) {n : Nat} (hw : Cond.fieldLink (am_cn own) n "java/lang/Integer" "DigitOnes" "[B" ∈ am_GW) (hd : decode cc pc = .ok (.getstatic n, 3)) (hk9 : am_G p l e R s mt args below meth c nL E Q m0 r (k) (pc + 3)) : am_G p l e R s mt args below meth c nL E Q m0 r (fun L S m => k L (.ref (gr_ m (am_sv E) 41) :: S) m) (pc) := by
  intro L S m H locs cells slots ls h hL hP
  obtain ⟨hx, hb, hml, hown, hts, hlk, hst, hK, hN, hrm, hfr, hlo⟩ := X
  replace h : k L (.ref (gr_ m (am_sv E) 41) :: S) m = some r := h
  rw [hP.1.2.2.2.2.2.2.2.1] at h
  exact va_gets hx hb hK.2.2.2.2.2.2.2.2.1 hP.2.1 hown (hts _ hw) (fun _ h => h) hd (hk9 _ _ _ _ _ _ _ _ h hL hP)
theorem so_getsT (X : am_Cx p l R s mt args meth c cc nL own E m0 r) {n : Nat} (hw : Cond.fieldLink (am_cn own) n "java/lang/Integer" "DigitTens" "[B" ∈ am_GW) (hd : decode cc pc = .ok (.getstatic n, 3)) (hk9 : am_G p l e R s mt args below meth c nL E Q m0 r (k) (pc + 3)) : am_G p l e R s mt args below meth c nL E Q m0 r (fun L S m => k L (.ref (gr_ m (am_sv E) 42) :: S) m) (pc) := by
  intro L S m H locs cells slots ls h hL hP
  obtain ⟨hx, hb, hml, hown, hts, hlk, hst, hK, hN, hrm, hfr, hlo⟩ := X
  replace h : k L (.ref (gr_ m (am_sv E) 42) :: S) m = some r := h
  rw [hP.1.2.2.2.2.2.2.2.2.1] at h
  exact va_gets hx hb hK.2.2.2.2.2.2.2.2.2.1 hP.2.1 hown (hts _ hw) (fun _ h => h) hd (hk9 _ _ _ _ _ _ _ _ h hL hP)
theorem so_gsv (X : am_Cx p l R s mt args meth c cc nL own E m0 r) {n : Nat} (hw : Cond.fieldLink (am_cn own) n "java/lang/String" "value" "[B" ∈ am_GW) (hd : decode cc pc = .ok (.getfield n, 3)) (hk9 : am_G p l e R s mt args below meth c nL E Q m0 r (k) (pc + 3)) : am_G p l e R s mt args below meth c nL E Q m0 r (fun L S m => q_r S fun a S => gq_ ((gk_ m a = (1, 14) ∧ ¬ gr_ m a 0 = 0) ∨ (gk_ m a).1 = 8) (k L (.ref (gr_ m a 0) :: S) m)) (pc) := by
  intro L S m H locs cells slots ls h hL hP
  obtain ⟨hx, hb, hml, hown, hts, hlk, hst, hK, hN, hrm, hfr, hlo⟩ := X
  obtain ⟨v0, S2, rfl, h9⟩ := q_r_I h
  obtain ⟨⟨hg, hz⟩ | hg, h8⟩ := gq_I h9
  · refine so_getR (k := k) ⟨hx, hb, hml, hown, hts, hlk, hst, hK, hN, hrm, hfr, hlo⟩ (ci := 14) (j := 0) (by decide) (by decide) hw ⟨by decide, by decide⟩ hd hk9 L _ m H locs cells slots ls ?_ hL hP
    exact gq_pos (show gk_ m v0 = (1, 14) ∧ ¬ gr_ m v0 0 = 0 from ⟨hg, hz⟩) |>.trans h8
  · obtain ⟨i, hi, e1, e2, e3⟩ := (hP.1.1 v0).2.2.2.2.2.2.1 hg
    obtain ⟨-, -, hv⟩ := hK.2.2.2.2.1.2.1 i hi
    rw [e2] at h8
    rw [e1]
    exact vk_getf hx hb hv hP.2.1 hown (hts _ hw) (fun _ h => h) hd (hk9 _ _ _ _ _ _ _ _ h8 hL hP)
theorem so_gsc (X : am_Cx p l R s mt args meth c cc nL own E m0 r) {n : Nat} (hw : Cond.fieldLink (am_cn own) n "java/lang/String" "coder" "B" ∈ am_GW) (hd : decode cc pc = .ok (.getfield n, 3)) (hk9 : am_G p l e R s mt args below meth c nL E Q m0 r (k) (pc + 3)) : am_G p l e R s mt args below meth c nL E Q m0 r (fun L S m => q_r S fun a S => gq_ (gk_ m a = (1, 14) ∨ (gk_ m a).1 = 8) (k L (.int (gi_ m a 1) :: S) m)) (pc) := by
  intro L S m H locs cells slots ls h hL hP
  obtain ⟨hx, hb, hml, hown, hts, hlk, hst, hK, hN, hrm, hfr, hlo⟩ := X
  obtain ⟨v0, S2, rfl, h9⟩ := q_r_I h
  obtain ⟨hg | hg, h8⟩ := gq_I h9
  · refine so_getI (k := k) ⟨hx, hb, hml, hown, hts, hlk, hst, hK, hN, hrm, hfr, hlo⟩ (ci := 14) (j := 1) (by decide) (by decide) hw (by decide) hd hk9 L _ m H locs cells slots ls ?_ hL hP
    exact gq_pos hg |>.trans h8
  · obtain ⟨i, hi, e1, e2, e3⟩ := (hP.1.1 v0).2.2.2.2.2.2.1 hg
    obtain ⟨-, hv, -⟩ := hK.2.2.2.2.1.2.1 i hi
    rw [e3] at h8
    rw [e1]
    exact vk_getf hx hb hv hP.2.1 hown (hts _ hw) (fun _ h => h) hd (hk9 _ _ _ _ _ _ _ _ h8 hL hP)
theorem so_getN (X : am_Cx p l R s mt args meth c cc nL own E m0 r) {n ci j : Nat} (hci : ci < 17) (hj : j < (am_vc ci).2.2) (hw : Cond.fieldLinkNest (am_cn own) n (am_rc own ci j) ((am_vc ci).2.1 j).2.1 ((am_vc ci).2.1 j).2.2.1 "java/util/ArrayList" ∈ am_GW) (hty : ((am_vc ci).2.1 j).2.2.1 = "I") (hd : decode cc pc = .ok (.getfield n, 3)) (hk9 : am_G p l e R s mt args below meth c nL E Q m0 r (k) (pc + 3)) : am_G p l e R s mt args below meth c nL E Q m0 r (fun L S m => q_r S fun a S => gq_ (gk_ m a = (1, ci)) (k L (.int (gi_ m a j) :: S) m)) (pc) := by
  intro L S m H locs cells slots ls h hL hP
  obtain ⟨hx, hb, hml, hown, hts, hlk, hst, hK, hN, hrm, hfr, hlo⟩ := X
  obtain ⟨v0, S2, rfl, h9⟩ := q_r_I h
  obtain ⟨hg1, h9⟩ := gq_I h9
  obtain ⟨-, -, cell, q1, q2, q3, q4⟩ := (hP.1.1 v0).1 (by rw [hg1])
  rw [hg1] at q2 q4
  obtain ⟨hS, hfc, kC, hkC, hkind⟩ := hK.1.1 ci _ (am_vc_get ci hci)
  obtain ⟨cf, kf, fi, f, hi, hsl⟩ := hS j hj
  have hi2 := am_same hts own ci j _ hi
  refine va_Wgetf hx hb hown (hts _ hw) hi2 (u_facts hfc hkC (u_lays hts (am_ul hci) hj) hi).1 q1 (by rw [q3]; exact fun h => by cases h) (v := .int (gi_ m v0 j)) ?_ rfl rfl hd (hk9 _ _ _ _ _ _ _ _ h9 hL hP)
  rw [hsl, q4 j hj]
  show some (am_fv _ m v0 j) = _
  unfold am_fv
  rw [if_pos (Or.inl hty)]
end S4b
