/-- a word of the tables, by its place -/
theorem am_lw {p : Nat × Nat} {w : Cond} (h : am_pw p = some w) (hp : ¬ p.1 = 99) : w ∈ lw_tbl := by
  have h1 := List.mem_of_getElem? h
  unfold am_ch at h1
  unfold lw_tbl tables_1 lw_privs k2_sels
  simp only [k2_sels] at h1
  simp only [List.map_append, List.mem_append]
  split at h1 <;> first | (next e => exact absurd e hp) | simp only [h1, true_or, or_true]
theorem am_in2 {p : Nat × Nat} {w : Cond} {s : State} {a : Array Value} (hts : ∀ w ∈ am_xs ++ lw_tbl, w.before a s = true) (h : am_pw p = some w) : w.before a s = true := hts w (am_chin _ _ (List.mem_of_getElem? h))
theorem am_arr {ty : FieldType} {s : State} {a : Array Value} (h : (Cond.arrayClass ty).before a s = true) : ∃ cA : ClassId, ArrOfT s cA ty ∧ s.vm.findClass ("[" ++ ty.toString) = some cA := by
  obtain ⟨cA, kA, comp, h1, h2, h3⟩ := Cond.arrayClass_spec (first := s) (o := none) (idx := []) h
  exact ⟨cA, fun n z => ⟨fun k h => (by cases h), kA, h2, comp, h3⟩, h1⟩
theorem am_kbl : ∀ i, i < 30 → (kb_ i).length < 2 ^ 31 := by decide +kernel
theorem am_kbz : (kb_ 28).length = 100 ∧ (kb_ (29)).length = 100 := by decide +kernel
def am_srp : List (Nat × Nat) := [(0, 51), (7, 24), (7, 27), (7, 29), (7, 30), (7, 31), (3, 79), (4, 151), (4, 152), (4, 50), (5, 7), (5, 16), (5, 9), (5, 3), (5, 8), (5, 10), (5, 89), (5, 90), (5, 95), (5, 96), (3, 189), (4, 121), (5, 105), (5, 106), (5, 107), (5, 112), (5, 113), (5, 114)]
theorem am_sr_ok : (List.range 28).map (fun i => am_pw (am_srp.getD i (0, 0))) = (List.range 28).map (fun i => some (Cond.stringRef (am_cn (krf_.getD i (0, 0, "")).1) (krf_.getD i (0, 0, "")).2.1 (krf_.getD i (0, 0, "")).2.2)) := by rfl
theorem s_TT {ty ty' : FieldType} {t N N' : Nat} {f f' : Nat → Value} {A : Nat → Prop} {U : State} {H : Heap} (h : va_T ty t N f A U H) (h' : va_T ty' t N' f' A U H) : ty = ty' ∧ (N < 2 ^ 31 → N' < 2 ^ 31 → N = N') ∧ ∀ j, j < N → j < N' → f j = f' j := by
  obtain ⟨cell, h1, ⟨-, k, hk, cm, hkk⟩, h3, h4, h5, h6, h7⟩ := h
  obtain ⟨cell', g1, ⟨-, k', hk', cm', hkk'⟩, g3, g4, g5, g6, g7⟩ := h'
  cases h1.symm.trans g1
  cases hk.symm.trans hk'
  cases hkk.symm.trans hkk'
  refine ⟨rfl, fun a1 a2 => ?_, fun j a1 a2 => Option.some.inj ((h6 j a1).symm.trans (g6 j a2))⟩
  have e := congrArg Int32.toInt (h5.symm.trans g5)
  rw [Int32.toInt_ofNat_of_lt a1, Int32.toInt_ofNat_of_lt a2] at e
  omega
theorem s_TO {ty : FieldType} {t N : Nat} {f : Nat → Value} {A : Nat → Prop} {U : State} {H : Heap} {C : String} {c : ClassId} (h : va_T ty t N f A U H) (h' : va_O C t A U H) (hc : ClassAt U C c) : False := by
  obtain ⟨cell, h1, ⟨-, k, hk, cm, hkk⟩, -⟩ := h
  obtain ⟨cell', g1, g2, g3, -⟩ := h'
  obtain ⟨c1, k2, c2, c3⟩ := hc
  cases h1.symm.trans g1
  cases g3.symm.trans c1
  cases hk.symm.trans c2
  rw [hkk] at c3
  cases c3
theorem s_OF {o n d : String} {t : Nat} {v w : Value} {A : Nat → Prop} {U : State} {H : Heap} (h : va_OF o n d v t A U H) (h' : va_OF o n d w t A U H) : v = w := by
  obtain ⟨cf, k, i, f, cell, a1, a2, a3, a4, a5, a6⟩ := h
  obtain ⟨cf', k', i', f', cell', b1, b2, b3, b4, b5, b6⟩ := h'
  cases a1.symm.trans b1
  cases a3.symm.trans b3
  exact Option.some.inj (a5.symm.trans b5)
theorem s_TX {ty : FieldType} {t N L : Nat} {f : Nat → Value} {xs : Nat → Int32} {A : Nat → Prop} {U : State} {H : Heap} (h : va_T ty t N f A U H) (h' : va_X t L xs U H) : ty = .int := by
  obtain ⟨cell, h1, ⟨-, k, hk, cm, hkk⟩, -⟩ := h
  obtain ⟨scr, g1, ⟨-, k', hk', cm', hkk'⟩, -⟩ := h'
  cases h1.symm.trans g1
  cases hk.symm.trans hk'
  cases hkk.symm.trans hkk'
  rfl
theorem s_OX {t L : Nat} {xs : Nat → Int32} {A : Nat → Prop} {U : State} {H : Heap} {C : String} {c : ClassId} (h' : va_O C t A U H) (h : va_X t L xs U H) (hc : ClassAt U C c) : False := by
  obtain ⟨cell, h1, ⟨-, k, hk, cm, hkk⟩, -⟩ := h
  obtain ⟨cell', g1, g2, g3, -⟩ := h'
  obtain ⟨c1, k2, c2, c3⟩ := hc
  cases h1.symm.trans g1
  cases g3.symm.trans c1
  cases hk.symm.trans c2
  rw [hkk] at c3
  cases c3
section M0
variable (N0 b L : Nat) (xs : Nat → Int32) (adK adV : Nat → Nat) (adE mi sv : Nat)
noncomputable def am_m0 : am_M :=
  ((fun a => if a = b then (7, L) else @dite _ (∃ i, i < 30 ∧ a = adV i) (Classical.propDecidable _) (fun h => (9, (kb_ (Classical.choose h)).length)) (fun _ => @ite _ (∃ i, i < 28 ∧ a = adK i) (Classical.propDecidable _) (8, 0) (if a = adE then (13, 0) else (0, 0)))),
   (fun a j => if a = b then xs j else @dite _ (∃ i, i < 30 ∧ a = adV i) (Classical.propDecidable _) (fun h => (kb_ (Classical.choose h)).getD j 0) (fun _ => 0)),
   fun _ _ => 0,
   (fun a j => if a = sv then (if j < 28 then adK j else if j = 40 then adE else if j = 41 then adV 28 else if j = 42 then adV (29) else if j = 43 then mi else 0) else @dite _ (∃ i, i < 28 ∧ a = adK i) (Classical.propDecidable _) (fun h => if j = 0 then adV (Classical.choose h) else 0) (fun _ => 0)),
   fun _ _ => 0, (N0, 0, 0, true))
noncomputable abbrev m0_ : am_M := am_m0 N0 b L xs adK adV adE mi sv
theorem m0_kb : gk_ (m0_ N0 b L xs adK adV adE mi sv) b = (7, L) := if_pos rfl
theorem m0_ib (j : Nat) : gi_ (m0_ N0 b L xs adK adV adE mi sv) b j = xs j := if_pos rfl
theorem m0_kV {a : Nat} (h0 : ¬ a = b) (h : ∃ i, i < 30 ∧ a = adV i) : gk_ (m0_ N0 b L xs adK adV adE mi sv) a = (9, (kb_ (Classical.choose h)).length) ∧ ∀ j, gi_ (m0_ N0 b L xs adK adV adE mi sv) a j = (kb_ (Classical.choose h)).getD j 0 := ⟨(if_neg h0).trans (dif_pos h), fun j => (if_neg h0).trans (dif_pos h)⟩
theorem m0_kK {a : Nat} (h0 : ¬ a = b) (h1 : ¬ ∃ i, i < 30 ∧ a = adV i) (h : ∃ i, i < 28 ∧ a = adK i) : gk_ (m0_ N0 b L xs adK adV adE mi sv) a = (8, 0) ∧ ∀ j, gi_ (m0_ N0 b L xs adK adV adE mi sv) a j = 0 := ⟨(if_neg h0).trans ((dif_neg h1).trans (if_pos h)), fun j => (if_neg h0).trans (dif_neg h1)⟩
theorem m0_rK {a : Nat} (h0 : ¬ a = sv) (h : ∃ i, i < 28 ∧ a = adK i) : gr_ (m0_ N0 b L xs adK adV adE mi sv) a 0 = adV (Classical.choose h) := (if_neg h0).trans ((dif_pos h).trans (if_pos rfl))
theorem m0_kE {a : Nat} (h0 : ¬ a = b) (h1 : ¬ ∃ i, i < 30 ∧ a = adV i) (h2 : ¬ ∃ i, i < 28 ∧ a = adK i) (h : a = adE) : gk_ (m0_ N0 b L xs adK adV adE mi sv) a = (13, 0) := (if_neg h0).trans ((dif_neg h1).trans ((if_neg h2).trans (if_pos h)))
theorem m0_k0 {a : Nat} (h0 : ¬ a = b) (h1 : ¬ ∃ i, i < 30 ∧ a = adV i) (h2 : ¬ ∃ i, i < 28 ∧ a = adK i) (h : ¬ a = adE) : gk_ (m0_ N0 b L xs adK adV adE mi sv) a = (0, 0) := (if_neg h0).trans ((dif_neg h1).trans ((if_neg h2).trans (if_neg h)))
theorem m0_rs (j : Nat) : gr_ (m0_ N0 b L xs adK adV adE mi sv) sv j = (if j < 28 then adK j else if j = 40 then adE else if j = 41 then adV 28 else if j = 42 then adV (29) else if j = 43 then mi else 0) := if_pos rfl
end M0
/-! THE CLAIM OUT OF ONE WALK OF THE LAW'S BODY. Your part is whole_start (and what it stands on); all else here is the same for every law, but numbers. -/
def R_law : String := "RoyaltyOfficeLaw"
def lw_P (b : Addr) (xs : List Int32) (args : Array Value) (s : State) : Prop := args = #[.ref b] ∧ s.IntsAt b xs ∧ xs.length ≤ 260 ∧ (Jvm.Cond.and given_1 narrow_1).before args s = true
def lw_Q (_ : Array Value) (s : State) (o : Outcome) (t : State) : Prop := o = .returned (some (.int 1)) ∧ Framed s o t [] 680830 7059207
def lw_Z (below : List Frame) (a : Array Value) (s : State) : State → Prop := fun t => ∃ o, t.status = .running ∧ Ended t below o ∧ lw_Q a s o t
/-- the law's own end, with 1 on the stack, nothing written that was there before, its room as the claim has it -/
theorem lw_ret {p : Program} {l : Launch} {e : Env} {s : State} {m : MethodId} {below : List Frame} {meth : Method} {c : Code} {b : Nat} (hx : p.tables.exec = Jvm.exec) (hb : c.code = code) (hr : meth.sig.returnType = ret) (hlocks : meth.locks = false) {pc : Nat} {H : Heap} {ls : Array Slot} (hdg : decode code pc = .ok (.ireturn, 1)) : W p l e room_1 s m #[Value.ref b] below meth c H [] 680830 7059207 (lw_Z below #[Value.ref b] s) (F0 m pc ls [.int 1]) := by
  intro T hT X
  obtain ⟨fs, hret, hrun, hended, hW, hframe⟩ := X.leave (v := some (.int 1)) (hlocks := hlocks) (fun h => by rw [hr] at h; cases h)
  have hmeth' : T.vm.method? m = some meth := X.method'
  refine ⟨T.setFrames fs, ?_, .returned (some (.int 1)), hrun, hended, rfl, ⟨_, rfl⟩, hW, hframe⟩
  jvm_step X.here [X.here.top, hx, hb, hdg, hmeth', hr, ret, narrow_b1]
  (try refine ⟨rfl, ?_⟩); (try refine ⟨rfl, ?_⟩)
  first | (intro acts; rw [hret _ acts rfl rfl rfl]) | rw [hret _ _ rfl rfl rfl]
  exact Steps.refl _
/-- what holds at the law's entry: the machine, the code, the tables' words (any of lw_tbl by 'hts w (by decide +kernel)'), the script of L ints xs at the cell b, what the Statement gives of the start (any of its parts by flat_of_before) -/
def lw_At (p : Program) (s : State) (m : MethodId) (meth : Method) (c : Code) (b L : Nat) (xs : Nat → Int32) : Prop :=
  p.tables.exec = Jvm.exec ∧ c.code = code ∧ meth.sig.returnType = ret ∧ c.maxLocals = 4 ∧ s.vm.findClass R_law = some m.cls ∧ (∀ w ∈ lw_tbl, w.before #[Value.ref b] s = true) ∧ va_X b L xs s s.heap ∧ b < s.heap.size ∧ meth.locks = false ∧ (Jvm.Cond.and given_1 narrow_1).before #[Value.ref b] s = true
set_option maxHeartbeats 4000000 in
set_option maxRecDepth 100000 in
theorem whole_start {p : Program} {e : Env} {s : State} {m : MethodId} {below : List Frame} {meth : Method} {c : Code} (l : Launch) (hflags : l.flags = flags0) {b L : Nat} {xs : Nat → Int32} (hL : L ≤ 260) (C0 : lw_At p s m meth c b L xs) : W p l e room_1 s m #[Value.ref b] below meth c s.heap [] 0 0 (lw_Z below #[Value.ref b] s) (entryFrame m ([Value.ref b] : List Value).toArray 4) := by
  obtain ⟨hx, hb, hr, hml, hown, hts, hX, hbl, hlocks, hgv⟩ := C0
  have hfl := flat_of_before _ hgv
  have hA0 : ∀ a : Nat, a < s.heap.size → ¬ (fun q : Nat => s.heap.size ≤ q) a := fun a h => Nat.not_le.mpr h
  have htsA : ∀ w ∈ am_xs ++ lw_tbl, w.before #[Value.ref b] s = true := by
    intro w hw
    rcases List.mem_append.mp hw with hw | hw
    · have hz : (Cond.selects RJ4 ⟨"java/lang/AbstractStringBuilder", "getValue", "()[B"⟩ ⟨"java/lang/AbstractStringBuilder", "getValue", "()[B"⟩).before #[Value.ref b] s = true := hts _ (am_lw (p := (4, 80)) rfl (by decide))
      simp only [am_xs, List.mem_cons, List.not_mem_nil, or_false] at hw
      rcases hw with rfl | rfl | rfl | rfl
      · exact am_selp hz rfl ⟨by decide, by decide⟩ (hts _ (am_lw (p := (3, 202)) rfl (by decide))) (hts _ (am_lw (p := (3, 203)) rfl (by decide)))
      · exact am_selp hz rfl ⟨by decide, by decide⟩ (hts _ (am_lw (p := (3, 206)) rfl (by decide))) (hts _ (am_lw (p := (3, 207)) rfl (by decide)))
      · exact am_selp hz rfl ⟨by decide, by decide⟩ (hts _ (am_lw (p := (4, 18)) rfl (by decide))) (hts _ (am_lw (p := (4, 19)) rfl (by decide)))
      · exact am_selp hz rfl ⟨by decide, by decide⟩ (hts _ (am_lw (p := (4, 14)) rfl (by decide))) (hts _ (am_lw (p := (4, 15)) rfl (by decide)))
    · exact hts w hw
  have htsG : ∀ w ∈ am_GW, w.before #[Value.ref b] s = true := fun w hw => htsA w (List.mem_filter.mp hw).1
  have hKn : ∀ ci : Nat, ∃ q : ClassId × (Nat → Nat), ci < 17 → u_Kn s (am_vc ci).1 (am_vc ci).2.1 (am_vc ci).2.2 q.1 q.2 := by
    intro ci
    by_cases h : ci < 17
    · obtain ⟨c0, i0, h0⟩ := u_known (n := (am_vc ci).2.2) htsG (am_ul h) (htsG _ (am_ci_in h).1)
      exact ⟨(c0, i0), fun _ => h0⟩
    · exact ⟨(0, fun _ => 0), fun z => absurd z h⟩
  obtain ⟨F, hF⟩ := Classical.axiomOfChoice hKn
  have hSc : ClassAt s "java/lang/String" (F 14).1 := (hF 14 (by decide)).2
  obtain ⟨cI, aI1, aI2⟩ := am_arr (am_in2 (p := (0, 136)) htsA rfl : (Cond.arrayClass .int).before #[Value.ref b] s = true)
  obtain ⟨cB, aB1, aB2⟩ := am_arr (am_in2 (p := (0, 134)) htsA rfl : (Cond.arrayClass .byte).before #[Value.ref b] s = true)
  obtain ⟨cJ, aJ1, aJ2⟩ := am_arr (am_in2 (p := (0, 135)) htsA rfl : (Cond.arrayClass .long).before #[Value.ref b] s = true)
  have haO : (Cond.arrayOver (.object "RoyaltyOffice$Office")).before #[Value.ref b] s = true := am_in2 (p := (1, 29)) htsA rfl
  have haA : (Cond.arrayOver (.object "java/lang/Object")).before #[Value.ref b] s = true := am_in2 (p := (4, 239)) htsA rfl
  have haI : (Cond.arrayOver (.array .int)).before #[Value.ref b] s = true := am_in2 (p := (4, 185)) htsA rfl
  have haJ : (Cond.arrayOver (.array .long)).before #[Value.ref b] s = true := am_in2 (p := (3, 78)) htsA rfl
  obtain ⟨comO, cO, kO, o1, o2, o3, o4, o5⟩ := Cond.arrayOver_spec (first := s) (o := none) (idx := []) haO
  obtain ⟨comA, cA, kA, a1, a2, a3, a4, a5⟩ := Cond.arrayOver_spec (first := s) (o := none) (idx := []) haA
  obtain ⟨comI, cII, kII, i1, i2, i3, i4, i5⟩ := arrayOverA_spec (first := s) (o := none) (idx := []) haI
  obtain ⟨comJ, cJJ, kJJ, j1, j2, j3, j4, j5⟩ := arrayOverA_spec (first := s) (o := none) (idx := []) haJ
  have hST : ∀ i : Nat, ∃ q : Nat × Nat, i < 28 → (va_O "java/lang/String" q.1 (fun q : Nat => s.heap.size ≤ q) s s.heap ∧ va_OF "java/lang/String" "coder" "B" (.int 0) q.1 (fun q : Nat => s.heap.size ≤ q) s s.heap ∧ va_OF "java/lang/String" "value" "[B" (.ref q.2) q.1 (fun q : Nat => s.heap.size ≤ q) s s.heap ∧ va_T .byte q.2 (kb_ i).length (fun j => .int ((kb_ i).getD j 0)) (fun q : Nat => s.heap.size ≤ q) s s.heap) ∧ (kt_ i).eval #[Value.ref b] s none [] s = some (.ref q.1) := by
    intro i
    by_cases h : i < 28
    · have t1 := am_ta i h
      have t2 := am_tb i h
      have t3 := am_tc i h
      have t4 := am_td9 i h
      obtain ⟨adK, adV, hS, hev⟩ := vk_Sof (args := #[Value.ref b]) (s := s) (N := 1) (tm := fun _ => kt_ i) (len := [(kb_ i).length]) (byt := [kb_ i]) (A := fun q : Nat => s.heap.size ≤ q)
        (fun k hk => by rw [show k = 0 by omega]; exact am_kbl i (Nat.lt_of_lt_of_le h (by decide))) (fun k _ => hfl _ t1) (fun k _ => hfl _ t2) (fun k _ => hfl _ t3)
        (fun k hk => by rw [show k = 0 by omega]; exact hfl _ t4) (fun k hk j hj => by rw [show k = 0 by omega] at hj ⊢; exact hfl _ (am_te i h j hj)) (fun k j hk hj hne => absurd (show k = j by omega) hne) hA0
      exact ⟨(adK 0, adV 0), fun _ => ⟨hS.1 0 (by decide), hev 0 (by decide)⟩⟩
    · exact ⟨(0, 0), fun z => absurd z h⟩
  obtain ⟨AD, hAD⟩ := Classical.axiomOfChoice hST
  obtain ⟨t1, ht1, hT1⟩ := va_Tof (args := #[Value.ref b]) (s := s) (tm := .static "java/lang/Integer" "DigitOnes" "[B") (ty := .byte) (N := (kb_ 28).length) (f := fun j => .int ((kb_ 28).getD j 0)) (A := fun q : Nat => s.heap.size ≤ q) (am_kbl _ (by decide)) (hfl _ (by decide +kernel)) (va_eqt (hfl _ (by decide +kernel))) (fun j hj => va_eqt (hfl _ (am_tg0 j (by rw [am_kbz.1] at hj; exact hj)))) hA0
  obtain ⟨t2, ht2, hT2⟩ := va_Tof (args := #[Value.ref b]) (s := s) (tm := .static "java/lang/Integer" "DigitTens" "[B") (ty := .byte) (N := (kb_ (29)).length) (f := fun j => .int ((kb_ (29)).getD j 0)) (A := fun q : Nat => s.heap.size ≤ q) (am_kbl _ (by decide)) (hfl _ (by decide +kernel)) (va_eqt (hfl _ (by decide +kernel))) (fun j hj => va_eqt (hfl _ (am_tg1 j (by rw [am_kbz.2] at hj; exact hj)))) hA0
  obtain ⟨adE, htE, hTE⟩ := va_Tof (args := #[Value.ref b]) (s := s) (tm := .static "java/util/ArrayList" "DEFAULTCAPACITY_EMPTY_ELEMENTDATA" "[Ljava/lang/Object;") (ty := .object "java/lang/Object") (N := 0) (f := fun _ => .null) (A := fun q : Nat => s.heap.size ≤ q) (by decide) (hfl _ (by decide +kernel)) (va_eqt (hfl _ (by decide +kernel))) (fun j hj => absurd hj (Nat.not_lt_zero j)) hA0
  obtain ⟨mi, hmi⟩ := va_Mi.of (args := #[Value.ref b]) (s := s) (C := "[Ljava/lang/Object;") (hfl _ (by decide +kernel))
  have hZc : va_Z "java/lang/String" "COMPACT_STRINGS" "Z" (.int 1) (fun q : Nat => s.heap.size ≤ q) s s.heap := va_Zof (args := #[Value.ref b]) (am_in2 (p := (0, 61)) htsA rfl) (am_in2 (p := (0, 7)) htsA rfl) (va_eqt (hfl _ (by decide +kernel))) hA0
  obtain ⟨sv, scell, sv1, sv2, sv3⟩ : ∃ (sv : Nat) (scell : Cell), s.heap[sv]? = some scell ∧ scell.vm.isStatics = true ∧ sv < s.heap.size := by
    obtain ⟨cf, kf, fi, f, a, cell, z1, z2, z3, z4, z5, z6, z7⟩ := hZc
    exact ⟨a, cell, z5, z6, (Array.getElem?_eq_some_iff.mp z5).1⟩
  -- what stands where is apart
  generalize hadV : (fun i => if i = 28 then t1 else if i = 29 then t2 else (AD i).2) = adV
  generalize hadK : (fun i => (AD i).1) = adK
  have hV : ∀ i, i < 30 → va_T .byte (adV i) (kb_ i).length (fun j => .int ((kb_ i).getD j 0)) (fun q : Nat => s.heap.size ≤ q) s s.heap := by
    intro i hi
    rw [← hadV]
    by_cases h1 : i = 28
    · show va_T .byte (if i = 28 then t1 else _) _ _ _ s s.heap
      rw [if_pos h1, h1]
      exact hT1
    · by_cases h2 : i = 29
      · show va_T .byte (if i = 28 then t1 else if i = 29 then t2 else _) _ _ _ s s.heap
        rw [if_neg h1, if_pos h2, h2]
        exact hT2
      · show va_T .byte (if i = 28 then t1 else if i = 29 then t2 else _) _ _ _ s s.heap
        rw [if_neg h1, if_neg h2]
        exact (hAD i (by omega)).1.2.2.2
  have hVi : ∀ i, i < 28 → adV i = (AD i).2 := by
    intro i hi
    rw [← hadV]
    show (if i = 28 then t1 else if i = 29 then t2 else (AD i).2) = _
    rw [if_neg (by omega), if_neg (by omega)]
  have hKo : ∀ i, i < 28 → va_O "java/lang/String" (adK i) (fun q : Nat => s.heap.size ≤ q) s s.heap ∧ va_OF "java/lang/String" "coder" "B" (.int 0) (adK i) (fun q : Nat => s.heap.size ≤ q) s s.heap ∧ va_OF "java/lang/String" "value" "[B" (.ref (adV i)) (adK i) (fun q : Nat => s.heap.size ≤ q) s s.heap := by
    intro i hi
    rw [hVi i hi, ← hadK]
    exact ⟨(hAD i hi).1.1, (hAD i hi).1.2.1, (hAD i hi).1.2.2.1⟩
  have hVN : ∀ i, i < 30 → adV i < s.heap.size := fun i hi => Nat.not_le.mp (hV i hi).out
  have hKN : ∀ i, i < 28 → adK i < s.heap.size := fun i hi => by obtain ⟨⟨_, _, _, _, z⟩, _⟩ := hKo i hi; exact Nat.not_le.mp z
  have hEN : adE < s.heap.size := Nat.not_le.mp hTE.out
  have nVb : ∀ i, i < 30 → ¬ adV i = b := fun i hi e => by have h := hV i hi; rw [e] at h; exact absurd (s_TX h hX) (by decide)
  have nKb : ∀ i, i < 28 → ¬ adK i = b := fun i hi e => by have h := (hKo i hi).1; rw [e] at h; exact s_OX h hX hSc
  have nEb : ¬ adE = b := fun e => by have h := hTE; rw [e] at h; exact absurd (s_TX h hX) (by decide)
  have nKV : ∀ i, i < 28 → ¬ ∃ j, j < 30 ∧ adK i = adV j := fun i hi ⟨j, hj, e⟩ => by have h := (hKo i hi).1; rw [e] at h; exact s_TO (hV j hj) h hSc
  have nEV : ¬ ∃ j, j < 30 ∧ adE = adV j := fun ⟨j, hj, e⟩ => by have h := hTE; rw [e] at h; exact absurd (s_TT h (hV j hj)).1 (by decide)
  have nEK : ¬ ∃ j, j < 28 ∧ adE = adK j := fun ⟨j, hj, e⟩ => by have h := hTE; rw [e] at h; exact s_TO h (hKo j hj).1 hSc
  have nsb : ¬ sv = b := fun e => by obtain ⟨scr, g1, ⟨g2, -⟩, -⟩ := hX; rw [← e] at g1; cases sv1.symm.trans g1; cases hv : scell.vm <;> rw [hv] at sv2 <;> first | (cases sv2; done) | exact g2 _ hv
  have nsV : ¬ ∃ j, j < 30 ∧ sv = adV j := fun ⟨j, hj, e⟩ => by obtain ⟨scr, g1, ⟨g2, -⟩, -⟩ := hV j hj; rw [← e] at g1; cases sv1.symm.trans g1; cases hv : scell.vm <;> rw [hv] at sv2 <;> first | (cases sv2; done) | exact g2 _ hv
  have nsK : ¬ ∃ j, j < 28 ∧ sv = adK j := fun ⟨j, hj, e⟩ => by obtain ⟨⟨cell, g1, g2, -⟩, -⟩ := hKo j hj; rw [← e] at g1; cases sv1.symm.trans g1; rw [g2] at sv2; cases sv2
  have nsE : ¬ sv = adE := fun e => by obtain ⟨scr, g1, ⟨g2, -⟩, -⟩ := hTE; rw [← e] at g1; cases sv1.symm.trans g1; cases hv : scell.vm <;> rw [hv] at sv2 <;> first | (cases sv2; done) | exact g2 _ hv
  have hbyt : ∀ i (hi : i < 30) (h : ∃ j, j < 30 ∧ adV i = adV j), (kb_ (Classical.choose h)).length = (kb_ i).length ∧ ∀ j, j < (kb_ i).length → (kb_ (Classical.choose h)).getD j 0 = (kb_ i).getD j 0 := by
    intro i hi h
    obtain ⟨c1, c2⟩ := Classical.choose_spec h
    have h1 := hV i hi
    rw [c2] at h1
    obtain ⟨-, e1, e2⟩ := s_TT (hV _ c1) h1
    have e3 := e1 (am_kbl _ c1) (am_kbl _ hi)
    exact ⟨e3, fun j hj => Value.int.inj (e2 j (by rw [e3]; exact hj) hj)⟩
  generalize hm0 : m0_ s.heap.size b L xs adK adV adE mi sv = m0
  have gK : ∀ i, i < 28 → gk_ m0 (adK i) = (8, 0) ∧ gi_ m0 (adK i) 1 = 0 ∧ gr_ m0 (adK i) 0 = adV i := by
    intro i hi
    rw [← hm0]
    have he : ∃ j, j < 28 ∧ adK i = adK j := ⟨i, hi, rfl⟩
    obtain ⟨k1, k2⟩ := m0_kK s.heap.size b L xs adK adV adE mi sv (nKb i hi) (nKV i hi) he
    refine ⟨k1, k2 1, (m0_rK s.heap.size b L xs adK adV adE mi sv (fun e => nsK ⟨i, hi, e.symm⟩) he).trans ?_⟩
    obtain ⟨c1, c2⟩ := Classical.choose_spec he
    have h1 := (hKo i hi).2.2
    rw [c2] at h1
    exact Value.ref.inj (s_OF (hKo _ c1).2.2 h1)
  have gV : ∀ i, i < 30 → gk_ m0 (adV i) = (9, (kb_ i).length) ∧ ∀ j, j < (kb_ i).length → gi_ m0 (adV i) j = (kb_ i).getD j 0 := by
    intro i hi
    rw [← hm0]
    have he : ∃ j, j < 30 ∧ adV i = adV j := ⟨i, hi, rfl⟩
    obtain ⟨k1, k2⟩ := m0_kV s.heap.size b L xs adK adV adE mi sv (nVb i hi) he
    obtain ⟨e1, e2⟩ := hbyt i hi he
    exact ⟨k1.trans (by rw [e1]), fun j hj => (k2 j).trans (e2 j hj)⟩
  have gE : gk_ m0 adE = (13, 0) := by rw [← hm0]; exact m0_kE s.heap.size b L xs adK adV adE mi sv nEb nEV nEK rfl
  have gB : gk_ m0 b = (7, L) ∧ ∀ j, gi_ m0 b j = xs j := by rw [← hm0]; exact ⟨m0_kb s.heap.size b L xs adK adV adE mi sv, m0_ib s.heap.size b L xs adK adV adE mi sv⟩
  have gS : gk_ m0 sv = (0, 0) := by rw [← hm0]; exact m0_k0 s.heap.size b L xs adK adV adE mi sv nsb nsV nsK nsE
  have gR : ∀ j, gr_ m0 sv j = (if j < 28 then adK j else if j = 40 then adE else if j = 41 then adV 28 else if j = 42 then adV (29) else if j = 43 then mi else 0) := by rw [← hm0]; exact m0_rs s.heap.size b L xs adK adV adE mi sv
  have gN : ∀ a, ¬ a = b → (¬ ∃ i, i < 30 ∧ a = adV i) → (¬ ∃ i, i < 28 ∧ a = adK i) → ¬ a = adE → gk_ m0 a = (0, 0) := by rw [← hm0]; exact fun a h1 h2 h3 h4 => m0_k0 s.heap.size b L xs adK adV adE mi sv h1 h2 h3 h4
  have gT : gt_ m0 = s.heap.size ∧ gc_ m0 = 0 ∧ gs_ m0 = 0 ∧ ge_ m0 = true := by rw [← hm0]; exact ⟨rfl, rfl, rfl, rfl⟩
  have gRi : ∀ i, i < 28 → gr_ m0 sv i = adK i := fun i hi => (gR i).trans (if_pos hi)
  have gR41 : ∀ i, i < 2 → gr_ m0 sv (41 + i) = adV (28 + i) := by
    intro i hi
    rcases (show i = 0 ∨ i = 1 by omega) with rfl | rfl
    · exact gR 41
    · exact gR 42
  have hS0 : am_S0 s.heap.size b L xs sv m0 := by
    refine ⟨gT.1, gT.2.1, gT.2.2.1, gT.2.2.2, sv3, hbl, gS, gB.1, fun j _ => gB.2 j, fun i hi => ?_, fun i hi => ?_, ?_, ?_, fun a ha => gN a (by omega) (fun ⟨i, hi, e⟩ => by have := hVN i hi; omega) (fun ⟨i, hi, e⟩ => by have := hKN i hi; omega) (by omega)⟩
    · rw [gRi i hi, (gK i hi).2.2]
      have h9 : i < 30 := Nat.lt_of_lt_of_le hi (by decide)
      exact ⟨hKN i hi, (gK i hi).1, (gK i hi).2.1, hVN i h9, (gV i h9).1, (gV i h9).2⟩
    · rw [gR41 i hi]
      have h9 : 28 + i < 30 := by omega
      have hl : (kb_ (28 + i)).length = 100 := by
        rcases (show i = 0 ∨ i = 1 by omega) with rfl | rfl
        · exact am_kbz.1
        · exact am_kbz.2
      refine ⟨hVN _ h9, ?_, fun j hj => (gV _ h9).2 j (by rw [hl]; exact hj)⟩
      rw [(gV _ h9).1, hl]
    · rw [show gr_ m0 sv 40 = adE from gR 40]
      exact hEN
    · rw [show gr_ m0 sv 40 = adE from gR 40]
      exact gE
  obtain ⟨m', hrun, hge, hc1, hc2⟩ := am_law_run s.heap.size b L xs sv m0 hL hS0
  rw [gRi 0 (by decide)] at hrun
  generalize hE : ((((((fun ci => (F ci).1), (fun ci => (F ci).2)) : va_G), (fun t => if t = 2 then cI else if t = 3 then cB else if t = 4 then cJ else if t = 6 then cO else if t = 10 then cA else if t = 11 then cII else cJJ)), s.heap.size, (b, L, xs), (adK, adV, adE, mi, sv)) : am_E) = E
  have e1 : E.2.2.2.1 = adK := by rw [← hE]
  have e2 : E.2.2.2.2.1 = adV := by rw [← hE]
  have e3 : E.2.1 = s.heap.size := by rw [← hE]
  have e4 : E.2.2.1 = (b, L, xs) := by rw [← hE]
  have e5 : E.2.2.2.2.2.1 = adE := by rw [← hE]
  have e6 : E.2.2.2.2.2.2.1 = mi := by rw [← hE]
  have e7 : am_sv E = sv := by rw [← hE]
  have eA : am_A E = fun q : Nat => s.heap.size ≤ q := by unfold am_A; rw [e3]
  have hKk : am_Kk E s s.heap := by
    unfold am_Kk am_Ks am_Kc
    rw [eA, e1, e2, e3, e4, e5, e6]
    refine ⟨⟨fun ci q hq => ?_, fun k q hk => ?_⟩, ⟨hX, hbl, hbl⟩, ⟨fun t ht => ?_, va_AO.of (A := #[Value.ref b]) haO, va_AO.of (A := #[Value.ref b]) haA, haI, haJ⟩, fun y hy => ?_, ⟨hV, hKo, fun i q hq => ?_⟩, hZc,
      va_Zqof (args := #[Value.ref b]) (am_in2 (p := (0, 77)) htsA rfl) (am_in2 (p := (0, 13)) htsA rfl) (hfl _ (by decide +kernel)) hA0, va_Zof (args := #[Value.ref b]) (am_in2 (p := (3, 61)) htsA rfl) (am_in2 (p := (0, 4)) htsA rfl) htE hA0, ?_, ?_, hTE, hmi⟩
    · have hci : ci < 17 := (List.getElem?_eq_some_iff.mp hq).1
      cases Option.some.inj ((am_vc_get ci hci).symm.trans hq)
      rw [← hE]
      exact hF ci hci
    · rw [← hE] at hk
      have hk5 : k < 7 := (List.getElem?_eq_some_iff.mp hk).1
      rcases (show k = 0 ∨ k = 1 ∨ k = 2 ∨ k = 3 ∨ k = 4 ∨ k = 5 ∨ k = 6 by omega) with rfl | rfl | rfl | rfl | rfl | rfl | rfl
      · cases hk; exact ⟨aI1, aI2⟩
      · cases hk; exact ⟨aB1, aB2⟩
      · cases hk; exact ⟨aJ1, aJ2⟩
      · cases hk; exact ⟨fun n z => ⟨fun k h => (by cases h), kO, o3, comO, o4⟩, kO, comO, o3, o4, o1, o5⟩
      · cases hk; exact ⟨fun n z => ⟨fun k h => (by cases h), kA, a3, comA, a4⟩, kA, comA, a3, a4, a1, a5⟩
      · cases hk; exact ⟨fun n z => ⟨fun k h => (by cases h), kII, i3, comI, i4⟩, i5⟩
      · cases hk; exact ⟨fun n z => ⟨fun k h => (by cases h), kJJ, j3, comJ, j4⟩, j5⟩
    · rw [← hE]
      refine am_rk_cases (P := fun t => am_RC s (if t = 2 then cI else if t = 3 then cB else if t = 4 then cJ else if t = 6 then cO else if t = 10 then cA else if t = 11 then cII else cJJ) t) ht ?_ ?_ ?_ ?_
      · exact ⟨kO, comO, o3, o4, o1, o5⟩
      · exact ⟨kA, comA, a3, a4, a1, a5⟩
      · exact ⟨kII, comI, i3, i4, i1, i5⟩
      · exact ⟨kJJ, comJ, j3, j4, j1, j5⟩
    · simp only [am_if, List.mem_cons, List.not_mem_nil, or_false] at hy
      rcases hy with rfl | rfl | rfl | rfl | rfl | rfl | rfl | rfl | rfl
      · exact va_Fw.of (A := #[Value.ref b]) (am_in2 (p := (4, 160)) htsA rfl) (am_in2 (p := (4, 159)) htsA rfl) (am_in2 (p := (4, 165)) htsA rfl) (am_in2 (p := (4, 163)) htsA rfl) (am_in2 (p := (4, 161)) htsA rfl)
      · exact va_Fw.of (A := #[Value.ref b]) (am_in2 (p := (6, 119)) htsA rfl) (am_in2 (p := (6, 118)) htsA rfl) (am_in2 (p := (6, 123)) htsA rfl) (am_in2 (p := (6, 121)) htsA rfl) (am_in2 (p := (4, 161)) htsA rfl)
      · exact va_Fw.of (A := #[Value.ref b]) (am_in2 (p := (5, 24)) htsA rfl) (am_in2 (p := (5, 23)) htsA rfl) (am_in2 (p := (5, 28)) htsA rfl) (am_in2 (p := (5, 26)) htsA rfl) (am_in2 (p := (4, 161)) htsA rfl)
      · exact va_Fw.of (A := #[Value.ref b]) (am_in2 (p := (4, 189)) htsA rfl) (am_in2 (p := (4, 188)) htsA rfl) (am_in2 (p := (4, 193)) htsA rfl) (am_in2 (p := (4, 191)) htsA rfl) (am_in2 (p := (4, 161)) htsA rfl)
      · exact va_Fw.of (A := #[Value.ref b]) (am_in2 (p := (6, 224)) htsA rfl) (am_in2 (p := (6, 223)) htsA rfl) (am_in2 (p := (6, 228)) htsA rfl) (am_in2 (p := (6, 226)) htsA rfl) (am_in2 (p := (4, 161)) htsA rfl)
      · exact va_Fw.of (A := #[Value.ref b]) (am_in2 (p := (6, 238)) htsA rfl) (am_in2 (p := (6, 237)) htsA rfl) (am_in2 (p := (7, 2)) htsA rfl) (am_in2 (p := (7, 0)) htsA rfl) (am_in2 (p := (4, 161)) htsA rfl)
      · exact va_Fw.of (A := #[Value.ref b]) (am_in2 (p := (5, 41)) htsA rfl) (am_in2 (p := (5, 40)) htsA rfl) (am_in2 (p := (5, 45)) htsA rfl) (am_in2 (p := (5, 43)) htsA rfl) (am_in2 (p := (4, 161)) htsA rfl)
      · exact va_Fw.of (A := #[Value.ref b]) (am_in2 (p := (5, 69)) htsA rfl) (am_in2 (p := (5, 68)) htsA rfl) (am_in2 (p := (5, 74)) htsA rfl) (am_in2 (p := (5, 72)) htsA rfl) (am_in2 (p := (5, 70)) htsA rfl)
      · exact va_Fw.of (A := #[Value.ref b]) (am_in2 (p := (5, 79)) htsA rfl) (am_in2 (p := (5, 78)) htsA rfl) (am_in2 (p := (5, 83)) htsA rfl) (am_in2 (p := (5, 81)) htsA rfl) (am_in2 (p := (5, 70)) htsA rfl)
    · have hi : i < 28 := (List.getElem?_eq_some_iff.mp hq).1
      have hq2 : krf_.getD i (0, 0, "") = q := by rw [List.getD_eq_getElem?_getD, hq]; rfl
      have hw := am_map am_sr_ok (List.mem_range.mpr hi)
      rw [hq2] at hw
      have hev := (hAD i hi).2
      unfold kt_ at hev
      rw [hq2] at hev
      rw [← hadK]
      exact vk_R.of (A := #[Value.ref b]) (am_in2 htsA hw) hev
    · rw [show adV 28 = t1 by rw [← hadV]; rfl]
      exact va_Zof (args := #[Value.ref b]) (am_in2 (p := (4, 136)) htsA rfl) (am_in2 (p := (0, 16)) htsA rfl) ht1 hA0
    · rw [show adV (29) = t2 by rw [← hadV]; rfl]
      exact va_Zof (args := #[Value.ref b]) (am_in2 (p := (4, 138)) htsA rfl) (am_in2 (p := (0, 16)) htsA rfl) ht2 hA0
  have hRp : am_Rp E m0 s.heap := by
    refine ⟨fun a => ?_, fun _ => gT.1.symm, by rw [e3]; exact Nat.le_refl _, by rw [e3, e7]; exact sv3, ?_⟩
    · unfold am_at
      rw [e4, e2, e1, e5]
      by_cases h1 : a = b
      · have hk : gk_ m0 a = (7, L) := by rw [h1]; exact gB.1
        rw [hk]
        exact ⟨(fun z => by cases z), (fun z => by cases z), (fun z => by cases z), (fun z => by cases z), (fun z => am_rkn z (fun q => by cases q) (fun q => by cases q) (fun q => by cases q) (fun q => by cases q)), fun _ => ⟨h1, rfl, fun j _ => by rw [h1]; exact gB.2 j⟩, (fun z => by cases z), (fun z => by cases z), (fun z => by cases z), Nat.le_of_ble_eq_true rfl, (fun q => by cases q)⟩
      · by_cases h2 : ∃ i, i < 30 ∧ a = adV i
        · obtain ⟨i, hi, rfl⟩ := h2
          rw [(gV i hi).1]
          exact ⟨(fun z => by cases z), (fun z => by cases z), (fun z => by cases z), (fun z => by cases z), (fun z => am_rkn z (fun q => by cases q) (fun q => by cases q) (fun q => by cases q) (fun q => by cases q)), (fun z => by cases z), (fun z => by cases z), fun _ => ⟨i, hi, rfl, rfl, (gV i hi).2⟩, (fun z => by cases z), Nat.le_of_ble_eq_true rfl, (fun q => by cases q)⟩
        · by_cases h3 : ∃ i, i < 28 ∧ a = adK i
          · obtain ⟨i, hi, rfl⟩ := h3
            rw [(gK i hi).1]
            exact ⟨(fun z => by cases z), (fun z => by cases z), (fun z => by cases z), (fun z => by cases z), (fun z => am_rkn z (fun q => by cases q) (fun q => by cases q) (fun q => by cases q) (fun q => by cases q)), (fun z => by cases z), fun _ => ⟨i, hi, rfl, (gK i hi).2.2, (gK i hi).2.1⟩, (fun z => by cases z), (fun z => by cases z), Nat.le_of_ble_eq_true rfl, (fun q => by cases q)⟩
          · by_cases h4 : a = adE
            · have hk : gk_ m0 a = (13, 0) := by rw [h4]; exact gE
              rw [hk]
              exact ⟨(fun z => by cases z), (fun z => by cases z), (fun z => by cases z), (fun z => by cases z), (fun z => am_rkn z (fun q => by cases q) (fun q => by cases q) (fun q => by cases q) (fun q => by cases q)), (fun z => by cases z), (fun z => by cases z), (fun z => by cases z), fun _ => ⟨h4, rfl⟩, Nat.le_of_ble_eq_true rfl, (fun q => by cases q)⟩
            · rw [gN a h1 h2 h3 h4]
              exact ⟨(fun z => by cases z), (fun z => by cases z), (fun z => by cases z), (fun z => by cases z), (fun z => am_rkn z (fun q => by cases q) (fun q => by cases q) (fun q => by cases q) (fun q => by cases q)), (fun z => by cases z), (fun z => by cases z), (fun z => by cases z), (fun z => by cases z), Nat.le_of_ble_eq_true rfl, (fun q => by cases q)⟩
    · unfold am_kz
      rw [e7, e1, e2, e5, e6]
      exact ⟨by rw [gS], gRi, gR 40, gR41 0 (by decide), gR41 1 (by decide), gR 43⟩
  obtain ⟨n, hn⟩ := am_rn_some _ _ _ _ _ hrun
  have hq := am_qk (y := 411) (by decide +kernel)
  rw [Bool.and_eq_true] at hq
  have hl := lv_entry ([.ref b]) (n := 4) (Nat.le_of_ble_eq_true rfl)
  rw [lg_entry_eq]
  generalize (lg_sl ([.ref b]) ++ List.replicate (4 - (lg_sl ([.ref b])).length) Slot.unset).toArray = ls at hl ⊢
  have X : am_Cx p l room_1 s m #[Value.ref b] meth c (am_mb 411) (am_ml 411) (am_mo 411) E m0 (.inl (some (.int 1)), m') :=
    ⟨hx, hb, hml, hown, htsG, hlocks, hge, hKk, by rw [e3]; exact Nat.le_refl _, ⟨by show gc_ m' ≤ gc_ m0 + 680830; rw [gT.2.1]; omega, by show gs_ m' ≤ gs_ m0 + 7059207; rw [gT.2.2.1]; omega⟩, by decide, by decide⟩
  have hsound := am_sound l E 14
  have hcm := am_ca_m (adK 0) sv 14
  rw [e1, e7] at hsound
  have G := am_ex_ok (below := below) (e := e) (d := 14) (C := am_ca (adK 0) sv 14) (hd9 := am_hd 411) X hr (fun z => absurd z (by decide +kernel)) hsound hcm (by decide) (by decide) (am_cd 411) hq.2 (List.all_eq_true.mp hq.1) n 0
  rw [e1, e7] at G
  have K := G _ _ _ s.heap [] 0 0 ls hn (am_en_ok hl) ⟨hRp, va_S.rf, rfl, rfl⟩
  intro T hT X9
  obtain ⟨t, b1, o, b2, b3, ⟨⟨v, hv1, hv2⟩, hR9, hF9⟩, L9, ⟨hf1, hf2, hf3⟩, hL9⟩ := K T hT X9
  cases hv1
  refine ⟨t, b1, o, b2, b3, hv2, hf1, hf2, ?_⟩
  exact hf3.weaken (fun y hy hlt => absurd hlt (Nat.not_lt.mpr (by have h := hL9 y hy; rw [eA] at h; exact h))) (by show gc_ m' - gc_ m0 ≤ _; rw [gT.2.1]; omega) (by show gs_ m' - gs_ m0 ≤ _; rw [gT.2.2.1]; omega)

set_option maxHeartbeats 4000000 in
theorem lw_walk (l : Launch) (hflags : l.flags = flags0) (b : Addr) (xs : List Int32) : MetFree l x (headSpec (Jvm.Cond.code x code maxLocals ret :: tables_1) room_1) (lw_P b xs) (fun _ _ _ _ _ => True) lw_Q := by
  refine MetFree.of_bodyS (code := code) (maxLocals := maxLocals) (ret := ret) (by decide) ?_ ?_
  · intro args s m h hn
    obtain ⟨meth, c, h1, h2, h3, h4, h5, h6, -, -⟩ := Cond.code_spec hn (atoms_spec (ws := Jvm.Cond.code x code maxLocals ret :: tables_1) h _ List.mem_cons_self)
    exact ⟨meth, c, h1, h2, h3, h4, h5, h6⟩
  · intro p e s m args below meth c s₁ B hml0 hP _
    obtain ⟨rfl, hx, hbd, hgv⟩ := hP
    obtain ⟨scr, harrAt, hlist, hof, hsmall⟩ := hx
    obtain ⟨hcb, hkn, -, -⟩ := State.arrayAt?_spec harrAt
    have hown : s.vm.findClass R_law = some m.cls := findClass_of_methodNamed B.named
    have hts0 : ∀ c ∈ (Jvm.Cond.code x code maxLocals ret :: tables_1), c.before #[Value.ref b] s = true := atoms_spec (ws := Jvm.Cond.code x code maxLocals ret :: tables_1) B.pre
    have hts : ∀ w ∈ lw_tbl, w.before #[Value.ref b] s = true := k2_hts_sels lw_privs (fun w hw => hts0 w (List.mem_cons_of_mem _ hw)) lw_privs_ok
    have hml : c.maxLocals = 4 := B.maxLocals_eq (hts0 _ List.mem_cons_self)
    have X₀ : Stand p l e room_1 s m #[Value.ref b] below meth c s₁ [] 0 0 := Stand.of_body B
    have hh0 : s₁.heap = s.heap := by rw [B.state]; rfl
    have hsz : scr.slots.size = xs.length := by rw [← Array.length_toList, hlist, List.length_map]
    have hval : ∀ j : Nat, j < xs.length → scr.slots[j]? = some (.int (xs.getD j 0)) := fun j hj => by
      rw [← Array.getElem?_toList, hlist]
      simp [hj]
    have hbl : b < s.heap.size := (Array.getElem?_eq_some_iff.mp hcb).1
    have hX : va_X b xs.length (fun j => xs.getD j 0) s s.heap := ⟨scr, hcb, hof, hkn, hsz, hval⟩
    have K : W p l e room_1 s m #[Value.ref b] below meth c s₁.heap [] 0 0 (lw_Z below #[Value.ref b] s) (entryFrame m ([Value.ref b] : List Value).toArray 4) := by
      rw [hh0]
      exact whole_start l hflags hbd ⟨B.exec, B.bytes, B.returns, hml, hown, hts, hX, hbl, B.notSynchronized, hgv⟩
    obtain ⟨t, a1, o, b1, b2, b3⟩ := K s₁ rfl X₀
    exact ⟨t, o, a1, b1, b2, b3⟩
theorem lw_pre_spec {args : Array Value} {s : State} (h : (Jvm.Cond.and given_1 narrow_1).before args s = true) (hr : rest_1_c.before args s = true) : ∃ (b : Addr) (xs : List Int32), lw_P b xs args s := by
  have hs := flat_of_before _ h
  have hq := flat_of_before _ hr
  have hc : (Cond.count 1).before args s = true := hs _ (by decide +kernel)
  have harr : (Cond.arrayOf (.arg 0) .int).before args s = true := hs _ (by decide +kernel)
  have hle : (Cond.le (.length (.arg 0)) (.int 260)).before args s = true := hs _ (by decide +kernel)
  have hlen : (Cond.isInt (.length (.arg 0))).before args s = true := hq _ (by decide +kernel)
  have hall : (Cond.all (.arg 0) (.isInt (.elem (.arg 0) (.index 0)))).before args s = true := hq _ (by decide +kernel)
  obtain ⟨b, xs, hb, hx⟩ := State.ints_of_pre rfl harr hlen hall
  have hsm : xs.length < 2 ^ 31 := hx.choose_spec.2.2.2
  have hev : (Term.length (.arg 0)).eval args s none [] s = some (.int xs.length.toInt32) := hx.length_eval hb
  have hv := Cond.le_ints hev (show (Term.int 260).eval args s none [] s = some (.int 260) from rfl)
  have hd : xs.length.toInt32 ≤ 260 := by
    simpa [Cond.before, Cond.holds, hv] using hle
  have hN : xs.length ≤ 260 := (Int32.ofNat_le_ofNat hsm (by decide)).mp (show Int32.ofNat xs.length ≤ Int32.ofNat 260 from hd)
  exact ⟨b, xs, Cond.one_arg hc (show args[0]? = some (.ref b) from hb), hx, hN, h⟩
theorem lw_comes (l : Launch) (hflags : l.flags = flags0) : Comes l x (Jvm.Cond.code x code maxLocals ret :: tables_1) room_1 (fun tb e args s => Calls_1 tb e args s ∧ rest_1 tb e args s ∧ Pre_1 tb e args s)
    (fun _ _ args s o t => lw_Q args s o t) := by
  intro p e ha hc hk s m args below hf hfit hheap happ hpre
  obtain ⟨b, xs, hP⟩ := lw_pre_spec hpre.2.2 hpre.2.1
  obtain ⟨k, o, h1, h2, h3, hQ⟩ := lw_walk l hflags b xs p e ha hc hk s m args below hf ((Spec.applies_iff_loose hf).mp happ).1 hP trivial
  exact ⟨k, o, h1, h2, h3, hQ⟩
theorem lw_frame {s t : State} {o : Outcome} {args : Array Value} (h : Framed s o t [] 680830 7059207) :
    Framed s o t (fieldLocs frame_1_writes args s ++ arrayLocs frame_1_arrays args s ++ staticLocs frame_1_statics s) 680830 7059207 := h
theorem lw_limb (L : Cond) (hL : ∀ (args : Array Value) (s t : State), L.after args s (.returned (some (.int 1))) t = true) :
    ArmFor flags0 classFile x code maxLocals ret World_1 tables_1 room_1 Calls_1 rest_1 Pre_1
      (fun tb e a s o t => postC L tb e a s o t ∧ Framed s o t (fieldLocs frame_1_writes a s ++ arrayLocs frame_1_arrays a s ++ staticLocs frame_1_statics s) 680830 7059207) := by
  intro l hflags _ _ p e ha hc hk s m args below hf hfit hheap happ hpre
  obtain ⟨k, o, h1, h2, h3, rfl, hF⟩ := lw_comes l hflags p e ha hc hk s m args below hf hfit hheap happ hpre
  exact ⟨k, _, h1, h2, h3, hL args s _, lw_frame hF⟩
theorem i_vc : Claimed_1_1 ∧ Claimed_1_2 := ⟨lw_limb limb_1_1 (fun args s t => by simp [limb_1_1, Cond.after, Cond.holds, Cond.value]), lw_limb limb_1_2 (fun args s t => Cond.after_iff.mpr (by
  first | (rw [show limb_1_2 = Cond.eq .result (.int 1) from rfl, Cond.eq_ints (x := 1) (y := 1) rfl rfl]; simp; done) | (simp [limb_1_2, Cond.value, Term.eval]; done)))⟩
