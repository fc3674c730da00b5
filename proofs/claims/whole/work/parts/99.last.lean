theorem am_in2 {p : Nat × Nat} {w : Cond} {s : State} {a : Array Value} (hts : ∀ w ∈ lw_tbl, w.before a s = true) (h : am_pw p = some w) : w.before a s = true := hts w (am_chin _ _ (List.mem_of_getElem? h))
theorem am_arr {ty : FieldType} {s : State} {a : Array Value} (h : (Cond.arrayClass ty).before a s = true) : ∃ cA : ClassId, ArrOfT s cA ty ∧ s.vm.findClass ("[" ++ ty.toString) = some cA := by
  obtain ⟨cA, kA, comp, h1, h2, h3⟩ := Cond.arrayClass_spec (first := s) (o := none) (idx := []) h
  exact ⟨cA, fun n z => ⟨fun k h => (by cases h), kA, h2, comp, h3⟩, h1⟩
theorem am_txl : ∀ j, j < 114 → Cond.eq (.elem (.field (.string "RoyaltyOffice$Tokens" 29) "java/lang/String" "value" "[B") (.int (Int32.ofNat j))) (.int (tx_.getD j 0)) ∈ flatC (Jvm.Cond.and given_1 narrow_1) := by decide +kernel
/-! THE CLAIM OUT OF ONE WALK OF THE LAW'S BODY. Your part is whole_start (and what it stands on); all else here is the same for every law, but numbers. -/
def R_law : String := "RoyaltyOfficeLaw"
def lw_P (b : Addr) (xs : List Int32) (args : Array Value) (s : State) : Prop := args = #[.ref b] ∧ s.IntsAt b xs ∧ xs.length ≤ 3072 ∧ (Jvm.Cond.and given_1 narrow_1).before args s = true
/-- what a walk over the start with the record d0 says of its end, said of the start itself -/
theorem lw_closed {s t : State} {o : Outcome} {d0 : Drawn} {L : List Loc} {k n : Nat} (hd0 : s.drawn.sameBut d0 lw_cs) (hv : ∃ v, o = .returned v) (hW : (s.setDrawn d0).WarmedH t.vm) (hs : (s.setDrawn d0).sameButNew ({ t with vm := s.vm } : State) L k n) : State.butDraws s t lw_cs (fun t1 => Framed s o t1 L k n) := by
  have h2 : t.drawn = d0 := congrArg State.drawn hs.1
  refine ⟨⟨hv, hW, State.sameButNew.setDrawn hs s.drawn⟩, ?_, by decide⟩
  rw [h2]
  exact hd0
def lw_Q (_ : Array Value) (s : State) (o : Outcome) (t : State) : Prop := o = .returned (some (.int 1)) ∧ State.butDraws s t lw_cs (fun t1 => Framed s o t1 [] 601024 7293034)
def lw_Z (below : List Frame) (a : Array Value) (s : State) : State → Prop := fun t => ∃ o, t.status = .running ∧ Ended t below o ∧ lw_Q a s o t
/-- the law's own end, with 1 on the stack, nothing written that was there before, its room as the claim has it; d0: the record of draws at this point (at the entry s.drawn: begin with 'refine W.base ?_' and 'have hd0 := Drawn.sameBut.refl s.drawn lw_cs') -/
theorem lw_ret {p : Program} {l : Launch} {e : Env} {s : State} {m : MethodId} {below : List Frame} {meth : Method} {c : Code} {b : Nat} {d0 : Drawn} (hd0 : s.drawn.sameBut d0 lw_cs) (hx : p.tables.exec = Jvm.exec) (hb : c.code = code) (hr : meth.sig.returnType = ret) (hlocks : meth.locks = false) {pc : Nat} {H : Heap} {ls : Array Slot} (hdg : decode code pc = .ok (.ireturn, 1)) : W p l e room_1 (s.setDrawn d0) m #[Value.ref b] below meth c H [] 601024 7293034 (lw_Z below #[Value.ref b] s) (F0 m pc ls [.int 1]) := by
  intro T hT X
  obtain ⟨fs, hret, hrun, hended, hW, hframe⟩ := X.leave (v := some (.int 1)) (hlocks := hlocks) (fun h => by rw [hr] at h; cases h)
  have hmeth' : T.vm.method? m = some meth := X.method'
  refine ⟨T.setFrames fs, ?_, .returned (some (.int 1)), hrun, hended, rfl, lw_closed hd0 ⟨_, rfl⟩ hW hframe⟩
  jvm_step X.here [X.here.top, hx, hb, hdg, hmeth', hr, ret, narrow_b1]
  (try refine ⟨rfl, ?_⟩); (try refine ⟨rfl, ?_⟩)
  first | (intro acts; rw [hret _ acts rfl rfl rfl]) | rw [hret _ _ rfl rfl rfl]
  exact Steps.refl _
/-- what holds at the law's entry: the machine, the code, the tables' words (any of lw_tbl by 'hts w (by decide +kernel)'), the script of L ints xs at the cell b, what the Statement gives of the start (any of its parts by flat_of_before) -/
def lw_At (p : Program) (s : State) (m : MethodId) (meth : Method) (c : Code) (b L : Nat) (xs : Nat → Int32) : Prop :=
  p.tables.exec = Jvm.exec ∧ c.code = code ∧ meth.sig.returnType = ret ∧ c.maxLocals = 9 ∧ s.vm.findClass R_law = some m.cls ∧ (∀ w ∈ lw_tbl, w.before #[Value.ref b] s = true) ∧ va_X b L xs s s.heap ∧ b < s.heap.size ∧ meth.locks = false ∧ (Jvm.Cond.and given_1 narrow_1).before #[Value.ref b] s = true
theorem am_at_of {E : am_E} {m : am_M} {H : Heap} {a k n : Nat} (hk : gk_ m a = (k, n)) (h0 : k = 0 ∨ (k = 7 ∧ a = E.2.2.1.1 ∧ n = E.2.2.1.2.1 ∧ ∀ j, j < E.2.2.1.2.1 → gi_ m a j = E.2.2.1.2.2 j) ∨ (k = 9 ∧ a = E.2.2.2.2.1 ∧ n = tx_.length ∧ ∀ j, j < tx_.length → gi_ m a j = tx_.getD j 0)) : am_at E m H a := by
  have e1 : (gk_ m a).1 = k := by rw [hk]
  have e2 : (gk_ m a).2 = n := by rw [hk]
  have hq : k = 0 ∨ k = 7 ∨ k = 9 := by
    rcases h0 with h | h | h
    · exact Or.inl h
    · exact Or.inr (Or.inl h.1)
    · exact Or.inr (Or.inr h.1)
  unfold am_at
  refine And.intro (fun z => ?_) (And.intro (fun z => ?_) (And.intro (fun z => ?_) (And.intro (fun z => ?_) (And.intro (fun z => ?_) (And.intro (fun z => ?_) (And.intro (fun z => ?_) (And.intro (fun z => ?_) (And.intro ?_ ?_))))))))
  · exfalso; omega
  · exfalso; omega
  · exfalso; omega
  · exfalso; omega
  · exfalso; omega
  · exfalso; omega
  · rcases h0 with h | h | h
    · exfalso; omega
    · rw [e2]; exact h.2
    · exfalso; omega
  · rcases h0 with h | h | h
    · exfalso; omega
    · exfalso; omega
    · rw [e2]; exact h.2
  · omega
  · omega
theorem am411_b : am_mb 411 = code := rfl
theorem am411_r : am_mr 411 = ret := rfl
theorem am411_l : am_ml 411 = 9 := rfl
theorem am411_o : am_cn (am_mo 411) = R_law := rfl
theorem am411_h : (am_hh 411).isEmpty = false := by decide +kernel
theorem am411_n : ((am_mn 411).name == "<init>") = false := by decide +kernel
theorem am411_d : am_hdL.all (fun q => !(q.1.beq 411)) = true := by decide +kernel
set_option maxHeartbeats 4000000 in
set_option maxRecDepth 100000 in
theorem whole_start {p : Program} {e : Env} {s : State} {m : MethodId} {below : List Frame} {meth : Method} {c : Code} (l : Launch) (hflags : l.flags = flags0) {b L : Nat} {xs : Nat → Int32} (hL : L ≤ 3072) (C0 : lw_At p s m meth c b L xs) : W p l e room_1 s m #[Value.ref b] below meth c s.heap [] 0 0 (lw_Z below #[Value.ref b] s) (entryFrame m ([Value.ref b] : List Value).toArray 9) := by
  obtain ⟨hx, hb, hr, hml, hown, hts, hX, hbl, hlocks, hgv⟩ := C0
  have hfl := flat_of_before _ hgv
  have hst : l.stackTraces = false := by
    unfold Launch.stackTraces
    rw [hflags]
    decide
  have hA0 : ∀ a : Nat, a < s.heap.size → ¬ (fun q : Nat => s.heap.size ≤ q) a := fun a h => Nat.not_le.mpr h
  have htsG : ∀ w ∈ am_GW, w.before #[Value.ref b] s = true := fun w hw => hts w (List.mem_filter.mp hw).1
  have hKn : ∀ ci : Nat, ∃ q : ClassId × (Nat → Nat), ci < 12 → u_Kn s (am_vc ci).1 (am_vc ci).2.1 (am_vc ci).2.2 q.1 q.2 := by
    intro ci
    by_cases h : ci < 12
    · obtain ⟨c0, i0, h0⟩ := u_known (n := (am_vc ci).2.2) htsG (am_ul h) (htsG _ (am_ci_in h).1)
      exact ⟨(c0, i0), fun _ => h0⟩
    · exact ⟨(0, fun _ => 0), fun z => absurd z h⟩
  obtain ⟨F, hF⟩ := Classical.axiomOfChoice hKn
  obtain ⟨cI, aI1, aI2⟩ := am_arr (am_in2 (p := (0, 126)) hts rfl : (Cond.arrayClass .int).before #[Value.ref b] s = true)
  obtain ⟨cB, aB1, aB2⟩ := am_arr (am_in2 (p := (0, 124)) hts rfl : (Cond.arrayClass .byte).before #[Value.ref b] s = true)
  obtain ⟨cJ, aJ1, aJ2⟩ := am_arr (am_in2 (p := (0, 125)) hts rfl : (Cond.arrayClass .long).before #[Value.ref b] s = true)
  obtain ⟨cD, aD1, aD2⟩ := am_arr (am_in2 (p := (9, 161)) hts rfl : (Cond.arrayClass .double).before #[Value.ref b] s = true)
  have hao : (Cond.arrayOver (.object "RoyaltyOffice$Office")).before #[Value.ref b] s = true := am_in2 (p := (1, 31)) hts rfl
  obtain ⟨comp, cO, kO, o1, o2, o3, o4, o5⟩ := Cond.arrayOver_spec (first := s) (o := none) (idx := []) hao
  obtain ⟨adK, adV, hS, hev⟩ := vk_Sof (args := #[Value.ref b]) (s := s) (N := 1) (tm := fun _ => .string "RoyaltyOffice$Tokens" 29) (len := [tx_.length]) (byt := [tx_]) (A := fun q : Nat => s.heap.size ≤ q)
    (fun i hi => by rw [show i = 0 by omega]; exact (by decide)) (fun i _ => hfl _ (by decide +kernel)) (fun i _ => hfl _ (by decide +kernel)) (fun i _ => hfl _ (by decide +kernel))
    (fun i hi => by rw [show i = 0 by omega]; exact hfl _ (by decide +kernel)) (fun i hi j hj => by rw [show i = 0 by omega] at hj ⊢; exact hfl _ (am_txl j hj)) (fun i j hi hj hne => absurd (show i = j by omega) hne) hA0
  generalize hsa : adK 0 = sa
  generalize hsv : adV 0 = sv
  have hS1 : vk_S 1 [tx_.length] [tx_] (fun _ => sa) (fun _ => sv) (fun q : Nat => s.heap.size ≤ q) s s.heap := by
    refine ⟨fun i hi => ?_, fun i j hi hj _ => by omega⟩
    have h := hS.1 i hi
    rw [show i = 0 by omega] at h ⊢
    rw [hsa, hsv] at h
    exact h
  obtain ⟨-, -, -, cv, v1, v2, v3, v4, v5, v6, v7⟩ := hS1.1 0 (by decide)
  have hvl : sv < s.heap.size := Nat.not_le.mp v7
  have hbv : ¬ b = sv := by
    intro hbs
    obtain ⟨scr, c1, c2, -⟩ := hX
    rw [hbs] at c1
    have v1 : s.heap[sv]? = some cv := v1
    cases Option.some.inj (c1.symm.trans v1)
    obtain ⟨-, k1, g1, cm1, g2⟩ := c2
    obtain ⟨-, k2, g3, cm2, g4⟩ := v2
    cases Option.some.inj (g1.symm.trans g3)
    rw [g2] at g4
    cases g4
  obtain ⟨m', hrun, hc1, hc2⟩ := am_law_run s.heap.size b L xs sa sv hL hbl hvl hbv
  generalize hE : ((((((fun ci => (F ci).1), (fun ci => (F ci).2)) : va_G), (fun t => if t = 2 then cI else if t = 3 then cB else if t = 4 then cJ else if t = 5 then cD else cO)), s.heap.size, (b, L, xs), (sa, sv, fun _ _ => 0)) : am_E) = E
  have e1 : E.2.2.2.1 = sa := by rw [← hE]
  have e2 : E.2.2.2.2.1 = sv := by rw [← hE]
  have e3 : E.2.1 = s.heap.size := by rw [← hE]
  have e4 : E.2.2.1 = (b, L, xs) := by rw [← hE]
  have eA : am_A E = fun q : Nat => s.heap.size ≤ q := by unfold am_A; rw [e3]
  have hKk : am_Kk E s s.heap := by
    unfold am_Kk am_Ks
    rw [eA, e1, e2, e3, e4]
    refine ⟨⟨fun ci q hq => ?_, fun k q hk => ?_⟩, vx_Zqof (am_in2 (p := (2, 187)) hts rfl) (am_in2 (p := (0, 18)) hts rfl) (hfl _ (by decide +kernel)) hA0, vx_Zqof (am_in2 (p := (2, 189)) hts rfl) (am_in2 (p := (0, 18)) hts rfl) (hfl _ (by decide +kernel)) hA0, ⟨hX, hbl, hbl⟩, va_Nc.of (args := #[Value.ref b]) (hfl _ (by decide +kernel)), va_AO.of (A := #[Value.ref b]) hao,
      vk_R.of (A := #[Value.ref b]) (am_in2 (p := (0, 40)) hts rfl) (by rw [← hsa]; exact hev 0 (by decide)), hS1, va_Zof (args := #[Value.ref b]) (am_in2 (p := (0, 50)) hts rfl) (am_in2 (p := (0, 3)) hts rfl) (va_eqt (hfl _ (by decide +kernel))) hA0, va_Zqof (args := #[Value.ref b]) (am_in2 (p := (0, 66)) hts rfl) (am_in2 (p := (0, 5)) hts rfl) (hfl _ (by decide +kernel)) hA0⟩
    · have hci : ci < 12 := (List.getElem?_eq_some_iff.mp hq).1
      cases Option.some.inj ((am_vc_get ci hci).symm.trans hq)
      rw [← hE]
      exact hF ci hci
    · rw [← hE] at hk
      have hk5 : k < 5 := (List.getElem?_eq_some_iff.mp hk).1
      rcases (show k = 0 ∨ k = 1 ∨ k = 2 ∨ k = 3 ∨ k = 4 by omega) with rfl | rfl | rfl | rfl | rfl
      · cases hk; exact ⟨aI1, aI2⟩
      · cases hk; exact ⟨aB1, aB2⟩
      · cases hk; exact ⟨aJ1, aJ2⟩
      · cases hk; exact ⟨aD1, aD2⟩
      · cases hk; exact ⟨fun n z => ⟨fun k h => (by cases h), kO, o3, comp, o4⟩, kO, comp, o3, o4, o1, o5⟩
  have hRp : am_Rp E (am_m0 s.heap.size b L xs sv) s.heap := by
    refine ⟨fun a => ?_, fun _ => rfl, by rw [e3]; exact Nat.le_refl _, by rw [e3]; omega⟩
    by_cases h1 : a = b
    · exact am_at_of (k := 7) (n := L) (if_pos h1) (Or.inr (Or.inl ⟨rfl, by rw [e4]; exact h1, by rw [e4], fun j _ => by rw [e4]; exact if_pos h1⟩))
    · by_cases h2 : a = sv
      · exact am_at_of (k := 9) (n := tx_.length) ((if_neg h1).trans (if_pos h2)) (Or.inr (Or.inr ⟨rfl, by rw [e2]; exact h2, rfl, fun j _ => (if_neg h1).trans (if_pos h2)⟩))
      · exact am_at_of (k := 0) (n := 0) ((if_neg h1).trans (if_neg h2)) (Or.inl rfl)
  obtain ⟨n, hn⟩ := am_rn_some _ _ _ _ _ hrun
  have hq := am_qk 411 (by decide)
  rw [Bool.and_eq_true] at hq
  have hl := lv_entry ([.ref b]) (n := 9) (Nat.le_of_ble_eq_true rfl)
  rw [lg_entry_eq]
  generalize (lg_sl ([.ref b]) ++ List.replicate (9 - (lg_sl ([.ref b])).length) Slot.unset).toArray = ls at hl ⊢
  have X : am_Cx p l room_1 s m #[Value.ref b] meth c (am_mb 411) (am_ml 411) (am_mo 411) E (am_m0 s.heap.size b L xs sv) (.inl (some (.int 1)), m') :=
    ⟨hx, by rw [am411_b]; exact hb, by rw [am411_l]; exact hml, by rw [am411_o]; exact hown, htsG, hlocks, hst, hKk, by rw [e3]; exact Nat.le_refl _, ⟨Nat.le_trans hc1 (Nat.le_add_left 601024 (gc_ (am_m0 s.heap.size b L xs sv))), Nat.le_trans hc2 (Nat.le_add_left 7293034 (gs_ (am_m0 s.heap.size b L xs sv)))⟩, Nat.le_of_ble_eq_true rfl, Nat.le_of_ble_eq_true rfl⟩
  have hsound := am_sound l hst E 20
  have hcm := am_ca_m sa sv 20
  rw [e1, e2] at hsound
  have G := am_ex_ok (below := below) (e := e) (d := 20) (C := am_ca sa sv 20) (hd9 := am_hd 411) X (by rw [am411_r]; exact hr) (fun z => by rw [am411_n] at z; cases z) (fun z => by rw [am411_h] at z; cases z) hsound hcm (Nat.le_of_ble_eq_true rfl) (Nat.le_of_ble_eq_true rfl)
    (fun pc j m1 L rest q ce H locs cells slots ls hxc => by
      unfold am_xc at hxc
      have hno : am_hd 411 pc j = none := by
        cases h : am_hd 411 pc j with
        | none => rfl
        | some v =>
          obtain ⟨q, h1, h2, -, -⟩ := am_hg_I _ h
          have h3 := List.all_eq_true.mp am411_d q h1
          rw [h2] at h3
          cases h3
      rw [hno] at hxc
      cases hxc) (am_cd 411) hq.2 (List.all_eq_true.mp hq.1) n 0
  rw [e1, e2] at G
  have K := G _ _ _ s.heap [] 0 0 ls hn (am_en_ok hl) ⟨hRp, va_S.rf, rfl, rfl⟩
  intro T hT X9
  obtain ⟨t, a1, o, b1, b2, b3⟩ := K T hT X9
  refine ⟨t, a1, o, b1, b2, ?_⟩
  rcases b3 with ⟨⟨⟨v, hv1, hv2⟩, hR9, hF9⟩, L9, ⟨hf1, hf2, hf3⟩, hL9⟩ | ⟨q, -, En, ce, L9, ⟨⟨j, hj, -⟩, -⟩, -⟩
  · cases hv1
    refine ⟨hv2, ?_⟩
    have hd0 := Drawn.sameBut.refl s.drawn lw_cs
    exact lw_closed (d0 := s.drawn) hd0 hf1 hf2 (hf3.weaken (fun y hy hlt => absurd hlt (Nat.not_lt.mpr (by have h := hL9 y hy; rw [eA] at h; exact h))) (Nat.le_trans (Nat.sub_le _ _) hc1) (Nat.le_trans (Nat.sub_le _ _) hc2))
  · cases hj

set_option maxHeartbeats 4000000 in
theorem lw_walk (l : Launch) (hflags : l.flags = flags0) (b : Addr) (xs : List Int32) : MetFree l x (headSpec (Jvm.Cond.code x code maxLocals ret :: tables_1) room_1) (lw_P b xs) (fun _ _ _ _ _ => True) lw_Q := by
  refine MetFree.of_bodyS (code := code) (maxLocals := maxLocals) (ret := ret) (by decide) ?_ ?_
  · intro args s m h hn
    obtain ⟨meth, c, h1, h2, h3, h4, h5, h6, -, -⟩ := Cond.code_spec hn (atoms_spec (ws := Jvm.Cond.code x code maxLocals ret :: tables_1) h _ List.mem_cons_self)
    exact ⟨meth, c, h1, h2, h3, h4, h5, h6⟩
  · intro p e s m args below meth c s₁ B hml0 hP _
    obtain ⟨rfl, hx, hbd, hgv⟩ := hP
    obtain ⟨scr, harrAt, hlist, hof, hsmall⟩ := hx
    obtain ⟨hcb, hkn, -, -⟩ := State.arrayAt?_spec harrAt
    have hown : s.vm.findClass R_law = some m.cls := findClass_of_methodNamed B.named
    have hts0 : ∀ c ∈ (Jvm.Cond.code x code maxLocals ret :: tables_1), c.before #[Value.ref b] s = true := atoms_spec (ws := Jvm.Cond.code x code maxLocals ret :: tables_1) B.pre
    have hts : ∀ w ∈ lw_tbl, w.before #[Value.ref b] s = true := k2_hts_sels lw_privs (fun w hw => hts0 w (List.mem_cons_of_mem _ hw)) lw_privs_ok
    have hml : c.maxLocals = 9 := B.maxLocals_eq (hts0 _ List.mem_cons_self)
    have X₀ : Stand p l e room_1 s m #[Value.ref b] below meth c s₁ [] 0 0 := Stand.of_body B
    have hh0 : s₁.heap = s.heap := by rw [B.state]; rfl
    have hsz : scr.slots.size = xs.length := by rw [← Array.length_toList, hlist, List.length_map]
    have hval : ∀ j : Nat, j < xs.length → scr.slots[j]? = some (.int (xs.getD j 0)) := fun j hj => by
      rw [← Array.getElem?_toList, hlist]
      simp [hj]
    have hbl : b < s.heap.size := (Array.getElem?_eq_some_iff.mp hcb).1
    have hX : va_X b xs.length (fun j => xs.getD j 0) s s.heap := ⟨scr, hcb, hof, hkn, hsz, hval⟩
    have K : W p l e room_1 s m #[Value.ref b] below meth c s₁.heap [] 0 0 (lw_Z below #[Value.ref b] s) (entryFrame m ([Value.ref b] : List Value).toArray 9) := by
      rw [hh0]
      exact whole_start l hflags hbd ⟨B.exec, B.bytes, B.returns, hml, hown, hts, hX, hbl, B.notSynchronized, hgv⟩
    obtain ⟨t, a1, o, b1, b2, b3⟩ := K s₁ rfl X₀
    exact ⟨t, o, a1, b1, b2, b3⟩
theorem lw_pre_spec {args : Array Value} {s : State} (h : (Jvm.Cond.and given_1 narrow_1).before args s = true) (hr : rest_1_c.before args s = true) : ∃ (b : Addr) (xs : List Int32), lw_P b xs args s := by
  have hs := flat_of_before _ h
  have hq := flat_of_before _ hr
  have hc : (Cond.count 1).before args s = true := hs _ (by decide +kernel)
  have harr : (Cond.arrayOf (.arg 0) .int).before args s = true := hs _ (by decide +kernel)
  have hle : (Cond.le (.length (.arg 0)) (.int 3072)).before args s = true := hs _ (by decide +kernel)
  have hlen : (Cond.isInt (.length (.arg 0))).before args s = true := hq _ (by decide +kernel)
  have hall : (Cond.all (.arg 0) (.isInt (.elem (.arg 0) (.index 0)))).before args s = true := hq _ (by decide +kernel)
  obtain ⟨b, xs, hb, hx⟩ := State.ints_of_pre rfl harr hlen hall
  have hsm : xs.length < 2 ^ 31 := hx.choose_spec.2.2.2
  have hev : (Term.length (.arg 0)).eval args s none [] s = some (.int xs.length.toInt32) := hx.length_eval hb
  have hv := Cond.le_ints hev (show (Term.int 3072).eval args s none [] s = some (.int 3072) from rfl)
  have hd : xs.length.toInt32 ≤ 3072 := by
    simpa [Cond.before, Cond.holds, hv] using hle
  have hN : xs.length ≤ 3072 := (Int32.ofNat_le_ofNat hsm (by decide)).mp (show Int32.ofNat xs.length ≤ Int32.ofNat 3072 from hd)
  exact ⟨b, xs, Cond.one_arg hc (show args[0]? = some (.ref b) from hb), hx, hN, h⟩
theorem lw_comes (l : Launch) (hflags : l.flags = flags0) : Comes l x (Jvm.Cond.code x code maxLocals ret :: tables_1) room_1 (fun tb e args s => Calls_1 tb e args s ∧ rest_1 tb e args s ∧ Pre_1 tb e args s)
    (fun _ _ args s o t => lw_Q args s o t) := by
  intro p e ha hc hk s m args below hf hfit hheap happ hpre
  obtain ⟨b, xs, hP⟩ := lw_pre_spec hpre.2.2 hpre.2.1
  obtain ⟨k, o, h1, h2, h3, hQ⟩ := lw_walk l hflags b xs p e ha hc hk s m args below hf ((Spec.applies_iff_loose hf).mp happ).1 hP trivial
  exact ⟨k, o, h1, h2, h3, hQ⟩
theorem lw_frame {s t : State} {o : Outcome} {args : Array Value} (h : State.butDraws s t lw_cs (fun t1 => Framed s o t1 [] 601024 7293034)) :
    State.butDraws s t [Jvm.Choice.named "NaN.bits"] (fun t1 => Framed s o t1 (fieldLocs frame_1_writes args s ++ arrayLocs frame_1_arrays args s ++ staticLocs frame_1_statics s) 601024 7293034) := h
theorem lw_limb (L : Cond) (hL : ∀ (args : Array Value) (s t : State), L.after args s (.returned (some (.int 1))) t = true) :
    ArmFor flags0 classFile x code maxLocals ret World_1 tables_1 room_1 Calls_1 rest_1 Pre_1
      (fun tb e a s o t => postC L tb e a s o t ∧ State.butDraws s t [Jvm.Choice.named "NaN.bits"] (fun t1 => Framed s o t1 (fieldLocs frame_1_writes a s ++ arrayLocs frame_1_arrays a s ++ staticLocs frame_1_statics s) 601024 7293034)) := by
  intro l hflags _ _ p e ha hc hk s m args below hf hfit hheap happ hpre
  obtain ⟨k, o, h1, h2, h3, rfl, hF⟩ := lw_comes l hflags p e ha hc hk s m args below hf hfit hheap happ hpre
  exact ⟨k, _, h1, h2, h3, hL args s _, lw_frame hF⟩
theorem i_vc : Claimed_1_1 ∧ Claimed_1_2 := ⟨lw_limb limb_1_1 (fun args s t => by simp [limb_1_1, Cond.after, Cond.holds, Cond.value]), lw_limb limb_1_2 (fun args s t => Cond.after_iff.mpr (by
  first | (rw [show limb_1_2 = Cond.eq .result (.int 1) from rfl, Cond.eq_ints (x := 1) (y := 1) rfl rfl]; simp; done) | (simp [limb_1_2, Cond.value, Term.eval]; done)))⟩
