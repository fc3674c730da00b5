/-! calls -/
def am_cw (y : Nat) : Cond := .code (am_mn y) (am_mb y) (am_ml y) (am_mr y)
def am_ws (y : Nat) : List Cond := am_cw y :: am_GW
def am_rm (d mc ms : Nat) : Room := { frames := 2 + d, cells := mc, slots := ms, locals := 80 + 40 * d }
def am_Con (l : Launch) (E : am_E) (d : Nat) (C : Nat → List Value → am_M → Option am_R) : Prop :=
  ∀ (y : Nat) (as : List Value) (m : am_M) (r1 : am_R), am_pr y = true → C y as m = some r1 → ge_ r1.2 = true → Met l (am_mn y) (am_ws y) (am_rm d (gc_ r1.2 - gc_ m) (gs_ r1.2 - gs_ m)) (am_Pc E as m) (am_Qc E r1) (gc_ r1.2 - gc_ m) (gs_ r1.2 - gs_ m) (am_A E)
def am_Cm (C : Nat → List Value → am_M → Option am_R) : Prop := ∀ y as m r1, C y as m = some r1 → am_le m r1 ∧ ∀ j, r1.1 = .inr j → ge_ r1.2 = false
/-- what a callee's number says -/
def am_mf (y n : Nat) : Prop := am_cw y ∈ am_GW ∧ Cond.initialized (am_mn y).cls ∈ am_GW ∧ ((am_mn y).cls ≠ "java/lang/invoke/MethodHandle" ∧ (am_mn y).cls ≠ "java/lang/invoke/VarHandle" ∧ (parseMethodDescriptor (am_mn y).desc).map (fun d => d.parameters.length) = some n) ∧ am_ml y ≤ 21
theorem am_Pc_blind (E : am_E) (as : List Value) (m : am_M) : FrameBlind (am_Pc E as m) := by
  intro a U g mk h
  exact ⟨h.1, h.2.1, am_Kk.moved (u := U) (U := U.calling g mk a) (Vm.Alike.refl U.vm) (State.WarmedH.refl U) h.2.2⟩
theorem am_xc_r {hd : Nat → Nat → Option Int32} {pc j : Nat} {m : am_M} {r : am_R} (h : am_xc hd pc j m = some r) : r.2 = m := by
  unfold am_xc at h
  split at h <;> cases h <;> rfl
theorem am_cc_I {hd : Nat → Nat → Option Int32} {pc : Nat} {q : Option am_R} {t : Nat} {k : List Value → am_M → Option am_R} {R : List Value} {r : am_R} (h : am_cc hd pc q t k R = some r) :
    ∃ r1, q = some r1 ∧ ((∃ v, r1.1 = .inl v ∧ k (v.toList ++ R) r1.2 = some r) ∨ (∃ j, r1.1 = .inr j ∧ am_xc hd pc j r1.2 = some r)) := by
  rcases t with _ | _ | _ | _ | _ | t
  · rcases q with _ | ⟨(_ | v) | j, m⟩
    · cases h
    · exact ⟨_, rfl, Or.inl ⟨none, rfl, h⟩⟩
    · cases h
    · exact ⟨_, rfl, Or.inr ⟨j, rfl, h⟩⟩
  all_goals
    rcases q with _ | ⟨(_ | v) | j, m⟩
    · cases h
    · cases h
    · cases v <;> first | exact ⟨_, rfl, Or.inl ⟨_, rfl, h⟩⟩ | cases h
    · exact ⟨_, rfl, Or.inr ⟨j, rfl, h⟩⟩
theorem am_drop_cons {α : Type} {S R : List α} {b : α} {n : Nat} (h : S.drop n = b :: R) : (S.take n).length = n ∧ S = S.take n ++ b :: R := by
  have hl : n < S.length := by
    rcases Nat.lt_or_ge n S.length with q | q
    · exact q
    · rw [List.drop_eq_nil_of_le q] at h
      cases h
  exact ⟨by rw [List.length_take]; omega, by rw [← h, List.take_append_drop]⟩
theorem am_keep {A0 A1 free : Nat → Prop} {H0 H : Heap} {locs : List Loc} {st₀ t T' : State} {L : List Loc} (h0 : st₀.heap = H) (e1 : T'.heap = t.heap) (hS : va_S A0 H0 H locs) (hA : ∀ q, A1 q → A0 q) (hf : ∀ q, free q → A0 q) (hL : ∀ q ∈ L, free q.base) (hF : va_F A1 st₀ t) : va_S A0 H0 T'.heap (locs ++ L) := by
  obtain ⟨hz, hk⟩ := hF
  rw [h0] at hz hk
  exact ⟨Nat.le_trans hS.1 (by rw [e1]; exact hz), fun q h1 h2 => by rw [e1, hk q (Nat.lt_of_lt_of_le h1 hS.1) (fun z => h2 (hA q z))]; exact hS.2.1 q h1 h2, fun q hq => by
      rcases List.mem_append.mp hq with h | h
      · exact hS.2.2 q h
      · exact hf _ (hL q h)⟩
section S5
variable {p : Program} {l : Launch} {e : Env} {R : Room} {s : State} {mt : MethodId} {args : Array Value} {below : List Frame} {meth : Method} {c : Code} {nL own : Nat} {cc : ByteArray} {E : am_E} {Q : State → Prop} {m0 : am_M} {r : am_R} {pc : Nat} {k : am_L → List Value → am_M → Option am_R} {x : am_X}
variable {d : Nat} {C : Nat → List Value → am_M → Option am_R} {hd9 : Nat → Nat → Option Int32}
theorem so_run {H : Heap} {locs : List Loc} {cells slots mc ms : Nat} {ls : Array Slot} {st0 rest : List Value} {a : Array Value} {r1 : am_R} {m : am_M}
    (hr : va_Run p l e R s mt args below meth c H locs cells slots mc ms (F0 mt pc ls st0) rest (am_Qc E r1 a) (am_A E)) (hP : am_Pt E s H locs cells slots m0 m) (hmc : gc_ m + mc = gc_ r1.2) (hms : gs_ m + ms = gs_ r1.2)
    (kk : ∀ (v : Option Value) (H1 : Heap) (locs1 : List Loc), r1.1 = .inl v → am_Pt E s H1 locs1 (cells + mc) (slots + ms) m0 r1.2 → W p l e R s mt args below meth c (H1) (locs1) (cells + mc) (slots + ms) Q (F0 mt (pc + 3) ls (v.toList ++ rest))) : W p l e R s mt args below meth c (H) (locs) (cells) (slots) Q (F0 mt pc ls st0) := by
  have hp1 := hP.2.2.1
  have hp2 := hP.2.2.2
  intro T hT X
  obtain ⟨v, st₀, t, T', L, h0, X', hL, e1, e2, ⟨⟨v', hv1, hv2⟩, hR, hF⟩, st⟩ := hr T hT X
  cases hv2
  have k3 := am_keep h0 e1 hP.2.1 (fun _ h => h) (fun _ h => h) hL hF
  obtain ⟨t2, a1, b1⟩ := kk v T'.heap (locs ++ L) hv1 ⟨by rw [e1]; exact hR, k3, by omega, by omega⟩ T' rfl X'
  exact ⟨t2, st t2 a1, b1⟩
theorem so_run5 {H : Heap} {locs : List Loc} {cells slots mc ms : Nat} {ls : Array Slot} {st0 rest : List Value} {a : Array Value} {r1 : am_R} {m : am_M}
    (hr : va_Run5 p l e R s mt args below meth c H locs cells slots mc ms (F0 mt pc ls st0) rest (am_Qc E r1 a) (am_A E)) (hP : am_Pt E s H locs cells slots m0 m) (hmc : gc_ m + mc = gc_ r1.2) (hms : gs_ m + ms = gs_ r1.2)
    (kk : ∀ (v : Option Value) (H1 : Heap) (locs1 : List Loc), r1.1 = .inl v → am_Pt E s H1 locs1 (cells + mc) (slots + ms) m0 r1.2 → W p l e R s mt args below meth c (H1) (locs1) (cells + mc) (slots + ms) Q (F0 mt (pc + 5) ls (v.toList ++ rest))) : W p l e R s mt args below meth c (H) (locs) (cells) (slots) Q (F0 mt pc ls st0) := by
  have hp1 := hP.2.2.1
  have hp2 := hP.2.2.2
  intro T hT X
  obtain ⟨v, st₀, t, T', L, h0, X', hL, e1, e2, ⟨⟨v', hv1, hv2⟩, hR, hF⟩, st⟩ := hr T hT X
  cases hv2
  have k3 := am_keep h0 e1 hP.2.1 (fun _ h => h) (fun _ h => h) hL hF
  obtain ⟨t2, a1, b1⟩ := kk v T'.heap (locs ++ L) hv1 ⟨by rw [e1]; exact hR, k3, by omega, by omega⟩ T' rfl X'
  exact ⟨t2, st t2 a1, b1⟩
theorem am_pre (hK : am_Kk E s s.heap) {H : Heap} {locs : List Loc} {cells slots : Nat} {m : am_M} (hP : am_Pt E s H locs cells slots m0 m) (as : List Value) : PreS s H (am_Pc E as m) as := by
  refine ⟨am_Pc_blind E as m, fun U hU hW => ⟨rfl, by rw [hU]; exact hP.1, ?_⟩⟩
  rw [hU]
  exact am_Kk.moved hW.alike hW (hK.kept hP.2.1.1 (fun a h1 h2 => hP.2.1.2.1 a h1 h2))
theorem am_wsok (hts : ∀ w ∈ am_GW, w.before args s = true) {y n : Nat} (hF : am_mf y n) : ∀ w ∈ am_ws y, ∀ (a' : Array Value) (U : State), s.WarmedH U.vm → w.before a' U = true := by
  intro w hw a' U hW
  have hG : w ∈ am_GW := (List.mem_cons.mp hw).elim (fun e => by rw [e]; exact hF.1) id
  exact am_ow_warm (List.mem_filter.mp hG).2 hW (hts w hG)
theorem am_len {y n : Nat} (hF : am_mf y n) : ∀ sig, parseMethodDescriptor (am_mn y).desc = some sig → n = sig.parameters.length := by
  intro sig h
  have h2 := hF.2.2.1.2.2
  rw [h] at h2
  exact (Option.some.inj h2).symm
theorem am_cb (hts : ∀ w ∈ am_GW, w.before args s = true) {y n ix mc ms : Nat} (hF : am_mf y n) (hw : Cond.methodLink (am_cn own) ix (am_mn y) ∈ am_GW) (hfr2 : 3 + d ≤ R.frames) (hlo2 : 120 + 40 * d ≤ R.locals) :
    CallB R s args (am_cn own) ix (am_mn y) (am_mb y) (am_ml y) (am_mr y) (am_ws y) (am_rm d mc ms) mc ms n := by
  have h21 := hF.2.2.2
  exact ⟨rfl, rfl, by show 2 + d + 1 ≤ _; omega, by show 8 + (am_ml y + 11) + (80 + 40 * d) ≤ _; omega, am_wsok hts hF, List.mem_cons_self, hts _ hF.1, hts _ hF.2.1, ⟨hF.2.2.1.1, hF.2.2.1.2.1⟩, am_len hF, hts _ hw⟩
theorem am_cnn (hts : ∀ w ∈ am_GW, w.before args s = true) {y n ix mc ms : Nat} {host : String} (hF : am_mf y n) (hw : Cond.methodLinkNest (am_cn own) ix (am_mn y) host ∈ am_GW) (hfr2 : 3 + d ≤ R.frames) (hlo2 : 120 + 40 * d ≤ R.locals) :
    va_CN R s args (am_cn own) ix (am_mn y) host (am_mb y) (am_ml y) (am_mr y) (am_ws y) (am_rm d mc ms) mc ms n := by
  have h21 := hF.2.2.2
  exact ⟨⟨rfl, rfl, by show 2 + d + 1 ≤ _; omega, by show 8 + (am_ml y + 11) + (80 + 40 * d) ≤ _; omega, am_wsok hts hF, List.mem_cons_self⟩, hts _ hF.1, hts _ hF.2.1, ⟨hF.2.2.1.1, hF.2.2.1.2.1⟩, am_len hF, hts _ hw⟩
theorem am_decl (hts : ∀ w ∈ am_GW, w.before args s = true) {y : Nat} (hw2 : Cond.instanceMethod (am_mn y) ∈ am_GW) (hc : am_cw y ∈ am_GW) : va_Decl s (am_mn y) := va_Decl.of (hts _ hw2) (hts _ hc)
/-- an inherited method of a StringBuilder's -/
theorem am_cu (hts : ∀ w ∈ am_GW, w.before args s = true) {y n ix mc ms : Nat} {C9 : String} (hF : am_mf y n) (hw : Cond.methodLink (am_cn own) ix (am_mn y) ∈ am_GW) (hw2 : Cond.instanceMethod (am_mn y) ∈ am_GW) (hw3 : Cond.selects C9 (am_mn y) (am_mn y) ∈ am_GW) (hw4 : Cond.sameMethod (am_mn y).cls (am_mn y).cls (am_mn y).name (am_mn y).desc ∈ am_GW) (hfr2 : 3 + d ≤ R.frames) (hlo2 : 120 + 40 * d ≤ R.locals) :
    va_CU R s args (am_cn own) C9 (am_mn y).cls ix (am_mn y) (am_mn y) (am_mb y) (am_ml y) (am_mr y) (am_ws y) (am_rm d mc ms) mc ms n := by
  have h21 := hF.2.2.2
  exact ⟨⟨rfl, rfl, by show 2 + d + 1 ≤ _; omega, by show 8 + (am_ml y + 11) + (80 + 40 * d) ≤ _; omega, am_wsok hts hF, List.mem_cons_self⟩, hts _ hF.1, hts _ hF.2.1, ⟨hF.2.2.1.1, hF.2.2.1.2.1⟩, am_len hF, hts _ hw, hts _ hw4, am_decl hts hw2 hF.1, hts _ hw3, hts _ hw2⟩
/-- a private method of the class above a StringBuilder's is selected for it -/
theorem am_selp {s : State} {args : Array Value} {y z : MethodName} (hz : (Cond.selects RJ4 z z).before args s = true) (hc : y.cls = z.cls) (hy : y.cls ≠ "java/lang/invoke/MethodHandle" ∧ y.cls ≠ "java/lang/invoke/VarHandle") (hpriv : (Cond.privateMethod y).before args s = true) (hinst : (Cond.instanceMethod y).before args s = true) : (Cond.selects RJ4 y y).before args s = true := by
  obtain ⟨c, r, m, z1, z2, z3, z4, mk, z5, z6⟩ := Cond.selects_spec hz
  obtain ⟨mk2, methM, hnamed, hmethM, -, -⟩ := Cond.instanceMethod_spec hinst
  have hfound : s.methodFound? y.cls y.name y.desc = some mk2 := State.methodFound?_of_named hnamed hy
  have hcls : mk2.cls = m.cls := by
    have h1 := findClass_of_methodNamed hnamed
    have h2 := findClass_of_methodNamed z3
    rw [hc] at h1
    exact Option.some.inj (h1.symm.trans h2)
  have hsel : selectMethod {} s.vm c mk2 = .method mk2 := selectMethod_private hmethM (Cond.privateMethod_at hpriv mk2 methM hnamed hmethM)
  simp only [Cond.before, Cond.holds, Cond.value, z1, hfound, hnamed, hsel, hcls, z5]
  simp
  exact z6
/-- a method that a StringBuilder overrides -/
theorem am_co9 (hts : ∀ w ∈ am_GW, w.before args s = true) {y z n ix mc ms : Nat} {C9 : String} (hF : am_mf y n) (hz : am_mf z n) (hw : Cond.methodLink (am_cn own) ix (am_mn z) ∈ am_GW) (hw2 : Cond.instanceMethod (am_mn y) ∈ am_GW) (hz2 : Cond.instanceMethod (am_mn z) ∈ am_GW) (hw3 : Cond.selects C9 (am_mn z) (am_mn y) ∈ am_GW) (hw4 : Cond.sameMethod (am_mn z).cls (am_mn z).cls (am_mn z).name (am_mn z).desc ∈ am_GW) (hfr2 : 3 + d ≤ R.frames) (hlo2 : 120 + 40 * d ≤ R.locals) :
    va_CU R s args (am_cn own) C9 (am_mn z).cls ix (am_mn z) (am_mn y) (am_mb y) (am_ml y) (am_mr y) (am_ws y) (am_rm d mc ms) mc ms n := by
  have h21 := hF.2.2.2
  exact ⟨⟨rfl, rfl, by show 2 + d + 1 ≤ _; omega, by show 8 + (am_ml y + 11) + (80 + 40 * d) ≤ _; omega, am_wsok hts hF, List.mem_cons_self⟩, hts _ hF.1, hts _ hF.2.1, ⟨hz.2.2.1.1, hz.2.2.1.2.1⟩, am_len hz, hts _ hw, hts _ hw4, am_decl hts hz2 hz.1, hts _ hw3, hts _ hw2⟩
theorem am_csu (hts : ∀ w ∈ am_GW, w.before args s = true) {y n ix mc ms : Nat} (hF : am_mf y n) (hw : Cond.methodLink (am_cn own) ix (am_mn y) ∈ am_GW) (hw2 : Cond.instanceMethod (am_mn y) ∈ am_GW) (hw4 : Cond.sameMethod (am_mn y).cls (am_mn y).cls (am_mn y).name (am_mn y).desc ∈ am_GW) (hw5 : Cond.superclass (am_cn own) (am_mn y).cls ∈ am_GW) (hno : (am_mn y).name ≠ "<init>") (hfr2 : 3 + d ≤ R.frames) (hlo2 : 120 + 40 * d ≤ R.locals) :
    va_CS R s args (am_cn own) ix (am_mn y) (am_mb y) (am_ml y) (am_mr y) (am_ws y) (am_rm d mc ms) mc ms n := by
  have h21 := hF.2.2.2
  exact ⟨⟨rfl, rfl, by show 2 + d + 1 ≤ _; omega, by show 8 + (am_ml y + 11) + (80 + 40 * d) ≤ _; omega, am_wsok hts hF, List.mem_cons_self⟩, hts _ hw, hts _ hw4, hts _ hw5, hts _ hw2, hts _ hF.2.1, hts _ hF.1, hno, am_len hF⟩
theorem am_cif (hts : ∀ w ∈ am_GW, w.before args s = true) (hK : am_Kk E s s.heap) {y n ix mc ms : Nat} (hF : am_mf y n) (hy : y ∈ am_if) (hw : Cond.methodLink (am_cn own) ix (am_im y) ∈ am_GW) (hw2 : Cond.instanceMethod (am_mn y) ∈ am_GW) (hw3 : Cond.selects (am_mn y).cls (am_im y) (am_mn y) ∈ am_GW) (hlen : (parseMethodDescriptor (am_im y).desc).map (fun d => d.parameters.length) = some n) (hfr2 : 3 + d ≤ R.frames) (hlo2 : 120 + 40 * d ≤ R.locals) :
    va_CI R s args (am_cn own) (am_mn y).cls ix (am_im y) (am_mn y) (am_mb y) (am_ml y) (am_mr y) (am_ws y) (am_rm d mc ms) mc ms n := by
  have h21 := hF.2.2.2
  have hW := hK.2.2.2.1 y hy
  refine ⟨⟨rfl, rfl, by show 2 + d + 1 ≤ _; omega, by show 8 + (am_ml y + 11) + (80 + 40 * d) ≤ _; omega, am_wsok hts hF, List.mem_cons_self⟩, hts _ hw, va_any rfl hW.1, va_any rfl hW.2.1, hts _ hw3, hts _ hw2, va_any rfl hW.2.2.1, va_any rfl hW.2.2.2.1, va_any rfl hW.2.2.2.2, hts _ hF.2.1, hts _ hF.1, am_if_ok y hy, fun sig h => ?_⟩
  rw [h] at hlen
  exact (Option.some.inj hlen).symm
theorem so_invV (X : am_Cx p l R s mt args meth c cc nL own E m0 r) {ix y n t : Nat} (hy : am_pr y = true) (hF : am_mf y n) (hw : Cond.methodLink (am_cn own) ix (am_mn y) ∈ am_GW) {ci : Nat} (hw2 : Cond.instanceMethod (am_mn y) ∈ am_GW) (hw3 : Cond.selects (am_mn y).cls (am_mn y) (am_mn y) ∈ am_GW) (hcl : (am_vc ci).1 = (am_mn y).cls) (hd : decode cc pc = .ok (.invokevirtual ix, 3)) (hk9 : am_G p l e R s mt args below meth c nL E Q m0 r (k) (pc + 3)) (hC : am_Con l E d C) (hCm : am_Cm C) (hmo : ∀ L S m, k L S m = some r → am_le m r) (hfr2 : 3 + d ≤ R.frames) (hlo2 : 120 + 40 * d ≤ R.locals) :
    am_G p l e R s mt args below meth c nL E Q m0 r (fun L S m => q_r (S.drop n) fun b R => bif (am_w R).ble 8 then gq_ (gk_ m b = (1, ci)) (am_cc hd9 pc (C y (.ref b :: (S.take n).reverse) m) t (k L) R) else none) (pc) := by
  intro L S m H locs cells slots ls h hL hP
  obtain ⟨hx, hb, hml, hown, hts, hlk, hst, hK, hN, hrm, hfr, hlo⟩ := X
  obtain ⟨v0, S2, hS2, h9⟩ := q_r_I h
  obtain ⟨h8, h9⟩ := am_bif h9
  have h8 := am_w8 h8
  obtain ⟨hg, h9⟩ := gq_I h9
  obtain ⟨hln, hSe⟩ := am_drop_cons hS2
  obtain ⟨r1, hr1, hcs⟩ := am_cc_I h9
  obtain ⟨⟨c1, c2, c3⟩, c4⟩ := hCm y _ m r1 hr1
  obtain ⟨v9, hv9, h9⟩ : ∃ v, r1.1 = .inl v ∧ k L (v.toList ++ S2) r1.2 = some r := by
    rcases hcs with h | ⟨j, hj, hj2⟩
    · exact h
    · rw [am_xc_r hj2, c4 j hj] at hst
      cases hst
  obtain ⟨hle1, hle2, hle3⟩ := hmo _ _ _ h9
  have hM := hC y _ m r1 hy hr1 (hle3 hst)
  have hp1 := hP.2.2.1
  have hp2 := hP.2.2.2
  have hpre := am_pre hK hP (.ref v0 :: (S.take n).reverse)
  obtain ⟨-, hci, cell, q1, q2, q3, -⟩ := (hP.1.1 v0).1 (by rw [hg])
  rw [hg] at q2 hci
  have hfc := (hK.1.1 ci _ (am_vc_get ci hci)).2.1
  rw [hcl] at hfc
  have hrun := va_runV (l := l) (e := e) (R := R) (below := below) (meth := meth) (locs := locs) (cells := cells) (slots := slots) (n := n) (b := v0) (As := (S.take n).reverse) (rest := S2) (g := F0 mt pc ls S) ⟨hx, hb, hml, hown, hts⟩ hM ⟨am_cb (d := d) hts hF hw hfr2 hlo2, hts _ hw2, hts _ hw3⟩ ⟨hpre.1, ⟨cell, q1, by rw [q3]; rfl, by rw [q2]; exact hfc⟩, hpre.2⟩ rfl (by rw [List.length_reverse, hln]) hL.1 (by rw [List.reverse_reverse]; exact hSe) (lv_room h8) hd ⟨by omega, by omega⟩
  refine so_run hrun hP (by omega) (by omega) (fun v H1 locs1 hv hP1 => ?_)
  rw [hv9] at hv
  cases hv
  exact hk9 _ _ _ _ _ _ _ _ h9 hL hP1
theorem so_invU (X : am_Cx p l R s mt args meth c cc nL own E m0 r) {ix y n t : Nat} (hy : am_pr y = true) (hF : am_mf y n) (hw : Cond.methodLink (am_cn own) ix (am_mn y) ∈ am_GW) {ci : Nat} (hw2 : Cond.instanceMethod (am_mn y) ∈ am_GW) (hw3 : Cond.selects (am_vc ci).1 (am_mn y) (am_mn y) ∈ am_GW) (hw4 : Cond.sameMethod (am_mn y).cls (am_mn y).cls (am_mn y).name (am_mn y).desc ∈ am_GW) (hd : decode cc pc = .ok (.invokevirtual ix, 3)) (hk9 : am_G p l e R s mt args below meth c nL E Q m0 r (k) (pc + 3)) (hC : am_Con l E d C) (hCm : am_Cm C) (hmo : ∀ L S m, k L S m = some r → am_le m r) (hfr2 : 3 + d ≤ R.frames) (hlo2 : 120 + 40 * d ≤ R.locals) :
    am_G p l e R s mt args below meth c nL E Q m0 r (fun L S m => q_r (S.drop n) fun b R => bif (am_w R).ble 8 then gq_ (gk_ m b = (1, ci)) (am_cc hd9 pc (C y (.ref b :: (S.take n).reverse) m) t (k L) R) else none) (pc) := by
  intro L S m H locs cells slots ls h hL hP
  obtain ⟨hx, hb, hml, hown, hts, hlk, hst, hK, hN, hrm, hfr, hlo⟩ := X
  obtain ⟨v0, S2, hS2, h9⟩ := q_r_I h
  obtain ⟨h8, h9⟩ := am_bif h9
  have h8 := am_w8 h8
  obtain ⟨hg, h9⟩ := gq_I h9
  obtain ⟨hln, hSe⟩ := am_drop_cons hS2
  obtain ⟨r1, hr1, hcs⟩ := am_cc_I h9
  obtain ⟨⟨c1, c2, c3⟩, c4⟩ := hCm y _ m r1 hr1
  obtain ⟨v9, hv9, h9⟩ : ∃ v, r1.1 = .inl v ∧ k L (v.toList ++ S2) r1.2 = some r := by
    rcases hcs with h | ⟨j, hj, hj2⟩
    · exact h
    · rw [am_xc_r hj2, c4 j hj] at hst
      cases hst
  obtain ⟨hle1, hle2, hle3⟩ := hmo _ _ _ h9
  have hM := hC y _ m r1 hy hr1 (hle3 hst)
  have hp1 := hP.2.2.1
  have hp2 := hP.2.2.2
  have hpre := am_pre hK hP (.ref v0 :: (S.take n).reverse)
  obtain ⟨-, hci, cell, q1, q2, q3, -⟩ := (hP.1.1 v0).1 (by rw [hg])
  rw [hg] at q2 hci
  have hfc := (hK.1.1 ci _ (am_vc_get ci hci)).2.1
  have hrun := va_runU (l := l) (e := e) (R := R) (below := below) (meth := meth) (locs := locs) (cells := cells) (slots := slots) (n := n) (b := v0) (As := (S.take n).reverse) (rest := S2) (g := F0 mt pc ls S) ⟨hx, hb, hml, hown, hts⟩ hM (am_cu (d := d) hts hF hw hw2 hw3 hw4 hfr2 hlo2) ⟨hpre.1, ⟨cell, q1, by rw [q3]; rfl, by rw [q2]; exact hfc⟩, hpre.2⟩ rfl (by rw [List.length_reverse, hln]) hL.1 (by rw [List.reverse_reverse]; exact hSe) (lv_room h8) hd ⟨by omega, by omega⟩
  refine so_run hrun hP (by omega) (by omega) (fun v H1 locs1 hv hP1 => ?_)
  rw [hv9] at hv
  cases hv
  exact hk9 _ _ _ _ _ _ _ _ h9 hL hP1
theorem so_invO (X : am_Cx p l R s mt args meth c cc nL own E m0 r) {ix y n t : Nat} (hy : am_pr y = true) (hF : am_mf y n) {ci z : Nat} (hw2 : Cond.instanceMethod (am_mn y) ∈ am_GW) (hz : am_mf z n) (hz2 : Cond.instanceMethod (am_mn z) ∈ am_GW) (hwz : Cond.methodLink (am_cn own) ix (am_mn z) ∈ am_GW) (hw3 : Cond.selects (am_vc ci).1 (am_mn z) (am_mn y) ∈ am_GW) (hw4 : Cond.sameMethod (am_mn z).cls (am_mn z).cls (am_mn z).name (am_mn z).desc ∈ am_GW) (hd : decode cc pc = .ok (.invokevirtual ix, 3)) (hk9 : am_G p l e R s mt args below meth c nL E Q m0 r (k) (pc + 3)) (hC : am_Con l E d C) (hCm : am_Cm C) (hmo : ∀ L S m, k L S m = some r → am_le m r) (hfr2 : 3 + d ≤ R.frames) (hlo2 : 120 + 40 * d ≤ R.locals) :
    am_G p l e R s mt args below meth c nL E Q m0 r (fun L S m => q_r (S.drop n) fun b R => bif (am_w R).ble 8 then gq_ (gk_ m b = (1, ci)) (am_cc hd9 pc (C y (.ref b :: (S.take n).reverse) m) t (k L) R) else none) (pc) := by
  intro L S m H locs cells slots ls h hL hP
  obtain ⟨hx, hb, hml, hown, hts, hlk, hst, hK, hN, hrm, hfr, hlo⟩ := X
  obtain ⟨v0, S2, hS2, h9⟩ := q_r_I h
  obtain ⟨h8, h9⟩ := am_bif h9
  have h8 := am_w8 h8
  obtain ⟨hg, h9⟩ := gq_I h9
  obtain ⟨hln, hSe⟩ := am_drop_cons hS2
  obtain ⟨r1, hr1, hcs⟩ := am_cc_I h9
  obtain ⟨⟨c1, c2, c3⟩, c4⟩ := hCm y _ m r1 hr1
  obtain ⟨v9, hv9, h9⟩ : ∃ v, r1.1 = .inl v ∧ k L (v.toList ++ S2) r1.2 = some r := by
    rcases hcs with h | ⟨j, hj, hj2⟩
    · exact h
    · rw [am_xc_r hj2, c4 j hj] at hst
      cases hst
  obtain ⟨hle1, hle2, hle3⟩ := hmo _ _ _ h9
  have hM := hC y _ m r1 hy hr1 (hle3 hst)
  have hp1 := hP.2.2.1
  have hp2 := hP.2.2.2
  have hpre := am_pre hK hP (.ref v0 :: (S.take n).reverse)
  obtain ⟨-, hci, cell, q1, q2, q3, -⟩ := (hP.1.1 v0).1 (by rw [hg])
  rw [hg] at q2 hci
  have hfc := (hK.1.1 ci _ (am_vc_get ci hci)).2.1
  have hrun := va_runU (l := l) (e := e) (R := R) (below := below) (meth := meth) (locs := locs) (cells := cells) (slots := slots) (n := n) (b := v0) (As := (S.take n).reverse) (rest := S2) (g := F0 mt pc ls S) ⟨hx, hb, hml, hown, hts⟩ hM (am_co9 (d := d) hts hF hz hwz hw2 hz2 hw3 hw4 hfr2 hlo2) ⟨hpre.1, ⟨cell, q1, by rw [q3]; rfl, by rw [q2]; exact hfc⟩, hpre.2⟩ rfl (by rw [List.length_reverse, hln]) hL.1 (by rw [List.reverse_reverse]; exact hSe) (lv_room h8) hd ⟨by omega, by omega⟩
  refine so_run hrun hP (by omega) (by omega) (fun v H1 locs1 hv hP1 => ?_)
  rw [hv9] at hv
  cases hv
  exact hk9 _ _ _ _ _ _ _ _ h9 hL hP1
theorem so_invF (X : am_Cx p l R s mt args meth c cc nL own E m0 r) {ix y n t : Nat} (hy : am_pr y = true) (hF : am_mf y n) (hw : Cond.methodLink (am_cn own) ix (am_im y) ∈ am_GW) {ci ct : Nat} (hw2 : Cond.instanceMethod (am_mn y) ∈ am_GW) (hif : y ∈ am_if) (hw3 : Cond.selects (am_mn y).cls (am_im y) (am_mn y) ∈ am_GW) (hlen : (parseMethodDescriptor (am_im y).desc).map (fun d => d.parameters.length) = some n) (hcl : (am_vc ci).1 = (am_mn y).cls) (hd : decode cc pc = .ok (.invokeinterface ix ct, 5)) (hk9 : am_G p l e R s mt args below meth c nL E Q m0 r (k) (pc + 5)) (hC : am_Con l E d C) (hCm : am_Cm C) (hmo : ∀ L S m, k L S m = some r → am_le m r) (hfr2 : 3 + d ≤ R.frames) (hlo2 : 120 + 40 * d ≤ R.locals) :
    am_G p l e R s mt args below meth c nL E Q m0 r (fun L S m => q_r (S.drop n) fun b R => bif (am_w R).ble 8 then gq_ (gk_ m b = (1, ci)) (am_cc hd9 pc (C y (.ref b :: (S.take n).reverse) m) t (k L) R) else none) (pc) := by
  intro L S m H locs cells slots ls h hL hP
  obtain ⟨hx, hb, hml, hown, hts, hlk, hst, hK, hN, hrm, hfr, hlo⟩ := X
  obtain ⟨v0, S2, hS2, h9⟩ := q_r_I h
  obtain ⟨h8, h9⟩ := am_bif h9
  have h8 := am_w8 h8
  obtain ⟨hg, h9⟩ := gq_I h9
  obtain ⟨hln, hSe⟩ := am_drop_cons hS2
  obtain ⟨r1, hr1, hcs⟩ := am_cc_I h9
  obtain ⟨⟨c1, c2, c3⟩, c4⟩ := hCm y _ m r1 hr1
  obtain ⟨v9, hv9, h9⟩ : ∃ v, r1.1 = .inl v ∧ k L (v.toList ++ S2) r1.2 = some r := by
    rcases hcs with h | ⟨j, hj, hj2⟩
    · exact h
    · rw [am_xc_r hj2, c4 j hj] at hst
      cases hst
  obtain ⟨hle1, hle2, hle3⟩ := hmo _ _ _ h9
  have hM := hC y _ m r1 hy hr1 (hle3 hst)
  have hp1 := hP.2.2.1
  have hp2 := hP.2.2.2
  have hpre := am_pre hK hP (.ref v0 :: (S.take n).reverse)
  obtain ⟨-, hci, cell, q1, q2, q3, -⟩ := (hP.1.1 v0).1 (by rw [hg])
  rw [hg] at q2 hci
  have hfc := (hK.1.1 ci _ (am_vc_get ci hci)).2.1
  have hat := (hK.1.1 ci _ (am_vc_get ci hci)).2
  rw [hcl] at hfc hat
  have hrun := va_runF (l := l) (e := e) (R := R) (below := below) (meth := meth) (locs := locs) (cells := cells) (slots := slots) (n := n) (b := v0) (As := (S.take n).reverse) (rest := S2) (g := F0 mt pc ls S) hat ⟨hx, hb, hml, hown, hts⟩ hM (am_cif (d := d) hts hK hF hif hw hw2 hw3 hlen hfr2 hlo2) ⟨hpre.1, ⟨cell, q1, by rw [q3]; rfl, by rw [q2]; exact hfc⟩, hpre.2⟩ rfl (by rw [List.length_reverse, hln]) hL.1 (by rw [List.reverse_reverse]; exact hSe) (lv_room h8) hd ⟨by omega, by omega⟩
  refine so_run5 hrun hP (by omega) (by omega) (fun v H1 locs1 hv hP1 => ?_)
  rw [hv9] at hv
  cases hv
  exact hk9 _ _ _ _ _ _ _ _ h9 hL hP1
theorem so_invSU (X : am_Cx p l R s mt args meth c cc nL own E m0 r) {ix y n t : Nat} (hy : am_pr y = true) (hF : am_mf y n) (hw : Cond.methodLink (am_cn own) ix (am_mn y) ∈ am_GW) (hw2 : Cond.instanceMethod (am_mn y) ∈ am_GW) (hw4 : Cond.sameMethod (am_mn y).cls (am_mn y).cls (am_mn y).name (am_mn y).desc ∈ am_GW) (hw5 : Cond.superclass (am_cn own) (am_mn y).cls ∈ am_GW) (hno : (am_mn y).name ≠ "<init>") (hd : decode cc pc = .ok (.invokespecial ix, 3)) (hk9 : am_G p l e R s mt args below meth c nL E Q m0 r (k) (pc + 3)) (hC : am_Con l E d C) (hCm : am_Cm C) (hmo : ∀ L S m, k L S m = some r → am_le m r) (hfr2 : 3 + d ≤ R.frames) (hlo2 : 120 + 40 * d ≤ R.locals) :
    am_G p l e R s mt args below meth c nL E Q m0 r (fun L S m => q_r (S.drop n) fun b R => bif (am_w R).ble 8 then gq_ (gk_ m b = (1, 13)) (am_cc hd9 pc (C y (.ref b :: (S.take n).reverse) m) t (k L) R) else none) (pc) := by
  intro L S m H locs cells slots ls h hL hP
  obtain ⟨hx, hb, hml, hown, hts, hlk, hst, hK, hN, hrm, hfr, hlo⟩ := X
  obtain ⟨v0, S2, hS2, h9⟩ := q_r_I h
  obtain ⟨h8, h9⟩ := am_bif h9
  have h8 := am_w8 h8
  obtain ⟨hg, h9⟩ := gq_I h9
  obtain ⟨hln, hSe⟩ := am_drop_cons hS2
  obtain ⟨r1, hr1, hcs⟩ := am_cc_I h9
  obtain ⟨⟨c1, c2, c3⟩, c4⟩ := hCm y _ m r1 hr1
  obtain ⟨v9, hv9, h9⟩ : ∃ v, r1.1 = .inl v ∧ k L (v.toList ++ S2) r1.2 = some r := by
    rcases hcs with h | ⟨j, hj, hj2⟩
    · exact h
    · rw [am_xc_r hj2, c4 j hj] at hst
      cases hst
  obtain ⟨hle1, hle2, hle3⟩ := hmo _ _ _ h9
  have hM := hC y _ m r1 hy hr1 (hle3 hst)
  have hp1 := hP.2.2.1
  have hp2 := hP.2.2.2
  have hpre := am_pre hK hP (.ref v0 :: (S.take n).reverse)
  obtain ⟨-, hci, cell, q1, q2, q3, -⟩ := (hP.1.1 v0).1 (by rw [hg])
  rw [hg] at q2 hci
  have hfc := (hK.1.1 13 _ (am_vc_get 13 (by decide))).2.1
  have hat := (hK.1.1 13 _ (am_vc_get 13 (by decide))).2
  have hrun := va_runSU (l := l) (e := e) (R := R) (below := below) (meth := meth) (locs := locs) (cells := cells) (slots := slots) (n := n) (b := v0) (As := (S.take n).reverse) (rest := S2) (g := F0 mt pc ls S) hat ⟨hx, hb, hml, hown, hts⟩ hM (am_csu (d := d) hts hF hw hw2 hw4 hw5 hno hfr2 hlo2) ⟨hpre.1, ⟨cell, q1, by rw [q3]; rfl, by rw [q2]; exact hfc⟩, hpre.2⟩ rfl (by rw [List.length_reverse, hln]) hL.1 (by rw [List.reverse_reverse]; exact hSe) (lv_room h8) hd ⟨by omega, by omega⟩
  refine so_run hrun hP (by omega) (by omega) (fun v H1 locs1 hv hP1 => ?_)
  rw [hv9] at hv
  cases hv
  exact hk9 _ _ _ _ _ _ _ _ h9 hL hP1
theorem so_invT (X : am_Cx p l R s mt args meth c cc nL own E m0 r) {ix y n t : Nat} (hy : am_pr y = true) (hF : am_mf y n) (hw : Cond.methodLink (am_cn own) ix (am_mn y) ∈ am_GW) (hw2 : Cond.instanceMethod (am_mn y) ∈ am_GW) (hw3 : Cond.selects (am_mn y).cls (am_mn y) (am_mn y) ∈ am_GW) (hcl : (am_mn y).cls = "java/lang/String") (hd : decode cc pc = .ok (.invokevirtual ix, 3)) (hk9 : am_G p l e R s mt args below meth c nL E Q m0 r (k) (pc + 3)) (hC : am_Con l E d C) (hCm : am_Cm C) (hmo : ∀ L S m, k L S m = some r → am_le m r) (hfr2 : 3 + d ≤ R.frames) (hlo2 : 120 + 40 * d ≤ R.locals) :
    am_G p l e R s mt args below meth c nL E Q m0 r (fun L S m => q_r (S.drop n) fun b R => bif (am_w R).ble 8 then gq_ (gk_ m b = (1, 14) ∨ (gk_ m b).1 = 8) (am_cc hd9 pc (C y (.ref b :: (S.take n).reverse) m) t (k L) R) else none) (pc) := by
  intro L S m H locs cells slots ls h hL hP
  obtain ⟨hx, hb, hml, hown, hts, hlk, hst, hK, hN, hrm, hfr, hlo⟩ := X
  obtain ⟨v0, S2, hS2, h9⟩ := q_r_I h
  obtain ⟨h8, h9⟩ := am_bif h9
  have h8 := am_w8 h8
  obtain ⟨hg, h9⟩ := gq_I h9
  obtain ⟨hln, hSe⟩ := am_drop_cons hS2
  obtain ⟨r1, hr1, hcs⟩ := am_cc_I h9
  obtain ⟨⟨c1, c2, c3⟩, c4⟩ := hCm y _ m r1 hr1
  obtain ⟨v9, hv9, h9⟩ : ∃ v, r1.1 = .inl v ∧ k L (v.toList ++ S2) r1.2 = some r := by
    rcases hcs with h | ⟨j, hj, hj2⟩
    · exact h
    · rw [am_xc_r hj2, c4 j hj] at hst
      cases hst
  obtain ⟨hle1, hle2, hle3⟩ := hmo _ _ _ h9
  have hM := hC y _ m r1 hy hr1 (hle3 hst)
  have hp1 := hP.2.2.1
  have hp2 := hP.2.2.2
  have hpre := am_pre hK hP (.ref v0 :: (S.take n).reverse)
  have hcell : ∃ cell : Cell, H[v0]? = some cell ∧ cell.vm.isStatics = false ∧ s.vm.findClass (am_mn y).cls = some cell.cls := by
    rw [hcl]
    rcases hg with hg | hg
    · obtain ⟨-, -, cell, q1, q2, q3, -⟩ := (hP.1.1 v0).1 (by rw [hg])
      rw [hg] at q2
      exact ⟨cell, q1, by rw [q3]; rfl, by rw [q2]; exact (hK.1.1 14 _ (am_vc_get 14 (by decide))).2.1⟩
    · obtain ⟨i, hi, e1, -⟩ := (hP.1.1 v0).2.2.2.2.2.2.1 hg
      obtain ⟨⟨cell, q1, q2, q3, q4⟩, -⟩ := hK.2.2.2.2.1.2.1 i hi
      rw [e1]
      exact ⟨cell, by rw [hP.2.1.2.1 _ (Array.getElem?_eq_some_iff.mp q1).1 q4]; exact q1, q2, q3⟩
  have hrun := va_runV (l := l) (e := e) (R := R) (below := below) (meth := meth) (locs := locs) (cells := cells) (slots := slots) (n := n) (b := v0) (As := (S.take n).reverse) (rest := S2) (g := F0 mt pc ls S) ⟨hx, hb, hml, hown, hts⟩ hM ⟨am_cb (d := d) hts hF hw hfr2 hlo2, hts _ hw2, hts _ hw3⟩ ⟨hpre.1, hcell, hpre.2⟩ rfl (by rw [List.length_reverse, hln]) hL.1 (by rw [List.reverse_reverse]; exact hSe) (lv_room h8) hd ⟨by omega, by omega⟩
  refine so_run hrun hP (by omega) (by omega) (fun v H1 locs1 hv hP1 => ?_)
  rw [hv9] at hv
  cases hv
  exact hk9 _ _ _ _ _ _ _ _ h9 hL hP1
theorem so_invS (X : am_Cx p l R s mt args meth c cc nL own E m0 r) {ix y n t : Nat} (hy : am_pr y = true) (hF : am_mf y n) (hw : Cond.methodLink (am_cn own) ix (am_mn y) ∈ am_GW) (hw2 : Cond.static (am_mn y) ∈ am_GW) (hd : decode cc pc = .ok (.invokestatic ix, 3)) (hk9 : am_G p l e R s mt args below meth c nL E Q m0 r (k) (pc + 3)) (hC : am_Con l E d C) (hCm : am_Cm C) (hmo : ∀ L S m, k L S m = some r → am_le m r) (hfr2 : 3 + d ≤ R.frames) (hlo2 : 120 + 40 * d ≤ R.locals) :
    am_G p l e R s mt args below meth c nL E Q m0 r (fun L S m => bif (am_w (S.drop n)).ble 8 && n.ble S.length then am_cc hd9 pc (C y (S.take n).reverse m) t (k L) (S.drop n) else none) (pc) := by
  intro L S m H locs cells slots ls h hL hP
  obtain ⟨hx, hb, hml, hown, hts, hlk, hst, hK, hN, hrm, hfr, hlo⟩ := X
  obtain ⟨h8, h9⟩ := am_bif h
  rw [Bool.and_eq_true] at h8
  have hln := Nat.le_of_ble_eq_true h8.2
  have h8 := am_w8 h8.1
  obtain ⟨r1, hr1, hcs⟩ := am_cc_I h9
  obtain ⟨⟨c1, c2, c3⟩, c4⟩ := hCm y _ m r1 hr1
  obtain ⟨v9, hv9, h9⟩ : ∃ v, r1.1 = .inl v ∧ k L (v.toList ++ S.drop n) r1.2 = some r := by
    rcases hcs with h | ⟨j, hj, hj2⟩
    · exact h
    · rw [am_xc_r hj2, c4 j hj] at hst
      cases hst
  obtain ⟨hle1, hle2, hle3⟩ := hmo _ _ _ h9
  have hM := hC y _ m r1 hy hr1 (hle3 hst)
  have hp1 := hP.2.2.1
  have hp2 := hP.2.2.2
  have hpre := am_pre hK hP (S.take n).reverse
  have hrun := va_runS (l := l) (e := e) (R := R) (below := below) (meth := meth) (locs := locs) (cells := cells) (slots := slots) (n := n) (As := (S.take n).reverse) (rest := S.drop n) (g := F0 mt pc ls S) ⟨hx, hb, hml, hown, hts⟩ hM ⟨am_cb (d := d) hts hF hw hfr2 hlo2, hts _ hw2⟩ hpre rfl (by rw [List.length_reverse, List.length_take]; omega) hL.1 (by rw [List.reverse_reverse, List.take_append_drop]) (lv_room h8) hd ⟨by omega, by omega⟩
  refine so_run hrun hP (by first | omega | (show _ = gc_ m1; omega)) (by first | omega | (show _ = gs_ m1; omega)) (fun v H1 locs1 hv hP1 => ?_)
  rw [hv9] at hv
  cases hv
  exact hk9 _ _ _ _ _ _ _ _ h9 hL hP1
theorem am_c0_I {q : Option am_R} {f : am_M → Option am_R} {r : am_R} (h : am_c0 q f (fun _ _ => none) = some r) : ∃ m1, q = some (.inl none, m1) ∧ f m1 = some r := by
  rcases q with _ | ⟨(_ | v) | j, m⟩
  · cases h
  · exact ⟨m, rfl, h⟩
  · cases h
  · cases h
theorem am_ci_I {q : Option am_R} {f : Int32 → am_M → Option am_R} {r : am_R} (h : am_ci q f (fun _ _ => none) = some r) : ∃ v m1, q = some (.inl (some (.int v)), m1) ∧ f v m1 = some r := by
  rcases q with _ | ⟨(_ | v) | j, m⟩
  · cases h
  · cases h
  · cases v <;> first | exact ⟨_, _, rfl, h⟩ | cases h
  · cases h
theorem so_invI (X : am_Cx p l R s mt args meth c cc nL own E m0 r) {ix y n : Nat} (hy : am_pr y = true) (hF : am_mf y n) (hw : Cond.methodLink (am_cn own) ix (am_mn y) ∈ am_GW) (hw2 : Cond.instanceMethod (am_mn y) ∈ am_GW) (hini : (am_mn y).name = "<init>") (hret : am_mr y = none) (hd : decode cc pc = .ok (.invokespecial ix, 3)) (hk9 : am_G p l e R s mt args below meth c nL E Q m0 r (k) (pc + 3)) (hC : am_Con l E d C) (hCm : am_Cm C) (hmo : ∀ L S m, k L S m = some r → am_le m r) (hfr2 : 3 + d ≤ R.frames) (hlo2 : 120 + 40 * d ≤ R.locals) :
    am_G p l e R s mt args below meth c nL E Q m0 r (fun L S m => q_r (S.drop n) fun b R => bif (am_w R).ble 8 then am_c0 (C y (.ref b :: (S.take n).reverse) m) (fun m => k L R m) (fun _ _ => none) else none) (pc) := by
  intro L S m H locs cells slots ls h hL hP
  obtain ⟨hx, hb, hml, hown, hts, hlk, hst, hK, hN, hrm, hfr, hlo⟩ := X
  obtain ⟨v0, S2, hS2, h9⟩ := q_r_I h
  obtain ⟨h8, h9⟩ := am_bif h9
  have h8 := am_w8 h8
  obtain ⟨m1, hr1, h9⟩ := am_c0_I h9
  obtain ⟨hln, hSe⟩ := am_drop_cons hS2
  obtain ⟨hle1, hle2, hle3⟩ := hmo _ _ _ h9
  have hM := hC y _ m _ hy hr1 (hle3 hst)
  dsimp only at hM
  obtain ⟨⟨c1, c2, c3⟩, c4⟩ := hCm y _ m _ hr1
  have c1 : gc_ m ≤ gc_ m1 := c1
  have c2 : gs_ m ≤ gs_ m1 := c2
  have hp1 := hP.2.2.1
  have hp2 := hP.2.2.2
  have hpre := am_pre hK hP (.ref v0 :: (S.take n).reverse)
  have hcw := And.intro (am_cb (own := own) (R := R) (mc := gc_ m1 - gc_ m) (ms := gs_ m1 - gs_ m) (d := d) hts hF hw hfr2 hlo2) (And.intro hini (hts _ hw2))
  rw [hret] at hcw
  have hrun := va_runI (l := l) (e := e) (R := R) (below := below) (meth := meth) (locs := locs) (cells := cells) (slots := slots) (n := n) (b := v0) (As := (S.take n).reverse) (rest := S2) (g := F0 mt pc ls S) ⟨hx, hb, hml, hown, hts⟩ hM hcw hpre rfl (by rw [List.length_reverse, hln]) hL.1 (by rw [List.reverse_reverse]; exact hSe) (lv_room h8) hd ⟨by omega, by omega⟩
  refine so_run hrun hP (by show _ = gc_ m1; omega) (by show _ = gs_ m1; omega) (fun v H1 locs1 hv hP1 => ?_)
  cases hv
  exact hk9 _ _ _ _ _ _ _ _ h9 hL hP1
theorem so_invIN (X : am_Cx p l R s mt args meth c cc nL own E m0 r) {ix y n : Nat} {host : String} (hy : am_pr y = true) (hF : am_mf y n) (hw : Cond.methodLinkNest (am_cn own) ix (am_mn y) host ∈ am_GW) (hw2 : Cond.instanceMethod (am_mn y) ∈ am_GW) (hini : (am_mn y).name = "<init>") (hret : am_mr y = none) (hd : decode cc pc = .ok (.invokespecial ix, 3)) (hk9 : am_G p l e R s mt args below meth c nL E Q m0 r (k) (pc + 3)) (hC : am_Con l E d C) (hCm : am_Cm C) (hmo : ∀ L S m, k L S m = some r → am_le m r) (hfr2 : 3 + d ≤ R.frames) (hlo2 : 120 + 40 * d ≤ R.locals) :
    am_G p l e R s mt args below meth c nL E Q m0 r (fun L S m => q_r (S.drop n) fun b R => bif (am_w R).ble 8 then am_c0 (C y (.ref b :: (S.take n).reverse) m) (fun m => k L R m) (fun _ _ => none) else none) (pc) := by
  intro L S m H locs cells slots ls h hL hP
  obtain ⟨hx, hb, hml, hown, hts, hlk, hst, hK, hN, hrm, hfr, hlo⟩ := X
  obtain ⟨v0, S2, hS2, h9⟩ := q_r_I h
  obtain ⟨h8, h9⟩ := am_bif h9
  have h8 := am_w8 h8
  obtain ⟨m1, hr1, h9⟩ := am_c0_I h9
  obtain ⟨hln, hSe⟩ := am_drop_cons hS2
  obtain ⟨hle1, hle2, hle3⟩ := hmo _ _ _ h9
  have hM := hC y _ m _ hy hr1 (hle3 hst)
  dsimp only at hM
  obtain ⟨⟨c1, c2, c3⟩, c4⟩ := hCm y _ m _ hr1
  have c1 : gc_ m ≤ gc_ m1 := c1
  have c2 : gs_ m ≤ gs_ m1 := c2
  have hp1 := hP.2.2.1
  have hp2 := hP.2.2.2
  have hpre := am_pre hK hP (.ref v0 :: (S.take n).reverse)
  have hcw := And.intro (am_cnn (own := own) (R := R) (mc := gc_ m1 - gc_ m) (ms := gs_ m1 - gs_ m) (d := d) hts hF hw hfr2 hlo2) (And.intro hini (hts _ hw2))
  rw [hret] at hcw
  have hrun := va_runIN (l := l) (e := e) (R := R) (below := below) (meth := meth) (locs := locs) (cells := cells) (slots := slots) (n := n) (b := v0) (As := (S.take n).reverse) (rest := S2) (g := F0 mt pc ls S) ⟨hx, hb, hml, hown, hts⟩ hM hcw hpre rfl (by rw [List.length_reverse, hln]) hL.1 (by rw [List.reverse_reverse]; exact hSe) (lv_room h8) hd ⟨by omega, by omega⟩
  refine so_run hrun hP (by show _ = gc_ m1; omega) (by show _ = gs_ m1; omega) (fun v H1 locs1 hv hP1 => ?_)
  cases hv
  exact hk9 _ _ _ _ _ _ _ _ h9 hL hP1
theorem so_invSN (X : am_Cx p l R s mt args meth c cc nL own E m0 r) {ix y n : Nat} {host : String} (hy : am_pr y = true) (hF : am_mf y n) (hw : Cond.methodLinkNest (am_cn own) ix (am_mn y) host ∈ am_GW) (hw2 : Cond.static (am_mn y) ∈ am_GW) (hd : decode cc pc = .ok (.invokestatic ix, 3)) (hk9 : am_G p l e R s mt args below meth c nL E Q m0 r (k) (pc + 3)) (hC : am_Con l E d C) (hCm : am_Cm C) (hmo : ∀ L S m, k L S m = some r → am_le m r) (hfr2 : 3 + d ≤ R.frames) (hlo2 : 120 + 40 * d ≤ R.locals) :
    am_G p l e R s mt args below meth c nL E Q m0 r (fun L S m => bif (am_w (S.drop n)).ble 8 && n.ble S.length then am_ci (C y (S.take n).reverse m) (fun v m => k L (.int v :: S.drop n) m) (fun _ _ => none) else none) (pc) := by
  intro L S m H locs cells slots ls h hL hP
  obtain ⟨hx, hb, hml, hown, hts, hlk, hst, hK, hN, hrm, hfr, hlo⟩ := X
  obtain ⟨h8, h9⟩ := am_bif h
  rw [Bool.and_eq_true] at h8
  have hln := Nat.le_of_ble_eq_true h8.2
  have h8 := am_w8 h8.1
  obtain ⟨v9, m1, hr1, h9⟩ := am_ci_I h9
  obtain ⟨hle1, hle2, hle3⟩ := hmo _ _ _ h9
  have hM := hC y _ m _ hy hr1 (hle3 hst)
  dsimp only at hM
  obtain ⟨⟨c1, c2, c3⟩, c4⟩ := hCm y _ m _ hr1
  have c1 : gc_ m ≤ gc_ m1 := c1
  have c2 : gs_ m ≤ gs_ m1 := c2
  have hp1 := hP.2.2.1
  have hp2 := hP.2.2.2
  have hpre := am_pre hK hP (S.take n).reverse
  have hrun := va_runSN (l := l) (e := e) (R := R) (below := below) (meth := meth) (locs := locs) (cells := cells) (slots := slots) (n := n) (As := (S.take n).reverse) (rest := S.drop n) (g := F0 mt pc ls S) ⟨hx, hb, hml, hown, hts⟩ hM ⟨am_cnn (own := own) (R := R) (d := d) hts hF hw hfr2 hlo2, hts _ hw2, trivial⟩ hpre rfl (by rw [List.length_reverse, List.length_take]; omega) hL.1 (by rw [List.reverse_reverse, List.take_append_drop]) (lv_room h8) hd ⟨by omega, by omega⟩
  refine so_run hrun hP (by first | omega | (show _ = gc_ m1; omega)) (by first | omega | (show _ = gs_ m1; omega)) (fun v H1 locs1 hv hP1 => ?_)
  cases hv
  exact hk9 _ _ _ _ _ _ _ _ h9 hL hP1
theorem so_objInit (X : am_Cx p l R s mt args meth c cc nL own E m0 r) {ix : Nat} (hw : Cond.methodLink (am_cn own) ix Lib.objectInit ∈ am_GW) (hw2 : Cond.instanceMethod Lib.objectInit ∈ am_GW) (hw3 : Cond.code Lib.objectInit ⟨#[0xb1]⟩ 1 none ∈ am_GW) (hd : decode cc pc = .ok (.invokespecial ix, 3)) (hk9 : am_G p l e R s mt args below meth c nL E Q m0 r (k) (pc + 3)) : am_G p l e R s mt args below meth c nL E Q m0 r (fun L S m => q_r S fun _ S => bif (am_w S).ble 8 then k L S m else none) (pc) := by
  intro L S m H locs cells slots ls h hL hP
  obtain ⟨hx, hb, hml, hown, hts, hlk, hst, hK, hN, hrm, hfr, hlo⟩ := X
  obtain ⟨v0, S2, rfl, h9⟩ := q_r_I h
  obtain ⟨h8, h9⟩ := am_bif h9
  have h8 := am_w8 h8
  refine W.objInit hx hb hown (hts _ hw) (hts _ hw2) (hts _ hw3) rfl (by rw [hml]; exact hL.1) rfl hd (by omega) (by show 2 * 0 + _ + 12 ≤ _; omega) ?_
  exact hk9 _ _ _ _ _ _ _ _ h9 hL hP
end S5
