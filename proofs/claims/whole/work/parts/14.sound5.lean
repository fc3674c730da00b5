/-! calls -/
def am_cw (y : Nat) : Cond := match am_hh y with
  | [] => .code (am_mn y) (am_mb y) (am_ml y) (am_mr y)
  | h => .codeWith (am_mn y) (am_mb y) (am_ml y) (am_mr y) h
def am_ws (y : Nat) : List Cond := am_cw y :: am_GW
def am_rm (d mc ms : Nat) : Room := { frames := 12 + d, cells := mc, slots := ms, locals := 220 + 40 * d }
def am_Con (l : Launch) (E : am_E) (d : Nat) (C : Nat → List Value → am_M → Option am_R) : Prop :=
  ∀ (y : Nat) (as : List Value) (m : am_M) (r1 : am_R), y < 411 → C y as m = some r1 → vx_Met l (am_mn y) (am_ws y) (am_rm d (gc_ r1.2 - gc_ m) (gs_ r1.2 - gs_ m)) (am_Pc E as m) (am_Qc E r1) (am_XC E r1) (gc_ r1.2 - gc_ m) (gs_ r1.2 - gs_ m) (am_A E)
def am_Cm (C : Nat → List Value → am_M → Option am_R) : Prop := ∀ y as m r1, C y as m = some r1 → gc_ m ≤ gc_ r1.2 ∧ gs_ m ≤ gs_ r1.2
/-- what a callee's number says -/
def am_mf (y n : Nat) : Prop := am_cw y ∈ am_GW ∧ Cond.initialized (am_mn y).cls ∈ am_GW ∧ ((am_mn y).cls ≠ "java/lang/invoke/MethodHandle" ∧ (am_mn y).cls ≠ "java/lang/invoke/VarHandle" ∧ (parseMethodDescriptor (am_mn y).desc).map (fun d => d.parameters.length) = some n) ∧ am_ml y ≤ 21
theorem am_Pc_blind (E : am_E) (as : List Value) (m : am_M) : FrameBlind (am_Pc E as m) := by
  intro a U g mk h
  exact ⟨h.1, h.2.1, am_Kk.moved (u := U) (U := U.calling g mk a) (Vm.Alike.refl U.vm) (State.WarmedH.refl U) h.2.2⟩
theorem am_met {l : Launch} {y : MethodName} {ws : List Cond} {rm : Room} {Pc : Array Value → State → Prop} {E : am_E} {r1 : am_R} {mc ms : Nat} {free : Addr → Prop} {v : Option Value} (hv : r1.1 = .inl v) (h : vx_Met l y ws rm Pc (am_Qc E r1) (am_XC E r1) mc ms free) : Met l y ws rm Pc (am_Qc E r1) mc ms free := by
  intro p e a1 a2 a3 s m args below f ap hp hk
  obtain ⟨n, o, b1, b2, b3, b4⟩ := h p e a1 a2 a3 s m args below f ap hp hk
  refine ⟨n, o, b1, b2, b3, b4.elim id (fun z => ?_)⟩
  obtain ⟨q, -, En, ce, L, ⟨⟨j, hj, -⟩, -⟩, -⟩ := z
  rw [hv] at hj
  cases hj
theorem am_cc_I {hd : Nat → Nat → Option Int32} {pc : Nat} {q : Option am_R} {t : Nat} {k : List Value → am_M → Option am_R} {R : List Value} {r : am_R} (h : am_cc hd pc q t k R = some r) :
    ∃ r1, q = some r1 ∧ ((∃ v, r1.1 = .inl v ∧ k (v.toList ++ R) r1.2 = some r) ∨ (∃ j, r1.1 = .inr j ∧ am_xc hd pc j r1.2 = some r)) := by
  rcases t with _ | _ | _ | t
  · rcases q with _ | ⟨(_ | v) | j, m⟩
    · cases h
    · exact ⟨_, rfl, Or.inl ⟨none, rfl, h⟩⟩
    · cases h
    · exact ⟨_, rfl, Or.inr ⟨j, rfl, h⟩⟩
  · rcases q with _ | ⟨(_ | v) | j, m⟩
    · cases h
    · cases h
    · cases v <;> first | exact ⟨_, rfl, Or.inl ⟨_, rfl, h⟩⟩ | cases h
    · exact ⟨_, rfl, Or.inr ⟨j, rfl, h⟩⟩
  · rcases q with _ | ⟨(_ | v) | j, m⟩
    · cases h
    · cases h
    · cases v <;> first | exact ⟨_, rfl, Or.inl ⟨_, rfl, h⟩⟩ | cases h
    · exact ⟨_, rfl, Or.inr ⟨j, rfl, h⟩⟩
  · rcases q with _ | ⟨(_ | v) | j, m⟩
    · cases h
    · cases h
    · cases v <;> first | exact ⟨_, rfl, Or.inl ⟨_, rfl, h⟩⟩ | cases h
    · exact ⟨_, rfl, Or.inr ⟨j, rfl, h⟩⟩
theorem am_xc_r {hd : Nat → Nat → Option Int32} {pc j : Nat} {m : am_M} {r : am_R} (h : am_xc hd pc j m = some r) : r.2 = m := by
  unfold am_xc at h
  split at h <;> cases h <;> rfl
theorem am_drop_cons {α : Type} {S R : List α} {b : α} {n : Nat} (h : S.drop n = b :: R) : (S.take n).length = n ∧ S = S.take n ++ b :: R := by
  have hl : n < S.length := by
    rcases Nat.lt_or_ge n S.length with q | q
    · exact q
    · rw [List.drop_eq_nil_of_le q] at h
      cases h
  exact ⟨by rw [List.length_take]; omega, by rw [← h, List.take_append_drop]⟩
section S5
variable {p : Program} {l : Launch} {e : Env} {R : Room} {s : State} {mt : MethodId} {args : Array Value} {below : List Frame} {meth : Method} {c : Code} {nL own : Nat} {cc : ByteArray} {E : am_E} {Q : State → Prop} {m0 : am_M} {r : am_R} {pc : Nat} {k : am_L → List Value → am_M → Option am_R} {x : am_X}
variable {d : Nat} {C : Nat → List Value → am_M → Option am_R} {hd9 : Nat → Nat → Option Int32}
theorem so_run {H : Heap} {locs : List Loc} {cells slots mc ms : Nat} {ls : Array Slot} {st0 rest : List Value} {a : Array Value} {r1 : am_R} {m : am_M}
    (hr : vx_Run p l e R s mt args below meth c H locs cells slots mc ms (F0 mt pc ls st0) rest (am_Qc E r1 a) (am_XC E r1) (am_A E)) (hP : am_Pt E s H locs cells slots m0 m) (hmc : gc_ m + mc = gc_ r1.2) (hms : gs_ m + ms = gs_ r1.2)
    (kk : ∀ (v : Option Value) (H1 : Heap) (locs1 : List Loc), r1.1 = .inl v → am_Pt E s H1 locs1 (cells + mc) (slots + ms) m0 r1.2 → W p l e R s mt args below meth c (H1) (locs1) (cells + mc) (slots + ms) Q (F0 mt (pc + 3) ls (v.toList ++ rest)))
    (kx : ∀ (j : Nat) (q : Addr) (ce : Cell) (H1 : Heap) (locs1 : List Loc), r1.1 = .inr j → am_Pt E s H1 locs1 (cells + mc) (slots + ms) m0 r1.2 → H1[q]? = some ce → ce.vm = .none → s.vm.findClass (am_xn j) = some ce.cls → vx_W p l e R s mt args below meth c (H1) (locs1) (cells + mc) (slots + ms) Q (F0 mt pc ls rest) q) : W p l e R s mt args below meth c (H) (locs) (cells) (slots) Q (F0 mt pc ls st0) := by
  have hp1 := hP.2.2.1
  have hp2 := hP.2.2.2
  intro T hT X
  rcases hr T hT X with ⟨v, st₀, t, T', L, h0, X', hL, e1, e2, ⟨⟨v', hv1, hv2⟩, hR, hF⟩, st⟩ | ⟨q, st₀, t, T', L, En, ce, h0, X', hL, e1, e2, ⟨⟨j, hj, hEn⟩, hR, hF⟩, hce, hcv, hcl, st⟩
  · cases hv2
    obtain ⟨k1, k2, k3⟩ := vx_keep h0 e1 hP.2.1 (fun _ _ h => h) (fun _ h => h) hL hF
    obtain ⟨t2, a1, b1⟩ := kk v T'.heap (locs ++ L) hv1 ⟨by rw [e1]; exact hR, k3, by omega, by omega⟩ T' rfl X'
    exact ⟨t2, st t2 a1, b1⟩
  · obtain ⟨k1, k2, k3⟩ := vx_keep h0 e1 hP.2.1 (fun _ _ h => h) (fun _ h => h) hL hF
    obtain ⟨t2, a1, b1⟩ := kx j q ce T'.heap (locs ++ L) hj ⟨by rw [e1]; exact hR, k3, by omega, by omega⟩ (by rw [e1]; exact hce) hcv (by rw [← hEn]; exact hcl) T' rfl X'
    exact ⟨t2, st.trans a1, b1⟩
theorem am_pre (hK : am_Kk E s s.heap) {H : Heap} {locs : List Loc} {cells slots : Nat} {m : am_M} (hP : am_Pt E s H locs cells slots m0 m) (as : List Value) : PreS s H (am_Pc E as m) as := by
  refine ⟨am_Pc_blind E as m, fun U hU hW => ⟨rfl, by rw [hU]; exact hP.1, ?_⟩⟩
  rw [hU]
  exact am_Kk.moved hW.alike hW (hK.kept hP.2.1.1 (fun a h1 h2 => hP.2.1.2.1 a h1 h2))
theorem am_wsok (hts : ∀ w ∈ am_GW, w.before args s = true) {y n : Nat} (hF : am_mf y n) : ∀ w ∈ am_ws y, ∀ (a' : Array Value) (U : State), s.WarmedH U.vm → w.before a' U = true := by
  intro w hw a' U hW
  have hG : w ∈ am_GW := (List.mem_cons.mp hw).elim (fun e => by rw [e]; exact hF.1) id
  exact am_ow_warm (List.mem_filter.mp hG).2 hW (hts w hG)
theorem am_cwc {y : Nat} (h : am_hh y = []) : am_cw y = .code (am_mn y) (am_mb y) (am_ml y) (am_mr y) := by
  unfold am_cw
  rw [h]
theorem am_cww {y : Nat} (h : ¬ am_hh y = []) : am_cw y = .codeWith (am_mn y) (am_mb y) (am_ml y) (am_mr y) (am_hh y) := by
  unfold am_cw
  split
  · next q => exact absurd q h
  · rfl
theorem am_cb (hts : ∀ w ∈ am_GW, w.before args s = true) {y n ix mc ms : Nat} (hF : am_mf y n) (hh : am_hh y = []) (hw : Cond.methodLink (am_cn own) ix (am_mn y) ∈ am_GW) (hfr2 : 13 + d ≤ R.frames) (hlo2 : 260 + 40 * d ≤ R.locals) :
    CallB R s args (am_cn own) ix (am_mn y) (am_mb y) (am_ml y) (am_mr y) (am_ws y) (am_rm d mc ms) mc ms n := by
  have hc : Cond.code (am_mn y) (am_mb y) (am_ml y) (am_mr y) ∈ am_ws y := by rw [← am_cwc hh]; exact List.mem_cons_self
  have h21 := hF.2.2.2
  refine ⟨rfl, rfl, by show 12 + d + 1 ≤ _; omega, by show 8 + (am_ml y + 11) + (220 + 40 * d) ≤ _; omega, am_wsok hts hF, hc, hts _ (by rw [← am_cwc hh]; exact hF.1), hts _ hF.2.1, ⟨hF.2.2.1.1, hF.2.2.1.2.1⟩, fun sig h => ?_, hts _ hw⟩
  have h2 := hF.2.2.1.2.2
  rw [h] at h2
  exact (Option.some.inj h2).symm
theorem am_cnn (hts : ∀ w ∈ am_GW, w.before args s = true) {y n ix mc ms : Nat} (hF : am_mf y n) (hh : am_hh y = []) (hw : Cond.methodLinkNest (am_cn own) ix (am_mn y) "RoyaltyOffice" ∈ am_GW) (hfr2 : 13 + d ≤ R.frames) (hlo2 : 260 + 40 * d ≤ R.locals) :
    va_CN R s args (am_cn own) ix (am_mn y) "RoyaltyOffice" (am_mb y) (am_ml y) (am_mr y) (am_ws y) (am_rm d mc ms) mc ms n := by
  have hc : Cond.code (am_mn y) (am_mb y) (am_ml y) (am_mr y) ∈ am_ws y := by rw [← am_cwc hh]; exact List.mem_cons_self
  have h21 := hF.2.2.2
  refine ⟨⟨rfl, rfl, by show 12 + d + 1 ≤ _; omega, by show 8 + (am_ml y + 11) + (220 + 40 * d) ≤ _; omega, am_wsok hts hF, hc⟩, hts _ (by rw [← am_cwc hh]; exact hF.1), hts _ hF.2.1, ⟨hF.2.2.1.1, hF.2.2.1.2.1⟩, fun sig h => ?_, hts _ hw⟩
  have h2 := hF.2.2.1.2.2
  rw [h] at h2
  exact (Option.some.inj h2).symm
theorem so_invV {ci : Nat} (X : am_Cx p l R s mt args meth c cc nL own E m0 r) {ix y n t : Nat} (hy : y < 411) (hF : am_mf y n) (hh : am_hh y = []) (hw : Cond.methodLink (am_cn own) ix (am_mn y) ∈ am_GW) (hw2 : Cond.instanceMethod (am_mn y) ∈ am_GW) (hw3 : Cond.selects (am_mn y).cls (am_mn y) (am_mn y) ∈ am_GW) (hcl : (am_vc ci).1 = (am_mn y).cls) (hd : decode cc pc = .ok (.invokevirtual ix, 3)) (hk9 : am_G p l e R s mt args below meth c nL E Q m0 r (k) (pc + 3)) (hC : am_Con l E d C) (hCm : am_Cm C) (hmo : ∀ L S m, k L S m = some r → gc_ m ≤ gc_ r.2 ∧ gs_ m ≤ gs_ r.2) (hfr2 : 13 + d ≤ R.frames) (hlo2 : 260 + 40 * d ≤ R.locals) (hX9 : ∀ (j : Nat) (m1 : am_M) (L : am_L) (rest : List Value) (q : Addr) (ce : Cell) (H : Heap) (locs : List Loc) (cells slots : Nat) (ls : Array Slot), am_xc hd9 pc j m1 = some r → am_LH ls nL L → am_Pt E s H locs cells slots m0 m1 → H[q]? = some ce → ce.vm = .none → s.vm.findClass (am_xn j) = some ce.cls → vx_W p l e R s mt args below meth c (H) (locs) (cells) (slots) Q (F0 mt pc ls rest) q) :
    am_G p l e R s mt args below meth c nL E Q m0 r (fun L S m => q_r (S.drop n) fun b R => bif (am_w R).ble 8 then gq_ (gk_ m b = (1, ci)) (am_cc hd9 pc (C y (.ref b :: (S.take n).reverse) m) t (k L) R) else none) (pc) := by
  intro L S m H locs cells slots ls h hL hP
  obtain ⟨hx, hb, hml, hown, hts, hlk, hst, hK, hN, hrm, hfr, hlo⟩ := X
  obtain ⟨v0, S2, hS2, h9⟩ := q_r_I h
  obtain ⟨h8, h9⟩ := am_bif h9
  have h8 := am_w8 h8
  obtain ⟨hg, h9⟩ := gq_I h9
  obtain ⟨hln, hSe⟩ := am_drop_cons hS2
  obtain ⟨r1, hr1, hcs⟩ := am_cc_I h9
  have hM := hC y _ m r1 hy hr1
  obtain ⟨c1, c2⟩ := hCm y _ m r1 hr1
  have hp1 := hP.2.2.1
  have hp2 := hP.2.2.2
  have hle : gc_ r1.2 ≤ gc_ r.2 ∧ gs_ r1.2 ≤ gs_ r.2 := by
    rcases hcs with ⟨v, -, h⟩ | ⟨j, -, h⟩
    · exact hmo _ _ _ h
    · rw [am_xc_r h]
      exact ⟨Nat.le_refl _, Nat.le_refl _⟩
  obtain ⟨hle1, hle2⟩ := hle
  have hpre := am_pre hK hP (.ref v0 :: (S.take n).reverse)
  obtain ⟨-, hci, cell, q1, q2, q3, -⟩ := (hP.1.1 v0).1 (by rw [hg])
  rw [hg] at q2 hci
  have hfc := (hK.1.1 ci _ (am_vc_get ci hci)).2.1
  rw [hcl] at hfc
  have hrun := vx_runV (l := l) (e := e) (R := R) (below := below) (meth := meth) (locs := locs) (cells := cells) (slots := slots) (n := n) (b := v0) (As := (S.take n).reverse) (rest := S2) (g := F0 mt pc ls S) ⟨hx, hb, hml, hown, hts⟩ hM ⟨am_cb (d := d) hts hF hh hw hfr2 hlo2, hts _ hw2, hts _ hw3⟩ ⟨hpre.1, ⟨cell, q1, by rw [q3]; rfl, by rw [q2]; exact hfc⟩, hpre.2⟩ rfl (by rw [List.length_reverse, hln]) hL.1 (by rw [List.reverse_reverse]; exact hSe) (lv_room h8) hd ⟨by omega, by omega⟩
  refine so_run hrun hP (by omega) (by omega) (fun v H1 locs1 hv hP1 => ?_) (fun j q ce H1 locs1 hj hP1 g1 g2 g3 => ?_)
  · rcases hcs with ⟨v', hv', h⟩ | ⟨j, hj, -⟩
    · rw [hv] at hv'
      cases hv'
      exact hk9 _ _ _ _ _ _ _ _ h hL hP1
    · rw [hv] at hj
      cases hj
  · rcases hcs with ⟨v', hv', -⟩ | ⟨j', hj', h⟩
    · rw [hj] at hv'
      cases hv'
    · rw [hj] at hj'
      cases hj'
      exact hX9 _ _ _ _ _ _ _ _ _ _ _ h hL hP1 g1 g2 g3
theorem so_invVN {ci : Nat} (X : am_Cx p l R s mt args meth c cc nL own E m0 r) {ix y n t : Nat} (hy : y < 411) (hF : am_mf y n) (hh : am_hh y = []) (hw : Cond.methodLinkNest (am_cn own) ix (am_mn y) "RoyaltyOffice" ∈ am_GW) (hw2 : Cond.instanceMethod (am_mn y) ∈ am_GW) (hw3 : Cond.selects (am_mn y).cls (am_mn y) (am_mn y) ∈ am_GW) (hcl : (am_vc ci).1 = (am_mn y).cls) (hd : decode cc pc = .ok (.invokevirtual ix, 3)) (hk9 : am_G p l e R s mt args below meth c nL E Q m0 r (k) (pc + 3)) (hC : am_Con l E d C) (hCm : am_Cm C) (hmo : ∀ L S m, k L S m = some r → gc_ m ≤ gc_ r.2 ∧ gs_ m ≤ gs_ r.2) (hfr2 : 13 + d ≤ R.frames) (hlo2 : 260 + 40 * d ≤ R.locals) (hX9 : ∀ (j : Nat) (m1 : am_M) (L : am_L) (rest : List Value) (q : Addr) (ce : Cell) (H : Heap) (locs : List Loc) (cells slots : Nat) (ls : Array Slot), am_xc hd9 pc j m1 = some r → am_LH ls nL L → am_Pt E s H locs cells slots m0 m1 → H[q]? = some ce → ce.vm = .none → s.vm.findClass (am_xn j) = some ce.cls → vx_W p l e R s mt args below meth c (H) (locs) (cells) (slots) Q (F0 mt pc ls rest) q) :
    am_G p l e R s mt args below meth c nL E Q m0 r (fun L S m => q_r (S.drop n) fun b R => bif (am_w R).ble 8 then gq_ (gk_ m b = (1, ci)) (am_cc hd9 pc (C y (.ref b :: (S.take n).reverse) m) t (k L) R) else none) (pc) := by
  intro L S m H locs cells slots ls h hL hP
  obtain ⟨hx, hb, hml, hown, hts, hlk, hst, hK, hN, hrm, hfr, hlo⟩ := X
  obtain ⟨v0, S2, hS2, h9⟩ := q_r_I h
  obtain ⟨h8, h9⟩ := am_bif h9
  have h8 := am_w8 h8
  obtain ⟨hg, h9⟩ := gq_I h9
  obtain ⟨hln, hSe⟩ := am_drop_cons hS2
  obtain ⟨r1, hr1, hcs⟩ := am_cc_I h9
  have hM := hC y _ m r1 hy hr1
  obtain ⟨c1, c2⟩ := hCm y _ m r1 hr1
  have hp1 := hP.2.2.1
  have hp2 := hP.2.2.2
  have hle : gc_ r1.2 ≤ gc_ r.2 ∧ gs_ r1.2 ≤ gs_ r.2 := by
    rcases hcs with ⟨v, -, h⟩ | ⟨j, -, h⟩
    · exact hmo _ _ _ h
    · rw [am_xc_r h]
      exact ⟨Nat.le_refl _, Nat.le_refl _⟩
  obtain ⟨hle1, hle2⟩ := hle
  have hpre := am_pre hK hP (.ref v0 :: (S.take n).reverse)
  obtain ⟨-, hci, cell, q1, q2, q3, -⟩ := (hP.1.1 v0).1 (by rw [hg])
  rw [hg] at q2 hci
  have hfc := (hK.1.1 ci _ (am_vc_get ci hci)).2.1
  rw [hcl] at hfc
  have hrun := vx_runVN (l := l) (e := e) (R := R) (below := below) (meth := meth) (locs := locs) (cells := cells) (slots := slots) (n := n) (b := v0) (As := (S.take n).reverse) (rest := S2) (g := F0 mt pc ls S) ⟨hx, hb, hml, hown, hts⟩ hM ⟨am_cnn (own := own) (R := R) (d := d) hts hF hh hw hfr2 hlo2, hts _ hw2, hts _ hw3⟩ ⟨hpre.1, ⟨cell, q1, by rw [q3]; rfl, by rw [q2]; exact hfc⟩, hpre.2⟩ rfl (by rw [List.length_reverse, hln]) hL.1 (by rw [List.reverse_reverse]; exact hSe) (lv_room h8) hd ⟨by omega, by omega⟩
  refine so_run hrun hP (by omega) (by omega) (fun v H1 locs1 hv hP1 => ?_) (fun j q ce H1 locs1 hj hP1 g1 g2 g3 => ?_)
  · rcases hcs with ⟨v', hv', h⟩ | ⟨j, hj, -⟩
    · rw [hv] at hv'
      cases hv'
      exact hk9 _ _ _ _ _ _ _ _ h hL hP1
    · rw [hv] at hj
      cases hj
  · rcases hcs with ⟨v', hv', -⟩ | ⟨j', hj', h⟩
    · rw [hj] at hv'
      cases hv'
    · rw [hj] at hj'
      cases hj'
      exact hX9 _ _ _ _ _ _ _ _ _ _ _ h hL hP1 g1 g2 g3
theorem so_invS (X : am_Cx p l R s mt args meth c cc nL own E m0 r) {ix y n t : Nat} (hy : y < 411) (hF : am_mf y n) (hh : am_hh y = []) (hw : Cond.methodLink (am_cn own) ix (am_mn y) ∈ am_GW) (hw2 : Cond.static (am_mn y) ∈ am_GW) (hd : decode cc pc = .ok (.invokestatic ix, 3)) (hk9 : am_G p l e R s mt args below meth c nL E Q m0 r (k) (pc + 3)) (hC : am_Con l E d C) (hCm : am_Cm C) (hmo : ∀ L S m, k L S m = some r → gc_ m ≤ gc_ r.2 ∧ gs_ m ≤ gs_ r.2) (hfr2 : 13 + d ≤ R.frames) (hlo2 : 260 + 40 * d ≤ R.locals) (hX9 : ∀ (j : Nat) (m1 : am_M) (L : am_L) (rest : List Value) (q : Addr) (ce : Cell) (H : Heap) (locs : List Loc) (cells slots : Nat) (ls : Array Slot), am_xc hd9 pc j m1 = some r → am_LH ls nL L → am_Pt E s H locs cells slots m0 m1 → H[q]? = some ce → ce.vm = .none → s.vm.findClass (am_xn j) = some ce.cls → vx_W p l e R s mt args below meth c (H) (locs) (cells) (slots) Q (F0 mt pc ls rest) q) :
    am_G p l e R s mt args below meth c nL E Q m0 r (fun L S m => bif (am_w (S.drop n)).ble 8 && n.ble S.length then am_cc hd9 pc (C y (S.take n).reverse m) t (k L) (S.drop n) else none) (pc) := by
  intro L S m H locs cells slots ls h hL hP
  obtain ⟨hx, hb, hml, hown, hts, hlk, hst, hK, hN, hrm, hfr, hlo⟩ := X
  obtain ⟨h8, h9⟩ := am_bif h
  rw [Bool.and_eq_true] at h8
  have hln := Nat.le_of_ble_eq_true h8.2
  have h8 := am_w8 h8.1
  obtain ⟨r1, hr1, hcs⟩ := am_cc_I h9
  have hM := hC y _ m r1 hy hr1
  obtain ⟨c1, c2⟩ := hCm y _ m r1 hr1
  have hp1 := hP.2.2.1
  have hp2 := hP.2.2.2
  have hle : gc_ r1.2 ≤ gc_ r.2 ∧ gs_ r1.2 ≤ gs_ r.2 := by
    rcases hcs with ⟨v, -, h⟩ | ⟨j, -, h⟩
    · exact hmo _ _ _ h
    · rw [am_xc_r h]
      exact ⟨Nat.le_refl _, Nat.le_refl _⟩
  obtain ⟨hle1, hle2⟩ := hle
  have hpre := am_pre hK hP (S.take n).reverse
  have hrun := vx_runS (l := l) (e := e) (R := R) (below := below) (meth := meth) (locs := locs) (cells := cells) (slots := slots) (n := n) (As := (S.take n).reverse) (rest := S.drop n) (g := F0 mt pc ls S) ⟨hx, hb, hml, hown, hts⟩ hM ⟨am_cb (d := d) hts hF hh hw hfr2 hlo2, hts _ hw2⟩ hpre rfl (by rw [List.length_reverse, List.length_take]; omega) hL.1 (by rw [List.reverse_reverse, List.take_append_drop]) (lv_room h8) hd ⟨by omega, by omega⟩
  refine so_run hrun hP (by omega) (by omega) (fun v H1 locs1 hv hP1 => ?_) (fun j q ce H1 locs1 hj hP1 g1 g2 g3 => ?_)
  · rcases hcs with ⟨v', hv', h⟩ | ⟨j, hj, -⟩
    · rw [hv] at hv'
      cases hv'
      exact hk9 _ _ _ _ _ _ _ _ h hL hP1
    · rw [hv] at hj
      cases hj
  · rcases hcs with ⟨v', hv', -⟩ | ⟨j', hj', h⟩
    · rw [hj] at hv'
      cases hv'
    · rw [hj] at hj'
      cases hj'
      exact hX9 _ _ _ _ _ _ _ _ _ _ _ h hL hP1 g1 g2 g3
theorem so_invW (X : am_Cx p l R s mt args meth c cc nL own E m0 r) {ix y n t : Nat} (hy : y < 411) (hF : am_mf y n) (hh : ¬ am_hh y = []) (hw : Cond.methodLink (am_cn own) ix (am_mn y) ∈ am_GW) (hw2 : Cond.static (am_mn y) ∈ am_GW) (hd : decode cc pc = .ok (.invokestatic ix, 3)) (hk9 : am_G p l e R s mt args below meth c nL E Q m0 r (k) (pc + 3)) (hC : am_Con l E d C) (hCm : am_Cm C) (hmo : ∀ L S m, k L S m = some r → gc_ m ≤ gc_ r.2 ∧ gs_ m ≤ gs_ r.2) (hfr2 : 13 + d ≤ R.frames) (hlo2 : 260 + 40 * d ≤ R.locals) (hX9 : ∀ (j : Nat) (m1 : am_M) (L : am_L) (rest : List Value) (q : Addr) (ce : Cell) (H : Heap) (locs : List Loc) (cells slots : Nat) (ls : Array Slot), am_xc hd9 pc j m1 = some r → am_LH ls nL L → am_Pt E s H locs cells slots m0 m1 → H[q]? = some ce → ce.vm = .none → s.vm.findClass (am_xn j) = some ce.cls → vx_W p l e R s mt args below meth c (H) (locs) (cells) (slots) Q (F0 mt pc ls rest) q) :
    am_G p l e R s mt args below meth c nL E Q m0 r (fun L S m => bif (am_w (S.drop n)).ble 8 && n.ble S.length then am_cc hd9 pc (C y (S.take n).reverse m) t (k L) (S.drop n) else none) (pc) := by
  intro L S m H locs cells slots ls h hL hP
  obtain ⟨hx, hb, hml, hown, hts, hlk, hst, hK, hN, hrm, hfr, hlo⟩ := X
  obtain ⟨h8, h9⟩ := am_bif h
  rw [Bool.and_eq_true] at h8
  have hln := Nat.le_of_ble_eq_true h8.2
  have h8 := am_w8 h8.1
  obtain ⟨r1, hr1, hcs⟩ := am_cc_I h9
  have hM := hC y _ m r1 hy hr1
  obtain ⟨c1, c2⟩ := hCm y _ m r1 hr1
  have hp1 := hP.2.2.1
  have hp2 := hP.2.2.2
  have hle : gc_ r1.2 ≤ gc_ r.2 ∧ gs_ r1.2 ≤ gs_ r.2 := by
    rcases hcs with ⟨v, -, h⟩ | ⟨j, -, h⟩
    · exact hmo _ _ _ h
    · rw [am_xc_r h]
      exact ⟨Nat.le_refl _, Nat.le_refl _⟩
  obtain ⟨hle1, hle2⟩ := hle
  have hpre := am_pre hK hP (S.take n).reverse
  have hc : Cond.codeWith (am_mn y) (am_mb y) (am_ml y) (am_mr y) (am_hh y) ∈ am_ws y := by rw [← am_cww hh]; exact List.mem_cons_self
  have h21 := hF.2.2.2
  have hrun := vx_runSX (l := l) (e := e) (R := R) (below := below) (meth := meth) (locs := locs) (cells := cells) (slots := slots) (n := n) (hh := am_hh y) (As := (S.take n).reverse) (rest := S.drop n) (g := F0 mt pc ls S) ⟨hx, hb, hml, hown, hts⟩ hM
    ⟨⟨rfl, rfl, by show 12 + d + 1 ≤ _; omega, by show 8 + (am_ml y + 11) + (220 + 40 * d) ≤ _; omega, am_wsok hts hF, hc⟩, hts _ (by rw [← am_cww hh]; exact hF.1), hts _ hF.2.1, ⟨hF.2.2.1.1, hF.2.2.1.2.1⟩, (fun sig h => by have h2 := hF.2.2.1.2.2; rw [h] at h2; exact (Option.some.inj h2).symm), hts _ hw, hts _ hw2⟩ hpre rfl (by rw [List.length_reverse, List.length_take]; omega) hL.1 (by rw [List.reverse_reverse, List.take_append_drop]) (lv_room h8) hd ⟨by omega, by omega⟩
  refine so_run hrun hP (by omega) (by omega) (fun v H1 locs1 hv hP1 => ?_) (fun j q ce H1 locs1 hj hP1 g1 g2 g3 => ?_)
  · rcases hcs with ⟨v', hv', h⟩ | ⟨j, hj, -⟩
    · rw [hv] at hv'
      cases hv'
      exact hk9 _ _ _ _ _ _ _ _ h hL hP1
    · rw [hv] at hj
      cases hj
  · rcases hcs with ⟨v', hv', -⟩ | ⟨j', hj', h⟩
    · rw [hj] at hv'
      cases hv'
    · rw [hj] at hj'
      cases hj'
      exact hX9 _ _ _ _ _ _ _ _ _ _ _ h hL hP1 g1 g2 g3
theorem am_c0_I {q : Option am_R} {f : am_M → Option am_R} {r : am_R} (h : am_c0 q f (fun _ _ => none) = some r) : ∃ m1, q = some (.inl none, m1) ∧ f m1 = some r := by
  rcases q with _ | ⟨(_ | v) | j, m⟩
  · cases h
  · exact ⟨m, rfl, h⟩
  · cases h
  · cases h
theorem am_ci_I {q : Option am_R} {f : Int32 → am_M → Option am_R} {r : am_R} (h : am_ci q f (fun _ _ => none) = some r) : ∃ v m1, q = some (.inl (some (.int v)), m1) ∧ f v m1 = some r := by
  rcases q with _ | ⟨(_ | v) | j, m⟩
  · cases h
  · cases h
  · cases v <;> first | exact ⟨_, _, rfl, h⟩ | cases h
  · cases h
theorem so_invI (X : am_Cx p l R s mt args meth c cc nL own E m0 r) {ix y n : Nat} (hy : y < 411) (hF : am_mf y n) (hh : am_hh y = []) (hw : Cond.methodLink (am_cn own) ix (am_mn y) ∈ am_GW) (hw2 : Cond.instanceMethod (am_mn y) ∈ am_GW) (hini : (am_mn y).name = "<init>") (hret : am_mr y = none) (hd : decode cc pc = .ok (.invokespecial ix, 3)) (hk9 : am_G p l e R s mt args below meth c nL E Q m0 r (k) (pc + 3)) (hC : am_Con l E d C) (hCm : am_Cm C) (hmo : ∀ L S m, k L S m = some r → gc_ m ≤ gc_ r.2 ∧ gs_ m ≤ gs_ r.2) (hfr2 : 13 + d ≤ R.frames) (hlo2 : 260 + 40 * d ≤ R.locals) :
    am_G p l e R s mt args below meth c nL E Q m0 r (fun L S m => q_r (S.drop n) fun b R => bif (am_w R).ble 8 then am_c0 (C y (.ref b :: (S.take n).reverse) m) (fun m => k L R m) (fun _ _ => none) else none) (pc) := by
  intro L S m H locs cells slots ls h hL hP
  obtain ⟨hx, hb, hml, hown, hts, hlk, hst, hK, hN, hrm, hfr, hlo⟩ := X
  obtain ⟨v0, S2, hS2, h9⟩ := q_r_I h
  obtain ⟨h8, h9⟩ := am_bif h9
  have h8 := am_w8 h8
  obtain ⟨m1, hr1, h9⟩ := am_c0_I h9
  obtain ⟨hln, hSe⟩ := am_drop_cons hS2
  have hM := am_met rfl (hC y _ m _ hy hr1)
  dsimp only at hM
  obtain ⟨c1, c2⟩ := hCm y _ m _ hr1
  have c1 : gc_ m ≤ gc_ m1 := c1
  have c2 : gs_ m ≤ gs_ m1 := c2
  have hp1 := hP.2.2.1
  have hp2 := hP.2.2.2
  obtain ⟨hle1, hle2⟩ := hmo _ _ _ h9
  have hpre := am_pre hK hP (.ref v0 :: (S.take n).reverse)
  have hcw := (And.intro (am_cb (own := own) (R := R) (mc := gc_ m1 - gc_ m) (ms := gs_ m1 - gs_ m) (d := d) hts hF hh hw hfr2 hlo2) (And.intro hini (hts _ hw2)))
  rw [hret] at hcw
  have hrun := va_runI (l := l) (e := e) (R := R) (below := below) (meth := meth) (locs := locs) (cells := cells) (slots := slots) (n := n) (b := v0) (As := (S.take n).reverse) (rest := S2) (g := F0 mt pc ls S) ⟨hx, hb, hml, hown, hts⟩ hM hcw hpre rfl (by rw [List.length_reverse, hln]) hL.1 (by rw [List.reverse_reverse]; exact hSe) (lv_room h8) hd ⟨by omega, by omega⟩
  refine so_run (fun T hT X => Or.inl (hrun T hT X)) hP (by show _ = gc_ m1; omega) (by show _ = gs_ m1; omega) (fun v H1 locs1 hv hP1 => ?_) (fun j q ce H1 locs1 hj hP1 g1 g2 g3 => by cases hj)
  cases hv
  exact hk9 _ _ _ _ _ _ _ _ h9 hL hP1
theorem so_invIN (X : am_Cx p l R s mt args meth c cc nL own E m0 r) {ix y n : Nat} (hy : y < 411) (hF : am_mf y n) (hh : am_hh y = []) (hw : Cond.methodLinkNest (am_cn own) ix (am_mn y) "RoyaltyOffice" ∈ am_GW) (hw2 : Cond.instanceMethod (am_mn y) ∈ am_GW) (hini : (am_mn y).name = "<init>") (hret : am_mr y = none) (hd : decode cc pc = .ok (.invokespecial ix, 3)) (hk9 : am_G p l e R s mt args below meth c nL E Q m0 r (k) (pc + 3)) (hC : am_Con l E d C) (hCm : am_Cm C) (hmo : ∀ L S m, k L S m = some r → gc_ m ≤ gc_ r.2 ∧ gs_ m ≤ gs_ r.2) (hfr2 : 13 + d ≤ R.frames) (hlo2 : 260 + 40 * d ≤ R.locals) :
    am_G p l e R s mt args below meth c nL E Q m0 r (fun L S m => q_r (S.drop n) fun b R => bif (am_w R).ble 8 then am_c0 (C y (.ref b :: (S.take n).reverse) m) (fun m => k L R m) (fun _ _ => none) else none) (pc) := by
  intro L S m H locs cells slots ls h hL hP
  obtain ⟨hx, hb, hml, hown, hts, hlk, hst, hK, hN, hrm, hfr, hlo⟩ := X
  obtain ⟨v0, S2, hS2, h9⟩ := q_r_I h
  obtain ⟨h8, h9⟩ := am_bif h9
  have h8 := am_w8 h8
  obtain ⟨m1, hr1, h9⟩ := am_c0_I h9
  obtain ⟨hln, hSe⟩ := am_drop_cons hS2
  have hM := am_met rfl (hC y _ m _ hy hr1)
  dsimp only at hM
  obtain ⟨c1, c2⟩ := hCm y _ m _ hr1
  have c1 : gc_ m ≤ gc_ m1 := c1
  have c2 : gs_ m ≤ gs_ m1 := c2
  have hp1 := hP.2.2.1
  have hp2 := hP.2.2.2
  obtain ⟨hle1, hle2⟩ := hmo _ _ _ h9
  have hpre := am_pre hK hP (.ref v0 :: (S.take n).reverse)
  have hcw := (And.intro (am_cnn (own := own) (R := R) (mc := gc_ m1 - gc_ m) (ms := gs_ m1 - gs_ m) (d := d) hts hF hh hw hfr2 hlo2) (And.intro hini (hts _ hw2)))
  rw [hret] at hcw
  have hrun := va_runIN (l := l) (e := e) (R := R) (below := below) (meth := meth) (locs := locs) (cells := cells) (slots := slots) (n := n) (b := v0) (As := (S.take n).reverse) (rest := S2) (g := F0 mt pc ls S) ⟨hx, hb, hml, hown, hts⟩ hM hcw hpre rfl (by rw [List.length_reverse, hln]) hL.1 (by rw [List.reverse_reverse]; exact hSe) (lv_room h8) hd ⟨by omega, by omega⟩
  refine so_run (fun T hT X => Or.inl (hrun T hT X)) hP (by show _ = gc_ m1; omega) (by show _ = gs_ m1; omega) (fun v H1 locs1 hv hP1 => ?_) (fun j q ce H1 locs1 hj hP1 g1 g2 g3 => by cases hj)
  cases hv
  exact hk9 _ _ _ _ _ _ _ _ h9 hL hP1
theorem so_invSN (X : am_Cx p l R s mt args meth c cc nL own E m0 r) {ix y n : Nat} (hy : y < 411) (hF : am_mf y n) (hh : am_hh y = []) (hw : Cond.methodLinkNest (am_cn own) ix (am_mn y) "RoyaltyOffice" ∈ am_GW) (hw2 : Cond.static (am_mn y) ∈ am_GW) (hd : decode cc pc = .ok (.invokestatic ix, 3)) (hk9 : am_G p l e R s mt args below meth c nL E Q m0 r (k) (pc + 3)) (hC : am_Con l E d C) (hCm : am_Cm C) (hmo : ∀ L S m, k L S m = some r → gc_ m ≤ gc_ r.2 ∧ gs_ m ≤ gs_ r.2) (hfr2 : 13 + d ≤ R.frames) (hlo2 : 260 + 40 * d ≤ R.locals) :
    am_G p l e R s mt args below meth c nL E Q m0 r (fun L S m => bif (am_w (S.drop n)).ble 8 && n.ble S.length then am_ci (C y (S.take n).reverse m) (fun v m => k L (.int v :: S.drop n) m) (fun _ _ => none) else none) (pc) := by
  intro L S m H locs cells slots ls h hL hP
  obtain ⟨hx, hb, hml, hown, hts, hlk, hst, hK, hN, hrm, hfr, hlo⟩ := X
  obtain ⟨h8, h9⟩ := am_bif h
  rw [Bool.and_eq_true] at h8
  have hln := Nat.le_of_ble_eq_true h8.2
  have h8 := am_w8 h8.1
  obtain ⟨v9, m1, hr1, h9⟩ := am_ci_I h9
  have hM := am_met rfl (hC y _ m _ hy hr1)
  dsimp only at hM
  obtain ⟨c1, c2⟩ := hCm y _ m _ hr1
  have c1 : gc_ m ≤ gc_ m1 := c1
  have c2 : gs_ m ≤ gs_ m1 := c2
  have hp1 := hP.2.2.1
  have hp2 := hP.2.2.2
  obtain ⟨hle1, hle2⟩ := hmo _ _ _ h9
  have hpre := am_pre hK hP (S.take n).reverse
  have hrun := va_runSN (l := l) (e := e) (R := R) (below := below) (meth := meth) (locs := locs) (cells := cells) (slots := slots) (n := n) (As := (S.take n).reverse) (rest := S.drop n) (g := F0 mt pc ls S) ⟨hx, hb, hml, hown, hts⟩ hM ⟨am_cnn (own := own) (R := R) (d := d) hts hF hh hw hfr2 hlo2, hts _ hw2, trivial⟩ hpre rfl (by rw [List.length_reverse, List.length_take]; omega) hL.1 (by rw [List.reverse_reverse, List.take_append_drop]) (lv_room h8) hd ⟨by omega, by omega⟩
  refine so_run (fun T hT X => Or.inl (hrun T hT X)) hP (by show _ = gc_ m1; omega) (by show _ = gs_ m1; omega) (fun v H1 locs1 hv hP1 => ?_) (fun j q ce H1 locs1 hj hP1 g1 g2 g3 => by cases hj)
  cases hv
  exact hk9 _ _ _ _ _ _ _ _ h9 hL hP1
theorem so_objInit (X : am_Cx p l R s mt args meth c cc nL own E m0 r) {ix : Nat} (hw : Cond.methodLink (am_cn own) ix Lib.objectInit ∈ am_GW) (hw2 : Cond.instanceMethod Lib.objectInit ∈ am_GW) (hw3 : Cond.code Lib.objectInit ⟨#[0xb1]⟩ 1 none ∈ am_GW) (hd : decode cc pc = .ok (.invokespecial ix, 3)) (hk9 : am_G p l e R s mt args below meth c nL E Q m0 r (k) (pc + 3)) : am_G p l e R s mt args below meth c nL E Q m0 r (fun L S m => q_r S fun _ S => bif (am_w S).ble 8 then k L S m else none) (pc) := by
  intro L S m H locs cells slots ls h hL hP
  obtain ⟨hx, hb, hml, hown, hts, hlk, hst, hK, hN, hrm, hfr, hlo⟩ := X
  obtain ⟨v0, S2, rfl, h9⟩ := q_r_I h
  obtain ⟨h8, h9⟩ := am_bif h9
  have h8 := am_w8 h8
  refine W.objInit hx hb hown (hts _ hw) (hts _ hw2) (hts _ hw3) rfl (by rw [hml]; exact hL.1) rfl hd (by omega) (by show 2 * 0 + _ + 12 ≤ _; omega) ?_
  exact hk9 _ _ _ _ _ _ _ _ h9 hL hP
theorem so_ldcs (X : am_Cx p l R s mt args meth c cc nL own E m0 r) {n : Nat} (hd : decode cc pc = .ok (.ldc n, 2)) (ho : am_cn own = "RoyaltyOffice$Tokens" ∧ n = 29) (hk9 : am_G p l e R s mt args below meth c nL E Q m0 r (k) (pc + 2)) : am_G p l e R s mt args below meth c nL E Q m0 r (fun L S m => k L (.ref E.2.2.2.1 :: S) m) (pc) := by
  intro L S m H locs cells slots ls h hL hP
  obtain ⟨hx, hb, hml, hown, hts, hlk, hst, hK, hN, hrm, hfr, hlo⟩ := X
  obtain ⟨ho1, rfl⟩ := ho
  rw [ho1] at hown
  exact va_ldcS hx hb hown hK.2.2.2.2.2.2.1 hd (hk9 _ _ _ _ _ _ _ _ h hL hP)
theorem so_gets (X : am_Cx p l R s mt args meth c cc nL own E m0 r) {n : Nat} (hw : Cond.fieldLink (am_cn own) n "java/lang/String" "COMPACT_STRINGS" "Z" ∈ am_GW) (hd : decode cc pc = .ok (.getstatic n, 3)) (hk9 : am_G p l e R s mt args below meth c nL E Q m0 r (k) (pc + 3)) : am_G p l e R s mt args below meth c nL E Q m0 r (fun L S m => k L (.int 1 :: S) m) (pc) := by
  intro L S m H locs cells slots ls h hL hP
  obtain ⟨hx, hb, hml, hown, hts, hlk, hst, hK, hN, hrm, hfr, hlo⟩ := X
  exact va_gets hx hb hK.2.2.2.2.2.2.2.2.1 hP.2.1 hown (hts _ hw) (fun _ h => h) hd (hk9 _ _ _ _ _ _ _ _ h hL hP)
theorem so_gsv (X : am_Cx p l R s mt args meth c cc nL own E m0 r) {n : Nat} (hw : Cond.fieldLink (am_cn own) n "java/lang/String" "value" "[B" ∈ am_GW) (hd : decode cc pc = .ok (.getfield n, 3)) (hk9 : am_G p l e R s mt args below meth c nL E Q m0 r (k) (pc + 3)) : am_G p l e R s mt args below meth c nL E Q m0 r (fun L S m => q_r S fun a S => gq_ (a = E.2.2.2.1) (k L (.ref E.2.2.2.2.1 :: S) m)) (pc) := by
  intro L S m H locs cells slots ls h hL hP
  obtain ⟨hx, hb, hml, hown, hts, hlk, hst, hK, hN, hrm, hfr, hlo⟩ := X
  obtain ⟨v0, S2, rfl, h9⟩ := q_r_I h
  obtain ⟨he, h8⟩ := gq_I h9
  subst he
  obtain ⟨-, -, hv, -⟩ := hK.2.2.2.2.2.2.2.1.1 0 (by decide)
  exact vk_getf hx hb hv hP.2.1 hown (hts _ hw) (fun _ h => h) hd (hk9 _ _ _ _ _ _ _ _ h8 hL hP)
theorem so_gsc (X : am_Cx p l R s mt args meth c cc nL own E m0 r) {n : Nat} (hw : Cond.fieldLink (am_cn own) n "java/lang/String" "coder" "B" ∈ am_GW) (hd : decode cc pc = .ok (.getfield n, 3)) (hk9 : am_G p l e R s mt args below meth c nL E Q m0 r (k) (pc + 3)) : am_G p l e R s mt args below meth c nL E Q m0 r (fun L S m => q_r S fun a S => gq_ (a = E.2.2.2.1) (k L (.int 0 :: S) m)) (pc) := by
  intro L S m H locs cells slots ls h hL hP
  obtain ⟨hx, hb, hml, hown, hts, hlk, hst, hK, hN, hrm, hfr, hlo⟩ := X
  obtain ⟨v0, S2, rfl, h9⟩ := q_r_I h
  obtain ⟨he, h8⟩ := gq_I h9
  subst he
  obtain ⟨-, hv, -⟩ := hK.2.2.2.2.2.2.2.1.1 0 (by decide)
  exact vk_getf hx hb hv hP.2.1 hown (hts _ hw) (fun _ h => h) hd (hk9 _ _ _ _ _ _ _ _ h8 hL hP)
theorem so_invT (X : am_Cx p l R s mt args meth c cc nL own E m0 r) {ix y n t : Nat} (hy : y < 411) (hF : am_mf y n) (hh : am_hh y = []) (hw : Cond.methodLink (am_cn own) ix (am_mn y) ∈ am_GW) (hw2 : Cond.instanceMethod (am_mn y) ∈ am_GW) (hw3 : Cond.selects (am_mn y).cls (am_mn y) (am_mn y) ∈ am_GW) (hcl : (am_mn y).cls = "java/lang/String") (hd : decode cc pc = .ok (.invokevirtual ix, 3)) (hk9 : am_G p l e R s mt args below meth c nL E Q m0 r (k) (pc + 3)) (hC : am_Con l E d C) (hCm : am_Cm C) (hmo : ∀ L S m, k L S m = some r → gc_ m ≤ gc_ r.2 ∧ gs_ m ≤ gs_ r.2) (hfr2 : 13 + d ≤ R.frames) (hlo2 : 260 + 40 * d ≤ R.locals) (hX9 : ∀ (j : Nat) (m1 : am_M) (L : am_L) (rest : List Value) (q : Addr) (ce : Cell) (H : Heap) (locs : List Loc) (cells slots : Nat) (ls : Array Slot), am_xc hd9 pc j m1 = some r → am_LH ls nL L → am_Pt E s H locs cells slots m0 m1 → H[q]? = some ce → ce.vm = .none → s.vm.findClass (am_xn j) = some ce.cls → vx_W p l e R s mt args below meth c (H) (locs) (cells) (slots) Q (F0 mt pc ls rest) q) :
    am_G p l e R s mt args below meth c nL E Q m0 r (fun L S m => q_r (S.drop n) fun b R => bif (am_w R).ble 8 then gq_ (b = E.2.2.2.1) (am_cc hd9 pc (C y (.ref b :: (S.take n).reverse) m) t (k L) R) else none) (pc) := by
  intro L S m H locs cells slots ls h hL hP
  obtain ⟨hx, hb, hml, hown, hts, hlk, hst, hK, hN, hrm, hfr, hlo⟩ := X
  obtain ⟨v0, S2, hS2, h9⟩ := q_r_I h
  obtain ⟨h8, h9⟩ := am_bif h9
  have h8 := am_w8 h8
  obtain ⟨hg, h9⟩ := gq_I h9
  obtain ⟨hln, hSe⟩ := am_drop_cons hS2
  obtain ⟨r1, hr1, hcs⟩ := am_cc_I h9
  have hM := hC y _ m r1 hy hr1
  obtain ⟨c1, c2⟩ := hCm y _ m r1 hr1
  have hp1 := hP.2.2.1
  have hp2 := hP.2.2.2
  have hle : gc_ r1.2 ≤ gc_ r.2 ∧ gs_ r1.2 ≤ gs_ r.2 := by
    rcases hcs with ⟨v, -, h⟩ | ⟨j, -, h⟩
    · exact hmo _ _ _ h
    · rw [am_xc_r h]
      exact ⟨Nat.le_refl _, Nat.le_refl _⟩
  obtain ⟨hle1, hle2⟩ := hle
  have hpre := am_pre hK hP (.ref v0 :: (S.take n).reverse)
  obtain ⟨⟨cell, q1, q2, q3, q4⟩, -⟩ := hK.2.2.2.2.2.2.2.1.1 0 (by decide)
  have q1 : s.heap[E.2.2.2.1]? = some cell := q1
  have q4 : ¬ am_A E E.2.2.2.1 := q4
  rw [← hg] at q1 q4
  rw [← hcl] at q3
  have hrun := vx_runV (l := l) (e := e) (R := R) (below := below) (meth := meth) (locs := locs) (cells := cells) (slots := slots) (n := n) (b := v0) (As := (S.take n).reverse) (rest := S2) (g := F0 mt pc ls S) ⟨hx, hb, hml, hown, hts⟩ hM ⟨am_cb (d := d) hts hF hh hw hfr2 hlo2, hts _ hw2, hts _ hw3⟩ ⟨hpre.1, ⟨cell, by rw [hP.2.1.2.1 _ (Array.getElem?_eq_some_iff.mp q1).1 q4]; exact q1, q2, q3⟩, hpre.2⟩ rfl (by rw [List.length_reverse, hln]) hL.1 (by rw [List.reverse_reverse]; exact hSe) (lv_room h8) hd ⟨by omega, by omega⟩
  refine so_run hrun hP (by omega) (by omega) (fun v H1 locs1 hv hP1 => ?_) (fun j q ce H1 locs1 hj hP1 g1 g2 g3 => ?_)
  · rcases hcs with ⟨v', hv', h⟩ | ⟨j, hj, -⟩
    · rw [hv] at hv'
      cases hv'
      exact hk9 _ _ _ _ _ _ _ _ h hL hP1
    · rw [hv] at hj
      cases hj
  · rcases hcs with ⟨v', hv', -⟩ | ⟨j', hj', h⟩
    · rw [hj] at hv'
      cases hv'
    · rw [hj] at hj'
      cases hj'
      exact hX9 _ _ _ _ _ _ _ _ _ _ _ h hL hP1 g1 g2 g3
end S5
