/-! arrays, new cells, copies -/
section S3
variable {p : Program} {l : Launch} {e : Env} {R : Room} {s : State} {mt : MethodId} {args : Array Value} {below : List Frame} {meth : Method} {c : Code} {nL own : Nat} {cc : ByteArray} {E : am_E} {Q : State → Prop} {m0 : am_M} {r : am_R} {pc : Nat} {k : am_L → List Value → am_M → Option am_R} {x : am_X}
theorem am_tyk {E : am_E} {U : State} {H : Heap} (h : am_Kk E U H) (i : Nat) {q : ClassId × FieldType} (hq : (am_ty E)[i]? = some q) : ArrOfT U q.1 q.2 ∧ va_RA U q.1 q.2 := h.1.2 i q hq
theorem am_rk_cases {t : Nat} {P : Nat → Prop} (h : am_rk t) (h6 : P 6) (h10 : P 10) (h11 : P 11) (h12 : P 12) : P t := by
  unfold am_rk at h
  rcases h with rfl | rfl | rfl | rfl
  · exact h6
  · exact h10
  · exact h11
  · exact h12
theorem am_tyr {E : am_E} {U : State} {H : Heap} (h : am_Kk E U H) {t : Nat} (ht : am_rk t) : ArrOfT U (E.1.2 t) (am_ct t) := am_rk_cases (P := fun t => ArrOfT U (E.1.2 t) (am_ct t)) ht (am_tyk h 3 rfl).1 (am_tyk h 4 rfl).1 (am_tyk h 5 rfl).1 (am_tyk h 6 rfl).1
theorem am_ctr {t : Nat} (ht : am_rk t) : (am_ct t).isReference = true := am_rk_cases (P := fun t => (am_ct t).isReference = true) ht rfl rfl rfl rfl
theorem am_rkn {t : Nat} {P : Prop} (h : am_rk t) (h6 : ¬ t = 6) (h10 : ¬ t = 10) (h11 : ¬ t = 11) (h12 : ¬ t = 12) : P := by
  unfold am_rk at h
  omega
theorem am_b8 (v : Int32) : v.toInt8.toInt32.toInt8.toInt32 = v.toInt8.toInt32 := by rw [Int8.toInt8_toInt32]
theorem am_nv {cA : ClassId} {N : Nat} {f : Nat → Value} : (arrV cA N f).vm ≠ .unknown := fun h => by cases h
theorem am_inv {cA : ClassId} {N : Nat} {f : Nat → Value} {j : Int32} (h : in_ j N) : ¬ (j < 0 ∨ (arrV cA N f).slots.size ≤ j.toNatClampNeg) := by rw [arrV_size]; exact h
theorem am_rdv {cA : ClassId} {N : Nat} {f : Nat → Value} {j : Int32} (h : in_ j N) : (arrV cA N f).slots[j.toNatClampNeg]? = some (f j.toNatClampNeg) := arrV_read cA f (Nat.not_le.mp fun q => h (Or.inr q))
theorem so_iaload (X : am_Cx p l R s mt args meth c cc nL own E m0 r) (hd : decode cc pc = .ok (.iaload, 1)) (hk9 : am_G p l e R s mt args below meth c nL E Q m0 r (k) (pc + 1)) : am_G p l e R s mt args below meth c nL E Q m0 r (fun L S m => q_ir S fun v0 v1 S => gq_ (((gk_ m v1).1 = 2 ∨ (gk_ m v1).1 = 7) ∧ in_ v0 (gk_ m v1).2) (k L (.int (gi_ m v1 v0.toNatClampNeg) :: S) m)) (pc) := by
  intro L S m H locs cells slots ls h hL hP
  obtain ⟨hx, hb, hml, hown, hts, hlk, hst, hK, hN, hrm, hfr, hlo⟩ := X
  obtain ⟨v0, v1, S, rfl, h9⟩ := q_ir_I h
  obtain ⟨hg, h9⟩ := gq_I h9
  obtain ⟨hg0, hin⟩ := hg
  rcases hg0 with hg1 | hg1
  · have hc := ((hP.1.1 v1).2.1 hg1).2
    exact W.iald (v := .int (gi_ m v1 v0.toNatClampNeg)) hx hb hc ((am_tyk hK 0 rfl).1 _ _) am_nv (am_inv hin) (am_rdv hin) rfl rfl hd (hk9 _ _ _ _ _ _ _ _ h9 hL hP)
  · obtain ⟨e1, e2, e3⟩ := (hP.1.1 v1).2.2.2.2.2.1 hg1
    rw [e2] at hin
    obtain ⟨⟨scr, c1, c2, c3, c4, c5⟩, hbN, hbs⟩ := hK.2.1
    have hlt : v0.toNatClampNeg < E.2.2.1.2.1 := Nat.not_le.mp fun q => hin (Or.inr q)
    refine W.iald (v := .int (gi_ m v1 v0.toNatClampNeg)) (cell := scr) hx hb (by rw [e1, hP.2.1.2.1 _ hbs (fun z => absurd z (Nat.not_le.mpr hbN))]; exact c1) c2 c3 (by rw [c4]; exact hin) (by rw [c5 _ hlt, e3 _ hlt]) rfl rfl hd (hk9 _ _ _ _ _ _ _ _ h9 hL hP)
theorem so_baload (X : am_Cx p l R s mt args meth c cc nL own E m0 r) (hd : decode cc pc = .ok (.baload, 1)) (hk9 : am_G p l e R s mt args below meth c nL E Q m0 r (k) (pc + 1)) : am_G p l e R s mt args below meth c nL E Q m0 r (fun L S m => q_ir S fun v0 v1 S => gq_ (((gk_ m v1).1 = 3 ∨ (gk_ m v1).1 = 9) ∧ in_ v0 (gk_ m v1).2) (k L (.int (gi_ m v1 v0.toNatClampNeg) :: S) m)) (pc) := by
  intro L S m H locs cells slots ls h hL hP
  obtain ⟨hx, hb, hml, hown, hts, hlk, hst, hK, hN, hrm, hfr, hlo⟩ := X
  obtain ⟨v0, v1, S, rfl, h9⟩ := q_ir_I h
  obtain ⟨hg, h9⟩ := gq_I h9
  obtain ⟨hg0, hin⟩ := hg
  rcases hg0 with hg1 | hg1
  · have hc := ((hP.1.1 v1).2.2.1 hg1).2.1
    exact W.bald (v := .int (gi_ m v1 v0.toNatClampNeg)) hx hb hc ((am_tyk hK 1 rfl).1 _ _) am_nv (am_inv hin) (am_rdv hin) rfl rfl hd (hk9 _ _ _ _ _ _ _ _ h9 hL hP)
  · obtain ⟨i9, hi9, e1, e2, e3⟩ := (hP.1.1 v1).2.2.2.2.2.2.2.1 hg1
    rw [e2] at hin
    obtain ⟨cell, c1, c2, c3, c4, c5, c6, c7⟩ := hK.2.2.2.2.1.1 i9 hi9
    have hlt : v0.toNatClampNeg < (kb_ i9).length := Nat.not_le.mp fun q => hin (Or.inr q)
    refine W.bald (v := .int (gi_ m v1 v0.toNatClampNeg)) (cell := cell) hx hb (by rw [e1, hP.2.1.2.1 _ (Array.getElem?_eq_some_iff.mp c1).1 c7]; exact c1) c2 c3 (fun z => z.elim (fun z => hin (Or.inl z)) (fun z => absurd hlt (by omega))) (by rw [c6 _ hlt, e3 _ hlt]) rfl rfl hd (hk9 _ _ _ _ _ _ _ _ h9 hL hP)
theorem so_laload (X : am_Cx p l R s mt args meth c cc nL own E m0 r) (hd : decode cc pc = .ok (.laload, 1)) (hk9 : am_G p l e R s mt args below meth c nL E Q m0 r (k) (pc + 1)) : am_G p l e R s mt args below meth c nL E Q m0 r (fun L S m => q_ir S fun v0 v1 S => gq_ ((gk_ m v1).1 = 4 ∧ in_ v0 (gk_ m v1).2) (k L (.long (gl_ m v1 v0.toNatClampNeg) :: S) m)) (pc) := by
  intro L S m H locs cells slots ls h hL hP
  obtain ⟨hx, hb, hml, hown, hts, hlk, hst, hK, hN, hrm, hfr, hlo⟩ := X
  obtain ⟨v0, v1, S, rfl, h9⟩ := q_ir_I h
  obtain ⟨hg, h9⟩ := gq_I h9
  obtain ⟨hg1, hin⟩ := hg
  have hc := ((hP.1.1 v1).2.2.2.1 hg1).2
  exact W.lald (v := .long (gl_ m v1 v0.toNatClampNeg)) hx hb hc ((am_tyk hK 2 rfl).1 _ _) am_nv (am_inv hin) (am_rdv hin) rfl rfl hd (hk9 _ _ _ _ _ _ _ _ h9 hL hP)
theorem so_aaload (X : am_Cx p l R s mt args meth c cc nL own E m0 r) (hd : decode cc pc = .ok (.aaload, 1)) (hk9 : am_G p l e R s mt args below meth c nL E Q m0 r (k) (pc + 1)) : am_G p l e R s mt args below meth c nL E Q m0 r (fun L S m => q_ir S fun v0 v1 S => gq_ (((gk_ m v1).1 = 6 ∨ (gk_ m v1).1 = 10 ∨ (gk_ m v1).1 = 11 ∨ (gk_ m v1).1 = 12) ∧ in_ v0 (gk_ m v1).2 ∧ ¬ gr_ m v1 v0.toNatClampNeg = 0) (k L (.ref (gr_ m v1 v0.toNatClampNeg) :: S) m)) (pc) := by
  intro L S m H locs cells slots ls h hL hP
  obtain ⟨hx, hb, hml, hown, hts, hlk, hst, hK, hN, hrm, hfr, hlo⟩ := X
  obtain ⟨v0, v1, S, rfl, h9⟩ := q_ir_I h
  obtain ⟨⟨hg1, hin, hz⟩, h9⟩ := gq_I h9
  have hc := ((hP.1.1 v1).2.2.2.2.1 hg1).2
  exact W.aald (v := .ref (gr_ m v1 v0.toNatClampNeg)) (ty := am_ct (gk_ m v1).1) hx hb hc (am_tyr hK hg1 _ _) (am_ctr hg1) am_nv (am_inv hin) (by rw [am_rdv hin, rf_, if_neg hz]) rfl rfl hd (hk9 _ _ _ _ _ _ _ _ h9 hL hP)
theorem am_sz32 {cA : ClassId} {N : Nat} {f : Nat → Value} : (arrV cA N f).slots.size.toInt32 = nI N := by rw [arrV_size]; rfl
theorem so_arraylength (X : am_Cx p l R s mt args meth c cc nL own E m0 r) (hd : decode cc pc = .ok (.arraylength, 1)) (hk9 : am_G p l e R s mt args below meth c nL E Q m0 r (k) (pc + 1)) : am_G p l e R s mt args below meth c nL E Q m0 r (fun L S m => q_r S fun v0 S => gq_ (2 ≤ (gk_ m v0).1 ∧ ¬ (gk_ m v0).1 = 8) (k L (.int (nI (gk_ m v0).2) :: S) m)) (pc) := by
  intro L S m H locs cells slots ls h hL hP
  obtain ⟨hx, hb, hml, hown, hts, hlk, hst, hK, hN, hrm, hfr, hlo⟩ := X
  obtain ⟨v0, S, rfl, h9⟩ := q_r_I h
  obtain ⟨⟨hg1, hg2⟩, h9⟩ := gq_I h9
  have h98 := (hP.1.1 v0).2.2.2.2.2.2.2.2.2
  rcases (show (gk_ m v0).1 = 2 ∨ (gk_ m v0).1 = 3 ∨ (gk_ m v0).1 = 4 ∨ ((gk_ m v0).1 = 6 ∨ (gk_ m v0).1 = 10 ∨ (gk_ m v0).1 = 11 ∨ (gk_ m v0).1 = 12) ∨ (gk_ m v0).1 = 7 ∨ (gk_ m v0).1 = 9 ∨ (gk_ m v0).1 = 13 by omega) with q | q | q | q | q | q | q
  · exact W.alen hx hb ((hP.1.1 v0).2.1 q).2 ((am_tyk hK 0 rfl).1 _ _) am_sz32 rfl rfl hd (hk9 _ _ _ _ _ _ _ _ h9 hL hP)
  · exact W.alen hx hb ((hP.1.1 v0).2.2.1 q).2.1 ((am_tyk hK 1 rfl).1 _ _) am_sz32 rfl rfl hd (hk9 _ _ _ _ _ _ _ _ h9 hL hP)
  · exact W.alen hx hb ((hP.1.1 v0).2.2.2.1 q).2 ((am_tyk hK 2 rfl).1 _ _) am_sz32 rfl rfl hd (hk9 _ _ _ _ _ _ _ _ h9 hL hP)
  · exact W.alen hx hb ((hP.1.1 v0).2.2.2.2.1 q).2 (am_tyr hK q _ _) am_sz32 rfl rfl hd (hk9 _ _ _ _ _ _ _ _ h9 hL hP)
  · obtain ⟨e1, e2, e3⟩ := (hP.1.1 v0).2.2.2.2.2.1 q
    obtain ⟨⟨scr, c1, c2, c3, c4, c5⟩, hbN, hbs⟩ := hK.2.1
    exact W.alen (cell := scr) hx hb (by rw [e1, hP.2.1.2.1 _ hbs (fun z => absurd z (Nat.not_le.mpr hbN))]; exact c1) c2 (by rw [c4, e2]; rfl) rfl rfl hd (hk9 _ _ _ _ _ _ _ _ h9 hL hP)
  · obtain ⟨i9, hi9, e1, e2, e3⟩ := (hP.1.1 v0).2.2.2.2.2.2.2.1 q
    obtain ⟨cell, c1, c2, c3, c4, c5, c6, c7⟩ := hK.2.2.2.2.1.1 i9 hi9
    exact W.alen (cell := cell) hx hb (by rw [e1, hP.2.1.2.1 _ (Array.getElem?_eq_some_iff.mp c1).1 c7]; exact c1) c2 (by rw [e2]; exact c5) rfl rfl hd (hk9 _ _ _ _ _ _ _ _ h9 hL hP)
  · obtain ⟨e1, e2⟩ := (hP.1.1 v0).2.2.2.2.2.2.2.2.1 q
    obtain ⟨cell, c1, c2, c3, c4, c5, c6, c7⟩ := hK.2.2.2.2.2.2.2.2.2.2.1
    exact W.alen (cell := cell) hx hb (by rw [e1, hP.2.1.2.1 _ (Array.getElem?_eq_some_iff.mp c1).1 c7]; exact c1) c2 (by rw [e2]; exact c5) rfl rfl hd (hk9 _ _ _ _ _ _ _ _ h9 hL hP)
theorem so_iastore (X : am_Cx p l R s mt args meth c cc nL own E m0 r) (hd : decode cc pc = .ok (.iastore, 1)) (hk9 : am_G p l e R s mt args below meth c nL E Q m0 r (k) (pc + 1)) : am_G p l e R s mt args below meth c nL E Q m0 r (fun L S m => q_iir S fun v0 v1 v2 S => gq_ ((gk_ m v2).1 = 2 ∧ in_ v1 (gk_ m v2).2) (k L S (si_ m v2 v1.toNatClampNeg v0))) (pc) := by
  intro L S m H locs cells slots ls h hL hP
  obtain ⟨hx, hb, hml, hown, hts, hlk, hst, hK, hN, hrm, hfr, hlo⟩ := X
  obtain ⟨v0, v1, v2, S, rfl, h9⟩ := q_iir_I h
  obtain ⟨⟨hg1, hin⟩, h9⟩ := gq_I h9
  obtain ⟨hN0, hc⟩ := (hP.1.1 v2).2.1 hg1
  refine W.iast hx hb hc ((am_tyk hK 0 rfl).1 _ _) am_nv (am_inv hin) rfl rfl hd fun H1 e1 e2 e3 => ?_
  refine hk9 _ _ _ _ _ _ _ _ h9 hL ⟨hP.1.upd (by rw [hg1]; decide) e2 e3 (fun b hb => ⟨rfl, fun q => ?_, fun q => ?_, fun q => rfl⟩) rfl rfl (am_at_k (t := 2) (n := (gk_ m v2).2) (Prod.ext hg1 rfl) (by decide) (fun z => by cases z) (fun _ => ⟨hN0, ?_⟩) (fun z => by cases z) (fun z => by cases z) (fun z => am_rkn z (by decide) (by decide) (by decide) (by decide))), hP.2.1.put e2 e3 hN0, hP.2.2.1, hP.2.2.2⟩
  · first | rfl | exact if_neg (fun z => hb z.1)
  · first | rfl | exact if_neg (fun z => hb z.1)
  · rw [e1, arrV_store]
    congr 2
    funext q
    show (if q = _ then _ else _) = _
    by_cases hq : q = v1.toNatClampNeg
    · rw [if_pos hq, gi_si, if_pos ⟨rfl, hq⟩]
    · rw [if_neg hq, gi_si, if_neg (fun z => hq z.2)]
theorem so_bastore (X : am_Cx p l R s mt args meth c cc nL own E m0 r) (hd : decode cc pc = .ok (.bastore, 1)) (hk9 : am_G p l e R s mt args below meth c nL E Q m0 r (k) (pc + 1)) : am_G p l e R s mt args below meth c nL E Q m0 r (fun L S m => q_iir S fun v0 v1 v2 S => gq_ ((gk_ m v2).1 = 3 ∧ in_ v1 (gk_ m v2).2) (k L S (si_ m v2 v1.toNatClampNeg v0.toInt8.toInt32))) (pc) := by
  intro L S m H locs cells slots ls h hL hP
  obtain ⟨hx, hb, hml, hown, hts, hlk, hst, hK, hN, hrm, hfr, hlo⟩ := X
  obtain ⟨v0, v1, v2, S, rfl, h9⟩ := q_iir_I h
  obtain ⟨⟨hg1, hin⟩, h9⟩ := gq_I h9
  obtain ⟨hN0, hc, hby⟩ := (hP.1.1 v2).2.2.1 hg1
  refine W.bast hx hb hc ((am_tyk hK 1 rfl).1 _ _) am_nv (am_inv hin) rfl rfl hd fun H1 e1 e2 e3 => ?_
  refine hk9 _ _ _ _ _ _ _ _ h9 hL ⟨hP.1.upd (by rw [hg1]; decide) e2 e3 (fun b hb => ⟨rfl, fun q => ?_, fun q => ?_, fun q => rfl⟩) rfl rfl (am_at_k (t := 3) (n := (gk_ m v2).2) (Prod.ext hg1 rfl) (by decide) (fun z => by cases z) (fun z => by cases z) (fun _ => ⟨hN0, ?_, ?_⟩) (fun z => by cases z) (fun z => am_rkn z (by decide) (by decide) (by decide) (by decide))), hP.2.1.put e2 e3 hN0, hP.2.2.1, hP.2.2.2⟩
  · first | rfl | exact if_neg (fun z => hb z.1)
  · first | rfl | exact if_neg (fun z => hb z.1)
  · rw [e1, arrV_store]
    congr 2
    funext q
    show (if q = _ then _ else _) = _
    by_cases hq : q = v1.toNatClampNeg
    · rw [if_pos hq, gi_si, if_pos ⟨rfl, hq⟩]
      rfl
    · rw [if_neg hq, gi_si, if_neg (fun z => hq z.2)]
  · intro j hj
    rw [gi_si]
    split
    · exact am_b8 _
    · exact hby j hj
theorem so_lastore (X : am_Cx p l R s mt args meth c cc nL own E m0 r) (hd : decode cc pc = .ok (.lastore, 1)) (hk9 : am_G p l e R s mt args below meth c nL E Q m0 r (k) (pc + 1)) : am_G p l e R s mt args below meth c nL E Q m0 r (fun L S m => q_lir S fun v0 v1 v2 S => gq_ ((gk_ m v2).1 = 4 ∧ in_ v1 (gk_ m v2).2) (k L S (sl_ m v2 v1.toNatClampNeg v0))) (pc) := by
  intro L S m H locs cells slots ls h hL hP
  obtain ⟨hx, hb, hml, hown, hts, hlk, hst, hK, hN, hrm, hfr, hlo⟩ := X
  obtain ⟨v0, v1, v2, S, rfl, h9⟩ := q_lir_I h
  obtain ⟨⟨hg1, hin⟩, h9⟩ := gq_I h9
  obtain ⟨hN0, hc⟩ := (hP.1.1 v2).2.2.2.1 hg1
  refine W.last hx hb hc ((am_tyk hK 2 rfl).1 _ _) am_nv (am_inv hin) rfl rfl hd fun H1 e1 e2 e3 => ?_
  refine hk9 _ _ _ _ _ _ _ _ h9 hL ⟨hP.1.upd (by rw [hg1]; decide) e2 e3 (fun b hb => ⟨rfl, fun q => ?_, fun q => ?_, fun q => rfl⟩) rfl rfl (am_at_k (t := 4) (n := (gk_ m v2).2) (Prod.ext hg1 rfl) (by decide) (fun z => by cases z) (fun z => by cases z) (fun z => by cases z) (fun _ => ⟨hN0, ?_⟩) (fun z => am_rkn z (by decide) (by decide) (by decide) (by decide))), hP.2.1.put e2 e3 hN0, hP.2.2.1, hP.2.2.2⟩
  · first | rfl | exact if_neg (fun z => hb z.1)
  · first | rfl | exact if_neg (fun z => hb z.1)
  · rw [e1, arrV_store]
    congr 2
    funext q
    show (if q = _ then _ else _) = _
    by_cases hq : q = v1.toNatClampNeg
    · rw [if_pos hq, gl_sl, if_pos ⟨rfl, hq⟩]
    · rw [if_neg hq, gl_sl, if_neg (fun z => hq z.2)]
theorem am_fcl {U : State} {nm : String} {c : ClassId} (h : U.vm.findClass nm = some c) : ∃ k, U.vm.classes[c]? = some k := by
  obtain ⟨k, hk, -⟩ := Vm.findClass_spec h
  exact ⟨k, hk⟩
theorem am_csp {args : Array Value} {U : State} {A B : String} {a b : ClassId} (h : (Cond.castable A B).before args U = true) (ha : U.vm.findClass A = some a) (hb : U.vm.findClass B = some b) : U.vm.assignable a b = true := by
  obtain ⟨c0, t1, f1, f2, f3⟩ := Cond.castable_spec h
  cases ha.symm.trans f1
  cases hb.symm.trans f2
  exact f3
theorem am_co_all : (List.range 17).all (fun c => am_CO.any (fun q => q.1 == c)) = true := by decide +kernel
theorem am_co {c : Nat} (h : c < 17) : Cond.castable (am_vc c).1 "java/lang/Object" ∈ am_GW := am_tab (g := fun c : Nat => Cond.castable (am_vc c).1 "java/lang/Object") am_CO_ok (fun _ => rfl) (List.all_eq_true.mp am_co_all c (List.mem_range.mpr h))
theorem am_coI : Cond.castable "[I" "java/lang/Object" ∈ am_GW := am_pw_in (p := (7, 184)) rfl rfl
theorem am_coJ : Cond.castable "[[J" "java/lang/Object" ∈ am_GW := am_pw_in (p := (7, 186)) rfl rfl
/-- what may stand in a row of references can be stored there -/
theorem am_el_ok {E : am_E} {s : State} {args : Array Value} {m : am_M} {H : Heap} {t v : Nat} (hts : ∀ w ∈ am_GW, w.before args s = true) (hK : am_Kk E s s.heap) (hR : am_Rp E m H) (h : am_el m t v) :
    am_rk t ∧ ∃ (cv : Cell) (kA : Class) (comp : ClassId), H[v]? = some cv ∧ cv.vm = .none ∧ s.vm.classes[E.1.2 t]? = some kA ∧ kA.kind = .array comp (am_ct t) ∧ s.vm.findClass (am_ctn t) = some comp ∧ (∃ kv, s.vm.classes[cv.cls]? = some kv) ∧ s.vm.assignable cv.cls comp = true := by
  obtain ⟨-, h⟩ := h
  have key : ∀ (t : Nat), am_rk t → (∃ (cv : Cell), H[v]? = some cv ∧ cv.vm = .none ∧ (∃ kv, s.vm.classes[cv.cls]? = some kv) ∧ ∀ comp, s.vm.findClass (am_ctn t) = some comp → s.vm.assignable cv.cls comp = true) →
      ∃ (cv : Cell) (kA : Class) (comp : ClassId), H[v]? = some cv ∧ cv.vm = .none ∧ s.vm.classes[E.1.2 t]? = some kA ∧ kA.kind = .array comp (am_ct t) ∧ s.vm.findClass (am_ctn t) = some comp ∧ (∃ kv, s.vm.classes[cv.cls]? = some kv) ∧ s.vm.assignable cv.cls comp = true := by
    intro t ht ⟨cv, a1, a2, a3, a4⟩
    obtain ⟨kA, comp, k1, k2, k3, -⟩ := hK.2.2.1.1 t ht
    exact ⟨cv, kA, comp, a1, a2, k1, k2, k3, a3, a4 comp k3⟩
  have obj : ∀ (c : Nat), gk_ m v = (1, c) → c < 17 ∧ ∃ (cv : Cell), H[v]? = some cv ∧ cv.vm = .none ∧ s.vm.findClass (am_vc c).1 = some cv.cls ∧ ∃ kv, s.vm.classes[cv.cls]? = some kv := by
    intro c hg
    obtain ⟨-, g0, cell, g1, g2, g3, -⟩ := (hR.1 v).1 (by rw [hg])
    rw [hg] at g0 g2
    have hcls := (hK.1.1 c _ (am_vc_get c g0)).2
    exact ⟨g0, cell, g1, g3, by rw [g2]; exact hcls.1, by rw [g2]; obtain ⟨kC, hkC, -⟩ := hcls.2; exact ⟨kC, hkC⟩⟩
  have row : ∀ (nm : String) (ty : FieldType) (c : ClassId) (N : Nat) (f : Nat → Value), va_RA s c ty → (∀ C, ty ≠ .object C) → "[" ++ ty.toString = nm → s.vm.findClass nm = some c := by
    intro nm ty c N f hr hno he
    cases ty with
    | object C => exact absurd rfl (hno C)
    | _ => rw [← he]; exact hr
  rcases h with ⟨rfl, hg⟩ | ⟨rfl, h⟩ | ⟨rfl, hg⟩ | ⟨rfl, hg⟩
  · refine ⟨Or.inl rfl, key 6 (Or.inl rfl) ?_⟩
    obtain ⟨-, cv, a1, a2, a3, a4⟩ := obj 3 hg
    refine ⟨cv, a1, a2, a4, fun comp hcomp => ?_⟩
    have hcomp : s.vm.findClass (am_vc 3).1 = some comp := hcomp
    cases a3.symm.trans hcomp
    exact va_asg _ _
  · refine ⟨Or.inr (Or.inl rfl), key 10 (Or.inr (Or.inl rfl)) ?_⟩
    rcases h with ⟨h1, h2⟩ | h1 | h1
    · obtain ⟨-, cv, a1, a2, a3, a4⟩ := obj _ (Prod.ext h1 rfl)
      exact ⟨cv, a1, a2, a4, fun comp hcomp => am_csp (hts _ (am_co h2)) a3 hcomp⟩
    · obtain ⟨-, hc⟩ := (hR.1 v).2.1 h1
      have hn := row "[I" .int _ 0 (fun _ => .null) (am_tyk hK 0 rfl).2 (fun _ h => by cases h) rfl
      exact ⟨_, hc, rfl, am_fcl hn, fun comp hcomp => am_csp (hts _ am_coI) hn hcomp⟩
    · obtain ⟨-, hc⟩ := (hR.1 v).2.2.2.2.1 (Or.inr (Or.inr (Or.inr h1)))
      rw [h1] at hc
      have hn : s.vm.findClass "[[J" = some (E.1.2 12) := (by obtain ⟨_, _, -, -, -, z⟩ := hK.2.2.1.1 12 (Or.inr (Or.inr (Or.inr rfl))); exact z)
      exact ⟨_, hc, rfl, am_fcl hn, fun comp hcomp => am_csp (hts _ am_coJ) hn hcomp⟩
  · refine ⟨Or.inr (Or.inr (Or.inl rfl)), key 11 (Or.inr (Or.inr (Or.inl rfl))) ?_⟩
    obtain ⟨-, hc⟩ := (hR.1 v).2.1 hg
    have hn := row "[I" .int _ 0 (fun _ => .null) (am_tyk hK 0 rfl).2 (fun _ h => by cases h) rfl
    refine ⟨_, hc, rfl, am_fcl hn, fun comp hcomp => ?_⟩
    have hcomp : s.vm.findClass "[I" = some comp := hcomp
    cases hn.symm.trans hcomp
    exact va_asg _ _
  · refine ⟨Or.inr (Or.inr (Or.inr rfl)), key 12 (Or.inr (Or.inr (Or.inr rfl))) ?_⟩
    obtain ⟨-, hc⟩ := (hR.1 v).2.2.2.1 hg
    have hn := row "[J" .long _ 0 (fun _ => .null) (am_tyk hK 2 rfl).2 (fun _ h => by cases h) rfl
    refine ⟨_, hc, rfl, am_fcl hn, fun comp hcomp => ?_⟩
    have hcomp : s.vm.findClass "[J" = some comp := hcomp
    cases hn.symm.trans hcomp
    exact va_asg _ _
theorem so_aastore (X : am_Cx p l R s mt args meth c cc nL own E m0 r) (hd : decode cc pc = .ok (.aastore, 1)) (hk9 : am_G p l e R s mt args below meth c nL E Q m0 r (k) (pc + 1)) : am_G p l e R s mt args below meth c nL E Q m0 r (fun L S m => q_zir S fun v0 v1 v2 S => q_zz v0 (fun v => gq_ (in_ v1 (gk_ m v2).2 ∧ am_el m (gk_ m v2).1 v) (k L S (sr_ m v2 v1.toNatClampNeg v))) (gq_ ((gk_ m v2).1 = 10 ∧ in_ v1 (gk_ m v2).2) (k L S (sr_ m v2 v1.toNatClampNeg 0)))) (pc) := by
  intro L S m H locs cells slots ls h hL hP
  obtain ⟨hx, hb, hml, hown, hts, hlk, hst, hK, hN, hrm, hfr, hlo⟩ := X
  obtain ⟨v0, v1, v2, S, rfl, h9⟩ := q_zir_I h
  cases v0 with
  | some v0 =>
    obtain ⟨⟨hin, hel⟩, h9⟩ := gq_I (show gq_ (in_ v1 (gk_ m v2).2 ∧ am_el m (gk_ m v2).1 v0) (k L S (sr_ m v2 v1.toNatClampNeg v0)) = some r from h9)
    obtain ⟨hrk, cv, kA, comp, g1, g3, k1, k2, k3, ⟨kv, hkv⟩, hasg⟩ := am_el_ok hts hK hP.1 hel
    obtain ⟨hN0, hc⟩ := (hP.1.1 v2).2.2.2.2.1 hrk
    obtain ⟨kE, hkE⟩ := am_fcl k3
    have hin2 := hin
    have hlt : v1.toNatClampNeg < (gk_ m v2).2 := Nat.not_le.mp fun q => hin2 (Or.inr q)
    have hz := hel.1
    refine W.aast hx hb hc (fun q h => by cases h) (fun h => by cases h) k1 k2 (am_ctr hrk) hkE ⟨fun q => hin2 (Or.inl q), by show _ < (arrV _ _ _).slots.size; rw [arrV_size]; exact hlt⟩ g1 (fun q h => by rw [g3] at h; cases h) hkv hasg rfl rfl hd fun H1 e1 e2 e3 => ?_
    refine hk9 _ _ _ _ _ _ _ _ h9 hL ⟨hP.1.upd (fun z => by rw [z] at hrk; exact am_rkn hrk (by decide) (by decide) (by decide) (by decide)) e2 e3 (fun b hb => ⟨rfl, fun q => rfl, fun q => rfl, fun q => if_neg (fun z => hb z.1)⟩) rfl rfl (am_at_k (t := (gk_ m v2).1) (n := (gk_ m v2).2) (Prod.ext rfl rfl) (am_rk_cases (P := fun t => t ≤ 13 ∧ ¬ t = 5 ∧ ¬ t = 7 ∧ ¬ t = 8 ∧ ¬ t = 9 ∧ ¬ t = 13) hrk (by decide) (by decide) (by decide) (by decide)) (fun z => by rw [z] at hrk; exact am_rk1 hrk) (fun z => by rw [z] at hrk; exact am_rkn hrk (by decide) (by decide) (by decide) (by decide)) (fun z => by rw [z] at hrk; exact am_rkn hrk (by decide) (by decide) (by decide) (by decide)) (fun z => by rw [z] at hrk; exact am_rkn hrk (by decide) (by decide) (by decide) (by decide)) (fun _ => ⟨hN0, ?_⟩)), hP.2.1.put e2 e3 hN0, hP.2.2.1, hP.2.2.2⟩
    rw [e1, arrV_store]
    congr 2
    funext q
    show (if q = _ then _ else _) = _
    by_cases hq : q = v1.toNatClampNeg
    · rw [if_pos hq, gr_sr, if_pos ⟨rfl, hq⟩, rf_, if_neg hz]
    · rw [if_neg hq, gr_sr, if_neg (fun z => hq z.2)]
  | none =>
    obtain ⟨⟨hg1, hin⟩, h9⟩ := gq_I (show gq_ ((gk_ m v2).1 = 10 ∧ in_ v1 (gk_ m v2).2) (k L S (sr_ m v2 v1.toNatClampNeg 0)) = some r from h9)
    have hrk : am_rk (gk_ m v2).1 := Or.inr (Or.inl hg1)
    obtain ⟨hN0, hc⟩ := (hP.1.1 v2).2.2.2.2.1 hrk
    refine va_WaastN (C := "java/lang/Object") hx hb hc (by rw [hg1]; exact (am_tyk hK 4 rfl).1 _ _) (fun h => by cases h) (am_inv hin) rfl rfl hd fun H1 e1 e2 e3 => ?_
    refine hk9 _ _ _ _ _ _ _ _ h9 hL ⟨hP.1.upd (fun z => by rw [z] at hrk; exact am_rkn hrk (by decide) (by decide) (by decide) (by decide)) e2 e3 (fun b hb => ⟨rfl, fun q => rfl, fun q => rfl, fun q => if_neg (fun z => hb z.1)⟩) rfl rfl (am_at_k (t := (gk_ m v2).1) (n := (gk_ m v2).2) (Prod.ext rfl rfl) (am_rk_cases (P := fun t => t ≤ 13 ∧ ¬ t = 5 ∧ ¬ t = 7 ∧ ¬ t = 8 ∧ ¬ t = 9 ∧ ¬ t = 13) hrk (by decide) (by decide) (by decide) (by decide)) (fun z => by rw [z] at hrk; exact am_rk1 hrk) (fun z => by rw [z] at hrk; exact am_rkn hrk (by decide) (by decide) (by decide) (by decide)) (fun z => by rw [z] at hrk; exact am_rkn hrk (by decide) (by decide) (by decide) (by decide)) (fun z => by rw [z] at hrk; exact am_rkn hrk (by decide) (by decide) (by decide) (by decide)) (fun _ => ⟨hN0, ?_⟩)), hP.2.1.put e2 e3 hN0, hP.2.2.1, hP.2.2.2⟩
    rw [e1, arrV_store]
    congr 2
    funext q
    show (if q = _ then _ else _) = _
    by_cases hq : q = v1.toNatClampNeg
    · rw [if_pos hq, gr_sr, if_pos ⟨rfl, hq⟩]; rfl
    · rw [if_neg hq, gr_sr, if_neg (fun z => hq z.2)]
theorem am_newS {A : Nat → Prop} {H0 H H1 : Heap} {locs : List Loc} (hS : va_S A H0 H locs) (z1 : H1.size = H.size + 1) (o1 : ∀ q, q < H.size → H1[q]? = H[q]?) : va_S A H0 H1 locs := ⟨Nat.le_trans hS.1 (by omega), fun q h1 h2 => (o1 q (Nat.lt_of_lt_of_le h1 hS.1)).trans (hS.2.1 q h1 h2), hS.2.2⟩
theorem gk_al (m : am_M) (k : Nat × Nat) (n : Nat) : gk_ (al_ m k n) (gt_ m) = k := if_pos rfl
theorem gi_al (m : am_M) (k : Nat × Nat) (n j : Nat) : gi_ (al_ m k n) (gt_ m) j = 0 := congrFun (if_pos rfl) j
theorem gl_al (m : am_M) (k : Nat × Nat) (n j : Nat) : gl_ (al_ m k n) (gt_ m) j = 0 := congrFun (if_pos rfl) j
theorem gr_al (m : am_M) (k : Nat × Nat) (n j : Nat) : gr_ (al_ m k n) (gt_ m) j = 0 := congrFun (if_pos rfl) j
theorem gd_al (m : am_M) (k : Nat × Nat) (n j : Nat) : gd_ (al_ m k n) (gt_ m) j = 0 := congrFun (if_pos rfl) j
theorem so_newarrayI (X : am_Cx p l R s mt args meth c cc nL own E m0 r) (hw : Cond.arrayClass .int ∈ am_GW) (hd : decode cc pc = .ok (.newarray .int, 2)) (hk9 : am_G p l e R s mt args below meth c nL E Q m0 r (k) (pc + 2)) (hmo : ∀ L S m, k L S m = some r → am_le m r) : am_G p l e R s mt args below meth c nL E Q m0 r (fun L S m => q_i S fun v0 S => gq_ (¬ v0 < 0 ∧ v0.toNatClampNeg ≤ 60000 ∧ ge_ m = true) (k L (.ref (gt_ m) :: S) (al_ m (2, v0.toNatClampNeg) v0.toNatClampNeg))) (pc) := by
  intro L S m H locs cells slots ls h hL hP
  obtain ⟨hx, hb, hml, hown, hts, hlk, hst, hK, hN, hrm, hfr, hlo⟩ := X
  obtain ⟨v0, S, rfl, h9⟩ := q_i_I h
  obtain ⟨⟨hg1, hg2, hg3⟩, h9⟩ := gq_I h9
  have ht := hP.1.2.1 hg3
  obtain ⟨hm1, hm2, -⟩ := hmo _ _ _ h9
  have hm1 : gc_ m + 1 ≤ gc_ r.2 := hm1
  have hm2 : gs_ m + v0.toNatClampNeg ≤ gs_ r.2 := hm2
  have hp1 := hP.2.2.1
  have hp2 := hP.2.2.2
  refine va_newaK hx hb (atype := .int) (hts _ hw) rfl hd rfl hg1 rfl (by show _ * 4 ≤ _; omega) (by omega) (by omega) ht fun H1 cA e1 z1 o1 hAr hNm => ?_
  rw [← ht] at z1 o1
  have hcA : cA = E.1.2 2 := Option.some.inj (hNm.symm.trans (am_tyk hK 0 rfl).2)
  subst hcA
  refine hk9 _ _ _ _ _ _ _ _ h9 hL ⟨hP.1.new hg3 z1 o1 (am_at_k (t := 2) (n := v0.toNatClampNeg) (gk_al _ _ _) (by decide) (fun z => by cases z) (fun _ => ⟨by rw [← ht]; exact hP.1.2.2.1, ?_⟩) (fun z => by cases z) (fun z => by cases z) (fun z => am_rkn z (by decide) (by decide) (by decide) (by decide))), am_newS hP.2.1 z1 o1, by show _ = gc_ m + 1; omega, by show _ = gs_ m + _; omega⟩
  rw [e1]
  congr 2
  funext q
  rw [gi_al]
  rfl
theorem so_newarrayB (X : am_Cx p l R s mt args meth c cc nL own E m0 r) (hw : Cond.arrayClass .byte ∈ am_GW) (hd : decode cc pc = .ok (.newarray .byte, 2)) (hk9 : am_G p l e R s mt args below meth c nL E Q m0 r (k) (pc + 2)) (hmo : ∀ L S m, k L S m = some r → am_le m r) : am_G p l e R s mt args below meth c nL E Q m0 r (fun L S m => q_i S fun v0 S => gq_ (¬ v0 < 0 ∧ v0.toNatClampNeg ≤ 60000 ∧ ge_ m = true) (k L (.ref (gt_ m) :: S) (al_ m (3, v0.toNatClampNeg) v0.toNatClampNeg))) (pc) := by
  intro L S m H locs cells slots ls h hL hP
  obtain ⟨hx, hb, hml, hown, hts, hlk, hst, hK, hN, hrm, hfr, hlo⟩ := X
  obtain ⟨v0, S, rfl, h9⟩ := q_i_I h
  obtain ⟨⟨hg1, hg2, hg3⟩, h9⟩ := gq_I h9
  have ht := hP.1.2.1 hg3
  obtain ⟨hm1, hm2, -⟩ := hmo _ _ _ h9
  have hm1 : gc_ m + 1 ≤ gc_ r.2 := hm1
  have hm2 : gs_ m + v0.toNatClampNeg ≤ gs_ r.2 := hm2
  have hp1 := hP.2.2.1
  have hp2 := hP.2.2.2
  refine va_newaK hx hb (atype := .byte) (hts _ hw) rfl hd rfl hg1 rfl (by show _ * 1 ≤ _; omega) (by omega) (by omega) ht fun H1 cA e1 z1 o1 hAr hNm => ?_
  rw [← ht] at z1 o1
  have hcA : cA = E.1.2 3 := Option.some.inj (hNm.symm.trans (am_tyk hK 1 rfl).2)
  subst hcA
  refine hk9 _ _ _ _ _ _ _ _ h9 hL ⟨hP.1.new hg3 z1 o1 (am_at_k (t := 3) (n := v0.toNatClampNeg) (gk_al _ _ _) (by decide) (fun z => by cases z) (fun z => by cases z) (fun _ => ⟨by rw [← ht]; exact hP.1.2.2.1, ?_, fun j _ => by rw [gi_al]; rfl⟩) (fun z => by cases z) (fun z => am_rkn z (by decide) (by decide) (by decide) (by decide))), am_newS hP.2.1 z1 o1, by show _ = gc_ m + 1; omega, by show _ = gs_ m + _; omega⟩
  rw [e1]
  congr 2
  funext q
  rw [gi_al]
  rfl
theorem so_newarrayJ (X : am_Cx p l R s mt args meth c cc nL own E m0 r) (hw : Cond.arrayClass .long ∈ am_GW) (hd : decode cc pc = .ok (.newarray .long, 2)) (hk9 : am_G p l e R s mt args below meth c nL E Q m0 r (k) (pc + 2)) (hmo : ∀ L S m, k L S m = some r → am_le m r) : am_G p l e R s mt args below meth c nL E Q m0 r (fun L S m => q_i S fun v0 S => gq_ (¬ v0 < 0 ∧ v0.toNatClampNeg ≤ 60000 ∧ ge_ m = true) (k L (.ref (gt_ m) :: S) (al_ m (4, v0.toNatClampNeg) v0.toNatClampNeg))) (pc) := by
  intro L S m H locs cells slots ls h hL hP
  obtain ⟨hx, hb, hml, hown, hts, hlk, hst, hK, hN, hrm, hfr, hlo⟩ := X
  obtain ⟨v0, S, rfl, h9⟩ := q_i_I h
  obtain ⟨⟨hg1, hg2, hg3⟩, h9⟩ := gq_I h9
  have ht := hP.1.2.1 hg3
  obtain ⟨hm1, hm2, -⟩ := hmo _ _ _ h9
  have hm1 : gc_ m + 1 ≤ gc_ r.2 := hm1
  have hm2 : gs_ m + v0.toNatClampNeg ≤ gs_ r.2 := hm2
  have hp1 := hP.2.2.1
  have hp2 := hP.2.2.2
  refine va_newaK hx hb (atype := .long) (hts _ hw) rfl hd rfl hg1 rfl (by show _ * 8 ≤ _; omega) (by omega) (by omega) ht fun H1 cA e1 z1 o1 hAr hNm => ?_
  rw [← ht] at z1 o1
  have hcA : cA = E.1.2 4 := Option.some.inj (hNm.symm.trans (am_tyk hK 2 rfl).2)
  subst hcA
  refine hk9 _ _ _ _ _ _ _ _ h9 hL ⟨hP.1.new hg3 z1 o1 (am_at_k (t := 4) (n := v0.toNatClampNeg) (gk_al _ _ _) (by decide) (fun z => by cases z) (fun z => by cases z) (fun z => by cases z) (fun _ => ⟨by rw [← ht]; exact hP.1.2.2.1, ?_⟩) (fun z => am_rkn z (by decide) (by decide) (by decide) (by decide))), am_newS hP.2.1 z1 o1, by show _ = gc_ m + 1; omega, by show _ = gs_ m + _; omega⟩
  rw [e1]
  congr 2
  funext q
  rw [gl_al]
  rfl
theorem am_rnew {E : am_E} {m : am_M} {H : Heap} {t N : Nat} (hR : am_Rp E m H) (he : ge_ m = true) (hrk : am_rk t) : am_Rp E (al_ m (t, N) N) (H.push ({ cls := E.1.2 t, slots := Array.replicate N .null, vm := .none } : Cell)) ∧ (H.push ({ cls := E.1.2 t, slots := Array.replicate N .null, vm := .none } : Cell)).size = H.size + 1 ∧ ∀ q : Nat, q < H.size → (H.push ({ cls := E.1.2 t, slots := Array.replicate N .null, vm := .none } : Cell))[q]? = H[q]? := by
  have ht := hR.2.1 he
  generalize hH : H.push ({ cls := E.1.2 t, slots := Array.replicate N .null, vm := .none } : Cell) = H1
  have z1 : H1.size = H.size + 1 := by rw [← hH, Array.size_push]
  have e1 : H1[gt_ m]? = some (arrV (E.1.2 t) N (fun _ => .null)) := by rw [← hH, ← ht, Array.getElem?_push_size, ← arrV_new]
  have o1 : ∀ q : Nat, q < H.size → H1[q]? = H[q]? := fun q hq => by rw [← hH, Array.getElem?_push, if_neg (Nat.ne_of_lt hq)]
  refine ⟨hR.new he z1 o1 (am_at_k (t := t) (n := N) (gk_al _ _ _) (am_rk_cases (P := fun t => t ≤ 13 ∧ ¬ t = 5 ∧ ¬ t = 7 ∧ ¬ t = 8 ∧ ¬ t = 9 ∧ ¬ t = 13) hrk (by decide) (by decide) (by decide) (by decide)) (fun z => by rw [z] at hrk; exact am_rk1 hrk) (fun z => by rw [z] at hrk; exact am_rkn hrk (by decide) (by decide) (by decide) (by decide)) (fun z => by rw [z] at hrk; exact am_rkn hrk (by decide) (by decide) (by decide) (by decide)) (fun z => by rw [z] at hrk; exact am_rkn hrk (by decide) (by decide) (by decide) (by decide)) (fun _ => ⟨by rw [← ht]; exact hR.2.2.1, ?_⟩)), z1, o1⟩
  rw [e1]
  congr 2
  funext q
  rw [gr_al]
  rfl
theorem so_anewarray (X : am_Cx p l R s mt args meth c cc nL own E m0 r) {n t : Nat} {C : String} (hrk : am_rk t) (hnm : "[" ++ (FieldType.object C).toString = am_can t) (hw : Cond.classLink (am_cn own) n C ∈ am_GW) (hao : ∀ U, am_Kr E U → va_AO C U) (hd : decode cc pc = .ok (.anewarray n, 3)) (hk9 : am_G p l e R s mt args below meth c nL E Q m0 r (k) (pc + 3)) (hmo : ∀ L S m, k L S m = some r → am_le m r) : am_G p l e R s mt args below meth c nL E Q m0 r (fun L S m => q_i S fun v0 S => gq_ (¬ v0 < 0 ∧ v0.toNatClampNeg ≤ 60000 ∧ ge_ m = true) (k L (.ref (gt_ m) :: S) (al_ m (t, v0.toNatClampNeg) v0.toNatClampNeg))) (pc) := by
  intro L S m H locs cells slots ls h hL hP
  obtain ⟨hx, hb, hml, hown, hts, hlk, hst, hK, hN, hrm, hfr, hlo⟩ := X
  obtain ⟨v0, S, rfl, h9⟩ := q_i_I h
  obtain ⟨⟨hg1, hg2, hg3⟩, h9⟩ := gq_I h9
  have ht := hP.1.2.1 hg3
  obtain ⟨hm1, hm2, -⟩ := hmo _ _ _ h9
  have hm1 : gc_ m + 1 ≤ gc_ r.2 := hm1
  have hm2 : gs_ m + v0.toNatClampNeg ≤ gs_ r.2 := hm2
  have hp1 := hP.2.2.1
  have hp2 := hP.2.2.2
  refine W.anew hx hb hown (hts _ hw) (va_AO.use (hao _ hK.2.2.1)) rfl hd rfl hg1 (by omega) (by omega) (by omega) fun cA kA comp f1 f2 f3 f4 => ?_
  obtain ⟨kB, comp2, k1, k2, k3, k4⟩ := hK.2.2.1.1 t hrk
  rw [hnm] at f1
  have hcA : cA = E.1.2 t := Option.some.inj (f1.symm.trans k4)
  subst hcA
  obtain ⟨r1, r2, r3⟩ := am_rnew (N := v0.toNatClampNeg) hP.1 hg3 hrk
  rw [ht]
  exact hk9 _ _ _ _ _ _ _ _ h9 hL ⟨r1, am_newS hP.2.1 r2 r3, by show _ = gc_ m + 1; omega, by show _ = gs_ m + _; omega⟩
theorem so_anewarrayA (X : am_Cx p l R s mt args meth c cc nL own E m0 r) {n t : Nat} {ty : FieldType} (hrk : am_rk t) (hnm : "[" ++ (FieldType.array ty).toString = am_can t) (hw : Cond.classLink (am_cn own) n (FieldType.array ty).toString ∈ am_GW) (hao : ∀ U, am_Kr E U → am_AA ty U) (hd : decode cc pc = .ok (.anewarray n, 3)) (hk9 : am_G p l e R s mt args below meth c nL E Q m0 r (k) (pc + 3)) (hmo : ∀ L S m, k L S m = some r → am_le m r) : am_G p l e R s mt args below meth c nL E Q m0 r (fun L S m => q_i S fun v0 S => gq_ (¬ v0 < 0 ∧ v0.toNatClampNeg ≤ 60000 ∧ ge_ m = true) (k L (.ref (gt_ m) :: S) (al_ m (t, v0.toNatClampNeg) v0.toNatClampNeg))) (pc) := by
  intro L S m H locs cells slots ls h hL hP
  obtain ⟨hx, hb, hml, hown, hts, hlk, hst, hK, hN, hrm, hfr, hlo⟩ := X
  obtain ⟨v0, S, rfl, h9⟩ := q_i_I h
  obtain ⟨⟨hg1, hg2, hg3⟩, h9⟩ := gq_I h9
  have ht := hP.1.2.1 hg3
  obtain ⟨hm1, hm2, -⟩ := hmo _ _ _ h9
  have hm1 : gc_ m + 1 ≤ gc_ r.2 := hm1
  have hm2 : gs_ m + v0.toNatClampNeg ≤ gs_ r.2 := hm2
  have hp1 := hP.2.2.1
  have hp2 := hP.2.2.2
  refine W.anewA hx hb hown (hts _ hw) (am_AA.use (hao _ hK.2.2.1)) rfl hd rfl hg1 (by omega) (by omega) (by omega) fun cA kA comp f1 f2 f3 f4 => ?_
  obtain ⟨kB, comp2, k1, k2, k3, k4⟩ := hK.2.2.1.1 t hrk
  rw [hnm] at f1
  have hcA : cA = E.1.2 t := Option.some.inj (f1.symm.trans k4)
  subst hcA
  obtain ⟨r1, r2, r3⟩ := am_rnew (N := v0.toNatClampNeg) hP.1 hg3 hrk
  rw [ht]
  exact hk9 _ _ _ _ _ _ _ _ h9 hL ⟨r1, am_newS hP.2.1 r2 r3, by show _ = gc_ m + 1; omega, by show _ = gs_ m + _; omega⟩
theorem so_new (X : am_Cx p l R s mt args meth c cc nL own E m0 r) {n ci : Nat} (hci : ci < 17) (hw : Cond.classLink (am_cn own) n (am_vc ci).1 ∈ am_GW) (hw2 : Cond.instantiable (am_vc ci).1 (am_vc ci).2.2 ∈ am_GW) (hw3 : Cond.initialized (am_vc ci).1 ∈ am_GW) (hd : decode cc pc = .ok (.new n, 3)) (hk9 : am_G p l e R s mt args below meth c nL E Q m0 r (k) (pc + 3)) (hmo : ∀ L S m, k L S m = some r → am_le m r) : am_G p l e R s mt args below meth c nL E Q m0 r (fun L S m => gq_ (ge_ m = true) (k L (.ref (gt_ m) :: S) (al_ m (1, ci) (am_vc ci).2.2))) (pc) := by
  intro L S m H locs cells slots ls h hL hP
  obtain ⟨hx, hb, hml, hown, hts, hlk, hst, hK, hN, hrm, hfr, hlo⟩ := X
  obtain ⟨hg3, h9⟩ := gq_I h
  have ht := hP.1.2.1 hg3
  obtain ⟨hm1, hm2, -⟩ := hmo _ _ _ h9
  have hm1 : gc_ m + 1 ≤ gc_ r.2 := hm1
  have hm2 : gs_ m + (am_vc ci).2.2 ≤ gs_ r.2 := hm2
  have hp1 := hP.2.2.1
  have hp2 := hP.2.2.2
  have hKn := hK.1.1 ci _ (am_vc_get ci hci)
  refine W.newcK hx hb hown (hts _ hw) (hts _ hw2) (hts _ hw3) rfl hd (by omega) (by omega) hKn.2.1 ht fun H1 kC hkC e1 z1 o1 => ?_
  rw [← ht] at z1 o1
  have hty1 : ∀ k, k < (am_vc ci).2.2 → parseFieldDescriptor ((am_vc ci).2.1 k).2.2.1 = some ((parseFieldDescriptor ((am_vc ci).2.1 k).2.2.1).getD .int) := by
    intro k hk
    obtain ⟨⟨t, ht, -⟩, -⟩ := am_nm hci hk
    rw [ht]
    rfl
  have hB := u_born _ hts (am_ul hci) hKn hkC e1 hty1
  refine hk9 _ _ _ _ _ _ _ _ h9 hL ⟨hP.1.new hg3 z1 o1 (am_at_k (t := 1) (n := ci) (gk_al _ _ _) (by decide) (fun _ => ⟨by rw [← ht]; exact hP.1.2.2.1, hci, hB.to (fun j hj => ?_)⟩) (fun z => by cases z) (fun z => by cases z) (fun z => by cases z) (fun z => am_rk1 z)), am_newS hP.2.1 z1 o1, by show _ = gc_ m + 1; omega, by show _ = gs_ m + _; omega⟩
  obtain ⟨⟨t, h1, h2⟩, -⟩ := am_nm hci hj
  rw [h1]
  show defaultValue t = _
  rw [h2]
  unfold am_fv
  rw [gi_al, gl_al, gr_al]
  rfl
theorem am_cast {S : List Value} {H : Heap} {locs : List Loc} {cells slots : Nat} {ls : Array Slot} {a n : Nat} {nm : String} (X : am_Cx p l R s mt args meth c cc nL own E m0 r) (hw : Cond.classLink (am_cn own) n nm ∈ am_GW) (hd : decode cc pc = .ok (.checkcast n, 3)) {cell : Cell} (h1 : H[a]? = some cell) (h2 : cell.vm = .none) (h3 : s.vm.findClass nm = some cell.cls) (kk : W p l e R s mt args below meth c (H) (locs) (cells) (slots) Q (F0 mt (pc + 3) ls (.ref a :: S))) : W p l e R s mt args below meth c (H) (locs) (cells) (slots) Q (F0 mt pc ls (.ref a :: S)) := by
  obtain ⟨hx, hb, hml, hown, hts, hlk, hst, hK, hN, hrm, hfr, hlo⟩ := X
  intro T hT X
  obtain ⟨vm', X', st⟩ := X.checkcastYes hx hown (hts _ hw) (by rw [hT]; exact h1) (by rw [h2]; rfl) h3 (va_asg _ _) (g := F0 mt pc ls (.ref a :: S)) rfl rfl (by rw [hb]; exact hd)
  obtain ⟨t, a1, b1⟩ := kk (T.setVm vm') hT X'
  exact ⟨t, st t a1, b1⟩
theorem so_castO (X : am_Cx p l R s mt args meth c cc nL own E m0 r) {n x1 x2 : Nat} (h1 : x1 = 1) (hw : Cond.classLink (am_cn own) n (am_vc x2).1 ∈ am_GW) (hd : decode cc pc = .ok (.checkcast n, 3)) (hk9 : am_G p l e R s mt args below meth c nL E Q m0 r (k) (pc + 3)) : am_G p l e R s mt args below meth c nL E Q m0 r (fun L S m => q_r S fun v0 S => gq_ ((gk_ m v0).1 = x1 ∧ (x1 = 1 → (gk_ m v0).2 = x2)) (k L (.ref v0 :: S) m)) (pc) := by
  intro L S m H locs cells slots ls h hL hP
  obtain ⟨hx, hb, hml, hown, hts, hlk, hst, hK, hN, hrm, hfr, hlo⟩ := X
  subst h1
  obtain ⟨v0, S, rfl, h9⟩ := q_r_I h
  obtain ⟨⟨g1, g2⟩, h9⟩ := gq_I h9
  have g2 := g2 rfl
  obtain ⟨-, g0, cell, q1, q2, q3, -⟩ := (hP.1.1 v0).1 g1
  rw [g2] at g0 q2
  have hcls := (hK.1.1 x2 _ (am_vc_get x2 g0)).2
  exact am_cast ⟨hx, hb, hml, hown, hts, hlk, hst, hK, hN, hrm, hfr, hlo⟩ hw hd q1 q3 (by rw [q2]; exact hcls.1) (hk9 _ _ _ _ _ _ _ _ h9 hL hP)
theorem so_castI (X : am_Cx p l R s mt args meth c cc nL own E m0 r) {n x1 x2 : Nat} (h1 : x1 = 2) (hw : Cond.classLink (am_cn own) n "[I" ∈ am_GW) (hd : decode cc pc = .ok (.checkcast n, 3)) (hk9 : am_G p l e R s mt args below meth c nL E Q m0 r (k) (pc + 3)) : am_G p l e R s mt args below meth c nL E Q m0 r (fun L S m => q_r S fun v0 S => gq_ ((gk_ m v0).1 = x1 ∧ (x1 = 1 → (gk_ m v0).2 = x2)) (k L (.ref v0 :: S) m)) (pc) := by
  intro L S m H locs cells slots ls h hL hP
  obtain ⟨hx, hb, hml, hown, hts, hlk, hst, hK, hN, hrm, hfr, hlo⟩ := X
  subst h1
  obtain ⟨v0, S, rfl, h9⟩ := q_r_I h
  obtain ⟨⟨g1, -⟩, h9⟩ := gq_I h9
  obtain ⟨-, hc⟩ := (hP.1.1 v0).2.1 g1
  exact am_cast ⟨hx, hb, hml, hown, hts, hlk, hst, hK, hN, hrm, hfr, hlo⟩ hw hd hc rfl (am_tyk hK 0 rfl).2 (hk9 _ _ _ _ _ _ _ _ h9 hL hP)
theorem so_castB (X : am_Cx p l R s mt args meth c cc nL own E m0 r) {n x1 x2 : Nat} (h1 : x1 = 3) (hw : Cond.classLink (am_cn own) n "[B" ∈ am_GW) (hd : decode cc pc = .ok (.checkcast n, 3)) (hk9 : am_G p l e R s mt args below meth c nL E Q m0 r (k) (pc + 3)) : am_G p l e R s mt args below meth c nL E Q m0 r (fun L S m => q_r S fun v0 S => gq_ ((gk_ m v0).1 = x1 ∧ (x1 = 1 → (gk_ m v0).2 = x2)) (k L (.ref v0 :: S) m)) (pc) := by
  intro L S m H locs cells slots ls h hL hP
  obtain ⟨hx, hb, hml, hown, hts, hlk, hst, hK, hN, hrm, hfr, hlo⟩ := X
  subst h1
  obtain ⟨v0, S, rfl, h9⟩ := q_r_I h
  obtain ⟨⟨g1, -⟩, h9⟩ := gq_I h9
  obtain ⟨-, hc, -⟩ := (hP.1.1 v0).2.2.1 g1
  exact am_cast ⟨hx, hb, hml, hown, hts, hlk, hst, hK, hN, hrm, hfr, hlo⟩ hw hd hc rfl (am_tyk hK 1 rfl).2 (hk9 _ _ _ _ _ _ _ _ h9 hL hP)
theorem so_castR (X : am_Cx p l R s mt args meth c cc nL own E m0 r) {n x1 x2 : Nat} {nm : String} (hrk : am_rk x1) (hnm : am_can x1 = nm) (hw : Cond.classLink (am_cn own) n nm ∈ am_GW) (hd : decode cc pc = .ok (.checkcast n, 3)) (hk9 : am_G p l e R s mt args below meth c nL E Q m0 r (k) (pc + 3)) : am_G p l e R s mt args below meth c nL E Q m0 r (fun L S m => q_r S fun v0 S => gq_ ((gk_ m v0).1 = x1 ∧ (x1 = 1 → (gk_ m v0).2 = x2)) (k L (.ref v0 :: S) m)) (pc) := by
  intro L S m H locs cells slots ls h hL hP
  obtain ⟨hx, hb, hml, hown, hts, hlk, hst, hK, hN, hrm, hfr, hlo⟩ := X
  obtain ⟨v0, S, rfl, h9⟩ := q_r_I h
  obtain ⟨⟨g1, -⟩, h9⟩ := gq_I h9
  obtain ⟨-, hc⟩ := (hP.1.1 v0).2.2.2.2.1 (by rw [g1]; exact hrk)
  rw [g1] at hc
  exact am_cast ⟨hx, hb, hml, hown, hts, hlk, hst, hK, hN, hrm, hfr, hlo⟩ hw hd hc rfl (by rw [← hnm]; obtain ⟨_, _, -, -, -, z⟩ := hK.2.2.1.1 x1 hrk; exact z) (hk9 _ _ _ _ _ _ _ _ h9 hL hP)
end S3
