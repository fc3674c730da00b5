/-! arrays, new cells, copies -/
section S3
variable {p : Program} {l : Launch} {e : Env} {R : Room} {s : State} {mt : MethodId} {args : Array Value} {below : List Frame} {meth : Method} {c : Code} {nL own : Nat} {cc : ByteArray} {E : am_E} {Q : State → Prop} {m0 : am_M} {r : am_R} {pc : Nat} {k : am_L → List Value → am_M → Option am_R} {x : am_X}
theorem am_tyk {E : am_E} {U : State} {H : Heap} (h : am_Kk E U H) (i : Nat) {q : ClassId × FieldType} (hq : (am_ty E)[i]? = some q) : ArrOfT U q.1 q.2 ∧ va_RA U q.1 q.2 := h.1.2 i q hq
theorem am_nv {cA : ClassId} {N : Nat} {f : Nat → Value} : (arrV cA N f).vm ≠ .unknown := fun h => by cases h
theorem am_inv {cA : ClassId} {N : Nat} {f : Nat → Value} {j : Int32} (h : in_ j N) : ¬ (j < 0 ∨ (arrV cA N f).slots.size ≤ j.toNatClampNeg) := by rw [arrV_size]; exact h
theorem am_rdv {cA : ClassId} {N : Nat} {f : Nat → Value} {j : Int32} (h : in_ j N) : (arrV cA N f).slots[j.toNatClampNeg]? = some (f j.toNatClampNeg) := arrV_read cA f (Nat.not_le.mp fun q => h (Or.inr q))
theorem so_iaload (X : am_Cx p l R s mt args meth c cc nL own E m0 r) (hd : decode cc pc = .ok (.iaload, 1)) (hk9 : am_G p l e R s mt args below meth c nL E Q m0 r (k) (pc + 1)) : am_G p l e R s mt args below meth c nL E Q m0 r (fun L S m => q_ir S fun v0 v1 S => gq_ (((gk_ m v1).1 = 2 ∨ (gk_ m v1).1 = 7) ∧ in_ v0 (gk_ m v1).2) (k L (.int (gi_ m v1 v0.toNatClampNeg) :: S) m)) (pc) := by
  intro L S m H locs cells slots ls h hL hP
  obtain ⟨hx, hb, hml, hown, hts, hlk, hst, hK, hN, hrm, hfr, hlo⟩ := X
  obtain ⟨v0, v1, S, rfl, h9⟩ := q_ir_I h
  obtain ⟨hg, h9⟩ := gq_I h9
  obtain ⟨hg0, hin⟩ := hg
  rcases hg0 with hg1 | hg1
  · have hc := ((hP.1.1 v1).2.1 hg1).2
    exact W.iald (v := .int (gi_ m v1 v0.toNatClampNeg)) hx hb hc ((am_tyk hK 0 rfl).1 _ _) am_nv (am_inv hin) (am_rdv hin) rfl rfl hd (hk9 _ _ _ _ _ _ _ _ h9 hL hP)
  · obtain ⟨e1, e2, e3⟩ := (hP.1.1 v1).2.2.2.2.2.2.1 hg1
    rw [e2] at hin
    obtain ⟨⟨scr, c1, c2, c3, c4, c5⟩, hbN, hbs⟩ := hK.2.2.2.1
    have hlt : v0.toNatClampNeg < E.2.2.1.2.1 := Nat.not_le.mp fun q => hin (Or.inr q)
    refine W.iald (v := .int (gi_ m v1 v0.toNatClampNeg)) (cell := scr) hx hb (by rw [e1, hP.2.1.2.1 _ hbs (fun z => absurd z (Nat.not_le.mpr hbN))]; exact c1) c2 c3 (by rw [c4]; exact hin) (by rw [c5 _ hlt, e3 _ hlt]) rfl rfl hd (hk9 _ _ _ _ _ _ _ _ h9 hL hP)
theorem so_baload (X : am_Cx p l R s mt args meth c cc nL own E m0 r) (hd : decode cc pc = .ok (.baload, 1)) (hk9 : am_G p l e R s mt args below meth c nL E Q m0 r (k) (pc + 1)) : am_G p l e R s mt args below meth c nL E Q m0 r (fun L S m => q_ir S fun v0 v1 S => gq_ (((gk_ m v1).1 = 3 ∨ (gk_ m v1).1 = 9) ∧ in_ v0 (gk_ m v1).2) (k L (.int (gi_ m v1 v0.toNatClampNeg) :: S) m)) (pc) := by
  intro L S m H locs cells slots ls h hL hP
  obtain ⟨hx, hb, hml, hown, hts, hlk, hst, hK, hN, hrm, hfr, hlo⟩ := X
  obtain ⟨v0, v1, S, rfl, h9⟩ := q_ir_I h
  obtain ⟨hg, h9⟩ := gq_I h9
  obtain ⟨hg0, hin⟩ := hg
  rcases hg0 with hg1 | hg1
  · have hc := ((hP.1.1 v1).2.2.1 hg1).2
    exact W.bald (v := .int (gi_ m v1 v0.toNatClampNeg)) hx hb hc ((am_tyk hK 1 rfl).1 _ _) am_nv (am_inv hin) (am_rdv hin) rfl rfl hd (hk9 _ _ _ _ _ _ _ _ h9 hL hP)
  · obtain ⟨e1, e2, e3⟩ := (hP.1.1 v1).2.2.2.2.2.2.2.1 hg1
    rw [e2] at hin
    obtain ⟨-, -, -, -, -, -, -, ⟨hSt, -⟩, -, -⟩ := hK
    obtain ⟨-, -, -, cell, c1, c2, c3, c4, c5, c6, c7⟩ := hSt 0 (by decide)
    have c4 : tx_.length ≤ cell.slots.size := c4
    have hlt : v0.toNatClampNeg < tx_.length := Nat.not_le.mp fun q => hin (Or.inr q)
    refine W.bald (v := .int (gi_ m v1 v0.toNatClampNeg)) (cell := cell) hx hb (by rw [e1, hP.2.1.2.1 _ (Array.getElem?_eq_some_iff.mp c1).1 c7]; exact c1) c2 c3 (fun z => z.elim (fun z => hin (Or.inl z)) (fun z => absurd hlt (by omega))) (by rw [c6 _ hlt, e3 _ hlt]; rfl) rfl rfl hd (hk9 _ _ _ _ _ _ _ _ h9 hL hP)
theorem so_laload (X : am_Cx p l R s mt args meth c cc nL own E m0 r) (hd : decode cc pc = .ok (.laload, 1)) (hk9 : am_G p l e R s mt args below meth c nL E Q m0 r (k) (pc + 1)) : am_G p l e R s mt args below meth c nL E Q m0 r (fun L S m => q_ir S fun v0 v1 S => gq_ ((gk_ m v1).1 = 4 ∧ in_ v0 (gk_ m v1).2) (k L (.long (gl_ m v1 v0.toNatClampNeg) :: S) m)) (pc) := by
  intro L S m H locs cells slots ls h hL hP
  obtain ⟨hx, hb, hml, hown, hts, hlk, hst, hK, hN, hrm, hfr, hlo⟩ := X
  obtain ⟨v0, v1, S, rfl, h9⟩ := q_ir_I h
  obtain ⟨hg, h9⟩ := gq_I h9
  obtain ⟨hg1, hin⟩ := hg
  have hc := ((hP.1.1 v1).2.2.2.1 hg1).2
  exact W.lald (v := .long (gl_ m v1 v0.toNatClampNeg)) hx hb hc ((am_tyk hK 2 rfl).1 _ _) am_nv (am_inv hin) (am_rdv hin) rfl rfl hd (hk9 _ _ _ _ _ _ _ _ h9 hL hP)
theorem so_daload (X : am_Cx p l R s mt args meth c cc nL own E m0 r) (hd : decode cc pc = .ok (.daload, 1)) (hk9 : am_G p l e R s mt args below meth c nL E Q m0 r (k) (pc + 1)) : am_G p l e R s mt args below meth c nL E Q m0 r (fun L S m => q_ir S fun v0 v1 S => gq_ ((gk_ m v1).1 = 5 ∧ in_ v0 (gk_ m v1).2) (k L (.double (gd_ m v1 v0.toNatClampNeg) :: S) m)) (pc) := by
  intro L S m H locs cells slots ls h hL hP
  obtain ⟨hx, hb, hml, hown, hts, hlk, hst, hK, hN, hrm, hfr, hlo⟩ := X
  obtain ⟨v0, v1, S, rfl, h9⟩ := q_ir_I h
  obtain ⟨hg, h9⟩ := gq_I h9
  obtain ⟨hg1, hin⟩ := hg
  have hc := ((hP.1.1 v1).2.2.2.2.1 hg1).2
  exact W.dald (v := .double (gd_ m v1 v0.toNatClampNeg)) hx hb hc ((am_tyk hK 3 rfl).1 _ _) am_nv (am_inv hin) (am_rdv hin) rfl rfl hd (hk9 _ _ _ _ _ _ _ _ h9 hL hP)
theorem so_aaload (X : am_Cx p l R s mt args meth c cc nL own E m0 r) (hd : decode cc pc = .ok (.aaload, 1)) (hk9 : am_G p l e R s mt args below meth c nL E Q m0 r (k) (pc + 1)) : am_G p l e R s mt args below meth c nL E Q m0 r (fun L S m => q_ir S fun v0 v1 S => gq_ ((gk_ m v1).1 = 6 ∧ in_ v0 (gk_ m v1).2 ∧ ¬ gr_ m v1 v0.toNatClampNeg = 0) (k L (.ref (gr_ m v1 v0.toNatClampNeg) :: S) m)) (pc) := by
  intro L S m H locs cells slots ls h hL hP
  obtain ⟨hx, hb, hml, hown, hts, hlk, hst, hK, hN, hrm, hfr, hlo⟩ := X
  obtain ⟨v0, v1, S, rfl, h9⟩ := q_ir_I h
  obtain ⟨⟨hg1, hin, hz⟩, h9⟩ := gq_I h9
  have hc := ((hP.1.1 v1).2.2.2.2.2.1 hg1).2
  exact W.aald (v := .ref (gr_ m v1 v0.toNatClampNeg)) (ty := .object "RoyaltyOffice$Office") hx hb hc ((am_tyk hK 4 rfl).1 _ _) rfl am_nv (am_inv hin) (by rw [am_rdv hin, rf_, if_neg hz]) rfl rfl hd (hk9 _ _ _ _ _ _ _ _ h9 hL hP)
theorem am_sz32 {cA : ClassId} {N : Nat} {f : Nat → Value} : (arrV cA N f).slots.size.toInt32 = nI N := by rw [arrV_size]; rfl
theorem so_arraylength (X : am_Cx p l R s mt args meth c cc nL own E m0 r) (hd : decode cc pc = .ok (.arraylength, 1)) (hk9 : am_G p l e R s mt args below meth c nL E Q m0 r (k) (pc + 1)) : am_G p l e R s mt args below meth c nL E Q m0 r (fun L S m => q_r S fun v0 S => gq_ (2 ≤ (gk_ m v0).1 ∧ ¬ (gk_ m v0).1 = 8) (k L (.int (nI (gk_ m v0).2) :: S) m)) (pc) := by
  intro L S m H locs cells slots ls h hL hP
  obtain ⟨hx, hb, hml, hown, hts, hlk, hst, hK, hN, hrm, hfr, hlo⟩ := X
  obtain ⟨v0, S, rfl, h9⟩ := q_r_I h
  obtain ⟨⟨hg1, hg2⟩, h9⟩ := gq_I h9
  have h99 := (hP.1.1 v0).2.2.2.2.2.2.2.2.1
  rcases (show (gk_ m v0).1 = 2 ∨ (gk_ m v0).1 = 3 ∨ (gk_ m v0).1 = 4 ∨ (gk_ m v0).1 = 5 ∨ (gk_ m v0).1 = 6 ∨ (gk_ m v0).1 = 7 ∨ (gk_ m v0).1 = 9 by omega) with q | q | q | q | q | q | q
  · exact W.alen hx hb ((hP.1.1 v0).2.1 q).2 ((am_tyk hK 0 rfl).1 _ _) am_sz32 rfl rfl hd (hk9 _ _ _ _ _ _ _ _ h9 hL hP)
  · exact W.alen hx hb ((hP.1.1 v0).2.2.1 q).2 ((am_tyk hK 1 rfl).1 _ _) am_sz32 rfl rfl hd (hk9 _ _ _ _ _ _ _ _ h9 hL hP)
  · exact W.alen hx hb ((hP.1.1 v0).2.2.2.1 q).2 ((am_tyk hK 2 rfl).1 _ _) am_sz32 rfl rfl hd (hk9 _ _ _ _ _ _ _ _ h9 hL hP)
  · exact W.alen hx hb ((hP.1.1 v0).2.2.2.2.1 q).2 ((am_tyk hK 3 rfl).1 _ _) am_sz32 rfl rfl hd (hk9 _ _ _ _ _ _ _ _ h9 hL hP)
  · exact W.alen hx hb ((hP.1.1 v0).2.2.2.2.2.1 q).2 ((am_tyk hK 4 rfl).1 _ _) am_sz32 rfl rfl hd (hk9 _ _ _ _ _ _ _ _ h9 hL hP)
  · obtain ⟨e1, e2, e3⟩ := (hP.1.1 v0).2.2.2.2.2.2.1 q
    obtain ⟨⟨scr, c1, c2, c3, c4, c5⟩, hbN, hbs⟩ := hK.2.2.2.1
    exact W.alen (cell := scr) hx hb (by rw [e1, hP.2.1.2.1 _ hbs (fun z => absurd z (Nat.not_le.mpr hbN))]; exact c1) c2 (by rw [c4, e2]; rfl) rfl rfl hd (hk9 _ _ _ _ _ _ _ _ h9 hL hP)
  · obtain ⟨e1, e2, e3⟩ := (hP.1.1 v0).2.2.2.2.2.2.2.1 q
    obtain ⟨-, -, -, -, -, -, -, ⟨hSt, -⟩, -, -⟩ := hK
    obtain ⟨-, -, -, cell, c1, c2, c3, c4, c5, c6, c7⟩ := hSt 0 (by decide)
    exact W.alen (cell := cell) hx hb (by rw [e1, hP.2.1.2.1 _ (Array.getElem?_eq_some_iff.mp c1).1 c7]; exact c1) c2 (by rw [e2]; exact c5) rfl rfl hd (hk9 _ _ _ _ _ _ _ _ h9 hL hP)
theorem so_iastore (X : am_Cx p l R s mt args meth c cc nL own E m0 r) (hd : decode cc pc = .ok (.iastore, 1)) (hk9 : am_G p l e R s mt args below meth c nL E Q m0 r (k) (pc + 1)) : am_G p l e R s mt args below meth c nL E Q m0 r (fun L S m => q_iir S fun v0 v1 v2 S => gq_ ((gk_ m v2).1 = 2 ∧ in_ v1 (gk_ m v2).2) (k L S (si_ m v2 v1.toNatClampNeg v0))) (pc) := by
  intro L S m H locs cells slots ls h hL hP
  obtain ⟨hx, hb, hml, hown, hts, hlk, hst, hK, hN, hrm, hfr, hlo⟩ := X
  obtain ⟨v0, v1, v2, S, rfl, h9⟩ := q_iir_I h
  obtain ⟨⟨hg1, hin⟩, h9⟩ := gq_I h9
  obtain ⟨hN0, hc⟩ := (hP.1.1 v2).2.1 hg1
  refine W.iast hx hb hc ((am_tyk hK 0 rfl).1 _ _) am_nv (am_inv hin) rfl rfl hd fun H1 e1 e2 e3 => ?_
  refine hk9 _ _ _ _ _ _ _ _ h9 hL ⟨hP.1.upd e2 e3 (fun b hb => ⟨rfl, fun q => ?_, fun q => ?_, fun q => rfl, fun q => ?_⟩) rfl rfl (am_at_k (t := 2) (n := (gk_ m v2).2) (Prod.ext hg1 rfl) (by decide) (fun z => by cases z) (fun _ => ⟨hN0, ?_⟩) (fun z => by cases z) (fun z => by cases z) (fun z => by cases z) (fun z => by cases z) (by decide) (by decide)), hP.2.1.put e2 e3 hN0, hP.2.2.1, hP.2.2.2⟩
  · first | rfl | exact if_neg (fun z => hb z.1)
  · first | rfl | exact if_neg (fun z => hb z.1)
  · first | rfl | exact if_neg (fun z => hb z.1)
  · rw [e1, arrV_store]
    congr 2
    funext q
    show (if q = _ then _ else _) = _
    by_cases hq : q = v1.toNatClampNeg
    · rw [if_pos hq, gi_si, if_pos ⟨rfl, hq⟩]
    · rw [if_neg hq, gi_si, if_neg (fun z => hq z.2)]
theorem so_bastore (X : am_Cx p l R s mt args meth c cc nL own E m0 r) (hd : decode cc pc = .ok (.bastore, 1)) (hk9 : am_G p l e R s mt args below meth c nL E Q m0 r (k) (pc + 1)) : am_G p l e R s mt args below meth c nL E Q m0 r (fun L S m => q_iir S fun v0 v1 v2 S => gq_ ((gk_ m v2).1 = 3 ∧ in_ v1 (gk_ m v2).2) (k L S (si_ m v2 v1.toNatClampNeg v0.toInt8.toInt32))) (pc) := by
  intro L S m H locs cells slots ls h hL hP
  obtain ⟨hx, hb, hml, hown, hts, hlk, hst, hK, hN, hrm, hfr, hlo⟩ := X
  obtain ⟨v0, v1, v2, S, rfl, h9⟩ := q_iir_I h
  obtain ⟨⟨hg1, hin⟩, h9⟩ := gq_I h9
  obtain ⟨hN0, hc⟩ := (hP.1.1 v2).2.2.1 hg1
  refine W.bast hx hb hc ((am_tyk hK 1 rfl).1 _ _) am_nv (am_inv hin) rfl rfl hd fun H1 e1 e2 e3 => ?_
  refine hk9 _ _ _ _ _ _ _ _ h9 hL ⟨hP.1.upd e2 e3 (fun b hb => ⟨rfl, fun q => ?_, fun q => ?_, fun q => rfl, fun q => ?_⟩) rfl rfl (am_at_k (t := 3) (n := (gk_ m v2).2) (Prod.ext hg1 rfl) (by decide) (fun z => by cases z) (fun z => by cases z) (fun _ => ⟨hN0, ?_⟩) (fun z => by cases z) (fun z => by cases z) (fun z => by cases z) (by decide) (by decide)), hP.2.1.put e2 e3 hN0, hP.2.2.1, hP.2.2.2⟩
  · first | rfl | exact if_neg (fun z => hb z.1)
  · first | rfl | exact if_neg (fun z => hb z.1)
  · first | rfl | exact if_neg (fun z => hb z.1)
  · rw [e1, arrV_store]
    congr 2
    funext q
    show (if q = _ then _ else _) = _
    by_cases hq : q = v1.toNatClampNeg
    · rw [if_pos hq, gi_si, if_pos ⟨rfl, hq⟩]
      rfl
    · rw [if_neg hq, gi_si, if_neg (fun z => hq z.2)]
theorem so_lastore (X : am_Cx p l R s mt args meth c cc nL own E m0 r) (hd : decode cc pc = .ok (.lastore, 1)) (hk9 : am_G p l e R s mt args below meth c nL E Q m0 r (k) (pc + 1)) : am_G p l e R s mt args below meth c nL E Q m0 r (fun L S m => q_lir S fun v0 v1 v2 S => gq_ ((gk_ m v2).1 = 4 ∧ in_ v1 (gk_ m v2).2) (k L S (sl_ m v2 v1.toNatClampNeg v0))) (pc) := by
  intro L S m H locs cells slots ls h hL hP
  obtain ⟨hx, hb, hml, hown, hts, hlk, hst, hK, hN, hrm, hfr, hlo⟩ := X
  obtain ⟨v0, v1, v2, S, rfl, h9⟩ := q_lir_I h
  obtain ⟨⟨hg1, hin⟩, h9⟩ := gq_I h9
  obtain ⟨hN0, hc⟩ := (hP.1.1 v2).2.2.2.1 hg1
  refine W.last hx hb hc ((am_tyk hK 2 rfl).1 _ _) am_nv (am_inv hin) rfl rfl hd fun H1 e1 e2 e3 => ?_
  refine hk9 _ _ _ _ _ _ _ _ h9 hL ⟨hP.1.upd e2 e3 (fun b hb => ⟨rfl, fun q => ?_, fun q => ?_, fun q => rfl, fun q => ?_⟩) rfl rfl (am_at_k (t := 4) (n := (gk_ m v2).2) (Prod.ext hg1 rfl) (by decide) (fun z => by cases z) (fun z => by cases z) (fun z => by cases z) (fun _ => ⟨hN0, ?_⟩) (fun z => by cases z) (fun z => by cases z) (by decide) (by decide)), hP.2.1.put e2 e3 hN0, hP.2.2.1, hP.2.2.2⟩
  · first | rfl | exact if_neg (fun z => hb z.1)
  · first | rfl | exact if_neg (fun z => hb z.1)
  · first | rfl | exact if_neg (fun z => hb z.1)
  · rw [e1, arrV_store]
    congr 2
    funext q
    show (if q = _ then _ else _) = _
    by_cases hq : q = v1.toNatClampNeg
    · rw [if_pos hq, gl_sl, if_pos ⟨rfl, hq⟩]
    · rw [if_neg hq, gl_sl, if_neg (fun z => hq z.2)]
theorem so_dastore (X : am_Cx p l R s mt args meth c cc nL own E m0 r) (hd : decode cc pc = .ok (.dastore, 1)) (hk9 : am_G p l e R s mt args below meth c nL E Q m0 r (k) (pc + 1)) : am_G p l e R s mt args below meth c nL E Q m0 r (fun L S m => q_dir S fun v0 v1 v2 S => gq_ ((gk_ m v2).1 = 5 ∧ in_ v1 (gk_ m v2).2) (k L S (sd_ m v2 v1.toNatClampNeg v0))) (pc) := by
  intro L S m H locs cells slots ls h hL hP
  obtain ⟨hx, hb, hml, hown, hts, hlk, hst, hK, hN, hrm, hfr, hlo⟩ := X
  obtain ⟨v0, v1, v2, S, rfl, h9⟩ := q_dir_I h
  obtain ⟨⟨hg1, hin⟩, h9⟩ := gq_I h9
  obtain ⟨hN0, hc⟩ := (hP.1.1 v2).2.2.2.2.1 hg1
  refine W.dast hx hb hc ((am_tyk hK 3 rfl).1 _ _) am_nv (am_inv hin) rfl rfl hd fun H1 e1 e2 e3 => ?_
  refine hk9 _ _ _ _ _ _ _ _ h9 hL ⟨hP.1.upd e2 e3 (fun b hb => ⟨rfl, fun q => ?_, fun q => ?_, fun q => rfl, fun q => ?_⟩) rfl rfl (am_at_k (t := 5) (n := (gk_ m v2).2) (Prod.ext hg1 rfl) (by decide) (fun z => by cases z) (fun z => by cases z) (fun z => by cases z) (fun z => by cases z) (fun _ => ⟨hN0, ?_⟩) (fun z => by cases z) (by decide) (by decide)), hP.2.1.put e2 e3 hN0, hP.2.2.1, hP.2.2.2⟩
  · first | rfl | exact if_neg (fun z => hb z.1)
  · first | rfl | exact if_neg (fun z => hb z.1)
  · first | rfl | exact if_neg (fun z => hb z.1)
  · rw [e1, arrV_store]
    congr 2
    funext q
    show (if q = _ then _ else _) = _
    by_cases hq : q = v1.toNatClampNeg
    · rw [if_pos hq, gd_sd, if_pos ⟨rfl, hq⟩]
    · rw [if_neg hq, gd_sd, if_neg (fun z => hq z.2)]
theorem so_aastore (X : am_Cx p l R s mt args meth c cc nL own E m0 r) (hd : decode cc pc = .ok (.aastore, 1)) (hk9 : am_G p l e R s mt args below meth c nL E Q m0 r (k) (pc + 1)) : am_G p l e R s mt args below meth c nL E Q m0 r (fun L S m => q_rir S fun v0 v1 v2 S => gq_ ((gk_ m v2).1 = 6 ∧ in_ v1 (gk_ m v2).2 ∧ gk_ m v0 = (1, 3) ∧ ¬ v0 = 0) (k L S (sr_ m v2 v1.toNatClampNeg v0))) (pc) := by
  intro L S m H locs cells slots ls h hL hP
  obtain ⟨hx, hb, hml, hown, hts, hlk, hst, hK, hN, hrm, hfr, hlo⟩ := X
  obtain ⟨v0, v1, v2, S, rfl, h9⟩ := q_rir_I h
  obtain ⟨⟨hg1, hin, hg3, hz⟩, h9⟩ := gq_I h9
  obtain ⟨hN0, hc⟩ := (hP.1.1 v2).2.2.2.2.2.1 hg1
  obtain ⟨-, -, cellV, g1, g2, g3, -⟩ := (hP.1.1 v0).1 (by rw [hg3])
  rw [hg3] at g2
  have hcls := (hK.1.1 3 _ (am_vc_get 3 (by decide))).2
  obtain ⟨kA, comp, k1, k2, k3, -⟩ := (am_tyk hK 4 rfl).2
  have hcomp : comp = E.1.1.1 3 := Option.some.inj (k3.symm.trans hcls.1)
  subst hcomp
  obtain ⟨kC, hkC, -⟩ := hcls.2
  have hin2 := hin
  have hlt : v1.toNatClampNeg < (gk_ m v2).2 := Nat.not_le.mp fun q => hin2 (Or.inr q)
  refine W.aast hx hb hc (fun q h => by cases h) (fun h => by cases h) k1 k2 rfl hkC ⟨fun q => hin2 (Or.inl q), by show _ < (arrV _ _ _).slots.size; rw [arrV_size]; exact hlt⟩ g1 (fun q h => by rw [g3] at h; cases h) (by rw [g2]; exact hkC) (by rw [g2]; exact va_assign hcls) rfl rfl hd fun H1 e1 e2 e3 => ?_
  refine hk9 _ _ _ _ _ _ _ _ h9 hL ⟨hP.1.upd e2 e3 (fun b hb => ⟨rfl, fun q => rfl, fun q => rfl, fun q => if_neg (fun z => hb z.1), fun q => rfl⟩) rfl rfl (am_at_k (t := 6) (n := (gk_ m v2).2) (Prod.ext hg1 rfl) (by decide) (fun z => by cases z) (fun z => by cases z) (fun z => by cases z) (fun z => by cases z) (fun z => by cases z) (fun _ => ⟨hN0, ?_⟩) (by decide) (by decide)), hP.2.1.put e2 e3 hN0, hP.2.2.1, hP.2.2.2⟩
  rw [e1, arrV_store]
  congr 2
  funext q
  show (if q = _ then _ else _) = _
  by_cases hq : q = v1.toNatClampNeg
  · rw [if_pos hq, gr_sr, if_pos ⟨rfl, hq⟩, rf_, if_neg hz]
  · rw [if_neg hq, gr_sr, if_neg (fun z => hq z.2)]
theorem am_newS {A : Nat → Prop} {H0 H H1 : Heap} {locs : List Loc} (hS : va_S A H0 H locs) (z1 : H1.size = H.size + 1) (o1 : ∀ q, q < H.size → H1[q]? = H[q]?) : va_S A H0 H1 locs := ⟨Nat.le_trans hS.1 (by omega), fun q h1 h2 => (o1 q (Nat.lt_of_lt_of_le h1 hS.1)).trans (hS.2.1 q h1 h2), hS.2.2⟩
theorem gk_al (m : am_M) (k : Nat × Nat) (n : Nat) : gk_ (al_ m k n) (gt_ m) = k := if_pos rfl
theorem gi_al (m : am_M) (k : Nat × Nat) (n j : Nat) : gi_ (al_ m k n) (gt_ m) j = 0 := congrFun (if_pos rfl) j
theorem gl_al (m : am_M) (k : Nat × Nat) (n j : Nat) : gl_ (al_ m k n) (gt_ m) j = 0 := congrFun (if_pos rfl) j
theorem gr_al (m : am_M) (k : Nat × Nat) (n j : Nat) : gr_ (al_ m k n) (gt_ m) j = 0 := congrFun (if_pos rfl) j
theorem gd_al (m : am_M) (k : Nat × Nat) (n j : Nat) : gd_ (al_ m k n) (gt_ m) j = 0 := congrFun (if_pos rfl) j
theorem so_newarrayI (X : am_Cx p l R s mt args meth c cc nL own E m0 r) (hw : Cond.arrayClass .int ∈ am_GW) (hd : decode cc pc = .ok (.newarray .int, 2)) (hk9 : am_G p l e R s mt args below meth c nL E Q m0 r (k) (pc + 2)) (hmo : ∀ L S m, k L S m = some r → gc_ m ≤ gc_ r.2 ∧ gs_ m ≤ gs_ r.2) : am_G p l e R s mt args below meth c nL E Q m0 r (fun L S m => q_i S fun v0 S => gq_ (¬ v0 < 0 ∧ v0.toNatClampNeg ≤ 60000 ∧ ge_ m = true) (k L (.ref (gt_ m) :: S) (al_ m (2, v0.toNatClampNeg) v0.toNatClampNeg))) (pc) := by
  intro L S m H locs cells slots ls h hL hP
  obtain ⟨hx, hb, hml, hown, hts, hlk, hst, hK, hN, hrm, hfr, hlo⟩ := X
  obtain ⟨v0, S, rfl, h9⟩ := q_i_I h
  obtain ⟨⟨hg1, hg2, hg3⟩, h9⟩ := gq_I h9
  have ht := hP.1.2.1 hg3
  obtain ⟨hm1, hm2⟩ := hmo _ _ _ h9
  have hm1 : gc_ m + 1 ≤ gc_ r.2 := hm1
  have hm2 : gs_ m + v0.toNatClampNeg ≤ gs_ r.2 := hm2
  have hp1 := hP.2.2.1
  have hp2 := hP.2.2.2
  refine va_newaK hx hb (atype := .int) (hts _ hw) rfl hd rfl hg1 rfl (by show _ * 4 ≤ _; omega) (by omega) (by omega) ht fun H1 cA e1 z1 o1 hAr hNm => ?_
  rw [← ht] at z1 o1
  have hcA : cA = E.1.2 2 := Option.some.inj (hNm.symm.trans (am_tyk hK 0 rfl).2)
  subst hcA
  refine hk9 _ _ _ _ _ _ _ _ h9 hL ⟨hP.1.new hg3 z1 o1 (am_at_k (t := 2) (n := v0.toNatClampNeg) (gk_al _ _ _) (by decide) (fun z => by cases z) (fun _ => ⟨by rw [← ht]; exact hP.1.2.2.1, ?_⟩) (fun z => by cases z) (fun z => by cases z) (fun z => by cases z) (fun z => by cases z) (by decide) (by decide)), am_newS hP.2.1 z1 o1, by show _ = gc_ m + 1; omega, by show _ = gs_ m + _; omega⟩
  rw [e1]
  congr 2
  funext q
  rw [gi_al]
  rfl
theorem so_newarrayB (X : am_Cx p l R s mt args meth c cc nL own E m0 r) (hw : Cond.arrayClass .byte ∈ am_GW) (hd : decode cc pc = .ok (.newarray .byte, 2)) (hk9 : am_G p l e R s mt args below meth c nL E Q m0 r (k) (pc + 2)) (hmo : ∀ L S m, k L S m = some r → gc_ m ≤ gc_ r.2 ∧ gs_ m ≤ gs_ r.2) : am_G p l e R s mt args below meth c nL E Q m0 r (fun L S m => q_i S fun v0 S => gq_ (¬ v0 < 0 ∧ v0.toNatClampNeg ≤ 60000 ∧ ge_ m = true) (k L (.ref (gt_ m) :: S) (al_ m (3, v0.toNatClampNeg) v0.toNatClampNeg))) (pc) := by
  intro L S m H locs cells slots ls h hL hP
  obtain ⟨hx, hb, hml, hown, hts, hlk, hst, hK, hN, hrm, hfr, hlo⟩ := X
  obtain ⟨v0, S, rfl, h9⟩ := q_i_I h
  obtain ⟨⟨hg1, hg2, hg3⟩, h9⟩ := gq_I h9
  have ht := hP.1.2.1 hg3
  obtain ⟨hm1, hm2⟩ := hmo _ _ _ h9
  have hm1 : gc_ m + 1 ≤ gc_ r.2 := hm1
  have hm2 : gs_ m + v0.toNatClampNeg ≤ gs_ r.2 := hm2
  have hp1 := hP.2.2.1
  have hp2 := hP.2.2.2
  refine va_newaK hx hb (atype := .byte) (hts _ hw) rfl hd rfl hg1 rfl (by show _ * 1 ≤ _; omega) (by omega) (by omega) ht fun H1 cA e1 z1 o1 hAr hNm => ?_
  rw [← ht] at z1 o1
  have hcA : cA = E.1.2 3 := Option.some.inj (hNm.symm.trans (am_tyk hK 1 rfl).2)
  subst hcA
  refine hk9 _ _ _ _ _ _ _ _ h9 hL ⟨hP.1.new hg3 z1 o1 (am_at_k (t := 3) (n := v0.toNatClampNeg) (gk_al _ _ _) (by decide) (fun z => by cases z) (fun z => by cases z) (fun _ => ⟨by rw [← ht]; exact hP.1.2.2.1, ?_⟩) (fun z => by cases z) (fun z => by cases z) (fun z => by cases z) (by decide) (by decide)), am_newS hP.2.1 z1 o1, by show _ = gc_ m + 1; omega, by show _ = gs_ m + _; omega⟩
  rw [e1]
  congr 2
  funext q
  rw [gi_al]
  rfl
theorem so_newarrayJ (X : am_Cx p l R s mt args meth c cc nL own E m0 r) (hw : Cond.arrayClass .long ∈ am_GW) (hd : decode cc pc = .ok (.newarray .long, 2)) (hk9 : am_G p l e R s mt args below meth c nL E Q m0 r (k) (pc + 2)) (hmo : ∀ L S m, k L S m = some r → gc_ m ≤ gc_ r.2 ∧ gs_ m ≤ gs_ r.2) : am_G p l e R s mt args below meth c nL E Q m0 r (fun L S m => q_i S fun v0 S => gq_ (¬ v0 < 0 ∧ v0.toNatClampNeg ≤ 60000 ∧ ge_ m = true) (k L (.ref (gt_ m) :: S) (al_ m (4, v0.toNatClampNeg) v0.toNatClampNeg))) (pc) := by
  intro L S m H locs cells slots ls h hL hP
  obtain ⟨hx, hb, hml, hown, hts, hlk, hst, hK, hN, hrm, hfr, hlo⟩ := X
  obtain ⟨v0, S, rfl, h9⟩ := q_i_I h
  obtain ⟨⟨hg1, hg2, hg3⟩, h9⟩ := gq_I h9
  have ht := hP.1.2.1 hg3
  obtain ⟨hm1, hm2⟩ := hmo _ _ _ h9
  have hm1 : gc_ m + 1 ≤ gc_ r.2 := hm1
  have hm2 : gs_ m + v0.toNatClampNeg ≤ gs_ r.2 := hm2
  have hp1 := hP.2.2.1
  have hp2 := hP.2.2.2
  refine va_newaK hx hb (atype := .long) (hts _ hw) rfl hd rfl hg1 rfl (by show _ * 8 ≤ _; omega) (by omega) (by omega) ht fun H1 cA e1 z1 o1 hAr hNm => ?_
  rw [← ht] at z1 o1
  have hcA : cA = E.1.2 4 := Option.some.inj (hNm.symm.trans (am_tyk hK 2 rfl).2)
  subst hcA
  refine hk9 _ _ _ _ _ _ _ _ h9 hL ⟨hP.1.new hg3 z1 o1 (am_at_k (t := 4) (n := v0.toNatClampNeg) (gk_al _ _ _) (by decide) (fun z => by cases z) (fun z => by cases z) (fun z => by cases z) (fun _ => ⟨by rw [← ht]; exact hP.1.2.2.1, ?_⟩) (fun z => by cases z) (fun z => by cases z) (by decide) (by decide)), am_newS hP.2.1 z1 o1, by show _ = gc_ m + 1; omega, by show _ = gs_ m + _; omega⟩
  rw [e1]
  congr 2
  funext q
  rw [gl_al]
  rfl
theorem so_newarrayD (X : am_Cx p l R s mt args meth c cc nL own E m0 r) (hw : Cond.arrayClass .double ∈ am_GW) (hd : decode cc pc = .ok (.newarray .double, 2)) (hk9 : am_G p l e R s mt args below meth c nL E Q m0 r (k) (pc + 2)) (hmo : ∀ L S m, k L S m = some r → gc_ m ≤ gc_ r.2 ∧ gs_ m ≤ gs_ r.2) : am_G p l e R s mt args below meth c nL E Q m0 r (fun L S m => q_i S fun v0 S => gq_ (¬ v0 < 0 ∧ v0.toNatClampNeg ≤ 60000 ∧ ge_ m = true) (k L (.ref (gt_ m) :: S) (al_ m (5, v0.toNatClampNeg) v0.toNatClampNeg))) (pc) := by
  intro L S m H locs cells slots ls h hL hP
  obtain ⟨hx, hb, hml, hown, hts, hlk, hst, hK, hN, hrm, hfr, hlo⟩ := X
  obtain ⟨v0, S, rfl, h9⟩ := q_i_I h
  obtain ⟨⟨hg1, hg2, hg3⟩, h9⟩ := gq_I h9
  have ht := hP.1.2.1 hg3
  obtain ⟨hm1, hm2⟩ := hmo _ _ _ h9
  have hm1 : gc_ m + 1 ≤ gc_ r.2 := hm1
  have hm2 : gs_ m + v0.toNatClampNeg ≤ gs_ r.2 := hm2
  have hp1 := hP.2.2.1
  have hp2 := hP.2.2.2
  refine va_newaK hx hb (atype := .double) (hts _ hw) rfl hd rfl hg1 rfl (by show _ * 8 ≤ _; omega) (by omega) (by omega) ht fun H1 cA e1 z1 o1 hAr hNm => ?_
  rw [← ht] at z1 o1
  have hcA : cA = E.1.2 5 := Option.some.inj (hNm.symm.trans (am_tyk hK 3 rfl).2)
  subst hcA
  refine hk9 _ _ _ _ _ _ _ _ h9 hL ⟨hP.1.new hg3 z1 o1 (am_at_k (t := 5) (n := v0.toNatClampNeg) (gk_al _ _ _) (by decide) (fun z => by cases z) (fun z => by cases z) (fun z => by cases z) (fun z => by cases z) (fun _ => ⟨by rw [← ht]; exact hP.1.2.2.1, ?_⟩) (fun z => by cases z) (by decide) (by decide)), am_newS hP.2.1 z1 o1, by show _ = gc_ m + 1; omega, by show _ = gs_ m + _; omega⟩
  rw [e1]
  congr 2
  funext q
  rw [gd_al]
  rfl
theorem so_anewarray (X : am_Cx p l R s mt args meth c cc nL own E m0 r) {n : Nat} (hw : Cond.classLink (am_cn own) n "RoyaltyOffice$Office" ∈ am_GW) (hd : decode cc pc = .ok (.anewarray n, 3)) (hk9 : am_G p l e R s mt args below meth c nL E Q m0 r (k) (pc + 3)) (hmo : ∀ L S m, k L S m = some r → gc_ m ≤ gc_ r.2 ∧ gs_ m ≤ gs_ r.2) : am_G p l e R s mt args below meth c nL E Q m0 r (fun L S m => q_i S fun v0 S => gq_ (¬ v0 < 0 ∧ v0.toNatClampNeg ≤ 60000 ∧ ge_ m = true) (k L (.ref (gt_ m) :: S) (al_ m (6, v0.toNatClampNeg) v0.toNatClampNeg))) (pc) := by
  intro L S m H locs cells slots ls h hL hP
  obtain ⟨hx, hb, hml, hown, hts, hlk, hst, hK, hN, hrm, hfr, hlo⟩ := X
  obtain ⟨v0, S, rfl, h9⟩ := q_i_I h
  obtain ⟨⟨hg1, hg2, hg3⟩, h9⟩ := gq_I h9
  have ht := hP.1.2.1 hg3
  obtain ⟨hm1, hm2⟩ := hmo _ _ _ h9
  have hm1 : gc_ m + 1 ≤ gc_ r.2 := hm1
  have hm2 : gs_ m + v0.toNatClampNeg ≤ gs_ r.2 := hm2
  have hp1 := hP.2.2.1
  have hp2 := hP.2.2.2
  refine W.anew hx hb hown (hts _ hw) (va_AO.use hK.2.2.2.2.2.1) rfl hd rfl hg1 (by omega) (by omega) (by omega) fun cA kA comp f1 f2 f3 f4 => ?_
  obtain ⟨kB, comp2, k1, k2, k3, k4⟩ := (am_tyk hK 4 rfl).2
  have hcA : cA = E.1.2 6 := Option.some.inj (f1.symm.trans k4)
  subst hcA
  generalize hH : H.push ({ cls := E.1.2 6, slots := Array.replicate v0.toNatClampNeg .null, vm := .none } : Cell) = H1
  have z1 : H1.size = H.size + 1 := by rw [← hH, Array.size_push]
  have e1 : H1[gt_ m]? = some (arrV (E.1.2 6) v0.toNatClampNeg (fun _ => .null)) := by rw [← hH, ← ht, Array.getElem?_push_size, ← arrV_new]
  have o1 : ∀ q : Nat, q < H.size → H1[q]? = H[q]? := fun q hq => by rw [← hH, Array.getElem?_push, if_neg (Nat.ne_of_lt hq)]
  rw [ht]
  refine hk9 _ _ _ _ _ _ _ _ h9 hL ⟨hP.1.new hg3 z1 o1 (am_at_k (t := 6) (n := v0.toNatClampNeg) (gk_al _ _ _) (by decide) (fun z => by cases z) (fun z => by cases z) (fun z => by cases z) (fun z => by cases z) (fun z => by cases z) (fun _ => ⟨by rw [← ht]; exact hP.1.2.2.1, ?_⟩) (by decide) (by decide)), am_newS hP.2.1 z1 o1, by show _ = gc_ m + 1; omega, by show _ = gs_ m + _; omega⟩
  rw [e1]
  congr 2
  funext q
  rw [gr_al]
  rfl
theorem so_new (X : am_Cx p l R s mt args meth c cc nL own E m0 r) {n ci : Nat} (hci : ci < 12) (hw : Cond.classLink (am_cn own) n (am_vc ci).1 ∈ am_GW) (hw2 : Cond.instantiable (am_vc ci).1 (am_vc ci).2.2 ∈ am_GW) (hw3 : Cond.initialized (am_vc ci).1 ∈ am_GW) (hd : decode cc pc = .ok (.new n, 3)) (hk9 : am_G p l e R s mt args below meth c nL E Q m0 r (k) (pc + 3)) (hmo : ∀ L S m, k L S m = some r → gc_ m ≤ gc_ r.2 ∧ gs_ m ≤ gs_ r.2) : am_G p l e R s mt args below meth c nL E Q m0 r (fun L S m => gq_ (ge_ m = true) (k L (.ref (gt_ m) :: S) (al_ m (1, ci) (am_vc ci).2.2))) (pc) := by
  intro L S m H locs cells slots ls h hL hP
  obtain ⟨hx, hb, hml, hown, hts, hlk, hst, hK, hN, hrm, hfr, hlo⟩ := X
  obtain ⟨hg3, h9⟩ := gq_I h
  have ht := hP.1.2.1 hg3
  obtain ⟨hm1, hm2⟩ := hmo _ _ _ h9
  have hm1 : gc_ m + 1 ≤ gc_ r.2 := hm1
  have hm2 : gs_ m + (am_vc ci).2.2 ≤ gs_ r.2 := hm2
  have hp1 := hP.2.2.1
  have hp2 := hP.2.2.2
  have hKn := hK.1.1 ci _ (am_vc_get ci hci)
  refine W.newcK hx hb hown (hts _ hw) (hts _ hw2) (hts _ hw3) rfl hd (by omega) (by omega) hKn.2.1 ht fun H1 kC hkC e1 z1 o1 => ?_
  rw [← ht] at z1 o1
  have hty1 : ∀ k, k < (am_vc ci).2.2 → parseFieldDescriptor ((am_vc ci).2.1 k).2.2.1 = some ((parseFieldDescriptor ((am_vc ci).2.1 k).2.2.1).getD .int) := by
    intro k hk
    obtain ⟨-, ⟨t, ht, -⟩, -⟩ := am_nm hci hk
    rw [ht]
    rfl
  have hB := u_born _ hts (am_ul hci) hKn hkC e1 hty1
  refine hk9 _ _ _ _ _ _ _ _ h9 hL ⟨hP.1.new hg3 z1 o1 (am_at_k (t := 1) (n := ci) (gk_al _ _ _) (by decide) (fun _ => ⟨by rw [← ht]; exact hP.1.2.2.1, hci, hB.to (fun j hj => ?_)⟩) (fun z => by cases z) (fun z => by cases z) (fun z => by cases z) (fun z => by cases z) (fun z => by cases z) (by decide) (by decide)), am_newS hP.2.1 z1 o1, by show _ = gc_ m + 1; omega, by show _ = gs_ m + _; omega⟩
  obtain ⟨-, ⟨t, h1, h2⟩, -⟩ := am_nm hci hj
  rw [h1]
  show defaultValue t = _
  rw [h2]
  unfold am_fv
  rw [gi_al, gl_al, gr_al]
  rfl
end S3
