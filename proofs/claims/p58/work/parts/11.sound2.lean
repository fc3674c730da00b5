/-! cells: what a store, an allocation leaves -/
theorem am_vc_get : ∀ c, c < 17 → vwCl[c]? = some (am_vc c) := by
  intro c hc
  unfold am_vc
  rw [List.getD_eq_getElem?_getD, List.getElem?_eq_getElem (show c < vwCl.length from hc)]
  rfl
theorem am_find {α β : Type} [BEq α] [LawfulBEq α] {l : List (α × β)} {a : α} (h : l.any (fun q => q.1 == a) = true) : ∃ p, (a, p) ∈ l := by
  obtain ⟨q, hq, h1⟩ := List.any_eq_true.mp h
  exact ⟨q.2, by rw [← beq_iff_eq.mp h1]; exact hq⟩
theorem am_tab {α : Type} [BEq α] [LawfulBEq α] {l : List (α × (Nat × Nat))} {g : α → Cond} (ok : l.map (fun q => am_pw q.2) = l.map (fun q => some (g q.1))) (ho : ∀ a, am_ow (g a) = true) {a : α} (h : l.any (fun q => q.1 == a) = true) : g a ∈ am_GW := by
  obtain ⟨p, hp⟩ := am_find h
  exact am_pw_in (am_map ok hp) (ho a)
theorem am_ul_all : (List.range 17).all (fun c => (List.range (am_vc c).2.2).all fun k => am_UL.any (fun q => q.1 == (c, k))) = true := by decide +kernel
theorem am_ul {c : Nat} (hc : c < 17) : ∀ w ∈ u_ws (am_vc c).1 (am_vc c).2.1 (am_vc c).2.2, w ∈ am_GW := by
  intro w hw
  obtain ⟨k, hk, rfl⟩ := List.mem_map.mp hw
  have h1 := List.all_eq_true.mp (List.all_eq_true.mp am_ul_all c (List.mem_range.mpr hc)) k hk
  refine am_tab (g := fun q : Nat × Nat => u_lay (am_vc q.1).1 (am_vc q.1).2.1 q.2) am_UL_ok (fun a => ?_) (a := (c, k)) h1
  show am_ow (u_lay _ _ _) = true
  unfold u_lay
  split <;> rfl
theorem am_nm_all : (List.range 17).all (fun c => (List.range (am_vc c).2.2).all fun a => (parseFieldDescriptor ((am_vc c).2.1 a).2.2.1).isSome && decide (defaultValue ((parseFieldDescriptor ((am_vc c).2.1 a).2.2.1).getD .int) = (if ((am_vc c).2.1 a).2.2.1 = "I" ∨ ((am_vc c).2.1 a).2.2.1 = "Z" ∨ ((am_vc c).2.1 a).2.2.1 = "B" then .int 0 else if ((am_vc c).2.1 a).2.2.1 = "J" then .long 0 else .null)) && (List.range (am_vc c).2.2).all fun b => a == b || !(((am_vc c).2.1 a).2.1 == ((am_vc c).2.1 b).2.1)) = true := by decide +kernel
theorem am_nm {c : Nat} (hc : c < 17) {a : Nat} (ha : a < (am_vc c).2.2) : (∃ ty, parseFieldDescriptor ((am_vc c).2.1 a).2.2.1 = some ty ∧ defaultValue ty = (if ((am_vc c).2.1 a).2.2.1 = "I" ∨ ((am_vc c).2.1 a).2.2.1 = "Z" ∨ ((am_vc c).2.1 a).2.2.1 = "B" then .int 0 else if ((am_vc c).2.1 a).2.2.1 = "J" then .long 0 else .null)) ∧ ∀ b, b < (am_vc c).2.2 → a ≠ b → ((am_vc c).2.1 a).2.1 ≠ ((am_vc c).2.1 b).2.1 := by
  have h1 := List.all_eq_true.mp (List.all_eq_true.mp am_nm_all c (List.mem_range.mpr hc)) a (List.mem_range.mpr ha)
  simp only [Bool.and_eq_true, decide_eq_true_eq] at h1
  obtain ⟨⟨h3, h4⟩, h5⟩ := h1
  obtain ⟨ty, hty⟩ := Option.isSome_iff_exists.mp h3
  rw [hty] at h4
  refine ⟨⟨ty, hty, h4⟩, fun b hb hab he => ?_⟩
  have h6 := List.all_eq_true.mp h5 b (List.mem_range.mpr hb)
  rw [Bool.or_eq_true] at h6
  rcases h6 with h6 | h6
  · exact hab (beq_iff_eq.mp h6)
  · rw [he] at h6
    simp at h6
theorem am_at.of {E : am_E} {m m' : am_M} {H H' : Heap} {b : Nat} (h : am_at E m H b) (hk : gk_ m' b = gk_ m b) (hi : ∀ j, gi_ m' b j = gi_ m b j) (hl : ∀ j, gl_ m' b j = gl_ m b j) (hr : ∀ j, gr_ m' b j = gr_ m b j) (hH : H'[b]? = H[b]?) : am_at E m' H' b := by
  unfold am_at at h ⊢
  rw [hk, hH]
  simp only [hi, hl, hr]
  obtain ⟨h1, h2⟩ := h
  refine ⟨fun q => ?_, h2⟩
  obtain ⟨a1, a2, a3⟩ := h1 q
  refine ⟨a1, a2, (a3.kept hH).to (fun j hj => ?_)⟩
  unfold am_fv
  simp only [hi, hl, hr]
theorem am_at_k {E : am_E} {m : am_M} {H : Heap} {a n t : Nat} (hk : gk_ m a = (t, n)) (ht : t ≤ 13 ∧ ¬ t = 5 ∧ ¬ t = 7 ∧ ¬ t = 8 ∧ ¬ t = 9 ∧ ¬ t = 13)
    (h1 : t = 1 → E.2.1 ≤ a ∧ n < 17 ∧ t_OB a (E.1.1.1 n) (am_vc n).2.2 (E.1.1.2 n) H (fun k => am_fv ((am_vc n).2.1 k).2.2.1 m a k))
    (h2 : t = 2 → E.2.1 ≤ a ∧ H[a]? = some (arrV (E.1.2 2) n (fun j => .int (gi_ m a j)))) (h3 : t = 3 → E.2.1 ≤ a ∧ H[a]? = some (arrV (E.1.2 3) n (fun j => .int (gi_ m a j))) ∧ ∀ j, j < n → (gi_ m a j).toInt8.toInt32 = gi_ m a j)
    (h4 : t = 4 → E.2.1 ≤ a ∧ H[a]? = some (arrV (E.1.2 4) n (fun j => .long (gl_ m a j)))) (h6 : am_rk t → E.2.1 ≤ a ∧ H[a]? = some (arrV (E.1.2 t) n (fun j => rf_ (gr_ m a j)))) : am_at E m H a := by
  unfold am_at
  rw [hk]
  exact ⟨h1, h2, h3, h4, h6, fun q => absurd q ht.2.2.1, fun q => absurd q ht.2.2.2.1, fun q => absurd q ht.2.2.2.2.1, fun q => absurd q ht.2.2.2.2.2, ht.1, ht.2.1⟩
theorem am_n0 {E : am_E} {m : am_M} {H : Heap} (h : am_Rp E m H) {a : Nat} (hk : ¬ (gk_ m a).1 = 0) : ¬ a = am_sv E := by
  intro e
  rw [e] at hk
  exact hk h.2.2.2.2.1
theorem am_kz.same {E : am_E} {m m' : am_M} (h : am_kz E m) (hk : gk_ m' (am_sv E) = gk_ m (am_sv E)) (hr : ∀ j, gr_ m' (am_sv E) j = gr_ m (am_sv E) j) : am_kz E m' := by
  unfold am_kz at h ⊢
  rw [hk]
  simp only [hr]
  exact h
theorem am_Rp.upd {E : am_E} {m m' : am_M} {H H' : Heap} {a : Nat} (h : am_Rp E m H) (h0 : ¬ (gk_ m a).1 = 0) (hz : H'.size = H.size) (ho : ∀ q, q ≠ a → H'[q]? = H[q]?)
    (hm : ∀ b, b ≠ a → gk_ m' b = gk_ m b ∧ (∀ j, gi_ m' b j = gi_ m b j) ∧ (∀ j, gl_ m' b j = gl_ m b j) ∧ (∀ j, gr_ m' b j = gr_ m b j)) (ht : gt_ m' = gt_ m) (he : ge_ m' = ge_ m) (ha : am_at E m' H' a) : am_Rp E m' H' := by
  have ha0 := am_n0 h h0
  obtain ⟨z1, -, -, z4⟩ := hm (am_sv E) (fun e => ha0 e.symm)
  refine ⟨fun b => ?_, fun q => by rw [hz, ht]; exact h.2.1 (he ▸ q), by rw [hz]; exact h.2.2.1, h.2.2.2.1, h.2.2.2.2.same z1 z4⟩
  by_cases hb : b = a
  · rw [hb]; exact ha
  · obtain ⟨a1, a2, a3, a4⟩ := hm b hb
    exact (h.1 b).of a1 a2 a3 a4 (ho b hb)
theorem am_Rp.new {E : am_E} {m : am_M} {H H' : Heap} {k : Nat × Nat} {n : Nat} (h : am_Rp E m H) (he : ge_ m = true) (hz : H'.size = H.size + 1) (ho : ∀ q, q < H.size → H'[q]? = H[q]?) (ha : am_at E (al_ m k n) H' (gt_ m)) : am_Rp E (al_ m k n) H' := by
  have ht := h.2.1 he
  have h9 : ¬ am_sv E = gt_ m := by rw [← ht]; have := h.2.2.1; have := h.2.2.2.1; omega
  refine ⟨fun b => ?_, fun _ => by rw [hz, ht]; rfl, by rw [hz]; exact Nat.le_succ_of_le h.2.2.1, h.2.2.2.1, h.2.2.2.2.same (if_neg h9) (fun j => congrFun (if_neg h9) j)⟩
  by_cases hb : b = gt_ m
  · rw [hb]; exact ha
  · refine (h.1 b).of (if_neg hb) (fun j => congrFun (if_neg hb) j) (fun j => congrFun (if_neg hb) j) (fun j => congrFun (if_neg hb) j) ?_
    rcases Nat.lt_or_ge b H.size with q | q
    · exact ho b q
    · rw [Array.getElem?_eq_none q, Array.getElem?_eq_none (by omega)]
theorem gk_si (m : am_M) (a k : Nat) (x : Int32) (b : Nat) : gk_ (si_ m a k x) b = gk_ m b := rfl
theorem gi_si (m : am_M) (a k : Nat) (x : Int32) (b j : Nat) : gi_ (si_ m a k x) b j = if b = a ∧ j = k then x else gi_ m b j := rfl
theorem gi_si1 (m : am_M) (a k : Nat) (x : Int32) : gi_ (si_ m a k x) a k = x := if_pos ⟨rfl, rfl⟩
theorem gr_siP (m : am_M) (a k : Nat) (x : Int32) (b j : Nat) : gr_ (si_ m a k x) b j = gr_ m b j := rfl
theorem gi_srP (m : am_M) (a k x b j : Nat) : gi_ (sr_ m a k x) b j = gi_ m b j := rfl
theorem gl_sl (m : am_M) (a k : Nat) (x : Int64) (b j : Nat) : gl_ (sl_ m a k x) b j = if b = a ∧ j = k then x else gl_ m b j := rfl
theorem gr_sr (m : am_M) (a k : Nat) (x : Nat) (b j : Nat) : gr_ (sr_ m a k x) b j = if b = a ∧ j = k then x else gr_ m b j := rfl
theorem gr_rr (m : am_M) (a : Nat) (g : Nat → Nat) (b j : Nat) : gr_ (rr_ m a g) b j = if b = a then g j else gr_ m b j := by
  show (if b = a then g else m.2.2.2.1 b) j = _
  split <;> rfl
theorem gd_sd (m : am_M) (a k : Nat) (x : UInt64) (b j : Nat) : gd_ (sd_ m a k x) b j = if b = a ∧ j = k then x else gd_ m b j := rfl
theorem gi_ri (m : am_M) (a : Nat) (g : Nat → Int32) (b j : Nat) : gi_ (ri_ m a g) b j = if b = a then g j else gi_ m b j := by
  show (if b = a then g else m.2.1 b) j = _
  split <;> rfl
theorem gl_rl (m : am_M) (a : Nat) (g : Nat → Int64) (b j : Nat) : gl_ (rl_ m a g) b j = if b = a then g j else gl_ m b j := by
  show (if b = a then g else m.2.2.1 b) j = _
  split <;> rfl
def am_le (m : am_M) (r : am_R) : Prop := gc_ m ≤ gc_ r.2 ∧ gs_ m ≤ gs_ r.2 ∧ (ge_ r.2 = true → ge_ m = true)
theorem am_same {args : Array Value} {s : State} (hts : ∀ w ∈ am_GW, w.before args s = true) (own c k : Nat) : ∀ x, s.fieldFound? ((am_vc c).2.1 k).1 ((am_vc c).2.1 k).2.1 ((am_vc c).2.1 k).2.2.1 = some x → s.fieldFound? (am_rc own c k) ((am_vc c).2.1 k).2.1 ((am_vc c).2.1 k).2.2.1 = some x := by
  intro x hx
  unfold am_rc
  by_cases h : c = 15 ∧ k = 0 ∧ ¬ own = 25
  · rw [if_pos h]
    obtain ⟨rfl, rfl, -⟩ := h
    exact u_same (hts (.sameField RJx4a65c "java/util/AbstractList" "modCount" "I") (am_pw_in (p := (3, 68)) rfl rfl)) x hx
  · rw [if_neg h]
    exact hx
theorem am_bool {v : Int32} (h : v &&& 1 = v) : fits .boolean (.int v) = true := by
  show (v == 0 || v == 1) = true
  rw [Bool.or_eq_true, beq_iff_eq, beq_iff_eq]
  have h1 : v.toInt = 0 ∨ v.toInt = 1 := by
    have h2 : (v &&& 1).toBitVec = v.toBitVec := congrArg _ h
    have h3 : v.toBitVec &&& 1#32 = v.toBitVec := h2
    have h4 : v.toBitVec.toNat &&& 1 = v.toBitVec.toNat := by
      have := congrArg BitVec.toNat h3
      rwa [BitVec.toNat_and] at this
    have h5 : v.toBitVec.toNat % 2 = v.toBitVec.toNat := by rw [← Nat.and_one_is_mod]; exact h4
    have h6 : v.toBitVec.toNat < 2 := by omega
    have h7 : v.toInt = v.toBitVec.toInt := rfl
    rw [h7, BitVec.toInt_eq_toNat_of_lt (by omega)]
    omega
  rcases h1 with h1 | h1
  · exact Or.inl (Int32.toInt.inj h1)
  · exact Or.inr (Int32.toInt.inj h1)
theorem am_byt {v : Int32} (h : v.toInt8.toInt32 = v) : fits .byte (.int v) = true := by
  have h1 : v.toInt = v.toInt8.toInt := by
    have := congrArg Int32.toInt h
    rw [Int8.toInt_toInt32] at this
    exact this.symm
  have h2 := Int8.le_toInt v.toInt8
  have h3 := Int8.toInt_lt v.toInt8
  show (decide (-128 ≤ v) && decide (v ≤ 127)) = true
  rw [Bool.and_eq_true, decide_eq_true_eq, decide_eq_true_eq, Int32.le_iff_toInt_le, Int32.le_iff_toInt_le]
  refine ⟨?_, ?_⟩
  · show (-128 : Int) ≤ v.toInt
    omega
  · show v.toInt ≤ (127 : Int)
    omega
theorem am_rk1 {P : Prop} (z : am_rk 1) : P := by
  unfold am_rk at z
  omega
section S2
variable {p : Program} {l : Launch} {e : Env} {R : Room} {s : State} {mt : MethodId} {args : Array Value} {below : List Frame} {meth : Method} {c : Code} {nL own : Nat} {cc : ByteArray} {E : am_E} {Q : State → Prop} {m0 : am_M} {r : am_R} {pc : Nat} {k : am_L → List Value → am_M → Option am_R} {x : am_X}
theorem so_getI (X : am_Cx p l R s mt args meth c cc nL own E m0 r) {n ci j : Nat} (hci : ci < 17) (hj : j < (am_vc ci).2.2) (hw : Cond.fieldLink (am_cn own) n (am_rc own ci j) ((am_vc ci).2.1 j).2.1 ((am_vc ci).2.1 j).2.2.1 ∈ am_GW) (hty : ((am_vc ci).2.1 j).2.2.1 = "I" ∨ ((am_vc ci).2.1 j).2.2.1 = "Z" ∨ ((am_vc ci).2.1 j).2.2.1 = "B") (hd : decode cc pc = .ok (.getfield n, 3)) (hk9 : am_G p l e R s mt args below meth c nL E Q m0 r (k) (pc + 3)) : am_G p l e R s mt args below meth c nL E Q m0 r (fun L S m => q_r S fun v0 S => gq_ (gk_ m v0 = (1, ci)) (k L (.int (gi_ m v0 j) :: S) m)) (pc) := by
  intro L S m H locs cells slots ls h hL hP
  obtain ⟨hx, hb, hml, hown, hts, hlk, hst, hK, hN, hrm, hfr, hlo⟩ := X
  obtain ⟨v0, S, rfl, h9⟩ := q_r_I h
  obtain ⟨hg, h9⟩ := gq_I h9
  have hg1 : gk_ m v0 = (1, ci) := hg
  obtain ⟨-, -, cell, q1, q2, q3, q4⟩ := (hP.1.1 v0).1 (by rw [hg1])
  rw [hg1] at q2 q4
  obtain ⟨hS, hfc, kC, hkC, hkind⟩ := hK.1.1 ci _ (am_vc_get ci hci)
  obtain ⟨cf, kf, fi, f, hi, hsl⟩ := hS j hj
  have hi2 := am_same hts own ci j _ hi
  refine W.getf hx hb hown (hts _ hw) hi2 (u_facts hfc hkC (u_lays hts (am_ul hci) hj) hi).1 q1 (by rw [q3]; exact fun h => by cases h) (v := .int (gi_ m v0 j)) ?_ rfl rfl hd (hk9 _ _ _ _ _ _ _ _ h9 hL hP)
  rw [hsl, q4 j hj]
  show some (am_fv _ m v0 j) = _
  unfold am_fv
  rw [if_pos hty]
theorem so_getJ (X : am_Cx p l R s mt args meth c cc nL own E m0 r) {n ci j : Nat} (hci : ci < 17) (hj : j < (am_vc ci).2.2) (hw : Cond.fieldLink (am_cn own) n (am_rc own ci j) ((am_vc ci).2.1 j).2.1 ((am_vc ci).2.1 j).2.2.1 ∈ am_GW) (hty : ((am_vc ci).2.1 j).2.2.1 = "J") (hd : decode cc pc = .ok (.getfield n, 3)) (hk9 : am_G p l e R s mt args below meth c nL E Q m0 r (k) (pc + 3)) : am_G p l e R s mt args below meth c nL E Q m0 r (fun L S m => q_r S fun v0 S => gq_ (gk_ m v0 = (1, ci)) (k L (.long (gl_ m v0 j) :: S) m)) (pc) := by
  intro L S m H locs cells slots ls h hL hP
  obtain ⟨hx, hb, hml, hown, hts, hlk, hst, hK, hN, hrm, hfr, hlo⟩ := X
  obtain ⟨v0, S, rfl, h9⟩ := q_r_I h
  obtain ⟨hg, h9⟩ := gq_I h9
  have hg1 : gk_ m v0 = (1, ci) := hg
  obtain ⟨-, -, cell, q1, q2, q3, q4⟩ := (hP.1.1 v0).1 (by rw [hg1])
  rw [hg1] at q2 q4
  obtain ⟨hS, hfc, kC, hkC, hkind⟩ := hK.1.1 ci _ (am_vc_get ci hci)
  obtain ⟨cf, kf, fi, f, hi, hsl⟩ := hS j hj
  have hi2 := am_same hts own ci j _ hi
  refine W.getf hx hb hown (hts _ hw) hi2 (u_facts hfc hkC (u_lays hts (am_ul hci) hj) hi).1 q1 (by rw [q3]; exact fun h => by cases h) (v := .long (gl_ m v0 j)) ?_ rfl rfl hd (hk9 _ _ _ _ _ _ _ _ h9 hL hP)
  rw [hsl, q4 j hj]
  show some (am_fv _ m v0 j) = _
  unfold am_fv
  rw [hty, if_neg (by decide), if_pos rfl]
theorem so_getR (X : am_Cx p l R s mt args meth c cc nL own E m0 r) {n ci j : Nat} (hci : ci < 17) (hj : j < (am_vc ci).2.2) (hw : Cond.fieldLink (am_cn own) n (am_rc own ci j) ((am_vc ci).2.1 j).2.1 ((am_vc ci).2.1 j).2.2.1 ∈ am_GW) (hty : ¬ (((am_vc ci).2.1 j).2.2.1 = "I" ∨ ((am_vc ci).2.1 j).2.2.1 = "Z" ∨ ((am_vc ci).2.1 j).2.2.1 = "B") ∧ ¬ ((am_vc ci).2.1 j).2.2.1 = "J") (hd : decode cc pc = .ok (.getfield n, 3)) (hk9 : am_G p l e R s mt args below meth c nL E Q m0 r (k) (pc + 3)) : am_G p l e R s mt args below meth c nL E Q m0 r (fun L S m => q_r S fun v0 S => gq_ (gk_ m v0 = (1, ci) ∧ ¬ gr_ m v0 j = 0) (k L (.ref (gr_ m v0 j) :: S) m)) (pc) := by
  intro L S m H locs cells slots ls h hL hP
  obtain ⟨hx, hb, hml, hown, hts, hlk, hst, hK, hN, hrm, hfr, hlo⟩ := X
  obtain ⟨v0, S, rfl, h9⟩ := q_r_I h
  obtain ⟨hg, h9⟩ := gq_I h9
  have hg1 : gk_ m v0 = (1, ci) := hg.1
  obtain ⟨-, -, cell, q1, q2, q3, q4⟩ := (hP.1.1 v0).1 (by rw [hg1])
  rw [hg1] at q2 q4
  obtain ⟨hS, hfc, kC, hkC, hkind⟩ := hK.1.1 ci _ (am_vc_get ci hci)
  obtain ⟨cf, kf, fi, f, hi, hsl⟩ := hS j hj
  have hi2 := am_same hts own ci j _ hi
  refine W.getf hx hb hown (hts _ hw) hi2 (u_facts hfc hkC (u_lays hts (am_ul hci) hj) hi).1 q1 (by rw [q3]; exact fun h => by cases h) (v := .ref (gr_ m v0 j)) ?_ rfl rfl hd (hk9 _ _ _ _ _ _ _ _ h9 hL hP)
  rw [hsl, q4 j hj]
  show some (am_fv _ m v0 j) = _
  unfold am_fv
  rw [if_neg hty.1, if_neg hty.2, rf_, if_neg hg.2, ite_self]
theorem so_getQ (X : am_Cx p l R s mt args meth c cc nL own E m0 r) {n ci j : Nat} (hci : ci < 17) (hj : j < (am_vc ci).2.2) (hw : Cond.fieldLink (am_cn own) n (am_rc own ci j) ((am_vc ci).2.1 j).2.1 ((am_vc ci).2.1 j).2.2.1 ∈ am_GW) (hty : ¬ (((am_vc ci).2.1 j).2.2.1 = "I" ∨ ((am_vc ci).2.1 j).2.2.1 = "Z" ∨ ((am_vc ci).2.1 j).2.2.1 = "B") ∧ ¬ ((am_vc ci).2.1 j).2.2.1 = "J") (hd : decode cc pc = .ok (.getfield n, 3)) (hk9 : am_G p l e R s mt args below meth c nL E Q m0 r (k) (pc + 3)) : am_G p l e R s mt args below meth c nL E Q m0 r (fun L S m => q_r S fun v0 S => gq_ (gk_ m v0 = (1, ci) ∧ gi_ m v0 j = 1) (k L (.ref (gr_ m v0 j) :: S) m)) (pc) := by
  intro L S m H locs cells slots ls h hL hP
  obtain ⟨hx, hb, hml, hown, hts, hlk, hst, hK, hN, hrm, hfr, hlo⟩ := X
  obtain ⟨v0, S, rfl, h9⟩ := q_r_I h
  obtain ⟨hg, h9⟩ := gq_I h9
  have hg1 : gk_ m v0 = (1, ci) := hg.1
  obtain ⟨-, -, cell, q1, q2, q3, q4⟩ := (hP.1.1 v0).1 (by rw [hg1])
  rw [hg1] at q2 q4
  obtain ⟨hS, hfc, kC, hkC, hkind⟩ := hK.1.1 ci _ (am_vc_get ci hci)
  obtain ⟨cf, kf, fi, f, hi, hsl⟩ := hS j hj
  have hi2 := am_same hts own ci j _ hi
  refine W.getf hx hb hown (hts _ hw) hi2 (u_facts hfc hkC (u_lays hts (am_ul hci) hj) hi).1 q1 (by rw [q3]; exact fun h => by cases h) (v := .ref (gr_ m v0 j)) ?_ rfl rfl hd (hk9 _ _ _ _ _ _ _ _ h9 hL hP)
  rw [hsl, q4 j hj]
  show some (am_fv _ m v0 j) = _
  unfold am_fv
  rw [if_neg hty.1, if_neg hty.2, if_pos hg.2]
theorem so_put {S : List Value} {m : am_M} {H : Heap} {locs : List Loc} {cells slots : Nat} {ls : Array Slot} {a : Nat} {v : Value} {ty : FieldType} (X : am_Cx p l R s mt args meth c cc nL own E m0 r) {n ci j : Nat} (hci : ci < 17) (hj : j < (am_vc ci).2.2) (hw : Cond.fieldLink (am_cn own) n (am_rc own ci j) ((am_vc ci).2.1 j).2.1 ((am_vc ci).2.1 j).2.2.1 ∈ am_GW) (hmd : ((am_vc ci).2.1 j).2.2.2 = false ∨ (((am_vc ci).2.1 j).2.2.2 = true ∧ meth.name = "<init>" ∧ ((am_vc ci).2.1 j).1 = am_cn own)) (hd : decode cc pc = .ok (.putfield n, 3))
    (hd0 : parseFieldDescriptor ((am_vc ci).2.1 j).2.2.1 = some ty) (hn : narrow ty v = v) (hf : fits ty v = true) (hg : gk_ m a = (1, ci)) (hP : am_Pt E s H locs cells slots m0 m)
    (kk : ∀ (H1 : Heap) (i : Nat), H1.size = H.size → (∀ q, q ≠ a → H1[q]? = H[q]?) → t_OB a (E.1.1.1 ci) (am_vc ci).2.2 (E.1.1.2 ci) H1 (updV (fun k => am_fv ((am_vc ci).2.1 k).2.2.1 m a k) j v) → E.2.1 ≤ a → W p l e R s mt args below meth c (H1) (locs ++ [⟨a, i⟩]) (cells) (slots) Q (F0 mt (pc + 3) ls S)) : W p l e R s mt args below meth c (H) (locs) (cells) (slots) Q (F0 mt pc ls (v :: .ref a :: S)) := by
  obtain ⟨hx, hb, hml, hown, hts, hlk, hst, hK, hN, hrm, hfr, hlo⟩ := X
  have hty1 : ∀ k, k < (am_vc ci).2.2 → parseFieldDescriptor ((am_vc ci).2.1 k).2.2.1 = some ((parseFieldDescriptor ((am_vc ci).2.1 k).2.2.1).getD .int) := by
    intro k hk
    obtain ⟨⟨t, ht, -⟩, -⟩ := am_nm hci hk
    rw [ht]
    rfl
  have hap := va_apart (own := am_cn own) (D := E.1.1) (cl := vwCl) (tys := am_ty E) hts (am_ul hci) _ hty1 (fun x hx y hy hxy => (am_nm hci hx).2 y hy hxy) hK.1 (am_vc_get ci hci)
  obtain ⟨hN0, -, cell, q1, q2, q3, q4⟩ := (hP.1.1 a).1 (by rw [hg])
  rw [hg] at q2 q4
  obtain ⟨hS, hfc, kC, hkC, hkind⟩ := hK.1.1 ci _ (am_vc_get ci hci)
  obtain ⟨cf, kf, fi, f, hi, hsl⟩ := hS j hj
  have hi2 := am_same hts own ci j _ hi
  have hstt := (u_facts hfc hkC (u_lays hts (am_ul hci) hj) hi).1
  have hlay := hts _ (am_ul hci _ (u_in_lay hj))
  unfold u_lay at hlay
  rcases hmd with hfin | ⟨hfin, hin, hcl⟩
  · rw [if_neg (by rw [hfin]; decide)] at hlay
    have h6 := u_store hfc hkC hkind hlay hi hd0 hn hf
    refine W.putK hx hb (f := f) ⟨hown, hts _ hw, ⟨_, _, _, hi2⟩, hstt⟩ (by rw [q2]; exact h6) q1 q3 (by rw [hsl]; exact k2_hasslot (q4 j hj)) rfl rfl hd fun H' e1 e2 e3 => ?_
    rw [hsl] at e1
    exact kk H' _ e2 e3 ⟨_, e1, q2, q3, t_set q4 hap hj v⟩ hN0
  · rw [if_pos hfin] at hlay
    have hcf : mt.cls = cf := by
      obtain ⟨_, _, c', _, _, _, -, -, hf', -, -, -, hown2, -⟩ := Cond.laysFinal_spec hlay
      have e1 : c' = cf := by have := hi.symm.trans hf'; simp at this; exact this.1.symm
      rw [hcl] at hown2
      rw [← e1]; exact Option.some.inj (hown.symm.trans hown2)
    have h6 := u_fits hfc hkC hkind (Or.inr hlay) hi hd0 hn hf
    refine W.putFinK hx hb hown (hts _ hw) hi2 hstt hcf hin (by rw [q2]; exact h6) q1 q3 (by rw [hsl]; exact k2_hasslot (q4 j hj)) rfl rfl hd fun H' e1 e2 e3 => ?_
    rw [hsl] at e1
    exact kk H' _ e2 e3 ⟨_, e1, q2, q3, t_set q4 hap hj v⟩ hN0
theorem so_putI (X : am_Cx p l R s mt args meth c cc nL own E m0 r) {n ci j : Nat} (hci : ci < 17) (hj : j < (am_vc ci).2.2) (hw : Cond.fieldLink (am_cn own) n (am_rc own ci j) ((am_vc ci).2.1 j).2.1 ((am_vc ci).2.1 j).2.2.1 ∈ am_GW) (hmd : ((am_vc ci).2.1 j).2.2.2 = false ∨ (((am_vc ci).2.1 j).2.2.2 = true ∧ meth.name = "<init>" ∧ ((am_vc ci).2.1 j).1 = am_cn own)) (hty : ((am_vc ci).2.1 j).2.2.1 = "I") (hft : parseFieldDescriptor ((am_vc ci).2.1 j).2.2.1 = some .int) (hd : decode cc pc = .ok (.putfield n, 3)) (hk9 : am_G p l e R s mt args below meth c nL E Q m0 r (k) (pc + 3)) : am_G p l e R s mt args below meth c nL E Q m0 r (fun L S m => q_ir S fun v0 v1 S => gq_ (gk_ m v1 = (1, ci)) (k L S (si_ m v1 j v0))) (pc) := by
  intro L S m H locs cells slots ls h hL hP
  obtain ⟨hx, hb, hml, hown, hts, hlk, hst, hK, hN, hrm, hfr, hlo⟩ := X
  obtain ⟨v0, v1, S, rfl, h9⟩ := q_ir_I h
  obtain ⟨hg, h9⟩ := gq_I h9
  have hg1 : gk_ m v1 = (1, ci) := hg
  have hc12 := hci
  refine so_put ⟨hx, hb, hml, hown, hts, hlk, hst, hK, hN, hrm, hfr, hlo⟩ hci hj hw hmd hd hft (rfl) (rfl) hg1 hP (fun H1 i e2 e3 e1 hN0 => ?_)
  refine hk9 _ _ _ _ _ _ _ _ h9 hL ⟨hP.1.upd (by rw [hg1]; exact fun z => by cases z) e2 e3 (fun b hb => ⟨rfl, fun q => ?_, fun q => ?_, fun q => ?_⟩) rfl rfl (am_at_k (t := 1) (n := ci) hg1 (by decide) (fun _ => ⟨hN0, hci, e1.to (fun q hq => ?_)⟩) (fun z => by cases z) (fun z => by cases z) (fun z => by cases z) (fun z => am_rk1 z)), hP.2.1.put e2 e3 hN0, hP.2.2.1, hP.2.2.2⟩
  · first | rfl | exact if_neg (fun z => hb z.1)
  · first | rfl | exact if_neg (fun z => hb z.1)
  · first | rfl | exact if_neg (fun z => hb z.1)
  · show (if q = j then _ else _) = _
    by_cases hq2 : q = j
    · subst hq2
      rw [if_pos rfl]
      unfold am_fv
      rw [if_pos (Or.inl hty), gi_si, if_pos ⟨rfl, rfl⟩]
    · rw [if_neg hq2]
      unfold am_fv
      simp only [gi_si, gl_sl, gr_sr, gr_siP, gi_srP, hq2, and_false, if_false]
      try rfl
theorem so_putZ (X : am_Cx p l R s mt args meth c cc nL own E m0 r) {n ci j : Nat} (hci : ci < 17) (hj : j < (am_vc ci).2.2) (hw : Cond.fieldLink (am_cn own) n (am_rc own ci j) ((am_vc ci).2.1 j).2.1 ((am_vc ci).2.1 j).2.2.1 ∈ am_GW) (hmd : ((am_vc ci).2.1 j).2.2.2 = false ∨ (((am_vc ci).2.1 j).2.2.2 = true ∧ meth.name = "<init>" ∧ ((am_vc ci).2.1 j).1 = am_cn own)) (hty : ((am_vc ci).2.1 j).2.2.1 = "Z") (hft : parseFieldDescriptor ((am_vc ci).2.1 j).2.2.1 = some .boolean) (hd : decode cc pc = .ok (.putfield n, 3)) (hk9 : am_G p l e R s mt args below meth c nL E Q m0 r (k) (pc + 3)) : am_G p l e R s mt args below meth c nL E Q m0 r (fun L S m => q_ir S fun v0 v1 S => gq_ (gk_ m v1 = (1, ci) ∧ v0 &&& 1 = v0) (k L S (si_ m v1 j v0))) (pc) := by
  intro L S m H locs cells slots ls h hL hP
  obtain ⟨hx, hb, hml, hown, hts, hlk, hst, hK, hN, hrm, hfr, hlo⟩ := X
  obtain ⟨v0, v1, S, rfl, h9⟩ := q_ir_I h
  obtain ⟨hg, h9⟩ := gq_I h9
  have hg1 : gk_ m v1 = (1, ci) := hg.1
  have hc12 := hci
  refine so_put ⟨hx, hb, hml, hown, hts, hlk, hst, hK, hN, hrm, hfr, hlo⟩ hci hj hw hmd hd hft (show Value.int (v0 &&& 1) = .int v0 from congrArg _ hg.2) (am_bool hg.2) hg1 hP (fun H1 i e2 e3 e1 hN0 => ?_)
  refine hk9 _ _ _ _ _ _ _ _ h9 hL ⟨hP.1.upd (by rw [hg1]; exact fun z => by cases z) e2 e3 (fun b hb => ⟨rfl, fun q => ?_, fun q => ?_, fun q => ?_⟩) rfl rfl (am_at_k (t := 1) (n := ci) hg1 (by decide) (fun _ => ⟨hN0, hci, e1.to (fun q hq => ?_)⟩) (fun z => by cases z) (fun z => by cases z) (fun z => by cases z) (fun z => am_rk1 z)), hP.2.1.put e2 e3 hN0, hP.2.2.1, hP.2.2.2⟩
  · first | rfl | exact if_neg (fun z => hb z.1)
  · first | rfl | exact if_neg (fun z => hb z.1)
  · first | rfl | exact if_neg (fun z => hb z.1)
  · show (if q = j then _ else _) = _
    by_cases hq2 : q = j
    · subst hq2
      rw [if_pos rfl]
      unfold am_fv
      rw [if_pos (Or.inr (Or.inl hty)), gi_si, if_pos ⟨rfl, rfl⟩]
    · rw [if_neg hq2]
      unfold am_fv
      simp only [gi_si, gl_sl, gr_sr, gr_siP, gi_srP, hq2, and_false, if_false]
      try rfl
theorem so_putB (X : am_Cx p l R s mt args meth c cc nL own E m0 r) {n ci j : Nat} (hci : ci < 17) (hj : j < (am_vc ci).2.2) (hw : Cond.fieldLink (am_cn own) n (am_rc own ci j) ((am_vc ci).2.1 j).2.1 ((am_vc ci).2.1 j).2.2.1 ∈ am_GW) (hmd : ((am_vc ci).2.1 j).2.2.2 = false ∨ (((am_vc ci).2.1 j).2.2.2 = true ∧ meth.name = "<init>" ∧ ((am_vc ci).2.1 j).1 = am_cn own)) (hty : ((am_vc ci).2.1 j).2.2.1 = "B") (hft : parseFieldDescriptor ((am_vc ci).2.1 j).2.2.1 = some .byte) (hd : decode cc pc = .ok (.putfield n, 3)) (hk9 : am_G p l e R s mt args below meth c nL E Q m0 r (k) (pc + 3)) : am_G p l e R s mt args below meth c nL E Q m0 r (fun L S m => q_ir S fun v0 v1 S => gq_ (gk_ m v1 = (1, ci) ∧ v0.toInt8.toInt32 = v0) (k L S (si_ m v1 j v0))) (pc) := by
  intro L S m H locs cells slots ls h hL hP
  obtain ⟨hx, hb, hml, hown, hts, hlk, hst, hK, hN, hrm, hfr, hlo⟩ := X
  obtain ⟨v0, v1, S, rfl, h9⟩ := q_ir_I h
  obtain ⟨hg, h9⟩ := gq_I h9
  have hg1 : gk_ m v1 = (1, ci) := hg.1
  have hc12 := hci
  refine so_put ⟨hx, hb, hml, hown, hts, hlk, hst, hK, hN, hrm, hfr, hlo⟩ hci hj hw hmd hd hft (show Value.int v0.toInt8.toInt32 = .int v0 from congrArg _ hg.2) (am_byt hg.2) hg1 hP (fun H1 i e2 e3 e1 hN0 => ?_)
  refine hk9 _ _ _ _ _ _ _ _ h9 hL ⟨hP.1.upd (by rw [hg1]; exact fun z => by cases z) e2 e3 (fun b hb => ⟨rfl, fun q => ?_, fun q => ?_, fun q => ?_⟩) rfl rfl (am_at_k (t := 1) (n := ci) hg1 (by decide) (fun _ => ⟨hN0, hci, e1.to (fun q hq => ?_)⟩) (fun z => by cases z) (fun z => by cases z) (fun z => by cases z) (fun z => am_rk1 z)), hP.2.1.put e2 e3 hN0, hP.2.2.1, hP.2.2.2⟩
  · first | rfl | exact if_neg (fun z => hb z.1)
  · first | rfl | exact if_neg (fun z => hb z.1)
  · first | rfl | exact if_neg (fun z => hb z.1)
  · show (if q = j then _ else _) = _
    by_cases hq2 : q = j
    · subst hq2
      rw [if_pos rfl]
      unfold am_fv
      rw [if_pos (Or.inr (Or.inr hty)), gi_si, if_pos ⟨rfl, rfl⟩]
    · rw [if_neg hq2]
      unfold am_fv
      simp only [gi_si, gl_sl, gr_sr, gr_siP, gi_srP, hq2, and_false, if_false]
      try rfl
theorem so_putJ (X : am_Cx p l R s mt args meth c cc nL own E m0 r) {n ci j : Nat} (hci : ci < 17) (hj : j < (am_vc ci).2.2) (hw : Cond.fieldLink (am_cn own) n (am_rc own ci j) ((am_vc ci).2.1 j).2.1 ((am_vc ci).2.1 j).2.2.1 ∈ am_GW) (hmd : ((am_vc ci).2.1 j).2.2.2 = false ∨ (((am_vc ci).2.1 j).2.2.2 = true ∧ meth.name = "<init>" ∧ ((am_vc ci).2.1 j).1 = am_cn own)) (hty : ((am_vc ci).2.1 j).2.2.1 = "J") (hft : parseFieldDescriptor ((am_vc ci).2.1 j).2.2.1 = some .long) (hd : decode cc pc = .ok (.putfield n, 3)) (hk9 : am_G p l e R s mt args below meth c nL E Q m0 r (k) (pc + 3)) : am_G p l e R s mt args below meth c nL E Q m0 r (fun L S m => q_lr S fun v0 v1 S => gq_ (gk_ m v1 = (1, ci)) (k L S (sl_ m v1 j v0))) (pc) := by
  intro L S m H locs cells slots ls h hL hP
  obtain ⟨hx, hb, hml, hown, hts, hlk, hst, hK, hN, hrm, hfr, hlo⟩ := X
  obtain ⟨v0, v1, S, rfl, h9⟩ := q_lr_I h
  obtain ⟨hg, h9⟩ := gq_I h9
  have hg1 : gk_ m v1 = (1, ci) := hg
  have hc12 := hci
  refine so_put ⟨hx, hb, hml, hown, hts, hlk, hst, hK, hN, hrm, hfr, hlo⟩ hci hj hw hmd hd hft (rfl) (rfl) hg1 hP (fun H1 i e2 e3 e1 hN0 => ?_)
  refine hk9 _ _ _ _ _ _ _ _ h9 hL ⟨hP.1.upd (by rw [hg1]; exact fun z => by cases z) e2 e3 (fun b hb => ⟨rfl, fun q => ?_, fun q => ?_, fun q => ?_⟩) rfl rfl (am_at_k (t := 1) (n := ci) hg1 (by decide) (fun _ => ⟨hN0, hci, e1.to (fun q hq => ?_)⟩) (fun z => by cases z) (fun z => by cases z) (fun z => by cases z) (fun z => am_rk1 z)), hP.2.1.put e2 e3 hN0, hP.2.2.1, hP.2.2.2⟩
  · first | rfl | exact if_neg (fun z => hb z.1)
  · first | rfl | exact if_neg (fun z => hb z.1)
  · first | rfl | exact if_neg (fun z => hb z.1)
  · show (if q = j then _ else _) = _
    by_cases hq2 : q = j
    · subst hq2
      rw [if_pos rfl]
      unfold am_fv
      rw [hty, if_neg (by decide), if_pos rfl, gl_sl, if_pos ⟨rfl, rfl⟩]
    · rw [if_neg hq2]
      unfold am_fv
      simp only [gi_si, gl_sl, gr_sr, gr_siP, gi_srP, hq2, and_false, if_false]
      try rfl
theorem so_putR (X : am_Cx p l R s mt args meth c cc nL own E m0 r) {n ci j : Nat} (hci : ci < 17) (hj : j < (am_vc ci).2.2) (hw : Cond.fieldLink (am_cn own) n (am_rc own ci j) ((am_vc ci).2.1 j).2.1 ((am_vc ci).2.1 j).2.2.1 ∈ am_GW) (hmd : ((am_vc ci).2.1 j).2.2.2 = false ∨ (((am_vc ci).2.1 j).2.2.2 = true ∧ meth.name = "<init>" ∧ ((am_vc ci).2.1 j).1 = am_cn own)) (hty : ¬ (((am_vc ci).2.1 j).2.2.1 = "I" ∨ ((am_vc ci).2.1 j).2.2.1 = "Z" ∨ ((am_vc ci).2.1 j).2.2.1 = "B") ∧ ¬ ((am_vc ci).2.1 j).2.2.1 = "J") {fty : FieldType} (hft : parseFieldDescriptor ((am_vc ci).2.1 j).2.2.1 = some fty ∧ (∃ z, fty = .object z) ∨ parseFieldDescriptor ((am_vc ci).2.1 j).2.2.1 = some fty ∧ ∃ z, fty = .array z) (hd : decode cc pc = .ok (.putfield n, 3)) (hk9 : am_G p l e R s mt args below meth c nL E Q m0 r (k) (pc + 3)) : am_G p l e R s mt args below meth c nL E Q m0 r (fun L S m => q_rr S fun v0 v1 S => gq_ (gk_ m v1 = (1, ci) ∧ ¬ v0 = 0) (k L S (sr_ m v1 j v0))) (pc) := by
  intro L S m H locs cells slots ls h hL hP
  obtain ⟨hx, hb, hml, hown, hts, hlk, hst, hK, hN, hrm, hfr, hlo⟩ := X
  obtain ⟨v0, v1, S, rfl, h9⟩ := q_rr_I h
  obtain ⟨hg, h9⟩ := gq_I h9
  have hg1 : gk_ m v1 = (1, ci) := hg.1
  have hc12 := hci
  refine so_put ⟨hx, hb, hml, hown, hts, hlk, hst, hK, hN, hrm, hfr, hlo⟩ hci hj hw hmd hd (hft.elim (fun z => z.1) (fun z => z.1)) (by rcases hft with ⟨-, z, rfl⟩ | ⟨-, z, rfl⟩ <;> rfl) (by rcases hft with ⟨-, z, rfl⟩ | ⟨-, z, rfl⟩ <;> rfl) hg1 hP (fun H1 i e2 e3 e1 hN0 => ?_)
  refine hk9 _ _ _ _ _ _ _ _ h9 hL ⟨hP.1.upd (by rw [hg1]; exact fun z => by cases z) e2 e3 (fun b hb => ⟨rfl, fun q => ?_, fun q => ?_, fun q => ?_⟩) rfl rfl (am_at_k (t := 1) (n := ci) hg1 (by decide) (fun _ => ⟨hN0, hci, e1.to (fun q hq => ?_)⟩) (fun z => by cases z) (fun z => by cases z) (fun z => by cases z) (fun z => am_rk1 z)), hP.2.1.put e2 e3 hN0, hP.2.2.1, hP.2.2.2⟩
  · first | rfl | exact if_neg (fun z => hb z.1)
  · first | rfl | exact if_neg (fun z => hb z.1)
  · first | rfl | exact if_neg (fun z => hb z.1)
  · show (if q = j then _ else _) = _
    by_cases hq2 : q = j
    · subst hq2
      rw [if_pos rfl]
      unfold am_fv
      rw [if_neg hty.1, if_neg hty.2, show ∀ z, gr_ (sr_ m v1 z v0) v1 z = v0 from fun z => if_pos ⟨rfl, rfl⟩, rf_, if_neg hg.2, ite_self]
    · rw [if_neg hq2]
      unfold am_fv
      simp only [gi_si, gl_sl, gr_sr, gr_siP, gi_srP, hq2, and_false, if_false]
      try rfl
theorem so_putQ (X : am_Cx p l R s mt args meth c cc nL own E m0 r) {n ci j : Nat} (hci : ci < 17) (hj : j < (am_vc ci).2.2) (hw : Cond.fieldLink (am_cn own) n (am_rc own ci j) ((am_vc ci).2.1 j).2.1 ((am_vc ci).2.1 j).2.2.1 ∈ am_GW) (hmd : ((am_vc ci).2.1 j).2.2.2 = false ∨ (((am_vc ci).2.1 j).2.2.2 = true ∧ meth.name = "<init>" ∧ ((am_vc ci).2.1 j).1 = am_cn own)) (hty : ¬ (((am_vc ci).2.1 j).2.2.1 = "I" ∨ ((am_vc ci).2.1 j).2.2.1 = "Z" ∨ ((am_vc ci).2.1 j).2.2.1 = "B") ∧ ¬ ((am_vc ci).2.1 j).2.2.1 = "J") {fty : FieldType} (hft : parseFieldDescriptor ((am_vc ci).2.1 j).2.2.1 = some fty ∧ (∃ z, fty = .object z) ∨ parseFieldDescriptor ((am_vc ci).2.1 j).2.2.1 = some fty ∧ ∃ z, fty = .array z) (hd : decode cc pc = .ok (.putfield n, 3)) (hk9 : am_G p l e R s mt args below meth c nL E Q m0 r (k) (pc + 3)) : am_G p l e R s mt args below meth c nL E Q m0 r (fun L S m => q_rr S fun v0 v1 S => gq_ (gk_ m v1 = (1, ci)) (k L S (si_ (sr_ m v1 j v0) v1 j 1))) (pc) := by
  intro L S m H locs cells slots ls h hL hP
  obtain ⟨hx, hb, hml, hown, hts, hlk, hst, hK, hN, hrm, hfr, hlo⟩ := X
  obtain ⟨v0, v1, S, rfl, h9⟩ := q_rr_I h
  obtain ⟨hg, h9⟩ := gq_I h9
  have hg1 : gk_ m v1 = (1, ci) := hg
  have hc12 := hci
  refine so_put ⟨hx, hb, hml, hown, hts, hlk, hst, hK, hN, hrm, hfr, hlo⟩ hci hj hw hmd hd (hft.elim (fun z => z.1) (fun z => z.1)) (by rcases hft with ⟨-, z, rfl⟩ | ⟨-, z, rfl⟩ <;> rfl) (by rcases hft with ⟨-, z, rfl⟩ | ⟨-, z, rfl⟩ <;> rfl) hg1 hP (fun H1 i e2 e3 e1 hN0 => ?_)
  refine hk9 _ _ _ _ _ _ _ _ h9 hL ⟨hP.1.upd (by rw [hg1]; exact fun z => by cases z) e2 e3 (fun b hb => ⟨rfl, fun q => ?_, fun q => ?_, fun q => ?_⟩) rfl rfl (am_at_k (t := 1) (n := ci) hg1 (by decide) (fun _ => ⟨hN0, hci, e1.to (fun q hq => ?_)⟩) (fun z => by cases z) (fun z => by cases z) (fun z => by cases z) (fun z => am_rk1 z)), hP.2.1.put e2 e3 hN0, hP.2.2.1, hP.2.2.2⟩
  · first | rfl | exact if_neg (fun z => hb z.1)
  · first | rfl | exact if_neg (fun z => hb z.1)
  · first | rfl | exact if_neg (fun z => hb z.1)
  · show (if q = j then _ else _) = _
    by_cases hq2 : q = j
    · subst hq2
      rw [if_pos rfl]
      unfold am_fv
      rw [if_neg hty.1, if_neg hty.2, if_pos (gi_si1 _ _ _ _), gr_siP, gr_sr, if_pos ⟨rfl, rfl⟩]
    · rw [if_neg hq2]
      unfold am_fv
      simp only [gi_si, gl_sl, gr_sr, gr_siP, gi_srP, hq2, and_false, if_false]
      try rfl
end S2
