/-! methods: looked at whole; sound by the depth of calls -/
def am_ck (y : Nat) (q : am_I) : Bool := decide (decode (am_mb y) q.1 = .ok (q.2.1, am_le q.2.1 q.2.2)) && am_cx (am_mo y) (am_ml y) (am_mr y) ((am_mn y).name == "<init>") (am_hh y).isEmpty (am_mb y) q.1 q.2.1 q.2.2
/-- does an instruction never go on to the next row -/
def am_st9 (i : Instr) (x : am_X) : Bool := match i with
  | .new _ => !(x.2.2.1.beq 0)
  | .tableswitch _ _ _ _ => true
  | .lookupswitch _ _ => true
  | .athrow => true
  | _ => false
def am_sq : List am_I → Bool
  | [] => true
  | [_] => true
  | q :: q' :: r => (am_st9 q.2.1 q.2.2 || q'.1.beq (q.1 + am_ln q.2.1)) && am_sq (q' :: r)
theorem am_sq_t {q : am_I} {r : List am_I} (h : am_sq (q :: r) = true) : am_sq r = true := by
  cases r with
  | nil => rfl
  | cons q' r =>
    have h : ((am_st9 q.2.1 q.2.2 || q'.1.beq (q.1 + am_ln q.2.1)) && am_sq (q' :: r)) = true := h
    rw [Bool.and_eq_true] at h
    exact h.2
theorem am_dr_s (pc : Nat) : ∀ (is : List am_I), am_dr pc is = [] ∨ ∃ q r pre, am_dr pc is = q :: r ∧ q.1 = pc ∧ is = pre ++ q :: r := by
  intro is
  induction is with
  | nil => exact Or.inl rfl
  | cons q is ih =>
    cases hb : q.1.beq pc with
    | true => exact Or.inr ⟨q, is, [], by show (bif q.1.beq pc then q :: is else am_dr pc is) = _; rw [hb]; rfl, Nat.eq_of_beq_eq_true hb, rfl⟩
    | false =>
      have e : am_dr pc (q :: is) = am_dr pc is := by show (bif q.1.beq pc then q :: is else am_dr pc is) = _; rw [hb]; rfl
      rw [e]
      rcases ih with h | ⟨q2, r, pre, h1, h2, h3⟩
      · exact Or.inl h
      · exact Or.inr ⟨q2, r, q :: pre, h1, h2, by rw [h3]; rfl⟩
theorem am_sq_a {r : List am_I} : ∀ {pre : List am_I}, am_sq (pre ++ r) = true → am_sq r = true := by
  intro pre
  induction pre with
  | nil => exact fun h => h
  | cons q pre ih => exact fun h => ih (am_sq_t h)
section S8
variable {p : Program} {l : Launch} {e : Env} {R : Room} {s : State} {mt : MethodId} {args : Array Value} {below : List Frame} {meth : Method} {c : Code} {nL own : Nat} {cc : ByteArray} {E : am_E} {m0 : am_M} {r : am_R} {k : am_L → List Value → am_M → Option am_R} {x : am_X}
variable {d : Nat} {C : Nat → List Value → am_M → Option am_R} {hd9 : Nat → Nat → Option Int32} {K : am_K} {y : Nat}
theorem am_nG {pc : Nat} {Q : State → Prop} : am_G p l e R s mt args below meth c nL E Q m0 r (fun _ _ _ => none) pc := fun _ _ _ _ _ _ _ _ h => nomatch h
theorem am_sg_ok (X : am_Cx p l R s mt args meth c (am_mb y) (am_ml y) (am_mo y) E m0 r) (hret : meth.sig.returnType = am_mr y) (hini : ((am_mn y).name == "<init>") = true → meth.name = "<init>") (hthr : (am_hh y).isEmpty = true → ∀ x ∈ c.exceptionTable.toList, False)
    (hK9 : ∀ q, am_G p l e R s mt args below meth c (am_ml y) E (vx_MQ below (am_Qc E r) (am_XC E r) args s (gc_ r.2 - gc_ m0) (gs_ r.2 - gs_ m0) (am_A E)) m0 r (K q) (q)) (hKm : ∀ pc L S m, am_B m (K pc L S m)) (hC : am_Con l E d C) (hCm : am_Cm C) (hfr2 : 13 + d ≤ R.frames) (hlo2 : 260 + 40 * d ≤ R.locals) (hX9 : (∀ (pc j : Nat) (m1 : am_M) (L : am_L) (rest : List Value) (q : Addr) (ce : Cell) (H : Heap) (locs : List Loc) (cells slots : Nat) (ls : Array Slot), am_xc hd9 pc j m1 = some r → am_LH ls (am_ml y) L → am_Pt E s H locs cells slots m0 m1 → H[q]? = some ce → ce.vm = .none → s.vm.findClass (am_xn j) = some ce.cls → vx_W p l e R s mt args below meth c (H) (locs) (cells) (slots) (vx_MQ below (am_Qc E r) (am_XC E r) args s (gc_ r.2 - gc_ m0) (gs_ r.2 - gs_ m0) (am_A E)) (F0 mt pc ls rest) q)) :
    ∀ (is : List am_I) (q : am_I), am_sq (q :: is) = true → (∀ z ∈ q :: is, am_ck y z = true) → am_G p l e R s mt args below meth c (am_ml y) E (vx_MQ below (am_Qc E r) (am_XC E r) args s (gc_ r.2 - gc_ m0) (gs_ r.2 - gs_ m0) (am_A E)) m0 r (am_sg E.2.2.2.1 E.2.2.2.2.1 K C hd9 (q :: is)) (q.1) := by
  intro is
  induction is with
  | nil =>
    intro q hs hc
    have h1 := hc q List.mem_cons_self
    rw [am_ck, Bool.and_eq_true] at h1
    have h2 := of_decide_eq_true h1.1
    exact am_st_ok X hret hini hthr h2 h1.2 am_nG hK9 (fun _ _ _ h => nomatch h) hC hCm hfr2 hlo2 (fun j m1 L rest q ce H locs cells slots ls => hX9 _ j m1 L rest q ce H locs cells slots ls)
  | cons q' is ih =>
    intro q hs hc
    have h1 := hc q List.mem_cons_self
    rw [am_ck, Bool.and_eq_true] at h1
    have h2 := of_decide_eq_true h1.1
    have hG := ih q' (am_sq_t hs) (fun z hz => hc z (List.mem_cons_of_mem _ hz))
    have hs1 : (am_st9 q.2.1 q.2.2 || q'.1.beq (q.1 + am_ln q.2.1)) = true := by
      have hs : ((am_st9 q.2.1 q.2.2 || q'.1.beq (q.1 + am_ln q.2.1)) && am_sq (q' :: is)) = true := hs
      rw [Bool.and_eq_true] at hs
      exact hs.1
    rw [Bool.or_eq_true] at hs1
    rcases hs1 with hs1 | hs1
    · have key : am_st E.2.2.2.1 E.2.2.2.2.1 K C hd9 q.1 q.2.1 q.2.2 (am_sg E.2.2.2.1 E.2.2.2.2.1 K C hd9 (q' :: is)) = am_st E.2.2.2.1 E.2.2.2.2.1 K C hd9 q.1 q.2.1 q.2.2 (fun _ _ _ => none) := by
        obtain ⟨pc, i, x1, x2, x3, x4, v, w, sw⟩ := q
        cases i <;> first | rfl | (cases hs1; done) | skip
        rcases x3 with _ | x3
        · cases hs1
        · rfl
      show am_G p l e R s mt args below meth c (am_ml y) E _ m0 r (am_st E.2.2.2.1 E.2.2.2.2.1 K C hd9 q.1 q.2.1 q.2.2 (am_sg E.2.2.2.1 E.2.2.2.2.1 K C hd9 (q' :: is))) q.1
      rw [key]
      exact am_st_ok X hret hini hthr h2 h1.2 am_nG hK9 (fun _ _ _ h => nomatch h) hC hCm hfr2 hlo2 (fun j m1 L rest q ce H locs cells slots ls => hX9 _ j m1 L rest q ce H locs cells slots ls)
    · rw [Nat.eq_of_beq_eq_true hs1] at hG
      exact am_st_ok X hret hini hthr h2 h1.2 hG hK9 (fun L S m h => am_sg_B _ _ hCm hKm (q' :: is) L S m r h) hC hCm hfr2 hlo2 (fun j m1 L rest q ce H locs cells slots ls => hX9 _ j m1 L rest q ce H locs cells slots ls)
theorem am_ex_ok (X : am_Cx p l R s mt args meth c (am_mb y) (am_ml y) (am_mo y) E m0 r) (hret : meth.sig.returnType = am_mr y) (hini : ((am_mn y).name == "<init>") = true → meth.name = "<init>") (hthr : (am_hh y).isEmpty = true → ∀ x ∈ c.exceptionTable.toList, False)
    (hC : am_Con l E d C) (hCm : am_Cm C) (hfr2 : 13 + d ≤ R.frames) (hlo2 : 260 + 40 * d ≤ R.locals) (hX9 : (∀ (pc j : Nat) (m1 : am_M) (L : am_L) (rest : List Value) (q : Addr) (ce : Cell) (H : Heap) (locs : List Loc) (cells slots : Nat) (ls : Array Slot), am_xc hd9 pc j m1 = some r → am_LH ls (am_ml y) L → am_Pt E s H locs cells slots m0 m1 → H[q]? = some ce → ce.vm = .none → s.vm.findClass (am_xn j) = some ce.cls → vx_W p l e R s mt args below meth c (H) (locs) (cells) (slots) (vx_MQ below (am_Qc E r) (am_XC E r) args s (gc_ r.2 - gc_ m0) (gs_ r.2 - gs_ m0) (am_A E)) (F0 mt pc ls rest) q))
    (is : List am_I) (hs : am_sq is = true) (hc : ∀ z ∈ is, am_ck y z = true) : ∀ (n pc : Nat), am_G p l e R s mt args below meth c (am_ml y) E (vx_MQ below (am_Qc E r) (am_XC E r) args s (gc_ r.2 - gc_ m0) (gs_ r.2 - gs_ m0) (am_A E)) m0 r (am_ex E.2.2.2.1 E.2.2.2.2.1 C hd9 is n pc) (pc) := by
  intro n
  induction n with
  | zero => exact fun pc => am_nG
  | succ n ih =>
    intro pc
    rcases am_dr_s pc is with h | ⟨q, r9, pre, h1, h2, h3⟩
    · intro L S m H locs cells slots ls h0
      have h0 : am_sg E.2.2.2.1 E.2.2.2.2.1 (am_ex E.2.2.2.1 E.2.2.2.2.1 C hd9 is n) C hd9 (am_dr pc is) L S m = some r := h0
      rw [h] at h0
      cases h0
    · have hG := am_sg_ok (K := am_ex E.2.2.2.1 E.2.2.2.2.1 C hd9 is n) X hret hini hthr ih (fun pc L S m => am_ex_B _ _ hCm is n pc L S m) hC hCm hfr2 hlo2 hX9 r9 q (am_sq_a (pre := pre) (by rw [← h3]; exact hs)) (fun z hz => hc z (by rw [h3]; exact List.mem_append_right _ hz))
      rw [h2] at hG
      show am_G p l e R s mt args below meth c (am_ml y) E _ m0 r (am_sg E.2.2.2.1 E.2.2.2.2.1 (am_ex E.2.2.2.1 E.2.2.2.2.1 C hd9 is n) C hd9 (am_dr pc is)) pc
      rw [h1]
      exact hG
/-! the handlers of the law's calls -/
def am_hr (b : ByteArray) (p : Nat) (v : Int32) : Bool := match decode b p with
  | .ok (.iconst n, 1) => decide (Int32.ofInt n = v) && decide (decode b (p + 1) = .ok (.ireturn, 1))
  | _ => false
def am_h1 (y pc : Nat) (x : Nat × Nat × Nat × Nat) (j : Nat) (v : Int32) : Bool := covers ⟨x.1, x.2.1, x.2.2.1, x.2.2.2⟩ pc && decide (x.2.2.2 ≠ 0) && (am_XLo 12).any (fun q => q.1 == (12, x.2.2.2, j)) && decide (j ≤ 2) && (match decode (am_mb y) x.2.2.1 with
  | .ok (.astore_n k, 1) => decide ((k : Nat) < am_ml y) && am_hr (am_mb y) (x.2.2.1 + 1) v
  | .ok (.astore k, 2) => decide (k < am_ml y) && am_hr (am_mb y) (x.2.2.1 + 2) v
  | _ => false)
def am_hck (q : Nat × Nat × List (Nat × Int32)) : Bool := (am_mo q.1).beq 12 && decide (am_mr q.1 = some .int) && (match am_hh q.1, q.2.2 with
  | [x1], [z1] => am_h1 q.1 q.2.1 x1 z1.1 z1.2
  | [x1, x2], [z1, z2] => am_h1 q.1 q.2.1 x1 z1.1 z1.2 && am_h1 q.1 q.2.1 x2 z2.1 z2.2 && z1.1.beq 2 && z2.1.beq 1
  | _, _ => false)
theorem am_hck_ok : am_hdL.all am_hck = true := by decide +kernel
theorem am_hno : (List.range 411).all (fun y => !(am_hh y).isEmpty || am_hdL.all (fun q => !(q.1.beq y))) = true := by decide +kernel
theorem am_hg_I {y pc j : Nat} {v : Int32} : ∀ (l : List (Nat × Nat × List (Nat × Int32))), am_hg y pc j l = some v → ∃ q ∈ l, q.1 = y ∧ q.2.1 = pc ∧ am_hf q.2.2 j = some v := by
  intro l
  induction l with
  | nil => exact fun h => nomatch h
  | cons q l ih =>
    intro h
    have h : (bif q.1.beq y then (bif q.2.1.beq pc then am_hf q.2.2 j else none) else am_hg y pc j l) = some v := h
    cases hb : q.1.beq y with
    | true =>
      rw [hb] at h
      have h : (bif q.2.1.beq pc then am_hf q.2.2 j else none) = some v := h
      obtain ⟨h1, h2⟩ := am_bif h
      exact ⟨q, List.mem_cons_self, Nat.eq_of_beq_eq_true hb, Nat.eq_of_beq_eq_true h1, h2⟩
    | false =>
      rw [hb] at h
      obtain ⟨q2, a1, a2⟩ := ih h
      exact ⟨q2, List.mem_cons_of_mem _ a1, a2⟩
theorem am_hr_I {b : ByteArray} {p : Nat} {v : Int32} (h : am_hr b p v = true) : ∃ n, decode b p = .ok (.iconst n, 1) ∧ Int32.ofInt n = v ∧ decode b (p + 1) = .ok (.ireturn, 1) := by
  unfold am_hr at h
  split at h
  · next n hn =>
    rw [Bool.and_eq_true, decide_eq_true_eq, decide_eq_true_eq] at h
    exact ⟨n, hn, h.1, h.2⟩
  · cases h
theorem am_cas {j : Nat} (hj : j ≤ 2) : Cond.castable (am_xn j) (am_xn j) ∈ am_GW := by
  rcases (show j = 0 ∨ j = 1 ∨ j = 2 by omega) with rfl | rfl | rfl
  · exact am_pw_in (p := (2, 162)) rfl rfl
  · exact am_pw_in (p := (2, 237)) rfl rfl
  · exact am_pw_in (p := (5, 13)) rfl rfl
theorem am_hand (X : am_Cx p l R s mt args meth c (am_mb y) (am_ml y) (am_mo y) E m0 r) (hret : meth.sig.returnType = am_mr y) (hmo : am_mo y = 12) (hri : am_mr y = some .int) {pc j : Nat} {x : Nat × Nat × Nat × Nat} {v : Int32} (hx1 : am_h1 y pc x j v = true) {pre suf : List ExceptionTableEntry} (hsp : c.exceptionTable.toList = pre ++ ⟨x.1, x.2.1, x.2.2.1, x.2.2.2⟩ :: suf)
    (hpass : ∀ z ∈ pre, covers z pc = false ∨ (z.catchType ≠ 0 ∧ ∃ nm : String, (Cond.classLink (am_cn (am_mo y)) z.catchType nm).before args s = true ∧ va_Nc (am_xn j) nm s)) {m1 : am_M} {L : am_L} {rest : List Value} {q : Addr} {ce : Cell} {H : Heap} {locs : List Loc} {cells slots : Nat} {ls : Array Slot} (hr : r = (.inl (some (.int v)), m1)) (hL : am_LH ls (am_ml y) L) (hP : am_Pt E s H locs cells slots m0 m1) (hce : H[q]? = some ce) (hcv : ce.vm = .none) (hcl : s.vm.findClass (am_xn j) = some ce.cls) :
    vx_W p l e R s mt args below meth c (H) (locs) (cells) (slots) (vx_MQ below (am_Qc E r) (am_XC E r) args s (gc_ r.2 - gc_ m0) (gs_ r.2 - gs_ m0) (am_A E)) (F0 mt pc ls rest) q := by
  have X2 := X
  obtain ⟨hx, hb, hml, hown, hts, hlk, hst, hK, hN, hrm, hfr, hlo⟩ := X
  simp only [am_h1, Bool.and_eq_true, decide_eq_true_eq] at hx1
  obtain ⟨⟨⟨⟨h1, h2⟩, h3⟩, h4⟩, h5⟩ := hx1
  have hlk2 : (Cond.classLink (am_cn (am_mo y)) x.2.2.2 (am_xn j)).before args s = true := by rw [hmo]; exact hts _ (am_xl_in h3)
  refine vx_catch hown pre _ suf hsp hpass (by first | exact decide_eq_true h1 | simpa using h1 | simp [covers, h1]) h2 hlk2 (hts _ (am_cas h4)) hce hcv hcl ?_
  show W p l e R s mt args below meth c (H) (locs) (cells) (slots) (vx_MQ below (am_Qc E r) (am_XC E r) args s (gc_ r.2 - gc_ m0) (gs_ r.2 - gs_ m0) (am_A E)) (F0 mt x.2.2.1 ls [.ref q])
  have fin : ∀ (p9 : Nat) (L9 : am_L) (ls9 : Array Slot), am_LH ls9 (am_ml y) L9 → am_hr (am_mb y) p9 v = true → W p l e R s mt args below meth c (H) (locs) (cells) (slots) (vx_MQ below (am_Qc E r) (am_XC E r) args s (gc_ r.2 - gc_ m0) (gs_ r.2 - gs_ m0) (am_A E)) (F0 mt p9 ls9 []) := by
    intro p9 L9 ls9 hL9 h9
    obtain ⟨n, g1, g2, g3⟩ := am_hr_I h9
    refine lv_iconst hx hb g1 g2 ?_
    exact so_iretI X2 (hret.trans hri) g3 L9 _ m1 H locs cells slots ls9 (by rw [hr]; rfl) hL9 hP
  split at h5
  · next k hk =>
    rw [Bool.and_eq_true, decide_eq_true_eq] at h5
    exact lv_astore_n hx hb hk rfl hL.to h5.1 rfl (fun ls' h' => fin _ _ _ (am_LH.s1 hL h') h5.2)
  · next k hk =>
    rw [Bool.and_eq_true, decide_eq_true_eq] at h5
    exact lv_astore hx hb hk hL.to h5.1 rfl (fun ls' h' => fin _ _ _ (am_LH.s1 hL h') h5.2)
  · cases h5
end S8
