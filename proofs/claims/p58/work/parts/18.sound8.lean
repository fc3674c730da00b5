/-! methods: looked at whole -/
def am_ck (y : Nat) (q : am_I) : Bool := decide (decode (am_mb y) q.1 = .ok (q.2.1, am_lx q.2.1 q.2.2)) && am_cx (am_mo y) (am_ml y) (am_mr y) ((am_mn y).name == "<init>") (am_mb y) q.1 q.2.1 q.2.2
/-- does an instruction never go on to the next row -/
def am_st9 (i : Instr) (x : am_X) : Bool := match i with
  | .new _ => !(x.2.2.1.beq 0)
  | .tableswitch _ _ _ _ => true
  | .athrow => true
  | _ => false
def am_sq : List am_I → Bool
  | [] => true
  | [_] => true
  | q :: q' :: r => (am_st9 q.2.1 q.2.2 || q'.1.beq (q.1 + am_ln q.2.1)) && am_sq (q' :: r)
theorem am_sq_t {q : am_I} {r : List am_I} (h : am_sq (q :: r) = true) : am_sq r = true := by
  cases r with
  | nil => rfl
  | cons q' r =>
    have h : ((am_st9 q.2.1 q.2.2 || q'.1.beq (q.1 + am_ln q.2.1)) && am_sq (q' :: r)) = true := h
    rw [Bool.and_eq_true] at h
    exact h.2
theorem am_dr_s (pc : Nat) : ∀ (is : List am_I), am_dr pc is = [] ∨ ∃ q r pre, am_dr pc is = q :: r ∧ q.1 = pc ∧ is = pre ++ q :: r := by
  intro is
  induction is with
  | nil => exact Or.inl rfl
  | cons q is ih =>
    cases hb : q.1.beq pc with
    | true => exact Or.inr ⟨q, is, [], by show (bif q.1.beq pc then q :: is else am_dr pc is) = _; rw [hb]; rfl, Nat.eq_of_beq_eq_true hb, rfl⟩
    | false =>
      have e : am_dr pc (q :: is) = am_dr pc is := by show (bif q.1.beq pc then q :: is else am_dr pc is) = _; rw [hb]; rfl
      rw [e]
      rcases ih with h | ⟨q2, r, pre, h1, h2, h3⟩
      · exact Or.inl h
      · exact Or.inr ⟨q2, r, q :: pre, h1, h2, by rw [h3]; rfl⟩
theorem am_sq_a {r : List am_I} : ∀ {pre : List am_I}, am_sq (pre ++ r) = true → am_sq r = true := by
  intro pre
  induction pre with
  | nil => exact fun h => h
  | cons q pre ih => exact fun h => ih (am_sq_t h)
section S8
variable {p : Program} {l : Launch} {e : Env} {R : Room} {s : State} {mt : MethodId} {args : Array Value} {below : List Frame} {meth : Method} {c : Code} {nL own : Nat} {cc : ByteArray} {E : am_E} {m0 : am_M} {r : am_R} {k : am_L → List Value → am_M → Option am_R} {x : am_X}
variable {d : Nat} {C : Nat → List Value → am_M → Option am_R} {hd9 : Nat → Nat → Option Int32} {K : am_K} {y : Nat}
theorem am_nG {pc : Nat} {Q : State → Prop} : am_G p l e R s mt args below meth c nL E Q m0 r (fun _ _ _ => none) pc := fun _ _ _ _ _ _ _ _ h => nomatch h
theorem am_sg_ok (X : am_Cx p l R s mt args meth c (am_mb y) (am_ml y) (am_mo y) E m0 r) (hret : meth.sig.returnType = am_mr y) (hini : ((am_mn y).name == "<init>") = true → meth.name = "<init>")
    (hK9 : ∀ q, am_G p l e R s mt args below meth c (am_ml y) E (MQ below (am_Qc E r) args s (gc_ r.2 - gc_ m0) (gs_ r.2 - gs_ m0) (am_A E)) m0 r (K q) (q)) (hKm : ∀ pc L S m, am_B m (K pc L S m)) (hC : am_Con l E d C) (hCm : am_Cm C) (hfr2 : 3 + d ≤ R.frames) (hlo2 : 120 + 40 * d ≤ R.locals) :
    ∀ (is : List am_I) (q : am_I), am_sq (q :: is) = true → (∀ z ∈ q :: is, am_ck y z = true) → am_G p l e R s mt args below meth c (am_ml y) E (MQ below (am_Qc E r) args s (gc_ r.2 - gc_ m0) (gs_ r.2 - gs_ m0) (am_A E)) m0 r (am_sg (E.2.2.2.1 0) (am_sv E) K C hd9 (q :: is)) (q.1) := by
  intro is
  induction is with
  | nil =>
    intro q hs hc
    have h1 := hc q List.mem_cons_self
    rw [am_ck, Bool.and_eq_true] at h1
    have h2 := of_decide_eq_true h1.1
    exact am_st_ok X hret hini h2 h1.2 am_nG hK9 (fun _ _ _ h => nomatch h) hC hCm hfr2 hlo2
  | cons q' is ih =>
    intro q hs hc
    have h1 := hc q List.mem_cons_self
    rw [am_ck, Bool.and_eq_true] at h1
    have h2 := of_decide_eq_true h1.1
    have hG := ih q' (am_sq_t hs) (fun z hz => hc z (List.mem_cons_of_mem _ hz))
    have hs1 : (am_st9 q.2.1 q.2.2 || q'.1.beq (q.1 + am_ln q.2.1)) = true := by
      have hs : ((am_st9 q.2.1 q.2.2 || q'.1.beq (q.1 + am_ln q.2.1)) && am_sq (q' :: is)) = true := hs
      rw [Bool.and_eq_true] at hs
      exact hs.1
    rw [Bool.or_eq_true] at hs1
    rcases hs1 with hs1 | hs1
    · have key : am_st (E.2.2.2.1 0) (am_sv E) K C hd9 q.1 q.2.1 q.2.2 (am_sg (E.2.2.2.1 0) (am_sv E) K C hd9 (q' :: is)) = am_st (E.2.2.2.1 0) (am_sv E) K C hd9 q.1 q.2.1 q.2.2 (fun _ _ _ => none) := by
        obtain ⟨pc, i, x1, x2, x3, x4, v, w, sw⟩ := q
        cases i <;> first | rfl | (cases hs1; done) | skip
        rcases x3 with _ | _ | x3
        · cases hs1
        · rfl
        · rfl
      show am_G p l e R s mt args below meth c (am_ml y) E _ m0 r (am_st (E.2.2.2.1 0) (am_sv E) K C hd9 q.1 q.2.1 q.2.2 (am_sg (E.2.2.2.1 0) (am_sv E) K C hd9 (q' :: is))) q.1
      rw [key]
      exact am_st_ok X hret hini h2 h1.2 am_nG hK9 (fun _ _ _ h => nomatch h) hC hCm hfr2 hlo2
    · rw [Nat.eq_of_beq_eq_true hs1] at hG
      exact am_st_ok X hret hini h2 h1.2 hG hK9 (fun L S m h => (am_sg_B _ _ hCm hKm (q' :: is) L S m r h).1) hC hCm hfr2 hlo2
theorem am_ex_ok (X : am_Cx p l R s mt args meth c (am_mb y) (am_ml y) (am_mo y) E m0 r) (hret : meth.sig.returnType = am_mr y) (hini : ((am_mn y).name == "<init>") = true → meth.name = "<init>") (hC : am_Con l E d C) (hCm : am_Cm C) (hfr2 : 3 + d ≤ R.frames) (hlo2 : 120 + 40 * d ≤ R.locals)
    (is : List am_I) (hs : am_sq is = true) (hc : ∀ z ∈ is, am_ck y z = true) : ∀ (n pc : Nat), am_G p l e R s mt args below meth c (am_ml y) E (MQ below (am_Qc E r) args s (gc_ r.2 - gc_ m0) (gs_ r.2 - gs_ m0) (am_A E)) m0 r (am_ex (E.2.2.2.1 0) (am_sv E) C hd9 is n pc) (pc) := by
  intro n
  induction n with
  | zero => exact fun pc => am_nG
  | succ n ih =>
    intro pc
    rcases am_dr_s pc is with h | ⟨q, r9, pre, h1, h2, h3⟩
    · intro L S m H locs cells slots ls h0
      have h0 : am_sg (E.2.2.2.1 0) (am_sv E) (am_ex (E.2.2.2.1 0) (am_sv E) C hd9 is n) C hd9 (am_dr pc is) L S m = some r := h0
      rw [h] at h0
      cases h0
    · have hG := am_sg_ok (hd9 := hd9) (K := am_ex (E.2.2.2.1 0) (am_sv E) C hd9 is n) X hret hini ih (fun pc L S m => am_ex_B _ _ hCm is n pc L S m) hC hCm hfr2 hlo2 r9 q (am_sq_a (pre := pre) (by rw [← h3]; exact hs)) (fun z hz => hc z (by rw [h3]; exact List.mem_append_right _ hz))
      rw [h2] at hG
      show am_G p l e R s mt args below meth c (am_ml y) E _ m0 r (am_sg (E.2.2.2.1 0) (am_sv E) (am_ex (E.2.2.2.1 0) (am_sv E) C hd9 is n) C hd9 (am_dr pc is)) pc
      rw [h1]
      exact hG
end S8
