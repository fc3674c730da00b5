/-! the law's loop: what holds between two calls; how an arm ends -/
def LZ (N : Nat) (b : Nat) (L : Nat) (C : Nat) (S : Nat) (n : Nat) (m : am_M) (X : TX) : Prop :=
  (0 < N) ∧
  (b < N) ∧
  (L ≤ 3072) ∧
  (TC m N X) ∧
  (TR m N X) ∧
  (XG (40 * n) X) ∧
  (gk_ m b = (7, L)) ∧
  (gc_ m ≤ C + n) ∧
  (gs_ m ≤ S + 6 * n)
theorem LZ.n0 {N : Nat} {b : Nat} {L : Nat} {C : Nat} {S : Nat} {n : Nat} {m : am_M} {X : TX} (h : LZ N b L C S n m X) : 0 < N := h.1
theorem LZ.bN {N : Nat} {b : Nat} {L : Nat} {C : Nat} {S : Nat} {n : Nat} {m : am_M} {X : TX} (h : LZ N b L C S n m X) : b < N := h.2.1
theorem LZ.l3 {N : Nat} {b : Nat} {L : Nat} {C : Nat} {S : Nat} {n : Nat} {m : am_M} {X : TX} (h : LZ N b L C S n m X) : L ≤ 3072 := h.2.2.1
theorem LZ.tc {N : Nat} {b : Nat} {L : Nat} {C : Nat} {S : Nat} {n : Nat} {m : am_M} {X : TX} (h : LZ N b L C S n m X) : TC m N X := h.2.2.2.1
theorem LZ.tr {N : Nat} {b : Nat} {L : Nat} {C : Nat} {S : Nat} {n : Nat} {m : am_M} {X : TX} (h : LZ N b L C S n m X) : TR m N X := h.2.2.2.2.1
theorem LZ.g {N : Nat} {b : Nat} {L : Nat} {C : Nat} {S : Nat} {n : Nat} {m : am_M} {X : TX} (h : LZ N b L C S n m X) : XG (40 * n) X := h.2.2.2.2.2.1
theorem LZ.k {N : Nat} {b : Nat} {L : Nat} {C : Nat} {S : Nat} {n : Nat} {m : am_M} {X : TX} (h : LZ N b L C S n m X) : gk_ m b = (7, L) := h.2.2.2.2.2.2.1
theorem LZ.c {N : Nat} {b : Nat} {L : Nat} {C : Nat} {S : Nat} {n : Nat} {m : am_M} {X : TX} (h : LZ N b L C S n m X) : gc_ m ≤ C + n := h.2.2.2.2.2.2.2.1
theorem LZ.z {N : Nat} {b : Nat} {L : Nat} {C : Nat} {S : Nat} {n : Nat} {m : am_M} {X : TX} (h : LZ N b L C S n m X) : gs_ m ≤ S + 6 * n := h.2.2.2.2.2.2.2.2
/-- what a call of the class leaves of all else -/
def MD (N : Nat) (m m1 : am_M) : Prop := gk_ m1 = gk_ m ∧ (∀ a k, a < N → gi_ m1 a k = gi_ m a k) ∧ (∀ k, gi_ m1 (N + 245) k = gi_ m (N + 245) k) ∧ (∀ k, gl_ m1 (N + 249) k = gl_ m (N + 249) k) ∧ gc_ m1 ≤ gc_ m + 1 ∧ gs_ m1 ≤ gs_ m + 6
/-- a handler's number for the exception -/
def HC (g : Nat → am_M → Option am_R) (E : Option Nat) (c : Nat) : Prop := (E = none ∧ c = 0) ∨ ∃ e, E = some e ∧ 0 < c ∧ c < 3 ∧ ∀ m, g e m = some (.inl (some (.int (nI c))), m)
/-- a call through its wrapper (class), and then the reference's -/
def BI (N n : Nat) (m : am_M) (R : am_M → Option am_R) (W : Option am_R) : Prop := ∃ m1 X' c v, MD N m m1 ∧ TC m1 N X' ∧ XG (40 * (n + 1)) X' ∧ c < 3 ∧ W = some (.inl (some (.int (nI c))), m1) ∧ (c = 0 → gl_ m1 (N + 266) 0 = Int32.toInt64 v) ∧ RI m1 N X' c v (R m1)
def BJ (N n : Nat) (m : am_M) (R : am_M → Option am_R) (W : Option am_R) : Prop := ∃ m1 X' c v, MD N m m1 ∧ TC m1 N X' ∧ XG (40 * (n + 1)) X' ∧ c < 3 ∧ W = some (.inl (some (.int (nI c))), m1) ∧ (c = 0 → gl_ m1 (N + 266) 0 = v) ∧ RJ m1 N X' c v (R m1)
def WI (m : am_M) (N : Nat) (X X' : TX) (c : Nat) (w : Int64) (r : Option am_R) : Prop := ∃ m1, c < 3 ∧ MD N m m1 ∧ TC m1 N X' ∧ TR m1 N X ∧ r = some (.inl (some (.int (nI c))), m1) ∧ (c = 0 → gl_ m1 (N + 266) 0 = w)
section I89
variable {sa sv N b L C S n c : Nat} {m m1 m' : am_M} {X X' : TX} {P : Nat → Nat → Prop} {E : Option Nat} {v : Int32} {w : Int64} {r0 W : Option am_R} {g : Nat → am_M → Option am_R} {R : am_M → Option am_R}
theorem XF.lo {a k : Nat} (h : XF N a k) : N ≤ a := h.1
theorem HC.lt (h : HC g E c) : c < 3 := by
  rcases h with h | ⟨_, _, _, h, _⟩
  · omega
  · exact h
theorem MD.of (hf : Fr P m m') (hp : ∀ a k, P a k → N ≤ a ∧ (a < N + 243 ∨ N + 266 ≤ a)) : MD N m m' := ⟨hf.1.1, fun a k h => hf.2.1 a k (fun z => by have := hp a k z; omega), fun k => hf.2.1 _ _ (fun z => by have := hp _ _ z; omega), fun k => hf.2.2.1 _ _ (fun z => by have := hp _ _ z; omega), by rw [hf.1.2.2.1]; omega, by rw [hf.1.2.2.2.1]; omega⟩
theorem MD.th (hf : Fr P m m') (hp : ∀ a k, P a k → N ≤ a ∧ (a < N + 243 ∨ N + 266 ≤ a)) : MD N m (th_ m') := ⟨hf.1.1, fun a k h => hf.2.1 a k (fun z => by have := hp a k z; omega), fun k => hf.2.1 _ _ (fun z => by have := hp _ _ z; omega), fun k => hf.2.2.1 _ _ (fun z => by have := hp _ _ z; omega), by
  show gc_ m' + 1 ≤ _
  rw [hf.1.2.2.1]; omega, by
  show gs_ m' + 6 ≤ _
  rw [hf.1.2.2.2.1]; omega⟩
theorem KC.hp {a k : Nat} (z : KC N a k) : N ≤ a ∧ (a < N + 243 ∨ N + 266 ≤ a) := ⟨z.2.1, Or.inl z.1⟩
theorem KC.hx {a k : Nat} (z : KC N a k) : XF N a k ∧ (a < N + 243 ∨ N + 266 ≤ a) := ⟨z.2, Or.inl z.1⟩
theorem TC.out (h : TC m N X) (hf : Fr (fun a _ => a = N + 266 ∨ a = N + 267) m m') : TC m' N X := by
  have hn : ∀ a k : Nat, a < N + 243 → ¬ (a = N + 266 ∨ a = N + 267) := fun a k ha z => by omega
  have hi : ∀ a k, a < N + 243 → gi_ m' a k = gi_ m a k := fun a k ha => hf.2.1 a k (hn a k ha)
  have hr : ∀ a k, a < N + 243 → gr_ m' a k = gr_ m a k := fun a k ha => hf.2.2.2.1 a k (hn a k ha)
  have hO : ∀ j, j < 8 → ∀ a k : Nat, oa N j ≤ a → a < oa N j + 27 → ¬ (a = N + 266 ∨ a = N + 267) := fun j hj a k _ h2 => hn a k (by have := oa_hi N hj; omega)
  obtain ⟨f, f1, f2, f3, f4, f5, f6, f7⟩ := h.f
  exact ⟨h.x.frg hf (fun a k z => XF.hi (by omega)), h.q.fr hf (fun k => hn _ 0 (by omega)), h.b.fr hf (fun k => hn _ 0 (by omega)), (hi _ _ (by omega)).trans h.n, (hi _ _ (by omega)).trans h.u, h.u5, (hi _ _ (by omega)).trans h.v, h.v1, (hi _ _ (by omega)).trans h.e1, (hi _ _ (by omega)).trans h.e2, (hi _ _ (by omega)).trans h.e3, (hi _ _ (by omega)).trans h.r, h.r3, fun k hk => (hi _ _ (by omega)).trans (h.rb k hk), fun j hj => (h.o j hj).fr' hf (hO j hj), ⟨f, f1, (hr _ _ (by omega)).trans f2, (hr _ _ (by omega)).trans f3, fun i z => (hr _ _ (by omega)).trans (f4 i z), f5.fr hf (hO _ (f1.lt (by omega))), fun i z => (f6 i z).fr hf (hO _ (f1.lt (by have := h.u5; omega))), fun z => (f7 z).fr hf (hO 5 (by omega))⟩⟩
/-- the wrapper's end: the answer is written down -/
theorem wr_go (hR : TR m N X) (hf : Fr (KC N) m m') (hT : TC m' N X') (w : Int64) : MD N m (sl_ m' (N + 266) 0 w) ∧ TC (sl_ m' (N + 266) 0 w) N X' ∧ TR (sl_ m' (N + 266) 0 w) N X ∧ gl_ (sl_ m' (N + 266) 0 w) (N + 266) 0 = w := by
  have f2 : Fr (fun a _ => a = N + 266 ∨ a = N + 267) m' (sl_ m' (N + 266) 0 w) := (Fr.refl _ _).sl (Or.inl rfl)
  have f3 : Fr (fun a k => KC N a k ∨ (a = N + 266 ∨ a = N + 267)) m (sl_ m' (N + 266) 0 w) := (hf.mono fun a k z => Or.inl z).trans (f2.mono fun a k z => Or.inr z)
  refine ⟨MD.of f3 (fun a k z => ?_), hT.out f2, hR.frC f3 (fun a k z => ?_), if_pos ⟨rfl, rfl⟩⟩
  · rcases z with z | z
    · exact z.hp
    · omega
  · rcases z with z | z
    · exact z.hx
    · exact ⟨XF.hi (by omega), by omega⟩
theorem wr_th (hR : TR m N X) (hf : Fr (KC N) m m') (hT : TC m' N X') : MD N m (th_ m') ∧ TC (th_ m') N X' ∧ TR (th_ m') N X := by
  have h2 : TR m' N X := hR.frC hf (fun a k z => z.hx)
  exact ⟨MD.th hf (fun a k z => z.hp), hT, h2⟩
theorem wr_i (hR : TR m N X) (hC : CI m N X' E v r0) (hc : HC g E c) : WI m N X X' c v.toInt64 (am_nx false (am_ci r0 (fun v2 m1 => gq_ ((gk_ m1 (N + 266)).1 = 4 ∧ in_ (nI 0) (gk_ m1 (N + 266)).2) (some (.inl (some (.int (nI 0))), (sl_ m1 (N + 266) ((nI 0)).toNatClampNeg (v2).toInt64)))) g)) := by
  obtain ⟨m', hf, hT, e⟩ := hC
  rcases hc with ⟨h1, h2⟩ | ⟨e', h1, h2, h3, h4⟩
  · subst h1
    subst h2
    have e2 : r0 = some (.inl (some (.int v)), m') := e
    obtain ⟨p1, p2, p3, p4⟩ := wr_go hR hf hT v.toInt64
    refine ⟨_, by omega, p1, p2, p3, ?_, fun _ => p4⟩
    rw [e2, ci_v, gq_pos ⟨by rw [xk266 hT.x], by rw [xk266 hT.x]; exact in_of (by omega) (by omega)⟩]
    rfl
  · subst h1
    have e2 : r0 = some (.inr e', th_ m') := e
    obtain ⟨p1, p2, p3⟩ := wr_th hR hf hT
    refine ⟨_, h3, p1, p2, p3, ?_, fun z => by omega⟩
    rw [e2, ci_x, h4]
    rfl
theorem wr_j (hR : TR m N X) (hC : CJ m N X' E w r0) (hc : HC g E c) : WI m N X X' c w (am_nx false (am_cl r0 (fun v2 m1 => gq_ ((gk_ m1 (N + 266)).1 = 4 ∧ in_ (nI 0) (gk_ m1 (N + 266)).2) (some (.inl (some (.int (nI 0))), (sl_ m1 (N + 266) ((nI 0)).toNatClampNeg v2)))) g)) := by
  obtain ⟨m', hf, hT, e⟩ := hC
  rcases hc with ⟨h1, h2⟩ | ⟨e', h1, h2, h3, h4⟩
  · subst h1
    subst h2
    have e2 : r0 = some (.inl (some (.long w)), m') := e
    obtain ⟨p1, p2, p3, p4⟩ := wr_go hR hf hT w
    refine ⟨_, by omega, p1, p2, p3, ?_, fun _ => p4⟩
    rw [e2, cl_v, gq_pos ⟨by rw [xk266 hT.x], by rw [xk266 hT.x]; exact in_of (by omega) (by omega)⟩]
    rfl
  · subst h1
    have e2 : r0 = some (.inr e', th_ m') := e
    obtain ⟨p1, p2, p3⟩ := wr_th hR hf hT
    refine ⟨_, h3, p1, p2, p3, ?_, fun z => by omega⟩
    rw [e2, cl_x, h4]
    rfl
theorem BI.of (hs : X.s = gi_ m (N + 245)) (hq : X.q = gl_ m (N + 249)) (hw : WI m N X X' c v.toInt64 W) (hG : XG (40 * (n + 1)) X') (hr : ∀ m1, TR m1 N X → X.s = gi_ m1 (N + 245) → X.q = gl_ m1 (N + 249) → RI m1 N X' c v (R m1)) : BI N n m R W := by
  obtain ⟨m1, hc, a1, a2, a3, a4, a5⟩ := hw
  exact ⟨m1, X', c, v, a1, a2, hG, hc, a4, a5, hr m1 a3 (by rw [hs]; exact (funext a1.2.2.1).symm) (by rw [hq]; exact (funext a1.2.2.2.1).symm)⟩
theorem BJ.of (hs : X.s = gi_ m (N + 245)) (hq : X.q = gl_ m (N + 249)) (hw : WI m N X X' c w W) (hG : XG (40 * (n + 1)) X') (hr : ∀ m1, TR m1 N X → X.s = gi_ m1 (N + 245) → X.q = gl_ m1 (N + 249) → RJ m1 N X' c w (R m1)) : BJ N n m R W := by
  obtain ⟨m1, hc, a1, a2, a3, a4, a5⟩ := hw
  exact ⟨m1, X', c, w, a1, a2, hG, hc, a4, a5, hr m1 a3 (by rw [hs]; exact (funext a1.2.2.1).symm) (by rw [hq]; exact (funext a1.2.2.2.1).symm)⟩
theorem LZ.next (h : LZ N b L C S n m X) (h1 : MD N m m1) (h2 : TC m1 N X') (h3 : XG (40 * (n + 1)) X') (h4 : Fr (KR N) m1 m') (h5 : TR m' N X') : LZ N b L C S (n + 1) m' X' := by
  have c1 := h1.2.2.2.2.1
  have c2 := h1.2.2.2.2.2
  have c3 := h.c
  have c4 := h.z
  exact ⟨h.n0, h.bN, h.l3, h2.frR h4 (fun a k z => z), h5, h3, by rw [h4.1.1, h1.1]; exact h.k, by rw [h4.1.2.2.1]; omega, by rw [h4.1.2.2.2.1]; omega⟩
theorem KR.o {a k : Nat} (h : KR N a k) : a < N + 266 := h.2.1
end I89
section J89
variable {sa sv N b L C S n : Nat} {m : am_M} {X : TX} {W : Option am_R} {R : am_M → Option am_R}
theorem arm_i {G : Int32 → am_M → Option am_R} {P : Int32 → Int32 → am_M → Option am_R} {Q : am_M → Option am_R} (h : LZ N b L C S n m X) (hB : BI N n m R W) (hG : ∀ v4 m3, gk_ m3 = gk_ m → gi_ m3 b = gi_ m b → XS m3 N → G v4 m3 = am_ci (R m3) (fun v6 m5 => gq_ (gk_ m5 (N + 243) = (1, 11)) (am_ci (am_ca sa sv 20 221 [.ref (N + 243)] m5) (fun v8 m7 => gb_ (v8 = v4) (gb_ (v4 = 0) (gq_ ((gk_ m7 (N + 266)).1 = 4 ∧ in_ (nI 0) (gk_ m7 (N + 266)).2) (gb_ ((lg_cmp (gl_ m7 (N + 266) ((nI 0)).toNatClampNeg) (v6).toInt64) = 0) (P v4 v6 m7) (Q m7))) (P v4 v6 m7)) (Q m7)) am_xg)) am_xg) : ∃ m2 X2 u1 u2, LZ N b L C S (n + 1) m2 X2 ∧ am_ci W G am_xg = P u1 u2 m2 := by
  obtain ⟨m1, X', c, v, a1, a2, a3, a4, a5, a6, a7⟩ := hB
  obtain ⟨m2, v', b1, b2, b3, b4, b5⟩ := a7
  refine ⟨m2, X', nI c, v', h.next a1 a2 a3 b1 b2, ?_⟩
  rw [a5, ci_v, hG _ _ a1.1 (funext fun k => a1.2.1 b k h.bN) a2.x, b3, ci_v, gq_pos (xk243 b2.x), c221 (d := 19), b221_0, gq_pos (xk243 b2.x), ci_v, gb_pos b4]
  by_cases z : c = 0
  · have z2 : lg_cmp (gl_ m2 (N + 266) ((nI 0)).toNatClampNeg) v'.toInt64 = 0 := by
      rw [lgc_eq, b5 z, nI_clamp (by omega), b1.2.2.1 _ _ (fun z3 => by have := z3.o; omega), a6 z]
    rw [gb_pos (by rw [z]; rfl), gq_pos ⟨by rw [xk266 b2.x], by rw [xk266 b2.x]; exact in_of (by omega) (by omega)⟩, gb_pos z2]
  · rw [gb_neg (by rw [nI_eq0 (by omega)]; exact z)]
theorem arm_j {G : Int32 → am_M → Option am_R} {P : Int32 → Int64 → am_M → Option am_R} {Q : am_M → Option am_R} (h : LZ N b L C S n m X) (hB : BJ N n m R W) (hG : ∀ v4 m3, gk_ m3 = gk_ m → gi_ m3 b = gi_ m b → XS m3 N → G v4 m3 = am_cl (R m3) (fun v6 m5 => gq_ (gk_ m5 (N + 243) = (1, 11)) (am_ci (am_ca sa sv 20 221 [.ref (N + 243)] m5) (fun v8 m7 => gb_ (v8 = v4) (gb_ (v4 = 0) (gq_ ((gk_ m7 (N + 266)).1 = 4 ∧ in_ (nI 0) (gk_ m7 (N + 266)).2) (gb_ ((lg_cmp (gl_ m7 (N + 266) ((nI 0)).toNatClampNeg) v6) = 0) (P v4 v6 m7) (Q m7))) (P v4 v6 m7)) (Q m7)) am_xg)) am_xg) : ∃ m2 X2 u1 u2, LZ N b L C S (n + 1) m2 X2 ∧ am_ci W G am_xg = P u1 u2 m2 := by
  obtain ⟨m1, X', c, v, a1, a2, a3, a4, a5, a6, a7⟩ := hB
  obtain ⟨m2, v', b1, b2, b3, b4, b5⟩ := a7
  refine ⟨m2, X', nI c, v', h.next a1 a2 a3 b1 b2, ?_⟩
  rw [a5, ci_v, hG _ _ a1.1 (funext fun k => a1.2.1 b k h.bN) a2.x, b3, cl_v, gq_pos (xk243 b2.x), c221 (d := 19), b221_0, gq_pos (xk243 b2.x), ci_v, gb_pos b4]
  by_cases z : c = 0
  · have z2 : lg_cmp (gl_ m2 (N + 266) ((nI 0)).toNatClampNeg) v' = 0 := by
      rw [lgc_eq, b5 z, nI_clamp (by omega), b1.2.2.1 _ _ (fun z3 => by have := z3.o; omega), a6 z]
    rw [gb_pos (by rw [z]; rfl), gq_pos ⟨by rw [xk266 b2.x], by rw [xk266 b2.x]; exact in_of (by omega) (by omega)⟩, gb_pos z2]
  · rw [gb_neg (by rw [nI_eq0 (by omega)]; exact z)]
/-- an arm without a wrapper -/
theorem arm_n {X' : TX} {v : Int32} {P : am_M → Option am_R} {Q : am_M → Option am_R} (h : LZ N b L C S n m X) (hs : X.s = gi_ m (N + 245)) (hq : X.q = gl_ m (N + 249)) (hC : CI m N X' none v W) (hG : XG (40 * (n + 1)) X') (hr : ∀ m1, TR m1 N X → X.s = gi_ m1 (N + 245) → X.q = gl_ m1 (N + 249) → RN m1 N X' v (R m1)) : ∃ m2 X2, LZ N b L C S (n + 1) m2 X2 ∧ am_ci W (fun v1 m1 => gq_ (gk_ m1 (N + 243) = (1, 11)) (am_ci (R m1) (fun v2 m2 => gb_ (v1 = v2) (P m2) (Q m2)) am_xg)) am_xg = P m2 := by
  obtain ⟨m1, a1, a2, a3⟩ := hC
  have a4 : W = some (.inl (some (.int v)), m1) := a3
  have md := MD.of a1 (fun a k z => z.hp)
  have t1 := h.tr.frC a1 (fun a k z => z.hx)
  obtain ⟨m2, b1, b2, b3⟩ := hr m1 t1 (by rw [hs]; exact (funext md.2.2.1).symm) (by rw [hq]; exact (funext md.2.2.2.1).symm)
  exact ⟨m2, X', h.next md a2 hG b1 b2, by rw [a4, ci_v, gq_pos (xk243 a2.x), b3, ci_v, gb_pos rfl]⟩
theorem arm_l {X' : TX} {v : Int64} {P : am_M → Option am_R} {Q : am_M → Option am_R} (h : LZ N b L C S n m X) (hs : X.s = gi_ m (N + 245)) (hq : X.q = gl_ m (N + 249)) (hC : CJ m N X' none v W) (hG : XG (40 * (n + 1)) X') (hr : ∀ m1, TR m1 N X → X.s = gi_ m1 (N + 245) → X.q = gl_ m1 (N + 249) → RJ m1 N X' 0 v (R m1)) : ∃ m2 X2, LZ N b L C S (n + 1) m2 X2 ∧ am_cl W (fun v1 m1 => gq_ (gk_ m1 (N + 243) = (1, 11)) (am_cl (R m1) (fun v2 m2 => gb_ ((lg_cmp v1 v2) = 0) (P m2) (Q m2)) am_xg)) am_xg = P m2 := by
  obtain ⟨m1, a1, a2, a3⟩ := hC
  have a4 : W = some (.inl (some (.long v)), m1) := a3
  have md := MD.of a1 (fun a k z => z.hp)
  have t1 := h.tr.frC a1 (fun a k z => z.hx)
  obtain ⟨m2, v', b1, b2, b3, b4, b5⟩ := hr m1 t1 (by rw [hs]; exact (funext md.2.2.1).symm) (by rw [hq]; exact (funext md.2.2.2.1).symm)
  exact ⟨m2, X', h.next md a2 hG b1 b2, by rw [a4, cl_v, gq_pos (xk243 a2.x), b3, cl_v, gb_pos (by rw [lgc_eq, b5 rfl])]⟩
end J89
