/-! closes: closing pays what payable() tells, and a second closing nothing -/
theorem bit32 : ∀ v, v < 32 → ∀ p, p < 5 → (((nI v >>> (nI p &&& 31)) &&& nI 1) = nI 1) = (v.testBit p = true) := by
  have h : ∀ v, v < 32 → ∀ p, p < 5 → ((((nI v >>> (nI p &&& 31)) &&& nI 1) = nI 1) ↔ (v.testBit p = true)) := by decide +kernel
  exact fun v hv p hp => propext (h v hv p hp)
section J8
variable {sa sv d N x b B p : Nat} {m M : am_M} {ow : Nat → Nat} {X : TX} {s : Nat → Int32} {q : Nat → Int64}
theorem pay_bit (s : Nat → Int32) (q : Nat → Int64) : ∀ n p, p < n → (pay_ s q n).testBit p = paid_ s q p := by
  intro n
  induction n with
  | zero => intro p hp; exact absurd hp (Nat.not_lt_zero _)
  | succ n ih =>
    intro p hp
    have e : pay_ s q (n + 1) = bif paid_ s q n then pay_ s q n ||| 2 ^ n else pay_ s q n := rfl
    rw [e]
    by_cases h : p = n
    · subst h
      have z := Nat.testBit_lt_two_pow (pay_lt (s := s) (q := q) p)
      cases hp : paid_ s q p with
      | false => exact z
      | true => rw [cond_true, Nat.testBit_or, z, Nat.testBit_two_pow_self]; rfl
    · have i := ih p (by omega)
      cases hp : paid_ s q n with
      | false => exact i
      | true => rw [cond_true, Nat.testBit_or, i, Nat.testBit_two_pow, decide_eq_false (fun z => h z.symm), Bool.or_false]
theorem pay_0 (h : ∀ p, p < 10 → paid_ s q p = false) : ∀ n, n ≤ 10 → pay_ s q n = 0 := by
  intro n
  induction n with
  | zero => exact fun _ => rfl
  | succ n ih =>
    intro hn
    show (bif paid_ s q n then pay_ s q n ||| 2 ^ n else pay_ s q n) = 0
    rw [h n (by omega)]
    exact ih (by omega)
theorem spd_n (hn : cN s 0 ≤ 10) : spd_ s q 10 = spd_ s q (cN s 0) := by
  have key : ∀ k, spd_ s q (cN s 0 + k) = spd_ s q (cN s 0) := by
    intro k
    induction k with
    | zero => rfl
    | succ k ih =>
      show spd_ s q (cN s 0 + k) + pd_ s q (cN s 0 + k) = _
      rw [ih]
      unfold pd_
      rw [if_neg (fun z => by omega)]
      exact Int64.add_zero _
  have := key (10 - cN s 0)
  rw [show cN s 0 + (10 - cN s 0) = 10 by omega] at this
  exact this
theorem spd_0 (h : ∀ p, p < 10 → paid_ s q p = false) : ∀ n, n ≤ 10 → spd_ s q n = 0 := by
  intro n
  induction n with
  | zero => exact fun _ => rfl
  | succ n ih =>
    intro hn
    show spd_ s q n + pd_ s q n = 0
    rw [ih (by omega)]
    unfold pd_
    rw [if_neg (fun z => by rw [h n (by omega)] at z; exact Bool.noConfusion z.2)]
    rfl
theorem pd_t (hp : p < cN s 0) (h : paid_ s q p = true) : pd_ s q p = q p := if_pos ⟨hp, h⟩
theorem pd_f (h : paid_ s q p = false) : pd_ s q p = 0 := if_neg (fun z => by rw [h] at z; exact Bool.noConfusion z.2)
theorem cQ_b (hp : p < 10) : cQ_ s q p = q p - pd_ s q p := if_pos hp
theorem cQ_c {c : Nat} (hp : p < 10) (hc : c < 3) : cQ_ s q (50 + 3 * p + c) = 0 := by
  unfold cQ_
  rw [if_neg (by omega), if_neg (by omega), if_pos (by omega)]
theorem cQ_s {c : Nat} (hp : p < 10) (hc : c < 5) : cQ_ s q (212 + 5 * p + c) = nv_ s q p c := by
  unfold cQ_
  rw [if_neg (by omega), if_neg (by omega), if_neg (by omega), if_neg (by omega), if_pos (by omega), show (212 + 5 * p + c - 212) / 5 = p by omega, show (212 + 5 * p + c - 212) % 5 = c by omega]
theorem cS_l (hp : p < 10) : cS_ s (8 + p) = s (8 + p) := by
  unfold cS_
  rw [if_neg (by omega), if_neg (by omega), if_neg (by omega), if_neg (by omega)]
/-- behind a closing nobody is to be paid -/
theorem paid_c (hZ : ∀ p, cN s 0 ≤ p → p < 10 → q p = 0) (hp : p < 10) : paid_ (cS_ s) (cQ_ s q) p = false := by
  unfold paid_
  rw [cQ_b hp, cS_l hp]
  cases h : paid_ s q p with
  | false =>
    rw [pd_f h]
    have e : q p - 0 = q p := Int64.sub_zero _
    rw [e]; exact h
  | true =>
    have e : q p - pd_ s q p = 0 := by
      by_cases c : p < cN s 0
      · rw [pd_t c h]; exact Int64.sub_self _
      · have z := hZ p (by omega) hp
        unfold pd_
        rw [if_neg (fun y => c y.1), z]; rfl
    rw [e]
    exact decide_eq_false (fun z => absurd z.1 (by decide))
theorem JT.clo (h : JT sa m sv N x ow B X s q) (hl : LM s q) (hB : B + 1 < 2 ^ 20) : ∃ m', am_ca sa sv (d + 5) 204 [.ref N] m = some (.inl (some (.long (spd_ X.s X.q 10))), m') ∧ JT sa m' sv N x ow (B + 1) (X.rem.wS (cS_ X.s) (cQ_ X.s X.q)) s q ∧ Fr (KC N) m m' := by
  obtain ⟨m', f, t, e⟩ := x204 (sa := sa) (sv := sv) (d := d) h.tc h.xg (by have := h.bb; omega)
  have g := h.xg.clo (by have := h.bb; omega)
  exact ⟨m', e, (h.fr hl f t g hB).1, f⟩
theorem JT.pay (h : JT sa m sv N x ow B X s q) : am_ca sa sv (d + 4) 186 [.ref N] m = some (.inl (some (.int (nI (pay_ X.s X.q (cN X.s 0))))), m) := by
  obtain ⟨o, c, ho⟩ := h.cq
  exact x186 c
theorem x300_10 (h : JT sa m sv N x ow B X X.s X.q) (hl : LM X.s X.q) : r300 sa sv (d + 5) 10 [some (.ref N), some (.ref x), some (.int (nI (pay_ X.s X.q (cN X.s 0)))), some (.long 0), none, some (.int (nI 0))] [] m = r300 sa sv (d + 5) 10 [some (.ref N), some (.ref x), some (.int (nI (pay_ X.s X.q (cN X.s 0)))), some (.long (spd_ X.s X.q (cN X.s 0))), none, some (.int (nI (cN X.s 0)))] [] m := by
  obtain ⟨e0, b0⟩ := (wc_np h.wc).c (by decide)
  have hp5 := hl.p
  have hnp : gi_ m x 0 = nI (cN X.s 0) := h.ws.np.trans e0
  have p32 : pay_ X.s X.q (cN X.s 0) < 32 := Nat.lt_of_lt_of_le (pay_lt _) (Nat.pow_le_pow_right (by decide) hp5.2)
  exact lp_up (fun i => r300 sa sv (d + 5) 10 [some (.ref N), some (.ref x), some (.int (nI (pay_ X.s X.q (cN X.s 0)))), some (.long (spd_ X.s X.q i)), none, some (.int (nI i))] [] m) (cN X.s 0) (fun i hi => by
    have eb := (bit32 _ p32 i (by omega)).trans (by rw [pay_bit _ _ _ _ hi])
    have es : spd_ X.s X.q (i + 1) = spd_ X.s X.q i + pd_ X.s X.q i := rfl
    rw [b300_10, gq_pos h.ws.k, hnp, gb_neg (by rw [nI_leE (by omega) (by omega)]; omega), es]
    cases hb : paid_ X.s X.q i with
    | true => rw [gb_pos (eb.mpr hb), gq_pos h.k0, h.bal (d := d + 2) hi, cl_v, pd_t hi hb, nI_add]
    | false => rw [gb_neg (fun z => by have := eb.mp z; rw [hb] at this; exact Bool.noConfusion this), pd_f hb, nI_add])
end J8
