/-! the class lets the advances withhold -/
def DQ (N : Nat) (a k : Nat) : Prop := a = N + 19 ∨ a = N + 20 ∨ DC N a k
theorem XS.frQ {m m' : am_M} {N : Nat} (h : XS m N) (hf : Fr (DQ N) m m') : XS m' N := by
  refine h.fr hf (fun x hx => ?_) (fun x hx => ?_)
  · have h2 := of_decide_eq_true (List.all_eq_true.mp (by decide : xr_.all (fun x => decide (¬ (x.1 = 19 ∨ x.1 = 20 ∨ x.1 = 18 ∨ x.1 = 22 ∨ (x.1 = 21 ∧ x.2.1 = 2)))) = true) x hx)
    rintro (z | z | z | z | ⟨z, z2⟩)
    · exact h2 (Or.inl (by omega))
    · exact h2 (Or.inr (Or.inl (by omega)))
    · exact h2 (Or.inr (Or.inr (Or.inl (by omega))))
    · exact h2 (Or.inr (Or.inr (Or.inr (Or.inl (by omega)))))
    · exact h2 (Or.inr (Or.inr (Or.inr (Or.inr ⟨by omega, z2⟩))))
  · have h2 := of_decide_eq_true (List.all_eq_true.mp (by decide : xw_.all (fun x => decide (¬ (x.1 = 19 ∨ x.1 = 20 ∨ x.1 = 18 ∨ x.1 = 22))) = true) x hx)
    rintro (z | z | z | z | ⟨z, z2⟩)
    · exact h2 (Or.inl (by omega))
    · exact h2 (Or.inr (Or.inl (by omega)))
    · exact h2 (Or.inr (Or.inr (Or.inl (by omega))))
    · exact h2 (Or.inr (Or.inr (Or.inr (by omega))))
    · cases z2
theorem PD.frQ {m m' : am_M} {N o : Nat} {s : Nat → Int32} {q : Nat → Int64} {day : Nat} (h : PD m N o s q day) (hf : Fr (DQ N) m m') : PD m' N o s q day := by
  obtain ⟨h1, h2, h3, h4, h5, h6, h7, h8, h9, h10⟩ := h
  have np : ∀ a k, o ≤ a → a < o + 27 → ¬ DQ N a k := by
    rintro a k ha _ (z | z | z | z | ⟨z, -⟩) <;> omega
  have gi : ∀ j k, (j = 15 ∨ j = 16 ∨ j = 17) → gi_ m' (N + j) k = gi_ m (N + j) k := fun j k hj => hf.2.1 _ _ (by rintro (z | z | z | z | ⟨z, -⟩) <;> omega)
  have gr : ∀ k, gr_ m' (N + 14) k = gr_ m (N + 14) k := fun k => hf.2.2.2.1 _ _ (by rintro (z | z | z | z | ⟨z, -⟩) <;> omega)
  exact ⟨h1.frQ hf, h2.fr' hf np, h3.fr hf np, h4, (gr 7).trans h5, (gr 8).trans h6, (gr 9).trans h7, fun u hu => (gi 15 u (by omega)).trans (h8 u hu), fun u p hu hp => (gi 16 _ (by omega)).trans (h9 u p hu hp), fun p hp => (gi 17 p (by omega)).trans (h10 p hp)⟩
def DW (N : Nat) (a k : Nat) : Prop := a = N + 19 ∨ a = N + 20 ∨ a = N + 22
theorem DW.q {N a k : Nat} (h : DW N a k) : DQ N a k := by
  rcases h with h | h | h
  · exact Or.inl h
  · exact Or.inr (Or.inl h)
  · exact Or.inr (Or.inr (Or.inr (Or.inl h)))
theorem min_if {a b : Nat} (ha : a < 2 ^ 31) (hb : b < 2 ^ 31) : (if nI a < nI b then nI a else nI b) = nI (min b a) := by
  by_cases h : a < b
  · rw [if_pos (nI_lt h hb), Nat.min_eq_right (by omega)]
  · rw [if_neg (fun z => h ((nI_ltI ha hb).mp z)), Nat.min_eq_left (by omega)]
theorem min_ifN {a b : Nat} : (if a < b then nI a else nI b) = nI (min b a) := by
  by_cases h : a < b
  · rw [if_pos h, Nat.min_eq_right (by omega)]
  · rw [if_neg h, Nat.min_eq_left (by omega)]
section R63
variable {sa sv d N o : Nat} {m : am_M} {s : Nat → Int32} {q : Nat → Int64}
theorem xln (hX : XS m N) (i c : Nat) (hi : i < 64) (hc : c < 4) : am_ca sa sv (d + 1) 127 [.ref (N + 21), .int (nI i), .int (nI c)] m = some (.inl (some (.int (gi_ m (N + 22) (i * 4 + c)))), m) := tb_at (xt21 hX) (by omega) i c (by omega)
theorem x40 {day : Nat} (hP : PD m N o s q day) (hC : WC s) (hD : WD s) {l : List Ln} {g op rt : Nat → Nat} (hl : l.length ≤ 64) (i : Nat) (x : Ln) (hx : l[i]? = some x) (hG : GL s x) (hL : LF m (N + 22) l g) (hop : ∀ a, a < 12 → gi_ m (N + 19) a = nI (op a)) (hob : ∀ a, a < 12 → op a < 2 ^ 30) (hrt : ∀ p, p < 10 → gi_ m (N + 20) p = nI (rt p)) :
    ∃ m', am_ca sa sv (d + 2) 40 [.ref (N + 14), .int (nI i), .int (nI (msk_ (fun a => decide (cN s (690 + 6 * a + 1) = x.2.1)) (cN s 3)))] m = some (.inl none, m') ∧ Fr (DW N) m m' ∧ LF m' (N + 22) l (fun j => if j = i then x.2.2.1 - (wa_ s x.1 x.2.1 (op, rt, x.2.2.1) (cN s 3)).2.2 else g j) ∧ (∀ a, a < 12 → gi_ m' (N + 19) a = nI ((wa_ s x.1 x.2.1 (op, rt, x.2.2.1) (cN s 3)).1 a)) ∧ (∀ p, p < 10 → gi_ m' (N + 20) p = nI ((wa_ s x.1 x.2.1 (op, rt, x.2.2.1) (cN s 3)).2.1 p)) := by
  obtain ⟨w, p, amt, x4⟩ := x
  obtain ⟨hw, hp, ha0, ha, hx4⟩ := hG
  have hw : w < cN s 1 := hw
  have hp : p < cN s 0 := hp
  have ha : amt ≤ 9999999 := ha
  have hnw := isN_lt (wc_nw hC) (by decide)
  have hnp := isN_lt (wc_np hC) (by decide)
  have hnd := isN_lt (wc_nd hC) (by decide)
  have hil : i < l.length := (List.getElem?_eq_some_iff.mp hx).1
  have hXm := msk_lt (fun a => decide (cN s (690 + 6 * a + 1) = p)) (cN s 3)
  have hX16 : msk_ (fun a => decide (cN s (690 + 6 * a + 1) = p)) (cN s 3) < 2 ^ 16 := Nat.lt_of_lt_of_le hXm (Nat.pow_le_pow_right (by decide) (by omega))
  show ∃ m', am_ca sa sv (d + 2) 40 [.ref (N + 14), .int (nI i), .int (nI (msk_ (fun a => decide (cN s (690 + 6 * a + 1) = p)) (cN s 3)))] m = some (.inl none, m') ∧ Fr (DW N) m m' ∧ LF m' (N + 22) l (fun j => if j = i then amt - (wa_ s w p (op, rt, amt) (cN s 3)).2.2 else g j) ∧ (∀ a, a < 12 → gi_ m' (N + 19) a = nI ((wa_ s w p (op, rt, amt) (cN s 3)).1 a)) ∧ (∀ u, u < 10 → gi_ m' (N + 20) u = nI ((wa_ s w p (op, rt, amt) (cN s 3)).2.1 u))
  generalize hXe : msk_ (fun a => decide (cN s (690 + 6 * a + 1) = p)) (cN s 3) = X at *
  generalize hst : wa_ s w p (op, rt, amt) = st
  have hleft : ∀ n, (st n).2.2 ≤ amt := fun n => by rw [← hst]; exact wa_left _ _ _ _ n
  have hopn : ∀ n b, (st n).1 b ≤ op b := fun n b => by rw [← hst]; exact wa_open w p _ b n
  have hstep : ∀ n, st (n + 1) = wst_ s w p n (st n) := fun n => by rw [← hst]; rfl
  have h00 : st 0 = (op, rt, amt) := by rw [← hst]; rfl
  have fin : ∀ n m1 (o5 o6 o7 : Option Value), Fr (DW N) m m1 → LF m1 (N + 22) l g → (∀ a, a < 12 → gi_ m1 (N + 19) a = nI ((st (cN s 3)).1 a)) → (∀ p, p < 10 → gi_ m1 (N + 20) p = nI ((st (cN s 3)).2.1 p)) → ∃ m', r40 sa sv (d + 1) 155 [some (.ref (N + 14)), some (.int (nI i)), some (.int (nI X)), some (.int (nI (st (cN s 3)).2.2)), some (.int (nI n)), o5, o6, o7] [] m1 = some (.inl none, m') ∧ Fr (DW N) m m' ∧ LF m' (N + 22) l (fun j => if j = i then amt - (st (cN s 3)).2.2 else g j) ∧ (∀ a, a < 12 → gi_ m' (N + 19) a = nI ((st (cN s 3)).1 a)) ∧ (∀ p, p < 10 → gi_ m' (N + 20) p = nI ((st (cN s 3)).2.1 p)) := by
    intro n m1 o5 o6 o7 hF1 hL1 ho1 hr1
    have hX1 := (hP.frQ (hF1.mono fun _ _ h => DW.q h)).1
    obtain ⟨l0, l1, l2, l3⟩ := hL1 i _ hx
    have hle := hleft (cN s 3)
    refine ⟨si_ m1 (N + 22) (i * 4 + 3) (nI (amt - (st (cN s 3)).2.2)), ?_, hF1.si (Or.inr (Or.inr rfl)), ?_, fun a ha => by rw [gi_si, if_neg (by omega)]; exact ho1 a ha, fun p hp => by rw [gi_si, if_neg (by omega)]; exact hr1 p hp⟩
    · rw [b40_155]
      simp (disch := omega) only [gq_true, gb_true, gb_false, true_and, and_true, eq_self, not_false_eq_true, not_true_eq_false, true_or, or_true, false_or, or_false, false_and, and_false, c0_v, ci_v, cl_v, cf_v, pk_mul, nI_add, nI_clamp, nI_lt0, nI_0le, nI_eq0, nI_lt0r, nI_ltE, nI_leE, nI_eqE, nI_m1, in_t, ba0, ba1, Nat.one_ne_zero, Nat.reduceEqDiff, Nat.reduceLeDiff, Nat.add_eq_zero_iff, xk14 hX1, xr14_6 hX1, xk21 hX1, xln hX1 i 2 (by omega) (by omega), l2, x128 (xt21 hX1) (by omega) i 3 _ (show i * 4 + 3 < 256 by omega)]
      rw [pk_sub hle]
    · intro j y hy
      obtain ⟨k0, k1, k2, k3⟩ := hL1 j y hy
      refine ⟨by rw [gi_si, if_neg (by omega)]; exact k0, by rw [gi_si, if_neg (by omega)]; exact k1, by rw [gi_si, if_neg (by omega)]; exact k2, ?_⟩
      rw [gi_si]
      show _ = nI (if j = i then amt - (st (cN s 3)).2.2 else g j)
      by_cases e : j = i
      · rw [if_pos ⟨rfl, by omega⟩, if_pos e]
      · rw [if_neg (by omega), if_neg e]; exact k3
  have step : ∀ j n m1 (o5 o6 o7 : Option Value), n + j = 12 → Fr (DW N) m m1 → LF m1 (N + 22) l g → (∀ a, a < 12 → gi_ m1 (N + 19) a = nI ((st (min n (cN s 3))).1 a)) → (∀ p, p < 10 → gi_ m1 (N + 20) p = nI ((st (min n (cN s 3))).2.1 p)) → ∃ m', r40 sa sv (d + 1) 13 [some (.ref (N + 14)), some (.int (nI i)), some (.int (nI X)), some (.int (nI (st (min n (cN s 3))).2.2)), some (.int (nI n)), o5, o6, o7] [] m1 = some (.inl none, m') ∧ Fr (DW N) m m' ∧ LF m' (N + 22) l (fun j => if j = i then amt - (st (cN s 3)).2.2 else g j) ∧ (∀ a, a < 12 → gi_ m' (N + 19) a = nI ((st (cN s 3)).1 a)) ∧ (∀ p, p < 10 → gi_ m' (N + 20) p = nI ((st (cN s 3)).2.1 p)) := by
    intro j
    induction j with
    | zero =>
      intro n m1 o5 o6 o7 hn hF1 hL1 ho1 hr1
      rw [show min n (cN s 3) = cN s 3 by omega] at ho1 hr1 ⊢
      obtain ⟨m', g1, g2⟩ := fin n m1 o5 o6 o7 hF1 hL1 ho1 hr1
      refine ⟨m', ?_, g2⟩
      rw [b40_13, gb_pos (by rw [nI_leE (by omega) (by omega)]; omega)]
      exact g1
    | succ j ih =>
      intro n m1 o5 o6 o7 hn hF1 hL1 ho1 hr1
      have hP1 := hP.frQ (hF1.mono fun _ _ h => DW.q h)
      obtain ⟨hX1, hO1, hV1, hNo, hg7, hg8, hg9, hs1, hs2, hs3⟩ := hP1
      obtain ⟨l0, l1, l2, l3⟩ := hL1 i _ hx
      have l0 : gi_ m1 (N + 22) (i * 4) = nI w := l0
      have hg9' : ¬ gr_ m1 (N + 14) 9 = 0 := by rw [hg9]; omega
      by_cases hz : X / 2 ^ n = 0
      · have hf : ∀ a, min n (cN s 3) ≤ a → a < cN s 3 → adm_ s w p a = false := by
          intro a h1 h2
          have h3 := msk_tb (fun a => decide (cN s (690 + 6 * a + 1) = p)) a (cN s 3)
          rw [decide_eq_true h2, Bool.true_and, hXe] at h3
          unfold adm_
          rw [← h3, Nat.testBit_lt_two_pow (Nat.lt_of_lt_of_le ((Nat.div_eq_zero_iff_lt (Nat.two_pow_pos n)).mp hz) (Nat.pow_le_pow_right (by decide) (by omega)))]
          rfl
        have t1 := wa_tail s w p (op, rt, amt) (Nat.min_le_right n (cN s 3)) hf
        rw [hst] at t1
        rw [← t1] at ho1 hr1 ⊢
        obtain ⟨m', g1, g2⟩ := fin n m1 o5 o6 o7 hF1 hL1 ho1 hr1
        refine ⟨m', ?_, g2⟩
        rw [b40_13, gb_neg (by rw [nI_leE (by omega) (by omega)]; omega), nI_shr (by omega) (by omega), gb_pos (by rw [hz]; exact nI_0)]
        exact g1
      · have hzn : ¬ nI (X / 2 ^ n) = 0 := by
          have := Nat.div_le_self X (2 ^ n)
          rw [nI_eq0 (by omega)]; exact hz
        have hb := msk_tb (fun a => decide (cN s (690 + 6 * a + 1) = p)) n (cN s 3)
        rw [hXe] at hb
        -- to the test of the bit
        have hgo : ∀ c : Bool, c = decide (s (690 + 6 * n + 4) = -1 ∨ s (690 + 6 * n + 4) = nI w) → ∃ m', r40 sa sv (d + 1) 71 [some (.ref (N + 14)), some (.int (nI i)), some (.int (nI X)), some (.int (nI (st (min n (cN s 3))).2.2)), some (.int (nI n)), some (.int (s (690 + 6 * n + 4))), o6, o7] [.int (nI (bif c then 1 else 0))] m1 = some (.inl none, m') ∧ Fr (DW N) m m' ∧ LF m' (N + 22) l (fun j => if j = i then amt - (st (cN s 3)).2.2 else g j) ∧ (∀ a, a < 12 → gi_ m' (N + 19) a = nI ((st (cN s 3)).1 a)) ∧ (∀ p, p < 10 → gi_ m' (N + 20) p = nI ((st (cN s 3)).2.1 p)) := by
          intro c hc
          have hskip : ((X.testBit n && c) = false) → ∃ m', r40 sa sv (d + 1) 13 [some (.ref (N + 14)), some (.int (nI i)), some (.int (nI X)), some (.int (nI (st (min n (cN s 3))).2.2)), some (.int (nI (n + 1))), some (.int (s (690 + 6 * n + 4))), some (.int (nI (bif c then 1 else 0))), o7] [] m1 = some (.inl none, m') ∧ Fr (DW N) m m' ∧ LF m' (N + 22) l (fun j => if j = i then amt - (st (cN s 3)).2.2 else g j) ∧ (∀ a, a < 12 → gi_ m' (N + 19) a = nI ((st (cN s 3)).1 a)) ∧ (∀ p, p < 10 → gi_ m' (N + 20) p = nI ((st (cN s 3)).2.1 p)) := by
            intro hsk
            have he : st (min (n + 1) (cN s 3)) = st (min n (cN s 3)) := by
              by_cases hlt : n < cN s 3
              · rw [show min (n + 1) (cN s 3) = n + 1 by omega, show min n (cN s 3) = n by omega, hstep]
                rw [hb, decide_eq_true hlt, Bool.true_and] at hsk
                unfold wst_ adm_
                rw [← hc, hsk]; rfl
              · rw [show min (n + 1) (cN s 3) = min n (cN s 3) by omega]
            have := ih (n + 1) m1 (some (.int (s (690 + 6 * n + 4)))) (some (.int (nI (bif c then 1 else 0)))) o7 (by omega) hF1 hL1 (by rw [he]; exact ho1) (by rw [he]; exact hr1)
            rw [he] at this
            exact this
          rw [b40_71, nI_tb (by omega) (by omega)]
          cases hbit : X.testBit n with
          | false =>
            rw [cond_false, gb_pos nI_0]
            simp (disch := omega) only [gq_true, gb_true, gb_false, true_and, and_true, eq_self, not_false_eq_true, not_true_eq_false, true_or, or_true, false_or, or_false, false_and, and_false, c0_v, ci_v, cl_v, cf_v, pk_mul, nI_add, nI_clamp, nI_lt0, nI_0le, nI_eq0, nI_lt0r, nI_ltE, nI_leE, nI_eqE, nI_m1, in_t, ba0, ba1, Nat.one_ne_zero, Nat.reduceEqDiff, Nat.reduceLeDiff, Nat.add_eq_zero_iff]
            exact hskip (by rw [hbit]; rfl)
          | true =>
            rw [cond_true, gb_neg (by decide)]
            cases c with
            | false =>
              rw [cond_false, gb_pos nI_0]
              simp (disch := omega) only [gq_true, gb_true, gb_false, true_and, and_true, eq_self, not_false_eq_true, not_true_eq_false, true_or, or_true, false_or, or_false, false_and, and_false, c0_v, ci_v, cl_v, cf_v, pk_mul, nI_add, nI_clamp, nI_lt0, nI_0le, nI_eq0, nI_lt0r, nI_ltE, nI_leE, nI_eqE, nI_m1, in_t, ba0, ba1, Nat.one_ne_zero, Nat.reduceEqDiff, Nat.reduceLeDiff, Nat.add_eq_zero_iff]
              exact hskip (by rw [Bool.and_false])
            | true =>
              rw [cond_true, gb_neg (by decide)]
              have hlt : n < cN s 3 := by
                rw [hbit] at hb
                by_cases z : n < cN s 3
                · exact z
                · rw [decide_eq_false z] at hb; cases hb
              have had : adm_ s w p n = true := by
                rw [hbit, decide_eq_true hlt, Bool.true_and] at hb
                unfold adm_
                rw [← hb, ← hc]; rfl
              rw [show min n (cN s 3) = n by omega] at ho1 hr1 ⊢
              obtain ⟨e1, b1⟩ := (wd_c hD n hlt).1.c (by decide)
              obtain ⟨e2, b2⟩ := (wd_g hD n hlt).c (by omega)
              have hle := hleft n
              have hmul : (st n).2.2 * cN s (690 + 6 * n + 3) ≤ 9999999 * 100 := Nat.mul_le_mul (by omega) (by omega)
              have hon := Nat.lt_of_le_of_lt (hopn n n) (hob n (by omega))
              have hkl := kp_left (show cN s (690 + 6 * n + 3) ≤ 100 by omega) (st n)
              have hke : min ((st n).2.2 * cN s (690 + 6 * n + 3) / 100) ((st n).1 n) = kp_ s n (st n) := rfl
              have hko : kp_ s n (st n) ≤ (st n).1 n := Nat.min_le_right _ _
              have hwe : st (n + 1) = ((fun b => if b = n then (st n).1 n - kp_ s n (st n) else (st n).1 b), (fun u => if u = cN s (690 + 6 * n + 0) then (st n).2.1 u + kp_ s n (st n) else (st n).2.1 u), (st n).2.2 - kp_ s n (st n)) := by rw [hstep]; unfold wst_; rw [had]; rfl
              have hF2 : Fr (DW N) m (si_ m1 (N + 19) n (nI ((st n).1 n) - nI (kp_ s n (st n)))) := hF1.si (Or.inl rfl)
              obtain ⟨hX2, hO2, hV2, -, hg72, hg82, hg92, -, -, -⟩ := hP.frQ (hF2.mono fun _ _ h => DW.q h)
              have hF3 : Fr (DW N) m (si_ (si_ m1 (N + 19) n (nI ((st n).1 n) - nI (kp_ s n (st n)))) (N + 20) (cN s (690 + 6 * n + 0)) (gi_ (si_ m1 (N + 19) n (nI ((st n).1 n) - nI (kp_ s n (st n)))) (N + 20) (cN s (690 + 6 * n + 0)) + nI (kp_ s n (st n)))) := hF2.si (Or.inr (Or.inl rfl))
              have := ih (n + 1) _ (some (.int (s (690 + 6 * n + 4)))) (some (.int (nI 1))) (some (.int (nI (kp_ s n (st n))))) (by omega) hF3 (fun j y hy => by
                obtain ⟨k0, k1, k2, k3⟩ := hL1 j y hy
                simp (disch := omega) only [gi_si, if_neg]
                exact ⟨k0, k1, k2, k3⟩) (fun a ha12 => by
                rw [show min (n + 1) (cN s 3) = n + 1 by omega, hwe, gi_si, if_neg (by omega), gi_si]
                show _ = nI (if a = n then (st n).1 n - kp_ s n (st n) else (st n).1 a)
                by_cases e : a = n
                · rw [if_pos ⟨rfl, e⟩, if_pos e, pk_sub hko]
                · rw [if_neg (fun z => e z.2), if_neg e]; exact ho1 a ha12) (fun u hu => by
                rw [show min (n + 1) (cN s 3) = n + 1 by omega, hwe, gi_si]
                show _ = nI (if u = cN s (690 + 6 * n + 0) then (st n).2.1 u + kp_ s n (st n) else (st n).2.1 u)
                by_cases e : u = cN s (690 + 6 * n + 0)
                · rw [if_pos ⟨rfl, e⟩, if_pos e, gi_si, if_neg (by omega), ← e, hr1 u hu, nI_add]
                · rw [if_neg (fun z => e z.2), if_neg e, gi_si, if_neg (by omega)]; exact hr1 u hu)
              rw [show min (n + 1) (cN s 3) = n + 1 by omega, hwe] at this
              simp (disch := omega) only [gq_true, gb_true, gb_false, true_and, and_true, eq_self, not_false_eq_true, not_true_eq_false, true_or, or_true, false_or, or_false, false_and, and_false, c0_v, ci_v, cl_v, cf_v, pk_mul, nI_add, nI_clamp, nI_lt0, nI_0le, nI_eq0, nI_lt0r, nI_ltE, nI_leE, nI_eqE, nI_m1, in_t, ba0, ba1, Nat.one_ne_zero, Nat.reduceEqDiff, Nat.reduceLeDiff, Nat.add_eq_zero_iff, xk14 hX1, eq_false hg9']
              simp (disch := omega) only [gq_true, gb_true, gb_false, true_and, and_true, eq_self, not_false_eq_true, not_true_eq_false, true_or, or_true, false_or, or_false, false_and, and_false, c0_v, ci_v, cl_v, cf_v, pk_mul, nI_add, nI_clamp, nI_lt0, nI_0le, nI_eq0, nI_lt0r, nI_ltE, nI_leE, nI_eqE, nI_m1, in_t, ba0, ba1, Nat.one_ne_zero, Nat.reduceEqDiff, Nat.reduceLeDiff, Nat.add_eq_zero_iff, hg9, ok15 hO1, xad hO1 hV1 n 3 (by omega) (by omega), e1, x219, pct_nI (show (st n).2.2 * cN s (690 + 6 * n + 3) < 2 ^ 31 by omega), xk14 hX1, xr14_4 hX1, xk19 hX1, ho1 n (by omega), min_ifN, xr14_5 hX1, eq_false hg9']
              rw [hke]
              simp (disch := omega) only [gq_true, gb_true, gb_false, true_and, and_true, eq_self, not_false_eq_true, not_true_eq_false, true_or, or_true, false_or, or_false, false_and, and_false, c0_v, ci_v, cl_v, cf_v, pk_mul, nI_add, nI_clamp, nI_lt0, nI_0le, nI_eq0, nI_lt0r, nI_ltE, nI_leE, nI_eqE, nI_m1, in_t, ba0, ba1, Nat.one_ne_zero, Nat.reduceEqDiff, Nat.reduceLeDiff, Nat.add_eq_zero_iff, hg9, ok15 hO1, xad hO2 hV2 n 0 (by omega) (by omega), e2, x34 (N + 20) 10 (cN s (690 + 6 * n + 0)) (nI (kp_ s n (st n))) (xk20 hX2) (by omega) (by omega)]
              rw [pk_sub hkl]
              exact this
        rw [b40_13, gb_neg (by rw [nI_leE (by omega) (by omega)]; omega), nI_shr (by omega) (by omega), gb_neg hzn]
        simp (disch := omega) only [gq_true, gb_true, gb_false, true_and, and_true, eq_self, not_false_eq_true, not_true_eq_false, true_or, or_true, false_or, or_false, false_and, and_false, c0_v, ci_v, cl_v, cf_v, pk_mul, nI_add, nI_clamp, nI_lt0, nI_0le, nI_eq0, nI_lt0r, nI_ltE, nI_leE, nI_eqE, nI_m1, in_t, ba0, ba1, Nat.one_ne_zero, Nat.reduceEqDiff, Nat.reduceLeDiff, Nat.add_eq_zero_iff, xk14 hX1, eq_false hg9']
        simp (disch := omega) only [gq_true, gb_true, gb_false, true_and, and_true, eq_self, not_false_eq_true, not_true_eq_false, true_or, or_true, false_or, or_false, false_and, and_false, c0_v, ci_v, cl_v, cf_v, pk_mul, nI_add, nI_clamp, nI_lt0, nI_0le, nI_eq0, nI_lt0r, nI_ltE, nI_leE, nI_eqE, nI_m1, in_t, ba0, ba1, Nat.one_ne_zero, Nat.reduceEqDiff, Nat.reduceLeDiff, Nat.add_eq_zero_iff, hg9, ok15 hO1, xad hO1 hV1 n 4 (by omega) (by omega), xk14 hX1, xr14_6 hX1, xk21 hX1, xln hX1 i 0 (by omega) (by omega), Nat.add_zero, l0]
        by_cases c1 : s (690 + 6 * n + 4) = -1
        · rw [gb_pos c1]
          exact hgo true (decide_eq_true (Or.inl c1)).symm
        · rw [gb_neg c1]
          by_cases c2 : s (690 + 6 * n + 4) = nI w
          · rw [gb_pos c2]
            exact hgo true (decide_eq_true (Or.inr c2)).symm
          · rw [gb_neg c2]
            exact hgo false (decide_eq_false (by rintro (z | z); exact c1 z; exact c2 z)).symm
  have hX0 := hP.1
  obtain ⟨l0, l1, l2, l3⟩ := hL i _ hx
  have l2 : gi_ m (N + 22) (i * 4 + 2) = nI amt := l2
  have h0 := step 12 0 m none none none (Nat.zero_add _) (Fr.refl _ _) hL (by rw [Nat.zero_min, h00]; exact hop) (by rw [Nat.zero_min, h00]; exact hrt)
  rw [Nat.zero_min, h00] at h0
  rw [c40, b40_0]
  simp (disch := omega) only [gq_true, gb_true, gb_false, true_and, and_true, eq_self, not_false_eq_true, not_true_eq_false, true_or, or_true, false_or, or_false, false_and, and_false, c0_v, ci_v, cl_v, cf_v, pk_mul, nI_add, nI_clamp, nI_lt0, nI_0le, nI_eq0, nI_lt0r, nI_ltE, nI_leE, nI_eqE, nI_m1, in_t, ba0, ba1, Nat.one_ne_zero, Nat.reduceEqDiff, Nat.reduceLeDiff, Nat.add_eq_zero_iff, xk14 hX0, xr14_6 hX0, xk21 hX0, xln hX0 i 2 (by omega) (by omega), l2]
  exact h0
end R63
