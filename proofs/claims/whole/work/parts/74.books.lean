/-! the reference books an income -/
section R74
variable {s : Nat → Int32} {q : Nat → Int64}
theorem wk_ge (hC : WC s) (hW : WW s) (day : Nat) {v : Nat} (hv : v < cN s 1) (st : (Nat → Nat) × List Ln) {u : Nat} (hu : v ≤ u) : (wk_ s day v st).1 u = st.1 u := by
  have hnw := isN_lt (wc_nw hC) (by decide)
  unfold wk_
  by_cases h : st.1 v = 0
  · rw [if_pos h]
  · rw [if_neg h]
    exact sra_ge s v _ _ u _ fun i hi => by
      have := isN_lt (ww_ow hW v i hv hi) (by omega)
      omega
theorem dv_ge (hC : WC s) (hW : WW s) (day : Nat) : ∀ v st, v ≤ cN s 1 → ∀ u, v ≤ u → (dv_ s day v st).1 u = st.1 u := by
  intro v
  induction v with
  | zero => exact fun _ _ _ _ => rfl
  | succ v ih =>
    intro st hv u hu
    show (dv_ s day v (wk_ s day v st)).1 u = _
    rw [ih _ (by omega) u (by omega), wk_ge hC hW day (by omega) st (by omega)]
theorem dv_le (hC : WC s) (hW : WW s) (hA : WA s) (day b : Nat) : ∀ v st, v ≤ cN s 1 → lsm_ st.2 + sum_ st.1 v ≤ b → (∀ u, v ≤ u → st.1 u ≤ b) → ∀ u, (dv_ s day v st).1 u ≤ b := by
  intro v
  induction v with
  | zero => exact fun st _ _ h u => h u (Nat.zero_le _)
  | succ v ih =>
    intro st hv h1 h2
    have h3 := wk_sum hC hW hA day (show v < cN s 1 by omega) st
    refine ih _ (by omega) (by omega) fun u hu => ?_
    rw [wk_ge hC hW day (by omega) st hu]
    by_cases e : u = v
    · rw [e]; rw [sum_s] at h1; omega
    · exact h2 u (by omega)
theorem dvd_le (hC : WC s) (hW : WW s) (hA : WA s) (day w a : Nat) (hw : w < cN s 1) (u : Nat) : (dvd_ s day w a).1 u ≤ a := by
  unfold dvd_
  refine dv_le hC hW hA day a (w + 1) _ (by omega) ?_ (fun u hu => ?_) u
  · show 0 + sum_ (fun u => if u = w then a else 0) (w + 1) ≤ a
    rw [sum_pt _ _ _ (by omega)]; omega
  · show (if u = w then a else 0) ≤ a
    split <;> omega
theorem dvd_hi (hC : WC s) (hW : WW s) (day w a : Nat) (hw : w < cN s 1) {u : Nat} (hu : cN s 1 ≤ u) : (dvd_ s day w a).1 u = 0 := by
  unfold dvd_
  rw [dv_ge hC hW day (w + 1) _ (by omega) u (by omega)]
  exact if_neg (by omega)
theorem wa_hi (hD : WD s) (w p : Nat) (st : Wst) {u : Nat} (hu : cN s 0 ≤ u) (h10 : cN s 0 ≤ 2 ^ 31) : ∀ n, n ≤ cN s 3 → (wa_ s w p st n).2.1 u = st.2.1 u := by
  intro n
  induction n with
  | zero => exact fun _ => rfl
  | succ n ih =>
    intro hn
    rw [wa_s', ← ih (by omega)]
    generalize wa_ s w p st n = t
    unfold wst_
    cases adm_ s w p n with
    | false => rfl
    | true =>
      have := isN_lt (wd_g hD n (by omega)) h10
      exact if_neg (by omega)
theorem wh_hi (hD : WD s) (l : List Ln) {u : Nat} (hu : cN s 0 ≤ u) (h10 : cN s 0 ≤ 2 ^ 31) : ∀ i, (wh_ s l i).2 u = 0 := by
  intro i
  induction i with
  | zero => rfl
  | succ i ih =>
    rw [wh_]
    cases h : l[i]? with
    | none => exact ih
    | some x => exact (wa_hi hD _ _ _ hu h10 _ (Nat.le_refl _)).trans ih
theorem eg_hi {l : List Ln} (hG : ∀ x ∈ l, GL s x) {p : Nat} (hp : cN s 0 ≤ p) : ∀ i, eg_ l p i = 0 := by
  intro i
  induction i with
  | zero => rfl
  | succ i ih =>
    cases hx : l[i]? with
    | none => rw [eg_, hx, ih]; rfl
    | some x =>
      have := (hG x (List.mem_of_getElem? hx)).2.1
      rw [eg_s hx, ih, if_neg (by omega)]
/-- a number of a line -/
def lnv_ (s : Nat → Int32) (l : List Ln) (j : Nat) : Int32 := match l[j / 4]? with
  | some x => if j % 4 = 0 then nI x.1 else if j % 4 = 1 then nI x.2.1 else if j % 4 = 2 then nI x.2.2.1 else nI (wd_ s l (j / 4))
  | none => 0
/-- the rows behind a booking -/
def bS_ (s : Nat → Int32) (l : List Ln) (k : Nat) : Int32 := if k = 6 then nI l.length else if 767 ≤ k ∧ k < 767 + 4 * l.length then lnv_ s l (k - 767) else if 690 ≤ k ∧ k < 762 ∧ (k - 690) % 6 = 5 then nI ((wh_ s l l.length).1 ((k - 690) / 6)) else s k
def bN_ (s : Nat → Int32) (l : List Ln) (f : Nat → Nat) (k : Nat) : Nat := (if 200 ≤ k ∧ k < 212 then f (k - 200) else 0) + bD2 (fun u => og_ s l u l.length + (wh_ s l l.length).2 u) (fun u => (wh_ s l l.length).2 u) 10 k + bD3 s l l.length k
def bQ_ (s : Nat → Int32) (l : List Ln) (f : Nat → Nat) (q : Nat → Int64) (k : Nat) : Int64 := q k + (nI (bN_ s l f k)).toInt64
theorem LF.v {m : am_M} {a : Nat} {l : List Ln} (h : LF m a l (wd_ s l)) (j : Nat) (hj : j < 4 * l.length) : gi_ m a j = lnv_ s l j := by
  unfold lnv_
  have hx : l[j / 4]? = some l[j / 4] := List.getElem?_eq_getElem (by omega)
  generalize l[j / 4] = x at hx
  rw [hx]
  obtain ⟨k0, k1, k2, k3⟩ := h _ x hx
  show _ = (if j % 4 = 0 then nI x.1 else if j % 4 = 1 then nI x.2.1 else if j % 4 = 2 then nI x.2.2.1 else nI (wd_ s l (j / 4)))
  by_cases c0 : j % 4 = 0
  · rw [if_pos c0, ← k0]; congr 1; omega
  · rw [if_neg c0]
    by_cases c1 : j % 4 = 1
    · rw [if_pos c1, ← k1]; congr 1; omega
    · rw [if_neg c1]
      by_cases c2 : j % 4 = 2
      · rw [if_pos c2, ← k2]; congr 1; omega
      · rw [if_neg c2, ← k3]; congr 1; omega
theorem wh_le (hD : WD s) {l : List Ln} {b : Nat} (h : lsm_ l ≤ b) (u : Nat) : (wh_ s l l.length).2 u ≤ b := by
  have := wh_ret hD l u l.length
  rw [List.take_length] at this
  omega
theorem og_b {l : List Ln} {b : Nat} (h : lsm_ l ≤ b) (p i : Nat) (hi : i ≤ l.length) : og_ s l p i ≤ b := by
  have h1 := eg_b h p i hi
  have h2 := dw_og (s := s) (l := l) p i
  omega
theorem bD2_b {G R : Nat → Nat} {b : Nat} (hG : ∀ u, G u ≤ b) (hR : ∀ u, R u ≤ b) (i k : Nat) : bD2 G R i k ≤ b := by
  unfold bD2
  repeat' split
  all_goals first | exact Nat.zero_le _ | exact hG _ | exact hR _
theorem bN_b (hD : WD s) {l : List Ln} {f : Nat → Nat} (h : lsm_ l ≤ 9999999) (hf : ∀ u, f u ≤ 9999999) (k : Nat) : bN_ s l f k ≤ 4 * 9999999 := by
  have h1 := bD3_b (s := s) h l.length k (Nat.le_refl _)
  have h2 := bD2_b (G := fun u => og_ s l u l.length + (wh_ s l l.length).2 u) (R := fun u => (wh_ s l l.length).2 u) (b := 2 * 9999999) (fun u => by
    have := wh_le hD h u
    have := og_b (s := s) h u l.length (Nat.le_refl _)
    show og_ s l u l.length + (wh_ s l l.length).2 u ≤ _
    omega) (fun u => by have := wh_le hD h u; show (wh_ s l l.length).2 u ≤ _; omega) 10 k
  have h3 := hf (k - 200)
  unfold bN_
  split <;> omega
def RXB (N a k : Nat) : Prop := RX N a k ∨ RB N a k
theorem XS.frXB {m m' : am_M} {N : Nat} (h : XS m N) (hf : Fr (RXB N) m m') : XS m' N := by
  refine h.fr hf (fun x hx => ?_) (fun x hx => ?_)
  · have h2 := of_decide_eq_true (List.all_eq_true.mp (by decide : xr_.all (fun x => decide (x.1 < 243 ∨ (x.1 = 243 ∧ (x.2.1 = 1 ∨ (15 ≤ x.2.1 ∧ x.2.1 ≤ 22) ∨ x.2.1 = 25 ∨ x.2.1 = 26 ∨ (28 ≤ x.2.1 ∧ x.2.1 ≤ 32) ∨ (34 ≤ x.2.1 ∧ x.2.1 ≤ 38) ∨ x.2.1 = 43)))) = true) x hx)
    rintro ((⟨z, z2⟩ | z | z | z) | z | z) <;> omega
  · have h2 := of_decide_eq_true (List.all_eq_true.mp (by decide : xw_.all (fun x => decide (x.1 < 243)) = true) x hx)
    rintro ((⟨z, -⟩ | z | z | z) | z | z) <;> omega
variable {sa sv d N B : Nat} {m : am_M}
theorem y339 (hR : RS m N s q) (hF : WF B s q) (w a : Nat) (hw : w < cN s 1) (ha : a ≤ 9999999) : ∃ m', am_ca sa sv (d + 6) 339 [.ref (N + 243), .int (nI w), .int (nI a)] m = some (.inl (some (.int (nI (dL_ s w a).length))), m') ∧ Fr (RXB N) m m' ∧ RS m' N (bS_ s (dL_ s w a)) (bQ_ s (dL_ s w a) (dvd_ s (cN s 4) w a).1 q) ∧ gi_ m' (N + 243) 0 = gi_ m (N + 243) 0 := by
  have hC := wf_c hF
  have hW := wf_w hF
  have hA := wf_a hF
  have hD := wf_d hF
  obtain ⟨e4, b4⟩ := (wc_day hC).c (by decide)
  obtain ⟨m1, g1, g2, g3, g4, g5⟩ := y328 (sa := sa) (sv := sv) (d := d) hR hC hW hA w a (cN s 4) hw ha (by omega)
  have hR1 := hR.fr (g2.mono fun _ _ h => RLc.x h)
  have hGL := dvd_GL hC hW hA (cN s 4) w a hw ha
  have h64 := dvd_64 hC hW (cN s 4) w a hw
  have hsm := dvd_lsm hC hW hA (cN s 4) w a hw
  have hfb := dvd_le hC hW hA (cN s 4) w a hw
  have hdl : (dvd_ s (cN s 4) w a).2 = dL_ s w a := rfl
  rw [hdl] at g4 g5 hGL h64 hsm
  generalize dL_ s w a = l at *
  generalize (dvd_ s (cN s 4) w a).1 = f at *
  obtain ⟨m2, k1, k2, k3, k4, k5, k6⟩ := y329 (sa := sa) (sv := sv) (d := d + 2) hR1 hC hD h64 hGL (g4.f fun x hx => (hGL x hx).2.2.2.2) g5
  have hR2 := hR1.fr (k2.mono fun _ _ h => RW.x h)
  have hX2 := hR2.1
  have c2 : ∀ u, u < 12 → gi_ m2 (N + 256) u = nI (f u) := fun u hu => (k2.2.1 _ _ (by rintro (z | z | z | z) <;> omega)).trans (g3 u hu)
  have r2 : gi_ m2 (N + 243) 33 = nI l.length := (k2.2.1 _ _ RW.c).trans g5
  obtain ⟨m3, a1, a2, a3, a4⟩ := y339_18 (sa := sa) (sv := sv) (d := d + 5) hX2 (nI w) (nI a) f c2 none none
  have hX3 := hX2.frB a2
  have nb : ∀ {m m' : am_M}, Fr (RB N) m m' → ∀ b k, ¬ b = N + 249 → ¬ b = N + 245 → gi_ m' b k = gi_ m b k := fun h b k h1 h2 => h.2.1 _ _ (by rintro (z | z) <;> omega)
  obtain ⟨m4, b1, b2, b3, b4'⟩ := y339_52 (sa := sa) (sv := sv) (d := d + 5) hX3 (nI w) (nI a) (fun u => og_ s l u l.length + (wh_ s l l.length).2 u) (fun u => (wh_ s l l.length).2 u) (fun u hu => (nb a2 _ _ (by omega) (by omega)).trans (k6 u hu)) (fun u hu => (nb a2 _ _ (by omega) (by omega)).trans (k5 u hu)) none none
  have hX4 := hX3.frB b2
  obtain ⟨m5, p1, p2, p3, p4⟩ := y339_130 (sa := sa) (sv := sv) (d := d + 5) hX4 (nI w) (nI a) (fun a => (wh_ s l l.length).1 a) (fun u hu => (nb b2 _ _ (by omega) (by omega)).trans ((nb a2 _ _ (by omega) (by omega)).trans (k4 u hu))) none none
  have hX5 := hX4.frB p2
  have hF5 := (a2.trans b2).trans p2
  have hL5 : LF m5 (N + 255) l (wd_ s l) := fun i x hx => by
    rw [nb hF5 _ _ (by omega) (by omega), nb hF5 _ _ (by omega) (by omega), nb hF5 _ _ (by omega) (by omega), nb hF5 _ _ (by omega) (by omega)]
    exact k3 i x hx
  have r5 : gi_ m5 (N + 243) 33 = nI l.length := (nb hF5 _ _ (by omega) (by omega)).trans r2
  obtain ⟨m6, o4', o5', q1, q2, q3, q4⟩ := y339_165 (sa := sa) (sv := sv) (d := d + 5) (s := s) hX5 hC (nI w) (nI a) h64 (by omega) hGL hL5 r5 none none
  have hX6 := hX5.frB q2
  have r6 : gi_ m6 (N + 243) 33 = nI l.length := (nb q2 _ _ (by omega) (by omega)).trans r5
  obtain ⟨m7, v1, v2, v3, v4⟩ := y339_308 (sa := sa) (sv := sv) (d := d + 5) hX6 (nI w) (nI a) (l := l) (g := wd_ s l) h64 r6 o4' o5'
  have hF7 := (hF5.trans q2).trans v2
  have hFA : Fr (RXB N) m m7 := ((g2.mono fun _ _ h => Or.inl (RLc.x h)).trans (k2.mono fun _ _ h => Or.inl (RW.x h))).trans (hF7.mono fun _ _ h => Or.inr h)
  refine ⟨m7, ?_, hFA, ⟨hR.1.frXB hFA, ?_, ?_⟩, (nb hF7 _ _ (by omega) (by omega)).trans ((k2.2.1 _ _ RW.c).trans (g2.2.1 _ _ (by rintro (z | z | ⟨z, z2⟩) <;> omega)))⟩
  · rw [c339, b339_0]
    simp (disch := omega) only [gq_true, gb_true, gb_false, true_and, and_true, eq_self, not_false_eq_true, not_true_eq_false, true_or, or_true, false_or, or_false, false_and, and_false, c0_v, ci_v, cl_v, cf_v, pk_mul, nI_add, nI_clamp, nI_lt0, nI_0le, nI_eq0, nI_lt0r, nI_ltE, nI_leE, nI_eqE, nI_m1, in_t, ba0, ba1, Nat.one_ne_zero, Nat.reduceEqDiff, Nat.reduceLeDiff, Nat.add_eq_zero_iff, rk243 hR, rr15 hR, rk245 hR, rr19 hR, rk249 hR, rs hR, rq hR, e4]
    rw [g1, c0_v]
    simp (disch := omega) only [gq_true, gb_true, gb_false, true_and, and_true, eq_self, not_false_eq_true, not_true_eq_false, true_or, or_true, false_or, or_false, false_and, and_false, c0_v, ci_v, cl_v, cf_v, pk_mul, nI_add, nI_clamp, nI_lt0, nI_0le, nI_eq0, nI_lt0r, nI_ltE, nI_leE, nI_eqE, nI_m1, in_t, ba0, ba1, Nat.one_ne_zero, Nat.reduceEqDiff, Nat.reduceLeDiff, Nat.add_eq_zero_iff, rk243 hR1]
    rw [k1, c0_v]
    exact a1.trans (b1.trans (p1.trans (q1.trans v1)))
  · funext k
    rw [v4 k]
    unfold bS_
    by_cases c6 : k = 6
    · rw [if_pos c6, if_pos c6]
    · rw [if_neg c6, if_neg c6]
      by_cases c7 : 767 ≤ k ∧ k < 767 + 4 * l.length
      · rw [if_pos c7, if_pos c7, nb q2 _ _ (by omega) (by omega)]
        exact hL5.v _ (by omega)
      · rw [if_neg c7, if_neg c7, q3, p4 k]
        by_cases c8 : 690 ≤ k ∧ k < 762 ∧ (k - 690) % 6 = 5
        · rw [if_pos c8, if_pos c8]
        · rw [if_neg c8, if_neg c8, b3, a3]; exact rs hR2 k
  · funext k
    have hb := bN_b hD (l := l) (f := f) (by omega) (fun u => by have := hfb u; omega) k
    unfold bN_ at hb
    rw [v3, q4 k, p3, b4' k, a4 k, rq hR2 k, nL_acc _ (by omega), nL_acc _ (by omega)]
    unfold bQ_ bN_
    rw [Nat.add_assoc]
end R74
