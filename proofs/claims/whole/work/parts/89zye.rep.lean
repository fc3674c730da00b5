/-! repeats and lists of commands are read (class) -/
def eK (oo : Nat) : Nat := if oo = 0 then 0 else 6
section Y89
variable {s s' : Nat → Int32} {q : Nat → Int64} {b : Nat → Nat} {n oo W i j p p' k : Nat} {g g' : Nat → Int32}
theorem sFx_c (hi : i ≤ 900) (hne : ¬ Kd b n i = eK oo) (C : List Ins) : sFx s q b n oo W C i = eb (sCm s q b n oo W i) fun x => if x.2.1 = 27 then sFx s q b n (oo + 1) (W + 1) (C ++ [x.2]) x.1 else if Kd b n x.1 = 4 then sFx s q b n oo (W + 1) (C ++ [x.2]) (x.1 + 1) else rr_ b n 1 x.1 := by
  rw [sFx_u hi]
  unfold eK at hne
  by_cases o0 : oo = 0
  · rw [if_pos o0] at hne
    rw [if_neg (by omega), if_neg hne]
  · rw [if_neg o0] at hne
    rw [if_neg (by omega)]
    by_cases k0 : Kd b n i = 0
    · rw [if_pos k0, if_pos (by omega)]
      rw [sCm_t, if_pos (by omega)]
      rfl
    · rw [if_neg k0]
theorem RwL_le {α : Type} {f : Nat → Nat → α → Prop} : ∀ (l : List α) (p p' : Nat), RwL f p p' l → p ≤ p' := by
  intro l
  induction l with
  | nil => intro p p' h; exact Nat.le_of_eq h
  | cons x l ih =>
    intro p p' h
    obtain ⟨r, h1, -, h3⟩ := h
    have := ih r p' h3
    omega
theorem RwL_mo {α : Type} {f f' : Nat → Nat → α → Prop} {lo hi : Nat} (H : ∀ r r' x, lo ≤ r → r < r' → r' ≤ hi → f r r' x → f' r r' x) : ∀ (l : List α) (p p' : Nat), lo ≤ p → p' ≤ hi → RwL f p p' l → RwL f' p p' l := by
  intro l
  induction l with
  | nil => intro p p' _ _ h; exact h
  | cons x l ih =>
    intro p p' h1 h2 h
    obtain ⟨r, r1, r2, r3⟩ := h
    have := RwL_le l r p' r3
    exact ⟨r, r1, H p r x h1 r1 (by omega) r2, ih r p' (by omega) h2 r3⟩
theorem RwO_fr {x : Ins} (h : RwO g p x) (hg : ∀ c, 4 * p ≤ c → c < 4 * (p + 1) → g' c = g c) : RwO g' p x := by
  obtain ⟨h1, h2, h3⟩ := h
  exact ⟨by rw [hg _ (by omega) (by omega)]; exact h1, fun z => by rw [hg _ (by omega) (by omega)]; exact h2 z, fun z => by rw [hg _ (by omega) (by omega)]; exact h3 z⟩
theorem RwI_fr : ∀ (k p p' : Nat) (x : Cm k), (∀ c, 4 * p ≤ c → c < 4 * p' → g' c = g c) → p < p' → RwI g s k p p' x → RwI g' s k p p' x := by
  intro k
  induction k with
  | zero =>
    intro p p' x hg hp h
    obtain ⟨h1, h2, h3⟩ := h
    exact ⟨h1, RwO_fr h2 (fun c z1 z2 => hg c z1 (by omega)), h3⟩
  | succ k ih =>
    intro p p' x hg hp h
    cases x with
    | inl x =>
      obtain ⟨h1, h2, h3⟩ := h
      exact ⟨h1, RwO_fr h2 (fun c z1 z2 => hg c z1 (by omega)), h3⟩
    | inr x =>
      obtain ⟨h1, h2, h3, h4, h5⟩ := h
      refine ⟨by rw [hg _ (by omega) (by omega)]; exact h1, by rw [hg _ (by omega) (by omega)]; exact h2, by rw [hg _ (by omega) (by omega)]; exact h3, h4, ?_⟩
      exact RwL_mo (lo := p + 1) (hi := p') (fun r r' y z1 z2 z3 z4 => ih r r' y (fun c c1 c2 => hg c (by omega) (by omega)) z2 z4) x.2 (p + 1) p' (Nat.le_refl _) (Nat.le_refl _) h5
end Y89
/-- how the class reads a list of commands, k repeats deep at most -/
def RdE (N : Nat) (m : am_M) (z : List Ins → Er ⊕ List Ins) (r : Option am_R) : Prop := ∃ e m', r = some (.inr 1, th_ m') ∧ Fr (PC N 0) m m' ∧ gi_ m' (N + 2) 6 = nI e.1 ∧ gi_ m' (N + 2) 7 = nI e.2.1 ∧ gi_ m' (N + 2) 8 = nI e.2.2 ∧ ∀ C, z C = .inl e
def RdC (k N o T n : Nat) (b : Nat → Nat) (s : Nat → Int32) (q : Nat → Int64) (m : am_M) (i W : Nat) (r : Option am_R) : Prop := RdE N m (fun C => sFx s q b n (2 - k) W C i) r ∨ ∃ m' j W' x, r = some (.inl none, m') ∧ Fr (PC N 0) m m' ∧ CT m' N b n T j ∧ SC m' N o s q W' ∧ i < j ∧ W < W' ∧ W' ≤ 30 ∧ RwI (gi_ m' (N + 12)) s k W W' x ∧ (∀ C, sFx s q b n (2 - k) W C i = if Kd b n j = 4 then sFx s q b n (2 - k) W' (C ++ flI k x) (j + 1) else rr_ b n 1 j) ∧ ∀ c, c < 4 * W → gi_ m' (N + 12) c = gi_ m (N + 12) c
def RdL (k N o T n : Nat) (b : Nat → Nat) (s : Nat → Int32) (q : Nat → Int64) (m : am_M) (i W : Nat) (r : Option am_R) : Prop := RdE N m (fun C => sFx s q b n (2 - k) W C i) r ∨ ∃ m' j W' l, r = some (.inl none, m') ∧ Fr (PC N 0) m m' ∧ CT m' N b n T j ∧ SC m' N o s q W' ∧ i ≤ j ∧ W ≤ W' ∧ W' ≤ 30 ∧ Kd b n j = eK (2 - k) ∧ RwL (RwI (gi_ m' (N + 12)) s k) W W' l ∧ (∀ C, sFx s q b n (2 - k) W C i = sFx s q b n (2 - k) W' (C ++ flL k l) j) ∧ ∀ c, c < 4 * W → gi_ m' (N + 12) c = gi_ m (N + 12) c
section I89
variable {sa sv d N o oo T n B W i j K a k : Nat} {b : Nat → Nat} {m m' : am_M} {s : Nat → Int32} {q : Nat → Int64} {P : Nat → Nat → Prop}
theorem x104_13 (hk : k ≤ 2) (cmd : ∀ (m : am_M) (i W : Nat), CT m N b n T i → SC m N o s q W → W ≤ 30 → ¬ Kd b n i = eK (2 - k) → RdC k N o T n b s q m i W (am_ca sa sv (d + 3) 105 [.ref (N + 13), .int (nI (2 - k))] m)) : ∀ (F : Nat) (m : am_M) (i W c : Nat), T ≤ i + F → CT m N b n T i → SC m N o s q W → W ≤ 30 → c ≤ W → RdL k N o T n b s q m i W (r104 sa sv (d + 3) 13 [some (.ref (N + 13)), some (.int (nI (2 - k))), some (.int (nI (eK (2 - k)))), some (.int (nI c))] [] m) := by
  have he : eK (2 - k) < 10 := by unfold eK; split <;> omega
  intro F
  induction F with
  | zero =>
    intro m i W c hT h hS hW hc
    have hX := h.1
    have hK := Kd_lt b n i
    have z2 : (N + 2 = 0) = False := eq_false (by omega)
    have q142 := x142 (sa := sa) (sv := sv) (d := d + 2) h
    by_cases e : Kd b n i = eK (2 - k)
    · refine Or.inr ⟨m, i, W, [], ?_, Fr.refl _ _, h, hS, Nat.le_refl _, Nat.le_refl _, hW, e, rfl, fun C => by unfold flL; rw [List.map_nil, List.flatten_nil, List.append_nil], fun c _ => rfl⟩
      rw [b104_13]
      simp (disch := omega) only [gq_true, gb_true, gb_false, true_and, and_true, eq_self, not_false_eq_true, not_true_eq_false, true_or, or_true, false_or, or_false, false_and, and_false, c0_v, ci_v, cl_v, cf_v, pk_mul, nI_add, nI_clamp, nI_lt0, nI_0le, nI_eq0, nI_lt0r, nI_ltE, nI_leE, nI_eqE, nI_m1, in_t, ba0, ba1, Nat.one_ne_zero, Nat.reduceEqDiff, Nat.reduceLeDiff, Nat.add_eq_zero_iff, eq_false (show ¬ 30 < c by omega), xk13 hX, xr13_0 hX, xk2 hX, z2, q142, e]
    · have iT : i = T := by have := h.Tn; omega
      have k0 : Kd b n i = 0 := by rw [iT]; exact h.kT
      rcases cmd m i W h hS hW e with ⟨er, m', a1, a2, a3, a4, a5, a6⟩ | ⟨m', j, W', x, a1, a2, a3, a4, a5, a6⟩
      · refine Or.inl ⟨er, m', ?_, a2, a3, a4, a5, a6⟩
        rw [b104_13]
        simp (disch := omega) only [gq_true, gb_true, gb_false, true_and, and_true, eq_self, not_false_eq_true, not_true_eq_false, true_or, or_true, false_or, or_false, false_and, and_false, c0_v, ci_v, cl_v, cf_v, pk_mul, nI_add, nI_clamp, nI_lt0, nI_0le, nI_eq0, nI_lt0r, nI_ltE, nI_leE, nI_eqE, nI_m1, in_t, ba0, ba1, Nat.one_ne_zero, Nat.reduceEqDiff, Nat.reduceLeDiff, Nat.add_eq_zero_iff, eq_false (show ¬ 30 < c by omega), xk13 hX, xr13_0 hX, xk2 hX, z2, q142, eq_false e, a1, c0_x, xg_v]
      · have := a3.Tn
        omega
  | succ F ih =>
    intro m i W c hT h hS hW hc
    have hX := h.1
    have hK := Kd_lt b n i
    have z2 : (N + 2 = 0) = False := eq_false (by omega)
    have q142 := x142 (sa := sa) (sv := sv) (d := d + 2) h
    by_cases e : Kd b n i = eK (2 - k)
    · refine Or.inr ⟨m, i, W, [], ?_, Fr.refl _ _, h, hS, Nat.le_refl _, Nat.le_refl _, hW, e, rfl, fun C => by unfold flL; rw [List.map_nil, List.flatten_nil, List.append_nil], fun c _ => rfl⟩
      rw [b104_13]
      simp (disch := omega) only [gq_true, gb_true, gb_false, true_and, and_true, eq_self, not_false_eq_true, not_true_eq_false, true_or, or_true, false_or, or_false, false_and, and_false, c0_v, ci_v, cl_v, cf_v, pk_mul, nI_add, nI_clamp, nI_lt0, nI_0le, nI_eq0, nI_lt0r, nI_ltE, nI_leE, nI_eqE, nI_m1, in_t, ba0, ba1, Nat.one_ne_zero, Nat.reduceEqDiff, Nat.reduceLeDiff, Nat.add_eq_zero_iff, eq_false (show ¬ 30 < c by omega), xk13 hX, xr13_0 hX, xk2 hX, z2, q142, e]
    · rcases cmd m i W h hS hW e with ⟨er, m', a1, a2, a3, a4, a5, a6⟩ | ⟨m1, j, W1, x, a1, a2, a3, a4, a5, a6, a7, a8, a9, a10⟩
      · refine Or.inl ⟨er, m', ?_, a2, a3, a4, a5, a6⟩
        rw [b104_13]
        simp (disch := omega) only [gq_true, gb_true, gb_false, true_and, and_true, eq_self, not_false_eq_true, not_true_eq_false, true_or, or_true, false_or, or_false, false_and, and_false, c0_v, ci_v, cl_v, cf_v, pk_mul, nI_add, nI_clamp, nI_lt0, nI_0le, nI_eq0, nI_lt0r, nI_ltE, nI_leE, nI_eqE, nI_m1, in_t, ba0, ba1, Nat.one_ne_zero, Nat.reduceEqDiff, Nat.reduceLeDiff, Nat.add_eq_zero_iff, eq_false (show ¬ 30 < c by omega), xk13 hX, xr13_0 hX, xk2 hX, z2, q142, eq_false e, a1, c0_x, xg_v]
      · have hX1 := a3.1
        have q144 := x144 (sa := sa) (sv := sv) (d := d + 1) a3 4 (by omega) (by omega)
        by_cases k4 : Kd b n j = 4
        · have hj := a3.lt (by omega)
          have st : sTake b n 4 j = .inr (j + 1, ()) := by unfold sTake; rw [if_pos k4]
          rw [st] at q144
          have q144' : am_ca sa sv (d + 3) 144 [.ref (N + 2), .int (nI 4)] m1 = some (.inl none, stp m1 N (j + 1)) := q144
          have t2 : CT (stp m1 N (j + 1)) N b n T (j + 1) := a3.set (by omega)
          have S2 := a4.stp (j + 1)
          have f2 : Fr (PC N 0) m1 (stp m1 N (j + 1)) := (Fr.refl (PC N 0) m1).si (Or.inl ⟨rfl, by omega, by omega⟩)
          have run : ∀ r, r104 sa sv (d + 3) 13 [some (.ref (N + 13)), some (.int (nI (2 - k))), some (.int (nI (eK (2 - k)))), some (.int (nI (c + 1)))] [] (stp m1 N (j + 1)) = r → r104 sa sv (d + 3) 13 [some (.ref (N + 13)), some (.int (nI (2 - k))), some (.int (nI (eK (2 - k)))), some (.int (nI c))] [] m = r := fun r hr => by
            rw [b104_13]
            simp (disch := omega) only [gq_true, gb_true, gb_false, true_and, and_true, eq_self, not_false_eq_true, not_true_eq_false, true_or, or_true, false_or, or_false, false_and, and_false, c0_v, ci_v, cl_v, cf_v, pk_mul, nI_add, nI_clamp, nI_lt0, nI_0le, nI_eq0, nI_lt0r, nI_ltE, nI_leE, nI_eqE, nI_m1, in_t, ba0, ba1, Nat.one_ne_zero, Nat.reduceEqDiff, Nat.reduceLeDiff, Nat.add_eq_zero_iff, eq_false (show ¬ 30 < c by omega), xk13 hX, xr13_0 hX, xk2 hX, z2, q142, eq_false e, a1, xk13 hX1, xr13_0 hX1, xk2 hX1, q144']
            exact hr
          rcases ih (stp m1 N (j + 1)) (j + 1) W1 (c + 1) (by omega) t2 S2 a7 (by omega) with ⟨er, m', c1, c2, c3, c4, c5, c6⟩ | ⟨m', j', W', l, c1, c2, c3, c4, c5, c6, c7, c8, c9, c10, c11⟩
          · refine Or.inl ⟨er, m', run _ c1, (a2.trans f2).trans c2, c3, c4, c5, fun C => ?_⟩
            show sFx s q b n (2 - k) W C i = _
            rw [a9, if_pos k4]
            exact c6 _
          · refine Or.inr ⟨m', j', W', x :: l, run _ c1, (a2.trans f2).trans c2, c3, c4, by omega, by omega, c7, c8, ⟨W1, a6, ?_, c9⟩, fun C => ?_, fun c' hc' => ?_⟩
            · exact RwI_fr k W W1 x (fun c' z1 z2 => (c11 c' (by omega)).trans (if_neg (by omega))) a6 a8
            · rw [a9, if_pos k4, c10, List.append_assoc]
              rfl
            · exact (c11 c' (by omega)).trans ((if_neg (by omega)).trans (a10 c' hc'))
        · have st : sTake b n 4 j = rr_ b n 1 j := by unfold sTake; rw [if_neg k4]
          rw [st] at q144
          obtain ⟨m2, b1, b2, b3, b4, b5⟩ := q144
          refine Or.inl ⟨(1, St b n j, 0), m2, ?_, a2.trans (b2.mono fun a k z => Or.inl z), b3, b4, b5, fun C => ?_⟩
          · rw [b104_13]
            simp (disch := omega) only [gq_true, gb_true, gb_false, true_and, and_true, eq_self, not_false_eq_true, not_true_eq_false, true_or, or_true, false_or, or_false, false_and, and_false, c0_v, ci_v, cl_v, cf_v, pk_mul, nI_add, nI_clamp, nI_lt0, nI_0le, nI_eq0, nI_lt0r, nI_ltE, nI_leE, nI_eqE, nI_m1, in_t, ba0, ba1, Nat.one_ne_zero, Nat.reduceEqDiff, Nat.reduceLeDiff, Nat.add_eq_zero_iff, eq_false (show ¬ 30 < c by omega), xk13 hX, xr13_0 hX, xk2 hX, z2, q142, eq_false e, a1, xk13 hX1, xr13_0 hX1, xk2 hX1, b1, c0_x, xg_v]
          · show sFx s q b n (2 - k) W C i = _
            rw [a9, if_neg k4]
            rfl
end I89
