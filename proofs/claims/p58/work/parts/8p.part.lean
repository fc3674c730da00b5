/-! the lines of a part -/
section W8
variable {sa sv d x a b nw : Nat} {m M : am_M} {F : Nat → Nat} {ls : List Ln} {ow : Nat → Nat} {s : Nat → Int32} {q : Nat → Int64}
theorem AL.le {n z n' z' : Nat} (h : AL m M sv a b nw F ls n z) (hn : n ≤ n') (hz : z ≤ z') : AL m M sv a b nw F ls n' z' := ⟨h.1.mono (fun _ _ y => y) hn hz, h.2⟩
/-- the iterator alone moves -/
theorem AL.it {n z it : Nat} {M2 : am_M} (h : AL m M sv a b nw F ls n z) (f : Fr (fun b _ => b = it) M M2) (hit : gt_ m ≤ it) (hk : gk_ M it = (1, 16)) (hsv : sv < gt_ m) : AL m M2 sv a b nw F ls n z :=
  h.keep (n' := 0) (z' := 0) (Ex.of (P := fun y => y = it) f (fun _ _ y => y)) (fun y _ e => by
    rw [e, hk]
    exact ⟨hit, by show ¬ 1 = 2; decide, by show ¬ 1 = 10; decide, by decide⟩) hsv
theorem asg_le (s : Nat → Int32) (w p part day : Nat) : ∀ n, (asg_ s w p part day n).length ≤ n := by
  intro n
  induction n with
  | zero => exact Nat.le_refl _
  | succ n ih =>
    rw [asg_, List.length_append]
    split
    · show _ + 1 ≤ _
      omega
    · show _ + 0 ≤ _
      omega
theorem x289_a (h : WS m sv x ow s q) (hA : WA s) (hC : WC s) (hsv : sv < gt_ m) (h0 : 0 < gt_ m) {w p J N2 part day r : Nat} (hr : r < gt_ m) (kr : gk_ m r = (2, N2)) (hJ : J < N2) (hN : N2 < 2 ^ 20) (vr : gi_ m r J = nI p) (hp : p < 2 ^ 20) (hw : w < 2 ^ 20) (hday : day < 2 ^ 20) (hpart : part ≤ 9999999) (l1 l2 l7 l9 : Int32) : ∀ (k i n z it : Nat) (M : am_M) (o14 : Option Value), i + k = cN s 2 → gt_ m ≤ it → IT M it (gr_ m x 4) i → AL m M sv a b nw F (ls ++ asg_ s w p part day i) n z → ls.length + cN s 2 + 1 < 100 → ∃ M2 o14' it', r289 sa sv (d + 6) 224 [some (.ref x), some (.int l1), some (.int l2), some (.int (nI day)), some (.ref a), some (.ref b), some (.int (nI w)), some (.int l7), some (.ref r), some (.int l9), some (.int (nI J)), some (.int (nI part)), some (.int (nI (part - asu_ s w p part day i))), some (.ref it), o14] [] M = r289 sa sv (d + 6) 171 [some (.ref x), some (.int l1), some (.int l2), some (.int (nI day)), some (.ref a), some (.ref b), some (.int (nI w)), some (.int l7), some (.ref r), some (.int l9), some (.int (nI (J + 2))), some (.int (nI part)), some (.int (nI (part - asu_ s w p part day (cN s 2)))), it', o14'] [] M2 ∧ AL m M2 sv a b nw F (ls ++ pl_ s w p part day) (n + 2 * (k + 1)) (z + 164 * (k + 1)) := by
  obtain ⟨L, ⟨⟨c, hc⟩, a1, a0⟩, a2, a3⟩ := h.as
  have no : ∀ y, ¬ NoP y := fun _ y => y
  have hz' : 0 < gr_ m x 4 := Nat.pos_of_ne_zero a1.2.2
  have hn := ((wc_na hC).c (by decide)).2
  have hlt := a1.2.1
  intro k
  induction k with
  | zero =>
    intro i n z it M o14 hk hit hI hAL hl
    have hi : i = L.length := by omega
    have e := hAL.1
    rw [hi] at hI
    obtain ⟨e1, k1⟩ := it_end (sa := sa) (d := d + 5) hc hz' hsv e hI
    have hi2 : i = cN s 2 := by omega
    subst hi2
    have hle := asg_le s w p part day (cN s 2)
    by_cases q0 : 0 < part - asu_ s w p part day (cN s 2)
    · have kr' : gk_ (al_ M (2, 4) 4) r = (2, N2) := by
        rw [gk_alo _ _ _ (by have := e.gt; omega), e.k hr, kr]
      have vr' : gi_ (si_ (al_ M (2, 4) 4) (gt_ M) 0 (nI w)) r J = nI p := by
        have := e.gt
        rw [gi_si, if_neg (by omega), gi_alo _ _ _ (by omega), e.i hr (no _), vr]
      obtain ⟨M2, e2, A2, _⟩ := hAL.add (sa := sa) (d := d) (k := w) (p := p) (c := part - asu_ s w p part day (cN s 2)) (by rw [List.length_append]; omega) hsv h0
      have ka : gk_ (al_ M (2, 4) 4) a = (1, 15) := by
        obtain ⟨_, _, ⟨Ls, ⟨c', hc'⟩, _⟩, _⟩ := hAL
        rw [gk_alo _ _ _ hc'.2.2.2.2.2.2.2.2.1, hc'.1]
      have kn : gk_ (al_ M (2, 4) 4) (gt_ M) = (2, 4) := gk_al M (2, 4) 4
      have hge : ge_ M = true := by
        obtain ⟨_, _, ⟨Ls, ⟨c', hc'⟩, _⟩, _⟩ := hAL
        exact hc'.2.2.2.2.2.2.2.2.2.2
      refine ⟨M2, o14, some (.ref it), ?_, ?_⟩
      · rw [b289_224, gq_pos k1, e1, ci_v, gb_pos nI_0, gb_neg (by rw [nI_le0 (by omega)]; omega), nI_clamp (show 4 < 2 ^ 31 by omega), gq_pos ⟨by decide, by decide, hge⟩, kn, nI_clamp (show 0 < 2 ^ 31 by omega), nI_clamp (show 1 < 2 ^ 31 by omega), nI_clamp (show 2 < 2 ^ 31 by omega), nI_clamp (show 3 < 2 ^ 31 by omega), nI_clamp (show J < 2 ^ 31 by omega), gq_pos ⟨rfl, in_of (show 0 < 4 by omega) (by omega)⟩, kr', gq_pos ⟨.inl rfl, in_of hJ (by omega)⟩, gq_pos ⟨rfl, in_of (show 1 < 4 by omega) (by omega)⟩, gq_pos ⟨rfl, in_of (show 2 < 4 by omega) (by omega)⟩, gq_pos ⟨rfl, in_of (show 3 < 4 by omega) (by omega)⟩, gq_pos ka, vr', e2, ci_v, nI_add]
      · unfold pl_
        rw [if_pos q0, ← List.append_assoc]
        exact A2.le (by omega) (by omega)
    · refine ⟨M, o14, some (.ref it), ?_, ?_⟩
      · rw [b289_224, gq_pos k1, e1, ci_v, gb_pos nI_0, gb_pos (by rw [nI_le0 (by omega)]; omega), nI_add]
      · unfold pl_
        rw [if_neg q0, List.append_nil]
        exact hAL.le (by omega) (by omega)
  | succ k ih =>
    intro i n z it M o14 hk hit hI hAL hl
    have hi : i < L.length := by omega
    have e := hAL.1
    obtain ⟨e1, k1, M2, e2, I2, f2, fr⟩ := it_go2 (sa := sa) (d := d + 4) hc hz' hsv e hI hit hi
    have A2 := hAL.it fr hit hI.1 hsv
    obtain ⟨b1, b2, b3⟩ := a3 i hi
    have kr2 : gk_ M2 (L.getD i 0) = (2, 6) := (f2.k b2.2.1).trans b1
    have vc : ∀ c, c < 6 → gi_ M2 (L.getD i 0) c = nI (cN s (594 + 6 * i + c)) ∧ cN s (594 + 6 * i + c) < 10000 := fun c hc' => by
      rw [f2.i b2.2.1 (no _), b3 c hc']
      exact wa_n hA hC (by omega) hc'
    have ix : ∀ c, c < 6 → ((2 = 2 ∨ 2 = 7) ∧ in_ (nI c) 6) ∧ (nI c).toNatClampNeg = c := fun c hc' => ⟨⟨.inl rfl, in_of hc' (by omega)⟩, nI_clamp (by omega)⟩
    have kr' : gk_ M2 r = (2, N2) := (f2.k hr).trans kr
    have vr' : gi_ M2 r J = nI p := by rw [f2.i hr (no _), vr]
    obtain ⟨v0, w0⟩ := vc 0 (by omega)
    obtain ⟨v1, w1⟩ := vc 1 (by omega)
    obtain ⟨v2, w2⟩ := vc 2 (by omega)
    obtain ⟨v3, w3⟩ := vc 3 (by omega)
    obtain ⟨v4, w4⟩ := vc 4 (by omega)
    obtain ⟨v5, w5⟩ := vc 5 (by omega)
    have hw3 : cN s (594 + 6 * i + 3) ≤ 100 := by
      have := ((wa_c hA i (by omega)).c (by omega)).2
      omega
    have skip : asm_ s w p day i = false → asg_ s w p part day (i + 1) = asg_ s w p part day i ∧ asu_ s w p part day (i + 1) = asu_ s w p part day i := fun y => by
      refine ⟨?_, ?_⟩
      · rw [asg_, if_neg (fun y2 => by rw [y] at y2; exact absurd y2.1 (by decide)), List.append_nil]
      · unfold asu_
        rw [sum_s, y]
        rfl
    have hnot : asm_ s w p day i = false → ∃ M3 o14' it', r289 sa sv (d + 6) 224 [some (.ref x), some (.int l1), some (.int l2), some (.int (nI day)), some (.ref a), some (.ref b), some (.int (nI w)), some (.int l7), some (.ref r), some (.int l9), some (.int (nI J)), some (.int (nI part)), some (.int (nI (part - asu_ s w p part day i))), some (.ref it), some (.ref (L.getD i 0))] [] M2 = r289 sa sv (d + 6) 171 [some (.ref x), some (.int l1), some (.int l2), some (.int (nI day)), some (.ref a), some (.ref b), some (.int (nI w)), some (.int l7), some (.ref r), some (.int l9), some (.int (nI (J + 2))), some (.int (nI part)), some (.int (nI (part - asu_ s w p part day (cN s 2)))), it', o14'] [] M3 ∧ AL m M3 sv a b nw F (ls ++ pl_ s w p part day) (n + 2 * (k + 1 + 1)) (z + 164 * (k + 1 + 1)) := fun y => by
      obtain ⟨y1, y2⟩ := skip y
      obtain ⟨M3, o, t', e3, A3⟩ := ih (i + 1) n z it M2 (some (.ref (L.getD i 0))) (by omega) hit I2 (by rw [y1]; exact A2) hl
      rw [y2] at e3
      exact ⟨M3, o, t', e3, A3.le (by omega) (by omega)⟩
    rw [b289_224, gq_pos k1, e1, ci_v, gb_neg (by decide), gq_pos k1, e2, cr_v, kr2, gq_pos ⟨rfl, fun y => absurd y (by decide)⟩, gq_pos (ix 0 (by omega)).1, kr', gq_pos ⟨.inl rfl, in_of hJ (by omega)⟩, (ix 0 (by omega)).2, nI_clamp (show J < 2 ^ 31 by omega), v0, vr']
    by_cases q0 : cN s (594 + 6 * i + 0) = p
    · rw [gb_pos (by rw [q0]), gq_pos (ix 1 (by omega)).1, (ix 1 (by omega)).2, v1]
      by_cases q1 : cN s (594 + 6 * i + 1) = w
      · rw [gb_pos (by rw [q1]), gq_pos (ix 4 (by omega)).1, (ix 4 (by omega)).2, v4]
        by_cases q4 : day < cN s (594 + 6 * i + 4)
        · rw [gb_pos ((nI_ltI (by omega) (by omega)).mpr q4)]
          refine hnot ?_
          unfold asm_ isf_
          rw [decide_eq_false (p := _ ∧ day < _) (by omega), Bool.and_false]
        · rw [gb_neg (by rw [nI_ltI (by omega) (by omega)]; exact q4), gq_pos (ix 5 (by omega)).1, (ix 5 (by omega)).2, v5]
          by_cases q5 : day < cN s (594 + 6 * i + 5)
          · rw [gb_pos ((nI_ltI (by omega) (by omega)).mpr q5)]
            have hasm : asm_ s w p day i = true := by
              unfold asm_ isf_
              rw [decide_eq_true ⟨q0, q1⟩, decide_eq_true ⟨by omega, q5⟩]
              rfl
            have hm : part * cN s (594 + 6 * i + 3) < 2 ^ 31 := by
              have : part * cN s (594 + 6 * i + 3) ≤ 9999999 * 100 := Nat.mul_le_mul hpart hw3
              omega
            have hsu : asu_ s w p part day (i + 1) = asu_ s w p part day i + part * cN s (594 + 6 * i + 3) / 100 := by
              unfold asu_
              rw [sum_s, hasm]
              rfl
            have hle := asu_le hA w p part day (n := i + 1) (by omega)
            rw [gq_pos (ix 3 (by omega)).1, gq_pos (by decide), gq_pos (ix 3 (by omega)).1, gq_pos (by decide), (ix 3 (by omega)).2, v3, pk_mul, pk_div hm (by decide) (by decide), nI_sub (show part * cN s (594 + 6 * i + 3) / 100 ≤ part - asu_ s w p part day i by omega), show part - asu_ s w p part day i - part * cN s (594 + 6 * i + 3) / 100 = part - asu_ s w p part day (i + 1) by omega]
            by_cases qv : part * cN s (594 + 6 * i + 3) / 100 = 0
            · have hag : asg_ s w p part day (i + 1) = asg_ s w p part day i := by
                rw [asg_, if_neg (by omega), List.append_nil]
              obtain ⟨M3, o, t', e3, A3⟩ := ih (i + 1) n z it M2 (some (.ref (L.getD i 0))) (by omega) hit I2 (by rw [hag]; exact A2) hl
              refine ⟨M3, o, t', ?_, A3.le (by omega) (by omega)⟩
              rw [gb_pos (by rw [nI_le0 (by omega)]; exact qv)]
              exact e3
            · have hag : asg_ s w p part day (i + 1) = asg_ s w p part day i ++ [(w, cN s (594 + 6 * i + 2), part * cN s (594 + 6 * i + 3) / 100, 0)] := by
                rw [asg_, if_pos ⟨hasm, by omega⟩]
              have hgl := asg_le s w p part day i
              obtain ⟨M3, e3, A3, x3⟩ := A2.add (sa := sa) (d := d) (k := w) (p := cN s (594 + 6 * i + 2)) (c := part * cN s (594 + 6 * i + 3) / 100) (by rw [List.length_append]; omega) hsv h0
              have g2 := f2.gt
              have hlr : L.getD i 0 < gt_ M2 := by
                have := b2.2.1
                omega
              have ka : gk_ (al_ M2 (2, 4) 4) a = (1, 15) ∧ gk_ M2 a = (1, 15) := by
                obtain ⟨_, _, ⟨Ls, ⟨c', hc'⟩, _⟩, _⟩ := A2
                rw [gk_alo _ _ _ hc'.2.2.2.2.2.2.2.2.1, hc'.1]
                exact ⟨rfl, rfl⟩
              have kn : gk_ (al_ M2 (2, 4) 4) (gt_ M2) = (2, 4) := gk_al M2 (2, 4) 4
              have hge : ge_ M2 = true := by
                obtain ⟨_, _, ⟨Ls, ⟨c', hc'⟩, _⟩, _⟩ := A2
                exact hc'.2.2.2.2.2.2.2.2.2.2
              have kv : gk_ (al_ M2 (2, 4) 4) (L.getD i 0) = (2, 6) := by rw [gk_alo _ _ _ hlr, kr2]
              have va : ∀ v, gi_ (si_ (al_ M2 (2, 4) 4) (gt_ M2) 0 v) (L.getD i 0) 2 = nI (cN s (594 + 6 * i + 2)) := fun v => by rw [gi_si, if_neg (by omega), gi_alo _ _ _ hlr, v2]
              have vb : ∀ v v', gi_ (si_ (si_ (al_ M2 (2, 4) 4) (gt_ M2) 0 v) (gt_ M2) 1 v') (L.getD i 0) 3 = nI (cN s (594 + 6 * i + 3)) := fun v v' => by rw [gi_si, if_neg (by omega), gi_si, if_neg (by omega), gi_alo _ _ _ hlr, v3]
              obtain ⟨j1, j2, j3, j4, j5⟩ := I2
              have nia : ¬ it = a := fun y => by
                rw [y, ka.2] at j1
                exact absurd (congrArg (fun q => q.2) j1) (by show ¬ 15 = 16; decide)
              have pit : ¬ (it = a ∨ (gk_ M2 it).1 = 10 ∧ gt_ m ≤ it) := fun y => by
                rcases y with y | y
                · exact nia y
                · rw [j1] at y
                  exact absurd y.1 (by show ¬ 1 = 10; decide)
              have gal : gr_ m x 4 < gt_ M2 ∧ ¬ (gr_ m x 4 = a ∨ (gk_ M2 (gr_ m x 4)).1 = 10 ∧ gt_ m ≤ gr_ m x 4) := by
                have := A2.2.1
                refine ⟨by omega, fun y => ?_⟩
                rcases y with y | y <;> omega
              have I3 : IT M3 it (gr_ m x 4) (i + 1) := ⟨(x3.k j5).trans j1, by rw [x3.r j5 pit]; exact j2, by rw [x3.i j5 pit]; exact j3, by rw [x3.i j5 pit, x3.i gal.1 gal.2]; exact j4, Nat.lt_of_lt_of_le j5 x3.gt⟩
              obtain ⟨M4, o, t', e4, A4⟩ := ih (i + 1) (n + 2) (z + 164) it M3 (some (.ref (L.getD i 0))) (by omega) hit I3 (by rw [hag, ← List.append_assoc]; exact A3) hl
              refine ⟨M4, o, t', ?_, A4.le (by omega) (by omega)⟩
              rw [gb_neg (by rw [nI_le0 (by omega)]; exact qv), gq_pos ⟨by decide, by decide, hge⟩, kn, nI_clamp (show 2 < 2 ^ 31 by omega), gq_pos ⟨rfl, in_of (show 0 < 4 by omega) (by omega)⟩, kv, gq_pos (ix 2 (by omega)).1, gq_pos ⟨rfl, in_of (show 1 < 4 by omega) (by omega)⟩, gq_pos (ix 3 (by omega)).1, gq_pos (by decide), gq_pos ⟨rfl, in_of (show 2 < 4 by omega) (by omega)⟩, gq_pos ⟨rfl, in_of (show 3 < 4 by omega) (by omega)⟩, gq_pos ka.1, vb, va, pk_mul, pk_div hm (by decide) (by decide), e3, ci_v]
              exact e4
          · rw [gb_neg (by rw [nI_ltI (by omega) (by omega)]; exact q5)]
            refine hnot ?_
            unfold asm_ isf_
            rw [decide_eq_false (p := _ ∧ day < _) (by omega), Bool.and_false]
      · rw [gb_neg (by rw [nI_eqE (by omega) (by omega)]; exact q1)]
        refine hnot ?_
        unfold asm_
        rw [decide_eq_false (fun y => q1 y.2), Bool.false_and]
    · rw [gb_neg (by rw [nI_eqE (by omega) (by omega)]; exact q0)]
      refine hnot ?_
      unfold asm_
      rw [decide_eq_false (fun y => q0 y.1), Bool.false_and]
end W8
