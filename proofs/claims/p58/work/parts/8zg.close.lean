/-! the World closes a period: all payees -/
section W8
variable {sa sv d x its : Nat} {m : am_M} {ow : Nat → Nat} {s : Nat → Int32} {q : Nat → Int64}
theorem x291_75 {i : Nat} (h : WS m sv x ow s (cwi s q i)) (hi : i < 10) (hs : sv < gt_ m) (hg : ge_ m = true) (ki : gk_ m its = (12, 11)) (il : its < gt_ m) (h0 : 0 < gt_ m) (l2 : Int64) (o5 o6 : Option Value) : ∃ v0 v1 v2 v4, r291 sa sv d 75 [some (.ref x), some (.ref its), some (.long l2), none, some (.int (nI i)), o5, o6] [(.long (pd_ s q i))] m = r291 sa sv d 24 [some (.ref x), some (.ref its), some (.long (l2 + pd_ s q i)), none, some (.int (nI (i + 1))), some (.long (pd_ s q i)), none] [] (clmem m x its i (pd_ s q i) (q i - pd_ s q i) (q (10 + 4 * i + 3) + pd_ s q i) v0 v1 v2 v4) := by
  have t1 := h.tot.2.2 i hi
  obtain ⟨f10, d10⟩ := h.cu
  have c1 := d10.2.2 i hi
  have hxl := h.x.2.1
  have h10l := d10.2.1.2.1
  have h7l := h.ba.2.1.2.1
  have hcl := c1.2.1.2.1
  have kB : ∀ a, a < gt_ m → gk_ (al_ m (4, 5) 5) a = gk_ m a := fun a ha => gk_alo _ _ _ ha
  have rB : ∀ a, a < gt_ m → gr_ (al_ m (4, 5) 5) a = gr_ m a := fun a ha => gr_alo _ _ _ ha
  have kn : gk_ (al_ m (4, 5) 5) (gt_ m) = (4, 5) := gk_al m (4, 5) 5
  have gB : gt_ (al_ m (4, 5) 5) = gt_ m + 1 := rfl
  have eB : ge_ (al_ m (4, 5) 5) = true := hg
  have nxi : ¬ x = its := fun z => by
    have := h.k
    rw [z, ki] at this
    exact absurd (congrArg (fun q => q.1) this) (by show ¬ 12 = 1; decide)
  have rS : gr_ (sr_ (al_ m (4, 5) 5) its i (gt_ m)) x 10 = gr_ m x 10 := by rw [gr_sr, if_neg (fun z => nxi z.1), rB _ hxl]
  have kC : gk_ (al_ (al_ m (4, 5) 5) (4, 3) 3) (gr_ m x 10) = (12, 10) := by rw [gk_alo _ _ _ (by rw [gB]; omega), kB _ h10l, d10.1]
  have z7 : ¬ gr_ m x 7 = 0 := h.ba.2.1.2.2
  have z9 : ¬ gr_ m x 9 = 0 := h.tot.2.1.2.2
  have z10 : ¬ gr_ m x 10 = 0 := d10.2.1.2.2
  have v7 : gl_ m (gr_ m x 7) i = q i := (h.ba.2.2 i hi).trans (cwi_b hi)
  have v9 : gl_ (sl_ m (gr_ m x 7) i (q i - pd_ s q i)) (gr_ m (gr_ m x 9) i) 3 = q (10 + 4 * i + 3) := by
    have n : ¬ gr_ m (gr_ m x 9) i = gr_ m x 7 := fun z => by
      have y1 := t1.2.1.1
      have y2 := h.ba.2.1.1
      rw [z] at y1
      omega
    show (if gr_ m (gr_ m x 9) i = gr_ m x 7 ∧ 3 = i then _ else gl_ m (gr_ m (gr_ m x 9) i) 3) = _
    rw [if_neg (fun z => n z.1), t1.2.2 3 (by omega)]
    exact cwi_t
  apply Exists.intro
  apply Exists.intro
  apply Exists.intro
  apply Exists.intro
  rw [b291_75, gq_pos ⟨h.k, z7⟩, h.ba.1, nI_clamp (show i < 2 ^ 31 by omega), nI_clamp (show 0 < 2 ^ 31 by omega), nI_clamp (show 1 < 2 ^ 31 by omega), nI_clamp (show 2 < 2 ^ 31 by omega), nI_clamp (show 3 < 2 ^ 31 by omega), nI_clamp (show 4 < 2 ^ 31 by omega), nI_clamp (show 5 < 2 ^ 31 by omega), v7, v9, gq_pos ⟨rfl, in_of hi (by omega)⟩, gq_pos ⟨rfl, in_of hi (by omega)⟩, gq_pos ⟨h.k, z9⟩, h.tot.1, gq_pos ⟨.inr (.inr (.inr rfl)), in_of hi (by omega), t1.2.1.2.2⟩, t1.1, gq_pos ⟨rfl, in_of (show 3 < 4 by omega) (by omega)⟩, gq_pos ⟨rfl, in_of (show 3 < 4 by omega) (by omega)⟩, gq_pos ⟨by decide, by decide, hg⟩, kB _ hxl, rS, rB _ hxl, rB _ h10l, kB _ h10l, kB _ hcl, kB _ h7l, kB _ il, kn, d10.1, c1.1, h.ba.1, ki, kC, gq_pos ⟨h.k, z10⟩, gq_pos ⟨.inr (.inr (.inr rfl)), in_of hi (by omega), c1.2.1.2.2⟩, gq_pos ⟨rfl, in_of (show 0 < 3 by omega) (by omega)⟩, gq_pos ⟨rfl, in_of (show 0 < 5 by omega) (by omega)⟩, gq_pos ⟨h.k, z10⟩, gq_pos ⟨.inr (.inr (.inr rfl)), in_of hi (by omega), c1.2.1.2.2⟩, gq_pos ⟨rfl, in_of (show 1 < 3 by omega) (by omega)⟩, gq_pos ⟨rfl, in_of (show 1 < 5 by omega) (by omega)⟩, gq_pos ⟨h.k, z10⟩, gq_pos ⟨.inr (.inr (.inr rfl)), in_of hi (by omega), c1.2.1.2.2⟩, gq_pos ⟨rfl, in_of (show 2 < 3 by omega) (by omega)⟩, gq_pos ⟨rfl, in_of (show 2 < 5 by omega) (by omega)⟩, gq_pos ⟨rfl, in_of (show 3 < 5 by omega) (by omega)⟩, gq_pos ⟨h.k, z7⟩, gq_pos ⟨rfl, in_of hi (by omega)⟩, gq_pos ⟨rfl, in_of (show 4 < 5 by omega) (by omega)⟩, gq_pos ⟨in_of (show i < 11 by omega) (by omega), ⟨by omega, .inr (.inr (.inr ⟨rfl, by show (gk_ (al_ m (4, 5) 5) (gt_ m)).1 = 4; rw [kn]⟩))⟩⟩, gq_pos ⟨h.k, z10⟩, gq_pos ⟨by decide, by decide, eB⟩, gq_pos ⟨in_of hi (by omega), ⟨by rw [gB]; omega, .inr (.inr (.inr ⟨rfl, congrArg (fun q => q.1) (gk_al (al_ m (4, 5) 5) (4, 3) 3)⟩))⟩⟩, nI_add]
  exact rfl
theorem x291_24 {g : Nat} (hC : WC s) (hW : WW s) (hG : GLm s) (hna : cN s 2 ≤ 16) (hnd : cN s 3 ≤ 12) (hs : sv < g) (h0 : 0 < g) (il : its < g) (oi : 300 ≤ ow its) (hks : 300 ≤ ow sv) (on : ∀ p, p < 10 → ow (g + 2 * p + 1) = 30 + p) : ∀ (k i : Nat) (M : am_M) (o5 o6 : Option Value), i + k = cN s 0 → WS M sv x ow s (cwi s q i) → gt_ M = g + 2 * i → gk_ M its = (12, 11) → gk_ M sv = (0, 0) → ge_ M = true → ∃ M2 o5' o6', r291 sa sv d 24 [some (.ref x), some (.ref its), some (.long (spd_ s q i)), none, some (.int (nI i)), o5, o6] [] M = r291 sa sv d 24 [some (.ref x), some (.ref its), some (.long (spd_ s q (cN s 0))), none, some (.int (nI (cN s 0))), o5', o6'] [] M2 ∧ WS M2 sv x ow s (cwi s q (cN s 0)) ∧ Ex (fun y => y = its ∨ CLT (ow y)) (2 * k) (8 * k) M M2 := by
  have hnp := (wc_np hC).c (by decide)
  intro k
  induction k with
  | zero =>
    intro i M o5 o6 hi h hg ki ks he
    have hi' : i = cN s 0 := by omega
    subst hi'
    exact ⟨M, o5, o6, rfl, h, Ex.refl _ _⟩
  | succ k ih =>
    intro i M o5 o6 hi h hg ki ks he
    have hi10 : i < 10 := by omega
    obtain ⟨v0, v1, v2, v4, e2⟩ := x291_75 (sa := sa) (d := d) h hi10 (by omega) he ki (by omega) (by omega) (spd_ s q i) o5 o6
    obtain ⟨W2, x2, g2⟩ := h.cl1 hC hW hG hna hnd hi10 (by omega) ks ki oi (by rw [hg]; exact on i hi10) (by omega) v0 v1 v2 v4
    generalize clmem M x its i (pd_ s q i) (q i - pd_ s q i) (q (10 + 4 * i + 3) + pd_ s q i) v0 v1 v2 v4 = M1 at e2 W2 x2 g2
    obtain ⟨M2, o5', o6', e3, W3, x3⟩ := ih (i + 1) M1 (some (.long (pd_ s q i))) none (by omega) W2 (by omega) ((x2.k (by omega)).trans ki) ((x2.k (by omega)).trans ks) ((x2.ge).trans he)
    refine ⟨M2, o5', o6', ?_, W3, (x2.trans x3 (fun _ _ z => z)).mono (fun _ _ z => z) (by omega) (by omega)⟩
    have hsp : spd_ s q (i + 1) = spd_ s q i + pd_ s q i := rfl
    rw [hsp] at e3
    have v7 : gl_ M (gr_ M x 7) i = q i := (h.ba.2.2 i hi10).trans (cwi_b hi10)
    have v6 : gi_ M (gr_ M x 6) i = s (8 + i) := h.le.2.2 i hi10
    have z7 : ¬ gr_ M x 7 = 0 := h.ba.2.1.2.2
    have z6 : ¬ gr_ M x 6 = 0 := h.le.2.1.2.2
    have hin : i < cN s 0 := by omega
    rw [b291_24, gq_pos h.k, h.np, hnp.1, gb_neg (by rw [nI_leI (by omega) (by omega)]; omega), gq_pos ⟨h.k, z7⟩, h.ba.1, gq_pos ⟨rfl, in_of hi10 (by omega)⟩, nI_clamp (show i < 2 ^ 31 by omega), v7]
    by_cases q1 : q i ≤ 0
    · have hpd : pd_ s q i = 0 := by
        unfold pd_ paid_
        refine if_neg (fun z => ?_)
        exact absurd (of_decide_eq_true z.2).1 (lg_le_not_lt q1)
      rw [gb_pos (by rw [lgc_le]; exact q1)]
      rw [hpd] at e2
      rw [hpd] at e3
      exact e2.trans e3
    · have q1' : 0 < q i := by
        rcases lg_tri (q i) 0 with y | y | y
        · exact absurd (Int64.le_of_lt y) q1
        · exact absurd (by rw [y]; exact Int64.le_refl _) q1
        · exact y
      rw [gb_neg (by rw [lgc_le]; exact q1), gq_pos ⟨h.k, z7⟩, gq_pos ⟨rfl, in_of hi10 (by omega)⟩, gq_pos ⟨h.k, z6⟩, h.le.1, gq_pos ⟨.inl rfl, in_of hi10 (by omega)⟩, v6]
      by_cases q2 : q i < (s (8 + i)).toInt64
      · have hpd : pd_ s q i = 0 := by
          unfold pd_ paid_
          refine if_neg (fun z => ?_)
          exact absurd (of_decide_eq_true z.2).2 (lg_lt_not_le q2)
        rw [gb_pos (by rw [lgc_lt]; exact q2)]
        rw [hpd] at e2
        rw [hpd] at e3
        exact e2.trans e3
      · have q2' : (s (8 + i)).toInt64 ≤ q i := by
          rcases lg_tri (q i) (s (8 + i)).toInt64 with y | y | y
          · exact absurd y q2
          · rw [y]; exact Int64.le_refl _
          · exact Int64.le_of_lt y
        have hpd : pd_ s q i = q i := by
          unfold pd_ paid_
          exact if_pos ⟨hin, decide_eq_true ⟨q1', q2'⟩⟩
        rw [gb_neg (by rw [lgc_lt]; exact q2), gq_pos ⟨h.k, z7⟩, gq_pos ⟨rfl, in_of hi10 (by omega)⟩]
        have e4 := e2.trans e3
        conv at e4 =>
          lhs
          rw [hpd]
        exact e4
end W8
