/-! the World closes a period: one payee -/
/-- balances and totals when i payees are done -/
def cwi (s : Nat → Int32) (q : Nat → Int64) (i k : Nat) : Int64 := if k < 10 then (if k < i then q k - pd_ s q k else q k) else if (k - 10) % 4 = 3 ∧ (k - 10) / 4 < i then q k + pd_ s q ((k - 10) / 4) else q k
/-- tags that a closing changes -/
def CLT (t : Nat) : Prop := t = 10 ∨ t = 13 ∨ 20 ≤ t ∧ t < 30
section W8
variable {sa sv d x its : Nat} {m : am_M} {ow : Nat → Nat} {s : Nat → Int32} {q : Nat → Int64}
theorem cwi_s {i : Nat} (hi : i < 10) : upq (upq (cwi s q i) i (q i - pd_ s q i)) (10 + 4 * i + 3) (q (10 + 4 * i + 3) + pd_ s q i) = cwi s q (i + 1) := by
  funext k
  show (if k = 10 + 4 * i + 3 then q (10 + 4 * i + 3) + pd_ s q i else if k = i then q i - pd_ s q i else cwi s q i k) = cwi s q (i + 1) k
  unfold cwi
  by_cases e1 : k = 10 + 4 * i + 3
  · rw [if_pos e1, if_neg (by omega), if_pos (by omega), e1, show (10 + 4 * i + 3 - 10) / 4 = i by omega]
  · rw [if_neg e1]
    by_cases e2 : k = i
    · rw [if_pos e2, if_pos (by omega), if_pos (by omega), e2]
    · rw [if_neg e2]
      by_cases e3 : k < 10
      · rw [if_pos e3, if_pos e3]
        by_cases e4 : k < i
        · rw [if_pos e4, if_pos (by omega)]
        · rw [if_neg e4, if_neg (by omega)]
      · rw [if_neg e3, if_neg e3]
        by_cases e4 : (k - 10) % 4 = 3 ∧ (k - 10) / 4 < i
        · rw [if_pos e4, if_pos (by omega)]
        · rw [if_neg e4, if_neg (by omega)]
theorem cwi_b {i : Nat} (hi : i < 10) : cwi s q i i = q i := by
  unfold cwi
  rw [if_pos hi, if_neg (Nat.lt_irrefl _)]
theorem cwi_t {i : Nat} : cwi s q i (10 + 4 * i + 3) = q (10 + 4 * i + 3) := by
  unfold cwi
  rw [if_neg (by omega), if_neg (by omega)]
/-- a payee's current amounts anew -/
theorem WS.cur2 {p c : Nat} {f : Nat → Int64} (h : WS m sv x ow s q) (hC : WC s) (hW : WW s) (hG : GLm s) (hp : p < 10) (hc : QW m ow c (30 + p) 3 f) (hsv : ¬ sv = gr_ m x 10) : WS (sr_ m (gr_ m x 10) p c) sv x ow s q := by
  obtain ⟨f8, d8⟩ := h.ca
  obtain ⟨f10, d10⟩ := h.cu
  obtain ⟨f11, d11⟩ := h.ea
  obtain ⟨L2, b1, b2, b3⟩ := h.as
  obtain ⟨L3, c1, c2, c3⟩ := h.ad
  have e : Xt m sv ow ow (fun t => t = 13) (fun y => y = gr_ m x 10) 0 0 (sr_ m (gr_ m x 10) p c) := ⟨(Ex.refl _ _).sr (.inr rfl), fun y _ e _ => by rw [e]; exact d10.2.1.1, fun _ _ => rfl, funext fun k => by rw [gr_sr, if_neg (fun z => hsv z.1)]⟩
  refine h.upd e (fun t y => by omega) hC hW hG (h.le.xt e (by omega)) (h.ba.xt e (by omega)) ⟨f8, d8.xt e (by omega)⟩ (h.tot.xt e (by omega) (fun p hp => by omega)) ⟨fun p' j => if p' = p then f j else f10 p' j, ?_⟩ ⟨f11, d11.xt e (by omega) (fun p hp => by omega)⟩ (fun L y1 y2 a ha => ?_) (fun L y1 y2 a ha => ?_) (fun _ _ => rfl) (fun _ _ _ => rfl)
  · refine ⟨d10.1, d10.2.1, fun p' hp' => ?_⟩
    by_cases y : p' = p
    · subst y
      rw [gr_sr, if_pos ⟨rfl, rfl⟩]
      obtain ⟨z1, z2, z3⟩ := hc
      exact ⟨z1, z2, fun j hj => (z3 j hj).trans (if_pos rfl).symm⟩
    · rw [gr_sr, if_neg (fun z => y z.2)]
      obtain ⟨z1, z2, z3⟩ := d10.2.2 p' hp'
      exact ⟨z1, z2, fun j hj => (z3 j hj).trans (if_neg y).symm⟩
  · rw [y1.same b1 a ha (by omega)]
    exact (b3 a (by omega)).xt e (by omega)
  · rw [y1.same c1 a ha (by omega)]
    exact (c3 a (by omega)).xt e (by omega)
/-- the memory behind one payee -/
def clmem (m : am_M) (x its i : Nat) (pd b t v0 v1 v2 v4 : Int64) : am_M := sr_ (al_ (sr_ (sl_ (sl_ (sl_ (sl_ (sl_ (al_ (sl_ (sl_ m (gr_ m x 7) i b) (gr_ m (gr_ m x 9) i) 3 t) (4, 5) 5) (gt_ m) 0 v0) (gt_ m) 1 v1) (gt_ m) 2 v2) (gt_ m) 3 pd) (gt_ m) 4 v4) its i (gt_ m)) (4, 3) 3) (gr_ m x 10) i (gt_ m + 1)
theorem WS.cl1 {i : Nat} (h : WS m sv x ow s (cwi s q i)) (hC : WC s) (hW : WW s) (hG : GLm s) (hna : cN s 2 ≤ 16) (hnd : cN s 3 ≤ 12) (hi : i < 10) (hs : sv < gt_ m) (ks : gk_ m sv = (0, 0)) (ki : gk_ m its = (12, 11)) (oi : 300 ≤ ow its) (on : ow (gt_ m + 1) = 30 + i) (h0 : 0 < gt_ m) (v0 v1 v2 v4 : Int64) : WS (clmem m x its i (pd_ s q i) (q i - pd_ s q i) (q (10 + 4 * i + 3) + pd_ s q i) v0 v1 v2 v4) sv x ow s (cwi s q (i + 1)) ∧ Ex (fun y => y = its ∨ CLT (ow y)) 2 8 m (clmem m x its i (pd_ s q i) (q i - pd_ s q i) (q (10 + 4 * i + 3) + pd_ s q i) v0 v1 v2 v4) ∧ gt_ (clmem m x its i (pd_ s q i) (q i - pd_ s q i) (q (10 + 4 * i + 3) + pd_ s q i) v0 v1 v2 v4) = gt_ m + 2 := by
  have W1 := h.bal1 hC hW hG hi (q i - pd_ s q i)
  have W2 := W1.tot1 hC hW hG hi (show 3 < 4 by omega) (q (10 + 4 * i + 3) + pd_ s q i)
  rw [cwi_s hi] at W2
  have t1 := h.tot.2.2 i hi
  obtain ⟨f10, d10⟩ := h.cu
  have r1 : gr_ (sl_ m (gr_ m x 7) i (q i - pd_ s q i)) = gr_ m := rfl
  rw [r1] at W2
  have e2 : Ex (fun y => y = its ∨ CLT (ow y)) 0 0 m (sl_ (sl_ m (gr_ m x 7) i (q i - pd_ s q i)) (gr_ m (gr_ m x 9) i) 3 (q (10 + 4 * i + 3) + pd_ s q i)) := ((Ex.refl _ _).sl (.inr (.inr (by rw [h.ba.2.1.1]; exact .inl rfl)))).sl (.inr (.inr (by rw [t1.2.1.1]; exact .inr (.inr (by omega)))))
  have nsi : ¬ sv = its := fun z => by
    rw [← z, ks] at ki
    exact absurd (congrArg (fun q => q.1) ki) (by show ¬ 0 = 12; decide)
  have nsc : ¬ sv = gr_ m x 10 := fun z => by
    have := d10.1
    rw [← z, ks] at this
    exact absurd (congrArg (fun q => q.1) this) (by show ¬ 0 = 12; decide)
  unfold clmem
  generalize hA : sl_ (sl_ m (gr_ m x 7) i (q i - pd_ s q i)) (gr_ m (gr_ m x 9) i) 3 (q (10 + 4 * i + 3) + pd_ s q i) = A at W2 e2
  have gA : gt_ A = gt_ m := by rw [← hA]; rfl
  have rA : gr_ A = gr_ m := by rw [← hA]; rfl
  rw [← gA]
  have x3 : Ex (fun y => y = its) 1 5 A (sr_ (sl_ (sl_ (sl_ (sl_ (sl_ (al_ A (4, 5) 5) (gt_ A) 0 v0) (gt_ A) 1 v1) (gt_ A) 2 v2) (gt_ A) 3 (pd_ s q i)) (gt_ A) 4 v4) its i (gt_ A)) := ((((((Ex.al A (4, 5) 5).sl (.inl (Nat.le_refl _))).sl (.inl (Nat.le_refl _))).sl (.inl (Nat.le_refl _))).sl (.inl (Nat.le_refl _))).sl (.inl (Nat.le_refl _))).sr (.inr rfl)
  generalize hB : sr_ (sl_ (sl_ (sl_ (sl_ (sl_ (al_ A (4, 5) 5) (gt_ A) 0 v0) (gt_ A) 1 v1) (gt_ A) 2 v2) (gt_ A) 3 (pd_ s q i)) (gt_ A) 4 v4) its i (gt_ A) = B at x3
  have gB : gt_ B = gt_ A + 1 := by rw [← hB]; rfl
  have hG1 := hG.1
  have W3 := W2.xt (T := fun t => 300 ≤ t) ⟨x3, fun y _ e _ => by rw [e]; exact oi, fun _ _ => rfl, x3.r (by omega) nsi⟩ (fun t y => y) (by omega) hG.2 hna hnd
  have x4 : Ex NoP 1 3 B (al_ B (4, 3) 3) := Ex.al B (4, 3) 3
  have hsB : sv < gt_ B := by omega
  have W4 := W3.xt (x4.xt0 (ow := ow) hsB) (fun t y => absurd y id) (by omega) hG.2 hna hnd
  have hQ : QW (al_ B (4, 3) 3) ow (gt_ B) (30 + i) 3 (fun _ => 0) := ⟨gk_al B (4, 3) 3, ⟨by rw [gB, gA]; exact on, Nat.lt_succ_self _, by omega⟩, fun j _ => by
    show (if gt_ B = gt_ B then _ else _ : Nat → Int64) j = 0
    rw [if_pos rfl]⟩
  have hxA : gr_ B x 10 = gr_ m x 10 := by
    have hx := W2.x.2.1
    rw [x3.r hx (fun z => by
      have := W2.k
      have kA : gk_ A = gk_ m := by rw [← hA]; rfl
      rw [z, kA, ki] at this
      exact absurd (congrArg (fun q => q.1) this) (by show ¬ 12 = 1; decide)), rA]
  have rx4 : gr_ (al_ B (4, 3) 3) x 10 = gr_ m x 10 := by
    rw [gr_alo _ _ _ (show x < gt_ B from W3.x.2.1)]
    exact hxA
  have W5 := W4.cur2 hC hW hG hi hQ (by rw [rx4]; exact nsc)
  rw [rx4] at W5
  rw [← gB]
  refine ⟨W5, ?_, ?_⟩
  · have y := ((e2.trans x3 (fun b _ z => .inl z)).trans x4 (fun _ _ z => absurd z id)).sr (a := gr_ m x 10) (k := i) (v := gt_ B) (.inr (.inr (by rw [d10.2.1.1]; exact .inr (.inl rfl))))
    exact y.mono (fun _ _ z => z) (by omega) (by omega)
  · show gt_ B + 1 = gt_ A + 2
    omega
end W8
