/-! an amendment's text -/
section J8
variable {sa sv d N x b n n' z z' B v p i : Nat} {m M m' : am_M} {ow ow' : Nat → Nat} {s : Nat → Int32} {q : Nat → Int64} {l w : List Int32}
/-- a builder of one's own -/
def TB (sa : Nat) (m M : am_M) (sv b n z : Nat) (l : List Int32) : Prop := KS sa M sv ∧ SBv M b l ∧ Ex NoP n z m M ∧ gt_ m ≤ b ∧ gt_ m ≤ gr_ M b 0
theorem TB.eb (h : TB sa m M sv b n z l) (hk : KS sa m' sv) (hb : SBv m' b w) (e : Eb b n' z' M m') : TB sa m m' sv b (n + n') (z + z') w := by
  obtain ⟨k1, k2, k3, k4, k5⟩ := h
  refine ⟨hk, hb, k3.trans e.1 (fun a ha y => ?_), k4, ?_⟩
  · rcases y with y | y
    · exact absurd y (by omega)
    · exact absurd y (by omega)
  · have := k3.gt
    rcases e.2 with y | y
    · rw [y]; exact k5
    · omega
theorem TB.c (h : TB sa m M sv b n z l) {i : Nat} (hi : i < 28) (h2 : l.length + (kb_ i).length ≤ 1000) : ∃ m', am_ca sa sv (d + 5) 221 [.ref b, .ref (gr_ M sv i)] M = some (.inl (some (.ref b)), m') ∧ TB sa m m' sv b (n + 1) (z + 2002) (l ++ kb_ i) := by
  obtain ⟨m', e1, k, sb, e⟩ := st_c (sa := sa) (d := d) h.1 h.2.1 hi h2
  exact ⟨m', e1, h.eb k sb e⟩
theorem TB.nu (h : TB sa m M sv b n z l) (hv : v < 10000) (h2 : l.length + 4 ≤ 1000) : ∃ m', am_ca sa sv (d + 5) 223 [.ref b, .int (nI v)] M = some (.inl (some (.ref b)), m') ∧ TB sa m m' sv b (n + 1) (z + 2002) (l ++ dg_ v) := by
  have := (dg_len (n := v)).2
  obtain ⟨m', e1, k, sb, e⟩ := st_n (sa := sa) (d := d) h.1 h.2.1 hv (by omega)
  exact ⟨m', e1, h.eb k sb e⟩
theorem TB.k (h : TB sa m M sv b n z l) : gk_ M b = (1, 13) := h.2.1.kb.1
theorem TB.pa (h : TB sa m M sv b n z l) (hp : p < 26) (h2 : l.length + 2 ≤ 1000) : ∃ m4 t m', am_ca sa sv (d + 7) 278 [.int (nI p)] M = some (.inl (some (.ref t)), m4) ∧ gk_ m4 b = (1, 13) ∧ am_ca sa sv (d + 7) 221 [.ref b, .ref t] m4 = some (.inl (some (.ref b)), m') ∧ TB sa m m' sv b (n + 7) (z + 8002) (l ++ nm_ 9 p) := by
  obtain ⟨k1, k2, k3, k4, k5⟩ := h
  obtain ⟨kk1, kk2, kk3, kk4, kk5⟩ := k2.kb
  obtain ⟨m4, t, e1, K4, S4, x4, t1, t2, t3, t4⟩ := x278 (sa := sa) (d := d) k1 kk5 hp
  have no : ∀ y, ¬ NoP y := fun _ y => y
  have sb4 := k2.no x4
  have r4 : gr_ m4 b = gr_ M b := x4.r kk2 (no _)
  have kb4 : gk_ m4 b = (1, 13) := (x4.k kk2).trans kk1
  have ln := nm_len (k := 9) (p := p) (.inl rfl)
  have tb4 : TB sa m m4 sv b (n + 6) (z + 6000) l := ⟨K4, sb4, k3.trans x4 (fun _ _ y => y), k4, by rw [r4]; exact k5⟩
  have u1 : t < gr_ m4 t 0 := t2
  have u2 : gr_ m4 t 0 < gt_ m4 := t3
  have u3 : t < gt_ m4 := Nat.lt_trans u1 u2
  have w1 : b < t := Nat.lt_of_lt_of_le kk2 t1
  have w2 : gr_ M b 0 < t := Nat.lt_of_lt_of_le kk3 t1
  have w3 : b < gr_ m4 t 0 := Nat.lt_trans w1 u1
  have w4 : gr_ M b 0 < gr_ m4 t 0 := Nat.lt_trans w2 u1
  have v1 : ¬ gr_ m4 t 0 = gr_ m4 b 0 := by rw [r4]; exact fun z => Nat.lt_irrefl _ (z ▸ w4)
  have v2 : ¬ t = b := fun z => Nat.lt_irrefl _ (z ▸ w1)
  have v3 : ¬ gr_ m4 t 0 = b := fun z => Nat.lt_irrefl _ (z ▸ w3)
  have v4 : ¬ t = gr_ m4 b 0 := by rw [r4]; exact fun z => Nat.lt_irrefl _ (z ▸ w2)
  have v5 : l.length + (nm_ 9 p).length ≤ 1000 := by rw [ln]; exact h2
  obtain ⟨m', e2, sb5, e5⟩ := x221 (sa := sa) (sv := sv) (d := d + 2) sb4 S4 u3 u2 v1 v2 v3 v4 v5
  exact ⟨m4, t, m', e1, kb4, e2, tb4.eb (K4.eb sb4 e5) sb5 e5⟩
theorem kb1 : kb_ 1 = (kw 19).map nI ++ [32].map nI := by decide +kernel
theorem kb2 : kb_ 2 = [32].map nI := by decide +kernel
theorem kb3 : kb_ 3 = [32].map nI ++ ((kw 17).map nI ++ [32].map nI) := by decide +kernel
theorem kb4 : kb_ 4 = [32].map nI ++ ((kw 20).map nI ++ [32].map nI) := by decide +kernel
theorem kb5 : kb_ 5 = [59].map nI := by decide +kernel
/-- the text of an amendment -/
def amt (p a u c : Nat) : List Int32 := kb_ 1 ++ nm_ 9 p ++ kb_ 2 ++ dg_ a ++ kb_ 3 ++ nm_ 9 u ++ kb_ 4 ++ dg_ c ++ kb_ 5
def aml (p a u c : Nat) : List Nat := flt (tAD0 [] [] p a u c) ++ []
theorem amt_w (p a u c : Nat) : [] ++ kb_ 1 ++ nm_ 9 p ++ kb_ 2 ++ dg_ a ++ kb_ 3 ++ nm_ 9 u ++ kb_ 4 ++ dg_ c ++ kb_ 5 = (aml p a u c).map nI := by
  unfold aml
  simp only [tAD0, flt, List.map_append, kb1, kb2, kb3, kb4, kb5, nmP, dg_n, List.append_assoc, List.map_nil, List.nil_append, List.append_nil]
theorem amt_read {a u c : Nat} (hN : NMS s q) (h12 : cN s 3 < 12) (hp : p < cN s 0) (hu : u < cN s 0) (ha : 1 ≤ a) (ha2 : a < 10000) (hc : 1 ≤ c) (hc2 : c ≤ 100) (hpu : ¬ p = u) : (∀ k, k < (aml p a u c).length → bw (aml p a u c) k < 128) ∧ sLp (bw (aml p a u c)) (aml p a u c).length 900 0 0 s q = .inr (8, 1, rowU s 690 3 (cN s 3) (v6c (nI p) (nI u) (nI a) (nI c) (-1) (nI a)), q) := by
  have h10 := hN.2.2.1
  have hg : gsq false (tAD0 [] [] p a u c) := ⟨gtk_kw spc0 (by omega) (by omega), fun z => absurd z (by decide), gtk_p spc1 (by omega), fun _ => .inl (List.cons_ne_nil _ _), gtk_n spc1 ha2, fun _ => .inl (List.cons_ne_nil _ _), gtk_kw spc1 (by omega) (by omega), fun _ => .inl (List.cons_ne_nil _ _), gtk_p spc1 (by omega), fun _ => .inl (List.cons_ne_nil _ _), gtk_kw spc1 (by omega) (by omega), fun _ => .inl (List.cons_ne_nil _ _), gtk_n spc1 (by omega), fun _ => .inl (List.cons_ne_nil _ _), gtk_s spc0, fun _ => .inr rfl, trivial⟩
  obtain ⟨a1, a2, a3, a4⟩ := lexa (tr := []) hg (fun c h => absurd h List.not_mem_nil)
  obtain ⟨r1, r2⟩ := rAD0 hN h12 hp hu ha ha2 hc hc2 hpu a1
  refine ⟨fun k hk => ?_, ?_⟩
  · have hall : ∀ (ts : List Tn) (f : Bool), gsq f ts → ∀ x, x ∈ flt ts → x < 128 := by
      intro ts
      induction ts with
      | nil => intro f _ x hx; exact absurd hx List.not_mem_nil
      | cons t ts ih =>
        intro f hg x hx
        obtain ⟨⟨g1, g2, g3⟩, _, h3⟩ := hg
        have hx : x ∈ t.1 ++ (t.2 ++ flt ts) := hx
        rcases List.mem_append.mp hx with hx | hx
        · have := of_decide_eq_true (g1 x hx)
          omega
        · rcases List.mem_append.mp hx with hx | hx
          · rcases g3 with g | g | g
            · have := of_decide_eq_true (g x hx)
              omega
            · have := of_decide_eq_true (g x hx)
              omega
            · rw [g] at hx
              rw [List.mem_singleton.mp hx]
              omega
          · exact ih _ h3 x hx
    have hm := bw_mem (l := aml p a u c) hk
    rcases List.mem_append.mp hm with hm | hm
    · exact hall _ false hg _ hm
    · exact absurd hm List.not_mem_nil
  · have key : ∀ (b : Nat → Nat) (n : Nat), sST s q b n 0 = .inr (0 + (tAD0 [] [] p a u c).length, rowU s 690 3 (cN s 3) (v6c (nI p) (nI u) (nI a) (nI c) (-1) (nI a)), q) → ¬ Kd b n 0 = 0 → Kd b n (tAD0 [] [] p a u c).length = 0 → ∀ f, sLp b n (f + 1 + 1) 0 0 s q = .inr (8, 1, rowU s 690 3 (cN s 3) (v6c (nI p) (nI u) (nI a) (nI c) (-1) (nI a)), q) := fun b n h1 h2 h3 f => by
      rw [sLp, if_neg h2, h1, eb_i]
      show sLp b n (f + 1) (0 + 1) 8 _ q = _
      have h3' : Kd b n 8 = 0 := h3
      rw [sLp, if_pos h3']
    exact key _ _ r1 r2 a2 898
end J8
