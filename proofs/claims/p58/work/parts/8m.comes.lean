/-! what comes to each work -/
section W8
variable {sa sv d x a t n z u c it i : Nat} {m m1 m2 : am_M} {ow ow' : Nat → Nat} {T P : Nat → Prop} {L : List Nat} {s : Nat → Int32} {q : Nat → Int64}
theorem it_go2 (h : LC m sv a c L) (ha : 0 < a) (hsv : sv < gt_ m) (e : Ex NoP n z m m1) (hI : IT m1 it a i) (hit : gt_ m ≤ it) (hi : i < L.length) : am_ca sa sv (d + 2) 245 [.ref it] m1 = some (.inl (some (.int (nI 1))), m1) ∧ gk_ m1 it = (1, 16) ∧ ∃ m2, am_ca sa sv (d + 2) 246 [.ref it] m1 = some (.inl (some (.ref (L.getD i 0))), m2) ∧ IT m2 it a (i + 1) ∧ Ex NoP n z m m2 ∧ Fr (fun b _ => b = it) m1 m2 := by
  obtain ⟨h1, r1, i1⟩ := h.no e hsv
  have e1 := x245 (sa := sa) (sv := sv) (d := d + 1) h1 hI ha (by omega)
  rw [if_pos hi] at e1
  obtain ⟨m2, e2, I2, f2⟩ := x246 (sa := sa) (d := d) h1 hI ha hi
  exact ⟨e1, hI.1, m2, e2, I2, e.itr f2 hit, f2⟩
theorem it_new2 (h : LC m sv a c L) (ha : 0 < a) (hsv : sv < gt_ m) (e : Ex NoP n z m m1) : gk_ m1 a = (1, 15) ∧ ∃ m2, am_ca sa sv (d + 2) 243 [.ref a] m1 = some (.inl (some (.ref (gt_ m1))), m2) ∧ IT m2 (gt_ m1) a 0 ∧ Ex NoP (n + 1) (z + 4) m m2 ∧ gt_ m ≤ gt_ m1 ∧ Ex NoP 1 4 m1 m2 := by
  obtain ⟨h1, r1, i1⟩ := h.no e hsv
  obtain ⟨m2, e2, I2, f2, g2⟩ := x243 (sa := sa) (d := d) h1 ha
  exact ⟨h1.1, m2, e2, I2, e.trans f2 (fun _ _ y => y), e.gt, f2⟩
def cm_ (s : Nat → Int32) : Nat → (Nat → Nat) → (Nat → Nat)
  | 0, f => f
  | v + 1, f => cm_ s v (sra_ s v (f v) (cN s (59 + 48 * v)) f)
theorem sra_0 (s : Nat → Int32) (w n : Nat) (f : Nat → Nat) : sra_ s w 0 n f = f := by
  induction n with
  | zero => rfl
  | succ n ih =>
    funext u
    rw [sra_, ih, Nat.zero_mul, Nat.zero_div]
    show f u + (if u = cN s (60 + 48 * w + n) then 0 else 0) = f u
    split <;> rfl
theorem dv_cm (s : Nat → Int32) (day : Nat) : ∀ v st, (dv_ s day v st).1 = cm_ s v st.1 := by
  intro v
  induction v with
  | zero => intro st; rfl
  | succ v ih =>
    intro st
    rw [dv_, ih, cm_]
    congr 1
    unfold wk_
    by_cases e : st.1 v = 0
    · rw [if_pos e, e, sra_0]
    · rw [if_neg e]
theorem cm_top (s : Nat → Int32) (w a : Nat) : ∀ k, cm_ s (w + 1 + k) (fun u => if u = w then a else 0) = cm_ s (w + 1) (fun u => if u = w then a else 0) := by
  intro k
  induction k with
  | zero => rfl
  | succ k ih =>
    rw [show w + 1 + (k + 1) = (w + 1 + k) + 1 from rfl, cm_, if_neg (by omega), sra_0, ih]
theorem cm_ge {s : Nat → Int32} (hW : WW s) {u : Nat} : ∀ v f, v ≤ u → v ≤ cN s 1 → cm_ s v f u = f u := by
  intro v
  induction v with
  | zero => intro f _ _; rfl
  | succ v ih =>
    intro f h1 h2
    rw [cm_, ih _ (by omega) (by omega), sra_ge s v (f v) f u _ (fun i hi e => ?_)]
    obtain ⟨k, hk, e2⟩ := ww_ow hW v i (by omega) hi
    have hb : k < 2 ^ 31 := by
      have := Int32.toNatClampNeg_lt (s 1)
      have : cN s 1 < 2 ^ 31 := this
      omega
    rw [cN_ e2 hb] at e
    omega
theorem nI_s1 (v : Nat) : nI v + (-1 : Int32) = nI v - nI 1 := by
  rw [show (-1 : Int32) = -nI 1 from by decide, ← Int32.sub_eq_add_neg]
/-- the small limits of a world that is grown -/
def GLm (s : Nat → Int32) : Prop := cN s 1 ≤ 4 ∧ ∀ w, w < cN s 1 → cN s (18 + 48 * w) < 3 ∧ cN s (59 + 48 * w) < 3
/-- the sources of one work get theirs -/
theorem x288_i (h : WS m sv x ow s q) (hC : WC s) (hW : WW s) (hsv : sv < gt_ m) {v b L0 A : Nat} {l1 l2 : Int32} (hv : v < cN s 1) (f : Nat → Nat) (hA : A ≤ 9999999) (hf : sum_ f (v + 1) ≤ A) {o : Nat} (hWO : WO m sv ow o v s) (hb : gt_ m ≤ b) : ∀ (k i : Nat) (m1 : am_M) (o6 : Option Value) (it : Nat), i + k = cN s (59 + 48 * v) → gt_ m ≤ it → ¬ it = b → IT m1 it (gr_ m o 1) i → Ex NoP n z m m1 → gk_ m1 b = (2, cN s 1) → (∀ u, u < cN s 1 → gi_ m1 b u = nI (sra_ s v (f v) i f u)) → ∃ m2 o6' it', r288 sa sv (d + 3) 58 [some (.ref x), some (.int l1), some (.int l2), some (.ref b), some (.int (nI v)), some (.ref it), o6] [] m1 = r288 sa sv (d + 3) 29 [some (.ref x), some (.int l1), some (.int l2), some (.ref b), some (.int (nI v - nI 1)), it', o6'] [] m2 ∧ Ex NoP n z m m2 ∧ gk_ m2 b = (2, cN s 1) ∧ gt_ m2 = gt_ m1 ∧ ∀ u, u < cN s 1 → gi_ m2 b u = nI (sra_ s v (f v) (cN s (59 + 48 * v)) f u) := by
  obtain ⟨_, _, _, ⟨L, ⟨⟨c, hc⟩, a1, a0⟩, a2, a3⟩⟩ := hWO
  have no : ∀ y, ¬ NoP y := fun _ y => y
  have hz' : 0 < gr_ m o 1 := Nat.pos_of_ne_zero a1.2.2
  have n13 := ((wc_nw hC).c (by decide)).2
  intro k
  induction k with
  | zero =>
    intro i m1 o6 it hk hit hne hI e kb hg
    have hi : i = L.length := by omega
    rw [hi] at hI
    obtain ⟨e1, k1⟩ := it_end (sa := sa) (d := d + 2) hc hz' hsv e hI
    refine ⟨m1, o6, some (.ref it), ?_, e, kb, rfl, by rw [← a2, ← hi]; exact hg⟩
    rw [b288_58, gq_pos k1, e1, ci_v, gb_pos nI_0, nI_s1]
  | succ k ih =>
    intro i m1 o6 it hk hit hne hI e kb hg
    have hi : i < L.length := by omega
    obtain ⟨e1, k1, m2, e2, I2, f2, fr⟩ := it_go2 (sa := sa) (d := d + 1) hc hz' hsv e hI hit hi
    obtain ⟨b1, b2, b3⟩ := a3 i hi
    have kr : gk_ m2 (L.getD i 0) = (2, 2) := (f2.k b2.2.1).trans b1
    obtain ⟨y0, z0⟩ := (ww_ow hW v i hv (by omega)).c (by omega)
    obtain ⟨y1, z1⟩ := (ww_oc hW v i hv (by omega)).c (by omega)
    have vr0 : gi_ m2 (L.getD i 0) 0 = nI (cN s (60 + 48 * v + i)) := by
      rw [f2.i b2.2.1 (no _)]
      exact (b3 0 (by omega)).trans y0
    have vr1 : gi_ m2 (L.getD i 0) 1 = nI (cN s (63 + 48 * v + i)) := by
      rw [f2.i b2.2.1 (no _)]
      refine (b3 1 (by omega)).trans ?_
      show s (60 + 48 * v + 3 * 1 + i) = _
      rw [show 60 + 48 * v + 3 * 1 + i = 63 + 48 * v + i by omega]
      exact y1
    have kb2 : gk_ m2 b = (2, cN s 1) := by rw [fr.1.1]; exact kb
    have hg2 : ∀ u, u < cN s 1 → gi_ m2 b u = nI (sra_ s v (f v) i f u) := fun u hu => (fr.2.1 b u (fun y => hne y.symm)).trans (hg u hu)
    have fv : sra_ s v (f v) i f v = f v := sra_ge s v (f v) f v i (fun j hj y => by
      have := isN_lt (ww_ow hW v j hv (by omega)) (by omega)
      omega)
    have hfv : f v ≤ A := by
      have := sum_ge f (show v < v + 1 by omega)
      omega
    have hm : f v * cN s (63 + 48 * v + i) < 2 ^ 31 := by
      have : f v * cN s (63 + 48 * v + i) ≤ 9999999 * 90 := Nat.mul_le_mul (by omega) (by omega)
      omega
    obtain ⟨m3, o6', it', e3, f3, k3, g3, h3⟩ := ih (i + 1) (si_ m2 b (cN s (60 + 48 * v + i)) (nI (sra_ s v (f v) (i + 1) f (cN s (60 + 48 * v + i))))) (some (.ref (L.getD i 0))) it (by omega) hit hne (by
        obtain ⟨j1, j2, j3, j4, j5⟩ := I2
        have nb2 : ¬ gr_ m o 1 = b := by
          have := hc.2.2.2.2.2.2.2.2.1
          omega
        exact ⟨j1, j2, by rw [gi_si, if_neg (fun y => hne y.1)]; exact j3, by rw [gi_si, if_neg (fun y => hne y.1), gi_si, if_neg (fun y => nb2 y.1)]; exact j4, j5⟩) (f2.si (.inl hb)) kb2 (fun u hu => by
        rw [gi_si]
        by_cases q : u = cN s (60 + 48 * v + i)
        · rw [if_pos ⟨rfl, q⟩, q]
        · rw [if_neg (fun y => q y.2), hg2 u hu]
          congr 1
          show _ = sra_ s v (f v) i f u + (if u = cN s (60 + 48 * v + i) then _ else 0)
          rw [if_neg q]
          rfl)
    refine ⟨m3, o6', it', ?_, f3, k3, by rw [g3]; exact fr.1.2.1, h3⟩
    rw [← e3]
    have hval : nI (sra_ s v (f v) i f (cN s (60 + 48 * v + i))) + nI (f v) * nI (cN s (63 + 48 * v + i)) / nI 100 = nI (sra_ s v (f v) (i + 1) f (cN s (60 + 48 * v + i))) := by
      rw [pk_mul, pk_div hm (by decide) (by decide), nI_add]
      congr 1
      show _ = sra_ s v (f v) i f _ + (if _ = cN s (60 + 48 * v + i) then _ else 0)
      rw [if_pos rfl]
    rw [b288_58, gq_pos k1, e1, ci_v, gb_neg (by decide), gq_pos k1, e2, cr_v, kr, gq_pos ⟨rfl, fun y => absurd y (by decide)⟩, gq_pos ⟨.inl rfl, in_of (show 0 < 2 by omega) (by omega)⟩, nI_clamp (show 0 < 2 ^ 31 by omega), nI_clamp (show 1 < 2 ^ 31 by omega), nI_clamp (show v < 2 ^ 31 by omega), vr0, kb2, nI_clamp (show cN s (60 + 48 * v + i) < 2 ^ 31 by omega), gq_pos ⟨.inl rfl, in_of (show cN s (60 + 48 * v + i) < cN s 1 by omega) (by omega)⟩, gq_pos ⟨.inl rfl, in_of hv (by omega)⟩, gq_pos ⟨.inl rfl, in_of (show 1 < 2 by omega) (by omega)⟩, gq_pos (by decide), gq_pos ⟨rfl, in_of (show cN s (60 + 48 * v + i) < cN s 1 by omega) (by omega)⟩, hg2 _ (by omega), hg2 v hv, fv, vr1, hval]
end W8
