/-! feeds: a text goes to the class -/
def chv (w : List Nat) (k : Nat) : Nat := if k < w.length then bw w k else 32
section J8
variable {sa sv d N x t r n z B at0 : Nat} {m M : am_M} {ow : Nat → Nat} {X : TX} {s : Nat → Int32} {q : Nat → Int64} {w : List Nat} {P : Nat → Prop}
theorem chv_b (hw : ∀ k, k < w.length → bw w k < 128) (k : Nat) : chv w k < 128 := by
  unfold chv
  split
  · exact hw k (by assumption)
  · decide
theorem bw_map {k : Nat} (hk : k < w.length) : (w.map nI).getD k 0 = nI (bw w k) := by
  unfold bw
  rw [List.getD_eq_getElem?_getD, List.getElem?_map, List.getD_eq_getElem?_getD, List.getElem?_eq_getElem hk]
  rfl
theorem SV.exr {l : List Int32} (hs : SV m t l) (ht : t < gt_ m ∧ gr_ m t 0 < gt_ m) (e : Ex P n z m M) (hp : ¬ P t ∧ ¬ P (gr_ m t 0)) : SV M t l ∧ gr_ M t 0 = gr_ m t 0 :=
  ⟨hs.cg (e.k ht.1) (e.i ht.1 hp.1) (e.r ht.1 hp.1) (e.k ht.2) (e.i ht.2 hp.2), by rw [e.r ht.1 hp.1]⟩
theorem SV.no2 {l : List Int32} (hs : SV m t l) (k : gk_ m r = (2, n)) : ¬ t = r ∧ ¬ gr_ m t 0 = r := by
  constructor
  · intro e
    rw [e] at hs
    rcases hs.b with y | y
    · rw [k] at y; exact absurd (congrArg Prod.fst y) (by show ¬ 2 = 1; decide)
    · rw [k] at y; exact absurd y (by show ¬ 2 = 8; decide)
  · intro e
    have := hs.2.2.1
    rw [e, k] at this
    rcases this with y | y
    · exact absurd y (by show ¬ 2 = 3; decide)
    · exact absurd y (by show ¬ 2 = 9; decide)
theorem n227 {l : List Int32} (h : SV m t l) (hl : 0 < l.length) : am_ca sa sv (d + 1) 227 [.ref t] m = some (.inl (some (.int (nI 0))), m) := by
  have h20 := h.2.2.2.2.2.1
  rw [c227, b227_0, gq_pos h.1, gq_pos ⟨by rcases h.2.2.1 with e | e <;> rw [e] <;> decide, by rcases h.2.2.1 with e | e <;> rw [e] <;> decide⟩, h.2.2.2.1, gb_neg (by rw [nI_eq0 (by omega)]; omega), gq_pos (by decide)]
theorem x294_20 (h : JT sa m sv N x ow B X s q) (hl : LM s q) (hw : ∀ k, k < w.length → bw w k < 128) (hr : N + 243 ≤ r) (hr2 : r < gt_ m) (ho : 300 ≤ ow r) (kr : gk_ m r = (2, 5)) (vr : ∀ j, j < 5 → gi_ m r j = nI 0) (hs : SV m t (w.map nI)) (ht : t < gt_ m ∧ gr_ m t 0 < gt_ m) (hat : at0 + 20 < 2 ^ 20) (l2 : Int32) : ∃ M, r294 sa sv (d + 3) 20 [some (.ref N), some (.ref t), some (.int l2), some (.int (nI at0)), some (.ref r), some (.int (nI 0))] [] m = r294 sa sv (d + 3) 20 [some (.ref N), some (.ref t), some (.int l2), some (.int (nI at0)), some (.ref r), some (.int (nI 20))] [] M ∧ JT sa M sv N x ow B X s q ∧ gk_ M r = (2, 5) ∧ (∀ j, j < 5 → gi_ M r j = nI (pn (fun c => chv w (at0 + 4 * j + c)) 4)) ∧ Ex (fun y => y = r) 0 0 m M := by
  have hT : w.length < 2 ^ 20 := by
    have := hs.2.2.2.2.2.1
    rw [List.length_map] at this; exact this
  obtain ⟨no1, no2⟩ := hs.no2 kr
  have key := lp_inv (fun i M => r294 sa sv (d + 3) 20 [some (.ref N), some (.ref t), some (.int l2), some (.int (nI at0)), some (.ref r), some (.int (nI i))] [] M) (fun i M => JT sa M sv N x ow B X s q ∧ gk_ M r = (2, 5) ∧ (∀ j, j < 5 → gi_ M r j = nI (pn (fun c => chv w (at0 + 4 * j + c)) (min (i - 4 * j) 4))) ∧ Ex (fun y => y = r) 0 0 m M) 20 (fun i M hi ⟨j, k, v, e⟩ => by
    obtain ⟨S, eg⟩ := hs.exr ht e ⟨no1, no2⟩
    have el := n362 (sa := sa) (sv := sv) (d := d + 1) S
    rw [List.length_map] at el
    have cb := chv_b hw
    have hq : i / 4 < 5 := by omega
    have v1 := v (i / 4) hq
    rw [show min (i - 4 * (i / 4)) 4 = i % 4 by omega] at v1
    have pb := pn_b (f := fun c => chv w (at0 + 4 * (i / 4) + c)) (fun c _ => cb _) (i % 4) (by omega)
    have fin : ∀ y, y = chv w (at0 + i) → ∃ m', r294 sa sv (d + 3) 20 [some (.ref N), some (.ref t), some (.int l2), some (.int (nI at0)), some (.ref r), some (.int (nI (i + 1)))] [] (si_ M r (i / 4) (nI (pn (fun c => chv w (at0 + 4 * (i / 4) + c)) (i % 4) * 256 + y))) = r294 sa sv (d + 3) 20 [some (.ref N), some (.ref t), some (.int l2), some (.int (nI at0)), some (.ref r), some (.int (nI (i + 1)))] [] m' ∧ JT sa m' sv N x ow B X s q ∧ gk_ m' r = (2, 5) ∧ (∀ j, j < 5 → gi_ m' r j = nI (pn (fun c => chv w (at0 + 4 * j + c)) (min (i + 1 - 4 * j) 4))) ∧ Ex (fun y => y = r) 0 0 m m' := fun y hy => by
      refine ⟨_, rfl, j.si8 hl hr ho (.inl (by rw [k])) _ _, k, fun c hc => ?_, e.si (.inr rfl)⟩
      rw [gi_si]
      by_cases ec : c = i / 4
      · rw [if_pos ⟨rfl, ec⟩, ec, show min (i + 1 - 4 * (i / 4)) 4 = i % 4 + 1 by omega, hy]
        show _ = nI (pn _ (i % 4) * 256 + chv w (at0 + 4 * (i / 4) + i % 4))
        rw [show at0 + 4 * (i / 4) + i % 4 = at0 + i by omega]
      · rw [if_neg (fun z => ec z.2), v c hc]
        rw [show min (i + 1 - 4 * c) 4 = min (i - 4 * c) 4 by omega]
    have hd : nI i / nI 4 = nI (i / 4) := pk_div (by omega) (by decide) (by decide)
    rw [b294_20, gb_neg (by rw [nI_leE (by decide) (by omega)]; omega), gq_pos (by decide), gq_pos (by decide), hd, gq_pos ⟨.inl (by rw [k]), by rw [k]; exact in_of hq (by decide)⟩, gq_pos S.b, el, ci_v, nI_add, nI_N (k := i / 4) (by omega), v1]
    by_cases c : w.length ≤ at0 + i
    · rw [gb_pos (by rw [nI_leE (by omega) (by omega)]; exact c), gq_pos ⟨by rw [k], by rw [k]; exact in_of hq (by decide)⟩, nI_8or pb (by decide), nI_add]
      exact fin 32 (by unfold chv; rw [if_neg (by omega)])
    · have ec := n363 (sa := sa) (sv := sv) (d := d + 1) S (at0 + i) (by rw [List.length_map]; omega)
      rw [bw_map (by omega)] at ec
      rw [gb_neg (by rw [nI_leE (by omega) (by omega)]; exact c), gq_pos S.b, ec, ci_v, gq_pos ⟨by rw [k], by rw [k]; exact in_of hq (by decide)⟩, nI_8or pb (by have := hw (at0 + i) (by omega); omega), nI_add]
      exact fin (bw w (at0 + i)) (by unfold chv; rw [if_pos (by omega)])) m ⟨h, kr, fun j hj => by
    rw [vr j hj, Nat.zero_sub, Nat.zero_min]; rfl, Ex.refl _ _⟩
  obtain ⟨M, g1, g2, g3, g4, g5⟩ := key
  refine ⟨M, g1, g2, g3, fun j hj => ?_, g5⟩
  rw [g4 j hj, show min (20 - 4 * j) 4 = 4 by omega]
end J8
