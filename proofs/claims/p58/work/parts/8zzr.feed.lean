/-! feeds whole -/
section J8
variable {sa sv d N x t r n z B at0 : Nat} {m M : am_M} {ow : Nat → Nat} {X : TX} {s : Nat → Int32} {q : Nat → Int64} {w : List Nat} {P : Nat → Prop}
def InC (N y : Nat) : Prop := N ≤ y ∧ y < N + 243
theorem x294_4 (h : JT sa m sv N x ow B (X.wB (chv w) at0) s q) (hl : LM s q) (hw : ∀ k, k < w.length → bw w k < 128) (hs : SV m t (w.map nI)) (ht : t < gt_ m ∧ gr_ m t 0 < gt_ m) (hc : ¬ InC N t ∧ ¬ InC N (gr_ m t 0)) (h0 : at0 < w.length) (h9 : w.length ≤ 880) (o4 o5 : Option Value) : ∃ M ow' o4' o5', r294 sa sv (d + 3) 4 [some (.ref N), some (.ref t), some (.int (nI at0)), some (.int (nI at0)), o4, o5] [] m = r294 sa sv (d + 3) 4 [some (.ref N), some (.ref t), some (.int (nI (at0 + 20))), some (.int (nI (at0 + 20))), o4', o5'] [] M ∧ JT sa M sv N x ow' B (X.wB (chv w) (at0 + 20)) s q ∧ Ex (InC N) 1 5 m M := by
  have top := h.top
  have el := n362 (sa := sa) (sv := sv) (d := d + 1) hs
  rw [List.length_map] at el
  have xa : Ex NoP 1 5 m (al_ m (2, 5) 5) := Ex.al m _ _
  have j0 := h.xs (ow' := fun y => if y < gt_ m then ow y else 300) hl xa (fun _ _ z => absurd z id) NoP.nk (fun y hy => if_pos hy)
  have k0 : gk_ (al_ m (2, 5) 5) (gt_ m) = (2, 5) := gk_al m (2, 5) 5
  obtain ⟨S0, g0⟩ := hs.exr ht xa ⟨id, id⟩
  have g1 : gt_ (al_ m (2, 5) 5) = gt_ m + 1 := rfl
  obtain ⟨M1, e1, j1, k1, v1, x1⟩ := x294_20 (sa := sa) (d := d) (at0 := at0) (r := gt_ m) (t := t) j0 hl hw top (by rw [g1]; omega) (by show 300 ≤ (if gt_ m < gt_ m then ow _ else 300); rw [if_neg (by omega)]; exact Nat.le_refl _) k0 (fun j _ => gi_al m (2, 5) 5 j) S0 (by rw [g0, g1]; omega) (by omega) (nI at0)
  obtain ⟨M2, f2, t2, e2⟩ := x151 (sa := sa) (sv := sv) (d := d + 1) j1.tc (gi_ M1 (gt_ m) 0) (gi_ M1 (gt_ m) 1) (gi_ M1 (gt_ m) 2) (gi_ M1 (gt_ m) 3) (gi_ M1 (gt_ m) 4)
  have en : (X.wB (chv w) at0).n = at0 := rfl
  rw [en, if_pos (by omega)] at e2
  have eX : fedX (X.wB (chv w) at0) (gi_ M1 (gt_ m) 0) (gi_ M1 (gt_ m) 1) (gi_ M1 (gt_ m) 2) (gi_ M1 (gt_ m) 3) (gi_ M1 (gt_ m) 4) = X.wB (fedB (X.wB (chv w) at0) (gi_ M1 (gt_ m) 0) (gi_ M1 (gt_ m) 1) (gi_ M1 (gt_ m) 2) (gi_ M1 (gt_ m) 3) (gi_ M1 (gt_ m) 4)) (at0 + 20) := by
    unfold fedX
    rw [en, if_pos (by omega)]; rfl
  have gX := j1.xg.fed (gi_ M1 (gt_ m) 0) (gi_ M1 (gt_ m) 1) (gi_ M1 (gt_ m) 2) (gi_ M1 (gt_ m) 3) (gi_ M1 (gt_ m) 4)
  rw [eX] at t2 gX
  have t3 : TC M2 N (X.wB (chv w) (at0 + 20)) := t2.wb fun k hk => by
    rw [v1 0 (by decide), v1 1 (by decide), v1 2 (by decide), v1 3 (by decide), v1 4 (by decide)]
    refine Eq.trans ?_ (fed_at (ch := chv w) (X.wB (chv w) at0) (chv_b hw) k hk).symm
    show chv w k = if at0 ≤ k then chv w k else chv w k
    split <;> rfl
  obtain ⟨j2, x2⟩ := j1.fr hl f2 t3 gX j1.bb
  have n0 : (nI 0).toNatClampNeg = 0 := rfl
  have n1 : (nI 1).toNatClampNeg = 1 := rfl
  have n2 : (nI 2).toNatClampNeg = 2 := rfl
  have n3 : (nI 3).toNatClampNeg = 3 := rfl
  have n4 : (nI 4).toNatClampNeg = 4 := rfl
  have n5 : (nI 5).toNatClampNeg = 5 := rfl
  refine ⟨M2, _, some (.ref (gt_ m)), some (.int (nI 20)), ?_, j2, ?_⟩
  · rw [b294_4, gq_pos hs.b, el, ci_v, gb_neg (by rw [nI_leE (by omega) (by omega)]; omega), gq_pos ⟨by decide, by decide, h.ge⟩, n5]
    refine e1.trans ?_
    have c : ∀ j, j < 5 → ((gk_ M1 (gt_ m)).1 = 2 ∨ (gk_ M1 (gt_ m)).1 = 7) ∧ in_ (nI j) (gk_ M1 (gt_ m)).2 := fun j hj => ⟨.inl (by rw [k1]), by rw [k1]; exact in_of hj (by decide)⟩
    rw [b294_20, gb_pos (Int32.le_refl _), gq_pos (c 0 (by decide)), gq_pos (c 1 (by decide)), gq_pos (c 2 (by decide)), gq_pos (c 3 (by decide)), gq_pos (c 4 (by decide)), gq_pos j1.k0, n0, n1, n2, n3, n4, e2, ci_v, nI_add]
  · have x1' : Ex NoP 0 0 (al_ m (2, 5) 5) (al_ m (2, 5) 5) := Ex.refl _ _
    have xx : Ex (fun y => y = gt_ m) 1 5 m M1 := (xa.mono (P' := fun y => y = gt_ m) (fun _ _ z => absurd z id) (Nat.le_refl _) (Nat.le_refl _)).trans x1 (fun _ _ z => z)
    have xx' : Ex (InC N) 1 5 m M1 := xx.mono (fun a ha z => absurd z (by omega)) (Nat.le_refl _) (Nat.le_refl _)
    exact xx'.trans x2 (fun _ _ z => z)
theorem x294_k (hl : LM s q) (hw : ∀ k, k < w.length → bw w k < 128) (h9 : w.length ≤ 880) : ∀ (k j : Nat) (m : am_M) (ow : Nat → Nat) (o4 o5 : Option Value), JT sa m sv N x ow B (X.wB (chv w) (20 * j)) s q → SV m t (w.map nI) → (t < gt_ m ∧ gr_ m t 0 < gt_ m) → (¬ InC N t ∧ ¬ InC N (gr_ m t 0)) → w.length ≤ 20 * (j + k) → (∀ i, j ≤ i → i < j + k → 20 * i < w.length) → ∃ M ow' o4' o5', r294 sa sv (d + 3) 4 [some (.ref N), some (.ref t), some (.int (nI (20 * j))), some (.int (nI (20 * j))), o4, o5] [] m = r294 sa sv (d + 3) 4 [some (.ref N), some (.ref t), some (.int (nI (20 * (j + k)))), some (.int (nI (20 * (j + k)))), o4', o5'] [] M ∧ JT sa M sv N x ow' B (X.wB (chv w) (20 * (j + k))) s q ∧ SV M t (w.map nI) ∧ Ex (InC N) k (5 * k) m M := by
  intro k
  induction k with
  | zero => intro j m ow o4 o5 h hs ht hc h1 h2; exact ⟨m, ow, o4, o5, rfl, h, hs, Ex.refl _ _⟩
  | succ k ih =>
    intro j m ow o4 o5 h hs ht hc h1 h2
    obtain ⟨M1, ow1, p4, p5, e1, j1, x1⟩ := x294_4 (sa := sa) (d := d) h hl hw hs ht hc (h2 j (Nat.le_refl _) (by omega)) h9 o4 o5
    obtain ⟨S1, g1⟩ := hs.exr ht x1 hc
    have hgt := x1.gt
    rw [show 20 * j + 20 = 20 * (j + 1) by omega] at e1 j1
    obtain ⟨M2, ow2, p4', p5', e2, j2, S2, x2⟩ := ih (j + 1) M1 ow1 p4 p5 j1 S1 (by rw [g1]; omega) (by rw [g1]; exact hc) (by omega) (fun i h3 h4 => h2 i (by omega) (by omega))
    rw [show j + 1 + k = j + (k + 1) by omega] at e2 j2
    exact ⟨M2, ow2, p4', p5', e1.trans e2, j2, S2, (x1.trans x2 (fun _ _ z => z)).mono (fun _ _ z => z) (by omega) (by omega)⟩
theorem x294 (h : JT sa m sv N x ow B X s q) (hX : X.n = 0) (hl : LM s q) (hw : ∀ k, k < w.length → bw w k < 128) (hs : SV m t (w.map nI)) (ht : t < gt_ m ∧ gr_ m t 0 < gt_ m) (hc : ¬ InC N t ∧ ¬ InC N (gr_ m t 0)) (h0 : 0 < w.length) (h9 : w.length ≤ 880) : ∃ M ow', am_ca sa sv (d + 4) 294 [.ref N, .ref t] m = some (.inl (some (.int (nI 1))), M) ∧ JT sa M sv N x ow' B (X.wB (bw w) w.length) s q ∧ Ex (InC N) 45 225 m M := by
  have hj : JT sa m sv N x ow B (X.wB (chv w) (20 * 0)) s q := ⟨h.tc.wb0 hX _, h.xg.wB _ _, h.bb, h.ws, h.ks, h.kc, h.s3, h.n0, h.ge⟩
  obtain ⟨M, ow', p4, p5, e1, j1, S1, x1⟩ := x294_k (sa := sa) (d := d) hl hw h9 ((w.length + 19) / 20) 0 m ow none none hj hs ht hc (by omega) (fun i _ h2 => by omega)
  rw [Nat.zero_add] at e1 j1
  have el := n362 (sa := sa) (sv := sv) (d := d + 1) S1
  rw [List.length_map] at el
  have ei := n227 (sa := sa) (sv := sv) (d := d + 2) S1 (by rw [List.length_map]; exact h0)
  obtain ⟨M2, f2, t2, e2⟩ := x153 (sa := sa) (sv := sv) (d := d + 2) j1.tc (nI w.length)
  have eT : (nI w.length).toInt = (w.length : Int) := nI_toInt (by omega)
  have hc2 : 0 ≤ (nI w.length).toInt ∧ (nI w.length).toInt ≤ ((X.wB (chv w) (20 * ((w.length + 19) / 20))).n : Nat) := by
    show 0 ≤ (nI w.length).toInt ∧ (nI w.length).toInt ≤ ((20 * ((w.length + 19) / 20) : Nat) : Int)
    omega
  have eX : cutX (X.wB (chv w) (20 * ((w.length + 19) / 20))) (nI w.length) = X.wB (chv w) w.length := by
    unfold cutX
    rw [if_pos hc2, nI_N (by omega)]; rfl
  have gX := j1.xg.cut (nI w.length)
  rw [eX] at t2 gX
  rw [if_pos hc2] at e2
  have t3 : TC M2 N (X.wB (bw w) w.length) := t2.wb fun k hk => by unfold chv; rw [if_pos hk]
  obtain ⟨j2, x2⟩ := j1.fr hl f2 t3 gX j1.bb
  obtain ⟨S2, g2⟩ := S1.exr (by
    have hgt := x1.gt
    rw [x1.r ht.1 hc.1]; omega) x2 (by
    rw [x1.r ht.1 hc.1]; exact hc)
  have el2 := n362 (sa := sa) (sv := sv) (d := d + 1) S2
  rw [List.length_map] at el2
  refine ⟨M2, ow', ?_, j2, (x1.trans x2 (fun _ _ z => z)).mono (fun _ _ z => z) (by omega) (by omega)⟩
  rw [c294, b294_0]
  refine e1.trans ?_
  rw [b294_4, gq_pos S1.b, el, ci_v, gb_pos (by rw [nI_leE (by omega) (by omega)]; omega), gq_pos S1.b, ei, ci_v, gb_pos nI_0, gq_pos S1.b, el, ci_v, gb_neg (by rw [nI_ltE (by omega) (by omega)]; omega), gq_pos S1.b, el, ci_v, gq_pos j1.k0, e2, ci_v, gq_pos S2.b, el2, ci_v, gb_pos rfl, gq_pos (by decide)]
end J8
