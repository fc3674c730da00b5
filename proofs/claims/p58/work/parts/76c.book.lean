/-! what is always so stays so behind a booking -/
/-- balances are no less than 0, and bounded -/
def WB (B : Nat) (q : Nat → Int64) : Prop := ∀ p, p < 10 → 0 ≤ (q p).toInt ∧ (q p).toInt ≤ (B : Int) * 40000000
def WG (B : Nat) (s : Nat → Int32) (q : Nat → Int64) : Prop := WF B s q ∧ WB B q
theorem WB.mono {B B' : Nat} {q : Nat → Int64} (h : WB B q) (hb : B ≤ B') : WB B' q := fun p hp => by
  have := h p hp
  refine ⟨this.1, ?_⟩
  have h2 : (B : Int) * 40000000 ≤ (B' : Int) * 40000000 := by omega
  omega
theorem WK.mono {B B' : Nat} {s : Nat → Int32} (h : WK B s) (hb : B ≤ B') : WK B' s := by
  obtain ⟨⟨k, h1, h2⟩, h3⟩ := h
  exact ⟨⟨k, by omega, h2⟩, h3⟩
theorem WF.mono {B B' : Nat} {s : Nat → Int32} {q : Nat → Int64} (h : WF B s q) (hb : B ≤ B') : WF B' s q := by
  obtain ⟨c, w, a, d, l, z, k, n⟩ := h
  exact ⟨c, w, a, d, l, z, k.mono hb, n⟩
theorem WG.mono {B B' : Nat} {s : Nat → Int32} {q : Nat → Int64} (h : WG B s q) (hb : B ≤ B') : WG B' s q := ⟨h.1.mono hb, h.2.mono hb⟩
theorem nL_int {n : Nat} (h : n < 2 ^ 31) : ((nI n).toInt64).toInt = (n : Int) := by rw [Int32.toInt_toInt64, nI_toInt h]
section R76
variable {N o B : Nat} {s : Nat → Int32} {q : Nat → Int64}
theorem WG.book (h : WG B s q) (hB : B < 2 ^ 30) {l : List Ln} {f : Nat → Nat} (hl : l.length ≤ 64) (hb : lsm_ l ≤ 9999999) (hG : ∀ x ∈ l, GL s x) (hfb : ∀ u, f u ≤ 9999999) (hf0 : ∀ u, cN s 1 ≤ u → f u = 0) : WG (B + 1) (bS_ s l) (bQ_ s l f q) := by
  obtain ⟨hF, hWB⟩ := h
  obtain ⟨c, w, a, d, li, z, k, n⟩ := hF
  have hnp := isN_lt (wc_np c) (by decide)
  have hnw := isN_lt (wc_nw c) (by decide)
  have hnd := isN_lt (wc_nd c) (by decide)
  have hs : ∀ k, ¬ k = 6 → (k < 690 ∨ (762 ≤ k ∧ k < 767) ∨ (k < 762 ∧ ¬ (k - 690) % 6 = 5)) → bS_ s l k = s k := fun k x y => bS_o l x y
  have hq : ∀ k, 212 ≤ k → bQ_ s l f q k = q k := fun k h => by unfold bQ_; rw [bN_o l f h, nL_0]
  have e0 : bS_ s l 0 = s 0 := hs _ (by omega) (by omega)
  have e1 : bS_ s l 1 = s 1 := hs _ (by omega) (by omega)
  have e2 : bS_ s l 2 = s 2 := hs _ (by omega) (by omega)
  have e3 : bS_ s l 3 = s 3 := hs _ (by omega) (by omega)
  have e6 : bS_ s l 6 = nI l.length := if_pos rfl
  have c6 : cN (bS_ s l) 6 = l.length := cN_ e6 (by omega)
  refine ⟨⟨?_, ?_, ?_, ?_, ?_, ?_, ?_, ?_⟩, ?_⟩
  · obtain ⟨a0, a1, a2, a3, a4, a6, a8⟩ := c
    exact ⟨by rw [e0]; exact a0, by rw [e1]; exact a1, by rw [e2]; exact a2, by rw [e3]; exact a3, by rw [hs _ (by omega) (by omega)]; exact a4, ⟨l.length, by omega, e6⟩, fun p hp => by rw [hs _ (by omega) (by omega)]; exact a8 p hp⟩
  · exact w.cg c e0 e1 (fun k h1 h2 => hs k (by omega) (by omega))
  · exact a.cg c e0 e1 e2 (fun k h1 h2 => hs k (by omega) (by omega))
  · obtain ⟨a1, a2, a3, a4, a5, a6, a7⟩ := d
    refine ⟨fun a ha => ?_, fun a ha => ?_, fun a ha => ?_, fun a ha => ?_, fun a ha => ?_, fun a ha => ?_, fun a ha hb => ?_⟩
    all_goals rw [cN_cg e3] at ha
    · rw [hs _ (by omega) (by omega), cN_cg e0]; exact a1 a ha
    · rw [hs _ (by omega) (by omega), cN_cg e0]; exact a2 a ha
    · rw [hs _ (by omega) (by omega)]; exact a3 a ha
    · rw [hs _ (by omega) (by omega), cN_cg (hs _ (by omega) (by omega))]; exact a4 a ha
    · rw [hs _ (by omega) (by omega), cN_cg e1]; exact a5 a ha
    · rw [bS_d l (by omega)]
      have h1 := isN_lt (a6 a ha) (by decide)
      have h2 := wh_open s l a l.length
      exact ⟨_, by omega, rfl⟩
    · rw [bS_d l hb]
      have h1 := a7 a ha hb
      have h2 := wh_open s l a l.length
      have h3 : cN s (690 + 6 * a + 5) = 0 := cN_ (h1.trans nI_0.symm) (by decide)
      rw [show (wh_ s l l.length).1 a = 0 by omega, nI_0]
  · have key : ∀ i, i < l.length → ∃ x, GL s x ∧ bS_ s l (767 + 4 * i + 0) = nI x.1 ∧ bS_ s l (767 + 4 * i + 1) = nI x.2.1 ∧ bS_ s l (767 + 4 * i + 2) = nI x.2.2.1 ∧ ∃ y, y ≤ x.2.2.1 ∧ bS_ s l (767 + 4 * i + 3) = nI y := fun i hi => by
      have hx : l[i]? = some l[i] := List.getElem?_eq_getElem hi
      generalize l[i] = x at hx
      have hv : ∀ j, j < 4 → bS_ s l (767 + 4 * i + j) = if j = 0 then nI x.1 else if j = 1 then nI x.2.1 else if j = 2 then nI x.2.2.1 else nI (wd_ s l i) := fun j hj => by
        rw [show 767 + 4 * i + j = 767 + (4 * i + j) by omega, bS_l l (by omega)]
        unfold lnv_
        rw [show (4 * i + j) / 4 = i by omega, show (4 * i + j) % 4 = j by omega, hx]
      exact ⟨x, hG x (List.mem_of_getElem? hx), hv 0 (by omega), hv 1 (by omega), hv 2 (by omega), wd_ s l i, wd_le hx, hv 3 (by omega)⟩
    refine ⟨fun i hi => ?_, fun i hi => ?_, fun i hi => ?_, fun i hi => ?_⟩
    all_goals rw [c6] at hi
    all_goals obtain ⟨x, ⟨g1, g2, g3, g4, -⟩, v0, v1, v2, y, hy, v3⟩ := key i hi
    · rw [v0, cN_cg e1]; exact ⟨_, g1, rfl⟩
    · rw [v1, cN_cg e0]; exact ⟨_, g2, rfl⟩
    · rw [v2]; exact ⟨_, by omega, rfl⟩
    · rw [v3]; exact ⟨_, by omega, rfl⟩
  · have h10 : cN s 0 ≤ 2 ^ 31 := by omega
    have hog : ∀ p, cN s 0 ≤ p → og_ s l p l.length = 0 ∧ dw_ s l p l.length = 0 ∧ eg_ l p l.length = 0 := fun p hp => by
      have h1 := eg_hi hG hp l.length
      have h2 := dw_og (s := s) (l := l) p l.length
      omega
    have hb2 : ∀ p c, cN s 0 ≤ p → bA2 s l p c l.length = 0 := fun p c hp => by
      obtain ⟨h1, h2, h3⟩ := hog p hp
      unfold bA2
      rw [h2, h3]
      repeat' split
      all_goals rfl
    obtain ⟨a1, a2, a3, a4⟩ := z
    refine ⟨fun p h1 h2 => ?_, fun p c h1 h2 h3 => ?_, fun p c h1 h2 h3 => ?_, fun w h2 h3 => ?_⟩
    · rw [cN_cg e0] at h1
      unfold bQ_
      rw [bN_b0 l f h2, (hog p h1).1, wh_hi d l h1 h10, a1 p h1 h2]; rfl
    · rw [cN_cg e0] at h1
      unfold bQ_
      rw [bN_t l f h2 h3, hb2 p c h1, wh_hi d l h1 h10, ite_self, a2 p c h1 h2 h3]; rfl
    · rw [cN_cg e0] at h1
      unfold bQ_
      rw [bN_p l f h2 h3, hb2 p c h1, wh_hi d l h1 h10, ite_self, a3 p c h1 h2 h3]; rfl
    · rw [cN_cg e1] at h2
      unfold bQ_
      rw [bN_w l f h3, hf0 w h2, a4 w h2 h3]; rfl
  · exact (k.cg (hs _ (by omega) (by omega)) (hs _ (by omega) (by omega))).mono (by omega)
  · exact n.cg c e0 e1 (fun k h1 h2 => hq k (by omega))
  · intro p hp
    obtain ⟨h1, h2⟩ := hWB p hp
    have h3 := bN_b d hb hfb p
    unfold bQ_
    rw [Int64.toInt_add, nL_int (by omega), Int.bmod_eq_of_le (by omega) (by omega)]
    omega
end R76
