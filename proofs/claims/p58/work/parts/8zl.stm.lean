/-! made statements, read: each kind -/
section T8
variable {b : Nat → Nat} {n i : Nat} {s : Nat → Int32} {q : Nat → Int64}
def tPS0 (tr e : List Nat) (p : Nat) : List Tn := [(tr, kw 7), ([32], nmw 112 p), (e, [59])]
def tPS1 (tr e : List Nat) (p v : Nat) : List Tn := [(tr, kw 7), ([32], nmw 112 p), ([32], kw 8), ([32], dgn v), (e, [59])]
def tWK (tr e : List Nat) (w : Nat) (l : List (Nat × Nat)) : List Tn := (tr, kw 9) :: ([32], nmw 119 w) :: ([32], kw 22) :: (sht l ++ [(e, [59])])
def tCV (tr e : List Nat) (w so pc : Nat) (l : List (Nat × Nat)) : List Tn := (tr, kw 10) :: ([32], nmw 119 w) :: ([32], kw 11) :: ([32], nmw 119 so) :: ([32], dgn pc) :: ([32], kw 22) :: (sht l ++ [(e, [59])])
def tSA (tr e : List Nat) (so w pc : Nat) : List Tn := [(tr, kw 12), ([32], nmw 119 so), ([32], kw 13), ([32], nmw 119 w), ([32], dgn pc), (e, [59])]
def tSP (tr e : List Nat) (w day : Nat) (l : List (Nat × Nat)) : List Tn := (tr, kw 14) :: ([32], nmw 119 w) :: ([32], kw 15) :: ([32], dgn day) :: ([32], kw 22) :: (sht l ++ [(e, [59])])
def tAS (tr e : List Nat) (p w t c f u : Nat) : List Tn := [(tr, kw 16), ([32], nmw 112 p), ([32], kw 13), ([32], nmw 119 w), ([32], kw 17), ([32], nmw 112 t), ([32], dgn c), ([32], kw 15), ([32], dgn f), ([32], kw 18), ([32], dgn u), (e, [59])]
def tAD0 (tr e : List Nat) (p a t c : Nat) : List Tn := [(tr, kw 19), ([32], nmw 112 p), ([32], dgn a), ([32], kw 17), ([32], nmw 112 t), ([32], kw 20), ([32], dgn c), (e, [59])]
def tAD1 (tr e : List Nat) (p a t c w : Nat) : List Tn := [(tr, kw 19), ([32], nmw 112 p), ([32], dgn a), ([32], kw 17), ([32], nmw 112 t), ([32], kw 20), ([32], dgn c), ([32], kw 21), ([32], nmw 119 w), (e, [59])]
theorem rPS0 (hN : NMS s q) (h9 : cN s 0 < 10) {tr e : List Nat} (h : AGs b n i (tPS0 tr e (cN s 0))) : sST s q b n i = .inr (i + 3, pyS s 0, pyQ s q (pv (cN s 0))) ∧ ¬ Kd b n i = 0 := by
  obtain ⟨a0, a1, a2, _⟩ := h
  have k0 := a0.kw (by omega) (by omega)
  have e1 := sFst_r (b := b) (n := n) (i := i) (show ¬ cN s 0 = 10 by omega)
  have e2 := sNew_p hN (a1.p (by omega)) (Nat.le_refl _) (by omega)
  have k2 := a2.s
  have n2 : ¬ Kd b n (i + 1 + 1) = 8 := by omega
  have e3 := sSemi_r k2
  refine ⟨?_, by omega⟩
  unfold sST
  rw [if_pos k0]
  unfold sPS
  simp only [e1, e2, e3, eb_i, if_neg n2]
theorem rPS1 (hN : NMS s q) (h9 : cN s 0 < 10) {tr e : List Nat} {v : Nat} (hv : v < 10000) (h : AGs b n i (tPS1 tr e (cN s 0) v)) : sST s q b n i = .inr (i + 5, pyS s v, pyQ s q (pv (cN s 0))) ∧ ¬ Kd b n i = 0 := by
  obtain ⟨a0, a1, a2, a3, a4, _⟩ := h
  have k0 := a0.kw (by omega) (by omega)
  have e1 := sFst_r (b := b) (n := n) (i := i) (show ¬ cN s 0 = 10 by omega)
  have e2 := sNew_p hN (a1.p (by omega)) (Nat.le_refl _) (by omega)
  have k2 := a2.kw (by omega) (by omega)
  have e3 := sNum_r (lo := 0) (hi := 99999) (AG_n a3 hv) (Nat.zero_le _) (by omega)
  have e4 := sSemi_r a4.s
  refine ⟨?_, by omega⟩
  unfold sST
  rw [if_pos k0]
  unfold sPS
  simp only [e1, e2, e3, e4, eb_i, if_pos k2]
theorem rWK (hN : NMS s q) (h9 : cN s 1 < 12) {tr e : List Nat} {l : List (Nat × Nat)} (hl : ¬ l = []) (h4 : l.length ≤ 4) (hG : GSh s l) (hs : lsum l = 100) (h : AGs b n i (tWK tr e (cN s 1) l)) : sST s q b n i = .inr (i + (2 * l.length + 4), splU (wk1 s) (cN s 1) 0 0 l, wkQ s q (wv (cN s 1))) ∧ ¬ Kd b n i = 0 := by
  obtain ⟨a0, a1, a2, a3⟩ := h
  obtain ⟨a3, a4⟩ := (AGs_app _ _ _).mp a3
  rw [sht_len] at a4
  have k0 := a0.kw (by omega) (by omega)
  have k4 := a4.1.s
  have e1 := sFst_r (b := b) (n := n) (i := i) (show ¬ cN s 1 = 12 by omega)
  have e2 := sNew_w hN (a1.w (by omega)) (Nat.le_refl _) (by omega)
  have e3 := sShs_r hN a2 a3 (by omega) hl h4 hG
  have e4 := sSemi_r k4
  refine ⟨?_, by omega⟩
  unfold sST
  rw [if_neg (by omega), if_pos k0]
  unfold sWK
  simp only [e1, e2, e3, eb_i, hs, if_true, e4]
  rw [show i + 1 + 1 + 1 + 2 * l.length + 1 = i + (2 * l.length + 4) by omega]
theorem rCV (hN : NMS s q) (h9 : cN s 1 < 12) {tr e : List Nat} {so pc : Nat} (hso : so < cN s 1) (h1 : 1 ≤ pc) (h90 : pc ≤ 90) {l : List (Nat × Nat)} (hl : ¬ l = []) (h4 : l.length ≤ 4) (hG : GSh s l) (hs : lsum l = 100) (h : AGs b n i (tCV tr e (cN s 1) so pc l)) : sST s q b n i = .inr (i + (2 * l.length + 7), srcU (splU (wk1 s) (cN s 1) 0 0 l) (cN s 1) 0 so pc, wkQ s q (wv (cN s 1))) ∧ ¬ Kd b n i = 0 := by
  obtain ⟨a0, a1, b1, b2, b3, a2, a3⟩ := h
  obtain ⟨a3, a4⟩ := (AGs_app _ _ _).mp a3
  rw [sht_len] at a4
  have k0 := a0.kw (by omega) (by omega)
  have k4 := a4.1.s
  have e1 := sFst_r (b := b) (n := n) (i := i) (show ¬ cN s 1 = 12 by omega)
  have e2 := sNew_w hN (a1.w (by omega)) (Nat.le_refl _) (by omega)
  have f1 := sTake_r (b1.kw (by omega) (by omega))
  have f2 := sWrk_r hN (b2.w (by omega)) hso rmz
  have f3 := sNum_r (AG_n b3 (by omega)) h1 h90
  have e3 := sShs_r hN a2 a3 (by omega) hl h4 hG
  have e4 := sSemi_r k4
  refine ⟨?_, by omega⟩
  unfold sST
  rw [if_neg (by omega), if_neg (by omega), if_pos k0]
  unfold sCV
  simp only [e1, e2, f1, f2, f3, e3, eb_i, hs, if_true, e4]
  rw [show i + 1 + 1 + 1 + 1 + 1 + 1 + 2 * l.length + 1 = i + (2 * l.length + 7) by omega]
theorem rSA (hN : NMS s q) {tr e : List Nat} {so w pc : Nat} (hso : so < w) (hw : w < cN s 1) (h1 : 1 ≤ pc) (h90 : pc ≤ 90) (h3 : ¬ cN s (59 + 48 * w) = 3) (hwh : whS s so w pc = 0) (h : AGs b n i (tSA tr e so w pc)) : sST s q b n i = .inr (i + 6, srcU s w (cN s (59 + 48 * w)) so pc, q) ∧ ¬ Kd b n i = 0 := by
  obtain ⟨a0, a1, a2, a3, a4, a5, _⟩ := h
  have h12 := hN.2.2.2
  have k0 := a0.kw (by omega) (by omega)
  have e1 := sWrk_r hN (a1.w (by omega)) (show so < cN s 1 by omega) rmz
  have e2 := sTake_r (a2.kw (by omega) (by omega))
  have e3 := sWrk_r hN (t := 1) (a3.w (by omega)) hw (fun z => by
    rcases z with z | z
    · exact h3 z.2
    · exact absurd z.1 (by decide))
  have e4 := sNum_r (AG_n a4 (by omega)) h1 h90
  have e5 := sSemi_r a5.s
  refine ⟨?_, by omega⟩
  unfold sST
  rw [if_neg (by omega), if_neg (by omega), if_neg (by omega), if_pos k0]
  unfold sSA
  simp only [e1, e2, e3, e4, eb_i, hwh, e5]
theorem rSP (hN : NMS s q) {tr e : List Nat} {w day : Nat} (hw : w < cN s 1) (h1 : 1 ≤ day) (h9 : day < 10000) {l : List (Nat × Nat)} (hl : ¬ l = []) (h4 : l.length ≤ 4) (hG : GSh s l) (hn : ¬ cN s (18 + 48 * w) = 4) (hwh : whP s w day l = 0) (h : AGs b n i (tSP tr e w day l)) : sST s q b n i = .inr (i + (2 * l.length + 6), splU s w (cN s (18 + 48 * w)) day l, q) ∧ ¬ Kd b n i = 0 := by
  obtain ⟨a0, a1, b1, b2, a2, a3⟩ := h
  obtain ⟨a3, a4⟩ := (AGs_app _ _ _).mp a3
  rw [sht_len] at a4
  have h12 := hN.2.2.2
  have k0 := a0.kw (by omega) (by omega)
  have k4 := a4.1.s
  have e1 := sWrk_r hN (t := 2) (a1.w (by omega)) hw (fun z => by
    rcases z with z | z
    · exact absurd z.1 (by decide)
    · exact hn z.2)
  have f1 := sTake_r (b1.kw (by omega) (by omega))
  have f2 := sNum_r (lo := 1) (hi := 9999) (AG_n b2 h9) h1 (by omega)
  have e3 := sShs_r hN a2 a3 (by omega) hl h4 hG
  have e4 := sSemi_r k4
  refine ⟨?_, by omega⟩
  unfold sST
  rw [if_neg (by omega), if_neg (by omega), if_neg (by omega), if_neg (by omega), if_pos k0]
  unfold sSP
  simp only [e1, f1, f2, e3, eb_i, hwh, e4]
  rw [show i + 1 + 1 + 1 + 1 + 1 + 2 * l.length + 1 = i + (2 * l.length + 6) by omega]
theorem rAS (hN : NMS s q) (h16 : cN s 2 < 16) {tr e : List Nat} {p w t c f u : Nat} (hp : p < cN s 0) (hw : w < cN s 1) (ht : t < cN s 0) (hc : 1 ≤ c) (hc2 : c ≤ 100) (hf : f < 10000) (hu : 1 ≤ u) (hu2 : u < 10000) (hwh : whA s p w t c f u = 0) (h : AGs b n i (tAS tr e p w t c f u)) : sST s q b n i = .inr (i + 12, rowU s 594 2 (cN s 2) (v6c (nI p) (nI w) (nI t) (nI c) (nI f) (nI u)), q) ∧ ¬ Kd b n i = 0 := by
  obtain ⟨a0, a1, a2, a3, a4, a5, a6, a7, a8, a9, a10, a11, _⟩ := h
  have h10 := hN.2.2.1
  have h12 := hN.2.2.2
  have k0 := a0.kw (by omega) (by omega)
  have e0 := sFst_r (b := b) (n := n) (i := i) (show ¬ cN s 2 = 16 by omega)
  have e1 := sPay_r hN (a1.p (by omega)) hp
  have e2 := sTake_r (a2.kw (by omega) (by omega))
  have e3 := sWrk_r hN (a3.w (by omega)) hw rmz
  have e4 := sTake_r (a4.kw (by omega) (by omega))
  have e5 := sPay_r hN (a5.p (by omega)) ht
  have e6 := sNum_r (lo := 1) (hi := 100) (AG_n a6 (by omega)) hc hc2
  have e7 := sTake_r (a7.kw (by omega) (by omega))
  have e8 := sNum_r (lo := 0) (hi := 9999) (AG_n a8 hf) (Nat.zero_le _) (by omega)
  have e9 := sTake_r (a9.kw (by omega) (by omega))
  have e10 := sNum_r (lo := 1) (hi := 9999) (AG_n a10 hu2) hu (by omega)
  have e11 := sSemi_r a11.s
  refine ⟨?_, by omega⟩
  unfold sST
  rw [if_neg (by omega), if_neg (by omega), if_neg (by omega), if_neg (by omega), if_neg (by omega), if_pos k0]
  unfold sAS
  simp only [e0, e1, e2, e3, e4, e5, e6, e7, e8, e9, e10, eb_i, hwh, e11]
theorem rAD0 (hN : NMS s q) (h12 : cN s 3 < 12) {tr e : List Nat} {p a t c : Nat} (hp : p < cN s 0) (ht : t < cN s 0) (ha : 1 ≤ a) (ha2 : a < 10000) (hc : 1 ≤ c) (hc2 : c ≤ 100) (hpt : ¬ p = t) (h : AGs b n i (tAD0 tr e p a t c)) : sST s q b n i = .inr (i + 8, rowU s 690 3 (cN s 3) (v6c (nI p) (nI t) (nI a) (nI c) (-1) (nI a)), q) ∧ ¬ Kd b n i = 0 := by
  obtain ⟨a0, a1, a2, a3, a4, a5, a6, a7, _⟩ := h
  have h10 := hN.2.2.1
  have k0 := a0.kw (by omega) (by omega)
  have e0 := sFst_r (b := b) (n := n) (i := i) (show ¬ cN s 3 = 12 by omega)
  have e1 := sPay_r hN (a1.p (by omega)) hp
  have e2 := sNum_r (lo := 1) (hi := 999999) (AG_n a2 ha2) ha (by omega)
  have e3 := sTake_r (a3.kw (by omega) (by omega))
  have e4 := sPay_r hN (a4.p (by omega)) ht
  have e5 := sTake_r (a5.kw (by omega) (by omega))
  have e6 := sNum_r (lo := 1) (hi := 100) (AG_n a6 (by omega)) hc hc2
  have k7 := a7.s
  have n7 : ¬ Kd b n (i + 1 + 1 + 1 + 1 + 1 + 1 + 1) = 21 := by omega
  have e7 := sSemi_r k7
  refine ⟨?_, by omega⟩
  unfold sST
  rw [if_neg (by omega), if_neg (by omega), if_neg (by omega), if_neg (by omega), if_neg (by omega), if_neg (by omega), if_pos k0]
  unfold sAD
  simp only [e0, e1, e2, e3, e4, e5, e6, eb_i, if_neg n7]
  unfold sADt
  simp only [if_neg hpt, e7, eb_i]
theorem rAD1 (hN : NMS s q) (h12 : cN s 3 < 12) {tr e : List Nat} {p a t c w : Nat} (hp : p < cN s 0) (ht : t < cN s 0) (ha : 1 ≤ a) (ha2 : a < 10000) (hc : 1 ≤ c) (hc2 : c ≤ 100) (hpt : ¬ p = t) (hw : w < cN s 1) (h : AGs b n i (tAD1 tr e p a t c w)) : sST s q b n i = .inr (i + 10, rowU s 690 3 (cN s 3) (v6c (nI p) (nI t) (nI a) (nI c) (nI w) (nI a)), q) ∧ ¬ Kd b n i = 0 := by
  obtain ⟨a0, a1, a2, a3, a4, a5, a6, a7, a8, a9, _⟩ := h
  have h10 := hN.2.2.1
  have hw12 := hN.2.2.2
  have k0 := a0.kw (by omega) (by omega)
  have e0 := sFst_r (b := b) (n := n) (i := i) (show ¬ cN s 3 = 12 by omega)
  have e1 := sPay_r hN (a1.p (by omega)) hp
  have e2 := sNum_r (lo := 1) (hi := 999999) (AG_n a2 ha2) ha (by omega)
  have e3 := sTake_r (a3.kw (by omega) (by omega))
  have e4 := sPay_r hN (a4.p (by omega)) ht
  have e5 := sTake_r (a5.kw (by omega) (by omega))
  have e6 := sNum_r (lo := 1) (hi := 100) (AG_n a6 (by omega)) hc hc2
  have k7 := a7.kw (by omega) (by omega)
  have e8 := sWrk_r hN (a8.w (by omega)) hw rmz
  have e9 := sSemi_r a9.s
  refine ⟨?_, by omega⟩
  unfold sST
  rw [if_neg (by omega), if_neg (by omega), if_neg (by omega), if_neg (by omega), if_neg (by omega), if_neg (by omega), if_pos k0]
  unfold sAD
  simp only [e0, e1, e2, e3, e4, e5, e6, eb_i, if_pos k7, e8]
  unfold sADt
  simp only [if_neg hpt, e9, eb_i]
end T8
