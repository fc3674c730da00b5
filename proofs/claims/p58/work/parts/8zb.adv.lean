/-! one advance withholds of a line -/
/-- rows with other numbers left of advances -/
def Sd (s : Nat → Int32) (op : Nat → Nat) (k : Nat) : Int32 := if 690 ≤ k ∧ k < 762 ∧ (k - 690) % 6 = 5 then nI (op ((k - 690) / 6)) else s k
/-- what payees have, earned, kept back, got back -/
def Nm (og eg dw rt : Nat → Nat) (k : Nat) : Nat := if k < 10 then og k + rt k else if (k - 10) % 4 = 0 then eg ((k - 10) / 4) else if (k - 10) % 4 = 1 then dw ((k - 10) / 4) else if (k - 10) % 4 = 2 then rt ((k - 10) / 4) else 0
def Qn (q : Nat → Int64) (n : Nat → Nat) (k : Nat) : Int64 := q k + (nI (n k)).toInt64
def adn (n : Nat → Nat) (j v : Nat) (k : Nat) : Nat := if k = j then n k + v else n k
section W8
variable {sa sv d x r p : Nat} {m : am_M} {ow : Nat → Nat} {s : Nat → Int32} {q : Nat → Int64} {og eg dw rt op : Nat → Nat}
theorem Qn.add {n : Nat → Nat} {j v : Nat} (h : n j + v < 2 ^ 31) : upq (Qn q n) j (Qn q n j + (nI v).toInt64) = Qn q (adn n j v) := by
  funext k
  show (if k = j then q j + (nI (n j)).toInt64 + (nI v).toInt64 else q k + (nI (n k)).toInt64) = q k + (nI (if k = j then n k + v else n k)).toInt64
  by_cases e : k = j
  · subst e
    rw [if_pos rfl, if_pos rfl]
    exact nL_acc _ h
  · rw [if_neg e, if_neg e]
theorem Nm_rt {g v : Nat} (hg : g < 10) : adn (adn (Nm og eg dw rt) g v) (10 + 4 * g + 2) v = Nm og eg dw (adn rt g v) := by
  funext k
  show (if k = 10 + 4 * g + 2 then (if k = g then Nm og eg dw rt k + v else Nm og eg dw rt k) + v else (if k = g then Nm og eg dw rt k + v else Nm og eg dw rt k)) = (if k < 10 then og k + (if k = g then rt k + v else rt k) else if (k - 10) % 4 = 0 then eg ((k - 10) / 4) else if (k - 10) % 4 = 1 then dw ((k - 10) / 4) else if (k - 10) % 4 = 2 then (if (k - 10) / 4 = g then rt ((k - 10) / 4) + v else rt ((k - 10) / 4)) else 0)
  unfold Nm
  by_cases e1 : k < 10
  · have e2 : ¬ k = 10 + 4 * g + 2 := by omega
    simp only [if_pos e1, if_neg e2]
    split <;> omega
  · have e3 : ¬ k = g := by omega
    simp only [if_neg e1, if_neg e3]
    by_cases e2 : k = 10 + 4 * g + 2
    · have e4 : (k - 10) % 4 = 2 := by omega
      have e5 : (k - 10) / 4 = g := by omega
      rw [if_pos e2, if_pos e5, e4]
      rfl
    · rw [if_neg e2]
      by_cases e4 : (k - 10) % 4 = 2
      · have e5 : ¬ (k - 10) / 4 = g := by omega
        rw [if_neg e5]
      · rw [if_neg e4, if_neg e4]
theorem Nm_og {g v : Nat} (hg : g < 10) : adn (Nm og eg dw rt) g v = Nm (adn og g v) eg dw rt := by
  funext k
  show (if k = g then Nm og eg dw rt k + v else Nm og eg dw rt k) = (if k < 10 then (if k = g then og k + v else og k) + rt k else if (k - 10) % 4 = 0 then eg ((k - 10) / 4) else if (k - 10) % 4 = 1 then dw ((k - 10) / 4) else if (k - 10) % 4 = 2 then rt ((k - 10) / 4) else 0)
  unfold Nm
  by_cases e1 : k < 10
  · simp only [if_pos e1]
    split <;> omega
  · have e3 : ¬ k = g := by omega
    simp only [if_neg e1, if_neg e3]
theorem Nm_ed {g v u : Nat} : adn (adn (Nm og eg dw rt) (10 + 4 * g) v) (10 + 4 * g + 1) u = Nm og (adn eg g v) (adn dw g u) rt := by
  funext k
  show (if k = 10 + 4 * g + 1 then (if k = 10 + 4 * g then Nm og eg dw rt k + v else Nm og eg dw rt k) + u else (if k = 10 + 4 * g then Nm og eg dw rt k + v else Nm og eg dw rt k)) = (if k < 10 then og k + rt k else if (k - 10) % 4 = 0 then (if (k - 10) / 4 = g then eg ((k - 10) / 4) + v else eg ((k - 10) / 4)) else if (k - 10) % 4 = 1 then (if (k - 10) / 4 = g then dw ((k - 10) / 4) + u else dw ((k - 10) / 4)) else if (k - 10) % 4 = 2 then rt ((k - 10) / 4) else 0)
  unfold Nm
  by_cases e1 : k < 10
  · have e2 : ¬ k = 10 + 4 * g + 1 := by omega
    have e3 : ¬ k = 10 + 4 * g := by omega
    simp only [if_pos e1, if_neg e2, if_neg e3]
  · simp only [if_neg e1]
    by_cases e5 : (k - 10) / 4 = g
    · simp only [if_pos e5]
      by_cases e2 : (k - 10) % 4 = 0
      · have e3 : k = 10 + 4 * g := by omega
        have e4 : ¬ k = 10 + 4 * g + 1 := by omega
        rw [if_neg e4, if_pos e3, if_pos e2, if_pos e2]
      · have e3 : ¬ k = 10 + 4 * g := by omega
        rw [if_neg e3, if_neg e2, if_neg e2]
        by_cases e6 : (k - 10) % 4 = 1
        · rw [if_pos (show k = 10 + 4 * g + 1 by omega), if_pos e6, if_pos e6]
        · rw [if_neg (show ¬ k = 10 + 4 * g + 1 by omega), if_neg e6, if_neg e6]
    · have e3 : ¬ k = 10 + 4 * g := by omega
      have e4 : ¬ k = 10 + 4 * g + 1 := by omega
      simp only [if_neg e5, if_neg e3, if_neg e4]
theorem Sd.lo {k : Nat} (hk : k < 690) : Sd s op k = s k := if_neg (by omega)
theorem Sd.no {a c : Nat} (hc : c < 5) : Sd s op (690 + 6 * a + c) = s (690 + 6 * a + c) := if_neg (by omega)
theorem Sd.at {a : Nat} (ha : a < 12) : Sd s op (690 + 6 * a + 5) = nI (op a) := by
  unfold Sd
  rw [if_pos (by omega), show (690 + 6 * a + 5 - 690) / 6 = a by omega]
theorem Sd.up {a v : Nat} (ha : a < 12) : up1 (Sd s op) (690 + 6 * a + 5) (nI v) = Sd s (fun b => if b = a then v else op b) := by
  funext k
  show (if k = 690 + 6 * a + 5 then nI v else Sd s op k) = (if 690 ≤ k ∧ k < 762 ∧ (k - 690) % 6 = 5 then nI (if (k - 690) / 6 = a then v else op ((k - 690) / 6)) else s k)
  unfold Sd
  by_cases e : k = 690 + 6 * a + 5
  · rw [if_pos e, if_pos (by omega), if_pos (by omega)]
  · rw [if_neg e]
    by_cases e2 : 690 ≤ k ∧ k < 762 ∧ (k - 690) % 6 = 5
    · rw [if_pos e2, if_pos e2, if_neg (by omega)]
    · rw [if_neg e2, if_neg e2]
theorem WC.sd (h : WC s) : WC (Sd s op) := h.cg (Sd.lo (by omega)) (Sd.lo (by omega)) (Sd.lo (by omega)) (Sd.lo (by omega)) (Sd.lo (by omega)) (Sd.lo (by omega)) (fun p hp => Sd.lo (by omega))
theorem WW.sd (h : WW s) (hC : WC s) : WW (Sd s op) := h.cg hC (Sd.lo (by omega)) (Sd.lo (by omega)) (fun k _ h2 => Sd.lo (by omega))
theorem GLm.sd (h : GLm s) : GLm (Sd s op) := by
  have e1 : cN (Sd s op) 1 = cN s 1 := cN_cg (Sd.lo (by omega))
  refine ⟨by rw [e1]; exact h.1, fun w hw => ?_⟩
  rw [e1] at hw
  have h1 := h.1
  rw [cN_cg (Sd.lo (s := s) (op := op) (k := 18 + 48 * w) (by omega)), cN_cg (Sd.lo (s := s) (op := op) (k := 59 + 48 * w) (by omega))]
  exact h.2 w hw
theorem min_ltN {a b : Nat} (ha : a < 2 ^ 31) (hb : b < 2 ^ 31) : (if nI b < nI a then nI b else nI a) = nI (min a b) := by
  by_cases q : b < a
  · rw [if_pos ((nI_ltI hb ha).mpr q), show min a b = b by omega]
  · rw [if_neg (fun z => q ((nI_ltI hb ha).mp z)), show min a b = a by omega]
theorem x290_156 (h : WS m sv x ow (Sd s op) (Qn q (Nm og eg dw rt))) (hC : WC s) (hW : WW s) (hG : GLm s) (hna : cN s 2 ≤ 16) (hnd : cN s 3 ≤ 12) {L : List Nat} (hL : LW m sv ow (gr_ m x 5) 5 L) (hl : L.length = cN s 3) {a g rate left kp : Nat} (ha : a < L.length) (ka : gk_ m (L.getD a 0) = (2, 6)) (v0 : gi_ m (L.getD a 0) 0 = nI g) (v3 : gi_ m (L.getD a 0) 3 = nI rate) (v5 : gi_ m (L.getD a 0) 5 = nI (op a)) (hg : g < 10) (hr : rate ≤ 100) (ho : op a < 2 ^ 30) (hlf : left ≤ 9999999) (hkp : kp = min (left * rate / 100) (op a)) (hb : og g + rt g + kp < 2 ^ 31) (l1 l2 : Int32) (l3 l4 it : Nat) (o9 : Option Value) : ∃ m2 o9', r290 sa sv d 156 [some (.ref x), some (.int l1), some (.int l2), some (.ref l3), some (.ref l4), some (.ref r), some (.int (nI left)), some (.ref it), some (.ref (L.getD a 0)), o9] [] m = r290 sa sv d 102 [some (.ref x), some (.int l1), some (.int l2), some (.ref l3), some (.ref l4), some (.ref r), some (.int (nI (left - kp))), some (.ref it), some (.ref (L.getD a 0)), o9'] [] m2 ∧ WS m2 sv x ow (Sd s (fun b => if b = a then op a - kp else op b)) (Qn q (Nm og eg dw (adn rt g kp))) ∧ Lg ow (si_ m (L.getD a 0) 5 (nI (op a - kp))) m2 := by
  have e3 : cN (Sd s op) 3 = cN s 3 := cN_cg (Sd.lo (by omega))
  have e2 : cN (Sd s op) 2 = cN s 2 := cN_cg (Sd.lo (by omega))
  have hC' : WC (Sd s op) := hC.sd
  have hW' : WW (Sd s op) := hW.sd hC
  have hG' : GLm (Sd s op) := hG.sd
  have W1 := h.adv1 hC' hW' hG' hL (by rw [e3]; exact hl) ha (by omega) (show 5 < 6 by omega) (by rw [e2]; exact hna) (by rw [e3]; exact hnd) (nI (op a - kp))
  rw [Sd.up (show a < 12 by omega)] at W1
  have hC2 : WC (Sd s (fun b => if b = a then op a - kp else op b)) := hC.sd
  have hW2 : WW (Sd s (fun b => if b = a then op a - kp else op b)) := hW.sd hC
  have hG2 : GLm (Sd s (fun b => if b = a then op a - kp else op b)) := hG.sd
  have n1 : Nm og eg dw rt g = og g + rt g := if_pos hg
  have W2 := W1.bal1 hC2 hW2 hG2 hg (Qn q (Nm og eg dw rt) g + (nI kp).toInt64)
  rw [Qn.add (by rw [n1]; exact hb)] at W2
  have n2 : adn (Nm og eg dw rt) g kp (10 + 4 * g + 2) = rt g := by
    show (if 10 + 4 * g + 2 = g then _ else Nm og eg dw rt (10 + 4 * g + 2)) = _
    rw [if_neg (by omega)]
    unfold Nm
    rw [if_neg (by omega), if_neg (by omega), if_neg (by omega), if_pos (by omega), show (10 + 4 * g + 2 - 10) / 4 = g by omega]
  have W3 := W2.tot1 hC2 hW2 hG2 hg (show 2 < 4 by omega) (Qn q (adn (Nm og eg dw rt) g kp) (10 + 4 * g + 2) + (nI kp).toInt64)
  rw [Qn.add (by rw [n2]; omega), Nm_rt hg] at W3
  have n3 : Qn q (adn (Nm og eg dw rt) g kp) (10 + 4 * g + 2) = Qn q (Nm og eg dw rt) (10 + 4 * g + 2) := by
    show q (10 + 4 * g + 2) + (nI (if 10 + 4 * g + 2 = g then _ else Nm og eg dw rt (10 + 4 * g + 2))).toInt64 = _
    rw [if_neg (by omega)]
    rfl
  have z7 : ¬ gr_ m x 7 = 0 := h.ba.2.1.2.2
  have z9 : ¬ gr_ m x 9 = 0 := h.tot.2.1.2.2
  have t1 := h.tot.2.2 g hg
  obtain ⟨f10, d10⟩ := h.cu
  have z10 : ¬ gr_ m x 10 = 0 := d10.2.1.2.2
  have c1 := d10.2.2 g hg
  have hm : left * rate < 2 ^ 31 := by
    have : left * rate ≤ 9999999 * 100 := Nat.mul_le_mul hlf hr
    omega
  have hd : left * rate / 100 ≤ left * rate := Nat.div_le_self _ _
  have ekp : (if nI (op a) < nI (left * rate / 100) then nI (op a) else nI (left * rate / 100)) = nI kp := by
    rw [min_ltN (by omega) (by omega), hkp]
  have k1 : kp ≤ op a := by rw [hkp]; omega
  have k2 : kp ≤ left := by
    have : left * rate / 100 ≤ left := by
      refine Nat.div_le_of_le_mul ?_
      rw [Nat.mul_comm 100]
      exact Nat.mul_le_mul_left _ hr
    omega
  have u0 : gi_ (si_ m (L.getD a 0) 5 (nI (op a - kp))) (L.getD a 0) 0 = nI g := by rw [gi_si, if_neg (by omega), v0]
  have g1 : gl_ (sl_ (si_ m (L.getD a 0) 5 (nI (op a - kp))) (gr_ m x 7) g (Qn q (Nm og eg dw rt) g + (nI kp).toInt64)) (gr_ m (gr_ m x 9) g) 2 = Qn q (adn (Nm og eg dw rt) g kp) (10 + 4 * g + 2) := (W2.tot.2.2 g hg).2.2 2 (by omega)
  have W4 := W3.cur1 hC2 hW2 hG2 (j := 2) hg (gl_ (sl_ (sl_ (si_ m (L.getD a 0) 5 (nI (op a - kp))) (gr_ m x 7) g (Qn q (Nm og eg dw rt) g + (nI kp).toInt64)) (gr_ m (gr_ m x 9) g) 2 (Qn q (adn (Nm og eg dw rt) g kp) (10 + 4 * g + 2) + (nI kp).toInt64)) (gr_ m (gr_ m x 10) g) 2 + (nI kp).toInt64)
  refine ⟨_, some (.int (nI kp)), ?_, W4, ((Lg.sl _ _ _ h.ba.2.1.1 (by omega)).trans (Lg.sl _ _ _ t1.2.1.1 (by omega))).trans (Lg.sl _ _ _ c1.2.1.1 (by omega))⟩
  rw [b290_156, ka, nI_clamp (show 0 < 2 ^ 31 by omega), nI_clamp (show 2 < 2 ^ 31 by omega), nI_clamp (show 3 < 2 ^ 31 by omega), nI_clamp (show 5 < 2 ^ 31 by omega), v3, v5, pk_mul, pk_div hm (by decide) (by decide), ekp, nI_sub k1, nI_sub k2, u0, nI_clamp (show g < 2 ^ 31 by omega), gq_pos ⟨.inl rfl, in_of (show 3 < 6 by omega) (by omega)⟩, gq_pos (by decide), gq_pos ⟨.inl rfl, in_of (show 5 < 6 by omega) (by omega)⟩, gq_pos ⟨.inl rfl, in_of (show 5 < 6 by omega) (by omega)⟩, gq_pos ⟨rfl, in_of (show 5 < 6 by omega) (by omega)⟩, gq_pos ⟨h.k, z7⟩, gq_pos ⟨.inl rfl, in_of (show 0 < 6 by omega) (by omega)⟩, h.ba.1, gq_pos ⟨rfl, in_of hg (by omega)⟩, gq_pos ⟨rfl, in_of hg (by omega)⟩, gq_pos ⟨h.k, z9⟩, gq_pos ⟨.inl rfl, in_of (show 0 < 6 by omega) (by omega)⟩, h.tot.1, gq_pos ⟨.inr (.inr (.inr rfl)), in_of hg (by omega), t1.2.1.2.2⟩, t1.1, gq_pos ⟨rfl, in_of (show 2 < 4 by omega) (by omega)⟩, gq_pos ⟨rfl, in_of (show 2 < 4 by omega) (by omega)⟩, gq_pos ⟨h.k, z10⟩, gq_pos ⟨.inl rfl, in_of (show 0 < 6 by omega) (by omega)⟩, d10.1, gq_pos ⟨.inr (.inr (.inr rfl)), in_of hg (by omega), c1.2.1.2.2⟩, c1.1, gq_pos ⟨rfl, in_of (show 2 < 3 by omega) (by omega)⟩, gq_pos ⟨rfl, in_of (show 2 < 3 by omega) (by omega)⟩, h.ba.2.2 g hg]
  have g1' : gl_ (sl_ m (gr_ m x 7) g (Qn q (Nm og eg dw rt) g + (nI kp).toInt64)) (gr_ m (gr_ m x 9) g) 2 = Qn q (adn (Nm og eg dw rt) g kp) (10 + 4 * g + 2) := g1
  rw [g1']
  rfl
end W8
