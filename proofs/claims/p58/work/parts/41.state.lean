/-! the state: what an office holds, in the numbers of one row; what is always so of them -/
/-- the office at o holds s and q -/
def OV (m : am_M) (o : Nat) (s : Nat → Int32) (q : Nat → Int64) : Prop :=
  (gi_ m o 0 = s 4) ∧
  (gi_ m (o + 1) 0 = s 0) ∧
  (gi_ m (o + 1) 1 = s 1) ∧
  (∀ k, k < 10 → gl_ m (o + 2) k = q (462 + k)) ∧
  (∀ k, k < 10 → gi_ m (o + 3) k = s (8 + k)) ∧
  (∀ k, k < 12 → gl_ m (o + 4) k = q (472 + k)) ∧
  (∀ w, w < 12 → gi_ m (o + 5) w = s (59 + 48 * w)) ∧
  (∀ w, w < 12 → gi_ m (o + 6) w = s (18 + 48 * w)) ∧
  (∀ w i, w < 12 → i < 3 → gi_ m (o + 8) ((w * 3 + i) * 2) = s (60 + 48 * w + i)) ∧
  (∀ w i, w < 12 → i < 3 → gi_ m (o + 8) ((w * 3 + i) * 2 + 1) = s (63 + 48 * w + i)) ∧
  (∀ w k, w < 12 → k < 4 → gi_ m (o + 10) ((w * 4 + k) * 2) = s (19 + 48 * w + k)) ∧
  (∀ w k, w < 12 → k < 4 → gi_ m (o + 10) ((w * 4 + k) * 2 + 1) = s (23 + 48 * w + k)) ∧
  (∀ w k j, w < 12 → k < 4 → j < 4 → gi_ m (o + 12) (((w * 4 + k) * 4 + j) * 2) = s (27 + 48 * w + 4 * k + j)) ∧
  (∀ w k j, w < 12 → k < 4 → j < 4 → gi_ m (o + 12) (((w * 4 + k) * 4 + j) * 2 + 1) = s (43 + 48 * w + 4 * k + j)) ∧
  (gi_ m (o + 13) 2 = s 2) ∧
  (∀ a c, a < 16 → c < 6 → gi_ m (o + 14) (a * 6 + c) = s (594 + 6 * a + c)) ∧
  (gi_ m (o + 15) 2 = s 3) ∧
  (∀ a c, a < 12 → c < 6 → gi_ m (o + 16) (a * 6 + c) = s (690 + 6 * a + c)) ∧
  (gi_ m (o + 17) 2 = s 6) ∧
  (∀ i c, i < cN s 6 → c < 4 → gi_ m (o + 18) (i * 4 + c) = s (767 + 4 * i + c)) ∧
  (gi_ m (o + 19) 7 = s 5) ∧
  (∀ p, p < 10 → gl_ m (o + 20) p = q p) ∧
  (∀ p c, p < 10 → c < 4 → gl_ m (o + 21) (p * 4 + c) = q (10 + 4 * p + c)) ∧
  (∀ p c, p < 10 → c < 3 → gl_ m (o + 22) (p * 3 + c) = q (50 + 3 * p + c)) ∧
  (∀ p w, p < 10 → w < 12 → gl_ m (o + 23) (p * 12 + w) = q (80 + 12 * p + w)) ∧
  (∀ w, w < 12 → gl_ m (o + 24) w = q (200 + w)) ∧
  (∀ i p c, i < cN s 7 → p < 10 → c < 5 → gl_ m (o + 25) (((cN s 5 - 1 - i) % 5 * 10 + p) * 5 + c) = q (212 + 50 * i + 5 * p + c)) ∧
  (∀ i, i < cN s 7 → gi_ m (o + 26) ((cN s 5 - 1 - i) % 5) = s (762 + i))
theorem ov_day {m : am_M} {o : Nat} {s : Nat → Int32} {q : Nat → Int64} (h : OV m o s q) : gi_ m o 0 = s 4 := h.1
theorem ov_np {m : am_M} {o : Nat} {s : Nat → Int32} {q : Nat → Int64} (h : OV m o s q) : gi_ m (o + 1) 0 = s 0 := h.2.1
theorem ov_nw {m : am_M} {o : Nat} {s : Nat → Int32} {q : Nat → Int64} (h : OV m o s q) : gi_ m (o + 1) 1 = s 1 := h.2.2.1
theorem ov_pn {m : am_M} {o : Nat} {s : Nat → Int32} {q : Nat → Int64} (h : OV m o s q) : ∀ k, k < 10 → gl_ m (o + 2) k = q (462 + k) := h.2.2.2.1
theorem ov_le {m : am_M} {o : Nat} {s : Nat → Int32} {q : Nat → Int64} (h : OV m o s q) : ∀ k, k < 10 → gi_ m (o + 3) k = s (8 + k) := h.2.2.2.2.1
theorem ov_wn {m : am_M} {o : Nat} {s : Nat → Int32} {q : Nat → Int64} (h : OV m o s q) : ∀ k, k < 12 → gl_ m (o + 4) k = q (472 + k) := h.2.2.2.2.2.1
theorem ov_so {m : am_M} {o : Nat} {s : Nat → Int32} {q : Nat → Int64} (h : OV m o s q) : ∀ w, w < 12 → gi_ m (o + 5) w = s (59 + 48 * w) := h.2.2.2.2.2.2.1
theorem ov_sp {m : am_M} {o : Nat} {s : Nat → Int32} {q : Nat → Int64} (h : OV m o s q) : ∀ w, w < 12 → gi_ m (o + 6) w = s (18 + 48 * w) := h.2.2.2.2.2.2.2.1
theorem ov_sow {m : am_M} {o : Nat} {s : Nat → Int32} {q : Nat → Int64} (h : OV m o s q) : ∀ w i, w < 12 → i < 3 → gi_ m (o + 8) ((w * 3 + i) * 2) = s (60 + 48 * w + i) := h.2.2.2.2.2.2.2.2.1
theorem ov_sop {m : am_M} {o : Nat} {s : Nat → Int32} {q : Nat → Int64} (h : OV m o s q) : ∀ w i, w < 12 → i < 3 → gi_ m (o + 8) ((w * 3 + i) * 2 + 1) = s (63 + 48 * w + i) := h.2.2.2.2.2.2.2.2.2.1
theorem ov_spd {m : am_M} {o : Nat} {s : Nat → Int32} {q : Nat → Int64} (h : OV m o s q) : ∀ w k, w < 12 → k < 4 → gi_ m (o + 10) ((w * 4 + k) * 2) = s (19 + 48 * w + k) := h.2.2.2.2.2.2.2.2.2.2.1
theorem ov_spn {m : am_M} {o : Nat} {s : Nat → Int32} {q : Nat → Int64} (h : OV m o s q) : ∀ w k, w < 12 → k < 4 → gi_ m (o + 10) ((w * 4 + k) * 2 + 1) = s (23 + 48 * w + k) := h.2.2.2.2.2.2.2.2.2.2.2.1
theorem ov_shp {m : am_M} {o : Nat} {s : Nat → Int32} {q : Nat → Int64} (h : OV m o s q) : ∀ w k j, w < 12 → k < 4 → j < 4 → gi_ m (o + 12) (((w * 4 + k) * 4 + j) * 2) = s (27 + 48 * w + 4 * k + j) := h.2.2.2.2.2.2.2.2.2.2.2.2.1
theorem ov_shc {m : am_M} {o : Nat} {s : Nat → Int32} {q : Nat → Int64} (h : OV m o s q) : ∀ w k j, w < 12 → k < 4 → j < 4 → gi_ m (o + 12) (((w * 4 + k) * 4 + j) * 2 + 1) = s (43 + 48 * w + 4 * k + j) := h.2.2.2.2.2.2.2.2.2.2.2.2.2.1
theorem ov_na {m : am_M} {o : Nat} {s : Nat → Int32} {q : Nat → Int64} (h : OV m o s q) : gi_ m (o + 13) 2 = s 2 := h.2.2.2.2.2.2.2.2.2.2.2.2.2.2.1
theorem ov_as {m : am_M} {o : Nat} {s : Nat → Int32} {q : Nat → Int64} (h : OV m o s q) : ∀ a c, a < 16 → c < 6 → gi_ m (o + 14) (a * 6 + c) = s (594 + 6 * a + c) := h.2.2.2.2.2.2.2.2.2.2.2.2.2.2.2.1
theorem ov_nd {m : am_M} {o : Nat} {s : Nat → Int32} {q : Nat → Int64} (h : OV m o s q) : gi_ m (o + 15) 2 = s 3 := h.2.2.2.2.2.2.2.2.2.2.2.2.2.2.2.2.1
theorem ov_ad {m : am_M} {o : Nat} {s : Nat → Int32} {q : Nat → Int64} (h : OV m o s q) : ∀ a c, a < 12 → c < 6 → gi_ m (o + 16) (a * 6 + c) = s (690 + 6 * a + c) := h.2.2.2.2.2.2.2.2.2.2.2.2.2.2.2.2.2.1
theorem ov_nl {m : am_M} {o : Nat} {s : Nat → Int32} {q : Nat → Int64} (h : OV m o s q) : gi_ m (o + 17) 2 = s 6 := h.2.2.2.2.2.2.2.2.2.2.2.2.2.2.2.2.2.2.1
theorem ov_li {m : am_M} {o : Nat} {s : Nat → Int32} {q : Nat → Int64} (h : OV m o s q) : ∀ i c, i < cN s 6 → c < 4 → gi_ m (o + 18) (i * 4 + c) = s (767 + 4 * i + c) := h.2.2.2.2.2.2.2.2.2.2.2.2.2.2.2.2.2.2.2.1
theorem ov_nc {m : am_M} {o : Nat} {s : Nat → Int32} {q : Nat → Int64} (h : OV m o s q) : gi_ m (o + 19) 7 = s 5 := h.2.2.2.2.2.2.2.2.2.2.2.2.2.2.2.2.2.2.2.2.1
theorem ov_ba {m : am_M} {o : Nat} {s : Nat → Int32} {q : Nat → Int64} (h : OV m o s q) : ∀ p, p < 10 → gl_ m (o + 20) p = q p := h.2.2.2.2.2.2.2.2.2.2.2.2.2.2.2.2.2.2.2.2.2.1
theorem ov_to {m : am_M} {o : Nat} {s : Nat → Int32} {q : Nat → Int64} (h : OV m o s q) : ∀ p c, p < 10 → c < 4 → gl_ m (o + 21) (p * 4 + c) = q (10 + 4 * p + c) := h.2.2.2.2.2.2.2.2.2.2.2.2.2.2.2.2.2.2.2.2.2.2.1
theorem ov_pe {m : am_M} {o : Nat} {s : Nat → Int32} {q : Nat → Int64} (h : OV m o s q) : ∀ p c, p < 10 → c < 3 → gl_ m (o + 22) (p * 3 + c) = q (50 + 3 * p + c) := h.2.2.2.2.2.2.2.2.2.2.2.2.2.2.2.2.2.2.2.2.2.2.2.1
theorem ov_ea {m : am_M} {o : Nat} {s : Nat → Int32} {q : Nat → Int64} (h : OV m o s q) : ∀ p w, p < 10 → w < 12 → gl_ m (o + 23) (p * 12 + w) = q (80 + 12 * p + w) := h.2.2.2.2.2.2.2.2.2.2.2.2.2.2.2.2.2.2.2.2.2.2.2.2.1
theorem ov_co {m : am_M} {o : Nat} {s : Nat → Int32} {q : Nat → Int64} (h : OV m o s q) : ∀ w, w < 12 → gl_ m (o + 24) w = q (200 + w) := h.2.2.2.2.2.2.2.2.2.2.2.2.2.2.2.2.2.2.2.2.2.2.2.2.2.1
theorem ov_st {m : am_M} {o : Nat} {s : Nat → Int32} {q : Nat → Int64} (h : OV m o s q) : ∀ i p c, i < cN s 7 → p < 10 → c < 5 → gl_ m (o + 25) (((cN s 5 - 1 - i) % 5 * 10 + p) * 5 + c) = q (212 + 50 * i + 5 * p + c) := h.2.2.2.2.2.2.2.2.2.2.2.2.2.2.2.2.2.2.2.2.2.2.2.2.2.2.1
theorem ov_sd {m : am_M} {o : Nat} {s : Nat → Int32} {q : Nat → Int64} (h : OV m o s q) : ∀ i, i < cN s 7 → gi_ m (o + 26) ((cN s 5 - 1 - i) % 5) = s (762 + i) := h.2.2.2.2.2.2.2.2.2.2.2.2.2.2.2.2.2.2.2.2.2.2.2.2.2.2.2
def isN (x : Int32) (n : Nat) : Prop := ∃ k, k < n ∧ x = nI k
theorem isN.c {s : Nat → Int32} {k n : Nat} (h : isN (s k) n) (hn : n ≤ 2 ^ 31) : s k = nI (cN s k) ∧ cN s k < n := by
  obtain ⟨j, h1, h2⟩ := h
  rw [cN_ h2 (by omega)]
  exact ⟨h2, h1⟩
def sum_ (f : Nat → Nat) : Nat → Nat
  | 0 => 0
  | n + 1 => sum_ f n + f n
/-- counts -/
def WC (s : Nat → Int32) : Prop :=
  (isN (s 0) 11) ∧
  (isN (s 1) 13) ∧
  (isN (s 2) 17) ∧
  (isN (s 3) 13) ∧
  (isN (s 4) 10000) ∧
  (isN (s 6) 65) ∧
  (∀ p, p < 10 → isN (s (8 + p)) 100000)
theorem wc_np {s : Nat → Int32} (h : WC s) : isN (s 0) 11 := h.1
theorem wc_nw {s : Nat → Int32} (h : WC s) : isN (s 1) 13 := h.2.1
theorem wc_na {s : Nat → Int32} (h : WC s) : isN (s 2) 17 := h.2.2.1
theorem wc_nd {s : Nat → Int32} (h : WC s) : isN (s 3) 13 := h.2.2.2.1
theorem wc_day {s : Nat → Int32} (h : WC s) : isN (s 4) 10000 := h.2.2.2.2.1
theorem wc_nl {s : Nat → Int32} (h : WC s) : isN (s 6) 65 := h.2.2.2.2.2.1
theorem wc_le {s : Nat → Int32} (h : WC s) : ∀ p, p < 10 → isN (s (8 + p)) 100000 := h.2.2.2.2.2.2
/-- works -/
def WW (s : Nat → Int32) : Prop :=
  (∀ w, w < cN s 1 → isN (s (18 + 48 * w)) 5 ∧ 0 < cN s (18 + 48 * w)) ∧
  (∀ w, w < cN s 1 → s (19 + 48 * w) = nI 0) ∧
  (∀ w k, w < cN s 1 → k < cN s (18 + 48 * w) → isN (s (19 + 48 * w + k)) 10000) ∧
  (∀ w k, w < cN s 1 → k + 1 < cN s (18 + 48 * w) → cN s (19 + 48 * w + k) < cN s (19 + 48 * w + (k + 1))) ∧
  (∀ w k, w < cN s 1 → k < cN s (18 + 48 * w) → isN (s (23 + 48 * w + k)) 5 ∧ 0 < cN s (23 + 48 * w + k)) ∧
  (∀ w k j, w < cN s 1 → k < cN s (18 + 48 * w) → j < cN s (23 + 48 * w + k) → isN (s (27 + 48 * w + 4 * k + j)) (cN s 0)) ∧
  (∀ w k i j, w < cN s 1 → k < cN s (18 + 48 * w) → j < cN s (23 + 48 * w + k) → i < j → cN s (27 + 48 * w + 4 * k + i) ≠ cN s (27 + 48 * w + 4 * k + j)) ∧
  (∀ w k j, w < cN s 1 → k < cN s (18 + 48 * w) → j < cN s (23 + 48 * w + k) → isN (s (43 + 48 * w + 4 * k + j)) 101 ∧ 0 < cN s (43 + 48 * w + 4 * k + j)) ∧
  (∀ w k, w < cN s 1 → k < cN s (18 + 48 * w) → sum_ (fun j => cN s (43 + 48 * w + 4 * k + j)) (cN s (23 + 48 * w + k)) = 100) ∧
  (∀ w, w < cN s 1 → isN (s (59 + 48 * w)) 4) ∧
  (∀ w i, w < cN s 1 → i < cN s (59 + 48 * w) → isN (s (60 + 48 * w + i)) w) ∧
  (∀ w i, w < cN s 1 → i < cN s (59 + 48 * w) → isN (s (63 + 48 * w + i)) 91) ∧
  (∀ w, w < cN s 1 → sum_ (fun i => cN s (63 + 48 * w + i)) (cN s (59 + 48 * w)) ≤ 90) ∧
  (∀ w, cN s 1 ≤ w → w < 12 → s (18 + 48 * w) = 0 ∧ s (59 + 48 * w) = 0)
theorem ww_ns {s : Nat → Int32} (h : WW s) : ∀ w, w < cN s 1 → isN (s (18 + 48 * w)) 5 ∧ 0 < cN s (18 + 48 * w) := h.1
theorem ww_d0 {s : Nat → Int32} (h : WW s) : ∀ w, w < cN s 1 → s (19 + 48 * w) = nI 0 := h.2.1
theorem ww_dk {s : Nat → Int32} (h : WW s) : ∀ w k, w < cN s 1 → k < cN s (18 + 48 * w) → isN (s (19 + 48 * w + k)) 10000 := h.2.2.1
theorem ww_up {s : Nat → Int32} (h : WW s) : ∀ w k, w < cN s 1 → k + 1 < cN s (18 + 48 * w) → cN s (19 + 48 * w + k) < cN s (19 + 48 * w + (k + 1)) := h.2.2.2.1
theorem ww_nh {s : Nat → Int32} (h : WW s) : ∀ w k, w < cN s 1 → k < cN s (18 + 48 * w) → isN (s (23 + 48 * w + k)) 5 ∧ 0 < cN s (23 + 48 * w + k) := h.2.2.2.2.1
theorem ww_hp {s : Nat → Int32} (h : WW s) : ∀ w k j, w < cN s 1 → k < cN s (18 + 48 * w) → j < cN s (23 + 48 * w + k) → isN (s (27 + 48 * w + 4 * k + j)) (cN s 0) := h.2.2.2.2.2.1
theorem ww_hd {s : Nat → Int32} (h : WW s) : ∀ w k i j, w < cN s 1 → k < cN s (18 + 48 * w) → j < cN s (23 + 48 * w + k) → i < j → cN s (27 + 48 * w + 4 * k + i) ≠ cN s (27 + 48 * w + 4 * k + j) := h.2.2.2.2.2.2.1
theorem ww_hc {s : Nat → Int32} (h : WW s) : ∀ w k j, w < cN s 1 → k < cN s (18 + 48 * w) → j < cN s (23 + 48 * w + k) → isN (s (43 + 48 * w + 4 * k + j)) 101 ∧ 0 < cN s (43 + 48 * w + 4 * k + j) := h.2.2.2.2.2.2.2.1
theorem ww_hs {s : Nat → Int32} (h : WW s) : ∀ w k, w < cN s 1 → k < cN s (18 + 48 * w) → sum_ (fun j => cN s (43 + 48 * w + 4 * k + j)) (cN s (23 + 48 * w + k)) = 100 := h.2.2.2.2.2.2.2.2.1
theorem ww_no {s : Nat → Int32} (h : WW s) : ∀ w, w < cN s 1 → isN (s (59 + 48 * w)) 4 := h.2.2.2.2.2.2.2.2.2.1
theorem ww_ow {s : Nat → Int32} (h : WW s) : ∀ w i, w < cN s 1 → i < cN s (59 + 48 * w) → isN (s (60 + 48 * w + i)) w := h.2.2.2.2.2.2.2.2.2.2.1
theorem ww_oc {s : Nat → Int32} (h : WW s) : ∀ w i, w < cN s 1 → i < cN s (59 + 48 * w) → isN (s (63 + 48 * w + i)) 91 := h.2.2.2.2.2.2.2.2.2.2.2.1
theorem ww_os {s : Nat → Int32} (h : WW s) : ∀ w, w < cN s 1 → sum_ (fun i => cN s (63 + 48 * w + i)) (cN s (59 + 48 * w)) ≤ 90 := h.2.2.2.2.2.2.2.2.2.2.2.2.1
theorem ww_z {s : Nat → Int32} (h : WW s) : ∀ w, cN s 1 ≤ w → w < 12 → s (18 + 48 * w) = 0 ∧ s (59 + 48 * w) = 0 := h.2.2.2.2.2.2.2.2.2.2.2.2.2
/-- what a payee leaves of a work on a day -/
def lv_ (s : Nat → Int32) (p w day : Nat) (n : Nat) : Nat := sum_ (fun a => if cN s (594 + 6 * a + 0) = p ∧ cN s (594 + 6 * a + 1) = w ∧ cN s (594 + 6 * a + 4) ≤ day ∧ day < cN s (594 + 6 * a + 5) then cN s (594 + 6 * a + 3) else 0) n
/-- assignments -/
def WA (s : Nat → Int32) : Prop :=
  (∀ a, a < cN s 2 → isN (s (594 + 6 * a + 0)) (cN s 0)) ∧
  (∀ a, a < cN s 2 → isN (s (594 + 6 * a + 1)) (cN s 1)) ∧
  (∀ a, a < cN s 2 → isN (s (594 + 6 * a + 2)) (cN s 0)) ∧
  (∀ a, a < cN s 2 → isN (s (594 + 6 * a + 3)) 101) ∧
  (∀ a, a < cN s 2 → isN (s (594 + 6 * a + 4)) 10000) ∧
  (∀ a, a < cN s 2 → isN (s (594 + 6 * a + 5)) 10000) ∧
  (∀ p w day, lv_ s p w day (cN s 2) ≤ 100)
theorem wa_p {s : Nat → Int32} (h : WA s) : ∀ a, a < cN s 2 → isN (s (594 + 6 * a + 0)) (cN s 0) := h.1
theorem wa_w {s : Nat → Int32} (h : WA s) : ∀ a, a < cN s 2 → isN (s (594 + 6 * a + 1)) (cN s 1) := h.2.1
theorem wa_t {s : Nat → Int32} (h : WA s) : ∀ a, a < cN s 2 → isN (s (594 + 6 * a + 2)) (cN s 0) := h.2.2.1
theorem wa_c {s : Nat → Int32} (h : WA s) : ∀ a, a < cN s 2 → isN (s (594 + 6 * a + 3)) 101 := h.2.2.2.1
theorem wa_f {s : Nat → Int32} (h : WA s) : ∀ a, a < cN s 2 → isN (s (594 + 6 * a + 4)) 10000 := h.2.2.2.2.1
theorem wa_u {s : Nat → Int32} (h : WA s) : ∀ a, a < cN s 2 → isN (s (594 + 6 * a + 5)) 10000 := h.2.2.2.2.2.1
theorem wa_s {s : Nat → Int32} (h : WA s) : ∀ p w day, lv_ s p w day (cN s 2) ≤ 100 := h.2.2.2.2.2.2
/-- advances -/
def WD (s : Nat → Int32) : Prop :=
  (∀ a, a < cN s 3 → isN (s (690 + 6 * a + 0)) (cN s 0)) ∧
  (∀ a, a < cN s 3 → isN (s (690 + 6 * a + 1)) (cN s 0)) ∧
  (∀ a, a < cN s 3 → isN (s (690 + 6 * a + 2)) 1000000) ∧
  (∀ a, a < cN s 3 → isN (s (690 + 6 * a + 3)) 101 ∧ 0 < cN s (690 + 6 * a + 3)) ∧
  (∀ a, a < cN s 3 → s (690 + 6 * a + 4) = -1 ∨ isN (s (690 + 6 * a + 4)) (cN s 1)) ∧
  (∀ a, a < cN s 3 → isN (s (690 + 6 * a + 5)) 1000000) ∧
  (∀ a, cN s 3 ≤ a → a < 12 → s (690 + 6 * a + 5) = 0)
theorem wd_g {s : Nat → Int32} (h : WD s) : ∀ a, a < cN s 3 → isN (s (690 + 6 * a + 0)) (cN s 0) := h.1
theorem wd_t {s : Nat → Int32} (h : WD s) : ∀ a, a < cN s 3 → isN (s (690 + 6 * a + 1)) (cN s 0) := h.2.1
theorem wd_a {s : Nat → Int32} (h : WD s) : ∀ a, a < cN s 3 → isN (s (690 + 6 * a + 2)) 1000000 := h.2.2.1
theorem wd_c {s : Nat → Int32} (h : WD s) : ∀ a, a < cN s 3 → isN (s (690 + 6 * a + 3)) 101 ∧ 0 < cN s (690 + 6 * a + 3) := h.2.2.2.1
theorem wd_w {s : Nat → Int32} (h : WD s) : ∀ a, a < cN s 3 → s (690 + 6 * a + 4) = -1 ∨ isN (s (690 + 6 * a + 4)) (cN s 1) := h.2.2.2.2.1
theorem wd_o {s : Nat → Int32} (h : WD s) : ∀ a, a < cN s 3 → isN (s (690 + 6 * a + 5)) 1000000 := h.2.2.2.2.2.1
theorem wd_z {s : Nat → Int32} (h : WD s) : ∀ a, cN s 3 ≤ a → a < 12 → s (690 + 6 * a + 5) = 0 := h.2.2.2.2.2.2
/-- lines -/
def WL (s : Nat → Int32) : Prop :=
  (∀ i, i < cN s 6 → isN (s (767 + 4 * i + 0)) (cN s 1)) ∧
  (∀ i, i < cN s 6 → isN (s (767 + 4 * i + 1)) (cN s 0)) ∧
  (∀ i, i < cN s 6 → isN (s (767 + 4 * i + 2)) 10000000) ∧
  (∀ i, i < cN s 6 → isN (s (767 + 4 * i + 3)) 10000000)
theorem wl_w {s : Nat → Int32} (h : WL s) : ∀ i, i < cN s 6 → isN (s (767 + 4 * i + 0)) (cN s 1) := h.1
theorem wl_p {s : Nat → Int32} (h : WL s) : ∀ i, i < cN s 6 → isN (s (767 + 4 * i + 1)) (cN s 0) := h.2.1
theorem wl_a {s : Nat → Int32} (h : WL s) : ∀ i, i < cN s 6 → isN (s (767 + 4 * i + 2)) 10000000 := h.2.2.1
theorem wl_h {s : Nat → Int32} (h : WL s) : ∀ i, i < cN s 6 → isN (s (767 + 4 * i + 3)) 10000000 := h.2.2.2
/-- nothing of what is not defined -/
def WZ (s : Nat → Int32) (q : Nat → Int64) : Prop :=
  (∀ p, cN s 0 ≤ p → p < 10 → q p = 0) ∧
  (∀ p c, cN s 0 ≤ p → p < 10 → c < 4 → q (10 + 4 * p + c) = 0) ∧
  (∀ p c, cN s 0 ≤ p → p < 10 → c < 3 → q (50 + 3 * p + c) = 0) ∧
  (∀ w, cN s 1 ≤ w → w < 12 → q (200 + w) = 0)
theorem wz_b {s : Nat → Int32} {q : Nat → Int64} (h : WZ s q) : ∀ p, cN s 0 ≤ p → p < 10 → q p = 0 := h.1
theorem wz_t {s : Nat → Int32} {q : Nat → Int64} (h : WZ s q) : ∀ p c, cN s 0 ≤ p → p < 10 → c < 4 → q (10 + 4 * p + c) = 0 := h.2.1
theorem wz_c {s : Nat → Int32} {q : Nat → Int64} (h : WZ s q) : ∀ p c, cN s 0 ≤ p → p < 10 → c < 3 → q (50 + 3 * p + c) = 0 := h.2.2.1
theorem wz_w {s : Nat → Int32} {q : Nat → Int64} (h : WZ s q) : ∀ w, cN s 1 ≤ w → w < 12 → q (200 + w) = 0 := h.2.2.2
/-- statements -/
def WK (B : Nat) (s : Nat → Int32) : Prop :=
  (isN (s 5) (B + 1)) ∧
  (s 7 = nI (min (cN s 5) 5))
theorem wk_c {B : Nat} {s : Nat → Int32} (h : WK B s) : isN (s 5) (B + 1) := h.1
theorem wk_k {B : Nat} {s : Nat → Int32} (h : WK B s) : s 7 = nI (min (cN s 5) 5) := h.2
/-- a name: up to eight letters 1 to 26, five bits each -/
def ltr_ : List Nat → Nat
  | [] => 0
  | c :: l => ltr_ l * 32 + c
def gdn_ (x : Int64) : Prop := ∃ l : List Nat, 0 < l.length ∧ l.length ≤ 8 ∧ (∀ c ∈ l, 1 ≤ c ∧ c ≤ 26) ∧ x = Int64.ofNat (ltr_ l)
/-- names -/
def WN (s : Nat → Int32) (q : Nat → Int64) : Prop :=
  (∀ i j, i < j → j < cN s 0 → q (462 + i) ≠ q (462 + j)) ∧
  (∀ i j, i < j → j < cN s 1 → q (472 + i) ≠ q (472 + j)) ∧
  (∀ i, i < cN s 0 → gdn_ (q (462 + i))) ∧
  (∀ i, i < cN s 1 → gdn_ (q (472 + i)))
theorem wn_p {s : Nat → Int32} {q : Nat → Int64} (h : WN s q) : ∀ i j, i < j → j < cN s 0 → q (462 + i) ≠ q (462 + j) := h.1
theorem wn_w {s : Nat → Int32} {q : Nat → Int64} (h : WN s q) : ∀ i j, i < j → j < cN s 1 → q (472 + i) ≠ q (472 + j) := h.2.1
theorem wn_pg {s : Nat → Int32} {q : Nat → Int64} (h : WN s q) : ∀ i, i < cN s 0 → gdn_ (q (462 + i)) := h.2.2.1
theorem wn_wg {s : Nat → Int32} {q : Nat → Int64} (h : WN s q) : ∀ i, i < cN s 1 → gdn_ (q (472 + i)) := h.2.2.2
/-- all of it -/
def WF (B : Nat) (s : Nat → Int32) (q : Nat → Int64) : Prop :=
  (WC s) ∧
  (WW s) ∧
  (WA s) ∧
  (WD s) ∧
  (WL s) ∧
  (WZ s q) ∧
  (WK B s) ∧
  (WN s q)
theorem wf_c {B : Nat} {s : Nat → Int32} {q : Nat → Int64} (h : WF B s q) : WC s := h.1
theorem wf_w {B : Nat} {s : Nat → Int32} {q : Nat → Int64} (h : WF B s q) : WW s := h.2.1
theorem wf_a {B : Nat} {s : Nat → Int32} {q : Nat → Int64} (h : WF B s q) : WA s := h.2.2.1
theorem wf_d {B : Nat} {s : Nat → Int32} {q : Nat → Int64} (h : WF B s q) : WD s := h.2.2.2.1
theorem wf_l {B : Nat} {s : Nat → Int32} {q : Nat → Int64} (h : WF B s q) : WL s := h.2.2.2.2.1
theorem wf_z {B : Nat} {s : Nat → Int32} {q : Nat → Int64} (h : WF B s q) : WZ s q := h.2.2.2.2.2.1
theorem wf_k {B : Nat} {s : Nat → Int32} {q : Nat → Int64} (h : WF B s q) : WK B s := h.2.2.2.2.2.2.1
theorem wf_n {B : Nat} {s : Nat → Int32} {q : Nat → Int64} (h : WF B s q) : WN s q := h.2.2.2.2.2.2.2
