/-! what adds up goes on adding up -/
section K8
variable {B w A : Nat} {s s' : Nat → Int32} {q q' : Nat → Int64}
theorem s64_cg {f g : Nat → Int64} : ∀ {n : Nat}, (∀ i, i < n → f i = g i) → s64 f n = s64 g n
  | 0, _ => rfl
  | n + 1, h => by
    show s64 f n + f n = s64 g n + g n
    rw [s64_cg fun i hi => h i (by omega), h n (by omega)]
theorem i64_4 (a b c e : Int64) : a + b + (c + e) = a + c + (b + e) := by
  rw [Int64.add_assoc, Int64.add_assoc, ← Int64.add_assoc b, Int64.add_comm b c, Int64.add_assoc c]
theorem s64_add (f g : Nat → Int64) : ∀ n, s64 (fun i => f i + g i) n = s64 f n + s64 g n := by
  intro n
  induction n with
  | zero => rfl
  | succ n ih =>
    show s64 (fun i => f i + g i) n + (f n + g n) = s64 f n + f n + (s64 g n + g n)
    rw [ih, i64_4]
theorem s64_0 : ∀ n, s64 (fun _ => 0) n = 0 := by
  intro n
  induction n with
  | zero => rfl
  | succ n ih => show s64 (fun _ => 0) n + 0 = 0; rw [ih]; rfl
theorem s64_nat (f : Nat → Nat) : ∀ n, sum_ f n < 2 ^ 31 → s64 (fun i => (nI (f i)).toInt64) n = (nI (sum_ f n)).toInt64 := by
  intro n
  induction n with
  | zero => exact fun _ => rfl
  | succ n ih =>
    intro h
    rw [sum_s] at h
    show s64 (fun i => (nI (f i)).toInt64) n + (nI (f n)).toInt64 = _
    rw [ih (by omega), nL_add h, sum_s]
/-- changes that leave these be -/
theorem PI.cg (h : PI s q) (h0 : cN s' 0 = cN s 0) (h1 : cN s' 1 = cN s 1) (h3 : cN s' 3 = cN s 3) (hs : ∀ a, a < cN s 3 → s' (690 + 6 * a + 2) = s (690 + 6 * a + 2) ∧ s' (690 + 6 * a + 5) = s (690 + 6 * a + 5)) : PI s' q := by
  refine ⟨fun p hp => ?_, ?_, ?_, ?_⟩
  · rw [h1]; exact h.ef p (by omega)
  · rw [h0]; exact h.wr
  · rw [h0, h3, h.rc]
    exact s64_cg fun a ha => by rw [(hs a ha).1, (hs a ha).2]
  · rw [h0]; exact h.bl
theorem PI.up (h : PI s q) {k : Nat} {v : Int32} (hk : ¬ k = 0 ∧ ¬ k = 1 ∧ ¬ k = 3) (hk2 : k < 690) : PI (up1 s k v) q :=
  h.cg (cN_cg (if_neg (by omega))) (cN_cg (if_neg (by omega))) (cN_cg (if_neg (by omega))) fun a _ => ⟨if_neg (by omega), if_neg (by omega)⟩
theorem PI.new (h1 : AE s) (h2 : ∀ k, k < 462 → q k = 0) (hC : WC s) : PI s q := by
  have b0 := isN_lt (wc_np hC) (by decide)
  have b1 := isN_lt (wc_nw hC) (by decide)
  have z : ∀ c, c < 4 → s64 (fun p => q (10 + 4 * p + c)) (cN s 0) = 0 := fun c hc => (s64_cg fun i hi => h2 _ (by omega)).trans (s64_0 _)
  refine ⟨fun p hp => ?_, ?_, ?_, ?_⟩
  · rw [h2 _ (by omega)]
    exact (s64_cg fun i hi => h2 _ (by omega)).trans (s64_0 _)
  · rw [z 1 (by decide), z 2 (by decide)]
  · rw [z 1 (by decide)]
    refine ((s64_cg fun a ha => ?_).trans (s64_0 _)).symm
    rw [h1 a ha, Int32.sub_self]; rfl
  · rw [z 0 (by decide), z 3 (by decide)]
    rw [show s64 q (cN s 0) = 0 from (s64_cg fun i hi => h2 _ (by omega)).trans (s64_0 _)]
    rfl
theorem nL_sub {x y : Nat} (hx : x < 2 ^ 30) (hy : y < 2 ^ 30) : (nI x - nI y).toInt64 = (nI x).toInt64 - (nI y).toInt64 := by
  have e1 := nI_toInt (show x < 2 ^ 31 by omega)
  have e2 := nI_toInt (show y < 2 ^ 31 by omega)
  apply Int64.toInt_inj.mp
  rw [Int32.toInt_toInt64, Int32.toInt_sub, Int64.toInt_sub, Int32.toInt_toInt64, Int32.toInt_toInt64, e1, e2, Int.bmod_eq_of_le (by omega) (by omega), Int.bmod_eq_of_le (by omega) (by omega)]
theorem i64_5 (a b c e : Int64) : a - b + (c - e) = a + c - (b + e) := by
  rw [Int64.sub_eq_add_neg, Int64.sub_eq_add_neg, Int64.sub_eq_add_neg, Int64.neg_add, i64_4, Int64.sub_eq_add_neg]
theorem i64_6 (a b c : Int64) : a - (b + c) + b = a - c := by
  rw [Int64.sub_eq_add_neg, Int64.neg_add, Int64.sub_eq_add_neg, Int64.sub_eq_add_neg, Int64.add_comm (-b), ← Int64.add_assoc, Int64.add_assoc _ (-b), Int64.add_left_neg, Int64.add_zero]
theorem s64_sub (f g : Nat → Int64) : ∀ n, s64 (fun i => f i - g i) n = s64 f n - s64 g n := by
  intro n
  induction n with
  | zero => exact (Int64.sub_self 0).symm
  | succ n ih =>
    show s64 (fun i => f i - g i) n + (f n - g n) = s64 f n + f n - (s64 g n + g n)
    rw [ih, i64_5]
theorem sum_bd {f : Nat → Nat} {c : Nat} : ∀ {n : Nat}, (∀ i, i < n → f i ≤ c) → sum_ f n ≤ n * c
  | 0, _ => Nat.zero_le _
  | n + 1, h => by
    rw [sum_s, Nat.succ_mul]
    have := sum_bd (n := n) fun i hi => h i (by omega)
    have := h n (by omega)
    omega
theorem rc_nat {x y : Nat → Nat} {n : Nat} (hx : ∀ a, a < n → x a < 1000000) (hy : ∀ a, a < n → y a < 1000000) (hn : n < 13) : s64 (fun a => (nI (x a) - nI (y a)).toInt64) n = (nI (sum_ x n)).toInt64 - (nI (sum_ y n)).toInt64 := by
  have h1 := sum_bd (c := 1000000) fun i hi => Nat.le_of_lt (hx i hi)
  have h2 := sum_bd (c := 1000000) fun i hi => Nat.le_of_lt (hy i hi)
  rw [s64_cg fun a ha => nL_sub (by have := hx a ha; omega) (by have := hy a ha; omega), s64_sub, s64_nat _ _ (by omega), s64_nat _ _ (by omega)]
/-- an income -/
theorem PI.inc (h : PI s q) (hC : WC s) (hW : WW s) (hA : WA s) (hD : WD s) {l : List Ln} (f : Nat → Nat) (hG : ∀ x ∈ l, GL s x) (hl : l.length ≤ 64) (hb : lsm_ l ≤ 9999999) : PI (bS_ s l) (bQ_ s l f q) := by
  have b0 := isN_lt (wc_np hC) (by decide)
  have b1 := isN_lt (wc_nw hC) (by decide)
  have b3 := isN_lt (hC.2.2.2.1) (by decide)
  obtain ⟨w1, w2, w3, w4⟩ := wh_all hC hD (fun x hx => (hG x hx).2.1) l.length (Nat.le_refl _)
  rw [List.take_length] at w1 w2
  have c0 : cN (bS_ s l) 0 = cN s 0 := cN_cg (bS_o l (by decide) (.inl (by decide)))
  have c1 : cN (bS_ s l) 1 = cN s 1 := cN_cg (bS_o l (by decide) (.inl (by decide)))
  have c3 : cN (bS_ s l) 3 = cN s 3 := cN_cg (bS_o l (by decide) (.inl (by decide)))
  have tq : ∀ p c, p < 10 → c < 4 → bQ_ s l f q (10 + 4 * p + c) = q (10 + 4 * p + c) + (nI (bA2 s l p c l.length + (if c = 2 then (wh_ s l l.length).2 p else 0))).toInt64 := fun p c hp hc => by
    show q _ + (nI (bN_ s l f _)).toInt64 = _
    rw [bN_t l f hp hc]
  have t0 : ∀ p, p < 10 → bQ_ s l f q (10 + 4 * p + 0) = q (10 + 4 * p + 0) + (nI (eg_ l p l.length)).toInt64 := fun p hp => tq p 0 hp (by decide)
  have t1 : ∀ p, p < 10 → bQ_ s l f q (10 + 4 * p + 1) = q (10 + 4 * p + 1) + (nI (dw_ s l p l.length)).toInt64 := fun p hp => tq p 1 hp (by decide)
  have t2 : ∀ p, p < 10 → bQ_ s l f q (10 + 4 * p + 2) = q (10 + 4 * p + 2) + (nI ((wh_ s l l.length).2 p)).toInt64 := fun p hp => by
    rw [tq p 2 hp (by decide)]
    show _ + (nI (0 + (wh_ s l l.length).2 p)).toInt64 = _
    rw [Nat.zero_add]
  have t3 : ∀ p, p < 10 → bQ_ s l f q (10 + 4 * p + 3) = q (10 + 4 * p + 3) := fun p hp => by
    rw [tq p 3 hp (by decide)]
    exact nL_0 _
  have tb : ∀ p, p < 10 → bQ_ s l f q p = q p + (nI (og_ s l p l.length + (wh_ s l l.length).2 p)).toInt64 := fun p hp => by
    show q p + (nI (bN_ s l f p)).toInt64 = _
    rw [bN_b0 l f hp]
  have te : ∀ p w, p < 10 → w < 12 → bQ_ s l f q (80 + 12 * p + w) = q (80 + 12 * p + w) + (nI (ew_ l p w l.length)).toInt64 := fun p w hp hw => by
    show q _ + (nI (bN_ s l f _)).toInt64 = _
    rw [bN_e l f hp hw]
  refine ⟨fun p hp => ?_, ?_, ?_, ?_⟩
  · rw [c0] at hp
    rw [c1, t0 p (by omega), s64_cg fun w hw => te p w (by omega) (by omega), s64_add, h.ef p hp, s64_nat _ _ (by rw [ew_all _ p (fun x hx => (hG x hx).1) _ (Nat.le_refl _)]; have := eg_b hb p l.length (Nat.le_refl _); omega), ew_all _ p (fun x hx => (hG x hx).1) _ (Nat.le_refl _)]
  · rw [c0, s64_cg fun p hp => t1 p (by omega), s64_cg fun p hp => t2 p (by omega), s64_add, s64_add, h.wr, s64_nat _ _ (by rw [w3]; omega), s64_nat _ _ (show sum_ (wh_ s l l.length).2 (cN s 0) < 2 ^ 31 by omega), w3]
  · rw [c0, c3, s64_cg fun p hp => t1 p (by omega), s64_add, h.rc, s64_nat _ _ (by rw [w3]; omega), w3]
    have y5 : ∀ a, a < cN s 3 → s (690 + 6 * a + 5) = nI (cN s (690 + 6 * a + 5)) ∧ cN s (690 + 6 * a + 5) < 1000000 := fun a ha => (wd_o hD a ha).c (by decide)
    have y2 : ∀ a, a < cN s 3 → s (690 + 6 * a + 2) = nI (cN s (690 + 6 * a + 2)) ∧ cN s (690 + 6 * a + 2) < 1000000 := fun a ha => (wd_a hD a ha).c (by decide)
    have z5 : ∀ a, a < cN s 3 → (wh_ s l l.length).1 a < 1000000 := fun a ha => Nat.lt_of_le_of_lt (wh_open s l a l.length) (y5 a ha).2
    have h5 := sum_bd (c := 1000000) fun i hi => Nat.le_of_lt (y5 i hi).2
    rw [s64_cg (g := fun a => (nI (cN s (690 + 6 * a + 2)) - nI (cN s (690 + 6 * a + 5))).toInt64) fun a ha => by rw [← (y2 a ha).1, ← (y5 a ha).1], rc_nat (fun a ha => (y2 a ha).2) (fun a ha => (y5 a ha).2) b3, s64_cg (f := fun a => (bS_ s l (690 + 6 * a + 2) - bS_ s l (690 + 6 * a + 5)).toInt64) (g := fun a => (nI (cN s (690 + 6 * a + 2)) - nI ((wh_ s l l.length).1 a)).toInt64) fun a ha => by rw [← (y2 a ha).1, bS_o l (by omega) (.inr (.inr ⟨by omega, by omega⟩)), bS_d l (by omega)], rc_nat (fun a ha => (y2 a ha).2) z5 b3, ← w4, ← nL_add (by omega)]
    exact i64_6 _ _ _
  · rw [c0, s64_cg fun p hp => t0 p (by omega), s64_cg fun p hp => t3 p (by omega), s64_cg fun p hp => tb p (by omega), s64_add, s64_add, s64_nat _ _ (by rw [w2]; omega), s64_nat _ _ (by rw [sum_add]; omega), h.bl, w2, sum_add, w1, Int64.add_assoc]
theorem i64_7 (a b c : Int64) : a + b + (c - b) = a + c := by
  rw [Int64.sub_eq_add_neg, i64_4, Int64.add_right_neg, Int64.add_zero]
theorem PI.close (h : PI s q) (hC : WC s) : PI (cS_ s) (cQ_ s q) := by
  have b0 := isN_lt (wc_np hC) (by decide)
  have b1 := isN_lt (wc_nw hC) (by decide)
  have b3 := isN_lt (hC.2.2.2.1) (by decide)
  have cs : ∀ k, ¬ k = 5 → ¬ k = 7 → k < 762 → cS_ s k = s k := fun k h1 h2 h3 => by
    unfold cS_
    rw [if_neg h1, if_neg h2, if_neg (by omega), if_neg (by omega)]
  have c0 : cN (cS_ s) 0 = cN s 0 := rfl
  have c1 : cN (cS_ s) 1 = cN s 1 := rfl
  have c3 : cN (cS_ s) 3 = cN s 3 := rfl
  have tq : ∀ p c, p < 10 → c < 3 → cQ_ s q (10 + 4 * p + c) = q (10 + 4 * p + c) := fun p c hp hc => by
    unfold cQ_
    rw [if_neg (by omega), if_pos (by omega), if_neg (by omega)]
  have t3 : ∀ p, p < 10 → cQ_ s q (10 + 4 * p + 3) = q (10 + 4 * p + 3) + pd_ s q p := fun p hp => by
    unfold cQ_
    rw [if_neg (by omega), if_pos (by omega), if_pos (by omega), show (10 + 4 * p + 3 - 10) / 4 = p by omega]
  have te : ∀ p w, p < 10 → w < 12 → cQ_ s q (80 + 12 * p + w) = q (80 + 12 * p + w) := fun p w hp hw => by
    unfold cQ_
    rw [if_neg (by omega), if_neg (by omega), if_neg (by omega), if_pos (by omega)]
  refine ⟨fun p hp => ?_, ?_, ?_, ?_⟩
  · rw [c0] at hp
    rw [c1, tq p 0 (by omega) (by decide), s64_cg fun w hw => te p w (by omega) (by omega)]
    exact h.ef p hp
  · rw [c0, s64_cg fun p hp => tq p 1 (by omega) (by decide), s64_cg fun p hp => tq p 2 (by omega) (by decide)]
    exact h.wr
  · rw [c0, c3, s64_cg fun p hp => tq p 1 (by omega) (by decide), s64_cg (f := fun a => (cS_ s (690 + 6 * a + 2) - cS_ s (690 + 6 * a + 5)).toInt64) (g := fun a => (s (690 + 6 * a + 2) - s (690 + 6 * a + 5)).toInt64) fun a ha => by rw [cs _ (by omega) (by omega) (by omega), cs _ (by omega) (by omega) (by omega)]]
    exact h.rc
  · rw [c0, s64_cg fun p hp => tq p 0 (by omega) (by decide), s64_cg fun p hp => t3 p (by omega), s64_cg (f := cQ_ s q) (g := fun p => q p - pd_ s q p) fun p hp => cQ_b (by omega), s64_add, s64_sub, i64_7]
    exact h.bl
/-- an advance more -/
theorem PI.row3 {f : Nat → Int32} (h : PI s q) (h12 : cN s 3 < 12) (hf : f 5 = f 2) : PI (rowU s 690 3 (cN s 3) f) q := by
  have e3 : cN (rowU s 690 3 (cN s 3) f) 3 = cN s 3 + 1 := cN_ (if_pos rfl) (by omega)
  have e0 : cN (rowU s 690 3 (cN s 3) f) 0 = cN s 0 := cN_cg (rowU_lo (by decide) (by decide) (by decide))
  have e1 : cN (rowU s 690 3 (cN s 3) f) 1 = cN s 1 := cN_cg (rowU_lo (by decide) (by decide) (by decide))
  have lo : ∀ a c, a < cN s 3 → c < 6 → rowU s 690 3 (cN s 3) f (690 + 6 * a + c) = s (690 + 6 * a + c) := fun a c ha hc => by
    unfold rowU
    rw [if_neg (by omega), if_neg (by omega)]
  have hi : ∀ c, c < 6 → rowU s 690 3 (cN s 3) f (690 + 6 * cN s 3 + c) = f c := fun c hc => by
    unfold rowU
    rw [if_neg (by omega), if_pos (by omega), show 690 + 6 * cN s 3 + c - (690 + 6 * cN s 3) = c by omega]
  refine ⟨fun p hp => ?_, ?_, ?_, ?_⟩
  · rw [e1]; exact h.ef p (by omega)
  · rw [e0]; exact h.wr
  · rw [e0, e3, h.rc]
    show _ = s64 (fun a => (rowU s 690 3 (cN s 3) f (690 + 6 * a + 2) - rowU s 690 3 (cN s 3) f (690 + 6 * a + 5)).toInt64) (cN s 3) + (rowU s 690 3 (cN s 3) f (690 + 6 * cN s 3 + 2) - rowU s 690 3 (cN s 3) f (690 + 6 * cN s 3 + 5)).toInt64
    rw [hi 2 (by decide), hi 5 (by decide), hf, Int32.sub_self, s64_cg (f := fun a => (rowU s 690 3 (cN s 3) f (690 + 6 * a + 2) - rowU s 690 3 (cN s 3) f (690 + 6 * a + 5)).toInt64) (g := fun a => (s (690 + 6 * a + 2) - s (690 + 6 * a + 5)).toInt64) fun a ha => by rw [lo a 2 ha (by decide), lo a 5 ha (by decide)]]
    exact (Int64.add_zero _).symm
  · rw [e0]; exact h.bl
/-- the limits stay -/
theorem LM.of (h : LM s q) (h0 : s' 0 = s 0) (h1 : s' 1 = s 1) (h2 : s' 2 = s 2) (h3 : cN s' 3 ≤ 10) (hr : ∀ k, 18 ≤ k → k < 594 → s' k = s k) (hq : ∀ k, 462 ≤ k → k < 484 → q' k = q k) : LM s' q' := by
  have c0 := cN_cg h0
  have c1 := cN_cg h1
  have c2 := cN_cg h2
  have lp := h.p
  have lw := h.w
  have la := h.a
  obtain ⟨n1, n2, n3, n4⟩ := h.nm
  refine ⟨⟨by rw [c1]; exact h.g.1, fun w hw => ?_⟩, by rw [c0]; exact lp, by rw [c1]; exact lw, by rw [c2]; exact la, h3, fun p hp => ?_, fun w hw => ?_, by rw [c0]; exact n3, by rw [c1]; exact n4⟩
  · rw [c1] at hw
    rw [cN_cg (hr _ (by omega) (by omega)), cN_cg (hr (59 + 48 * w) (by omega) (by omega))]
    exact h.gw w hw
  · rw [c0] at hp
    rw [hq _ (by omega) (by omega)]; exact n1 p hp
  · rw [c1] at hw
    rw [hq _ (by omega) (by omega)]; exact n2 w hw
theorem LM.inc (h : LM s q) (l : List Ln) (f : Nat → Nat) : LM (bS_ s l) (bQ_ s l f q) := h.of (bS_o l (by decide) (.inl (by decide))) (bS_o l (by decide) (.inl (by decide))) (bS_o l (by decide) (.inl (by decide))) (by rw [cN_cg (bS_o l (k := 3) (by decide) (.inl (by decide)))]; exact h.dd) (fun k h1 h2 => bS_o l (by omega) (.inl (by omega))) (fun k h1 h2 => by
  show q k + (nI (bN_ s l f k)).toInt64 = q k
  rw [bN_o l f (by omega), nL_0])
theorem LM.close (h : LM s q) : LM (cS_ s) (cQ_ s q) := h.of rfl rfl rfl h.dd (fun k h1 h2 => by
  unfold cS_
  rw [if_neg (by omega), if_neg (by omega), if_neg (by omega), if_neg (by omega)]) (fun k h1 h2 => by
  unfold cQ_
  rw [if_neg (by omega), if_neg (by omega), if_neg (by omega), if_neg (by omega), if_neg (by omega), if_neg (by omega)])
theorem LM.up (h : LM s q) {k : Nat} {v : Int32} (hk : 4 ≤ k) (hk2 : k < 18 ∨ 594 ≤ k) : LM (up1 s k v) q := h.of (if_neg (by omega)) (if_neg (by omega)) (if_neg (by omega)) (by rw [cN_cg (show up1 s k v 3 = s 3 from if_neg (by omega))]; exact h.dd) (fun j h1 h2 => if_neg (by omega)) (fun _ _ _ => rfl)
end K8
