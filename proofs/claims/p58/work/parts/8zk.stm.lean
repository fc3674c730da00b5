/-! made statements, read -/
def NMS (s : Nat → Int32) (q : Nat → Int64) : Prop := (∀ p, p < cN s 0 → q (462 + p) = pv p) ∧ (∀ w, w < cN s 1 → q (472 + w) = wv w) ∧ cN s 0 ≤ 10 ∧ cN s 1 ≤ 12
section T8
variable {b : Nat → Nat} {n i : Nat} {s : Nat → Int32} {q : Nat → Int64}
theorem eb_i {α β : Type} (a : α) (f : α → Er ⊕ β) : eb (.inr a) f = f a := rfl
theorem sTake_r {k : Nat} (h : Kd b n i = k) : sTake b n k i = .inr (i + 1, ()) := if_pos h
theorem sNum_r {lo hi v : Nat} (h : Kd b n i = 3 ∧ Nv b n i = v) (h1 : lo ≤ v) (h2 : v ≤ hi) : sNum b n lo hi i = .inr (i + 1, v) := by
  unfold sNum
  rw [if_pos h.1, h.2, if_pos ⟨h1, h2⟩]
theorem sSemi_r (h : Kd b n i = 4) : sSemi b n 0 i = .inr (i + 1, ()) := by
  unfold sSemi
  rw [if_pos h, if_pos rfl]
theorem sFst_r {c k : Nat} (h : ¬ c = k) : sFst b n c k i = .inr (i + 1, ()) := if_neg h
theorem fst_at {P : Nat → Bool} {N p : Nat} (hp : p < N) (h1 : P p = true) (h2 : ∀ t, t < p → P t = false) : fst_ P N 0 = p := by
  rcases fst_spec P N 0 with ⟨h, h3⟩ | ⟨h, h3, h4, h5⟩
  · have := h3 p (Nat.zero_le _) (by omega)
    rw [h1] at this
    exact absurd this (by decide)
  · by_cases e : fst_ P N 0 < p
    · rw [h2 _ e] at h4
      exact absurd h4 (by decide)
    · by_cases e2 : p < fst_ P N 0
      · rw [h5 p (Nat.zero_le _) e2] at h1
        exact absurd h1 (by decide)
      · omega
theorem fst_no {P : Nat → Bool} {N : Nat} (h2 : ∀ t, t < N → P t = false) : ¬ fst_ P N 0 < N := by
  rcases fst_spec P N 0 with ⟨h, h3⟩ | ⟨h, h3, h4, h5⟩
  · omega
  · rw [h2 _ (by omega)] at h4
    exact absurd h4 (by decide)
theorem NMS.p (h : NMS s q) {p : Nat} (hp : p < cN s 0) : pnm_ s q (pv p) = p := by
  have h10 := h.2.2.1
  refine fst_at hp (decide_eq_true (h.1 p hp)) (fun t ht => decide_eq_false (fun z => ?_))
  rw [h.1 t (by omega)] at z
  have := pv_inj t (by omega) p (by omega) z
  omega
theorem NMS.w (h : NMS s q) {w : Nat} (hw : w < cN s 1) : wnm_ s q (wv w) = w := by
  have h12 := h.2.2.2
  refine fst_at hw (decide_eq_true (h.2.1 w hw)) (fun t ht => decide_eq_false (fun z => ?_))
  rw [h.2.1 t (by omega)] at z
  have := wv_inj t (by omega) w (by omega) z
  omega
theorem NMS.np (h : NMS s q) {p : Nat} (hp : cN s 0 ≤ p) (h20 : p < 20) : ¬ pnm_ s q (pv p) < cN s 0 ∧ ¬ wnm_ s q (pv p) < cN s 1 := by
  have h10 := h.2.2.1
  have h12 := h.2.2.2
  refine ⟨fst_no (fun t ht => decide_eq_false (fun z => ?_)), fst_no (fun t ht => decide_eq_false (fun z => ?_))⟩
  · rw [h.1 t (by omega)] at z
    have := pv_inj t (by omega) p (by omega) z
    omega
  · rw [h.2.1 t (by omega)] at z
    exact pw_ne p (by omega) t (by omega) z.symm
theorem NMS.nw (h : NMS s q) {w : Nat} (hw : cN s 1 ≤ w) (h20 : w < 20) : ¬ pnm_ s q (wv w) < cN s 0 ∧ ¬ wnm_ s q (wv w) < cN s 1 := by
  have h10 := h.2.2.1
  have h12 := h.2.2.2
  refine ⟨fst_no (fun t ht => decide_eq_false (fun z => ?_)), fst_no (fun t ht => decide_eq_false (fun z => ?_))⟩
  · rw [h.1 t (by omega)] at z
    exact pw_ne t (by omega) w (by omega) z
  · rw [h.2.1 t (by omega)] at z
    have := wv_inj t (by omega) w (by omega) z
    omega
theorem sPay_r (h : NMS s q) {p : Nat} (hk : Kd b n i = 2 ∧ Vl b n i = pv p) (hp : p < cN s 0) : sPay s q b n i = .inr (i + 1, p) := by
  unfold sPay
  rw [if_pos hk.1, hk.2, h.p hp, if_pos hp]
theorem sWrk_r (h : NMS s q) {t w : Nat} (hk : Kd b n i = 2 ∧ Vl b n i = wv w) (hw : w < cN s 1) (hr : ¬ rm_ s t w) : sWrk s q b n t i = .inr (i + 1, w) := by
  unfold sWrk
  rw [if_pos hk.1, hk.2, h.w hw, if_pos hw, if_neg hr]
theorem rmz {w : Nat} : ¬ rm_ s 0 w := fun z => by
  rcases z with z | z <;> exact absurd z.1 (by decide)
theorem sNew_p (h : NMS s q) {p : Nat} (hk : Kd b n i = 2 ∧ Vl b n i = pv p) (hp : cN s 0 ≤ p) (h20 : p < 20) : sNew s q b n i = .inr (i + 1, pv p) := by
  obtain ⟨h1, h2⟩ := h.np hp h20
  unfold sNew
  rw [if_pos hk.1, hk.2, if_neg (fun z => by rcases z with z | z; exact h1 z; exact h2 z)]
theorem sNew_w (h : NMS s q) {w : Nat} (hk : Kd b n i = 2 ∧ Vl b n i = wv w) (hw : cN s 1 ≤ w) (h20 : w < 20) : sNew s q b n i = .inr (i + 1, wv w) := by
  obtain ⟨h1, h2⟩ := h.nw hw h20
  unfold sNew
  rw [if_pos hk.1, hk.2, if_neg (fun z => by rcases z with z | z; exact h1 z; exact h2 z)]
/-- shares in tokens -/
def sht : List (Nat × Nat) → List Tn
  | [] => []
  | x :: l => ([32], nmw 112 x.1) :: ([32], dgn x.2) :: sht l
theorem sht_len : ∀ l, (sht l).length = 2 * l.length := by
  intro l
  induction l with
  | nil => rfl
  | cons x l ih =>
    show (sht l).length + 1 + 1 = 2 * (l.length + 1)
    omega
theorem sht_app : ∀ (l l' : List (Nat × Nat)), sht (l ++ l') = sht l ++ sht l' := by
  intro l l'
  induction l with
  | nil => rfl
  | cons x l ih =>
    show _ :: _ :: sht (l ++ l') = _ :: _ :: (sht l ++ sht l')
    rw [ih]
/-- good shares -/
def GSh (s : Nat → Int32) (l : List (Nat × Nat)) : Prop := (∀ x, x ∈ l → x.1 < cN s 0 ∧ 1 ≤ x.2 ∧ x.2 ≤ 100) ∧ (l.map fun x => x.1).Nodup
theorem sShl_r (hN : NMS s q) : ∀ (l acc : List (Nat × Nat)) (f i : Nat), AGs b n i (sht l) → ¬ Kd b n (i + 2 * l.length) = 2 → ¬ l = [] → (acc ++ l).length ≤ 4 → l.length ≤ f → GSh s (acc ++ l) → sShl s q b n f acc i = .inr (i + 2 * l.length, acc ++ l) := by
  intro l
  induction l with
  | nil => intro acc f i _ _ h; exact absurd rfl h
  | cons x l ih =>
    intro acc f i hA hK _ h4 hf hG
    obtain ⟨a0, a1, a2⟩ := hA
    have h10 := hN.2.2.1
    have hxm : x ∈ acc ++ x :: l := List.mem_append.mpr (.inr (List.mem_cons.mpr (.inl rfl)))
    obtain ⟨x1, x2, x3⟩ := hG.1 x hxm
    have k0 := a0.p (show x.1 < 20 by omega)
    have k1 := AG_n a1 (show x.2 < 10000 by omega)
    rw [List.length_append] at h4
    have h4' : acc.length + (l.length + 1) ≤ 4 := h4
    cases f with
    | zero => exact absurd hf (by show ¬ l.length + 1 ≤ 0; omega)
    | succ f =>
      have hany : ¬ (acc.any fun y => decide (y.1 = x.1)) = true := fun z => by
        obtain ⟨y, hy, hz⟩ := List.any_eq_true.mp z
        have hd := hG.2
        rw [List.map_append, List.nodup_append] at hd
        exact hd.2.2 y.1 (List.mem_map.mpr ⟨y, hy, rfl⟩) x.1 (List.mem_map.mpr ⟨x, List.mem_cons.mpr (.inl rfl), rfl⟩) (of_decide_eq_true hz)
      have hS : sShare s q b n acc i = .inr (i + 1 + 1, acc ++ [(x.1, x.2)]) := by
        unfold sShare
        rw [if_pos k0.1, k0.2, hN.p x1, if_pos x1, if_neg hany, if_neg (by omega), sNum_r k1 x2 x3, eb_i]
      rw [sShl, hS, eb_i]
      by_cases hl : l = []
      · subst hl
        have hK : ¬ Kd b n (i + 1 + 1) = 2 := hK
        show (if Kd b n (i + 1 + 1) = 2 then _ else _) = _
        rw [if_neg hK]
        rfl
      · have hn : Kd b n (i + 1 + 1) = 2 := by
          cases l with
          | nil => exact absurd rfl hl
          | cons y l =>
            have hym : y ∈ acc ++ x :: y :: l := List.mem_append.mpr (.inr (List.mem_cons.mpr (.inr (List.mem_cons.mpr (.inl rfl)))))
            obtain ⟨y1, y2, y3⟩ := hG.1 y hym
            exact (a2.1.p (show y.1 < 20 by omega)).1
        show (if Kd b n (i + 1 + 1) = 2 then sShl s q b n f (acc ++ [x]) (i + 1 + 1) else _) = _
        rw [if_pos hn]
        have e : acc ++ x :: l = acc ++ [x] ++ l := by rw [List.append_assoc]; rfl
        have hK2 : ¬ Kd b n (i + 1 + 1 + 2 * l.length) = 2 := by
          have hK' : ¬ Kd b n (i + 2 * (l.length + 1)) = 2 := hK
          rw [show i + 1 + 1 + 2 * l.length = i + 2 * (l.length + 1) by omega]
          exact hK'
        rw [e] at hG ⊢
        rw [ih (acc ++ [x]) f (i + 1 + 1) a2 hK2 hl (by rw [List.length_append, List.length_append]; show acc.length + 1 + l.length ≤ 4; omega) (by
          have hf' : l.length + 1 ≤ f + 1 := hf
          omega) hG]
        show Sum.inr (i + 1 + 1 + 2 * l.length, _) = Sum.inr (i + 2 * (l.length + 1), _)
        rw [show i + 1 + 1 + 2 * l.length = i + 2 * (l.length + 1) by omega]
theorem sShs_r (hN : NMS s q) {l : List (Nat × Nat)} {sp : List Nat} (h0 : AG b n i (sp, kw 22)) (h : AGs b n (i + 1) (sht l)) (hK : ¬ Kd b n (i + 1 + 2 * l.length) = 2) (hl : ¬ l = []) (h4 : l.length ≤ 4) (hG : GSh s l) : sShs s q b n i = .inr (i + 1 + 2 * l.length, l) := by
  unfold sShs
  rw [sTake_r (h0.kw (by omega) (by omega)), eb_i]
  exact sShl_r hN l [] 5 (i + 1) h hK hl h4 (by omega) hG
end T8
