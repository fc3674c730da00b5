/-! a text made of tokens -/
abbrev Tn : Type := List Nat × List Nat
def flt : List Tn → List Nat
  | [] => []
  | t :: ts => t.1 ++ (t.2 ++ flt ts)
def bw (w : List Nat) (j : Nat) : Nat := w.getD j 0
def kd_ (w : List Nat) : Nat := tK (bw w) w.length 0
def vl_ (w : List Nat) : Int64 := tV (bw w) w.length 0
def nv_l (w : List Nat) : Nat := nvn (bw w) 0 w.length
/-- a word, a number, or a semicolon, behind spaces -/
def gtk (t : Tn) : Prop := (∀ c, c ∈ t.1 → tS c = true) ∧ ¬ t.2 = [] ∧ ((∀ c, c ∈ t.2 → tL c = true) ∨ (∀ c, c ∈ t.2 → tD c = true) ∨ t.2 = [59])
def gsq : Bool → List Tn → Prop
  | _, [] => True
  | f, t :: ts => gtk t ∧ (f = true → ¬ t.1 = [] ∨ t.2 = [59]) ∧ gsq (decide (¬ t.2 = [59])) ts
def AG (b : Nat → Nat) (n i : Nat) (t : Tn) : Prop := Kd b n i = kd_ t.2 ∧ Vl b n i = vl_ t.2 ∧ ((∀ c, c ∈ t.2 → tD c = true) → Nv b n i = nv_l t.2)
def AGs (b : Nat → Nat) (n : Nat) : Nat → List Tn → Prop
  | _, [] => True
  | i, t :: ts => AG b n i t ∧ AGs b n (i + 1) ts
/-- the list stands at p -/
def rdl (b : Nat → Nat) (p : Nat) (l : List Nat) : Prop := ∀ j, j < l.length → b (p + j) = bw l j
section T8
variable {b : Nat → Nat} {n p : Nat} {l l' : List Nat}
theorem flt_app : ∀ (a c : List Tn), flt (a ++ c) = flt a ++ flt c := by
  intro a
  induction a with
  | nil => intro c; rfl
  | cons t a ih =>
    intro c
    show t.1 ++ (t.2 ++ flt (a ++ c)) = t.1 ++ (t.2 ++ flt a) ++ flt c
    rw [ih, List.append_assoc, List.append_assoc]
theorem AGs_app : ∀ (a c : List Tn) (i : Nat), AGs b n i (a ++ c) ↔ AGs b n i a ∧ AGs b n (i + a.length) c := by
  intro a
  induction a with
  | nil => intro c i; exact ⟨fun h => ⟨trivial, h⟩, fun h => h.2⟩
  | cons t a ih =>
    intro c i
    show AG b n i t ∧ AGs b n (i + 1) (a ++ c) ↔ (AG b n i t ∧ AGs b n (i + 1) a) ∧ AGs b n (i + (a.length + 1)) c
    rw [ih, show i + (a.length + 1) = i + 1 + a.length by omega, and_assoc]
theorem bw_app (j : Nat) : bw (l ++ l') j = if j < l.length then bw l j else bw l' (j - l.length) := by
  unfold bw
  split
  · next h => rw [List.getD_eq_getElem?_getD, List.getElem?_append_left h, ← List.getD_eq_getElem?_getD]
  · next h => rw [List.getD_eq_getElem?_getD, List.getElem?_append_right (by omega), ← List.getD_eq_getElem?_getD]
theorem bw_mem {j : Nat} (h : j < l.length) : bw l j ∈ l := by
  unfold bw
  rw [List.getD_eq_getElem?_getD, List.getElem?_eq_getElem h]
  exact List.getElem_mem h
theorem rdl.app (h : rdl b p (l ++ l')) : rdl b p l ∧ rdl b (p + l.length) l' := ⟨fun j hj => by
  rw [h j (by rw [List.length_append]; omega), bw_app, if_pos hj], fun j hj => by
  have := h (l.length + j) (by rw [List.length_append]; omega)
  rw [bw_app, if_neg (by omega), show l.length + j - l.length = j by omega, ← Nat.add_assoc] at this
  exact this⟩
theorem rnd_run {f : Nat → Bool} : ∀ (k p : Nat), (∀ j, j < k → f (b (p + j)) = true) → p + k ≤ n → (p + k = n ∨ f (b (p + k)) = false) → rnd f b n p = p + k := by
  intro k
  induction k with
  | zero =>
    intro p _ hn he
    rcases he with he | he
    · exact rnd_e (by omega)
    · exact rnd_f he
  | succ k ih =>
    intro p h hn he
    have h0 := h 0 (by omega)
    rw [Nat.add_zero] at h0
    rw [rnd_t h0 (by omega), ih (p + 1) (fun j hj => by rw [show p + 1 + j = p + (j + 1) by omega]; exact h _ (by omega)) (by omega) (by rw [show p + 1 + k = p + (k + 1) by omega]; exact he)]
    omega
theorem tS_L {c : Nat} (h : tS c = true) : tL c = false ∧ tD c = false := by
  have h := of_decide_eq_true h
  exact ⟨decide_eq_false (by omega), decide_eq_false (by omega)⟩
theorem tL_S {c : Nat} (h : tL c = true) : tS c = false ∧ tD c = false := by
  have h := of_decide_eq_true h
  exact ⟨decide_eq_false (by omega), decide_eq_false (by omega)⟩
theorem tD_S {c : Nat} (h : tD c = true) : tS c = false ∧ tL c = false := by
  have h := of_decide_eq_true h
  exact ⟨decide_eq_false (by omega), decide_eq_false (by omega)⟩
theorem wvn_cg {b' : Nat → Nat} {a a' : Nat} : ∀ k, (∀ j, j < k → b (a + j) = b' (a' + j)) → wvn b a k = wvn b' a' k := by
  intro k
  induction k with
  | zero => intro _; rfl
  | succ k ih => intro h; rw [wvn, wvn, ih (fun j hj => h j (by omega)), h k (by omega)]
theorem nvn_cg {b' : Nat → Nat} {a a' : Nat} : ∀ k, (∀ j, j < k → b (a + j) = b' (a' + j)) → nvn b a k = nvn b' a' k := by
  intro k
  induction k with
  | zero => intro _; rfl
  | succ k ih => intro h; rw [nvn, nvn, ih (fun j hj => h j (by omega)), h k (by omega)]
/-- no letter, no digit goes on at p -/
def edg (b : Nat → Nat) (n p : Nat) : Prop := p = n ∨ tL (b p) = false ∧ tD (b p) = false
/-- one token -/
theorem lex1 {i : Nat} {t : Tn} (hg : gtk t) (hp : tp b n i = p) (hr : rdl b p (t.1 ++ t.2)) (hn : p + (t.1 ++ t.2).length ≤ n) (he : ¬ t.2 = [59] → edg b n (p + (t.1 ++ t.2).length)) : AG b n i t ∧ tp b n (i + 1) = p + (t.1 ++ t.2).length ∧ St b n i < n := by
  obtain ⟨g1, g2, g3⟩ := hg
  obtain ⟨r1, r2⟩ := hr.app
  rw [List.length_append] at hn he ⊢
  have hl : 0 < t.2.length := Nat.pos_of_ne_zero (fun z => g2 (List.length_eq_zero_iff.mp z))
  have r20 : b (p + t.1.length) = bw t.2 0 := by
    have := r2 0 hl
    rw [Nat.add_zero] at this
    exact this
  have hns : tS (bw t.2 0) = false := by
    rcases g3 with h | h | h
    · exact (tL_S (h _ (bw_mem hl))).1
    · exact (tD_S (h _ (bw_mem hl))).1
    · rw [h]; rfl
  have hS : St b n i = p + t.1.length := by
    unfold St
    rw [hp, skp_r]
    exact rnd_run _ _ (fun j hj => by rw [r1 j hj]; exact g1 _ (bw_mem hj)) (by omega) (.inr (by rw [r20]; exact hns))
  have hSn : St b n i < n := by omega
  have htp : tp b n (i + 1) = tE b n (St b n i) := by
    show (if St b n i < n then tE b n (St b n i) else n) = _
    rw [if_pos hSn]
  have hK : Kd b n i = tK b n (St b n i) := if_pos hSn
  have hV : Vl b n i = tV b n (St b n i) := if_pos hSn
  have hN : Nv b n i = nvn b (St b n i) (nnd b n (St b n i) - St b n i) := rfl
  unfold AG
  rw [htp, hK, hV, hN, hS]
  have hbs : ∀ j, j < t.2.length → b (p + t.1.length + j) = bw t.2 (0 + j) := fun j hj => by rw [Nat.zero_add]; exact r2 j hj
  rcases g3 with h | h | h
  · have e0 : ¬ t.2 = [59] := fun z => by
      have := h 59 (by rw [z]; exact List.mem_singleton.mpr rfl)
      exact absurd this (by decide)
    have hw : wnd b n (p + t.1.length) = p + t.1.length + t.2.length := rnd_run _ _ (fun j hj => by rw [r2 j hj]; exact h _ (bw_mem hj)) (by omega) (by
      rcases he e0 with y | y
      · exact .inl (by omega)
      · exact .inr (by rw [Nat.add_assoc]; exact y.1))
    have hw' : wnd (bw t.2) t.2.length 0 = 0 + t.2.length := rnd_run _ _ (fun j hj => by rw [Nat.zero_add]; exact h _ (bw_mem hj)) (by omega) (.inl (by omega))
    have h0 : tL (bw t.2 0) = true := h _ (bw_mem hl)
    refine ⟨⟨?_, ?_, fun hd => ?_⟩, ?_, by omega⟩
    · unfold kd_ tK
      rw [r20, if_pos h0, if_pos h0, hw, hw', Nat.add_sub_cancel_left, Nat.add_sub_cancel_left, wvn_cg _ hbs]
    · unfold vl_ tV
      rw [r20, if_pos h0, if_pos h0, hw, hw', Nat.add_sub_cancel_left, Nat.add_sub_cancel_left, wvn_cg _ hbs]
    · have y1 := hd _ (bw_mem hl)
      rw [(tL_S h0).2] at y1
      exact absurd y1 (by decide)
    · unfold tE
      rw [r20, if_pos h0, hw]
      omega
  · have e0 : ¬ t.2 = [59] := fun z => by
      have := h 59 (by rw [z]; exact List.mem_singleton.mpr rfl)
      exact absurd this (by decide)
    have hw : nnd b n (p + t.1.length) = p + t.1.length + t.2.length := rnd_run _ _ (fun j hj => by rw [r2 j hj]; exact h _ (bw_mem hj)) (by omega) (by
      rcases he e0 with y | y
      · exact .inl (by omega)
      · exact .inr (by rw [Nat.add_assoc]; exact y.2))
    have hw' : nnd (bw t.2) t.2.length 0 = 0 + t.2.length := rnd_run _ _ (fun j hj => by rw [Nat.zero_add]; exact h _ (bw_mem hj)) (by omega) (.inl (by omega))
    have h0 : tD (bw t.2 0) = true := h _ (bw_mem hl)
    have h1 : ¬ tL (bw t.2 0) = true := by rw [(tD_S h0).2]; decide
    refine ⟨⟨?_, ?_, fun hd => ?_⟩, ?_, by omega⟩
    · unfold kd_ tK
      rw [r20, if_neg h1, if_neg h1, if_pos h0, if_pos h0, hw, hw', Nat.add_sub_cancel_left, Nat.add_sub_cancel_left]
    · unfold vl_ tV
      rw [r20, if_neg h1, if_neg h1, if_pos h0, if_pos h0, hw, hw', Nat.add_sub_cancel_left, Nat.add_sub_cancel_left, nvn_cg _ hbs]
    · rw [hw, Nat.add_sub_cancel_left]
      unfold nv_l
      exact nvn_cg _ hbs
    · unfold tE
      rw [r20, if_neg h1, if_pos h0, hw]
      omega
  · have hb : b (p + t.1.length) = 59 := by rw [r20, h]; rfl
    have hlen : t.2.length = 1 := by rw [h]; rfl
    refine ⟨⟨?_, ?_, fun hd => ?_⟩, ?_, by omega⟩
    · unfold tK
      rw [hb, h]
      rfl
    · unfold tV
      rw [hb, h]
      rfl
    · have y1 := hd 59 (by rw [h]; exact List.mem_singleton.mpr rfl)
      exact absurd y1 (by decide)
    · unfold tE
      rw [hb, hlen]
      rfl
/-- what stands behind a token of a word or a number -/
theorem gsq_edg {ts : List Tn} (hg : gsq true ts) (hr : rdl b p (flt ts)) (hn : p + (flt ts).length ≤ n) (ht : ∀ j, p + (flt ts).length ≤ j → j < n → tS (b j) = true) : edg b n p := by
  cases ts with
  | nil =>
    by_cases e : p = n
    · exact .inl e
    · have hn : p + 0 ≤ n := hn
      exact .inr (tS_L (ht p (Nat.le_refl _) (by omega)))
  | cons t ts =>
    obtain ⟨⟨g1, g2, g3⟩, g4, _⟩ := hg
    rcases g4 rfl with y | y
    · have hr1 : rdl b p (t.1 ++ (t.2 ++ flt ts)) := hr
      have r := hr1.app.1
      have hl : 0 < t.1.length := Nat.pos_of_ne_zero (fun z => y (List.length_eq_zero_iff.mp z))
      have r0 := r 0 hl
      rw [Nat.add_zero] at r0
      refine .inr ?_
      rw [r0]
      exact tS_L (g1 _ (bw_mem hl))
    · have hr1 : rdl b p (t.1 ++ (t.2 ++ flt ts)) := hr
      by_cases hl : 0 < t.1.length
      · have r0 := hr1.app.1 0 hl
        rw [Nat.add_zero] at r0
        refine .inr ?_
        rw [r0]
        exact tS_L (g1 _ (bw_mem hl))
      · have r2 := hr1.app.2.app.1 0 (by rw [y]; exact Nat.one_pos)
        rw [show t.1.length = 0 by omega, Nat.add_zero, y] at r2
        refine .inr ?_
        rw [r2]
        exact ⟨rfl, rfl⟩
theorem lexs : ∀ (ts : List Tn) (f : Bool) (i p : Nat), gsq f ts → tp b n i = p → rdl b p (flt ts) → p + (flt ts).length ≤ n → (∀ j, p + (flt ts).length ≤ j → j < n → tS (b j) = true) → AGs b n i ts ∧ Kd b n (i + ts.length) = 0 ∧ St b n (i + ts.length) = n ∧ ∀ k, k < ts.length → St b n (i + k) < n := by
  intro ts
  induction ts with
  | nil =>
    intro f i p _ hp _ hn ht
    have hn : p + 0 ≤ n := hn
    have hS : St b n i = n := by
      unfold St
      rw [hp, skp_r, rnd_run (n - p) p (fun j hj => ht _ (Nat.le_add_right _ _) (by omega)) (by omega) (.inl (by omega))]
      omega
    exact ⟨trivial, if_neg (by show ¬ St b n i < n; omega), hS, fun k hk => absurd hk (by show ¬ k < 0; omega)⟩
  | cons t ts ih =>
    intro f i p hg hp hr hn ht
    obtain ⟨g1, g2, g3⟩ := hg
    have hr1 : rdl b p (t.1 ++ (t.2 ++ flt ts)) := hr
    rw [← List.append_assoc] at hr1
    obtain ⟨ra, rb⟩ := hr1.app
    have hlen : (flt (t :: ts)).length = (t.1 ++ t.2).length + (flt ts).length := by
      show (t.1 ++ (t.2 ++ flt ts)).length = _
      rw [List.length_append, List.length_append, List.length_append]
      omega
    rw [hlen] at hn ht
    have he : ¬ t.2 = [59] → edg b n (p + (t.1 ++ t.2).length) := fun y => gsq_edg (by rw [decide_eq_true y] at g3; exact g3) rb (by omega) (fun j h1 h2 => ht j (by omega) h2)
    obtain ⟨a1, a2, a3⟩ := lex1 g1 hp ra (by omega) he
    obtain ⟨b1, b2, b3, b4⟩ := ih _ (i + 1) _ g3 a2 rb (by omega) (fun j h1 h2 => ht j (by omega) h2)
    rw [show i + 1 + ts.length = i + (ts.length + 1) by omega] at b2 b3
    refine ⟨⟨a1, b1⟩, b2, b3, fun k hk => ?_⟩
    cases k with
    | zero => exact a3
    | succ k =>
      have hk : k + 1 < ts.length + 1 := hk
      have := b4 k (by omega)
      rw [show i + 1 + k = i + (k + 1) by omega] at this
      exact this
/-- a text of tokens and spaces behind them -/
theorem lexa {ts : List Tn} {tr : List Nat} (hg : gsq false ts) (ht : ∀ c, c ∈ tr → tS c = true) : AGs (bw (flt ts ++ tr)) (flt ts ++ tr).length 0 ts ∧ Kd (bw (flt ts ++ tr)) (flt ts ++ tr).length ts.length = 0 ∧ St (bw (flt ts ++ tr)) (flt ts ++ tr).length ts.length = (flt ts ++ tr).length ∧ ∀ k, k < ts.length → St (bw (flt ts ++ tr)) (flt ts ++ tr).length k < (flt ts ++ tr).length := by
  have h := lexs (b := bw (flt ts ++ tr)) (n := (flt ts ++ tr).length) ts false 0 0 hg rfl (fun j hj => by rw [Nat.zero_add, bw_app, if_pos hj]) (by rw [List.length_append]; omega) (fun j h1 h2 => by
    rw [List.length_append] at h2
    rw [bw_app, if_neg (by omega)]
    exact ht _ (bw_mem (by omega)))
  rw [Nat.zero_add] at h
  refine ⟨h.1, h.2.1, h.2.2.1, fun k hk => ?_⟩
  have := h.2.2.2 k hk
  rw [Nat.zero_add] at this
  exact this
end T8
