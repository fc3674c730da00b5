/-! what constructors build: a block of new cells -/
def wv_ (ws : List (Nat × Nat × Int32)) (i k : Nat) : Int32 := match ws.find? (fun q => q.1 == i && q.2.1 == k) with
  | some q => q.2.2
  | none => 0
def shf (c : Nat) (l : List (Nat × Nat × Nat)) : List (Nat × Nat × Nat) := l.map fun q => (q.1 + c, q.2.1, q.2.2 + c)
def shw (c : Nat) (l : List (Nat × Nat × Int32)) : List (Nat × Nat × Int32) := l.map fun q => (q.1 + c, q.2.1, q.2.2)
/-- from G on lie cells of these kinds, with these references and these numbers, all else zero -/
def BK (m : am_M) (G : Nat) (ks : List (Nat × Nat)) (rs : List (Nat × Nat × Nat)) (ws : List (Nat × Nat × Int32)) (p : Nat) (L : Nat → Int64) : Prop := (∀ i, i < ks.length → gk_ m (G + i) = ks.getD i (0, 0)) ∧ (∀ q, q ∈ rs → q.1 < ks.length ∧ gr_ m (G + q.1) q.2.1 = G + q.2.2) ∧ (∀ i k, i < ks.length → gi_ m (G + i) k = wv_ ws i k) ∧ (∀ i k, i < ks.length → gl_ m (G + i) k = if i = p then L k else 0) ∧ (∀ q, q ∈ ws → q.1 < ks.length) ∧ p < ks.length
def z_ : Nat → Int64 := fun _ => 0
theorem z_if (c : Prop) [Decidable c] (k : Nat) : (if c then z_ k else 0) = 0 := by
  split <;> rfl
/-- below G all is as it was -/
def Sm (G : Nat) (m m' : am_M) : Prop := ∀ b, b < G → gk_ m' b = gk_ m b ∧ gi_ m' b = gi_ m b ∧ gl_ m' b = gl_ m b ∧ gr_ m' b = gr_ m b ∧ gd_ m' b = gd_ m b
/-- so many cells more -/
def Nw (m m' : am_M) (n z : Nat) : Prop := gt_ m' = gt_ m + n ∧ gc_ m' = gc_ m + n ∧ gs_ m' = gs_ m + z ∧ ge_ m' = ge_ m
theorem Sm.refl (G : Nat) (m : am_M) : Sm G m m := fun _ _ => ⟨rfl, rfl, rfl, rfl, rfl⟩
theorem Sm.trans {G : Nat} {m m1 m2 : am_M} (h : Sm G m m1) (h' : Sm G m1 m2) : Sm G m m2 := fun b hb => by
  obtain ⟨a1, a2, a3, a4, a5⟩ := h b hb
  obtain ⟨b1, b2, b3, b4, b5⟩ := h' b hb
  exact ⟨b1.trans a1, b2.trans a2, b3.trans a3, b4.trans a4, b5.trans a5⟩
theorem Sm.lo {G H : Nat} {m m1 : am_M} (h : Sm G m m1) (hH : H ≤ G) : Sm H m m1 := fun b hb => h b (by omega)
theorem Nw.refl (m : am_M) : Nw m m 0 0 := ⟨rfl, rfl, rfl, rfl⟩
theorem Nw.trans {m m1 m2 : am_M} {n z n' z' : Nat} (h : Nw m m1 n z) (h' : Nw m1 m2 n' z') : Nw m m2 (n + n') (z + z') := by
  obtain ⟨a1, a2, a3, a4⟩ := h
  obtain ⟨b1, b2, b3, b4⟩ := h'
  exact ⟨by omega, by omega, by omega, b4.trans a4⟩
theorem Sm.al (m : am_M) (k : Nat × Nat) (n : Nat) : Sm (gt_ m) m (al_ m k n) := fun b hb => by
  have hb' : ¬ b = gt_ m := by omega
  refine ⟨if_neg hb', ?_, ?_, ?_, ?_⟩
  · exact if_neg hb'
  · exact if_neg hb'
  · exact if_neg hb'
  · exact if_neg hb'
theorem Nw.al (m : am_M) (k : Nat × Nat) (n : Nat) : Nw m (al_ m k n) 1 n := ⟨rfl, rfl, rfl, rfl⟩
theorem Sm.sr {G a k v : Nat} {m m' : am_M} (h : Sm G m m') (ha : G ≤ a) : Sm G m (sr_ m' a k v) := fun b hb => by
  obtain ⟨a1, a2, a3, a4, a5⟩ := h b hb
  exact ⟨a1, a2, a3, (funext fun j => if_neg (fun z => by omega)).trans a4, a5⟩
theorem Sm.si {G a k : Nat} {v : Int32} {m m' : am_M} (h : Sm G m m') (ha : G ≤ a) : Sm G m (si_ m' a k v) := fun b hb => by
  obtain ⟨a1, a2, a3, a4, a5⟩ := h b hb
  exact ⟨a1, (funext fun j => if_neg (fun z => by omega)).trans a2, a3, a4, a5⟩
theorem fnd_no {ws : List (Nat × Nat × Int32)} {i k : Nat} (h : ∀ q, q ∈ ws → ¬ q.1 = i) : ws.find? (fun q => q.1 == i && q.2.1 == k) = none := List.find?_eq_none.mpr (fun q hq => by
  have := h q hq
  simp [this])
theorem wv_no {ws : List (Nat × Nat × Int32)} {i k : Nat} (h : ∀ q, q ∈ ws → ¬ q.1 = i) : wv_ ws i k = 0 := by
  unfold wv_
  rw [fnd_no h]
/-- one new cell -/
theorem BK.one (m : am_M) (k : Nat × Nat) (n : Nat) : BK (al_ m k n) (gt_ m) [k] [] [] 0 z_ := by
  have z : ∀ i, i < [k].length → i = 0 := fun i hi => by
    have : i < 1 := hi
    omega
  refine ⟨?_, ?_, ?_, ?_, ?_, Nat.one_pos⟩
  · intro i hi
    rw [z i hi]
    exact gk_al m k n
  · intro q hq
    cases hq
  · intro i j hi
    rw [z i hi]
    exact gi_al m k n j
  · intro i j hi
    rw [z i hi, z_if]
    exact gl_al m k n j
  · intro q hq
    cases hq
/-- a block behind a block -/
theorem BK.app0 {G p p' p1 : Nat} {L L' L1 : Nat → Int64} {m m' : am_M} {ks ks' : List (Nat × Nat)} {rs rs' : List (Nat × Nat × Nat)} {ws ws' : List (Nat × Nat × Int32)} (h : BK m G ks rs ws p L) (hs : Sm (G + ks.length) m m') (h' : BK m' (G + ks.length) ks' rs' ws' p' L') (hp : p1 < ks.length + ks'.length) (hl : ∀ i k, i < ks.length → (if i = p then L k else 0) = if i = p1 then L1 k else 0) (hl' : ∀ i k, ks.length ≤ i → (if i - ks.length = p' then L' k else 0) = if i = p1 then L1 k else 0) : BK m' G (ks ++ ks') (rs ++ shf ks.length rs') (ws ++ shw ks.length ws') p1 L1 := by
  obtain ⟨a1, a2, a3, a4, a5, a6⟩ := h
  obtain ⟨b1, b2, b3, b4, b5, b6⟩ := h'
  refine ⟨fun i hi => ?_, fun q hq => ?_, fun i k hi => ?_, fun i k hi => ?_, fun q hq => ?_, by rw [List.length_append]; exact hp⟩
  · rw [List.length_append] at hi
    rw [List.getD_eq_getElem?_getD, List.getElem?_append]
    by_cases e : i < ks.length
    · rw [if_pos e, ← List.getD_eq_getElem?_getD, ← a1 i e]
      exact (hs _ (by omega)).1
    · rw [if_neg e, ← List.getD_eq_getElem?_getD, ← b1 (i - ks.length) (by omega), show G + ks.length + (i - ks.length) = G + i by omega]
  · rw [List.length_append]
    rcases List.mem_append.mp hq with hq | hq
    · obtain ⟨c1, c2⟩ := a2 q hq
      exact ⟨by omega, by rw [(hs _ (by omega)).2.2.2.1]; exact c2⟩
    · obtain ⟨p, p1, rfl⟩ := List.mem_map.mp hq
      obtain ⟨c1, c2⟩ := b2 p p1
      refine ⟨by show p.1 + ks.length < _; omega, ?_⟩
      show gr_ m' (G + (p.1 + ks.length)) p.2.1 = G + (p.2.2 + ks.length)
      rw [show G + (p.1 + ks.length) = G + ks.length + p.1 by omega, c2]
      omega
  · rw [List.length_append] at hi
    by_cases e : i < ks.length
    · rw [(hs _ (by omega)).2.1, a3 i k e]
      unfold wv_
      rw [List.find?_append, fnd_no (ws := shw ks.length ws') (fun q hq => by
        obtain ⟨p, p1, rfl⟩ := List.mem_map.mp hq
        show ¬ p.1 + ks.length = i
        omega), Option.or_none]
    · have w := b3 (i - ks.length) k (by omega)
      rw [show G + ks.length + (i - ks.length) = G + i by omega] at w
      rw [w]
      unfold wv_
      rw [List.find?_append, fnd_no (ws := ws) (fun q hq => by
        have := a5 q hq
        omega), Option.none_or]
      have ek : ∀ l : List (Nat × Nat × Int32), (match (shw ks.length l).find? (fun q => q.1 == i && q.2.1 == k) with | some q => q.2.2 | none => 0) = (match l.find? (fun q => q.1 == i - ks.length && q.2.1 == k) with | some q => q.2.2 | none => 0) := by
        intro l
        induction l with
        | nil => rfl
        | cons p l ih =>
          show (match (((p.1 + ks.length, p.2.1, p.2.2) :: shw ks.length l).find? (fun q => q.1 == i && q.2.1 == k)) with | some q => q.2.2 | none => 0) = _
          rw [List.find?_cons, List.find?_cons]
          have eq : (p.1 + ks.length == i) = (p.1 == i - ks.length) := by
            by_cases z : p.1 + ks.length = i
            · rw [beq_iff_eq.mpr z, beq_iff_eq.mpr (show p.1 = i - ks.length by omega)]
            · rw [beq_eq_false_iff_ne.mpr z, beq_eq_false_iff_ne.mpr (show p.1 ≠ i - ks.length by omega)]
          dsimp only
          rw [eq]
          cases (p.1 == i - ks.length && p.2.1 == k) with
          | true => rfl
          | false => exact ih
      exact (ek ws').symm
  · rw [List.length_append] at hi
    by_cases e : i < ks.length
    · rw [(hs _ (by omega)).2.2.1]
      exact (a4 i k e).trans (hl i k e)
    · have := b4 (i - ks.length) k (by omega)
      rw [show G + ks.length + (i - ks.length) = G + i by omega] at this
      exact this.trans (hl' i k (by omega))
  · rw [List.length_append]
    rcases List.mem_append.mp hq with hq | hq
    · have := a5 q hq; omega
    · obtain ⟨p, p1, rfl⟩ := List.mem_map.mp hq
      have := b5 p p1
      show p.1 + ks.length < _
      omega
theorem BK.app {G p p' : Nat} {L : Nat → Int64} {m m' : am_M} {ks ks' : List (Nat × Nat)} {rs rs' : List (Nat × Nat × Nat)} {ws ws' : List (Nat × Nat × Int32)} (h : BK m G ks rs ws p L) (hs : Sm (G + ks.length) m m') (h' : BK m' (G + ks.length) ks' rs' ws' p' z_) : BK m' G (ks ++ ks') (rs ++ shf ks.length rs') (ws ++ shw ks.length ws') p L := by
  have h6 := h.2.2.2.2.2
  exact h.app0 hs h' (by omega) (fun i k hi => rfl) (fun i k hi => by rw [z_if, if_neg (show ¬ i = p by omega)])
theorem BK.app1 {G p p' : Nat} {L : Nat → Int64} {m m' : am_M} {ks ks' : List (Nat × Nat)} {rs rs' : List (Nat × Nat × Nat)} {ws ws' : List (Nat × Nat × Int32)} (h : BK m G ks rs ws p z_) (hs : Sm (G + ks.length) m m') (h' : BK m' (G + ks.length) ks' rs' ws' p' L) : BK m' G (ks ++ ks') (rs ++ shf ks.length rs') (ws ++ shw ks.length ws') (ks.length + p') L := by
  have h6 := h'.2.2.2.2.2
  refine h.app0 hs h' (by omega) (fun i k hi => by rw [z_if, if_neg (show ¬ i = ks.length + p' by omega)]) (fun i k hi => ?_)
  by_cases e : i - ks.length = p'
  · rw [if_pos e, if_pos (by omega)]
  · rw [if_neg e, if_neg (by omega)]
/-- a reference is set -/
theorem BK.sr {G p : Nat} {L : Nat → Int64} {m : am_M} {ks : List (Nat × Nat)} {rs : List (Nat × Nat × Nat)} {ws : List (Nat × Nat × Int32)} (h : BK m G ks rs ws p L) (i k j : Nat) (hi : i < ks.length) (hn : ∀ q, q ∈ rs → ¬ (q.1 = i ∧ q.2.1 = k)) : BK (sr_ m (G + i) k (G + j)) G ks ((i, k, j) :: rs) ws p L := by
  obtain ⟨a1, a2, a3, a4, a5, a6⟩ := h
  refine ⟨a1, fun q hq => ?_, a3, a4, a5, a6⟩
  rcases List.mem_cons.mp hq with e | hq
  · subst e
    exact ⟨hi, if_pos ⟨rfl, rfl⟩⟩
  · obtain ⟨c1, c2⟩ := a2 q hq
    exact ⟨c1, (if_neg (fun z => hn q hq ⟨by omega, z.2⟩)).trans c2⟩
/-- a number is set -/
theorem BK.si {G p : Nat} {L : Nat → Int64} {m : am_M} {ks : List (Nat × Nat)} {rs : List (Nat × Nat × Nat)} {ws : List (Nat × Nat × Int32)} (h : BK m G ks rs ws p L) (i k : Nat) (v : Int32) (hi : i < ks.length) : BK (si_ m (G + i) k v) G ks rs ((i, k, v) :: ws) p L := by
  obtain ⟨a1, a2, a3, a4, a5, a6⟩ := h
  refine ⟨a1, a2, fun i' k' hi' => ?_, a4, fun q hq => ?_, a6⟩
  · rw [gi_si]
    unfold wv_
    rw [List.find?_cons]
    by_cases e : i' = i ∧ k' = k
    · obtain ⟨e1, e2⟩ := e
      subst e1
      subst e2
      rw [if_pos ⟨rfl, rfl⟩, beq_self_eq_true, beq_self_eq_true]
      rfl
    · rw [if_neg (fun z => e ⟨by omega, z.2⟩)]
      have : (i == i' && k == k') = false := by
        rw [Bool.and_eq_false_iff, beq_eq_false_iff_ne, beq_eq_false_iff_ne]
        omega
      dsimp only
      rw [this]
      exact a3 i' k' hi'
  · rcases List.mem_cons.mp hq with e | hq
    · subst e; exact hi
    · exact a5 q hq

/-- a long number is set -/
theorem BK.sl {G p : Nat} {L : Nat → Int64} {m : am_M} {ks : List (Nat × Nat)} {rs : List (Nat × Nat × Nat)} {ws : List (Nat × Nat × Int32)} (h : BK m G ks rs ws p L) (k : Nat) (v : Int64) : BK (sl_ m (G + p) k v) G ks rs ws p (fun j => if j = k then v else L j) := by
  obtain ⟨a1, a2, a3, a4, a5, a6⟩ := h
  refine ⟨a1, a2, a3, fun i j hi => ?_, a5, a6⟩
  rw [gl_sl]
  by_cases e : i = p
  · subst e
    rw [if_pos rfl]
    by_cases e2 : j = k
    · subst e2
      rw [if_pos ⟨rfl, rfl⟩]
      exact (if_pos rfl).symm
    · rw [if_neg (fun z => e2 z.2), a4 i j hi, if_pos rfl]
      exact (if_neg e2).symm
  · rw [if_neg e, if_neg (fun z => e (by omega)), a4 i j hi, if_neg e]
theorem Sm.sl {G a k : Nat} {v : Int64} {m m' : am_M} (h : Sm G m m') (ha : G ≤ a) : Sm G m (sl_ m' a k v) := fun b hb => by
  obtain ⟨a1, a2, a3, a4, a5⟩ := h b hb
  exact ⟨a1, a2, (funext fun j => if_neg (fun z => by omega)).trans a3, a4, a5⟩
