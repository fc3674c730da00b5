/-! a text that reads as rows -/
def Rd (ts : List Tn) (c : Nat) (s : Nat → Int32) (q : Nat → Int64) : Prop := ∀ b n, AGs b n 0 ts → ∀ f, sLp b n (f + c) 0 0 z0s z0q = sLp b n f c ts.length s q
def ef : Bool → List Tn → Bool
  | f, [] => f
  | _, t :: ts => ef (decide (¬ t.2 = [59])) ts
/-- small -/
def SM (s : Nat → Int32) (q : Nat → Int64) : Prop := NMS s q ∧ (∀ k, k < 462 → q k = 0) ∧ (∀ k, 4 ≤ k → k < 8 → s k = 0) ∧ ∀ k, 8 + cN s 0 ≤ k → k < 18 → s k = 0
/-- of every advance all is open -/
def AE (s : Nat → Int32) : Prop := ∀ a, a < cN s 3 → s (690 + 6 * a + 5) = s (690 + 6 * a + 2)
def GT (l : List Int32) (s : Nat → Int32) (q : Nat → Int64) : Prop := ∃ ts tr c, l = (flt ts ++ tr).map nI ∧ gsq false ts ∧ ef false ts = false ∧ spc tr ∧ c ≤ ts.length ∧ Rd ts c s q ∧ WG 0 s q ∧ SM s q ∧ AE s
def ee (i : Nat) : List Nat := if i = 7 then [32] else []
def et (i : Nat) : List Nat := if i = 7 then [10] else []
section T8
variable {b : Nat → Nat} {n i c : Nat} {s s' : Nat → Int32} {q q' : Nat → Int64} {l txt : List Int32}
theorem gsq_app : ∀ (a t : List Tn) (f : Bool), gsq f a → gsq (ef f a) t → gsq f (a ++ t) := by
  intro a
  induction a with
  | nil => intro t f _ h; exact h
  | cons x a ih => intro t f h h2; exact ⟨h.1, h.2.1, ih t _ h.2.2 h2⟩
theorem ef_app : ∀ (a t : List Tn) (f : Bool), ef f (a ++ t) = ef (ef f a) t := by
  intro a
  induction a with
  | nil => intro t f; rfl
  | cons x a ih => intro t f; exact ih t _
theorem flt_len : ∀ ts f, gsq f ts → ts.length ≤ (flt ts).length := by
  intro ts
  induction ts with
  | nil => intro f _; exact Nat.le_refl _
  | cons t ts ih =>
    intro f h
    obtain ⟨⟨_, g2, _⟩, _, h3⟩ := h
    have := ih _ h3
    have hl : 0 < t.2.length := Nat.pos_of_ne_zero (fun z => g2 (List.length_eq_zero_iff.mp z))
    show ts.length + 1 ≤ (t.1 ++ (t.2 ++ flt ts)).length
    rw [List.length_append, List.length_append]
    omega
theorem Rd.nil : Rd [] 0 z0s z0q := fun _ _ _ _ => rfl
theorem Rd.add {ts t : List Tn} (h : Rd ts c s q) (hr : ∀ b n, AGs b n ts.length t → sST s q b n ts.length = .inr (ts.length + t.length, s', q') ∧ ¬ Kd b n ts.length = 0) : Rd (ts ++ t) (c + 1) s' q' := by
  intro b n hA f
  obtain ⟨h1, h2⟩ := (AGs_app _ _ _).mp hA
  rw [Nat.zero_add] at h2
  obtain ⟨r1, r2⟩ := hr b n h2
  rw [show f + (c + 1) = f + 1 + c by omega, h b n h1 (f + 1), sLp, if_neg r2, r1, eb_i, List.length_append]
theorem GT.nil : GT [] z0s z0q := ⟨[], [], 0, rfl, trivial, rfl, spc0, Nat.le_refl _, Rd.nil, WG_0, ⟨⟨fun p hp => absurd hp (by rw [cN_z]; omega), fun p hp => absurd hp (by rw [cN_z]; omega), by rw [cN_z]; omega, by rw [cN_z]; omega⟩, fun _ _ => rfl, fun _ _ _ => rfl, fun _ _ _ => rfl⟩, fun a ha => absurd ha (by rw [cN_z]; omega)⟩
/-- one statement more -/
theorem GT.stm (h : GT l s q) (T : List Nat → List Tn) {tr' : List Nat} (ht : ∀ tr, spc tr → gsq false (T tr)) (hef : ∀ tr, ef false (T tr) = false) (hl : ∀ tr, 0 < (T tr).length) (hx : ∀ tr, tr.map nI ++ txt = (flt (T tr) ++ tr').map nI) (h' : spc tr') (hr : ∀ tr b n i, AGs b n i (T tr) → sST s q b n i = .inr (i + (T tr).length, s', q') ∧ ¬ Kd b n i = 0) (hS : SM s' q') (hE : AE s → AE s') : GT (l ++ txt) s' q' := by
  obtain ⟨ts, tr, c, e1, e2, e3, e4, e5, e6, e7, e8⟩ := h
  have hg : gsq false (ts ++ T tr) := gsq_app ts (T tr) false e2 (by rw [e3]; exact ht tr e4)
  have hR : Rd (ts ++ T tr) (c + 1) s' q' := e6.add (fun b n hA => hr tr b n _ hA)
  have hA := (lexa hg h').1
  obtain ⟨_, a2⟩ := (AGs_app _ _ _).mp hA
  have hW := sST_WG e7 (hr tr _ _ _ a2).1
  refine ⟨ts ++ T tr, tr', c + 1, ?_, hg, by rw [ef_app, e3]; exact hef tr, h', by rw [List.length_append]; have := hl tr; omega, hR, hW, hS, hE e8.2⟩
  rw [e1, flt_app, List.map_append, List.append_assoc, hx tr, List.map_append, List.map_append, List.map_append, List.append_assoc]
/-- the whole text, as the class reads it -/
theorem GT.read (h : GT l s q) (hl : l.length ≤ 900) : ∃ w : List Nat, l = w.map nI ∧ (∀ k, k < w.length → bw w k < 128) ∧ ∃ c j, sLp (bw w) w.length 900 0 0 z0s z0q = .inr (j, c, s, q) := by
  obtain ⟨ts, tr, c, e1, e2, e3, e4, e5, e6, e7, e8⟩ := h
  obtain ⟨a1, a2, a3, a4⟩ := lexa e2 e4
  have hlen : (flt ts ++ tr).length ≤ 900 := by
    rw [e1, List.length_map] at hl
    exact hl
  have hc : c ≤ 900 := by
    have := flt_len ts _ e2
    rw [List.length_append] at hlen
    omega
  have hr := e6 _ _ a1 (900 - c)
  rw [show 900 - c + c = 900 by omega] at hr
  have hend : sLp (bw (flt ts ++ tr)) (flt ts ++ tr).length (900 - c) c ts.length s q = .inr (ts.length, c, s, q) := by
    cases 900 - c with
    | zero => rfl
    | succ f => rw [sLp, if_pos a2]
  refine ⟨flt ts ++ tr, e1, ?_, c, ts.length, hr.trans hend⟩
  have hall : ∀ (ts : List Tn) (f : Bool), gsq f ts → ∀ x, x ∈ flt ts → x < 128 := by
    intro ts
    induction ts with
    | nil => intro f _ x hx; exact absurd hx List.not_mem_nil
    | cons t ts ih =>
      intro f hg x hx
      obtain ⟨⟨g1, g2, g3⟩, _, h3⟩ := hg
      have hx : x ∈ t.1 ++ (t.2 ++ flt ts) := hx
      rcases List.mem_append.mp hx with hx | hx
      · have := of_decide_eq_true (g1 x hx)
        omega
      · rcases List.mem_append.mp hx with hx | hx
        · rcases g3 with g | g | g
          · have := of_decide_eq_true (g x hx)
            omega
          · have := of_decide_eq_true (g x hx)
            omega
          · rw [g] at hx
            rw [List.mem_singleton.mp hx]
            omega
        · exact ih _ h3 x hx
  intro k hk
  have hm := bw_mem (l := flt ts ++ tr) hk
  rcases List.mem_append.mp hm with hm | hm
  · exact hall ts false e2 _ hm
  · have := of_decide_eq_true (e4 _ hm)
    omega
theorem kbe {i : Nat} (h : i = 7 ∨ i = 8) : kb_ i = (ee i).map nI ++ ([59].map nI ++ (et i).map nI) ∧ spc (ee i) ∧ spc (et i) := by
  rcases h with rfl | rfl
  · exact ⟨by decide +kernel, spc1, spc2⟩
  · exact ⟨by decide +kernel, spc0, spc0⟩
theorem kb12 : kb_ 12 = [32].map nI := by decide +kernel
theorem kb11 : kb_ 11 = [32].map nI ++ (kw 22).map nI := by decide +kernel
theorem kb13 : kb_ 13 = (kw 10).map nI ++ [32].map nI := by decide +kernel
theorem kb14 : kb_ 14 = [32].map nI ++ ((kw 11).map nI ++ [32].map nI) := by decide +kernel
theorem kb15 : kb_ 15 = (kw 9).map nI ++ [32].map nI := by decide +kernel
theorem kb16 : kb_ 16 = (kw 12).map nI ++ [32].map nI := by decide +kernel
theorem kb17 : kb_ 17 = [32].map nI ++ ((kw 13).map nI ++ [32].map nI) := by decide +kernel
theorem kb18 : kb_ 18 = (kw 14).map nI ++ [32].map nI := by decide +kernel
theorem kb19 : kb_ 19 = [32].map nI ++ ((kw 15).map nI ++ [32].map nI) := by decide +kernel
theorem kb20 : kb_ 20 = (kw 7).map nI ++ [32].map nI := by decide +kernel
theorem kb21 : kb_ 21 = [32].map nI ++ ((kw 8).map nI ++ [32].map nI) := by decide +kernel
theorem kb22 : kb_ 22 = (kw 16).map nI ++ [32].map nI := by decide +kernel
theorem kb23 : kb_ 23 = [32].map nI ++ ((kw 17).map nI ++ [32].map nI) := by decide +kernel
theorem kb24 : kb_ 24 = [32].map nI ++ ((kw 18).map nI ++ [32].map nI) := by decide +kernel
theorem kb25 : kb_ 25 = (kw 19).map nI ++ [32].map nI := by decide +kernel
theorem kb26 : kb_ 26 = [32].map nI ++ ((kw 20).map nI ++ [32].map nI) := by decide +kernel
theorem kb27 : kb_ 27 = [32].map nI ++ ((kw 21).map nI ++ [32].map nI) := by decide +kernel
theorem nmP {p : Nat} : nm_ 9 p = (nmw 112 p).map nI := by
  show kb_ 9 ++ [nI (97 + p)] = [nI 112, nI (97 + p)]
  rw [show kb_ 9 = [nI 112] from by decide +kernel]
  rfl
theorem nmW {p : Nat} : nm_ 10 p = (nmw 119 p).map nI := by
  show kb_ 10 ++ [nI (97 + p)] = [nI 119, nI (97 + p)]
  rw [show kb_ 10 = [nI 119] from by decide +kernel]
  rfl
end T8
