/-! a text that reads as rows: each statement -/
section T8
variable {s s' : Nat → Int32} {q q' : Nat → Int64} {l : List Int32}
theorem GT.wg (h : GT l s q) : WG 0 s q := by
  obtain ⟨ts, tr, c, e1, e2, e3, e4, e5, e6, e7, e8⟩ := h
  exact e7
theorem GT.sm (h : GT l s q) : SM s q := by
  obtain ⟨ts, tr, c, e1, e2, e3, e4, e5, e6, e7, e8⟩ := h
  exact e8.1
theorem GT.ae (h : GT l s q) : AE s := by
  obtain ⟨ts, tr, c, e1, e2, e3, e4, e5, e6, e7, e8⟩ := h
  exact e8.2
theorem AE.keep (h : AE s) (h3 : s' 3 = s 3) (hk : ∀ k, 690 ≤ k → s' k = s k) : AE s' := fun a ha => by
  rw [hk _ (by omega), hk _ (by omega)]
  exact h a (by rw [← cN_cg h3]; exact ha)
def bts (L : List (Nat × Nat)) : List Int32 := (flt (sht L)).map nI
theorem bts_s (L : List (Nat × Nat)) (x : Nat × Nat) : bts (L ++ [x]) = bts L ++ (kb_ 12 ++ (nm_ 9 x.1 ++ (kb_ 12 ++ dg_ x.2))) := by
  unfold bts
  rw [sht_app, flt_app, List.map_append, kb12, nmP, dg_n]
  show _ ++ ([32] ++ (nmw 112 x.1 ++ ([32] ++ (dgn x.2 ++ [])))).map nI = _
  rw [List.map_append, List.map_append, List.map_append, List.append_nil]
theorem gsq_sht : ∀ (L : List (Nat × Nat)) (f : Bool) {e : List Nat}, (∀ x, x ∈ L → x.1 < 20 ∧ x.2 < 10000) → spc e → gsq f (sht L ++ [(e, [59])]) := by
  intro L
  induction L with
  | nil => intro f e _ he; exact ⟨gtk_s he, fun _ => .inr rfl, trivial⟩
  | cons x L ih =>
    intro f e h he
    obtain ⟨h1, h2⟩ := h x (List.mem_cons.mpr (.inl rfl))
    exact ⟨gtk_p spc1 h1, fun _ => .inl (List.cons_ne_nil _ _), gtk_n spc1 h2, fun _ => .inl (List.cons_ne_nil _ _), ih _ (fun y hy => h y (List.mem_cons.mpr (.inr hy))) he⟩
theorem ef_sht (L : List (Nat × Nat)) (f : Bool) {e : List Nat} : ef f (sht L ++ [(e, [59])]) = false := by
  rw [ef_app]
  rfl
theorem flt_sht (L : List (Nat × Nat)) {e : List Nat} : (flt (sht L ++ [(e, [59])])).map nI = bts L ++ (e.map nI ++ [59].map nI) := by
  rw [flt_app, List.map_append]
  show _ ++ (e ++ ([59] ++ [])).map nI = _
  rw [List.map_append, List.append_nil]
  rfl
theorem cN_eq {k v : Nat} (h : s' k = nI v) (hv : v < 2 ^ 31) : cN s' k = v := cN_ h hv
theorem AE.pay {v : Nat} (h9 : cN s 0 < 10) (h : AE s) : AE (pyS s v) := h.keep ((if_neg (by omega)).trans (if_neg (by omega))) fun k hk => (if_neg (by omega)).trans (if_neg (by omega))
theorem splU_hi {w n day k : Nat} {L : List (Nat × Nat)} (hw : w < 12) (hn : n < 5) (hL : L.length ≤ 4) (hk : 690 ≤ k) : splU s w n day L k = s k := by
  unfold splU
  rw [if_neg (by omega), if_neg (by omega), if_neg (by omega), if_neg (by omega), if_neg (by omega)]
theorem srcU_hi {w n so pc k : Nat} (hw : w < 12) (hn : n < 5) (hk : 690 ≤ k) : srcU s w n so pc k = s k := by
  unfold srcU
  rw [if_neg (by omega), if_neg (by omega), if_neg (by omega)]
theorem AE.row2 {r : Nat} {f : Nat → Int32} (hr : r < 16) (h : AE s) : AE (rowU s 594 2 r f) := h.keep (by unfold rowU; rw [if_neg (by omega), if_neg (by omega)]) fun k hk => by
  unfold rowU
  rw [if_neg (by omega), if_neg (by omega)]
theorem AE.row3 {f : Nat → Int32} (h12 : cN s 3 < 12) (hf : f 5 = f 2) (h : AE s) : AE (rowU s 690 3 (cN s 3) f) := fun a ha => by
  have e : cN (rowU s 690 3 (cN s 3) f) 3 = cN s 3 + 1 := cN_ (if_pos rfl) (by omega)
  rw [e] at ha
  unfold rowU
  by_cases c : a = cN s 3
  · subst c
    rw [if_neg (by omega), if_pos (by omega), if_neg (by omega), if_pos (by omega)]
    rw [show 690 + 6 * cN s 3 + 5 - (690 + 6 * cN s 3) = 5 by omega, show 690 + 6 * cN s 3 + 2 - (690 + 6 * cN s 3) = 2 by omega]
    exact hf
  · rw [if_neg (by omega), if_neg (by omega), if_neg (by omega), if_neg (by omega)]
    exact h a (by omega)
theorem SM.pay {v : Nat} (h : SM s q) (h9 : cN s 0 < 10) : SM (pyS s v) (pyQ s q (pv (cN s 0))) := by
  obtain ⟨⟨n1, n2, n3, n4⟩, z1, z2, z3⟩ := h
  have e0 : cN (pyS s v) 0 = cN s 0 + 1 := cN_ (if_pos rfl) (by omega)
  have e1 : cN (pyS s v) 1 = cN s 1 := cN_cg ((if_neg (by omega)).trans (if_neg (by omega)))
  refine ⟨⟨fun p hp => ?_, fun w hw => ?_, by omega, by omega⟩, fun k hk => (if_neg (by omega)).trans (z1 k hk), fun k h1 h2 => ((if_neg (by omega)).trans (if_neg (by omega))).trans (z2 k h1 h2), fun k h1 h2 => ((if_neg (by omega)).trans (if_neg (by omega))).trans (z3 k (by omega) h2)⟩
  · rw [e0] at hp
    unfold pyQ
    by_cases e : p = cN s 0
    · rw [e, if_pos rfl]
    · rw [if_neg (by omega), n1 p (by omega)]
  · rw [e1] at hw
    unfold pyQ
    rw [if_neg (by omega), n2 w hw]
theorem SM.keep (h : SM s q) (h1 : ∀ k, k < 18 → ¬ k = 2 → ¬ k = 3 → s' k = s k) : SM s' q := by
  obtain ⟨⟨n1, n2, n3, n4⟩, z1, z2, z3⟩ := h
  have e0 : cN s' 0 = cN s 0 := cN_cg (h1 _ (by omega) (by omega) (by omega))
  have e1 : cN s' 1 = cN s 1 := cN_cg (h1 _ (by omega) (by omega) (by omega))
  exact ⟨⟨fun p hp => n1 p (by omega), fun w hw => n2 w (by omega), by omega, by omega⟩, z1, fun k h2 h3 => (h1 k (by omega) (by omega) (by omega)).trans (z2 k h2 h3), fun k h2 h3 => (h1 k (by omega) (by omega) (by omega)).trans (z3 k (by omega) h3)⟩
theorem splU_lo {w n day k : Nat} {L : List (Nat × Nat)} (hk : k < 18) : splU s w n day L k = s k := by
  unfold splU
  rw [if_neg (by omega), if_neg (by omega), if_neg (by omega), if_neg (by omega), if_neg (by omega)]
theorem srcU_lo {w n so pc k : Nat} (hk : k < 18) : srcU s w n so pc k = s k := by
  unfold srcU
  rw [if_neg (by omega), if_neg (by omega), if_neg (by omega)]
theorem SM.wrk (h : SM s q) (h9 : cN s 1 < 12) (e1 : cN s' 1 = cN s 1 + 1) (h1 : ∀ k, k < 18 → ¬ k = 1 → s' k = s k) : SM s' (wkQ s q (wv (cN s 1))) := by
  obtain ⟨⟨n1, n2, n3, n4⟩, z1, z2, z3⟩ := h
  have e0 : cN s' 0 = cN s 0 := cN_cg (h1 _ (by omega) (by omega))
  refine ⟨⟨fun p hp => ?_, fun w hw => ?_, by omega, by omega⟩, fun k hk => (if_neg (by omega)).trans (z1 k hk), fun k h2 h3 => (h1 k (by omega) (by omega)).trans (z2 k h2 h3), fun k h2 h3 => (h1 k (by omega) (by omega)).trans (z3 k (by omega) h3)⟩
  · rw [e0] at hp
    unfold wkQ
    rw [if_neg (by omega), n1 p hp]
  · rw [e1] at hw
    unfold wkQ
    by_cases e : w = cN s 1
    · rw [e, if_pos rfl]
    · rw [if_neg (by omega), n2 w (by omega)]
theorem GT.p0 (h : GT l s q) (h9 : cN s 0 < 10) {ie : Nat} (hi : ie = 7 ∨ ie = 8) : GT (l ++ (kb_ 20 ++ (nm_ 9 (cN s 0) ++ kb_ ie))) (pyS s 0) (pyQ s q (pv (cN s 0))) := by
  obtain ⟨k1, k2, k3⟩ := kbe hi
  refine h.stm (fun tr => tPS0 tr (ee ie) (cN s 0)) (tr' := et ie) (fun tr ht => ⟨gtk_kw ht (by omega) (by omega), fun z => absurd z (by decide), gtk_p spc1 (by omega), fun _ => .inl (List.cons_ne_nil _ _), gtk_s k2, fun _ => .inr rfl, trivial⟩) (fun tr => rfl) (fun tr => by show 0 < 3; omega) (fun tr => ?_) k3 (fun tr b n i hA => rPS0 h.sm.1 h9 hA) (h.sm.pay h9) (AE.pay h9)
  rw [k1]
  simp only [tPS0, flt, List.map_append, kb20, nmP, List.append_assoc, List.map_nil, List.nil_append]
theorem GT.p1 (h : GT l s q) (h9 : cN s 0 < 10) {v : Nat} (hv : v < 10000) {ie : Nat} (hi : ie = 7 ∨ ie = 8) : GT (l ++ (kb_ 20 ++ (nm_ 9 (cN s 0) ++ (kb_ 21 ++ (dg_ v ++ kb_ ie))))) (pyS s v) (pyQ s q (pv (cN s 0))) := by
  obtain ⟨k1, k2, k3⟩ := kbe hi
  refine h.stm (fun tr => tPS1 tr (ee ie) (cN s 0) v) (tr' := et ie) (fun tr ht => ⟨gtk_kw ht (by omega) (by omega), fun z => absurd z (by decide), gtk_p spc1 (by omega), fun _ => .inl (List.cons_ne_nil _ _), gtk_kw spc1 (by omega) (by omega), fun _ => .inl (List.cons_ne_nil _ _), gtk_n spc1 hv, fun _ => .inl (List.cons_ne_nil _ _), gtk_s k2, fun _ => .inr rfl, trivial⟩) (fun tr => rfl) (fun tr => by show 0 < 5; omega) (fun tr => ?_) k3 (fun tr b n i hA => rPS1 h.sm.1 h9 hv hA) (h.sm.pay h9) (AE.pay h9)
  rw [k1]
  simp only [tPS1, flt, List.map_append, kb20, kb21, nmP, dg_n, List.append_assoc, List.map_nil, List.nil_append]
theorem GSh.lt {L : List (Nat × Nat)} (h : GSh s L) (h10 : cN s 0 ≤ 10) : ∀ x, x ∈ L → x.1 < 20 ∧ x.2 < 10000 := fun x hx => by
  have := h.1 x hx
  omega
theorem GT.wk (h : GT l s q) (h9 : cN s 1 < 12) {L : List (Nat × Nat)} (hl : ¬ L = []) (h4 : L.length ≤ 4) (hG : GSh s L) (hs : lsum L = 100) {ie : Nat} (hi : ie = 7 ∨ ie = 8) : GT (l ++ (kb_ 15 ++ (nm_ 10 (cN s 1) ++ (kb_ 11 ++ (bts L ++ kb_ ie))))) (splU (wk1 s) (cN s 1) 0 0 L) (wkQ s q (wv (cN s 1))) := by
  obtain ⟨k1, k2, k3⟩ := kbe hi
  have hN := h.sm.1
  refine h.stm (fun tr => tWK tr (ee ie) (cN s 1) L) (tr' := et ie) (fun tr ht => ⟨gtk_kw ht (by omega) (by omega), fun z => absurd z (by decide), gtk_w spc1 (by omega), fun _ => .inl (List.cons_ne_nil _ _), gtk_kw spc1 (by omega) (by omega), fun _ => .inl (List.cons_ne_nil _ _), gsq_sht L _ (hG.lt hN.2.2.1) k2⟩) (fun tr => ef_sht L _) (fun tr => Nat.succ_pos _) (fun tr => ?_) k3 (fun tr b n i hA => by
    have hlen : (tWK tr (ee ie) (cN s 1) L).length = 2 * L.length + 4 := by
      show (sht L ++ [(ee ie, [59])]).length + 1 + 1 + 1 = _
      rw [List.length_append, sht_len]
      rfl
    rw [hlen]
    exact rWK hN h9 hl h4 hG hs hA) (h.sm.wrk h9 ?_ (fun k hk h1 => (splU_lo hk).trans (if_neg h1))) (fun z => z.keep ((splU_lo (by omega)).trans (if_neg (by omega))) fun k hk => (splU_hi (by omega) (by omega) h4 hk).trans (if_neg (by omega)))
  · rw [k1]
    simp only [tWK, flt, List.map_append, flt_sht, kb15, kb11, nmW, List.append_assoc, List.map_nil, List.nil_append]
  · exact cN_ ((splU_lo (by omega)).trans (if_pos rfl)) (by omega)
theorem GT.cv (h : GT l s q) (h9 : cN s 1 < 12) {so pc : Nat} (hso : so < cN s 1) (h1 : 1 ≤ pc) (h90 : pc ≤ 90) {L : List (Nat × Nat)} (hl : ¬ L = []) (h4 : L.length ≤ 4) (hG : GSh s L) (hs : lsum L = 100) {ie : Nat} (hi : ie = 7 ∨ ie = 8) : GT (l ++ (kb_ 13 ++ (nm_ 10 (cN s 1) ++ (kb_ 14 ++ (nm_ 10 so ++ (kb_ 12 ++ (dg_ pc ++ (kb_ 11 ++ (bts L ++ kb_ ie))))))))) (srcU (splU (wk1 s) (cN s 1) 0 0 L) (cN s 1) 0 so pc) (wkQ s q (wv (cN s 1))) := by
  obtain ⟨k1, k2, k3⟩ := kbe hi
  have hN := h.sm.1
  refine h.stm (fun tr => tCV tr (ee ie) (cN s 1) so pc L) (tr' := et ie) (fun tr ht => ⟨gtk_kw ht (by omega) (by omega), fun z => absurd z (by decide), gtk_w spc1 (by omega), fun _ => .inl (List.cons_ne_nil _ _), gtk_kw spc1 (by omega) (by omega), fun _ => .inl (List.cons_ne_nil _ _), gtk_w spc1 (by omega), fun _ => .inl (List.cons_ne_nil _ _), gtk_n spc1 (by omega), fun _ => .inl (List.cons_ne_nil _ _), gtk_kw spc1 (by omega) (by omega), fun _ => .inl (List.cons_ne_nil _ _), gsq_sht L _ (hG.lt hN.2.2.1) k2⟩) (fun tr => ef_sht L _) (fun tr => Nat.succ_pos _) (fun tr => ?_) k3 (fun tr b n i hA => by
    have hlen : (tCV tr (ee ie) (cN s 1) so pc L).length = 2 * L.length + 7 := by
      show (sht L ++ [(ee ie, [59])]).length + 1 + 1 + 1 + 1 + 1 + 1 = _
      rw [List.length_append, sht_len]
      rfl
    rw [hlen]
    exact rCV hN h9 hso h1 h90 hl h4 hG hs hA) (h.sm.wrk h9 ?_ (fun k hk h1 => (srcU_lo hk).trans ((splU_lo hk).trans (if_neg h1)))) (fun z => z.keep ((srcU_lo (by omega)).trans ((splU_lo (by omega)).trans (if_neg (by omega)))) fun k hk => (srcU_hi (by omega) (by omega) hk).trans ((splU_hi (by omega) (by omega) h4 hk).trans (if_neg (by omega))))
  · rw [k1]
    simp only [tCV, flt, List.map_append, flt_sht, kb13, kb14, kb12, kb11, nmW, dg_n, List.append_assoc, List.map_nil, List.nil_append]
  · exact cN_ ((srcU_lo (by omega)).trans ((splU_lo (by omega)).trans (if_pos rfl))) (by omega)
theorem GT.sa (h : GT l s q) {so w pc : Nat} (hso : so < w) (hw : w < cN s 1) (h1 : 1 ≤ pc) (h90 : pc ≤ 90) (h3 : ¬ cN s (59 + 48 * w) = 3) (hwh : whS s so w pc = 0) {ie : Nat} (hi : ie = 7 ∨ ie = 8) : GT (l ++ (kb_ 16 ++ (nm_ 10 so ++ (kb_ 17 ++ (nm_ 10 w ++ (kb_ 12 ++ (dg_ pc ++ kb_ ie))))))) (srcU s w (cN s (59 + 48 * w)) so pc) q := by
  obtain ⟨k1, k2, k3⟩ := kbe hi
  have hN := h.sm.1
  have h12 := hN.2.2.2
  refine h.stm (fun tr => tSA tr (ee ie) so w pc) (tr' := et ie) (fun tr ht => ⟨gtk_kw ht (by omega) (by omega), fun z => absurd z (by decide), gtk_w spc1 (by omega), fun _ => .inl (List.cons_ne_nil _ _), gtk_kw spc1 (by omega) (by omega), fun _ => .inl (List.cons_ne_nil _ _), gtk_w spc1 (by omega), fun _ => .inl (List.cons_ne_nil _ _), gtk_n spc1 (by omega), fun _ => .inl (List.cons_ne_nil _ _), gtk_s k2, fun _ => .inr rfl, trivial⟩) (fun tr => rfl) (fun tr => Nat.succ_pos _) (fun tr => ?_) k3 (fun tr b n i hA => rSA hN hso hw h1 h90 h3 hwh hA) (h.sm.keep (fun k hk _ _ => srcU_lo hk)) (fun z => z.keep (srcU_lo (by omega)) fun k hk => srcU_hi (by omega) (by have := isN_lt (ww_no h.wg.1.2.1 w hw) (by decide); omega) hk)
  rw [k1]
  simp only [tSA, flt, List.map_append, kb16, kb17, kb12, nmW, dg_n, List.append_assoc, List.map_nil, List.nil_append]
theorem GT.sp (h : GT l s q) {w day : Nat} (hw : w < cN s 1) (h1 : 1 ≤ day) (h9 : day < 10000) {L : List (Nat × Nat)} (hl : ¬ L = []) (h4 : L.length ≤ 4) (hG : GSh s L) (hn : ¬ cN s (18 + 48 * w) = 4) (hwh : whP s w day L = 0) {ie : Nat} (hi : ie = 7 ∨ ie = 8) : GT (l ++ (kb_ 18 ++ (nm_ 10 w ++ (kb_ 19 ++ (dg_ day ++ (kb_ 11 ++ (bts L ++ kb_ ie))))))) (splU s w (cN s (18 + 48 * w)) day L) q := by
  obtain ⟨k1, k2, k3⟩ := kbe hi
  have hN := h.sm.1
  have h12 := hN.2.2.2
  refine h.stm (fun tr => tSP tr (ee ie) w day L) (tr' := et ie) (fun tr ht => ⟨gtk_kw ht (by omega) (by omega), fun z => absurd z (by decide), gtk_w spc1 (by omega), fun _ => .inl (List.cons_ne_nil _ _), gtk_kw spc1 (by omega) (by omega), fun _ => .inl (List.cons_ne_nil _ _), gtk_n spc1 h9, fun _ => .inl (List.cons_ne_nil _ _), gtk_kw spc1 (by omega) (by omega), fun _ => .inl (List.cons_ne_nil _ _), gsq_sht L _ (hG.lt hN.2.2.1) k2⟩) (fun tr => ef_sht L _) (fun tr => Nat.succ_pos _) (fun tr => ?_) k3 (fun tr b n i hA => by
    have hlen : (tSP tr (ee ie) w day L).length = 2 * L.length + 6 := by
      show (sht L ++ [(ee ie, [59])]).length + 1 + 1 + 1 + 1 + 1 = _
      rw [List.length_append, sht_len]
      rfl
    rw [hlen]
    exact rSP hN hw h1 h9 hl h4 hG hn hwh hA) (h.sm.keep (fun k hk _ _ => splU_lo hk)) (fun z => z.keep (splU_lo (by omega)) fun k hk => splU_hi (by omega) (by have := isN_lt (ww_ns h.wg.1.2.1 w hw).1 (by decide); omega) h4 hk)
  rw [k1]
  simp only [tSP, flt, List.map_append, flt_sht, kb18, kb19, kb11, nmW, dg_n, List.append_assoc, List.map_nil, List.nil_append]
theorem rowU_lo {base cnt r k : Nat} {f : Nat → Int32} (hb : 18 ≤ base) (hk : k < 18) (hc : ¬ k = cnt) : rowU s base cnt r f k = s k := by
  unfold rowU
  rw [if_neg hc, if_neg (by omega)]
theorem GT.as (h : GT l s q) (h16 : cN s 2 < 16) {p w t c f u : Nat} (hp : p < cN s 0) (hw : w < cN s 1) (ht : t < cN s 0) (hc : 1 ≤ c) (hc2 : c ≤ 100) (hf : f < 10000) (hu : 1 ≤ u) (hu2 : u < 10000) (hwh : whA s p w t c f u = 0) {ie : Nat} (hi : ie = 7 ∨ ie = 8) : GT (l ++ (kb_ 22 ++ (nm_ 9 p ++ (kb_ 17 ++ (nm_ 10 w ++ (kb_ 23 ++ (nm_ 9 t ++ (kb_ 12 ++ (dg_ c ++ (kb_ 19 ++ (dg_ f ++ (kb_ 24 ++ (dg_ u ++ kb_ ie))))))))))))) (rowU s 594 2 (cN s 2) (v6c (nI p) (nI w) (nI t) (nI c) (nI f) (nI u))) q := by
  obtain ⟨k1, k2, k3⟩ := kbe hi
  have hN := h.sm.1
  have h10 := hN.2.2.1
  have h12 := hN.2.2.2
  refine h.stm (fun tr => tAS tr (ee ie) p w t c f u) (tr' := et ie) (fun tr ht => ⟨gtk_kw ht (by omega) (by omega), fun z => absurd z (by decide), gtk_p spc1 (by omega), fun _ => .inl (List.cons_ne_nil _ _), gtk_kw spc1 (by omega) (by omega), fun _ => .inl (List.cons_ne_nil _ _), gtk_w spc1 (by omega), fun _ => .inl (List.cons_ne_nil _ _), gtk_kw spc1 (by omega) (by omega), fun _ => .inl (List.cons_ne_nil _ _), gtk_p spc1 (by omega), fun _ => .inl (List.cons_ne_nil _ _), gtk_n spc1 (by omega), fun _ => .inl (List.cons_ne_nil _ _), gtk_kw spc1 (by omega) (by omega), fun _ => .inl (List.cons_ne_nil _ _), gtk_n spc1 hf, fun _ => .inl (List.cons_ne_nil _ _), gtk_kw spc1 (by omega) (by omega), fun _ => .inl (List.cons_ne_nil _ _), gtk_n spc1 hu2, fun _ => .inl (List.cons_ne_nil _ _), gtk_s k2, fun _ => .inr rfl, trivial⟩) (fun tr => rfl) (fun tr => Nat.succ_pos _) (fun tr => ?_) k3 (fun tr b n i hA => rAS hN h16 hp hw ht hc hc2 hf hu hu2 hwh hA) (h.sm.keep (fun k hk h2 _ => rowU_lo (by omega) hk h2)) (AE.row2 h16)
  rw [k1]
  simp only [tAS, flt, List.map_append, kb22, kb17, kb23, kb12, kb19, kb24, nmP, nmW, dg_n, List.append_assoc, List.map_nil, List.nil_append]
theorem GT.a0 (h : GT l s q) (h12 : cN s 3 < 12) {p a t c : Nat} (hp : p < cN s 0) (ht : t < cN s 0) (ha : 1 ≤ a) (ha2 : a < 10000) (hc : 1 ≤ c) (hc2 : c ≤ 100) (hpt : ¬ p = t) {ie : Nat} (hi : ie = 7 ∨ ie = 8) : GT (l ++ (kb_ 25 ++ (nm_ 9 p ++ (kb_ 12 ++ (dg_ a ++ (kb_ 23 ++ (nm_ 9 t ++ (kb_ 26 ++ (dg_ c ++ kb_ ie))))))))) (rowU s 690 3 (cN s 3) (v6c (nI p) (nI t) (nI a) (nI c) (-1) (nI a))) q := by
  obtain ⟨k1, k2, k3⟩ := kbe hi
  have hN := h.sm.1
  have h10 := hN.2.2.1
  refine h.stm (fun tr => tAD0 tr (ee ie) p a t c) (tr' := et ie) (fun tr ht => ⟨gtk_kw ht (by omega) (by omega), fun z => absurd z (by decide), gtk_p spc1 (by omega), fun _ => .inl (List.cons_ne_nil _ _), gtk_n spc1 ha2, fun _ => .inl (List.cons_ne_nil _ _), gtk_kw spc1 (by omega) (by omega), fun _ => .inl (List.cons_ne_nil _ _), gtk_p spc1 (by omega), fun _ => .inl (List.cons_ne_nil _ _), gtk_kw spc1 (by omega) (by omega), fun _ => .inl (List.cons_ne_nil _ _), gtk_n spc1 (by omega), fun _ => .inl (List.cons_ne_nil _ _), gtk_s k2, fun _ => .inr rfl, trivial⟩) (fun tr => rfl) (fun tr => Nat.succ_pos _) (fun tr => ?_) k3 (fun tr b n i hA => rAD0 hN h12 hp ht ha ha2 hc hc2 hpt hA) (h.sm.keep (fun k hk _ h3 => rowU_lo (by omega) hk h3)) (AE.row3 h12 rfl)
  rw [k1]
  simp only [tAD0, flt, List.map_append, kb25, kb12, kb23, kb26, nmP, dg_n, List.append_assoc, List.map_nil, List.nil_append]
theorem GT.a1 (h : GT l s q) (h12 : cN s 3 < 12) {p a t c w : Nat} (hp : p < cN s 0) (ht : t < cN s 0) (ha : 1 ≤ a) (ha2 : a < 10000) (hc : 1 ≤ c) (hc2 : c ≤ 100) (hpt : ¬ p = t) (hw : w < cN s 1) {ie : Nat} (hi : ie = 7 ∨ ie = 8) : GT (l ++ (kb_ 25 ++ (nm_ 9 p ++ (kb_ 12 ++ (dg_ a ++ (kb_ 23 ++ (nm_ 9 t ++ (kb_ 26 ++ (dg_ c ++ (kb_ 27 ++ (nm_ 10 w ++ kb_ ie))))))))))) (rowU s 690 3 (cN s 3) (v6c (nI p) (nI t) (nI a) (nI c) (nI w) (nI a))) q := by
  obtain ⟨k1, k2, k3⟩ := kbe hi
  have hN := h.sm.1
  have h10 := hN.2.2.1
  have hw12 := hN.2.2.2
  refine h.stm (fun tr => tAD1 tr (ee ie) p a t c w) (tr' := et ie) (fun tr ht => ⟨gtk_kw ht (by omega) (by omega), fun z => absurd z (by decide), gtk_p spc1 (by omega), fun _ => .inl (List.cons_ne_nil _ _), gtk_n spc1 ha2, fun _ => .inl (List.cons_ne_nil _ _), gtk_kw spc1 (by omega) (by omega), fun _ => .inl (List.cons_ne_nil _ _), gtk_p spc1 (by omega), fun _ => .inl (List.cons_ne_nil _ _), gtk_kw spc1 (by omega) (by omega), fun _ => .inl (List.cons_ne_nil _ _), gtk_n spc1 (by omega), fun _ => .inl (List.cons_ne_nil _ _), gtk_kw spc1 (by omega) (by omega), fun _ => .inl (List.cons_ne_nil _ _), gtk_w spc1 (by omega), fun _ => .inl (List.cons_ne_nil _ _), gtk_s k2, fun _ => .inr rfl, trivial⟩) (fun tr => rfl) (fun tr => Nat.succ_pos _) (fun tr => ?_) k3 (fun tr b n i hA => rAD1 hN h12 hp ht ha ha2 hc hc2 hpt hw hA) (h.sm.keep (fun k hk _ h3 => rowU_lo (by omega) hk h3)) (AE.row3 h12 rfl)
  rw [k1]
  simp only [tAD1, flt, List.map_append, kb25, kb12, kb23, kb26, kb27, nmP, nmW, dg_n, List.append_assoc, List.map_nil, List.nil_append]
end T8
