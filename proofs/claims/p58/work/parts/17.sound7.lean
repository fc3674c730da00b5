/-! every instruction that is looked at is sound -/
theorem wMmin1 : Cond.static Lib.Math.min.name ∈ am_GW := am_pw_in (p := (1, 200)) rfl rfl
theorem wMmax1 : Cond.static Lib.Math.max.name ∈ am_GW := am_pw_in (p := (0, 150)) rfl rfl
theorem wMmin2 : Cond.code Lib.Math.min.name Lib.Math.min.code 2 (some .int) ∈ am_GW := am_pw_in (p := (1, 201)) rfl rfl
theorem wMmax2 : Cond.code Lib.Math.max.name Lib.Math.max.code 2 (some .int) ∈ am_GW := am_pw_in (p := (0, 151)) rfl rfl
theorem wMath : Cond.initialized "java/lang/Math" ∈ am_GW := am_pw_in (p := (0, 10)) rfl rfl
theorem wSys : Cond.initialized "java/lang/System" ∈ am_GW := am_pw_in (p := (0, 12)) rfl rfl
theorem wCp1 : Cond.native arraycopyName ∈ am_GW := am_pw_in (p := (3, 231)) rfl rfl
theorem wCp2 : Cond.static arraycopyName ∈ am_GW := am_pw_in (p := (3, 230)) rfl rfl
theorem wOb1 : Cond.instanceMethod Lib.objectInit ∈ am_GW := am_pw_in (p := (0, 43)) rfl rfl
theorem wOb2 : Cond.code Lib.objectInit ⟨#[0xb1]⟩ 1 none ∈ am_GW := am_pw_in (p := (0, 44)) rfl rfl
theorem wArI : Cond.arrayClass .int ∈ am_GW := am_pw_in (p := (0, 136)) rfl rfl
theorem wArB : Cond.arrayClass .byte ∈ am_GW := am_pw_in (p := (0, 134)) rfl rfl
theorem wArJ : Cond.arrayClass .long ∈ am_GW := am_pw_in (p := (0, 135)) rfl rfl
theorem wCl2 : Cond.sameMethod "[B" "java/lang/Object" "clone" "()Ljava/lang/Object;" ∈ am_GW := am_pw_in (p := (3, 222)) rfl rfl
theorem wCl3 : Cond.native ⟨"java/lang/Object", "clone", "()Ljava/lang/Object;"⟩ ∈ am_GW := am_pw_in (p := (3, 223)) rfl rfl
theorem wCl4 : Cond.instanceMethod ⟨"java/lang/Object", "clone", "()Ljava/lang/Object;"⟩ ∈ am_GW := am_pw_in (p := (3, 224)) rfl rfl
theorem wCl5 : Cond.selects "[B" ⟨"[B", "clone", "()Ljava/lang/Object;"⟩ ⟨"java/lang/Object", "clone", "()Ljava/lang/Object;"⟩ ∈ am_GW := am_pw_in (p := (3, 225)) rfl rfl
theorem wCl6 : Cond.castable "[B" "java/lang/Cloneable" ∈ am_GW := am_pw_in (p := (3, 226)) rfl rfl
theorem wGc2 : Cond.declares ⟨"java/lang/Object", "getClass", "()Ljava/lang/Class;"⟩ ∈ am_GW := am_pw_in (p := (7, 181)) rfl rfl
theorem wGc3 : Cond.selects "[Ljava/lang/Object;" ⟨"java/lang/Object", "getClass", "()Ljava/lang/Class;"⟩ ⟨"java/lang/Object", "getClass", "()Ljava/lang/Class;"⟩ ∈ am_GW := am_pw_in (p := (7, 180)) rfl rfl
theorem wGc4 : Cond.instanceMethod ⟨"java/lang/Object", "getClass", "()Ljava/lang/Class;"⟩ ∈ am_GW := am_pw_in (p := (4, 212)) rfl rfl
theorem wGc5 : Cond.native ⟨"java/lang/Object", "getClass", "()Ljava/lang/Class;"⟩ ∈ am_GW := am_pw_in (p := (4, 234)) rfl rfl
theorem wSp : Cond.superclass RJ4 RJ5 ∈ am_GW := am_pw_in (p := (3, 176)) rfl rfl
theorem wLn1 : Cond.methodLink (am_cn 14) 549 (am_mn 257) ∈ am_GW := am_pw_in (p := (4, 82)) rfl rfl
theorem wLn2 : Cond.selects (am_vc 13).1 (am_mn 257) (am_mn 225) ∈ am_GW := am_pw_in (p := (4, 85)) rfl rfl
theorem am_ml_in {own ix y : Nat} (h : (am_MLo own).any (fun q => q.1 == (own, ix, y)) = true) : Cond.methodLink (am_cn own) ix (am_mn y) ∈ am_GW := am_tab (g := fun a : Nat × Nat × Nat => Cond.methodLink (am_cn a.1) a.2.1 (am_mn a.2.2)) (am_MLo_ok own) (fun _ => rfl) h
theorem am_mi_in {own ix y : Nat} (h : (am_MIo own).any (fun q => q.1 == (own, ix, y)) = true) : Cond.methodLink (am_cn own) ix (am_im y) ∈ am_GW := am_tab (g := fun a : Nat × Nat × Nat => Cond.methodLink (am_cn a.1) a.2.1 (am_im a.2.2)) (am_MIo_ok own) (fun _ => rfl) h
theorem am_mn_in {own ix y : Nat} (h : (am_MNo own).any (fun q => q.1 == (own, ix, y)) = true) : Cond.methodLinkNest (am_cn own) ix (am_mn y) (am_ho own) ∈ am_GW := am_tab (g := fun a : Nat × Nat × Nat => Cond.methodLinkNest (am_cn a.1) a.2.1 (am_mn a.2.2) (am_ho a.1)) (am_MNo_ok own) (fun _ => rfl) h
theorem am_ki_in {own ix : Nat} {v : Int32} (h : (am_KIo own).any (fun q => q.1 == (own, ix, v)) = true) : Cond.constant (am_cn own) ix v ∈ am_GW := am_tab (g := fun a : Nat × Nat × Int32 => Cond.constant (am_cn a.1) a.2.1 a.2.2) (am_KIo_ok own) (fun _ => rfl) h
theorem am_kl_in {own ix : Nat} {v : Int64} (h : (am_KLo own).any (fun q => q.1 == (own, ix, v)) = true) : Cond.constantLong (am_cn own) ix v ∈ am_GW := am_tab (g := fun a : Nat × Nat × Int64 => Cond.constantLong (am_cn a.1) a.2.1 a.2.2) (am_KLo_ok own) (fun _ => rfl) h
theorem am_cl_in {own ix y : Nat} (h : (am_CLo own).any (fun q => q.1 == (own, ix, y)) = true) : Cond.classLink (am_cn own) ix (am_vc y).1 ∈ am_GW := am_tab (g := fun a : Nat × Nat × Nat => Cond.classLink (am_cn a.1) a.2.1 (am_vc a.2.2).1) (am_CLo_ok own) (fun _ => rfl) h
theorem am_ck_in {own ix y : Nat} (h : (am_CKo own).any (fun q => q.1 == (own, ix, y)) = true) : Cond.classLink (am_cn own) ix (am_nk y) ∈ am_GW := am_tab (g := fun a : Nat × Nat × Nat => Cond.classLink (am_cn a.1) a.2.1 (am_nk a.2.2)) (am_CKo_ok own) (fun _ => rfl) h
theorem am_fl_in {own ix ci k : Nat} (h : (am_FLo own).any (fun q => q.1 == (own, ix, ci, k)) = true) : Cond.fieldLink (am_cn own) ix (am_rc own ci k) ((am_vc ci).2.1 k).2.1 ((am_vc ci).2.1 k).2.2.1 ∈ am_GW := am_tab (g := fun a : Nat × Nat × Nat × Nat => Cond.fieldLink (am_cn a.1) a.2.1 (am_rc a.1 a.2.2.1 a.2.2.2) ((am_vc a.2.2.1).2.1 a.2.2.2).2.1 ((am_vc a.2.2.1).2.1 a.2.2.2).2.2.1) (am_FLo_ok own) (fun _ => rfl) h
theorem am_fn_in {own ix ci k : Nat} (h : (am_FNo own).any (fun q => q.1 == (own, ix, ci, k)) = true) : Cond.fieldLinkNest (am_cn own) ix (am_rc own ci k) ((am_vc ci).2.1 k).2.1 ((am_vc ci).2.1 k).2.2.1 "java/util/ArrayList" ∈ am_GW := am_tab (g := fun a : Nat × Nat × Nat × Nat => Cond.fieldLinkNest (am_cn a.1) a.2.1 (am_rc a.1 a.2.2.1 a.2.2.2) ((am_vc a.2.2.1).2.1 a.2.2.2).2.1 ((am_vc a.2.2.1).2.1 a.2.2.2).2.2.1 "java/util/ArrayList") (am_FNo_ok own) (fun _ => rfl) h
theorem am_wq_in {own ix k : Nat} (h : am_WQ.any (fun q => q.1 == (own, ix, k)) = true) : am_wq (own, ix, k) ∈ am_GW := am_tab (g := fun a : Nat × Nat × Nat => am_wq a) am_WQ_ok am_wq_o h
theorem am_we_in {y : Nat} (h : am_WE.any (fun q => q.1 == y) = true) : Cond.selects (am_mn y).cls (am_mn y) (am_mn y) ∈ am_GW := am_tab (g := fun y : Nat => Cond.selects (am_mn y).cls (am_mn y) (am_mn y)) am_WE_ok (fun _ => rfl) h
theorem am_wu_in {y : Nat} (h : am_WU.any (fun q => q.1 == y) = true) : Cond.selects RJ4 (am_mn y) (am_mn y) ∈ am_GW := am_tab (g := fun y : Nat => Cond.selects RJ4 (am_mn y) (am_mn y)) am_WU_ok (fun _ => rfl) h
theorem am_wm_in {y : Nat} (h : am_WM.any (fun q => q.1 == y) = true) : Cond.sameMethod (am_mn y).cls (am_mn y).cls (am_mn y).name (am_mn y).desc ∈ am_GW := am_tab (g := fun y : Nat => Cond.sameMethod (am_mn y).cls (am_mn y).cls (am_mn y).name (am_mn y).desc) am_WM_ok (fun _ => rfl) h
theorem am_is_in {y : Nat} (h : am_IS.any (fun q => q.1 == y) = true) : Cond.selects (am_mn y).cls (am_im y) (am_mn y) ∈ am_GW := am_tab (g := fun y : Nat => Cond.selects (am_mn y).cls (am_im y) (am_mn y)) am_IS_ok (fun _ => rfl) h
theorem am_ci_all : (List.range 17).all (fun c => am_CI.any (fun q => q.1 == c) && am_CZ.any (fun q => q.1 == c)) = true := by decide +kernel
theorem am_ci_in {c : Nat} (hc : c < 17) : Cond.instantiable (am_vc c).1 (am_vc c).2.2 ∈ am_GW ∧ Cond.initialized (am_vc c).1 ∈ am_GW := by
  have h := List.all_eq_true.mp am_ci_all c (List.mem_range.mpr hc)
  rw [Bool.and_eq_true] at h
  exact ⟨am_tab (g := fun c : Nat => Cond.instantiable (am_vc c).1 (am_vc c).2.2) am_CI_ok (fun _ => rfl) h.1, am_tab (g := fun c : Nat => Cond.initialized (am_vc c).1) am_CZ_ok (fun _ => rfl) h.2⟩
theorem am_tdI {d : String} {n : Nat} (h : am_td d = n) : (n = 0 → d = "I") ∧ (n = 1 → d = "Z") ∧ (n = 2 → d = "J") ∧ (n = 5 → d = "B") ∧ (n = 3 → ¬ (d = "I" ∨ d = "Z" ∨ d = "B") ∧ ¬ d = "J") := by
  unfold am_td at h
  by_cases q1 : d = "I"
  · rw [if_pos q1] at h
    subst h
    exact ⟨fun _ => q1, (fun z => by cases z), (fun z => by cases z), (fun z => by cases z), (fun z => by cases z)⟩
  · rw [if_neg q1] at h
    by_cases q2 : d = "Z"
    · rw [if_pos q2] at h
      subst h
      exact ⟨(fun z => by cases z), fun _ => q2, (fun z => by cases z), (fun z => by cases z), (fun z => by cases z)⟩
    · rw [if_neg q2] at h
      by_cases q3 : d = "J"
      · rw [if_pos q3] at h
        subst h
        exact ⟨(fun z => by cases z), (fun z => by cases z), fun _ => q3, (fun z => by cases z), (fun z => by cases z)⟩
      · rw [if_neg q3] at h
        by_cases q4 : d = "B"
        · rw [if_pos q4] at h
          subst h
          exact ⟨(fun z => by cases z), (fun z => by cases z), (fun z => by cases z), fun _ => q4, (fun z => by cases z)⟩
        · rw [if_neg q4] at h
          subst h
          exact ⟨(fun z => by cases z), (fun z => by cases z), (fun z => by cases z), (fun z => by cases z), fun _ => ⟨fun z => z.elim q1 (fun z => z.elim q2 q4), q3⟩⟩
theorem am_cf_I {own n ci k t : Nat} (h : am_cf_ own n ci k t = true) : ci < 17 ∧ k < (am_vc ci).2.2 ∧ Cond.fieldLink (am_cn own) n (am_rc own ci k) ((am_vc ci).2.1 k).2.1 ((am_vc ci).2.1 k).2.2.1 ∈ am_GW ∧ am_td ((am_vc ci).2.1 k).2.2.1 = t := by
  simp only [am_cf_, Bool.and_eq_true, decide_eq_true_eq] at h
  exact ⟨h.1.1.2, h.1.2, am_fl_in h.1.1.1, Nat.eq_of_beq_eq_true h.2⟩
theorem am_rf_I {d : String} (h : am_rf d = true) : ∃ fty, (parseFieldDescriptor d = some fty ∧ (∃ z, fty = .object z)) ∨ (parseFieldDescriptor d = some fty ∧ ∃ z, fty = .array z) := by
  unfold am_rf at h
  split at h
  · next z q => exact ⟨_, Or.inl ⟨q, z, rfl⟩⟩
  · next z q => exact ⟨_, Or.inr ⟨q, z, rfl⟩⟩
  · cases h
theorem am_ref_I {t : Option FieldType} (h : am_ref t = true) : ∃ rt, t = some rt ∧ ((∃ n, rt = .object n) ∨ ∃ z, rt = .array z) := by
  unfold am_ref at h
  split at h
  · next z => exact ⟨_, rfl, Or.inl ⟨z, rfl⟩⟩
  · next z => exact ⟨_, rfl, Or.inr ⟨z, rfl⟩⟩
  · cases h
theorem am_nkc {c : Nat} (h : c < 17) : am_nk (100 + c) = (am_vc c).1 := by
  unfold am_nk
  rw [if_neg (by omega), if_neg (by omega), if_neg (by omega), if_neg (by omega), if_neg (by omega), if_neg (by omega), if_neg (by omega), Nat.add_sub_cancel_left]
section S7a
variable {p : Program} {l : Launch} {e : Env} {R : Room} {s : State} {mt : MethodId} {args : Array Value} {below : List Frame} {meth : Method} {c : Code} {nL own : Nat} {cc : ByteArray} {E : am_E} {Q : State → Prop} {m0 : am_M} {r : am_R} {pc : Nat} {k : am_L → List Value → am_M → Option am_R} {x : am_X}

variable {d : Nat} {C : Nat → List Value → am_M → Option am_R} {hd9 : Nat → Nat → Option Int32} {K : am_K}
theorem so_thrown (X : am_Cx p l R s mt args meth c cc nL own E m0 r) {j : Nat} : am_G p l e R s mt args below meth c nL E Q m0 r (fun L S m => bif (am_w S).ble 8 then some (.inr j, th_ m) else none) (pc) := by
  intro L S m H locs cells slots ls h hL hP
  obtain ⟨hx, hb, hml, hown, hts, hlk, hst, hK, hN, hrm, hfr, hlo⟩ := X
  obtain ⟨h8, h9⟩ := am_bif h
  cases h9
  cases hst
theorem so_virt (X : am_Cx p l R s mt args meth c cc nL own E m0 r) {n x1 x2 x3 x4 : Nat} {v : Int32} {w : Int64} {sw : List (Int32 × Nat)} (hd : decode cc pc = .ok (.invokevirtual n, 3)) (hck : ((x4.beq 13 && x1.beq 225 && x2.beq 0 && own.beq 14 && n.beq 549) || x4.beq 29 || (x4.beq 30 && am_WQ.any (fun q => q.1 == (own, n, 5))) || (x4.beq 31 && am_WQ.any (fun q => q.1 == (own, n, 6))) ||
      (am_pr x1 && (am_MLo own).any (fun q => q.1 == (own, n, x1)) && (am_ma x1).beq x2 && !am_ms x1 && !((am_mn x1).name == "<init>") && !x4.beq 29 && !x4.beq 30 && !x4.beq 31 &&
        (bif x4.beq 14 then (am_mn x1).cls == "java/lang/String" && am_WE.any (fun q => q.1 == x1) else ((am_vc x4).1 == (am_mn x1).cls && am_WE.any (fun q => q.1 == x1)) || (x4.beq 13 && am_WU.any (fun q => q.1 == x1) && am_WM.any (fun q => q.1 == x1))))) = true)
    (hk : am_G p l e R s mt args below meth c nL E Q m0 r k (pc + 3)) (hC : am_Con l E d C) (hCm : am_Cm C) (hmo : ∀ L S m, k L S m = some r → am_le m r) (hfr2 : 3 + d ≤ R.frames) (hlo2 : 120 + 40 * d ≤ R.locals) : am_G p l e R s mt args below meth c nL E Q m0 r (am_st (E.2.2.2.1 0) (am_sv E) K C hd9 pc (.invokevirtual n) (x1, x2, x3, x4, v, w, sw) k) (pc) := by
  rw [Bool.or_eq_true, Bool.or_eq_true, Bool.or_eq_true, Bool.or_eq_true] at hck
  rcases hck with (((h1 | h1) | h1) | h1) | h1
  · simp only [Bool.and_eq_true] at h1
    obtain ⟨⟨⟨⟨h1, h2⟩, h3⟩, h4⟩, h5⟩ := h1
    have e1 := Nat.eq_of_beq_eq_true h1
    have e2 := Nat.eq_of_beq_eq_true h2
    have e3 := Nat.eq_of_beq_eq_true h3
    have e4 := Nat.eq_of_beq_eq_true h4
    have e5 := Nat.eq_of_beq_eq_true h5
    subst e1
    subst e2
    subst e3
    subst e4
    subst e5
    obtain ⟨f1, f2, f3, f4, f5⟩ := am_fa (y := 225) (by decide +kernel)
    obtain ⟨g1, g2, g3, g4, g5⟩ := am_fa (y := 257) (by decide +kernel)
    exact so_invO (t := x3) (hd9 := hd9) (z := 257) (ci := 13) X (by decide +kernel) f1 (f3 (by decide +kernel)) g1 (g3 (by decide +kernel)) wLn1 wLn2 (am_wm_in (by decide +kernel)) hd hk hC hCm hmo hfr2 hlo2
  · intro L S m H locs cells slots ls h
    rw [Nat.eq_of_beq_eq_true h1] at h
    cases h
  · rw [Bool.and_eq_true] at h1
    rw [Nat.eq_of_beq_eq_true h1.1]
    exact so_clone X (am_wq_in h1.2) wCl2 wCl3 wCl4 wCl5 wCl6 hd hk hmo
  · rw [Bool.and_eq_true] at h1
    rw [Nat.eq_of_beq_eq_true h1.1]
    exact so_getc X (am_wq_in h1.2) wGc2 wGc3 wGc4 wGc5 hd hk
  · simp only [Bool.and_eq_true, Bool.not_eq_true'] at h1
    obtain ⟨⟨⟨⟨⟨⟨⟨⟨h1, h2⟩, h3⟩, h4⟩, h5⟩, h6⟩, h7⟩, h8⟩, h9⟩ := h1
    have hn := Nat.eq_of_beq_eq_true h3
    subst hn
    obtain ⟨f1, f2, f3, f4, f5⟩ := am_fa h1
    have e99 : ∀ (L : am_L) (S : List Value) (m : am_M), am_st (E.2.2.2.1 0) (am_sv E) K C hd9 pc (.invokevirtual n) (x1, am_ma x1, x3, x4, v, w, sw) k L S m = (q_r (S.drop (am_ma x1)) fun b R => bif (am_w R).ble 8 then (bif x4.beq 14 then gq_ (gk_ m b = (1, 14) ∨ (gk_ m b).1 = 8) (am_cc hd9 pc (C x1 (.ref b :: (S.take (am_ma x1)).reverse) m) x3 (k L) R) else gq_ (gk_ m b = (1, x4)) (am_cc hd9 pc (C x1 (.ref b :: (S.take (am_ma x1)).reverse) m) x3 (k L) R)) else none) := by
      intro L S m
      show (bif x4.beq 29 then none else bif x4.beq 30 then _ else bif x4.beq 31 then _ else _) = _
      rw [h6, h7, h8]
      rfl
    cases hb : x4.beq 14 with
    | true =>
      rw [hb] at h9
      have h9 : ((am_mn x1).cls == "java/lang/String" && am_WE.any (fun q => q.1 == x1)) = true := h9
      rw [Bool.and_eq_true] at h9
      have G := so_invT (t := x3) (hd9 := hd9) X h1 f1 (am_ml_in h2) (f3 h4) (am_we_in h9.2) (beq_iff_eq.mp h9.1) hd hk hC hCm hmo hfr2 hlo2
      intro L S m H locs cells slots ls h
      refine G L S m H locs cells slots ls (Eq.trans ?_ h)
      rw [e99, hb]
      rfl
    | false =>
      rw [hb] at h9
      have h9 : (((am_vc x4).1 == (am_mn x1).cls && am_WE.any (fun q => q.1 == x1)) || (x4.beq 13 && am_WU.any (fun q => q.1 == x1) && am_WM.any (fun q => q.1 == x1))) = true := h9
      have G : am_G p l e R s mt args below meth c nL E Q m0 r (fun L S m => q_r (S.drop (am_ma x1)) fun b R => bif (am_w R).ble 8 then gq_ (gk_ m b = (1, x4)) (am_cc hd9 pc (C x1 (.ref b :: (S.take (am_ma x1)).reverse) m) x3 (k L) R) else none) pc := by
        simp only [Bool.or_eq_true, Bool.and_eq_true] at h9
        rcases h9 with ⟨g1, g2⟩ | ⟨⟨g1, g2⟩, g3⟩
        · exact so_invV (t := x3) X h1 f1 (am_ml_in h2) (f3 h4) (am_we_in g2) (beq_iff_eq.mp g1) hd hk hC hCm hmo hfr2 hlo2
        · rw [Nat.eq_of_beq_eq_true g1]
          exact so_invU (t := x3) (ci := 13) X h1 f1 (am_ml_in h2) (f3 h4) (am_wu_in g2) (am_wm_in g3) hd hk hC hCm hmo hfr2 hlo2
      intro L S m H locs cells slots ls h
      refine G L S m H locs cells slots ls (Eq.trans ?_ h)
      rw [e99, hb]
      rfl
end S7a
section S7
variable {p : Program} {l : Launch} {e : Env} {R : Room} {s : State} {mt : MethodId} {args : Array Value} {below : List Frame} {meth : Method} {c : Code} {nL own : Nat} {cc : ByteArray} {E : am_E} {m0 : am_M} {r : am_R} {pc : Nat} {k : am_L → List Value → am_M → Option am_R} {x : am_X}
variable {d : Nat} {C : Nat → List Value → am_M → Option am_R} {hd9 : Nat → Nat → Option Int32} {K : am_K} {ret : Option FieldType} {ini : Bool}
set_option maxHeartbeats 4000000 in
theorem am_st_ok {i : Instr} (X : am_Cx p l R s mt args meth c cc nL own E m0 r) (hret : meth.sig.returnType = ret) (hini : ini = true → meth.name = "<init>")
    (hdec : decode cc pc = .ok (i, am_lx i x)) (hck : am_cx own nL ret ini cc pc i x = true) (hk : am_G p l e R s mt args below meth c nL E (MQ below (am_Qc E r) args s (gc_ r.2 - gc_ m0) (gs_ r.2 - gs_ m0) (am_A E)) m0 r (k) (pc + am_ln i)) (hK9 : ∀ q, am_G p l e R s mt args below meth c nL E (MQ below (am_Qc E r) args s (gc_ r.2 - gc_ m0) (gs_ r.2 - gs_ m0) (am_A E)) m0 r (K q) (q)) (hmo : ∀ L S m, k L S m = some r → am_le m r) (hC : am_Con l E d C) (hCm : am_Cm C) (hfr2 : 3 + d ≤ R.frames) (hlo2 : 120 + 40 * d ≤ R.locals) :
    am_G p l e R s mt args below meth c nL E (MQ below (am_Qc E r) args s (gc_ r.2 - gc_ m0) (gs_ r.2 - gs_ m0) (am_A E)) m0 r (am_st (E.2.2.2.1 0) (am_sv E) K C hd9 pc i x k) (pc) := by
  obtain ⟨x1, x2, x3, x4, v, w, sw⟩ := x
  cases i
  case aconst_null =>
    exact so_null X hdec hk
  case iconst n =>
    exact so_iconst X (of_decide_eq_true hck) hdec hk
  case bipush n =>
    exact so_bipush X (of_decide_eq_true hck) hdec hk
  case sipush n =>
    exact so_sipush X (of_decide_eq_true hck) hdec hk
  case ldc n =>
    rcases x1 with _ | _ | _ | _ | x1
    · exact so_ldc X (am_ki_in hck) hdec hk
    · exact so_ldc0 X hck hdec hk
    · exact so_ldct X hck hdec hk
    · exact so_ldcm X (am_ck_in hck) hdec hk
    · intro L S m H locs cells slots ls h; cases h
  case ldc_w n =>
    cases hb : x1.beq 9 with
    | true => intro L S m H locs cells slots ls h; have h : (bif x1.beq 9 then none else k L (.int v :: S) m) = some r := h; rw [hb] at h; cases h
    | false =>
      have hck : (bif x1.beq 9 then true else (am_KIo own).any (fun q => q.1 == (own, n, v))) = true := hck
      rw [hb] at hck
      intro L S m H locs cells slots ls h
      have h : (bif x1.beq 9 then none else k L (.int v :: S) m) = some r := h
      rw [hb] at h
      exact so_ldc_w X (am_ki_in hck) hdec hk L S m H locs cells slots ls h
  case ldc2_w n =>
    exact so_ldc2 X (am_kl_in hck) hdec hk
  case lconst n =>
    exact so_lconst X (of_decide_eq_true hck) hdec hk
  case iload_n n =>
    exact so_iload_n X (of_decide_eq_true hck) hdec hk
  case lload_n n =>
    exact so_lload_n X (of_decide_eq_true hck) hdec hk
  case aload_n n =>
    exact so_aload_n X (of_decide_eq_true hck) hdec hk
  case iload n =>
    have h1 := of_decide_eq_true hck
    subst h1
    exact so_iload X hdec hk
  case lload n =>
    have h1 := of_decide_eq_true hck
    subst h1
    exact so_lload X hdec hk
  case aload n =>
    have h1 := of_decide_eq_true hck
    subst h1
    exact so_aload X hdec hk
  case istore_n n =>
    obtain ⟨h1, h2⟩ := of_decide_eq_true hck
    exact so_istore_n X h1 h2 hdec hk
  case lstore_n n =>
    obtain ⟨h1, h2⟩ := of_decide_eq_true hck
    exact so_lstore_n X h1 h2 hdec hk
  case astore_n n =>
    obtain ⟨h1, h2⟩ := of_decide_eq_true hck
    exact so_astore_n X h1 h2 hdec hk
  case istore n =>
    obtain ⟨h1, h2⟩ := of_decide_eq_true hck
    subst h1
    exact so_istore X h2 hdec hk
  case lstore n =>
    obtain ⟨h1, h2⟩ := of_decide_eq_true hck
    subst h1
    exact so_lstore X h2 hdec hk
  case astore n =>
    obtain ⟨h1, h2⟩ := of_decide_eq_true hck
    subst h1
    exact so_astore X h2 hdec hk
  case iinc n dd =>
    obtain ⟨h1, h2, h3⟩ := of_decide_eq_true hck
    subst h1
    exact so_iinc X h2 h3 hdec hk
  case iadd =>
    exact so_iadd X hdec hk
  case isub =>
    exact so_isub X hdec hk
  case imul =>
    exact so_imul X hdec hk
  case idiv =>
    exact so_idiv X hdec hk
  case irem =>
    exact so_irem X hdec hk
  case iand =>
    exact so_iand X hdec hk
  case ior =>
    exact so_ior X hdec hk
  case ishl =>
    exact so_ishl X hdec hk
  case ishr =>
    exact so_ishr X hdec hk
  case ineg =>
    exact so_ineg X hdec hk
  case ladd =>
    exact so_ladd X hdec hk
  case lsub =>
    exact so_lsub X hdec hk
  case lmul =>
    exact so_lmul X hdec hk
  case ldiv =>
    exact so_ldiv X hdec hk
  case lrem =>
    exact so_lrem X hdec hk
  case land =>
    exact so_land X hdec hk
  case lor =>
    exact so_lor X hdec hk
  case lneg =>
    exact so_lneg X hdec hk
  case lshl =>
    exact so_lshl X hdec hk
  case lshr =>
    exact so_lshr X hdec hk
  case lcmp =>
    exact so_lcmp X hdec hk
  case i2l =>
    exact so_i2l X hdec hk
  case l2i =>
    exact so_l2i X hdec hk
  case i2b =>
    exact so_i2b X hdec hk
  case i2c =>
    exact so_i2c X hdec hk
  case dup =>
    exact so_dup X hdec hk
  case dup2 =>
    exact so_dup2 X hdec hk
  case dup_x1 =>
    exact so_dup_x1 X hdec hk
  case dup_x2 =>
    exact so_dup_x2 X hdec hk
  case pop =>
    exact so_pop X hdec hk
  case goto off =>
    exact so_goto X hdec (of_decide_eq_true hck) hK9
  case ifCond cd off =>
    have h1 := of_decide_eq_true hck
    cases cd
    · exact so_if_eq X hdec h1 hK9
    · exact so_if_ne X hdec h1 hK9
    · exact so_if_lt X hdec h1 hK9
    · exact so_if_ge X hdec h1 hK9
    · exact so_if_gt X hdec h1 hK9
    · exact so_if_le X hdec h1 hK9
  case if_icmp cd off =>
    have h1 := of_decide_eq_true hck
    cases cd
    · exact so_icmp_eq X hdec h1 hK9
    · exact so_icmp_ne X hdec h1 hK9
    · exact so_icmp_lt X hdec h1 hK9
    · exact so_icmp_ge X hdec h1 hK9
    · exact so_icmp_gt X hdec h1 hK9
    · exact so_icmp_le X hdec h1 hK9
  case if_acmp cd off =>
    have h1 := of_decide_eq_true hck
    cases cd
    · exact so_acmp_eq X hdec h1 hK9
    · exact so_acmp_ne X hdec h1 hK9
  case ifnull off =>
    exact so_ifnull X hdec (of_decide_eq_true hck) hK9
  case ifnonnull off =>
    exact so_ifnonnull X hdec (of_decide_eq_true hck) hK9
  case tableswitch dd lo hi offs =>
    simp only [am_cx, Bool.and_eq_true, decide_eq_true_eq] at hck
    obtain ⟨⟨h1, h2, h3, h4⟩, h5⟩ := hck
    refine so_table X hdec h1 h2 h3 h4 (fun i hi => ?_) hK9
    have h6 := List.all_eq_true.mp h5 i (List.mem_range.mpr hi)
    split at h6
    · next q off g1 g2 =>
      obtain ⟨h7, h8⟩ := of_decide_eq_true h6
      exact ⟨q, off, g1, g2, h7, h8⟩
    · cases h6
  case getfield n =>
    rcases x3 with _ | _ | _ | _ | _ | _ | _ | _ | _ | x3
    · have hck : (bif x4.beq 1 then (am_FNo own).any (fun q => q.1 == (own, n, x1, x2)) && decide (x1 < 17) && decide (x2 < (am_vc x1).2.2) && decide (((am_vc x1).2.1 x2).2.2.1 = "I") else am_cf_ own n x1 x2 0) = true := hck
      cases hb : x4.beq 1 with
      | true =>
        rw [hb] at hck
        simp only [cond_true, Bool.and_eq_true, decide_eq_true_eq] at hck
        exact so_getN X hck.1.1.2 hck.1.2 (am_fn_in hck.1.1.1) hck.2 hdec hk
      | false =>
        rw [hb] at hck
        obtain ⟨h1, h2, h3, h4⟩ := am_cf_I (show am_cf_ own n x1 x2 0 = true from hck)
        exact so_getI X h1 h2 h3 (Or.inl ((am_tdI h4).1 rfl)) hdec hk
    · obtain ⟨h1, h2, h3, h4⟩ := am_cf_I hck
      exact so_getI X h1 h2 h3 (Or.inr (Or.inl ((am_tdI h4).2.1 rfl))) hdec hk
    · obtain ⟨h1, h2, h3, h4⟩ := am_cf_I hck
      exact so_getJ X h1 h2 h3 ((am_tdI h4).2.2.1 rfl) hdec hk
    · obtain ⟨h1, h2, h3, h4⟩ := am_cf_I hck
      exact so_getR X h1 h2 h3 ((am_tdI h4).2.2.2.2 rfl) hdec hk
    · intro L S m H locs cells slots ls h; obtain ⟨a9, S9, -, h9⟩ := q_r_I h; cases h9
    · obtain ⟨h1, h2, h3, h4⟩ := am_cf_I hck
      exact so_getI X h1 h2 h3 (Or.inr (Or.inr ((am_tdI h4).2.2.2.1 rfl))) hdec hk
    · obtain ⟨h1, h2, h3, h4⟩ := am_cf_I hck
      exact so_getQ X h1 h2 h3 ((am_tdI h4).2.2.2.2 rfl) hdec hk
    · obtain ⟨h1, h2, h3, h4⟩ := am_cf_I hck
      exact so_gsv X h3 hdec hk
    · obtain ⟨h1, h2, h3, h4⟩ := am_cf_I hck
      exact so_gsc X h3 hdec hk
    · intro L S m H locs cells slots ls h; obtain ⟨a9, S9, -, h9⟩ := q_r_I h; cases h9
  case putfield n =>
    rcases x3 with _ | _ | _ | _ | _ | _ | _ | x3
    · have hck : ((!((am_vc x1).2.1 x2).2.2.2 || (ini && ((am_vc x1).2.1 x2).1 == am_cn own)) && am_cf_ own n x1 x2 0) = true := hck
      rw [Bool.and_eq_true, Bool.or_eq_true, Bool.and_eq_true] at hck
      obtain ⟨hm0, hck⟩ := hck
      have hmd : ((am_vc x1).2.1 x2).2.2.2 = false ∨ (((am_vc x1).2.1 x2).2.2.2 = true ∧ meth.name = "<init>" ∧ ((am_vc x1).2.1 x2).1 = am_cn own) := by
        cases hf : ((am_vc x1).2.1 x2).2.2.2 with
        | false => exact Or.inl rfl
        | true =>
          rw [hf] at hm0
          exact Or.inr ⟨rfl, hm0.elim (fun z => nomatch z) (fun z => ⟨hini z.1, beq_iff_eq.mp z.2⟩)⟩
      obtain ⟨h1, h2, h3, h4⟩ := am_cf_I hck
      have hd9 := (am_tdI h4).1 rfl
      exact so_putI X h1 h2 h3 hmd hd9 (by rw [hd9]; decide +kernel) hdec hk
    · have hck : ((!((am_vc x1).2.1 x2).2.2.2 || (ini && ((am_vc x1).2.1 x2).1 == am_cn own)) && am_cf_ own n x1 x2 1) = true := hck
      rw [Bool.and_eq_true, Bool.or_eq_true, Bool.and_eq_true] at hck
      obtain ⟨hm0, hck⟩ := hck
      have hmd : ((am_vc x1).2.1 x2).2.2.2 = false ∨ (((am_vc x1).2.1 x2).2.2.2 = true ∧ meth.name = "<init>" ∧ ((am_vc x1).2.1 x2).1 = am_cn own) := by
        cases hf : ((am_vc x1).2.1 x2).2.2.2 with
        | false => exact Or.inl rfl
        | true =>
          rw [hf] at hm0
          exact Or.inr ⟨rfl, hm0.elim (fun z => nomatch z) (fun z => ⟨hini z.1, beq_iff_eq.mp z.2⟩)⟩
      obtain ⟨h1, h2, h3, h4⟩ := am_cf_I hck
      have hd9 := (am_tdI h4).2.1 rfl
      exact so_putZ X h1 h2 h3 hmd hd9 (by rw [hd9]; decide +kernel) hdec hk
    · have hck : ((!((am_vc x1).2.1 x2).2.2.2 || (ini && ((am_vc x1).2.1 x2).1 == am_cn own)) && am_cf_ own n x1 x2 2) = true := hck
      rw [Bool.and_eq_true, Bool.or_eq_true, Bool.and_eq_true] at hck
      obtain ⟨hm0, hck⟩ := hck
      have hmd : ((am_vc x1).2.1 x2).2.2.2 = false ∨ (((am_vc x1).2.1 x2).2.2.2 = true ∧ meth.name = "<init>" ∧ ((am_vc x1).2.1 x2).1 = am_cn own) := by
        cases hf : ((am_vc x1).2.1 x2).2.2.2 with
        | false => exact Or.inl rfl
        | true =>
          rw [hf] at hm0
          exact Or.inr ⟨rfl, hm0.elim (fun z => nomatch z) (fun z => ⟨hini z.1, beq_iff_eq.mp z.2⟩)⟩
      obtain ⟨h1, h2, h3, h4⟩ := am_cf_I hck
      have hd9 := (am_tdI h4).2.2.1 rfl
      exact so_putJ X h1 h2 h3 hmd hd9 (by rw [hd9]; decide +kernel) hdec hk
    · have hck : ((!((am_vc x1).2.1 x2).2.2.2 || (ini && ((am_vc x1).2.1 x2).1 == am_cn own)) && (am_cf_ own n x1 x2 3 && am_rf ((am_vc x1).2.1 x2).2.2.1)) = true := hck
      rw [Bool.and_eq_true, Bool.or_eq_true, Bool.and_eq_true] at hck
      obtain ⟨hm0, hck⟩ := hck
      have hmd : ((am_vc x1).2.1 x2).2.2.2 = false ∨ (((am_vc x1).2.1 x2).2.2.2 = true ∧ meth.name = "<init>" ∧ ((am_vc x1).2.1 x2).1 = am_cn own) := by
        cases hf : ((am_vc x1).2.1 x2).2.2.2 with
        | false => exact Or.inl rfl
        | true =>
          rw [hf] at hm0
          exact Or.inr ⟨rfl, hm0.elim (fun z => nomatch z) (fun z => ⟨hini z.1, beq_iff_eq.mp z.2⟩)⟩
      rw [Bool.and_eq_true] at hck
      obtain ⟨h1, h2, h3, h4⟩ := am_cf_I hck.1
      obtain ⟨fty, hft⟩ := am_rf_I hck.2
      exact so_putR X h1 h2 h3 hmd ((am_tdI h4).2.2.2.2 rfl) hft hdec hk
    · intro L S m H locs cells slots ls h; cases h
    · have hck : ((!((am_vc x1).2.1 x2).2.2.2 || (ini && ((am_vc x1).2.1 x2).1 == am_cn own)) && am_cf_ own n x1 x2 5) = true := hck
      rw [Bool.and_eq_true, Bool.or_eq_true, Bool.and_eq_true] at hck
      obtain ⟨hm0, hck⟩ := hck
      have hmd : ((am_vc x1).2.1 x2).2.2.2 = false ∨ (((am_vc x1).2.1 x2).2.2.2 = true ∧ meth.name = "<init>" ∧ ((am_vc x1).2.1 x2).1 = am_cn own) := by
        cases hf : ((am_vc x1).2.1 x2).2.2.2 with
        | false => exact Or.inl rfl
        | true =>
          rw [hf] at hm0
          exact Or.inr ⟨rfl, hm0.elim (fun z => nomatch z) (fun z => ⟨hini z.1, beq_iff_eq.mp z.2⟩)⟩
      obtain ⟨h1, h2, h3, h4⟩ := am_cf_I hck
      have hd9 := (am_tdI h4).2.2.2.1 rfl
      exact so_putB X h1 h2 h3 hmd hd9 (by rw [hd9]; decide +kernel) hdec hk
    · have hck : ((!((am_vc x1).2.1 x2).2.2.2 || (ini && ((am_vc x1).2.1 x2).1 == am_cn own)) && (am_cf_ own n x1 x2 3 && am_rf ((am_vc x1).2.1 x2).2.2.1)) = true := hck
      rw [Bool.and_eq_true, Bool.or_eq_true, Bool.and_eq_true] at hck
      obtain ⟨hm0, hck⟩ := hck
      have hmd : ((am_vc x1).2.1 x2).2.2.2 = false ∨ (((am_vc x1).2.1 x2).2.2.2 = true ∧ meth.name = "<init>" ∧ ((am_vc x1).2.1 x2).1 = am_cn own) := by
        cases hf : ((am_vc x1).2.1 x2).2.2.2 with
        | false => exact Or.inl rfl
        | true =>
          rw [hf] at hm0
          exact Or.inr ⟨rfl, hm0.elim (fun z => nomatch z) (fun z => ⟨hini z.1, beq_iff_eq.mp z.2⟩)⟩
      rw [Bool.and_eq_true] at hck
      obtain ⟨h1, h2, h3, h4⟩ := am_cf_I hck.1
      obtain ⟨fty, hft⟩ := am_rf_I hck.2
      exact so_putQ X h1 h2 h3 hmd ((am_tdI h4).2.2.2.2 rfl) hft hdec hk
    · intro L S m H locs cells slots ls h; cases h
  case getstatic n =>
    rcases x1 with _ | _ | x1
    · exact so_gets X (am_wq_in hck) hdec hk
    · have hck : (am_WQ.any (fun q => q.1 == (own, n, x2)) && (x2.beq 40 || x2.beq 41 || x2.beq 42)) = true := hck
      rw [Bool.and_eq_true, Bool.or_eq_true, Bool.or_eq_true] at hck
      obtain ⟨h1, (h2 | h2) | h2⟩ := hck
      · cases Nat.eq_of_beq_eq_true h2
        exact so_getsE X (am_wq_in h1) hdec hk
      · cases Nat.eq_of_beq_eq_true h2
        exact so_getsO X (am_wq_in h1) hdec hk
      · cases Nat.eq_of_beq_eq_true h2
        exact so_getsT X (am_wq_in h1) hdec hk
    · intro L S m H locs cells slots ls h; cases h
  case arraylength =>
    exact so_arraylength X hdec hk
  case iaload =>
    exact so_iaload X hdec hk
  case baload =>
    exact so_baload X hdec hk
  case laload =>
    exact so_laload X hdec hk
  case aaload =>
    exact so_aaload X hdec hk
  case iastore =>
    exact so_iastore X hdec hk
  case bastore =>
    exact so_bastore X hdec hk
  case lastore =>
    exact so_lastore X hdec hk
  case aastore =>
    exact so_aastore X hdec hk
  case newarray t =>
    cases t <;> first | (cases hck; done) | skip
    · cases Nat.eq_of_beq_eq_true (show x1.beq 3 = true from hck)
      exact so_newarrayB X wArB hdec hk hmo
    · cases Nat.eq_of_beq_eq_true (show x1.beq 2 = true from hck)
      exact so_newarrayI X wArI hdec hk hmo
    · cases Nat.eq_of_beq_eq_true (show x1.beq 4 = true from hck)
      exact so_newarrayJ X wArJ hdec hk hmo
  case anewarray n =>
    have hck : ((x1.beq 6 || x1.beq 10 || x1.beq 11) && (am_CKo own).any (fun q => q.1 == (own, n, 200 + x1))) = true := hck
    rw [Bool.and_eq_true, Bool.or_eq_true, Bool.or_eq_true] at hck
    obtain ⟨(h1 | h1) | h1, h2⟩ := hck
    · cases Nat.eq_of_beq_eq_true h1
      exact so_anewarray X (t := 6) (C := "RoyaltyOffice$Office") (Or.inl rfl) (by decide +kernel) (am_ck_in h2) (fun _ h => h.2.1) hdec hk hmo
    · cases Nat.eq_of_beq_eq_true h1
      exact so_anewarray X (t := 10) (C := "java/lang/Object") (Or.inr (Or.inl rfl)) (by decide +kernel) (am_ck_in h2) (fun _ h => h.2.2.1) hdec hk hmo
    · cases Nat.eq_of_beq_eq_true h1
      exact so_anewarrayA X (t := 11) (ty := .int) (Or.inr (Or.inr (Or.inl rfl))) (by decide +kernel) (am_ck_in h2) (fun _ h => h.2.2.2.1) hdec hk hmo
  case multianewarray n dm =>
    have hck : (decide (dm = 2) && (am_CKo own).any (fun q => q.1 == (own, n, 12))) = true := hck
    rw [Bool.and_eq_true, decide_eq_true_eq] at hck
    obtain ⟨rfl, h2⟩ := hck
    exact so_multi X (am_ck_in h2) wArJ hdec hk hmo
  case checkcast n =>
    have hck : ((x1.beq 1 && (am_CKo own).any (fun q => q.1 == (own, n, 100 + x2)) && decide (x2 < 17)) || ((x1.beq 2 || x1.beq 3 || x1.beq 10 || x1.beq 12) && (am_CKo own).any (fun q => q.1 == (own, n, x1))) ) = true := hck
    simp only [Bool.or_eq_true, Bool.and_eq_true, decide_eq_true_eq] at hck
    rcases hck with ⟨⟨h1, h2⟩, h3⟩ | ⟨((h1 | h1) | h1) | h1, h2⟩
    · have e := am_ck_in h2
      rw [am_nkc h3] at e
      exact so_castO X (Nat.eq_of_beq_eq_true h1) e hdec hk
    · cases Nat.eq_of_beq_eq_true h1
      exact so_castI X rfl (am_ck_in h2) hdec hk
    · cases Nat.eq_of_beq_eq_true h1
      exact so_castB X rfl (am_ck_in h2) hdec hk
    · cases Nat.eq_of_beq_eq_true h1
      exact so_castR X (x1 := 10) (Or.inr (Or.inl rfl)) rfl (am_ck_in h2) hdec hk
    · cases Nat.eq_of_beq_eq_true h1
      exact so_castR X (x1 := 12) (Or.inr (Or.inr (Or.inr rfl))) rfl (am_ck_in h2) hdec hk
  case new n =>
    rcases x3 with _ | _ | x3
    · have hck : ((am_CLo own).any (fun q => q.1 == (own, n, x1)) && decide (x1 < 17) && (am_vc x1).2.2.beq x2) = true := hck
      rw [Bool.and_eq_true, Bool.and_eq_true] at hck
      have hci := of_decide_eq_true hck.1.2
      cases Nat.eq_of_beq_eq_true hck.2
      exact so_new X hci (am_cl_in hck.1.1) (am_ci_in hci).1 (am_ci_in hci).2 hdec hk hmo
    · exact so_thrown X
    · intro L S m H locs cells slots ls h; cases h
  case ireturn =>
    rcases x1 with _ | _ | _ | x1
    · exact so_iretI X (hret.trans (of_decide_eq_true hck)) hdec
    · exact so_iretZ X (hret.trans (of_decide_eq_true hck)) hdec
    · exact so_iretB X (hret.trans (of_decide_eq_true hck)) hdec
    · exact so_iretC X (hret.trans (of_decide_eq_true hck)) hdec
  case lreturn =>
    exact so_lret X (hret.trans (of_decide_eq_true hck)) hdec
  case areturn =>
    obtain ⟨rt, h1, h2⟩ := am_ref_I hck
    exact so_aret X (hret.trans h1) h2 hdec
  case return_ =>
    exact so_vret X (hret.trans (of_decide_eq_true hck)) hdec
  case invokevirtual n =>
    exact so_virt X hdec hck hk hC hCm hmo hfr2 hlo2
  case invokeinterface n ct =>
    have hck : (am_pr x1 && (am_MIo own).any (fun q => q.1 == (own, n, x1)) && (am_ma x1).beq x2 && !am_ms x1 && am_if.contains x1 && am_IS.any (fun q => q.1 == x1) && decide ((parseMethodDescriptor (am_im x1).desc).map (fun d => d.parameters.length) = some (am_ma x1)) && (am_vc x4).1 == (am_mn x1).cls) = true := hck
    simp only [Bool.and_eq_true, decide_eq_true_eq, Bool.not_eq_true'] at hck
    obtain ⟨⟨⟨⟨⟨⟨⟨h1, h2⟩, h3⟩, h4⟩, h5⟩, h6⟩, h7⟩, h8⟩ := hck
    have hn := Nat.eq_of_beq_eq_true h3
    subst hn
    obtain ⟨f1, f2, f3, f4, f5⟩ := am_fa h1
    exact so_invF (t := x3) X h1 f1 (am_mi_in h2) (f3 h4) (List.contains_iff_mem.mp h5) (am_is_in h6) h7 (beq_iff_eq.mp h8) hdec hk hC hCm hmo hfr2 hlo2
  case invokestatic n =>
    rcases x4 with _ | _ | _ | _ | _ | _ | x4
    · have hck : (am_pr x1 && (am_MLo own).any (fun q => q.1 == (own, n, x1)) && (am_ma x1).beq x2 && am_ms x1) = true := hck
      simp only [Bool.and_eq_true] at hck
      obtain ⟨⟨⟨h1, h2⟩, h3⟩, h4⟩ := hck
      have hn := Nat.eq_of_beq_eq_true h3
      subst hn
      obtain ⟨f1, f2, f3, f4, f5⟩ := am_fa h1
      exact so_invS (t := x3) X h1 f1 (am_ml_in h2) (f2 h4) hdec hk hC hCm hmo hfr2 hlo2
    · exact so_mmin X (am_wq_in hck) wMmin1 wMath wMmin2 hdec hk hmo
    · exact so_mmax X (am_wq_in hck) wMmax1 wMath wMmax2 hdec hk hmo
    · exact so_copy X (am_wq_in hck) wCp1 wCp2 wSys hdec hk
    · have hck : (own.beq 19 && n.beq 9) = true := hck
      rw [Bool.and_eq_true] at hck
      have e1 := Nat.eq_of_beq_eq_true hck.1
      have e2 := Nat.eq_of_beq_eq_true hck.2
      subst e1
      subst e2
      exact so_chk X rfl hdec hk hmo
    · have hck : (am_pr x1 && (am_MNo own).any (fun q => q.1 == (own, n, x1)) && (am_ma x1).beq x2 && am_ms x1) = true := hck
      simp only [Bool.and_eq_true] at hck
      obtain ⟨⟨⟨h1, h2⟩, h3⟩, h4⟩ := hck
      have hn := Nat.eq_of_beq_eq_true h3
      subst hn
      obtain ⟨f1, f2, f3, f4, f5⟩ := am_fa h1
      exact so_invSN X h1 f1 (am_mn_in h2) (f2 h4) hdec hk hC hCm hmo hfr2 hlo2
    · intro L S m H locs cells slots ls h; cases h
  case invokespecial n =>
    rcases x4 with _ | _ | _ | _ | _ | x4
    · have hck : (am_pr x1 && (am_MLo own).any (fun q => q.1 == (own, n, x1)) && (am_ma x1).beq x2 && !am_ms x1 && (am_mn x1).name == "<init>" && decide (am_mr x1 = none)) = true := hck
      simp only [Bool.and_eq_true, decide_eq_true_eq, Bool.not_eq_true'] at hck
      obtain ⟨⟨⟨⟨⟨h1, h2⟩, h3⟩, h4⟩, h5⟩, h7⟩ := hck
      have hn := Nat.eq_of_beq_eq_true h3
      subst hn
      obtain ⟨f1, f2, f3, f4, f5⟩ := am_fa h1
      exact so_invI X h1 f1 (am_ml_in h2) (f3 h4) (beq_iff_eq.mp h5) h7 hdec hk hC hCm hmo hfr2 hlo2
    · exact so_objInit X (am_wq_in hck) wOb1 wOb2 hdec hk
    · have hck : (am_pr x1 && (am_MNo own).any (fun q => q.1 == (own, n, x1)) && (am_ma x1).beq x2 && !am_ms x1 && (am_mn x1).name == "<init>" && decide (am_mr x1 = none)) = true := hck
      simp only [Bool.and_eq_true, decide_eq_true_eq, Bool.not_eq_true'] at hck
      obtain ⟨⟨⟨⟨⟨h1, h2⟩, h3⟩, h4⟩, h5⟩, h7⟩ := hck
      have hn := Nat.eq_of_beq_eq_true h3
      subst hn
      obtain ⟨f1, f2, f3, f4, f5⟩ := am_fa h1
      exact so_invIN X h1 f1 (am_mn_in h2) (f3 h4) (beq_iff_eq.mp h5) h7 hdec hk hC hCm hmo hfr2 hlo2
    · have hck : (am_pr x1 && (am_MLo own).any (fun q => q.1 == (own, n, x1)) && (am_ma x1).beq x2 && !am_ms x1 && !((am_mn x1).name == "<init>") && am_WM.any (fun q => q.1 == x1) && (am_mn x1).cls == RJ5 && own.beq 13) = true := hck
      simp only [Bool.and_eq_true, Bool.not_eq_true'] at hck
      obtain ⟨⟨⟨⟨⟨⟨⟨h1, h2⟩, h3⟩, h4⟩, h5⟩, h6⟩, h7⟩, h8⟩ := hck
      have hn := Nat.eq_of_beq_eq_true h3
      subst hn
      have ho := Nat.eq_of_beq_eq_true h8
      subst ho
      obtain ⟨f1, f2, f3, f4, f5⟩ := am_fa h1
      have hne : ¬ (am_mn x1).name = "<init>" := fun z => by rw [z] at h5; simp at h5
      exact so_invSU (t := x3) X h1 f1 (am_ml_in h2) (f3 h4) (am_wm_in h6) (by rw [beq_iff_eq.mp h7]; exact wSp) hne hdec hk hC hCm hmo hfr2 hlo2
    · intro L S m H locs cells slots ls h; cases h
    · cases hck
  case athrow =>
    intro L S m H locs cells slots ls h; cases h
  all_goals exact absurd hck (fun z => nomatch (show false = true from z))
end S7
