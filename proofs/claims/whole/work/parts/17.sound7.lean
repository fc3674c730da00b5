/-! every instruction that is looked at is sound; a method; all methods -/
theorem wMmin1 : Cond.static Lib.Math.min.name ∈ am_GW := am_pw_in (p := (2, 55)) rfl rfl
theorem wMmax1 : Cond.static Lib.Math.max.name ∈ am_GW := am_pw_in (p := (0, 140)) rfl rfl
theorem wMmin2 : Cond.code Lib.Math.min.name Lib.Math.min.code 2 (some .int) ∈ am_GW := am_pw_in (p := (2, 56)) rfl rfl
theorem wMmax2 : Cond.code Lib.Math.max.name Lib.Math.max.code 2 (some .int) ∈ am_GW := am_pw_in (p := (0, 141)) rfl rfl
theorem wMath : Cond.initialized "java/lang/Math" ∈ am_GW := am_pw_in (p := (0, 9)) rfl rfl
theorem wSys : Cond.initialized "java/lang/System" ∈ am_GW := am_pw_in (p := (0, 24)) rfl rfl
theorem wCp1 : Cond.native arraycopyName ∈ am_GW := am_pw_in (p := (2, 49)) rfl rfl
theorem wCp2 : Cond.static arraycopyName ∈ am_GW := am_pw_in (p := (2, 48)) rfl rfl
theorem wOb1 : Cond.instanceMethod Lib.objectInit ∈ am_GW := am_pw_in (p := (0, 32)) rfl rfl
theorem wOb2 : Cond.code Lib.objectInit ⟨#[0xb1]⟩ 1 none ∈ am_GW := am_pw_in (p := (0, 33)) rfl rfl
theorem wArI : Cond.arrayClass .int ∈ am_GW := am_pw_in (p := (0, 126)) rfl rfl
theorem wArB : Cond.arrayClass .byte ∈ am_GW := am_pw_in (p := (0, 124)) rfl rfl
theorem wArJ : Cond.arrayClass .long ∈ am_GW := am_pw_in (p := (0, 125)) rfl rfl
theorem wArD : Cond.arrayClass .double ∈ am_GW := am_pw_in (p := (9, 161)) rfl rfl
theorem wSt1 : Cond.fieldLink "java/lang/String" 38 "java/lang/String" "COMPACT_STRINGS" "Z" ∈ am_GW := am_pw_in (p := (0, 49)) rfl rfl
theorem wSt2 : Cond.fieldLink "java/lang/String" 9 "java/lang/String" "value" "[B" ∈ am_GW := am_pw_in (p := (9, 163)) rfl rfl
theorem wSt3 : Cond.fieldLink "java/lang/String" 15 "java/lang/String" "coder" "B" ∈ am_GW := am_pw_in (p := (9, 164)) rfl rfl
theorem am_ml_in {own ix y : Nat} (h : (am_MLo own).any (fun q => q.1 == (own, ix, y)) = true) : Cond.methodLink (am_cn own) ix (am_mn y) ∈ am_GW := am_tab (g := fun a : Nat × Nat × Nat => Cond.methodLink (am_cn a.1) a.2.1 (am_mn a.2.2)) (am_MLo_ok own) (fun _ => rfl) h
theorem am_mn_in {own ix y : Nat} (h : (am_MNo own).any (fun q => q.1 == (own, ix, y)) = true) : Cond.methodLinkNest (am_cn own) ix (am_mn y) "RoyaltyOffice" ∈ am_GW := am_tab (g := fun a : Nat × Nat × Nat => Cond.methodLinkNest (am_cn a.1) a.2.1 (am_mn a.2.2) "RoyaltyOffice") (am_MNo_ok own) (fun _ => rfl) h
theorem am_ki_in {own ix : Nat} {v : Int32} (h : (am_KIo own).any (fun q => q.1 == (own, ix, v)) = true) : Cond.constant (am_cn own) ix v ∈ am_GW := am_tab (g := fun a : Nat × Nat × Int32 => Cond.constant (am_cn a.1) a.2.1 a.2.2) (am_KIo_ok own) (fun _ => rfl) h
theorem am_kl_in {own ix : Nat} {v : Int64} (h : (am_KLo own).any (fun q => q.1 == (own, ix, v)) = true) : Cond.constantLong (am_cn own) ix v ∈ am_GW := am_tab (g := fun a : Nat × Nat × Int64 => Cond.constantLong (am_cn a.1) a.2.1 a.2.2) (am_KLo_ok own) (fun _ => rfl) h
theorem am_cl_in {own ix y : Nat} (h : (am_CLo own).any (fun q => q.1 == (own, ix, y)) = true) : Cond.classLink (am_cn own) ix (am_vc y).1 ∈ am_GW := am_tab (g := fun a : Nat × Nat × Nat => Cond.classLink (am_cn a.1) a.2.1 (am_vc a.2.2).1) (am_CLo_ok own) (fun _ => rfl) h
theorem am_xl_in {own ix y : Nat} (h : (am_XLo own).any (fun q => q.1 == (own, ix, y)) = true) : Cond.classLink (am_cn own) ix (am_xn y) ∈ am_GW := am_tab (g := fun a : Nat × Nat × Nat => Cond.classLink (am_cn a.1) a.2.1 (am_xn a.2.2)) (am_XLo_ok own) (fun _ => rfl) h
theorem am_fl_in {own ix ci k : Nat} (h : (am_FLo own).any (fun q => q.1 == (own, ix, ci, k)) = true) : Cond.fieldLink (am_cn own) ix (am_vc ci).1 ((am_vc ci).2.1 k).2.1 ((am_vc ci).2.1 k).2.2.1 ∈ am_GW := am_tab (g := fun a : Nat × Nat × Nat × Nat => Cond.fieldLink (am_cn a.1) a.2.1 (am_vc a.2.2.1).1 ((am_vc a.2.2.1).2.1 a.2.2.2).2.1 ((am_vc a.2.2.1).2.1 a.2.2.2).2.2.1) (am_FLo_ok own) (fun _ => rfl) h
theorem am_wq_in {own ix k : Nat} (h : am_WQ.any (fun q => q.1 == (own, ix, k)) = true) : am_wq (own, ix, k) ∈ am_GW := am_tab (g := fun a : Nat × Nat × Nat => am_wq a) am_WQ_ok am_wq_o h
theorem am_ci_all : (List.range 12).all (fun c => am_CI.any (fun q => q.1 == c) && am_CZ.any (fun q => q.1 == c)) = true := by decide +kernel
theorem am_ci_in {c : Nat} (hc : c < 12) : Cond.instantiable (am_vc c).1 (am_vc c).2.2 ∈ am_GW ∧ Cond.initialized (am_vc c).1 ∈ am_GW := by
  have h := List.all_eq_true.mp am_ci_all c (List.mem_range.mpr hc)
  rw [Bool.and_eq_true] at h
  exact ⟨am_tab (g := fun c : Nat => Cond.instantiable (am_vc c).1 (am_vc c).2.2) am_CI_ok (fun _ => rfl) h.1, am_tab (g := fun c : Nat => Cond.initialized (am_vc c).1) am_CZ_ok (fun _ => rfl) h.2⟩
theorem am_td0 {d : String} (h : am_td d = 0) : d = "I" := by
  unfold am_td at h
  by_cases q : d = "I"
  · exact q
  · rw [if_neg q] at h
    by_cases q2 : d = "Z"
    · rw [if_pos q2] at h; cases h
    · rw [if_neg q2] at h
      by_cases q3 : d = "J"
      · rw [if_pos q3] at h; cases h
      · rw [if_neg q3] at h; cases h
theorem am_td1 {d : String} (h : am_td d = 1) : d = "Z" := by
  unfold am_td at h
  by_cases q : d = "I"
  · rw [if_pos q] at h; cases h
  · rw [if_neg q] at h
    by_cases q2 : d = "Z"
    · exact q2
    · rw [if_neg q2] at h
      by_cases q3 : d = "J"
      · rw [if_pos q3] at h; cases h
      · rw [if_neg q3] at h; cases h
theorem am_td2 {d : String} (h : am_td d = 2) : d = "J" := by
  unfold am_td at h
  by_cases q : d = "I"
  · rw [if_pos q] at h; cases h
  · rw [if_neg q] at h
    by_cases q2 : d = "Z"
    · rw [if_pos q2] at h; cases h
    · rw [if_neg q2] at h
      by_cases q3 : d = "J"
      · exact q3
      · rw [if_neg q3] at h; cases h
theorem am_td3 {d : String} (h : am_td d = 3) : ¬ (d = "I" ∨ d = "Z") ∧ ¬ d = "J" := by
  unfold am_td at h
  by_cases q : d = "I"
  · rw [if_pos q] at h; cases h
  · rw [if_neg q] at h
    by_cases q2 : d = "Z"
    · rw [if_pos q2] at h; cases h
    · rw [if_neg q2] at h
      by_cases q3 : d = "J"
      · rw [if_pos q3] at h; cases h
      · exact ⟨fun z => z.elim q q2, q3⟩
theorem am_cf_I {own n ci k t : Nat} (h : am_cf_ own n ci k t = true) : ci < 12 ∧ k < (am_vc ci).2.2 ∧ Cond.fieldLink (am_cn own) n (am_vc ci).1 ((am_vc ci).2.1 k).2.1 ((am_vc ci).2.1 k).2.2.1 ∈ am_GW ∧ am_td ((am_vc ci).2.1 k).2.2.1 = t := by
  simp only [am_cf_, Bool.and_eq_true, decide_eq_true_eq] at h
  exact ⟨h.1.1.2, h.1.2, am_fl_in h.1.1.1, Nat.eq_of_beq_eq_true h.2⟩
theorem am_rf_I {d : String} (h : am_rf d = true) : ∃ fty, (parseFieldDescriptor d = some fty ∧ (∃ z, fty = .object z)) ∨ (parseFieldDescriptor d = some fty ∧ ∃ z, fty = .array z) := by
  unfold am_rf at h
  split at h
  · next z q => exact ⟨_, Or.inl ⟨q, z, rfl⟩⟩
  · next z q => exact ⟨_, Or.inr ⟨q, z, rfl⟩⟩
  · cases h
section S7
variable {p : Program} {l : Launch} {e : Env} {R : Room} {s : State} {mt : MethodId} {args : Array Value} {below : List Frame} {meth : Method} {c : Code} {nL own : Nat} {cc : ByteArray} {E : am_E} {m0 : am_M} {r : am_R} {pc : Nat} {k : am_L → List Value → am_M → Option am_R} {x : am_X}
variable {d : Nat} {C : Nat → List Value → am_M → Option am_R} {hd9 : Nat → Nat → Option Int32} {K : am_K} {ret : Option FieldType} {ini thr : Bool}
set_option maxHeartbeats 2000000 in
theorem am_st_ok {i : Instr} (X : am_Cx p l R s mt args meth c cc nL own E m0 r) (hret : meth.sig.returnType = ret) (hini : ini = true → meth.name = "<init>") (hthr : thr = true → ∀ x ∈ c.exceptionTable.toList, False)
    (hdec : decode cc pc = .ok (i, am_le i x)) (hck : am_cx own nL ret ini thr cc pc i x = true) (hk : am_G p l e R s mt args below meth c nL E (vx_MQ below (am_Qc E r) (am_XC E r) args s (gc_ r.2 - gc_ m0) (gs_ r.2 - gs_ m0) (am_A E)) m0 r (k) (pc + am_ln i)) (hK9 : ∀ q, am_G p l e R s mt args below meth c nL E (vx_MQ below (am_Qc E r) (am_XC E r) args s (gc_ r.2 - gc_ m0) (gs_ r.2 - gs_ m0) (am_A E)) m0 r (K q) (q)) (hmo : ∀ L S m, k L S m = some r → gc_ m ≤ gc_ r.2 ∧ gs_ m ≤ gs_ r.2) (hC : am_Con l E d C) (hCm : am_Cm C) (hfr2 : 13 + d ≤ R.frames) (hlo2 : 260 + 40 * d ≤ R.locals) (hX9 : ∀ (j : Nat) (m1 : am_M) (L : am_L) (rest : List Value) (q : Addr) (ce : Cell) (H : Heap) (locs : List Loc) (cells slots : Nat) (ls : Array Slot), am_xc hd9 pc j m1 = some r → am_LH ls nL L → am_Pt E s H locs cells slots m0 m1 → H[q]? = some ce → ce.vm = .none → s.vm.findClass (am_xn j) = some ce.cls → vx_W p l e R s mt args below meth c (H) (locs) (cells) (slots) (vx_MQ below (am_Qc E r) (am_XC E r) args s (gc_ r.2 - gc_ m0) (gs_ r.2 - gs_ m0) (am_A E)) (F0 mt pc ls rest) q) :
    am_G p l e R s mt args below meth c nL E (vx_MQ below (am_Qc E r) (am_XC E r) args s (gc_ r.2 - gc_ m0) (gs_ r.2 - gs_ m0) (am_A E)) m0 r (am_st E.2.2.2.1 E.2.2.2.2.1 K C hd9 pc i x k) (pc) := by
  obtain ⟨x1, x2, x3, x4, v, w, sw⟩ := x
  cases i
  case iconst n =>
    have h1 := of_decide_eq_true hck
    exact so_iconst X h1 hdec hk
  case bipush n =>
    have h1 := of_decide_eq_true hck
    exact so_bipush X h1 hdec hk
  case sipush n =>
    have h1 := of_decide_eq_true hck
    exact so_sipush X h1 hdec hk
  case ldc n =>
    by_cases q : x1 = 1
    · subst q
      have hck : (own.beq 9 && n.beq 29) = true := hck
      rw [Bool.and_eq_true] at hck
      exact so_ldcs X hdec ⟨by rw [Nat.eq_of_beq_eq_true hck.1]; rfl, Nat.eq_of_beq_eq_true hck.2⟩ hk
    · have hb : x1.beq 1 = false := by
        cases hh : x1.beq 1 with
        | true => exact absurd (Nat.eq_of_beq_eq_true hh) q
        | false => rfl
      have hck : (bif x1.beq 1 then own.beq 9 && n.beq 29 else (am_KIo own).any (fun q => q.1 == (own, n, v))) = true := hck
      rw [hb] at hck
      intro L S m H locs cells slots ls h
      have h : (bif x1.beq 1 then k L (.ref E.2.2.2.1 :: S) m else k L (.int v :: S) m) = some r := h
      rw [hb] at h
      exact so_ldc X (am_ki_in hck) hdec hk L S m H locs cells slots ls h
  case ldc_w n =>
    exact so_ldc_w X (am_ki_in hck) hdec hk
  case ldc2_w n =>
    exact so_ldc2 X (am_kl_in hck) hdec hk
  case lconst n =>
    have h1 := of_decide_eq_true hck
    exact so_lconst X h1 hdec hk
  case fconst n =>
    have h1 := of_decide_eq_true hck
    subst h1
    exact so_fconst X hdec hk
  case iload_n n =>
    have h1 := of_decide_eq_true hck
    exact so_iload_n X h1 hdec hk
  case lload_n n =>
    have h1 := of_decide_eq_true hck
    exact so_lload_n X h1 hdec hk
  case aload_n n =>
    have h1 := of_decide_eq_true hck
    exact so_aload_n X h1 hdec hk
  case iload n =>
    have h1 := of_decide_eq_true hck
    subst h1
    exact so_iload X hdec hk
  case lload n =>
    have h1 := of_decide_eq_true hck
    subst h1
    exact so_lload X hdec hk
  case aload n =>
    have h1 := of_decide_eq_true hck
    subst h1
    exact so_aload X hdec hk
  case fload n =>
    have h1 := of_decide_eq_true hck
    subst h1
    exact so_fload X hdec hk
  case istore_n n =>
    obtain ⟨h1, h2⟩ := of_decide_eq_true hck
    exact so_istore_n X h1 h2 hdec hk
  case lstore_n n =>
    obtain ⟨h1, h2⟩ := of_decide_eq_true hck
    exact so_lstore_n X h1 h2 hdec hk
  case astore_n n =>
    obtain ⟨h1, h2⟩ := of_decide_eq_true hck
    exact so_astore_n X h1 h2 hdec hk
  case istore n =>
    obtain ⟨h1, h2⟩ := of_decide_eq_true hck
    subst h1
    exact so_istore X h2 hdec hk
  case lstore n =>
    obtain ⟨h1, h2⟩ := of_decide_eq_true hck
    subst h1
    exact so_lstore X h2 hdec hk
  case astore n =>
    obtain ⟨h1, h2⟩ := of_decide_eq_true hck
    subst h1
    exact so_astore X h2 hdec hk
  case fstore n =>
    obtain ⟨h1, h2⟩ := of_decide_eq_true hck
    subst h1
    exact so_fstore X h2 hdec hk
  case iinc n dd =>
    obtain ⟨h1, h2, h3⟩ := of_decide_eq_true hck
    subst h1
    exact so_iinc X h2 h3 hdec hk
  case iadd =>
    exact so_iadd X hdec hk
  case isub =>
    exact so_isub X hdec hk
  case imul =>
    exact so_imul X hdec hk
  case idiv =>
    exact so_idiv X hdec hk
  case irem =>
    exact so_irem X hdec hk
  case iand =>
    exact so_iand X hdec hk
  case ior =>
    exact so_ior X hdec hk
  case ishl =>
    exact so_ishl X hdec hk
  case ishr =>
    exact so_ishr X hdec hk
  case ladd =>
    exact so_ladd X hdec hk
  case lsub =>
    exact so_lsub X hdec hk
  case lmul =>
    exact so_lmul X hdec hk
  case ldiv =>
    exact so_ldiv X hdec hk
  case lrem =>
    exact so_lrem X hdec hk
  case land =>
    exact so_land X hdec hk
  case lor =>
    exact so_lor X hdec hk
  case lneg =>
    exact so_lneg X hdec hk
  case lshl =>
    exact so_lshl X hdec hk
  case lshr =>
    exact so_lshr X hdec hk
  case lcmp =>
    exact so_lcmp X hdec hk
  case i2l =>
    exact so_i2l X hdec hk
  case l2i =>
    exact so_l2i X hdec hk
  case i2b =>
    exact so_i2b X hdec hk
  case i2c =>
    exact so_i2c X hdec hk
  case l2f =>
    exact so_l2f X hdec hk
  case f2d =>
    exact so_f2d X hdec hk
  case fdiv =>
    exact so_fdiv X hdec hk
  case dup =>
    exact so_dup X hdec hk
  case dup2 =>
    exact so_dup2 X hdec hk
  case pop =>
    exact so_pop X hdec hk
  case pop2 =>
    exact so_pop2 X hdec hk
  case fcmp op =>
    exact so_fcmp X hdec hk
  case dcmp op =>
    exact so_dcmp X hdec hk
  case goto off =>
    exact so_goto X hdec (of_decide_eq_true hck) hK9
  case ifCond cd off =>
    have h1 := of_decide_eq_true hck
    cases cd
    · exact so_if_eq X hdec h1 hK9
    · exact so_if_ne X hdec h1 hK9
    · exact so_if_lt X hdec h1 hK9
    · exact so_if_ge X hdec h1 hK9
    · exact so_if_gt X hdec h1 hK9
    · exact so_if_le X hdec h1 hK9
  case if_icmp cd off =>
    have h1 := of_decide_eq_true hck
    cases cd
    · exact so_icmp_eq X hdec h1 hK9
    · exact so_icmp_ne X hdec h1 hK9
    · exact so_icmp_lt X hdec h1 hK9
    · exact so_icmp_ge X hdec h1 hK9
    · exact so_icmp_gt X hdec h1 hK9
    · exact so_icmp_le X hdec h1 hK9
  case ifnull off =>
    exact so_ifnull X hdec (of_decide_eq_true hck) hK9
  case ifnonnull off =>
    exact so_ifnonnull X hdec (of_decide_eq_true hck) hK9
  case tableswitch dd lo hi offs =>
    simp only [am_cx, Bool.and_eq_true, decide_eq_true_eq] at hck
    obtain ⟨⟨h1, h2, h3, h4⟩, h5⟩ := hck
    refine so_table X hdec h1 h2 h3 h4 (fun i hi => ?_) hK9
    have h6 := List.all_eq_true.mp h5 i (List.mem_range.mpr hi)
    split at h6
    · next q off g1 g2 =>
      obtain ⟨h7, h8⟩ := of_decide_eq_true h6
      exact ⟨q, off, g1, g2, h7, h8⟩
    · cases h6
  case lookupswitch dd ps =>
    simp only [am_cx, Bool.and_eq_true, decide_eq_true_eq] at hck
    obtain ⟨⟨⟨h1, h2⟩, h3⟩, h5⟩ := hck
    refine so_lookup X hdec h1 h2 h3 (fun i a ha => ?_) hK9
    have h6 := List.all_eq_true.mp h5 i (List.mem_range.mpr (List.getElem?_eq_some_iff.mp ha).1)
    rw [ha] at h6
    split at h6
    · next q off g1 g2 =>
      cases g2
      obtain ⟨h7, h8⟩ := of_decide_eq_true h6
      exact ⟨q, g1, h7, h8⟩
    · cases h6
  case getfield n =>
    rcases x3 with _ | _ | _ | _ | _ | _ | x3
    · obtain ⟨h1, h2, h3, h4⟩ := am_cf_I hck
      exact so_getI X h1 h2 h3 (Or.inl (am_td0 h4)) hdec hk
    · obtain ⟨h1, h2, h3, h4⟩ := am_cf_I hck
      exact so_getI X h1 h2 h3 (Or.inr (am_td1 h4)) hdec hk
    · obtain ⟨h1, h2, h3, h4⟩ := am_cf_I hck
      exact so_getJ X h1 h2 h3 (am_td2 h4) hdec hk
    · obtain ⟨h1, h2, h3, h4⟩ := am_cf_I hck
      exact so_getR X h1 h2 h3 (am_td3 h4) hdec hk
    · have hck : (own.beq 14 && n.beq 9) = true := hck
      rw [Bool.and_eq_true] at hck
      have e1 := Nat.eq_of_beq_eq_true hck.1
      have e2 := Nat.eq_of_beq_eq_true hck.2
      subst e1
      subst e2
      exact so_gsv X wSt2 hdec hk
    · have hck : (own.beq 14 && n.beq 15) = true := hck
      rw [Bool.and_eq_true] at hck
      have e1 := Nat.eq_of_beq_eq_true hck.1
      have e2 := Nat.eq_of_beq_eq_true hck.2
      subst e1
      subst e2
      exact so_gsc X wSt3 hdec hk
    · cases hck
  case putfield n =>
    rcases x3 with _ | _ | _ | _ | x3
    · have hck : ((!((am_vc x1).2.1 x2).2.2.2 || (ini && (am_vc x1).1 == am_cn own)) && am_cf_ own n x1 x2 0) = true := hck
      rw [Bool.and_eq_true, Bool.or_eq_true, Bool.and_eq_true] at hck
      obtain ⟨hm0, hck⟩ := hck
      have hmd : ((am_vc x1).2.1 x2).2.2.2 = false ∨ (((am_vc x1).2.1 x2).2.2.2 = true ∧ meth.name = "<init>" ∧ (am_vc x1).1 = am_cn own) := by
        cases hf : ((am_vc x1).2.1 x2).2.2.2 with
        | false => exact Or.inl rfl
        | true =>
          rw [hf] at hm0
          exact Or.inr ⟨rfl, hm0.elim (fun z => nomatch z) (fun z => ⟨hini z.1, beq_iff_eq.mp z.2⟩)⟩
      obtain ⟨h1, h2, h3, h4⟩ := am_cf_I hck
      exact so_putI X h1 h2 h3 hmd (am_td0 h4) (by rw [am_td0 h4]; decide +kernel) hdec hk
    · have hck : ((!((am_vc x1).2.1 x2).2.2.2 || (ini && (am_vc x1).1 == am_cn own)) && am_cf_ own n x1 x2 1) = true := hck
      rw [Bool.and_eq_true, Bool.or_eq_true, Bool.and_eq_true] at hck
      obtain ⟨hm0, hck⟩ := hck
      have hmd : ((am_vc x1).2.1 x2).2.2.2 = false ∨ (((am_vc x1).2.1 x2).2.2.2 = true ∧ meth.name = "<init>" ∧ (am_vc x1).1 = am_cn own) := by
        cases hf : ((am_vc x1).2.1 x2).2.2.2 with
        | false => exact Or.inl rfl
        | true =>
          rw [hf] at hm0
          exact Or.inr ⟨rfl, hm0.elim (fun z => nomatch z) (fun z => ⟨hini z.1, beq_iff_eq.mp z.2⟩)⟩
      obtain ⟨h1, h2, h3, h4⟩ := am_cf_I hck
      exact so_putZ X h1 h2 h3 hmd (am_td1 h4) (by rw [am_td1 h4]; decide +kernel) hdec hk
    · have hck : ((!((am_vc x1).2.1 x2).2.2.2 || (ini && (am_vc x1).1 == am_cn own)) && am_cf_ own n x1 x2 2) = true := hck
      rw [Bool.and_eq_true, Bool.or_eq_true, Bool.and_eq_true] at hck
      obtain ⟨hm0, hck⟩ := hck
      have hmd : ((am_vc x1).2.1 x2).2.2.2 = false ∨ (((am_vc x1).2.1 x2).2.2.2 = true ∧ meth.name = "<init>" ∧ (am_vc x1).1 = am_cn own) := by
        cases hf : ((am_vc x1).2.1 x2).2.2.2 with
        | false => exact Or.inl rfl
        | true =>
          rw [hf] at hm0
          exact Or.inr ⟨rfl, hm0.elim (fun z => nomatch z) (fun z => ⟨hini z.1, beq_iff_eq.mp z.2⟩)⟩
      obtain ⟨h1, h2, h3, h4⟩ := am_cf_I hck
      exact so_putJ X h1 h2 h3 hmd (am_td2 h4) (by rw [am_td2 h4]; decide +kernel) hdec hk
    · have hck : ((!((am_vc x1).2.1 x2).2.2.2 || (ini && (am_vc x1).1 == am_cn own)) && (am_cf_ own n x1 x2 3 && am_rf ((am_vc x1).2.1 x2).2.2.1)) = true := hck
      rw [Bool.and_eq_true, Bool.or_eq_true, Bool.and_eq_true] at hck
      obtain ⟨hm0, hck⟩ := hck
      have hmd : ((am_vc x1).2.1 x2).2.2.2 = false ∨ (((am_vc x1).2.1 x2).2.2.2 = true ∧ meth.name = "<init>" ∧ (am_vc x1).1 = am_cn own) := by
        cases hf : ((am_vc x1).2.1 x2).2.2.2 with
        | false => exact Or.inl rfl
        | true =>
          rw [hf] at hm0
          exact Or.inr ⟨rfl, hm0.elim (fun z => nomatch z) (fun z => ⟨hini z.1, beq_iff_eq.mp z.2⟩)⟩
      rw [Bool.and_eq_true] at hck
      obtain ⟨h1, h2, h3, h4⟩ := am_cf_I hck.1
      obtain ⟨fty, hft⟩ := am_rf_I hck.2
      exact so_putR X h1 h2 h3 hmd (am_td3 h4) hft hdec hk
    · have hck : ((!((am_vc x1).2.1 x2).2.2.2 || (ini && (am_vc x1).1 == am_cn own)) && false) = true := hck
      rw [Bool.and_false] at hck
      cases hck
  case getstatic n =>
    have hck : (own.beq 14 && n.beq 38) = true := hck
    rw [Bool.and_eq_true] at hck
    have e1 := Nat.eq_of_beq_eq_true hck.1
    have e2 := Nat.eq_of_beq_eq_true hck.2
    subst e1
    subst e2
    exact so_gets X wSt1 hdec hk
  case arraylength =>
    exact so_arraylength X hdec hk
  case iaload =>
    exact so_iaload X hdec hk
  case baload =>
    exact so_baload X hdec hk
  case laload =>
    exact so_laload X hdec hk
  case daload =>
    exact so_daload X hdec hk
  case aaload =>
    exact so_aaload X hdec hk
  case iastore =>
    exact so_iastore X hdec hk
  case bastore =>
    exact so_bastore X hdec hk
  case lastore =>
    exact so_lastore X hdec hk
  case dastore =>
    exact so_dastore X hdec hk
  case aastore =>
    exact so_aastore X hdec hk
  case newarray t =>
    cases t <;> first | (cases hck; done) | skip
    · cases Nat.eq_of_beq_eq_true (show x1.beq 5 = true from hck)
      exact so_newarrayD X wArD hdec hk hmo
    · cases Nat.eq_of_beq_eq_true (show x1.beq 3 = true from hck)
      exact so_newarrayB X wArB hdec hk hmo
    · cases Nat.eq_of_beq_eq_true (show x1.beq 2 = true from hck)
      exact so_newarrayI X wArI hdec hk hmo
    · cases Nat.eq_of_beq_eq_true (show x1.beq 4 = true from hck)
      exact so_newarrayJ X wArJ hdec hk hmo
  case anewarray n =>
    exact so_anewarray X (am_wq_in hck) hdec hk hmo
  case new n =>
    rcases x3 with _ | x3
    · have hck : ((am_CLo own).any (fun q => q.1 == (own, n, x1)) && decide (x1 < 12) && (am_vc x1).2.2.beq x2) = true := hck
      rw [Bool.and_eq_true, Bool.and_eq_true] at hck
      have hci := of_decide_eq_true hck.1.2
      cases Nat.eq_of_beq_eq_true hck.2
      exact so_new X hci (am_cl_in hck.1.1) (am_ci_in hci).1 (am_ci_in hci).2 hdec hk hmo
    · have hck : (thr && (am_XLo own).any (fun q => q.1 == (own, n, x1)) && decide (decode cc (pc + 3) = .ok (.dup, 1) ∧ decode cc (pc + 4) = .ok (.invokespecial x2, 3) ∧ decode cc (pc + 7) = .ok (.athrow, 1)) && am_tw own x2 x1) = true := hck
      rw [Bool.and_eq_true, Bool.and_eq_true, Bool.and_eq_true] at hck
      obtain ⟨⟨⟨g1, g2⟩, g3⟩, g4⟩ := hck
      obtain ⟨g5, g6, g7⟩ := of_decide_eq_true g3
      obtain ⟨t1, t2, t3, t4⟩ := am_tws _ _ _ g4
      exact so_throw X (am_xl_in g2) t4 t1 t2 t3 hdec g5 g6 g7 (hthr g1)
  case ireturn =>
    rcases x1 with _ | _ | _ | x1
    · exact so_iretI X (hret.trans (of_decide_eq_true hck)) hdec
    · exact so_iretZ X (hret.trans (of_decide_eq_true hck)) hdec
    · exact so_iretB X (hret.trans (of_decide_eq_true hck)) hdec
    · exact so_iretC X (hret.trans (of_decide_eq_true hck)) hdec
  case lreturn =>
    exact so_lret X (hret.trans (of_decide_eq_true hck)) hdec
  case freturn =>
    exact so_fret X (hret.trans (of_decide_eq_true hck)) hdec
  case return_ =>
    exact so_vret X (hret.trans (of_decide_eq_true hck)) hdec
  case invokevirtual n =>
    have hck : (decide (x1 < 411) && ((am_MLo own).any (fun q => q.1 == (own, n, x1)) || !x4.beq 14 && (am_MNo own).any (fun q => q.1 == (own, n, x1))) && (am_ma x1).beq x2 && !am_ms x1 && !((am_mn x1).name == "<init>") && (am_hh x1).isEmpty && (bif x4.beq 14 then (am_mn x1).cls == "java/lang/String" else (am_vc x4).1 == (am_mn x1).cls)) = true := hck
    simp only [Bool.and_eq_true, Bool.or_eq_true, decide_eq_true_eq, Bool.not_eq_true'] at hck
    obtain ⟨⟨⟨⟨⟨⟨h1, h2⟩, h3⟩, h4⟩, h5⟩, h6⟩, h7⟩ := hck
    have hn := Nat.eq_of_beq_eq_true h3
    subst hn
    obtain ⟨f1, f2, f3, f4, f5⟩ := am_fa h1
    obtain ⟨f6, f7⟩ := f3 h4
    have hne : ¬ (am_mn x1).name = "<init>" := fun z => by rw [z] at h5; simp at h5
    have hh := List.isEmpty_iff.mp h6
    cases hb : x4.beq 14 with
    | true =>
      rw [hb] at h7
      have G := so_invT (t := x3) X h1 f1 hh (am_ml_in (h2.elim id fun z => by rw [hb] at z; exact absurd z.1 (by decide))) f6 (f7 hne) (beq_iff_eq.mp h7) hdec hk hC hCm hmo hfr2 hlo2 hX9
      intro L S m H locs cells slots ls h
      refine G L S m H locs cells slots ls (Eq.trans ?_ h)
      show _ = q_r (S.drop (am_ma x1)) fun b R => bif (am_w R).ble 8 then (bif x4.beq 14 then gq_ (b = E.2.2.2.1) _ else gq_ (gk_ m b = (1, x4)) _) else none
      rw [hb]
      rfl
    | false =>
      rw [hb] at h7
      rcases h2 with h2 | ⟨-, h2⟩
      · have G := so_invV (t := x3) X h1 f1 hh (am_ml_in h2) f6 (f7 hne) (beq_iff_eq.mp h7) hdec hk hC hCm hmo hfr2 hlo2 hX9
        intro L S m H locs cells slots ls h
        refine G L S m H locs cells slots ls (Eq.trans ?_ h)
        show _ = q_r (S.drop (am_ma x1)) fun b R => bif (am_w R).ble 8 then (bif x4.beq 14 then gq_ (b = E.2.2.2.1) _ else gq_ (gk_ m b = (1, x4)) _) else none
        rw [hb]
        rfl
      · have G := so_invVN (t := x3) X h1 f1 hh (am_mn_in h2) f6 (f7 hne) (beq_iff_eq.mp h7) hdec hk hC hCm hmo hfr2 hlo2 hX9
        intro L S m H locs cells slots ls h
        refine G L S m H locs cells slots ls (Eq.trans ?_ h)
        show _ = q_r (S.drop (am_ma x1)) fun b R => bif (am_w R).ble 8 then (bif x4.beq 14 then gq_ (b = E.2.2.2.1) _ else gq_ (gk_ m b = (1, x4)) _) else none
        rw [hb]
        rfl
  case invokestatic n =>
    rcases x4 with _ | _ | _ | _ | _ | _ | x4
    · have hck : (decide (x1 < 411) && (am_MLo own).any (fun q => q.1 == (own, n, x1)) && (am_ma x1).beq x2 && am_ms x1) = true := hck
      simp only [Bool.and_eq_true, decide_eq_true_eq] at hck
      obtain ⟨⟨⟨h1, h2⟩, h3⟩, h4⟩ := hck
      have hn := Nat.eq_of_beq_eq_true h3
      subst hn
      obtain ⟨f1, f2, f3, f4, f5⟩ := am_fa h1
      by_cases hh : am_hh x1 = []
      · exact so_invS (t := x3) X h1 f1 hh (am_ml_in h2) (f2 h4) hdec hk hC hCm hmo hfr2 hlo2 hX9
      · exact so_invW (t := x3) X h1 f1 hh (am_ml_in h2) (f2 h4) hdec hk hC hCm hmo hfr2 hlo2 hX9
    · exact so_mmin X (am_wq_in hck) wMmin1 wMath wMmin2 hdec hk hmo
    · exact so_mmax X (am_wq_in hck) wMmax1 wMath wMmax2 hdec hk hmo
    · exact so_copy X (am_wq_in hck) wCp1 wCp2 wSys hdec hk
    · have hck : (own.beq 15 && n.beq 9) = true := hck
      rw [Bool.and_eq_true] at hck
      have e1 := Nat.eq_of_beq_eq_true hck.1
      have e2 := Nat.eq_of_beq_eq_true hck.2
      subst e1
      subst e2
      exact so_chk X rfl hdec hk hmo
    · have hck : (decide (x1 < 411) && (am_MNo own).any (fun q => q.1 == (own, n, x1)) && (am_ma x1).beq x2 && am_ms x1 && (am_hh x1).isEmpty) = true := hck
      simp only [Bool.and_eq_true, decide_eq_true_eq] at hck
      obtain ⟨⟨⟨⟨h1, h2⟩, h3⟩, h4⟩, h5⟩ := hck
      have hn := Nat.eq_of_beq_eq_true h3
      subst hn
      obtain ⟨f1, f2, f3, f4, f5⟩ := am_fa h1
      exact so_invSN X h1 f1 (List.isEmpty_iff.mp h5) (am_mn_in h2) (f2 h4) hdec hk hC hCm hmo hfr2 hlo2
    · intro L S m H locs cells slots ls h
      cases h
  case invokespecial n =>
    rcases x4 with _ | _ | x4
    · have hck : (decide (x1 < 411) && (am_MLo own).any (fun q => q.1 == (own, n, x1)) && (am_ma x1).beq x2 && !am_ms x1 && (am_mn x1).name == "<init>" && (am_hh x1).isEmpty && decide (am_mr x1 = none)) = true := hck
      simp only [Bool.and_eq_true, decide_eq_true_eq, Bool.not_eq_true'] at hck
      obtain ⟨⟨⟨⟨⟨⟨h1, h2⟩, h3⟩, h4⟩, h5⟩, h6⟩, h7⟩ := hck
      have hn := Nat.eq_of_beq_eq_true h3
      subst hn
      obtain ⟨f1, f2, f3, f4, f5⟩ := am_fa h1
      obtain ⟨f6, f7⟩ := f3 h4
      exact so_invI X h1 f1 (List.isEmpty_iff.mp h6) (am_ml_in h2) f6 (beq_iff_eq.mp h5) h7 hdec hk hC hCm hmo hfr2 hlo2
    · exact so_objInit X (am_wq_in hck) wOb1 wOb2 hdec hk
    · have hck : (decide (x1 < 411) && (am_MNo own).any (fun q => q.1 == (own, n, x1)) && (am_ma x1).beq x2 && !am_ms x1 && (am_mn x1).name == "<init>" && (am_hh x1).isEmpty && decide (am_mr x1 = none)) = true := hck
      simp only [Bool.and_eq_true, decide_eq_true_eq, Bool.not_eq_true'] at hck
      obtain ⟨⟨⟨⟨⟨⟨h1, h2⟩, h3⟩, h4⟩, h5⟩, h6⟩, h7⟩ := hck
      have hn := Nat.eq_of_beq_eq_true h3
      subst hn
      obtain ⟨f1, f2, f3, f4, f5⟩ := am_fa h1
      obtain ⟨f6, f7⟩ := f3 h4
      exact so_invIN X h1 f1 (List.isEmpty_iff.mp h6) (am_mn_in h2) f6 (beq_iff_eq.mp h5) h7 hdec hk hC hCm hmo hfr2 hlo2
  all_goals (intro L S m H locs cells slots ls h; cases h)
end S7
