def am_wq (a : Nat × Nat × Nat) : Cond := match a.2.2 with
  | 0 => .methodLink (am_cn a.1) a.2.1 Lib.objectInit
  | 1 => .methodLink (am_cn a.1) a.2.1 Lib.Math.min.name
  | 2 => .methodLink (am_cn a.1) a.2.1 Lib.Math.max.name
  | 3 => .methodLink (am_cn a.1) a.2.1 arraycopyName
  | _ => .classLink (am_cn a.1) a.2.1 "RoyaltyOffice$Office"
theorem am_wq_o (a : Nat × Nat × Nat) : am_ow (am_wq a) = true := by
  unfold am_wq
  split <;> rfl
def am_WQ_0 : List ((Nat × Nat × Nat) × (Nat × Nat)) := [((0, 3, 0), (1, 42)), ((0, 62, 3), (2, 47)), ((1, 3, 0), (0, 218)), ((1, 81, 1), (4, 124)), ((2, 3, 0), (1, 90)), ((2, 47, 3), (2, 63)), ((2, 80, 1), (4, 235)), ((3, 3, 0), (1, 36)), ((3, 78, 2), (4, 21)), ((4, 5, 0), (1, 18)), ((5, 3, 0), (0, 178)), ((5, 49, 2), (4, 95)), ((5, 58, 1), (4, 93)), ((6, 3, 0), (0, 202)), ((7, 3, 0), (0, 132)), ((8, 1, 0), (0, 138)), ((8, 13, 2), (0, 139)), ((8, 32, 1), (2, 54)), ((8, 35, 3), (2, 57)), ((9, 3, 0), (0, 39)), ((9, 59, 1), (3, 25)), ((10, 3, 0), (0, 31)), ((10, 59, 4), (1, 30)), ((11, 1, 0), (6, 150))]
set_option maxRecDepth 100000 in
theorem am_WQ_0_ok : am_WQ_0.map (fun q => am_pw q.2) = am_WQ_0.map (fun q => some (am_wq q.1)) := by rfl
def am_WQ : List ((Nat × Nat × Nat) × (Nat × Nat)) := am_WQ_0
theorem am_WQ_ok : am_WQ.map (fun q => am_pw q.2) = am_WQ.map (fun q => some (am_wq q.1)) := by
  simp only [am_WQ, List.map_append, am_WQ_0_ok]
def am_TP : List (Nat × Nat) := [(0, 18), (0, 19), (0, 20), (0, 21), (0, 22), (0, 25), (0, 32), (0, 33), (2, 161), (2, 162), (2, 163), (2, 164), (2, 165), (2, 166), (2, 167), (2, 168), (2, 169), (2, 170), (2, 171), (2, 172), (2, 173), (2, 174), (2, 175), (2, 176), (2, 177), (2, 178), (2, 179), (2, 180), (2, 181), (2, 182), (2, 183), (2, 184), (2, 185), (2, 186), (2, 187), (2, 188), (2, 189), (2, 190), (2, 191), (2, 192), (2, 193), (2, 194), (2, 195), (2, 196), (2, 197), (2, 198), (2, 199), (2, 200), (2, 201), (2, 202), (2, 203), (2, 204), (2, 205), (2, 206), (2, 207), (2, 208), (2, 209), (2, 210), (2, 211), (2, 212), (2, 213), (2, 214), (2, 215), (2, 216), (2, 217), (2, 218), (2, 219), (2, 220), (2, 221), (2, 222), (2, 236), (2, 237), (2, 238), (2, 239), (3, 0), (3, 1), (3, 2), (3, 3), (3, 4), (3, 5), (3, 6), (3, 7), (3, 8), (3, 9), (3, 101), (5, 12), (5, 13), (5, 14), (5, 15), (5, 16), (5, 17), (5, 18), (5, 19), (5, 20), (5, 21), (5, 22), (5, 23), (5, 24), (5, 25), (9, 162), (10, 7)]
set_option maxRecDepth 100000 in
theorem am_tw_9_108 : (∀ w ∈ vx_at0 (am_cn 9) 108 (am_xn 1) am_ns, w ∈ am_GW) ∧ (∀ w ∈ vx_at0 (am_cn 9) 108 (am_xn 1) am_ns, vx_ot w = true) ∧ Bundle.fit (am_xn 1) = true ∧ Cond.initialized (am_xn 1) ∈ am_GW := by
  refine ⟨fun w hw => ?_, List.all_eq_true.mp (by decide +kernel : (vx_at0 (am_cn 9) 108 (am_xn 1) am_ns).all vx_ot = true), by decide +kernel, am_pw_in (p := (0, 22)) rfl rfl⟩
  have h1 := List.all_eq_true.mp (by decide +kernel : (vx_at0 (am_cn 9) 108 (am_xn 1) am_ns).all (fun w => am_ow w && am_TP.any (fun p => decide (am_pw p = some w))) = true) w hw
  rw [Bool.and_eq_true] at h1
  obtain ⟨p, -, hp⟩ := List.any_eq_true.mp h1.2
  exact am_pw_in (decide_eq_true_eq.mp hp) h1.1
set_option maxRecDepth 100000 in
theorem am_tw_10_82 : (∀ w ∈ vx_at0 (am_cn 10) 82 (am_xn 0) am_ns, w ∈ am_GW) ∧ (∀ w ∈ vx_at0 (am_cn 10) 82 (am_xn 0) am_ns, vx_ot w = true) ∧ Bundle.fit (am_xn 0) = true ∧ Cond.initialized (am_xn 0) ∈ am_GW := by
  refine ⟨fun w hw => ?_, List.all_eq_true.mp (by decide +kernel : (vx_at0 (am_cn 10) 82 (am_xn 0) am_ns).all vx_ot = true), by decide +kernel, am_pw_in (p := (0, 21)) rfl rfl⟩
  have h1 := List.all_eq_true.mp (by decide +kernel : (vx_at0 (am_cn 10) 82 (am_xn 0) am_ns).all (fun w => am_ow w && am_TP.any (fun p => decide (am_pw p = some w))) = true) w hw
  rw [Bool.and_eq_true] at h1
  obtain ⟨p, -, hp⟩ := List.any_eq_true.mp h1.2
  exact am_pw_in (decide_eq_true_eq.mp hp) h1.1
set_option maxRecDepth 100000 in
theorem am_tw_10_89 : (∀ w ∈ vx_at0 (am_cn 10) 89 (am_xn 1) am_ns, w ∈ am_GW) ∧ (∀ w ∈ vx_at0 (am_cn 10) 89 (am_xn 1) am_ns, vx_ot w = true) ∧ Bundle.fit (am_xn 1) = true ∧ Cond.initialized (am_xn 1) ∈ am_GW := by
  refine ⟨fun w hw => ?_, List.all_eq_true.mp (by decide +kernel : (vx_at0 (am_cn 10) 89 (am_xn 1) am_ns).all vx_ot = true), by decide +kernel, am_pw_in (p := (0, 22)) rfl rfl⟩
  have h1 := List.all_eq_true.mp (by decide +kernel : (vx_at0 (am_cn 10) 89 (am_xn 1) am_ns).all (fun w => am_ow w && am_TP.any (fun p => decide (am_pw p = some w))) = true) w hw
  rw [Bool.and_eq_true] at h1
  obtain ⟨p, -, hp⟩ := List.any_eq_true.mp h1.2
  exact am_pw_in (decide_eq_true_eq.mp hp) h1.1
set_option maxRecDepth 100000 in
theorem am_tw_10_372 : (∀ w ∈ vx_at0 (am_cn 10) 372 (am_xn 2) am_ns, w ∈ am_GW) ∧ (∀ w ∈ vx_at0 (am_cn 10) 372 (am_xn 2) am_ns, vx_ot w = true) ∧ Bundle.fit (am_xn 2) = true ∧ Cond.initialized (am_xn 2) ∈ am_GW := by
  refine ⟨fun w hw => ?_, List.all_eq_true.mp (by decide +kernel : (vx_at0 (am_cn 10) 372 (am_xn 2) am_ns).all vx_ot = true), by decide +kernel, am_pw_in (p := (0, 25)) rfl rfl⟩
  have h1 := List.all_eq_true.mp (by decide +kernel : (vx_at0 (am_cn 10) 372 (am_xn 2) am_ns).all (fun w => am_ow w && am_TP.any (fun p => decide (am_pw p = some w))) = true) w hw
  rw [Bool.and_eq_true] at h1
  obtain ⟨p, -, hp⟩ := List.any_eq_true.mp h1.2
  exact am_pw_in (decide_eq_true_eq.mp hp) h1.1
def am_tw (own ic j : Nat) : Bool := ((own.beq 9 && ic.beq 108 && j.beq 1) || (own.beq 10 && ic.beq 82 && j.beq 0) || (own.beq 10 && ic.beq 89 && j.beq 1) || (own.beq 10 && ic.beq 372 && j.beq 2))
theorem am_tws : ∀ own ic j, am_tw own ic j = true → (∀ w ∈ vx_at0 (am_cn own) ic (am_xn j) am_ns, w ∈ am_GW) ∧ (∀ w ∈ vx_at0 (am_cn own) ic (am_xn j) am_ns, vx_ot w = true) ∧ Bundle.fit (am_xn j) = true ∧ Cond.initialized (am_xn j) ∈ am_GW := by
  intro own ic j h
  simp only [am_tw, Bool.or_eq_true, Bool.and_eq_true] at h
  rcases h with ((⟨⟨h1, h2⟩, h3⟩ | ⟨⟨h1, h2⟩, h3⟩) | ⟨⟨h1, h2⟩, h3⟩) | ⟨⟨h1, h2⟩, h3⟩
  · cases Nat.eq_of_beq_eq_true h1
    cases Nat.eq_of_beq_eq_true h2
    cases Nat.eq_of_beq_eq_true h3
    exact am_tw_9_108
  · cases Nat.eq_of_beq_eq_true h1
    cases Nat.eq_of_beq_eq_true h2
    cases Nat.eq_of_beq_eq_true h3
    exact am_tw_10_82
  · cases Nat.eq_of_beq_eq_true h1
    cases Nat.eq_of_beq_eq_true h2
    cases Nat.eq_of_beq_eq_true h3
    exact am_tw_10_89
  · cases Nat.eq_of_beq_eq_true h1
    cases Nat.eq_of_beq_eq_true h2
    cases Nat.eq_of_beq_eq_true h3
    exact am_tw_10_372
/-! what a program looks at, instruction by instruction; what stands there is sound -/
def am_le (i : Instr) (x : am_X) : Nat := match i with
  | .tableswitch _ _ _ _ => x.2.2.1
  | .lookupswitch _ _ => x.2.2.1
  | i => am_ln i
def am_td (d : String) : Nat := if d = "I" then 0 else if d = "Z" then 1 else if d = "J" then 2 else 3
def am_cf_ (own n ci k t : Nat) : Bool := (am_FLo own).any (fun q => q.1 == (own, n, ci, k)) && decide (ci < 12) && decide (k < (am_vc ci).2.2) && (am_td ((am_vc ci).2.1 k).2.2.1).beq t
def am_rf (d : String) : Bool := match parseFieldDescriptor d with
  | some (.object _) => true
  | some (.array _) => true
  | _ => false
def am_cx (own nL : Nat) (ret : Option FieldType) (ini thr : Bool) (cc : ByteArray) (pc : Nat) (i : Instr) (x : am_X) : Bool := match i with
  | .iconst n => decide (Int32.ofInt n = x.2.2.2.2.1)
  | .bipush n => decide ((Int8.ofInt n).toInt32 = x.2.2.2.2.1)
  | .sipush n => decide ((Int16.ofInt n).toInt32 = x.2.2.2.2.1)
  | .ldc n => bif x.1.beq 1 then own.beq 9 && n.beq 29 else (am_KIo own).any (fun q => q.1 == (own, n, x.2.2.2.2.1))
  | .ldc_w n => (am_KIo own).any (fun q => q.1 == (own, n, x.2.2.2.2.1))
  | .ldc2_w n => (am_KLo own).any (fun q => q.1 == (own, n, x.2.2.2.2.2.1))
  | .lconst n => decide (Int64.ofNat (n : Nat) = x.2.2.2.2.2.1)
  | .fconst n => decide (n = 0)
  | .iload_n n => decide ((n : Nat) = x.1)
  | .lload_n n => decide ((n : Nat) = x.1)
  | .aload_n n => decide ((n : Nat) = x.1)
  | .iload n => decide (n = x.1)
  | .lload n => decide (n = x.1)
  | .aload n => decide (n = x.1)
  | .fload n => decide (n = x.1)
  | .istore_n n => decide ((n : Nat) = x.1 ∧ x.1 < nL)
  | .lstore_n n => decide ((n : Nat) = x.1 ∧ x.1 + 1 < nL)
  | .astore_n n => decide ((n : Nat) = x.1 ∧ x.1 < nL)
  | .istore n => decide (n = x.1 ∧ x.1 < nL)
  | .lstore n => decide (n = x.1 ∧ x.1 + 1 < nL)
  | .astore n => decide (n = x.1 ∧ x.1 < nL)
  | .fstore n => decide (n = x.1 ∧ x.1 < nL)
  | .iinc n d => decide (n = x.1 ∧ x.1 < nL ∧ Int32.ofInt d = x.2.2.2.2.1)
  | .goto off => decide ((pc : Int) + off = (x.2.1 : Int))
  | .ifCond _ off => decide ((pc : Int) + off = (x.2.1 : Int))
  | .if_icmp _ off => decide ((pc : Int) + off = (x.2.1 : Int))
  | .ifnull off => decide ((pc : Int) + off = (x.2.1 : Int))
  | .ifnonnull off => decide ((pc : Int) + off = (x.2.1 : Int))
  | .tableswitch d lo hi offs => decide ((pc : Int) + d = (x.2.1 : Int) ∧ offs.size = x.2.2.2.2.2.2.length ∧ hi = lo + x.2.2.2.2.2.2.length - 1 ∧ (-2147483648 ≤ lo ∧ hi ≤ 2147483647)) &&
      (List.range x.2.2.2.2.2.2.length).all (fun i => match x.2.2.2.2.2.2[i]?, offs[i]? with
        | some q, some off => decide (q.1 = Int32.ofInt (lo + i) ∧ (pc : Int) + off = (q.2 : Int))
        | _, _ => false)
  | .lookupswitch d ps => decide ((pc : Int) + d = (x.2.1 : Int) ∧ ps.toList.length = x.2.2.2.2.2.2.length) && (ps.toList.zip (ps.toList.drop 1)).all (fun (a, next) => a.1 < next.1) &&
      (List.range ps.toList.length).all (fun i => match x.2.2.2.2.2.2[i]?, ps.toList[i]? with
        | some q, some a => decide (q.1.toInt = a.1 ∧ (pc : Int) + a.2 = (q.2 : Int))
        | _, _ => false)
  | .getfield n => match x.2.2.1 with
    | 0 => am_cf_ own n x.1 x.2.1 0
    | 1 => am_cf_ own n x.1 x.2.1 1
    | 2 => am_cf_ own n x.1 x.2.1 2
    | 3 => am_cf_ own n x.1 x.2.1 3
    | 4 => own.beq 14 && n.beq 9
    | 5 => own.beq 14 && n.beq 15
    | _ => false
  | .putfield n => (!((am_vc x.1).2.1 x.2.1).2.2.2 || (ini && (am_vc x.1).1 == am_cn own)) && (match x.2.2.1 with
    | 0 => am_cf_ own n x.1 x.2.1 0
    | 1 => am_cf_ own n x.1 x.2.1 1
    | 2 => am_cf_ own n x.1 x.2.1 2
    | 3 => am_cf_ own n x.1 x.2.1 3 && am_rf ((am_vc x.1).2.1 x.2.1).2.2.1
    | _ => false)
  | .getstatic n => own.beq 14 && n.beq 38
  | .invokevirtual n => decide (x.1 < 411) && ((am_MLo own).any (fun q => q.1 == (own, n, x.1)) || !x.2.2.2.1.beq 14 && (am_MNo own).any (fun q => q.1 == (own, n, x.1))) && (am_ma x.1).beq x.2.1 && !am_ms x.1 && !((am_mn x.1).name == "<init>") && (am_hh x.1).isEmpty && (bif x.2.2.2.1.beq 14 then (am_mn x.1).cls == "java/lang/String" else (am_vc x.2.2.2.1).1 == (am_mn x.1).cls)
  | .invokestatic n => match x.2.2.2.1 with
    | 0 => decide (x.1 < 411) && (am_MLo own).any (fun q => q.1 == (own, n, x.1)) && (am_ma x.1).beq x.2.1 && am_ms x.1
    | 1 => am_WQ.any (fun q => q.1 == (own, n, 1))
    | 2 => am_WQ.any (fun q => q.1 == (own, n, 2))
    | 3 => am_WQ.any (fun q => q.1 == (own, n, 3))
    | 4 => own.beq 15 && n.beq 9
    | 5 => decide (x.1 < 411) && (am_MNo own).any (fun q => q.1 == (own, n, x.1)) && (am_ma x.1).beq x.2.1 && am_ms x.1 && (am_hh x.1).isEmpty
    | _ => true
  | .invokespecial n => match x.2.2.2.1 with
    | 1 => am_WQ.any (fun q => q.1 == (own, n, 0))
    | 0 => decide (x.1 < 411) && (am_MLo own).any (fun q => q.1 == (own, n, x.1)) && (am_ma x.1).beq x.2.1 && !am_ms x.1 && (am_mn x.1).name == "<init>" && (am_hh x.1).isEmpty && decide (am_mr x.1 = none)
    | _ => decide (x.1 < 411) && (am_MNo own).any (fun q => q.1 == (own, n, x.1)) && (am_ma x.1).beq x.2.1 && !am_ms x.1 && (am_mn x.1).name == "<init>" && (am_hh x.1).isEmpty && decide (am_mr x.1 = none)
  | .new n => match x.2.2.1 with
    | 0 => (am_CLo own).any (fun q => q.1 == (own, n, x.1)) && decide (x.1 < 12) && (am_vc x.1).2.2.beq x.2.1
    | _ => thr && (am_XLo own).any (fun q => q.1 == (own, n, x.1)) && decide (decode cc (pc + 3) = .ok (.dup, 1) ∧ decode cc (pc + 4) = .ok (.invokespecial x.2.1, 3) ∧ decode cc (pc + 7) = .ok (.athrow, 1)) && am_tw own x.2.1 x.1
  | .newarray t => match t with
    | .int => x.1.beq 2
    | .byte => x.1.beq 3
    | .long => x.1.beq 4
    | .double => x.1.beq 5
    | _ => false
  | .anewarray n => am_WQ.any (fun q => q.1 == (own, n, 4))
  | .ireturn => match x.1 with
    | 0 => decide (ret = some .int)
    | 1 => decide (ret = some .boolean)
    | 2 => decide (ret = some .byte)
    | _ => decide (ret = some .char)
  | .lreturn => decide (ret = some .long)
  | .freturn => decide (ret = some .float)
  | .return_ => decide (ret = none)
  | _ => true
def am_mfc (y : Nat) : Bool := decide ((am_mn y).cls ≠ "java/lang/invoke/MethodHandle" ∧ (am_mn y).cls ≠ "java/lang/invoke/VarHandle" ∧ (parseMethodDescriptor (am_mn y).desc).map (fun d => d.parameters.length) = some (am_ma y)) && (am_ml y).ble 21 && am_WI.any (fun q => q.1 == y) &&
  (bif (am_hh y).isEmpty then am_WC.any (fun q => q.1 == y) else am_WH.any (fun q => q.1 == y)) && (bif am_ms y then am_WS.any (fun q => q.1 == y) else am_WV.any (fun q => q.1 == y) && ((am_mn y).name == "<init>" || am_WE.any (fun q => q.1 == y))) && (am_mn y).cls == am_cn (am_mo y) && plainName (am_mn y).cls
theorem am_mfc_0 : ((List.range 60).drop 0).all am_mfc = true := by decide +kernel
theorem am_mfc_1 : ((List.range 120).drop 60).all am_mfc = true := by decide +kernel
theorem am_mfc_2 : ((List.range 180).drop 120).all am_mfc = true := by decide +kernel
theorem am_mfc_3 : ((List.range 240).drop 180).all am_mfc = true := by decide +kernel
theorem am_mfc_4 : ((List.range 300).drop 240).all am_mfc = true := by decide +kernel
theorem am_mfc_5 : ((List.range 360).drop 300).all am_mfc = true := by decide +kernel
theorem am_mfc_6 : ((List.range 411).drop 360).all am_mfc = true := by decide +kernel
theorem am_mfc_ok : ∀ y, y < 411 → am_mfc y = true := by
  intro y hy
  by_cases h0 : y < 60
  · exact List.all_eq_true.mp am_mfc_0 y (by rw [List.mem_drop_iff_getElem]; exact ⟨y - 0, by rw [List.length_range]; omega, by rw [List.getElem_range]; omega⟩)
  by_cases h1 : y < 120
  · exact List.all_eq_true.mp am_mfc_1 y (by rw [List.mem_drop_iff_getElem]; exact ⟨y - 60, by rw [List.length_range]; omega, by rw [List.getElem_range]; omega⟩)
  by_cases h2 : y < 180
  · exact List.all_eq_true.mp am_mfc_2 y (by rw [List.mem_drop_iff_getElem]; exact ⟨y - 120, by rw [List.length_range]; omega, by rw [List.getElem_range]; omega⟩)
  by_cases h3 : y < 240
  · exact List.all_eq_true.mp am_mfc_3 y (by rw [List.mem_drop_iff_getElem]; exact ⟨y - 180, by rw [List.length_range]; omega, by rw [List.getElem_range]; omega⟩)
  by_cases h4 : y < 300
  · exact List.all_eq_true.mp am_mfc_4 y (by rw [List.mem_drop_iff_getElem]; exact ⟨y - 240, by rw [List.length_range]; omega, by rw [List.getElem_range]; omega⟩)
  by_cases h5 : y < 360
  · exact List.all_eq_true.mp am_mfc_5 y (by rw [List.mem_drop_iff_getElem]; exact ⟨y - 300, by rw [List.length_range]; omega, by rw [List.getElem_range]; omega⟩)
  by_cases h6 : y < 411
  · exact List.all_eq_true.mp am_mfc_6 y (by rw [List.mem_drop_iff_getElem]; exact ⟨y - 360, by rw [List.length_range]; omega, by rw [List.getElem_range]; omega⟩)
  exact absurd hy (by omega)
theorem am_fa {y : Nat} (hy : y < 411) : am_mf y (am_ma y) ∧ (am_ms y = true → Cond.static (am_mn y) ∈ am_GW) ∧ (am_ms y = false → Cond.instanceMethod (am_mn y) ∈ am_GW ∧ (¬ (am_mn y).name = "<init>" → Cond.selects (am_mn y).cls (am_mn y) (am_mn y) ∈ am_GW)) ∧ (am_mn y).cls = am_cn (am_mo y) ∧ plainName (am_mn y).cls = true := by
  have h := am_mfc_ok y hy
  simp only [am_mfc, Bool.and_eq_true, decide_eq_true_eq] at h
  obtain ⟨⟨⟨⟨⟨⟨h1, h2⟩, h3⟩, h4⟩, h5⟩, h6⟩, h7⟩ := h
  refine ⟨⟨?_, am_tab (g := fun y : Nat => Cond.initialized (am_mn y).cls) am_WI_ok (fun _ => rfl) h3, h1, Nat.le_of_ble_eq_true h2⟩, fun q => ?_, fun q => ?_, beq_iff_eq.mp h6, h7⟩
  · cases hh : am_hh y with
    | nil =>
      rw [hh] at h4
      rw [am_cwc hh]
      exact am_tab (g := fun y : Nat => Cond.code (am_mn y) (am_mb y) (am_ml y) (am_mr y)) am_WC_ok (fun _ => rfl) h4
    | cons a b =>
      rw [hh] at h4
      rw [am_cww (by rw [hh]; exact fun z => nomatch z)]
      exact am_tab (g := fun y : Nat => Cond.codeWith (am_mn y) (am_mb y) (am_ml y) (am_mr y) (am_hh y)) am_WH_ok (fun _ => rfl) h4
  · rw [q] at h5
    exact am_tab (g := fun y : Nat => Cond.static (am_mn y)) am_WS_ok (fun _ => rfl) h5
  · rw [q] at h5
    have h5 : (am_WV.any (fun q => q.1 == y) && ((am_mn y).name == "<init>" || am_WE.any (fun q => q.1 == y))) = true := h5
    rw [Bool.and_eq_true, Bool.or_eq_true] at h5
    refine ⟨am_tab (g := fun y : Nat => Cond.instanceMethod (am_mn y)) am_WV_ok (fun _ => rfl) h5.1, fun z => ?_⟩
    exact am_tab (g := fun y : Nat => Cond.selects (am_mn y).cls (am_mn y) (am_mn y)) am_WE_ok (fun _ => rfl) (h5.2.elim (fun a => absurd (beq_iff_eq.mp a) z) id)
