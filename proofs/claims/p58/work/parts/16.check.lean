def am_wq (a : Nat × Nat × Nat) : Cond := match a.2.2 with
  | 0 => .methodLink (am_cn a.1) a.2.1 Lib.objectInit
  | 1 => .methodLink (am_cn a.1) a.2.1 Lib.Math.min.name
  | 2 => .methodLink (am_cn a.1) a.2.1 Lib.Math.max.name
  | 3 => .methodLink (am_cn a.1) a.2.1 arraycopyName
  | 5 => .methodLink (am_cn a.1) a.2.1 ⟨"[B", "clone", "()Ljava/lang/Object;"⟩
  | 6 => .methodLink (am_cn a.1) a.2.1 ⟨"java/lang/Object", "getClass", "()Ljava/lang/Class;"⟩
  | 10 => .fieldLink (am_cn a.1) a.2.1 "java/lang/String" "COMPACT_STRINGS" "Z"
  | 40 => .fieldLink (am_cn a.1) a.2.1 "java/util/ArrayList" "DEFAULTCAPACITY_EMPTY_ELEMENTDATA" "[Ljava/lang/Object;"
  | 41 => .fieldLink (am_cn a.1) a.2.1 "java/lang/Integer" "DigitOnes" "[B"
  | _ => .fieldLink (am_cn a.1) a.2.1 "java/lang/Integer" "DigitTens" "[B"
theorem am_wq_o (a : Nat × Nat × Nat) : am_ow (am_wq a) = true := by
  unfold am_wq
  split <;> rfl
def am_WQ_0 : List ((Nat × Nat × Nat) × (Nat × Nat)) := [((0, 3, 0), (1, 40)), ((0, 62, 3), (5, 204)), ((1, 3, 0), (0, 218)), ((1, 81, 1), (5, 237)), ((2, 3, 0), (1, 87)), ((2, 47, 3), (5, 216)), ((2, 80, 1), (7, 19)), ((3, 3, 0), (1, 34)), ((3, 78, 2), (3, 29)), ((4, 5, 0), (1, 18)), ((5, 3, 0), (0, 185)), ((6, 3, 0), (0, 203)), ((7, 3, 0), (0, 142)), ((8, 1, 0), (0, 148)), ((8, 13, 2), (0, 149)), ((8, 32, 1), (5, 209)), ((8, 35, 3), (5, 210)), ((9, 3, 0), (0, 50)), ((9, 59, 1), (1, 199)), ((10, 3, 0), (0, 42)), ((11, 1, 0), (4, 172)), ((12, 1, 0), (3, 47)), ((12, 97, 1), (5, 15)), ((14, 1, 0), (4, 76)), ((14, 38, 10), (0, 60)), ((14, 212, 3), (4, 45)), ((15, 39, 40), (3, 60)), ((15, 79, 2), (5, 1)), ((15, 112, 3), (6, 234)), ((16, 7, 0), (5, 52)), ((17, 124, 2), (6, 139)), ((18, 86, 6), (4, 211)), ((18, 150, 3), (3, 229)), ((18, 304, 1), (3, 228)), ((18, 310, 5), (3, 221)), ((21, 3, 0), (3, 155)), ((21, 18, 10), (3, 156)), ((22, 83, 41), (4, 135)), ((22, 87, 42), (4, 137)), ((23, 194, 2), (3, 212)), ((26, 1, 0), (3, 59))]
set_option maxRecDepth 100000 in
theorem am_WQ_0_ok : am_WQ_0.map (fun q => am_pw q.2) = am_WQ_0.map (fun q => some (am_wq q.1)) := by rfl
def am_WQ : List ((Nat × Nat × Nat) × (Nat × Nat)) := am_WQ_0
theorem am_WQ_ok : am_WQ.map (fun q => am_pw q.2) = am_WQ.map (fun q => some (am_wq q.1)) := by
  simp only [am_WQ, List.map_append, am_WQ_0_ok]
/-! what a program looks at, instruction by instruction; what stands there is sound -/
def am_lx (i : Instr) (x : am_X) : Nat := match i with
  | .tableswitch _ _ _ _ => x.2.2.1
  | i => am_ln i
def am_td (d : String) : Nat := if d = "I" then 0 else if d = "Z" then 1 else if d = "J" then 2 else if d = "B" then 5 else 3
def am_cf_ (own n ci k t : Nat) : Bool := (am_FLo own).any (fun q => q.1 == (own, n, ci, k)) && decide (ci < 17) && decide (k < (am_vc ci).2.2) && (am_td ((am_vc ci).2.1 k).2.2.1).beq t
def am_rf (d : String) : Bool := match parseFieldDescriptor d with
  | some (.object _) => true
  | some (.array _) => true
  | _ => false
def am_ref (t : Option FieldType) : Bool := match t with
  | some (.object _) => true
  | some (.array _) => true
  | _ => false
def am_cx (own nL : Nat) (ret : Option FieldType) (ini : Bool) (_ : ByteArray) (pc : Nat) (i : Instr) (x : am_X) : Bool := match i with
  | .aconst_null => true
  | .iconst n => decide (Int32.ofInt n = x.2.2.2.2.1)
  | .bipush n => decide ((Int8.ofInt n).toInt32 = x.2.2.2.2.1)
  | .sipush n => decide ((Int16.ofInt n).toInt32 = x.2.2.2.2.1)
  | .ldc n => match x.1 with
    | 0 => (am_KIo own).any (fun q => q.1 == (own, n, x.2.2.2.2.1))
    | 1 => (krf_[0]?).any fun q => q.1.beq own && q.2.1.beq n
    | 2 => (krf_[x.2.1]?).any fun q => q.1.beq own && q.2.1.beq n
    | 3 => (am_CKo own).any (fun q => q.1 == (own, n, 10))
    | _ => true
  | .ldc_w n => bif x.1.beq 9 then true else (am_KIo own).any (fun q => q.1 == (own, n, x.2.2.2.2.1))
  | .ldc2_w n => (am_KLo own).any (fun q => q.1 == (own, n, x.2.2.2.2.2.1))
  | .lconst n => decide (Int64.ofNat (n : Nat) = x.2.2.2.2.2.1)
  | .iload_n n => decide ((n : Nat) = x.1)
  | .lload_n n => decide ((n : Nat) = x.1)
  | .aload_n n => decide ((n : Nat) = x.1)
  | .iload n => decide (n = x.1)
  | .lload n => decide (n = x.1)
  | .aload n => decide (n = x.1)
  | .istore_n n => decide ((n : Nat) = x.1 ∧ x.1 < nL)
  | .lstore_n n => decide ((n : Nat) = x.1 ∧ x.1 + 1 < nL)
  | .astore_n n => decide ((n : Nat) = x.1 ∧ x.1 < nL)
  | .istore n => decide (n = x.1 ∧ x.1 < nL)
  | .lstore n => decide (n = x.1 ∧ x.1 + 1 < nL)
  | .astore n => decide (n = x.1 ∧ x.1 < nL)
  | .iinc n d => decide (n = x.1 ∧ x.1 < nL ∧ Int32.ofInt d = x.2.2.2.2.1)
  | .goto off => decide ((pc : Int) + off = (x.2.1 : Int))
  | .ifCond _ off => decide ((pc : Int) + off = (x.2.1 : Int))
  | .if_icmp _ off => decide ((pc : Int) + off = (x.2.1 : Int))
  | .if_acmp _ off => decide ((pc : Int) + off = (x.2.1 : Int))
  | .ifnull off => decide ((pc : Int) + off = (x.2.1 : Int))
  | .ifnonnull off => decide ((pc : Int) + off = (x.2.1 : Int))
  | .tableswitch d lo hi offs => decide ((pc : Int) + d = (x.2.1 : Int) ∧ offs.size = x.2.2.2.2.2.2.length ∧ hi = lo + x.2.2.2.2.2.2.length - 1 ∧ (-2147483648 ≤ lo ∧ hi ≤ 2147483647)) &&
      (List.range x.2.2.2.2.2.2.length).all (fun i => match x.2.2.2.2.2.2[i]?, offs[i]? with
        | some q, some off => decide (q.1 = Int32.ofInt (lo + i) ∧ (pc : Int) + off = (q.2 : Int))
        | _, _ => false)
  | .getfield n => match x.2.2.1 with
    | 0 => bif x.2.2.2.1.beq 1 then (am_FNo own).any (fun q => q.1 == (own, n, x.1, x.2.1)) && decide (x.1 < 17) && decide (x.2.1 < (am_vc x.1).2.2) && decide (((am_vc x.1).2.1 x.2.1).2.2.1 = "I") else am_cf_ own n x.1 x.2.1 0
    | 1 => am_cf_ own n x.1 x.2.1 1
    | 2 => am_cf_ own n x.1 x.2.1 2
    | 3 => am_cf_ own n x.1 x.2.1 3
    | 5 => am_cf_ own n x.1 x.2.1 5
    | 6 => am_cf_ own n x.1 x.2.1 3
    | 7 => am_cf_ own n 14 0 3
    | 8 => am_cf_ own n 14 1 5
    | _ => true
  | .putfield n => (!((am_vc x.1).2.1 x.2.1).2.2.2 || (ini && ((am_vc x.1).2.1 x.2.1).1 == am_cn own)) && (match x.2.2.1 with
    | 0 => am_cf_ own n x.1 x.2.1 0
    | 1 => am_cf_ own n x.1 x.2.1 1
    | 2 => am_cf_ own n x.1 x.2.1 2
    | 3 => am_cf_ own n x.1 x.2.1 3 && am_rf ((am_vc x.1).2.1 x.2.1).2.2.1
    | 5 => am_cf_ own n x.1 x.2.1 5
    | 6 => am_cf_ own n x.1 x.2.1 3 && am_rf ((am_vc x.1).2.1 x.2.1).2.2.1
    | _ => true)
  | .getstatic n => match x.1 with
    | 0 => am_WQ.any (fun q => q.1 == (own, n, 10))
    | 1 => am_WQ.any (fun q => q.1 == (own, n, x.2.1)) && (x.2.1.beq 40 || x.2.1.beq 41 || x.2.1.beq 42)
    | _ => true
  | .checkcast n => (x.1.beq 1 && (am_CKo own).any (fun q => q.1 == (own, n, 100 + x.2.1)) && decide (x.2.1 < 17)) || ((x.1.beq 2 || x.1.beq 3 || x.1.beq 10 || x.1.beq 12) && (am_CKo own).any (fun q => q.1 == (own, n, x.1)))
  | .invokevirtual n => (x.2.2.2.1.beq 13 && x.1.beq 225 && x.2.1.beq 0 && own.beq 14 && n.beq 549) || x.2.2.2.1.beq 29 || (x.2.2.2.1.beq 30 && am_WQ.any (fun q => q.1 == (own, n, 5))) || (x.2.2.2.1.beq 31 && am_WQ.any (fun q => q.1 == (own, n, 6))) ||
      (am_pr x.1 && (am_MLo own).any (fun q => q.1 == (own, n, x.1)) && (am_ma x.1).beq x.2.1 && !am_ms x.1 && !((am_mn x.1).name == "<init>") && !x.2.2.2.1.beq 29 && !x.2.2.2.1.beq 30 && !x.2.2.2.1.beq 31 &&
        (bif x.2.2.2.1.beq 14 then (am_mn x.1).cls == "java/lang/String" && am_WE.any (fun q => q.1 == x.1) else ((am_vc x.2.2.2.1).1 == (am_mn x.1).cls && am_WE.any (fun q => q.1 == x.1)) || (x.2.2.2.1.beq 13 && am_WU.any (fun q => q.1 == x.1) && am_WM.any (fun q => q.1 == x.1))))
  | .invokeinterface n _ => (am_pr x.1 && (am_MIo own).any (fun q => q.1 == (own, n, x.1)) && (am_ma x.1).beq x.2.1 && !am_ms x.1 && am_if.contains x.1 && am_IS.any (fun q => q.1 == x.1) && decide ((parseMethodDescriptor (am_im x.1).desc).map (fun d => d.parameters.length) = some (am_ma x.1)) && (am_vc x.2.2.2.1).1 == (am_mn x.1).cls)
  | .invokestatic n => match x.2.2.2.1 with
    | 0 => am_pr x.1 && (am_MLo own).any (fun q => q.1 == (own, n, x.1)) && (am_ma x.1).beq x.2.1 && am_ms x.1
    | 1 => am_WQ.any (fun q => q.1 == (own, n, 1))
    | 2 => am_WQ.any (fun q => q.1 == (own, n, 2))
    | 3 => am_WQ.any (fun q => q.1 == (own, n, 3))
    | 4 => own.beq 19 && n.beq 9
    | 5 => am_pr x.1 && (am_MNo own).any (fun q => q.1 == (own, n, x.1)) && (am_ma x.1).beq x.2.1 && am_ms x.1
    | _ => true
  | .invokespecial n => match x.2.2.2.1 with
    | 0 => am_pr x.1 && (am_MLo own).any (fun q => q.1 == (own, n, x.1)) && (am_ma x.1).beq x.2.1 && !am_ms x.1 && (am_mn x.1).name == "<init>" && decide (am_mr x.1 = none)
    | 1 => am_WQ.any (fun q => q.1 == (own, n, 0))
    | 2 => am_pr x.1 && (am_MNo own).any (fun q => q.1 == (own, n, x.1)) && (am_ma x.1).beq x.2.1 && !am_ms x.1 && (am_mn x.1).name == "<init>" && decide (am_mr x.1 = none)
    | 3 => am_pr x.1 && (am_MLo own).any (fun q => q.1 == (own, n, x.1)) && (am_ma x.1).beq x.2.1 && !am_ms x.1 && !((am_mn x.1).name == "<init>") && am_WM.any (fun q => q.1 == x.1) && (am_mn x.1).cls == RJ5 && own.beq 13
    | 4 => true
    | _ => false
  | .new n => match x.2.2.1 with
    | 0 => (am_CLo own).any (fun q => q.1 == (own, n, x.1)) && decide (x.1 < 17) && (am_vc x.1).2.2.beq x.2.1
    | _ => true
  | .newarray t => match t with
    | .int => x.1.beq 2
    | .byte => x.1.beq 3
    | .long => x.1.beq 4
    | _ => false
  | .anewarray n => (x.1.beq 6 || x.1.beq 10 || x.1.beq 11) && (am_CKo own).any (fun q => q.1 == (own, n, 200 + x.1))
  | .multianewarray n dm => decide (dm = 2) && (am_CKo own).any (fun q => q.1 == (own, n, 12))
  | .ireturn => match x.1 with
    | 0 => decide (ret = some .int)
    | 1 => decide (ret = some .boolean)
    | 2 => decide (ret = some .byte)
    | _ => decide (ret = some .char)
  | .lreturn => decide (ret = some .long)
  | .areturn => am_ref ret
  | .return_ => decide (ret = none)
  | .athrow => true
  | .iadd | .isub | .imul | .idiv | .irem | .iand | .ior | .ishl | .ishr | .ineg | .ladd | .lsub | .lmul | .land | .lor | .lneg | .lshl | .lshr | .lcmp | .i2l | .l2i | .i2b | .i2c | .ldiv | .lrem => true
  | .dup | .dup2 | .dup_x1 | .dup_x2 | .pop => true
  | .arraylength | .iaload | .baload | .laload | .aaload | .iastore | .bastore | .lastore | .aastore => true
  | _ => false
def am_mfc (y : Nat) : Bool := !am_pr y || (decide ((am_mn y).cls ≠ "java/lang/invoke/MethodHandle" ∧ (am_mn y).cls ≠ "java/lang/invoke/VarHandle" ∧ (parseMethodDescriptor (am_mn y).desc).map (fun d => d.parameters.length) = some (am_ma y)) && (am_ml y).ble 21 && (am_WI.any (fun q => q.1 == y) &&
  am_WC.any (fun q => q.1 == y) && (bif am_ms y then am_WS.any (fun q => q.1 == y) else am_WV.any (fun q => q.1 == y)) && (am_mn y).cls == am_cn (am_mo y) && plainName (am_mn y).cls))
theorem am_mfc_0 : ((List.range 60).drop 0).all am_mfc = true := by decide +kernel
theorem am_mfc_1 : ((List.range 120).drop 60).all am_mfc = true := by decide +kernel
theorem am_mfc_2 : ((List.range 180).drop 120).all am_mfc = true := by decide +kernel
theorem am_mfc_3 : ((List.range 240).drop 180).all am_mfc = true := by decide +kernel
theorem am_mfc_4 : ((List.range 300).drop 240).all am_mfc = true := by decide +kernel
theorem am_mfc_5 : ((List.range 360).drop 300).all am_mfc = true := by decide +kernel
theorem am_mfc_6 : ((List.range 411).drop 360).all am_mfc = true := by decide +kernel
theorem am_mfc_ok : ∀ y, y < 411 → am_mfc y = true := by
  intro y hy
  by_cases h0 : y < 60
  · exact List.all_eq_true.mp am_mfc_0 y (by rw [List.mem_drop_iff_getElem]; exact ⟨y - 0, by rw [List.length_range]; omega, by rw [List.getElem_range]; omega⟩)
  by_cases h1 : y < 120
  · exact List.all_eq_true.mp am_mfc_1 y (by rw [List.mem_drop_iff_getElem]; exact ⟨y - 60, by rw [List.length_range]; omega, by rw [List.getElem_range]; omega⟩)
  by_cases h2 : y < 180
  · exact List.all_eq_true.mp am_mfc_2 y (by rw [List.mem_drop_iff_getElem]; exact ⟨y - 120, by rw [List.length_range]; omega, by rw [List.getElem_range]; omega⟩)
  by_cases h3 : y < 240
  · exact List.all_eq_true.mp am_mfc_3 y (by rw [List.mem_drop_iff_getElem]; exact ⟨y - 180, by rw [List.length_range]; omega, by rw [List.getElem_range]; omega⟩)
  by_cases h4 : y < 300
  · exact List.all_eq_true.mp am_mfc_4 y (by rw [List.mem_drop_iff_getElem]; exact ⟨y - 240, by rw [List.length_range]; omega, by rw [List.getElem_range]; omega⟩)
  by_cases h5 : y < 360
  · exact List.all_eq_true.mp am_mfc_5 y (by rw [List.mem_drop_iff_getElem]; exact ⟨y - 300, by rw [List.length_range]; omega, by rw [List.getElem_range]; omega⟩)
  by_cases h6 : y < 411
  · exact List.all_eq_true.mp am_mfc_6 y (by rw [List.mem_drop_iff_getElem]; exact ⟨y - 360, by rw [List.length_range]; omega, by rw [List.getElem_range]; omega⟩)
  exact absurd hy (by omega)
theorem am_pr_lt {y : Nat} (hp : am_pr y = true) : y < 411 := by
  rw [am_pr, Bool.and_eq_true] at hp
  exact Nat.le_of_ble_eq_true hp.1
theorem am_fa {y : Nat} (hp : am_pr y = true) : am_mf y (am_ma y) ∧ (am_ms y = true → Cond.static (am_mn y) ∈ am_GW) ∧ (am_ms y = false → Cond.instanceMethod (am_mn y) ∈ am_GW) ∧ (am_mn y).cls = am_cn (am_mo y) ∧ plainName (am_mn y).cls = true := by
  have h := am_mfc_ok y (am_pr_lt hp)
  rw [am_mfc, hp] at h
  simp only [Bool.not_true, Bool.false_or, Bool.and_eq_true, decide_eq_true_eq] at h
  obtain ⟨⟨h1, h2⟩, ⟨⟨⟨⟨h3, h4⟩, h5⟩, h6⟩, h7⟩⟩ := h
  refine ⟨⟨am_tab (g := fun y : Nat => Cond.code (am_mn y) (am_mb y) (am_ml y) (am_mr y)) am_WC_ok (fun _ => rfl) h4, am_tab (g := fun y : Nat => Cond.initialized (am_mn y).cls) am_WI_ok (fun _ => rfl) h3, h1, Nat.le_of_ble_eq_true h2⟩, fun q => ?_, fun q => ?_, beq_iff_eq.mp h6, h7⟩
  · rw [q] at h5
    exact am_tab (g := fun y : Nat => Cond.static (am_mn y)) am_WS_ok (fun _ => rfl) h5
  · rw [q] at h5
    exact am_tab (g := fun y : Nat => Cond.instanceMethod (am_mn y)) am_WV_ok (fun _ => rfl) h5
