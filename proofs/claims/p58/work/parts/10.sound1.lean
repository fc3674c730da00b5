section S1
variable {p : Program} {l : Launch} {e : Env} {R : Room} {s : State} {mt : MethodId} {args : Array Value} {below : List Frame} {meth : Method} {c : Code} {nL own : Nat} {cc : ByteArray} {E : am_E} {Q : State → Prop} {m0 : am_M} {r : am_R} {pc : Nat} {k : am_L → List Value → am_M → Option am_R} {x : am_X}
theorem so_iconst (X : am_Cx p l R s mt args meth c cc nL own E m0 r) {n : Int} {v : Int32} (hv : Int32.ofInt n = v) (hd : decode cc pc = .ok (.iconst n, 1)) (hk : am_G p l e R s mt args below meth c nL E Q m0 r (k) (pc + 1)) : am_G p l e R s mt args below meth c nL E Q m0 r (fun L S m => k L (.int v :: S) m) (pc) := by
  intro L S m H locs cells slots ls h hL hP
  obtain ⟨hx, hb, hml, hown, hts, hlk, hst, hK, hN, hrm, hfr, hlo⟩ := X
  have h9 := h
  exact lv_iconst hx hb hd hv (hk _ _ _ _ _ _ _ _ h9 hL hP)
theorem so_bipush (X : am_Cx p l R s mt args meth c cc nL own E m0 r) {n : Int} {v : Int32} (hv : (Int8.ofInt n).toInt32 = v) (hd : decode cc pc = .ok (.bipush n, 2)) (hk : am_G p l e R s mt args below meth c nL E Q m0 r (k) (pc + 2)) : am_G p l e R s mt args below meth c nL E Q m0 r (fun L S m => k L (.int v :: S) m) (pc) := by
  intro L S m H locs cells slots ls h hL hP
  obtain ⟨hx, hb, hml, hown, hts, hlk, hst, hK, hN, hrm, hfr, hlo⟩ := X
  have h9 := h
  exact lv_bipush hx hb hd hv (hk _ _ _ _ _ _ _ _ h9 hL hP)
theorem so_sipush (X : am_Cx p l R s mt args meth c cc nL own E m0 r) {n : Int} {v : Int32} (hv : (Int16.ofInt n).toInt32 = v) (hd : decode cc pc = .ok (.sipush n, 3)) (hk : am_G p l e R s mt args below meth c nL E Q m0 r (k) (pc + 3)) : am_G p l e R s mt args below meth c nL E Q m0 r (fun L S m => k L (.int v :: S) m) (pc) := by
  intro L S m H locs cells slots ls h hL hP
  obtain ⟨hx, hb, hml, hown, hts, hlk, hst, hK, hN, hrm, hfr, hlo⟩ := X
  have h9 := h
  exact lv_sipush hx hb hd hv (hk _ _ _ _ _ _ _ _ h9 hL hP)
theorem so_lconst (X : am_Cx p l R s mt args meth c cc nL own E m0 r) {n : Fin 2} {v : Int64} (hv : Int64.ofNat (n : Nat) = v) (hd : decode cc pc = .ok (.lconst n, 1)) (hk : am_G p l e R s mt args below meth c nL E Q m0 r (k) (pc + 1)) : am_G p l e R s mt args below meth c nL E Q m0 r (fun L S m => k L (.long v :: S) m) (pc) := by
  intro L S m H locs cells slots ls h hL hP
  obtain ⟨hx, hb, hml, hown, hts, hlk, hst, hK, hN, hrm, hfr, hlo⟩ := X
  have h9 := h
  exact lv_lconst hx hb hd hv (hk _ _ _ _ _ _ _ _ h9 hL hP)
theorem so_ldc (X : am_Cx p l R s mt args meth c cc nL own E m0 r) {n : Nat} {v : Int32} (hw : Cond.constant (am_cn own) n v ∈ am_GW) (hd : decode cc pc = .ok (.ldc n, 2)) (hk : am_G p l e R s mt args below meth c nL E Q m0 r (k) (pc + 2)) : am_G p l e R s mt args below meth c nL E Q m0 r (fun L S m => k L (.int v :: S) m) (pc) := by
  intro L S m H locs cells slots ls h hL hP
  obtain ⟨hx, hb, hml, hown, hts, hlk, hst, hK, hN, hrm, hfr, hlo⟩ := X
  have h9 := h
  exact lv_ldc hx hb hown (hts _ hw) hd (hk _ _ _ _ _ _ _ _ h9 hL hP)
theorem so_ldc_w (X : am_Cx p l R s mt args meth c cc nL own E m0 r) {n : Nat} {v : Int32} (hw : Cond.constant (am_cn own) n v ∈ am_GW) (hd : decode cc pc = .ok (.ldc_w n, 3)) (hk : am_G p l e R s mt args below meth c nL E Q m0 r (k) (pc + 3)) : am_G p l e R s mt args below meth c nL E Q m0 r (fun L S m => k L (.int v :: S) m) (pc) := by
  intro L S m H locs cells slots ls h hL hP
  obtain ⟨hx, hb, hml, hown, hts, hlk, hst, hK, hN, hrm, hfr, hlo⟩ := X
  have h9 := h
  exact lv_ldcw hx hb hown (hts _ hw) hd (hk _ _ _ _ _ _ _ _ h9 hL hP)
theorem so_ldc2 (X : am_Cx p l R s mt args meth c cc nL own E m0 r) {n : Nat} {v : Int64} (hw : Cond.constantLong (am_cn own) n v ∈ am_GW) (hd : decode cc pc = .ok (.ldc2_w n, 3)) (hk : am_G p l e R s mt args below meth c nL E Q m0 r (k) (pc + 3)) : am_G p l e R s mt args below meth c nL E Q m0 r (fun L S m => k L (.long v :: S) m) (pc) := by
  intro L S m H locs cells slots ls h hL hP
  obtain ⟨hx, hb, hml, hown, hts, hlk, hst, hK, hN, hrm, hfr, hlo⟩ := X
  have h9 := h
  exact lv_ldc2 hx hb hown (hts _ hw) hd (hk _ _ _ _ _ _ _ _ h9 hL hP)
theorem so_iload_n (X : am_Cx p l R s mt args meth c cc nL own E m0 r) {n : Fin 4} {i : Nat} (hi : (n : Nat) = i) (hd : decode cc pc = .ok (.iload_n n, 1)) (hk : am_G p l e R s mt args below meth c nL E Q m0 r (k) (pc + 1)) : am_G p l e R s mt args below meth c nL E Q m0 r (fun L S m => q_gi (am_lg L i) fun v => k L (.int v :: S) m) (pc) := by
  intro L S m H locs cells slots ls h hL hP
  obtain ⟨hx, hb, hml, hown, hts, hlk, hst, hK, hN, hrm, hfr, hlo⟩ := X
  obtain ⟨v, hv, h9⟩ := q_gi_I h
  exact lv_iload_n hx hb hd hi (hL.2.2 _ _ hv) (hk _ _ _ _ _ _ _ _ h9 hL hP)
theorem so_iload (X : am_Cx p l R s mt args meth c cc nL own E m0 r) {i : Nat} (hd : decode cc pc = .ok (.iload i, 2)) (hk : am_G p l e R s mt args below meth c nL E Q m0 r (k) (pc + 2)) : am_G p l e R s mt args below meth c nL E Q m0 r (fun L S m => q_gi (am_lg L i) fun v => k L (.int v :: S) m) (pc) := by
  intro L S m H locs cells slots ls h hL hP
  obtain ⟨hx, hb, hml, hown, hts, hlk, hst, hK, hN, hrm, hfr, hlo⟩ := X
  obtain ⟨v, hv, h9⟩ := q_gi_I h
  exact lv_iload hx hb hd (hL.2.2 _ _ hv) (hk _ _ _ _ _ _ _ _ h9 hL hP)
theorem so_istore_n (X : am_Cx p l R s mt args meth c cc nL own E m0 r) {n : Fin 4} {i : Nat} (hi : (n : Nat) = i) (hn : i < nL) (hd : decode cc pc = .ok (.istore_n n, 1)) (hk : am_G p l e R s mt args below meth c nL E Q m0 r (k) (pc + 1)) : am_G p l e R s mt args below meth c nL E Q m0 r (fun L S m => q_i S fun v0 S => k (am_ls L i (.int v0)) S m) (pc) := by
  intro L S m H locs cells slots ls h hL hP
  obtain ⟨hx, hb, hml, hown, hts, hlk, hst, hK, hN, hrm, hfr, hlo⟩ := X
  obtain ⟨v0, S, rfl, h9⟩ := q_i_I h
  exact lv_istore_n hx hb hd hi hL.to hn rfl (fun ls' h' => hk _ _ _ _ _ _ _ _ h9 (am_LH.s1 hL h') hP)
theorem so_istore (X : am_Cx p l R s mt args meth c cc nL own E m0 r) {i : Nat} (hn : i < nL) (hd : decode cc pc = .ok (.istore i, 2)) (hk : am_G p l e R s mt args below meth c nL E Q m0 r (k) (pc + 2)) : am_G p l e R s mt args below meth c nL E Q m0 r (fun L S m => q_i S fun v0 S => k (am_ls L i (.int v0)) S m) (pc) := by
  intro L S m H locs cells slots ls h hL hP
  obtain ⟨hx, hb, hml, hown, hts, hlk, hst, hK, hN, hrm, hfr, hlo⟩ := X
  obtain ⟨v0, S, rfl, h9⟩ := q_i_I h
  exact lv_istore hx hb hd hL.to hn rfl (fun ls' h' => hk _ _ _ _ _ _ _ _ h9 (am_LH.s1 hL h') hP)
theorem so_lload_n (X : am_Cx p l R s mt args meth c cc nL own E m0 r) {n : Fin 4} {i : Nat} (hi : (n : Nat) = i) (hd : decode cc pc = .ok (.lload_n n, 1)) (hk : am_G p l e R s mt args below meth c nL E Q m0 r (k) (pc + 1)) : am_G p l e R s mt args below meth c nL E Q m0 r (fun L S m => q_gl (am_lg L i) fun v => k L (.long v :: S) m) (pc) := by
  intro L S m H locs cells slots ls h hL hP
  obtain ⟨hx, hb, hml, hown, hts, hlk, hst, hK, hN, hrm, hfr, hlo⟩ := X
  obtain ⟨v, hv, h9⟩ := q_gl_I h
  exact lv_lload_n hx hb hd hi (hL.2.2 _ _ hv) (hk _ _ _ _ _ _ _ _ h9 hL hP)
theorem so_lload (X : am_Cx p l R s mt args meth c cc nL own E m0 r) {i : Nat} (hd : decode cc pc = .ok (.lload i, 2)) (hk : am_G p l e R s mt args below meth c nL E Q m0 r (k) (pc + 2)) : am_G p l e R s mt args below meth c nL E Q m0 r (fun L S m => q_gl (am_lg L i) fun v => k L (.long v :: S) m) (pc) := by
  intro L S m H locs cells slots ls h hL hP
  obtain ⟨hx, hb, hml, hown, hts, hlk, hst, hK, hN, hrm, hfr, hlo⟩ := X
  obtain ⟨v, hv, h9⟩ := q_gl_I h
  exact lv_lload hx hb hd (hL.2.2 _ _ hv) (hk _ _ _ _ _ _ _ _ h9 hL hP)
theorem so_lstore_n (X : am_Cx p l R s mt args meth c cc nL own E m0 r) {n : Fin 4} {i : Nat} (hi : (n : Nat) = i) (hn : i + 1 < nL) (hd : decode cc pc = .ok (.lstore_n n, 1)) (hk : am_G p l e R s mt args below meth c nL E Q m0 r (k) (pc + 1)) : am_G p l e R s mt args below meth c nL E Q m0 r (fun L S m => q_l S fun v0 S => k (am_ls L i (.long v0)) S m) (pc) := by
  intro L S m H locs cells slots ls h hL hP
  obtain ⟨hx, hb, hml, hown, hts, hlk, hst, hK, hN, hrm, hfr, hlo⟩ := X
  obtain ⟨v0, S, rfl, h9⟩ := q_l_I h
  exact lv_lstore_n hx hb hd hi hL.to hn rfl (fun ls' h' => hk _ _ _ _ _ _ _ _ h9 (am_LH.s2 rfl h') hP)
theorem so_lstore (X : am_Cx p l R s mt args meth c cc nL own E m0 r) {i : Nat} (hn : i + 1 < nL) (hd : decode cc pc = .ok (.lstore i, 2)) (hk : am_G p l e R s mt args below meth c nL E Q m0 r (k) (pc + 2)) : am_G p l e R s mt args below meth c nL E Q m0 r (fun L S m => q_l S fun v0 S => k (am_ls L i (.long v0)) S m) (pc) := by
  intro L S m H locs cells slots ls h hL hP
  obtain ⟨hx, hb, hml, hown, hts, hlk, hst, hK, hN, hrm, hfr, hlo⟩ := X
  obtain ⟨v0, S, rfl, h9⟩ := q_l_I h
  exact lv_lstore hx hb hd hL.to hn rfl (fun ls' h' => hk _ _ _ _ _ _ _ _ h9 (am_LH.s2 rfl h') hP)
theorem so_aload_n (X : am_Cx p l R s mt args meth c cc nL own E m0 r) {n : Fin 4} {i : Nat} (hi : (n : Nat) = i) (hd : decode cc pc = .ok (.aload_n n, 1)) (hk : am_G p l e R s mt args below meth c nL E Q m0 r (k) (pc + 1)) : am_G p l e R s mt args below meth c nL E Q m0 r (fun L S m => q_gr (am_lg L i) fun v => k L (.ref v :: S) m) (pc) := by
  intro L S m H locs cells slots ls h hL hP
  obtain ⟨hx, hb, hml, hown, hts, hlk, hst, hK, hN, hrm, hfr, hlo⟩ := X
  obtain ⟨v, hv, h9⟩ := q_gr_I h
  exact lv_aload_n hx hb hd hi (hL.2.2 _ _ hv) (hk _ _ _ _ _ _ _ _ h9 hL hP)
theorem so_aload (X : am_Cx p l R s mt args meth c cc nL own E m0 r) {i : Nat} (hd : decode cc pc = .ok (.aload i, 2)) (hk : am_G p l e R s mt args below meth c nL E Q m0 r (k) (pc + 2)) : am_G p l e R s mt args below meth c nL E Q m0 r (fun L S m => q_gr (am_lg L i) fun v => k L (.ref v :: S) m) (pc) := by
  intro L S m H locs cells slots ls h hL hP
  obtain ⟨hx, hb, hml, hown, hts, hlk, hst, hK, hN, hrm, hfr, hlo⟩ := X
  obtain ⟨v, hv, h9⟩ := q_gr_I h
  exact lv_aload hx hb hd (hL.2.2 _ _ hv) (hk _ _ _ _ _ _ _ _ h9 hL hP)
theorem so_astore_n (X : am_Cx p l R s mt args meth c cc nL own E m0 r) {n : Fin 4} {i : Nat} (hi : (n : Nat) = i) (hn : i < nL) (hd : decode cc pc = .ok (.astore_n n, 1)) (hk : am_G p l e R s mt args below meth c nL E Q m0 r (k) (pc + 1)) : am_G p l e R s mt args below meth c nL E Q m0 r (fun L S m => q_r S fun v0 S => k (am_ls L i (.ref v0)) S m) (pc) := by
  intro L S m H locs cells slots ls h hL hP
  obtain ⟨hx, hb, hml, hown, hts, hlk, hst, hK, hN, hrm, hfr, hlo⟩ := X
  obtain ⟨v0, S, rfl, h9⟩ := q_r_I h
  exact lv_astore_n hx hb hd hi hL.to hn rfl (fun ls' h' => hk _ _ _ _ _ _ _ _ h9 (am_LH.s1 hL h') hP)
theorem so_astore (X : am_Cx p l R s mt args meth c cc nL own E m0 r) {i : Nat} (hn : i < nL) (hd : decode cc pc = .ok (.astore i, 2)) (hk : am_G p l e R s mt args below meth c nL E Q m0 r (k) (pc + 2)) : am_G p l e R s mt args below meth c nL E Q m0 r (fun L S m => q_r S fun v0 S => k (am_ls L i (.ref v0)) S m) (pc) := by
  intro L S m H locs cells slots ls h hL hP
  obtain ⟨hx, hb, hml, hown, hts, hlk, hst, hK, hN, hrm, hfr, hlo⟩ := X
  obtain ⟨v0, S, rfl, h9⟩ := q_r_I h
  exact lv_astore hx hb hd hL.to hn rfl (fun ls' h' => hk _ _ _ _ _ _ _ _ h9 (am_LH.s1 hL h') hP)
theorem so_iinc (X : am_Cx p l R s mt args meth c cc nL own E m0 r) {i : Nat} {n : Int} {w : Int32} (hn : i < nL) (hw : Int32.ofInt n = w) (hd : decode cc pc = .ok (.iinc i n, 3)) (hk : am_G p l e R s mt args below meth c nL E Q m0 r (k) (pc + 3)) : am_G p l e R s mt args below meth c nL E Q m0 r (fun L S m => q_gi (am_lg L i) fun v => k (am_ls L i (.int (v + w))) S m) (pc) := by
  intro L S m H locs cells slots ls h hL hP
  obtain ⟨hx, hb, hml, hown, hts, hlk, hst, hK, hN, hrm, hfr, hlo⟩ := X
  obtain ⟨v, hv, h9⟩ := q_gi_I h
  obtain ⟨j, hj⟩ := List.getElem?_of_mem ((am_pl_in L 0 i (.int v)).mpr ⟨i, (Nat.zero_add i).symm, hv⟩)
  exact lv_iinc hx hb hd hL.to hj (by rw [hw]) hn rfl (fun ls' h' => hk _ _ _ _ _ _ _ _ h9 (am_LH.s1 hL h') hP)
theorem so_iadd (X : am_Cx p l R s mt args meth c cc nL own E m0 r) (hd : decode cc pc = .ok (.iadd, 1)) (hk : am_G p l e R s mt args below meth c nL E Q m0 r (k) (pc + 1)) : am_G p l e R s mt args below meth c nL E Q m0 r (fun L S m => q_ii S fun v0 v1 S => k L (.int (v1 + v0) :: S) m) (pc) := by
  intro L S m H locs cells slots ls h hL hP
  obtain ⟨hx, hb, hml, hown, hts, hlk, hst, hK, hN, hrm, hfr, hlo⟩ := X
  obtain ⟨v0, v1, S, rfl, h9⟩ := q_ii_I h
  exact lv_iadd hx hb hd (hk _ _ _ _ _ _ _ _ h9 hL hP)
theorem so_isub (X : am_Cx p l R s mt args meth c cc nL own E m0 r) (hd : decode cc pc = .ok (.isub, 1)) (hk : am_G p l e R s mt args below meth c nL E Q m0 r (k) (pc + 1)) : am_G p l e R s mt args below meth c nL E Q m0 r (fun L S m => q_ii S fun v0 v1 S => k L (.int (v1 - v0) :: S) m) (pc) := by
  intro L S m H locs cells slots ls h hL hP
  obtain ⟨hx, hb, hml, hown, hts, hlk, hst, hK, hN, hrm, hfr, hlo⟩ := X
  obtain ⟨v0, v1, S, rfl, h9⟩ := q_ii_I h
  exact lv_isub hx hb hd (hk _ _ _ _ _ _ _ _ h9 hL hP)
theorem so_imul (X : am_Cx p l R s mt args meth c cc nL own E m0 r) (hd : decode cc pc = .ok (.imul, 1)) (hk : am_G p l e R s mt args below meth c nL E Q m0 r (k) (pc + 1)) : am_G p l e R s mt args below meth c nL E Q m0 r (fun L S m => q_ii S fun v0 v1 S => k L (.int (v1 * v0) :: S) m) (pc) := by
  intro L S m H locs cells slots ls h hL hP
  obtain ⟨hx, hb, hml, hown, hts, hlk, hst, hK, hN, hrm, hfr, hlo⟩ := X
  obtain ⟨v0, v1, S, rfl, h9⟩ := q_ii_I h
  exact lv_imul hx hb hd (hk _ _ _ _ _ _ _ _ h9 hL hP)
theorem so_iand (X : am_Cx p l R s mt args meth c cc nL own E m0 r) (hd : decode cc pc = .ok (.iand, 1)) (hk : am_G p l e R s mt args below meth c nL E Q m0 r (k) (pc + 1)) : am_G p l e R s mt args below meth c nL E Q m0 r (fun L S m => q_ii S fun v0 v1 S => k L (.int (v1 &&& v0) :: S) m) (pc) := by
  intro L S m H locs cells slots ls h hL hP
  obtain ⟨hx, hb, hml, hown, hts, hlk, hst, hK, hN, hrm, hfr, hlo⟩ := X
  obtain ⟨v0, v1, S, rfl, h9⟩ := q_ii_I h
  exact lv_iand hx hb hd (hk _ _ _ _ _ _ _ _ h9 hL hP)
theorem so_ior (X : am_Cx p l R s mt args meth c cc nL own E m0 r) (hd : decode cc pc = .ok (.ior, 1)) (hk : am_G p l e R s mt args below meth c nL E Q m0 r (k) (pc + 1)) : am_G p l e R s mt args below meth c nL E Q m0 r (fun L S m => q_ii S fun v0 v1 S => k L (.int (v1 ||| v0) :: S) m) (pc) := by
  intro L S m H locs cells slots ls h hL hP
  obtain ⟨hx, hb, hml, hown, hts, hlk, hst, hK, hN, hrm, hfr, hlo⟩ := X
  obtain ⟨v0, v1, S, rfl, h9⟩ := q_ii_I h
  exact lv_ior hx hb hd (hk _ _ _ _ _ _ _ _ h9 hL hP)
theorem so_ishl (X : am_Cx p l R s mt args meth c cc nL own E m0 r) (hd : decode cc pc = .ok (.ishl, 1)) (hk : am_G p l e R s mt args below meth c nL E Q m0 r (k) (pc + 1)) : am_G p l e R s mt args below meth c nL E Q m0 r (fun L S m => q_ii S fun v0 v1 S => k L (.int (v1 <<< (v0 &&& 31)) :: S) m) (pc) := by
  intro L S m H locs cells slots ls h hL hP
  obtain ⟨hx, hb, hml, hown, hts, hlk, hst, hK, hN, hrm, hfr, hlo⟩ := X
  obtain ⟨v0, v1, S, rfl, h9⟩ := q_ii_I h
  exact lv_ishl hx hb hd (hk _ _ _ _ _ _ _ _ h9 hL hP)
theorem so_ishr (X : am_Cx p l R s mt args meth c cc nL own E m0 r) (hd : decode cc pc = .ok (.ishr, 1)) (hk : am_G p l e R s mt args below meth c nL E Q m0 r (k) (pc + 1)) : am_G p l e R s mt args below meth c nL E Q m0 r (fun L S m => q_ii S fun v0 v1 S => k L (.int (v1 >>> (v0 &&& 31)) :: S) m) (pc) := by
  intro L S m H locs cells slots ls h hL hP
  obtain ⟨hx, hb, hml, hown, hts, hlk, hst, hK, hN, hrm, hfr, hlo⟩ := X
  obtain ⟨v0, v1, S, rfl, h9⟩ := q_ii_I h
  exact lv_ishr hx hb hd (hk _ _ _ _ _ _ _ _ h9 hL hP)
theorem so_ladd (X : am_Cx p l R s mt args meth c cc nL own E m0 r) (hd : decode cc pc = .ok (.ladd, 1)) (hk : am_G p l e R s mt args below meth c nL E Q m0 r (k) (pc + 1)) : am_G p l e R s mt args below meth c nL E Q m0 r (fun L S m => q_ll S fun v0 v1 S => k L (.long (v1 + v0) :: S) m) (pc) := by
  intro L S m H locs cells slots ls h hL hP
  obtain ⟨hx, hb, hml, hown, hts, hlk, hst, hK, hN, hrm, hfr, hlo⟩ := X
  obtain ⟨v0, v1, S, rfl, h9⟩ := q_ll_I h
  exact lv_ladd hx hb hd (hk _ _ _ _ _ _ _ _ h9 hL hP)
theorem so_lsub (X : am_Cx p l R s mt args meth c cc nL own E m0 r) (hd : decode cc pc = .ok (.lsub, 1)) (hk : am_G p l e R s mt args below meth c nL E Q m0 r (k) (pc + 1)) : am_G p l e R s mt args below meth c nL E Q m0 r (fun L S m => q_ll S fun v0 v1 S => k L (.long (v1 - v0) :: S) m) (pc) := by
  intro L S m H locs cells slots ls h hL hP
  obtain ⟨hx, hb, hml, hown, hts, hlk, hst, hK, hN, hrm, hfr, hlo⟩ := X
  obtain ⟨v0, v1, S, rfl, h9⟩ := q_ll_I h
  exact lv_lsub hx hb hd (hk _ _ _ _ _ _ _ _ h9 hL hP)
theorem so_lmul (X : am_Cx p l R s mt args meth c cc nL own E m0 r) (hd : decode cc pc = .ok (.lmul, 1)) (hk : am_G p l e R s mt args below meth c nL E Q m0 r (k) (pc + 1)) : am_G p l e R s mt args below meth c nL E Q m0 r (fun L S m => q_ll S fun v0 v1 S => k L (.long (v1 * v0) :: S) m) (pc) := by
  intro L S m H locs cells slots ls h hL hP
  obtain ⟨hx, hb, hml, hown, hts, hlk, hst, hK, hN, hrm, hfr, hlo⟩ := X
  obtain ⟨v0, v1, S, rfl, h9⟩ := q_ll_I h
  exact lv_lmul hx hb hd (hk _ _ _ _ _ _ _ _ h9 hL hP)
theorem so_land (X : am_Cx p l R s mt args meth c cc nL own E m0 r) (hd : decode cc pc = .ok (.land, 1)) (hk : am_G p l e R s mt args below meth c nL E Q m0 r (k) (pc + 1)) : am_G p l e R s mt args below meth c nL E Q m0 r (fun L S m => q_ll S fun v0 v1 S => k L (.long (v1 &&& v0) :: S) m) (pc) := by
  intro L S m H locs cells slots ls h hL hP
  obtain ⟨hx, hb, hml, hown, hts, hlk, hst, hK, hN, hrm, hfr, hlo⟩ := X
  obtain ⟨v0, v1, S, rfl, h9⟩ := q_ll_I h
  exact lv_land hx hb hd (hk _ _ _ _ _ _ _ _ h9 hL hP)
theorem so_lor (X : am_Cx p l R s mt args meth c cc nL own E m0 r) (hd : decode cc pc = .ok (.lor, 1)) (hk : am_G p l e R s mt args below meth c nL E Q m0 r (k) (pc + 1)) : am_G p l e R s mt args below meth c nL E Q m0 r (fun L S m => q_ll S fun v0 v1 S => k L (.long (v1 ||| v0) :: S) m) (pc) := by
  intro L S m H locs cells slots ls h hL hP
  obtain ⟨hx, hb, hml, hown, hts, hlk, hst, hK, hN, hrm, hfr, hlo⟩ := X
  obtain ⟨v0, v1, S, rfl, h9⟩ := q_ll_I h
  exact lv_lor hx hb hd (hk _ _ _ _ _ _ _ _ h9 hL hP)
theorem so_lneg (X : am_Cx p l R s mt args meth c cc nL own E m0 r) (hd : decode cc pc = .ok (.lneg, 1)) (hk : am_G p l e R s mt args below meth c nL E Q m0 r (k) (pc + 1)) : am_G p l e R s mt args below meth c nL E Q m0 r (fun L S m => q_l S fun v0 S => k L (.long (-v0) :: S) m) (pc) := by
  intro L S m H locs cells slots ls h hL hP
  obtain ⟨hx, hb, hml, hown, hts, hlk, hst, hK, hN, hrm, hfr, hlo⟩ := X
  obtain ⟨v0, S, rfl, h9⟩ := q_l_I h
  exact lv_lneg hx hb hd (hk _ _ _ _ _ _ _ _ h9 hL hP)
theorem so_ineg (X : am_Cx p l R s mt args meth c cc nL own E m0 r) (hd : decode cc pc = .ok (.ineg, 1)) (hk : am_G p l e R s mt args below meth c nL E Q m0 r (k) (pc + 1)) : am_G p l e R s mt args below meth c nL E Q m0 r (fun L S m => q_i S fun v0 S => k L (.int (-v0) :: S) m) (pc) := by
  intro L S m H locs cells slots ls h hL hP
  obtain ⟨hx, hb, hml, hown, hts, hlk, hst, hK, hN, hrm, hfr, hlo⟩ := X
  obtain ⟨v0, S, rfl, h9⟩ := q_i_I h
  exact lv_ineg hx hb hd (hk _ _ _ _ _ _ _ _ h9 hL hP)
theorem so_lshl (X : am_Cx p l R s mt args meth c cc nL own E m0 r) (hd : decode cc pc = .ok (.lshl, 1)) (hk : am_G p l e R s mt args below meth c nL E Q m0 r (k) (pc + 1)) : am_G p l e R s mt args below meth c nL E Q m0 r (fun L S m => q_il S fun v0 v1 S => k L (.long (v1 <<< (v0.toInt64 &&& 63)) :: S) m) (pc) := by
  intro L S m H locs cells slots ls h hL hP
  obtain ⟨hx, hb, hml, hown, hts, hlk, hst, hK, hN, hrm, hfr, hlo⟩ := X
  obtain ⟨v0, v1, S, rfl, h9⟩ := q_il_I h
  exact lv_lshl hx hb hd rfl (hk _ _ _ _ _ _ _ _ h9 hL hP)
theorem so_lshr (X : am_Cx p l R s mt args meth c cc nL own E m0 r) (hd : decode cc pc = .ok (.lshr, 1)) (hk : am_G p l e R s mt args below meth c nL E Q m0 r (k) (pc + 1)) : am_G p l e R s mt args below meth c nL E Q m0 r (fun L S m => q_il S fun v0 v1 S => k L (.long (v1 >>> (v0.toInt64 &&& 63)) :: S) m) (pc) := by
  intro L S m H locs cells slots ls h hL hP
  obtain ⟨hx, hb, hml, hown, hts, hlk, hst, hK, hN, hrm, hfr, hlo⟩ := X
  obtain ⟨v0, v1, S, rfl, h9⟩ := q_il_I h
  exact lv_lshr hx hb hd rfl (hk _ _ _ _ _ _ _ _ h9 hL hP)
theorem so_i2l (X : am_Cx p l R s mt args meth c cc nL own E m0 r) (hd : decode cc pc = .ok (.i2l, 1)) (hk : am_G p l e R s mt args below meth c nL E Q m0 r (k) (pc + 1)) : am_G p l e R s mt args below meth c nL E Q m0 r (fun L S m => q_i S fun v0 S => k L (.long v0.toInt64 :: S) m) (pc) := by
  intro L S m H locs cells slots ls h hL hP
  obtain ⟨hx, hb, hml, hown, hts, hlk, hst, hK, hN, hrm, hfr, hlo⟩ := X
  obtain ⟨v0, S, rfl, h9⟩ := q_i_I h
  exact lv_i2l hx hb hd rfl (hk _ _ _ _ _ _ _ _ h9 hL hP)
theorem so_l2i (X : am_Cx p l R s mt args meth c cc nL own E m0 r) (hd : decode cc pc = .ok (.l2i, 1)) (hk : am_G p l e R s mt args below meth c nL E Q m0 r (k) (pc + 1)) : am_G p l e R s mt args below meth c nL E Q m0 r (fun L S m => q_l S fun v0 S => k L (.int v0.toInt32 :: S) m) (pc) := by
  intro L S m H locs cells slots ls h hL hP
  obtain ⟨hx, hb, hml, hown, hts, hlk, hst, hK, hN, hrm, hfr, hlo⟩ := X
  obtain ⟨v0, S, rfl, h9⟩ := q_l_I h
  exact lv_l2i hx hb hd rfl (hk _ _ _ _ _ _ _ _ h9 hL hP)
theorem so_i2b (X : am_Cx p l R s mt args meth c cc nL own E m0 r) (hd : decode cc pc = .ok (.i2b, 1)) (hk : am_G p l e R s mt args below meth c nL E Q m0 r (k) (pc + 1)) : am_G p l e R s mt args below meth c nL E Q m0 r (fun L S m => q_i S fun v0 S => k L (.int v0.toInt8.toInt32 :: S) m) (pc) := by
  intro L S m H locs cells slots ls h hL hP
  obtain ⟨hx, hb, hml, hown, hts, hlk, hst, hK, hN, hrm, hfr, hlo⟩ := X
  obtain ⟨v0, S, rfl, h9⟩ := q_i_I h
  exact lv_i2b hx hb hd rfl (hk _ _ _ _ _ _ _ _ h9 hL hP)
theorem so_i2c (X : am_Cx p l R s mt args meth c cc nL own E m0 r) (hd : decode cc pc = .ok (.i2c, 1)) (hk : am_G p l e R s mt args below meth c nL E Q m0 r (k) (pc + 1)) : am_G p l e R s mt args below meth c nL E Q m0 r (fun L S m => q_i S fun v0 S => k L (.int v0.toUInt32.toUInt16.toUInt32.toInt32 :: S) m) (pc) := by
  intro L S m H locs cells slots ls h hL hP
  obtain ⟨hx, hb, hml, hown, hts, hlk, hst, hK, hN, hrm, hfr, hlo⟩ := X
  obtain ⟨v0, S, rfl, h9⟩ := q_i_I h
  exact lv_i2c hx hb hd rfl (hk _ _ _ _ _ _ _ _ h9 hL hP)
theorem so_lcmp (X : am_Cx p l R s mt args meth c cc nL own E m0 r) (hd : decode cc pc = .ok (.lcmp, 1)) (hk : am_G p l e R s mt args below meth c nL E Q m0 r (k) (pc + 1)) : am_G p l e R s mt args below meth c nL E Q m0 r (fun L S m => q_ll S fun v0 v1 S => k L (.int (lg_cmp v1 v0) :: S) m) (pc) := by
  intro L S m H locs cells slots ls h hL hP
  obtain ⟨hx, hb, hml, hown, hts, hlk, hst, hK, hN, hrm, hfr, hlo⟩ := X
  obtain ⟨v0, v1, S, rfl, h9⟩ := q_ll_I h
  exact W.lcmp hx hb hd (hk _ _ _ _ _ _ _ _ h9 hL hP)
theorem so_idiv (X : am_Cx p l R s mt args meth c cc nL own E m0 r) (hd : decode cc pc = .ok (.idiv, 1)) (hk : am_G p l e R s mt args below meth c nL E Q m0 r (k) (pc + 1)) : am_G p l e R s mt args below meth c nL E Q m0 r (fun L S m => q_ii S fun v0 v1 S => gq_ (¬ v0 = 0) (k L (.int (v1 / v0) :: S) m)) (pc) := by
  intro L S m H locs cells slots ls h hL hP
  obtain ⟨hx, hb, hml, hown, hts, hlk, hst, hK, hN, hrm, hfr, hlo⟩ := X
  obtain ⟨v0, v1, S, rfl, h9⟩ := q_ii_I h
  obtain ⟨h0, h9⟩ := gq_I h9
  exact lv_idiv hx hb hd h0 (hk _ _ _ _ _ _ _ _ h9 hL hP)
theorem so_irem (X : am_Cx p l R s mt args meth c cc nL own E m0 r) (hd : decode cc pc = .ok (.irem, 1)) (hk : am_G p l e R s mt args below meth c nL E Q m0 r (k) (pc + 1)) : am_G p l e R s mt args below meth c nL E Q m0 r (fun L S m => q_ii S fun v0 v1 S => gq_ (¬ v0 = 0) (k L (.int (v1 - v1 / v0 * v0) :: S) m)) (pc) := by
  intro L S m H locs cells slots ls h hL hP
  obtain ⟨hx, hb, hml, hown, hts, hlk, hst, hK, hN, hrm, hfr, hlo⟩ := X
  obtain ⟨v0, v1, S, rfl, h9⟩ := q_ii_I h
  obtain ⟨h0, h9⟩ := gq_I h9
  exact lv_irem hx hb hd h0 (hk _ _ _ _ _ _ _ _ h9 hL hP)
theorem so_ldiv (X : am_Cx p l R s mt args meth c cc nL own E m0 r) (hd : decode cc pc = .ok (.ldiv, 1)) (hk : am_G p l e R s mt args below meth c nL E Q m0 r (k) (pc + 1)) : am_G p l e R s mt args below meth c nL E Q m0 r (fun L S m => q_ll S fun v0 v1 S => gq_ (¬ v0 = 0) (k L (.long (v1 / v0) :: S) m)) (pc) := by
  intro L S m H locs cells slots ls h hL hP
  obtain ⟨hx, hb, hml, hown, hts, hlk, hst, hK, hN, hrm, hfr, hlo⟩ := X
  obtain ⟨v0, v1, S, rfl, h9⟩ := q_ll_I h
  obtain ⟨h0, h9⟩ := gq_I h9
  exact lv_ldiv hx hb hd h0 (hk _ _ _ _ _ _ _ _ h9 hL hP)
theorem so_lrem (X : am_Cx p l R s mt args meth c cc nL own E m0 r) (hd : decode cc pc = .ok (.lrem, 1)) (hk : am_G p l e R s mt args below meth c nL E Q m0 r (k) (pc + 1)) : am_G p l e R s mt args below meth c nL E Q m0 r (fun L S m => q_ll S fun v0 v1 S => gq_ (¬ v0 = 0) (k L (.long (v1 - v1 / v0 * v0) :: S) m)) (pc) := by
  intro L S m H locs cells slots ls h hL hP
  obtain ⟨hx, hb, hml, hown, hts, hlk, hst, hK, hN, hrm, hfr, hlo⟩ := X
  obtain ⟨v0, v1, S, rfl, h9⟩ := q_ll_I h
  obtain ⟨h0, h9⟩ := gq_I h9
  exact lv_lrem hx hb hd h0 (hk _ _ _ _ _ _ _ _ h9 hL hP)
theorem so_dup (X : am_Cx p l R s mt args meth c cc nL own E m0 r) (hd : decode cc pc = .ok (.dup, 1)) (hk : am_G p l e R s mt args below meth c nL E Q m0 r (k) (pc + 1)) : am_G p l e R s mt args below meth c nL E Q m0 r (fun L S m => q_o (am_d1 S) fun S => k L S m) (pc) := by
  intro L S m H locs cells slots ls h hL hP
  obtain ⟨hx, hb, hml, hown, hts, hlk, hst, hK, hN, hrm, hfr, hlo⟩ := X
  obtain ⟨S1, h1, h9⟩ := q_o_I h
  unfold am_d1 at h1
  split at h1
  · cases h1
    exact lv_dup hx hb hd rfl (hk _ _ _ _ _ _ _ _ h9 hL hP)
  · cases h1
    exact lv_dup hx hb hd rfl (hk _ _ _ _ _ _ _ _ h9 hL hP)
  · cases h1
theorem so_dup2 (X : am_Cx p l R s mt args meth c cc nL own E m0 r) (hd : decode cc pc = .ok (.dup2, 1)) (hk : am_G p l e R s mt args below meth c nL E Q m0 r (k) (pc + 1)) : am_G p l e R s mt args below meth c nL E Q m0 r (fun L S m => q_o (am_d2 S) fun S => k L S m) (pc) := by
  intro L S m H locs cells slots ls h hL hP
  obtain ⟨hx, hb, hml, hown, hts, hlk, hst, hK, hN, hrm, hfr, hlo⟩ := X
  obtain ⟨S1, h1, h9⟩ := q_o_I h
  unfold am_d2 at h1
  split at h1
  · cases h1
    exact lv_dup2_11 hx hb hd rfl rfl (hk _ _ _ _ _ _ _ _ h9 hL hP)
  · cases h1
    exact lv_dup2_11 hx hb hd rfl rfl (hk _ _ _ _ _ _ _ _ h9 hL hP)
  · cases h1
    exact lv_dup2_2 hx hb hd rfl (hk _ _ _ _ _ _ _ _ h9 hL hP)
  · cases h1
theorem so_pop (X : am_Cx p l R s mt args meth c cc nL own E m0 r) (hd : decode cc pc = .ok (.pop, 1)) (hk : am_G p l e R s mt args below meth c nL E Q m0 r (k) (pc + 1)) : am_G p l e R s mt args below meth c nL E Q m0 r (fun L S m => q_o (am_p1 S) fun S => k L S m) (pc) := by
  intro L S m H locs cells slots ls h hL hP
  obtain ⟨hx, hb, hml, hown, hts, hlk, hst, hK, hN, hrm, hfr, hlo⟩ := X
  obtain ⟨S1, h1, h9⟩ := q_o_I h
  unfold am_p1 at h1
  split at h1
  · cases h1
    exact lv_pop hx hb hd rfl (hk _ _ _ _ _ _ _ _ h9 hL hP)
  · cases h1
    exact lv_pop hx hb hd rfl (hk _ _ _ _ _ _ _ _ h9 hL hP)
  · cases h1
theorem so_dup_x1 (X : am_Cx p l R s mt args meth c cc nL own E m0 r) (hd : decode cc pc = .ok (.dup_x1, 1)) (hk : am_G p l e R s mt args below meth c nL E Q m0 r (k) (pc + 1)) : am_G p l e R s mt args below meth c nL E Q m0 r (fun L S m => q_o (am_x1 S) fun S => k L S m) (pc) := by
  intro L S m H locs cells slots ls h hL hP
  obtain ⟨hx, hb, hml, hown, hts, hlk, hst, hK, hN, hrm, hfr, hlo⟩ := X
  obtain ⟨S1, h1, h9⟩ := q_o_I h
  unfold am_x1 at h1
  split at h1
  · cases h1
    exact lv_dup_x1 hx hb hd rfl rfl (hk _ _ _ _ _ _ _ _ h9 hL hP)
  · cases h1
    exact lv_dup_x1 hx hb hd rfl rfl (hk _ _ _ _ _ _ _ _ h9 hL hP)
  · cases h1
    exact lv_dup_x1 hx hb hd rfl rfl (hk _ _ _ _ _ _ _ _ h9 hL hP)
  · cases h1
theorem so_dup_x2 (X : am_Cx p l R s mt args meth c cc nL own E m0 r) (hd : decode cc pc = .ok (.dup_x2, 1)) (hk : am_G p l e R s mt args below meth c nL E Q m0 r (k) (pc + 1)) : am_G p l e R s mt args below meth c nL E Q m0 r (fun L S m => q_o (am_x2 S) fun S => k L S m) (pc) := by
  intro L S m H locs cells slots ls h hL hP
  obtain ⟨hx, hb, hml, hown, hts, hlk, hst, hK, hN, hrm, hfr, hlo⟩ := X
  obtain ⟨S1, h1, h9⟩ := q_o_I h
  unfold am_x2 at h1
  split at h1
  · cases h1
    exact lv_dup_x2 hx hb hd rfl rfl rfl (hk _ _ _ _ _ _ _ _ h9 hL hP)
  · cases h1
theorem so_null (X : am_Cx p l R s mt args meth c cc nL own E m0 r) (hd : decode cc pc = .ok (.aconst_null, 1)) (hk : am_G p l e R s mt args below meth c nL E Q m0 r (k) (pc + 1)) : am_G p l e R s mt args below meth c nL E Q m0 r (fun L S m => k L (.null :: S) m) (pc) := by
  intro L S m H locs cells slots ls h hL hP
  obtain ⟨hx, hb, hml, hown, hts, hlk, hst, hK, hN, hrm, hfr, hlo⟩ := X
  have h9 := h
  exact lv_null hx hb hd (hk _ _ _ _ _ _ _ _ h9 hL hP)
theorem so_goto {K : am_K} {tgt : Nat} {off : Int} (X : am_Cx p l R s mt args meth c cc nL own E m0 r) (hd : decode cc pc = .ok (.goto off, 3)) (ht : (pc : Int) + off = (tgt : Int)) (hK9 : ∀ q, am_G p l e R s mt args below meth c nL E Q m0 r (K q) (q)) : am_G p l e R s mt args below meth c nL E Q m0 r (fun L S m => K tgt L S m) (pc) := by
  intro L S m H locs cells slots ls h hL hP
  obtain ⟨hx, hb, hml, hown, hts, hlk, hst, hK, hN, hrm, hfr, hlo⟩ := X
  have h9 := h
  exact lv_goto hx hb hd ht (hK9 _ _ _ _ _ _ _ _ _ h9 hL hP)
theorem so_if_eq {K : am_K} {tgt : Nat} {off : Int} (X : am_Cx p l R s mt args meth c cc nL own E m0 r) (hd : decode cc pc = .ok (.ifCond .eq off, 3)) (ht : (pc : Int) + off = (tgt : Int)) (hK9 : ∀ q, am_G p l e R s mt args below meth c nL E Q m0 r (K q) (q)) : am_G p l e R s mt args below meth c nL E Q m0 r (fun L S m => q_i S fun v0 S => gb_ (v0 = 0) (K tgt L S m) (K (pc + 3) L S m)) (pc) := by
  intro L S m H locs cells slots ls h hL hP
  obtain ⟨hx, hb, hml, hown, hts, hlk, hst, hK, hN, hrm, hfr, hlo⟩ := X
  obtain ⟨v0, S, rfl, h9⟩ := q_i_I h
  exact lv_if_eq hx hb hd ht (fun q => by rw [gb_pos q] at h9; exact hK9 _ _ _ _ _ _ _ _ _ h9 hL hP) (fun q => by rw [gb_neg q] at h9; exact hK9 _ _ _ _ _ _ _ _ _ h9 hL hP)
theorem so_if_ne {K : am_K} {tgt : Nat} {off : Int} (X : am_Cx p l R s mt args meth c cc nL own E m0 r) (hd : decode cc pc = .ok (.ifCond .ne off, 3)) (ht : (pc : Int) + off = (tgt : Int)) (hK9 : ∀ q, am_G p l e R s mt args below meth c nL E Q m0 r (K q) (q)) : am_G p l e R s mt args below meth c nL E Q m0 r (fun L S m => q_i S fun v0 S => gb_ (v0 = 0) (K (pc + 3) L S m) (K tgt L S m)) (pc) := by
  intro L S m H locs cells slots ls h hL hP
  obtain ⟨hx, hb, hml, hown, hts, hlk, hst, hK, hN, hrm, hfr, hlo⟩ := X
  obtain ⟨v0, S, rfl, h9⟩ := q_i_I h
  exact lv_if_ne hx hb hd ht (fun q => by rw [gb_neg q] at h9; exact hK9 _ _ _ _ _ _ _ _ _ h9 hL hP) (fun q => by rw [gb_pos q] at h9; exact hK9 _ _ _ _ _ _ _ _ _ h9 hL hP)
theorem so_if_lt {K : am_K} {tgt : Nat} {off : Int} (X : am_Cx p l R s mt args meth c cc nL own E m0 r) (hd : decode cc pc = .ok (.ifCond .lt off, 3)) (ht : (pc : Int) + off = (tgt : Int)) (hK9 : ∀ q, am_G p l e R s mt args below meth c nL E Q m0 r (K q) (q)) : am_G p l e R s mt args below meth c nL E Q m0 r (fun L S m => q_i S fun v0 S => gb_ (v0 < 0) (K tgt L S m) (K (pc + 3) L S m)) (pc) := by
  intro L S m H locs cells slots ls h hL hP
  obtain ⟨hx, hb, hml, hown, hts, hlk, hst, hK, hN, hrm, hfr, hlo⟩ := X
  obtain ⟨v0, S, rfl, h9⟩ := q_i_I h
  exact lv_if_lt hx hb hd ht (fun q => by rw [gb_pos q] at h9; exact hK9 _ _ _ _ _ _ _ _ _ h9 hL hP) (fun q => by rw [gb_neg q] at h9; exact hK9 _ _ _ _ _ _ _ _ _ h9 hL hP)
theorem so_if_ge {K : am_K} {tgt : Nat} {off : Int} (X : am_Cx p l R s mt args meth c cc nL own E m0 r) (hd : decode cc pc = .ok (.ifCond .ge off, 3)) (ht : (pc : Int) + off = (tgt : Int)) (hK9 : ∀ q, am_G p l e R s mt args below meth c nL E Q m0 r (K q) (q)) : am_G p l e R s mt args below meth c nL E Q m0 r (fun L S m => q_i S fun v0 S => gb_ (0 ≤ v0) (K tgt L S m) (K (pc + 3) L S m)) (pc) := by
  intro L S m H locs cells slots ls h hL hP
  obtain ⟨hx, hb, hml, hown, hts, hlk, hst, hK, hN, hrm, hfr, hlo⟩ := X
  obtain ⟨v0, S, rfl, h9⟩ := q_i_I h
  exact lv_if_ge hx hb hd ht (fun q => by rw [gb_pos q] at h9; exact hK9 _ _ _ _ _ _ _ _ _ h9 hL hP) (fun q => by rw [gb_neg q] at h9; exact hK9 _ _ _ _ _ _ _ _ _ h9 hL hP)
theorem so_if_gt {K : am_K} {tgt : Nat} {off : Int} (X : am_Cx p l R s mt args meth c cc nL own E m0 r) (hd : decode cc pc = .ok (.ifCond .gt off, 3)) (ht : (pc : Int) + off = (tgt : Int)) (hK9 : ∀ q, am_G p l e R s mt args below meth c nL E Q m0 r (K q) (q)) : am_G p l e R s mt args below meth c nL E Q m0 r (fun L S m => q_i S fun v0 S => gb_ (0 < v0) (K tgt L S m) (K (pc + 3) L S m)) (pc) := by
  intro L S m H locs cells slots ls h hL hP
  obtain ⟨hx, hb, hml, hown, hts, hlk, hst, hK, hN, hrm, hfr, hlo⟩ := X
  obtain ⟨v0, S, rfl, h9⟩ := q_i_I h
  exact lv_if_gt hx hb hd ht (fun q => by rw [gb_pos q] at h9; exact hK9 _ _ _ _ _ _ _ _ _ h9 hL hP) (fun q => by rw [gb_neg q] at h9; exact hK9 _ _ _ _ _ _ _ _ _ h9 hL hP)
theorem so_if_le {K : am_K} {tgt : Nat} {off : Int} (X : am_Cx p l R s mt args meth c cc nL own E m0 r) (hd : decode cc pc = .ok (.ifCond .le off, 3)) (ht : (pc : Int) + off = (tgt : Int)) (hK9 : ∀ q, am_G p l e R s mt args below meth c nL E Q m0 r (K q) (q)) : am_G p l e R s mt args below meth c nL E Q m0 r (fun L S m => q_i S fun v0 S => gb_ (v0 ≤ 0) (K tgt L S m) (K (pc + 3) L S m)) (pc) := by
  intro L S m H locs cells slots ls h hL hP
  obtain ⟨hx, hb, hml, hown, hts, hlk, hst, hK, hN, hrm, hfr, hlo⟩ := X
  obtain ⟨v0, S, rfl, h9⟩ := q_i_I h
  exact lv_if_le hx hb hd ht (fun q => by rw [gb_pos q] at h9; exact hK9 _ _ _ _ _ _ _ _ _ h9 hL hP) (fun q => by rw [gb_neg q] at h9; exact hK9 _ _ _ _ _ _ _ _ _ h9 hL hP)
theorem so_icmp_eq {K : am_K} {tgt : Nat} {off : Int} (X : am_Cx p l R s mt args meth c cc nL own E m0 r) (hd : decode cc pc = .ok (.if_icmp .eq off, 3)) (ht : (pc : Int) + off = (tgt : Int)) (hK9 : ∀ q, am_G p l e R s mt args below meth c nL E Q m0 r (K q) (q)) : am_G p l e R s mt args below meth c nL E Q m0 r (fun L S m => q_ii S fun v0 v1 S => gb_ (v1 = v0) (K tgt L S m) (K (pc + 3) L S m)) (pc) := by
  intro L S m H locs cells slots ls h hL hP
  obtain ⟨hx, hb, hml, hown, hts, hlk, hst, hK, hN, hrm, hfr, hlo⟩ := X
  obtain ⟨v0, v1, S, rfl, h9⟩ := q_ii_I h
  exact lv_icmp_eq hx hb hd ht (fun q => by rw [gb_pos q] at h9; exact hK9 _ _ _ _ _ _ _ _ _ h9 hL hP) (fun q => by rw [gb_neg q] at h9; exact hK9 _ _ _ _ _ _ _ _ _ h9 hL hP)
theorem so_icmp_ne {K : am_K} {tgt : Nat} {off : Int} (X : am_Cx p l R s mt args meth c cc nL own E m0 r) (hd : decode cc pc = .ok (.if_icmp .ne off, 3)) (ht : (pc : Int) + off = (tgt : Int)) (hK9 : ∀ q, am_G p l e R s mt args below meth c nL E Q m0 r (K q) (q)) : am_G p l e R s mt args below meth c nL E Q m0 r (fun L S m => q_ii S fun v0 v1 S => gb_ (v1 = v0) (K (pc + 3) L S m) (K tgt L S m)) (pc) := by
  intro L S m H locs cells slots ls h hL hP
  obtain ⟨hx, hb, hml, hown, hts, hlk, hst, hK, hN, hrm, hfr, hlo⟩ := X
  obtain ⟨v0, v1, S, rfl, h9⟩ := q_ii_I h
  exact lv_icmp_ne hx hb hd ht (fun q => by rw [gb_neg q] at h9; exact hK9 _ _ _ _ _ _ _ _ _ h9 hL hP) (fun q => by rw [gb_pos q] at h9; exact hK9 _ _ _ _ _ _ _ _ _ h9 hL hP)
theorem so_icmp_lt {K : am_K} {tgt : Nat} {off : Int} (X : am_Cx p l R s mt args meth c cc nL own E m0 r) (hd : decode cc pc = .ok (.if_icmp .lt off, 3)) (ht : (pc : Int) + off = (tgt : Int)) (hK9 : ∀ q, am_G p l e R s mt args below meth c nL E Q m0 r (K q) (q)) : am_G p l e R s mt args below meth c nL E Q m0 r (fun L S m => q_ii S fun v0 v1 S => gb_ (v1 < v0) (K tgt L S m) (K (pc + 3) L S m)) (pc) := by
  intro L S m H locs cells slots ls h hL hP
  obtain ⟨hx, hb, hml, hown, hts, hlk, hst, hK, hN, hrm, hfr, hlo⟩ := X
  obtain ⟨v0, v1, S, rfl, h9⟩ := q_ii_I h
  exact lv_icmp_lt hx hb hd ht (fun q => by rw [gb_pos q] at h9; exact hK9 _ _ _ _ _ _ _ _ _ h9 hL hP) (fun q => by rw [gb_neg q] at h9; exact hK9 _ _ _ _ _ _ _ _ _ h9 hL hP)
theorem so_icmp_ge {K : am_K} {tgt : Nat} {off : Int} (X : am_Cx p l R s mt args meth c cc nL own E m0 r) (hd : decode cc pc = .ok (.if_icmp .ge off, 3)) (ht : (pc : Int) + off = (tgt : Int)) (hK9 : ∀ q, am_G p l e R s mt args below meth c nL E Q m0 r (K q) (q)) : am_G p l e R s mt args below meth c nL E Q m0 r (fun L S m => q_ii S fun v0 v1 S => gb_ (v0 ≤ v1) (K tgt L S m) (K (pc + 3) L S m)) (pc) := by
  intro L S m H locs cells slots ls h hL hP
  obtain ⟨hx, hb, hml, hown, hts, hlk, hst, hK, hN, hrm, hfr, hlo⟩ := X
  obtain ⟨v0, v1, S, rfl, h9⟩ := q_ii_I h
  exact lv_icmp_ge hx hb hd ht (fun q => by rw [gb_pos q] at h9; exact hK9 _ _ _ _ _ _ _ _ _ h9 hL hP) (fun q => by rw [gb_neg q] at h9; exact hK9 _ _ _ _ _ _ _ _ _ h9 hL hP)
theorem so_icmp_gt {K : am_K} {tgt : Nat} {off : Int} (X : am_Cx p l R s mt args meth c cc nL own E m0 r) (hd : decode cc pc = .ok (.if_icmp .gt off, 3)) (ht : (pc : Int) + off = (tgt : Int)) (hK9 : ∀ q, am_G p l e R s mt args below meth c nL E Q m0 r (K q) (q)) : am_G p l e R s mt args below meth c nL E Q m0 r (fun L S m => q_ii S fun v0 v1 S => gb_ (v0 < v1) (K tgt L S m) (K (pc + 3) L S m)) (pc) := by
  intro L S m H locs cells slots ls h hL hP
  obtain ⟨hx, hb, hml, hown, hts, hlk, hst, hK, hN, hrm, hfr, hlo⟩ := X
  obtain ⟨v0, v1, S, rfl, h9⟩ := q_ii_I h
  exact lv_icmp_gt hx hb hd ht (fun q => by rw [gb_pos q] at h9; exact hK9 _ _ _ _ _ _ _ _ _ h9 hL hP) (fun q => by rw [gb_neg q] at h9; exact hK9 _ _ _ _ _ _ _ _ _ h9 hL hP)
theorem so_icmp_le {K : am_K} {tgt : Nat} {off : Int} (X : am_Cx p l R s mt args meth c cc nL own E m0 r) (hd : decode cc pc = .ok (.if_icmp .le off, 3)) (ht : (pc : Int) + off = (tgt : Int)) (hK9 : ∀ q, am_G p l e R s mt args below meth c nL E Q m0 r (K q) (q)) : am_G p l e R s mt args below meth c nL E Q m0 r (fun L S m => q_ii S fun v0 v1 S => gb_ (v1 ≤ v0) (K tgt L S m) (K (pc + 3) L S m)) (pc) := by
  intro L S m H locs cells slots ls h hL hP
  obtain ⟨hx, hb, hml, hown, hts, hlk, hst, hK, hN, hrm, hfr, hlo⟩ := X
  obtain ⟨v0, v1, S, rfl, h9⟩ := q_ii_I h
  exact lv_icmp_le hx hb hd ht (fun q => by rw [gb_pos q] at h9; exact hK9 _ _ _ _ _ _ _ _ _ h9 hL hP) (fun q => by rw [gb_neg q] at h9; exact hK9 _ _ _ _ _ _ _ _ _ h9 hL hP)
theorem so_acmp_eq {K : am_K} {tgt : Nat} {off : Int} (X : am_Cx p l R s mt args meth c cc nL own E m0 r) (hd : decode cc pc = .ok (.if_acmp .eq off, 3)) (ht : (pc : Int) + off = (tgt : Int)) (hK9 : ∀ q, am_G p l e R s mt args below meth c nL E Q m0 r (K q) (q)) : am_G p l e R s mt args below meth c nL E Q m0 r (fun L S m => q_rr S fun v0 v1 S => gb_ (v1 = v0) (K tgt L S m) (K (pc + 3) L S m)) (pc) := by
  intro L S m H locs cells slots ls h hL hP
  obtain ⟨hx, hb, hml, hown, hts, hlk, hst, hK, hN, hrm, hfr, hlo⟩ := X
  obtain ⟨v0, v1, S, rfl, h9⟩ := q_rr_I h
  exact lv_acmp_eq (rx := some v1) (ry := some v0) hx hb hd ht (fun q => by rw [gb_pos (Option.some.inj q)] at h9; exact hK9 _ _ _ _ _ _ _ _ _ h9 hL hP) (fun q => by rw [gb_neg (fun z => q (congrArg some z))] at h9; exact hK9 _ _ _ _ _ _ _ _ _ h9 hL hP)
theorem so_acmp_ne {K : am_K} {tgt : Nat} {off : Int} (X : am_Cx p l R s mt args meth c cc nL own E m0 r) (hd : decode cc pc = .ok (.if_acmp .ne off, 3)) (ht : (pc : Int) + off = (tgt : Int)) (hK9 : ∀ q, am_G p l e R s mt args below meth c nL E Q m0 r (K q) (q)) : am_G p l e R s mt args below meth c nL E Q m0 r (fun L S m => q_rr S fun v0 v1 S => gb_ (v1 = v0) (K (pc + 3) L S m) (K tgt L S m)) (pc) := by
  intro L S m H locs cells slots ls h hL hP
  obtain ⟨hx, hb, hml, hown, hts, hlk, hst, hK, hN, hrm, hfr, hlo⟩ := X
  obtain ⟨v0, v1, S, rfl, h9⟩ := q_rr_I h
  exact lv_acmp_ne (rx := some v1) (ry := some v0) hx hb hd ht (fun q => by rw [gb_neg (fun z => q (congrArg some z))] at h9; exact hK9 _ _ _ _ _ _ _ _ _ h9 hL hP) (fun q => by rw [gb_pos (Option.some.inj q)] at h9; exact hK9 _ _ _ _ _ _ _ _ _ h9 hL hP)
theorem so_ifnull {K : am_K} {tgt : Nat} {off : Int} (X : am_Cx p l R s mt args meth c cc nL own E m0 r) (hd : decode cc pc = .ok (.ifnull off, 3)) (ht : (pc : Int) + off = (tgt : Int)) (hK9 : ∀ q, am_G p l e R s mt args below meth c nL E Q m0 r (K q) (q)) : am_G p l e R s mt args below meth c nL E Q m0 r (fun L S m => q_r S fun v0 S => K (pc + 3) L S m) (pc) := by
  intro L S m H locs cells slots ls h hL hP
  obtain ⟨hx, hb, hml, hown, hts, hlk, hst, hK, hN, hrm, hfr, hlo⟩ := X
  obtain ⟨v0, S, rfl, h9⟩ := q_r_I h
  exact lv_ifnull hx hb hd (hK9 _ _ _ _ _ _ _ _ _ h9 hL hP)
theorem so_ifnonnull {K : am_K} {tgt : Nat} {off : Int} (X : am_Cx p l R s mt args meth c cc nL own E m0 r) (hd : decode cc pc = .ok (.ifnonnull off, 3)) (ht : (pc : Int) + off = (tgt : Int)) (hK9 : ∀ q, am_G p l e R s mt args below meth c nL E Q m0 r (K q) (q)) : am_G p l e R s mt args below meth c nL E Q m0 r (fun L S m => q_r S fun v0 S => K tgt L S m) (pc) := by
  intro L S m H locs cells slots ls h hL hP
  obtain ⟨hx, hb, hml, hown, hts, hlk, hst, hK, hN, hrm, hfr, hlo⟩ := X
  obtain ⟨v0, S, rfl, h9⟩ := q_r_I h
  exact lv_ifnonnull hx hb hd ht (hK9 _ _ _ _ _ _ _ _ _ h9 hL hP)
end S1
