/-! a run makes cells, it takes none away -/
def am_B (m : am_M) (o : Option am_R) : Prop := ∀ r, o = some r → am_le m r ∧ ∀ j, r.1 = .inr j → ge_ r.2 = false
theorem B_n {m : am_M} : am_B m none := fun _ h => nomatch h
theorem B_s {m : am_M} {w : Option Value} : am_B m (some (.inl w, m)) := fun _ h => by cases h; exact ⟨⟨Nat.le_refl _, Nat.le_refl _, id⟩, fun _ h => nomatch h⟩
theorem B_th {m : am_M} {w : Option Value ⊕ Nat} : am_B m (some (w, th_ m)) := fun _ h => by cases h; exact ⟨⟨Nat.le_succ _, Nat.le_add_right _ _, fun z => nomatch (show false = true from z)⟩, fun _ _ => rfl⟩
theorem B_gq {m : am_M} {p : Prop} {x : Option am_R} (h : am_B m x) : am_B m (gq_ p x) := fun r h1 => h r (gq_I h1).2
theorem B_gb {m : am_M} {p : Prop} {x y : Option am_R} (h : am_B m x) (h' : am_B m y) : am_B m (gb_ p x y) := fun r h1 => (gb_I h1).elim (fun z => h r z.2) (fun z => h' r z.2)
theorem B_bif {m : am_M} {b : Bool} {x y : Option am_R} (h : am_B m x) (h' : am_B m y) : am_B m (bif b then x else y) := by cases b; exact h'; exact h
theorem B_q_o {α : Type} {m : am_M} {o : Option α} {f : α → Option am_R} (h : ∀ x, am_B m (f x)) : am_B m (q_o o f) := fun r h1 => by obtain ⟨x, -, h2⟩ := q_o_I h1; exact h x r h2
theorem B_si {m : am_M} {a k : Nat} {v : Int32} {o : Option am_R} (h : am_B (si_ m a k v) o) : am_B m o := h
theorem B_sl {m : am_M} {a k : Nat} {v : Int64} {o : Option am_R} (h : am_B (sl_ m a k v) o) : am_B m o := h
theorem B_sr {m : am_M} {a k : Nat} {v : Nat} {o : Option am_R} (h : am_B (sr_ m a k v) o) : am_B m o := h
theorem B_sd {m : am_M} {a k : Nat} {v : UInt64} {o : Option am_R} (h : am_B (sd_ m a k v) o) : am_B m o := h
theorem B_ri {m : am_M} {a : Nat} {v : Nat → Int32} {o : Option am_R} (h : am_B (ri_ m a v) o) : am_B m o := h
theorem B_rl {m : am_M} {a : Nat} {v : Nat → Int64} {o : Option am_R} (h : am_B (rl_ m a v) o) : am_B m o := h
theorem B_rr {m : am_M} {a : Nat} {v : Nat → Nat} {o : Option am_R} (h : am_B (rr_ m a v) o) : am_B m o := h
theorem B_mu {m : am_M} {n k : Nat} {o : Option am_R} (h : am_B (mu_ m n k) o) : am_B m o := fun r h1 => by
  obtain ⟨⟨a, b, c⟩, d⟩ := h r h1
  exact ⟨⟨Nat.le_trans (Nat.le_add_right _ _) a, Nat.le_trans (Nat.le_add_right _ _) b, c⟩, d⟩
theorem B_q_zz {m : am_M} {o : Option Nat} {f : Nat → Option am_R} {g : Option am_R} (h : ∀ v, am_B m (f v)) (h' : am_B m g) : am_B m (q_zz o f g) := by
  cases o with
  | none => exact h'
  | some v => exact h v
theorem B_q_zir {m : am_M} {S : List Value} {f : Option Nat → Int32 → Nat → List Value → Option am_R} (h : ∀ v0 v1 v2 R, am_B m (f v0 v1 v2 R)) : am_B m (q_zir S f) := fun r h1 => by obtain ⟨v0, v1, v2, R, -, h2⟩ := q_zir_I h1; exact h _ _ _ _ r h2
theorem B_al {m : am_M} {k : Nat × Nat} {n : Nat} {o : Option am_R} (h : am_B (al_ m k n) o) : am_B m o := fun r h1 => by
  obtain ⟨⟨a, b, c⟩, d⟩ := h r h1
  exact ⟨⟨Nat.le_trans (Nat.le_succ _) a, Nat.le_trans (Nat.le_add_right _ _) b, c⟩, d⟩
theorem am_le.tr {m : am_M} {r1 r : am_R} (h : am_le m r1) (h' : am_le r1.2 r) : am_le m r := ⟨Nat.le_trans h.1 h'.1, Nat.le_trans h.2.1 h'.2.1, fun z => h.2.2 (h'.2.2 z)⟩
theorem B_sw {m : am_M} {K : Nat → Option am_R} (h : ∀ t, am_B m (K t)) (x : Int32) (d : Nat) (l : List (Int32 × Nat)) : am_B m (am_sw K x d l) := by
  induction l with
  | nil => exact h d
  | cons q l ih => exact B_gb (h _) ih
theorem B_cc {C : Nat → List Value → am_M → Option am_R} (hC : am_Cm C) {y : Nat} {as : List Value} {m : am_M} {hd : Nat → Nat → Option Int32} {pc t : Nat} {k : List Value → am_M → Option am_R} {R : List Value} (h : ∀ S m, am_B m (k S m)) : am_B m (am_cc hd pc (C y as m) t k R) := by
  intro r h1
  obtain ⟨r1, hr1, h2⟩ := am_cc_I h1
  obtain ⟨a, b⟩ := hC y as m r1 hr1
  rcases h2 with ⟨v, -, h3⟩ | ⟨j, hj, h3⟩
  · obtain ⟨c, d⟩ := h _ _ r h3
    exact ⟨a.tr c, d⟩
  · have e := am_xc_r h3
    refine ⟨⟨by rw [e]; exact a.1, by rw [e]; exact a.2.1, by rw [e]; exact a.2.2⟩, fun _ _ => by rw [e]; exact b j hj⟩
theorem B_c0 {C : Nat → List Value → am_M → Option am_R} (hC : am_Cm C) {y : Nat} {as : List Value} {m : am_M} {k : am_M → Option am_R} (h : ∀ m, am_B m (k m)) : am_B m (am_c0 (C y as m) k (fun _ _ => none)) := by
  intro r h1
  obtain ⟨m1, hr1, h3⟩ := am_c0_I h1
  obtain ⟨a, b⟩ := hC y as m _ hr1
  obtain ⟨c, d⟩ := h _ r h3
  exact ⟨am_le.tr (r1 := (.inl none, m1)) a c, d⟩
theorem B_ci {C : Nat → List Value → am_M → Option am_R} (hC : am_Cm C) {y : Nat} {as : List Value} {m : am_M} {k : Int32 → am_M → Option am_R} (h : ∀ v m, am_B m (k v m)) : am_B m (am_ci (C y as m) k (fun _ _ => none)) := by
  intro r h1
  obtain ⟨v, m1, hr1, h3⟩ := am_ci_I h1
  obtain ⟨a, b⟩ := hC y as m _ hr1
  obtain ⟨c, d⟩ := h _ _ r h3
  exact ⟨am_le.tr (r1 := (.inl (some (.int v)), m1)) a c, d⟩
theorem B_q_i {m : am_M} {S : List Value} {f : Int32 → List Value → Option am_R} (h : ∀ v0 R, am_B m (f v0 R)) : am_B m (q_i S f) := fun r h1 => by obtain ⟨v0, R, -, h2⟩ := q_i_I h1; exact h _ _ r h2
theorem B_q_l {m : am_M} {S : List Value} {f : Int64 → List Value → Option am_R} (h : ∀ v0 R, am_B m (f v0 R)) : am_B m (q_l S f) := fun r h1 => by obtain ⟨v0, R, -, h2⟩ := q_l_I h1; exact h _ _ r h2
theorem B_q_f {m : am_M} {S : List Value} {f : UInt32 → List Value → Option am_R} (h : ∀ v0 R, am_B m (f v0 R)) : am_B m (q_f S f) := fun r h1 => by obtain ⟨v0, R, -, h2⟩ := q_f_I h1; exact h _ _ r h2
theorem B_q_r {m : am_M} {S : List Value} {f : Nat → List Value → Option am_R} (h : ∀ v0 R, am_B m (f v0 R)) : am_B m (q_r S f) := fun r h1 => by obtain ⟨v0, R, -, h2⟩ := q_r_I h1; exact h _ _ r h2
theorem B_q_ii {m : am_M} {S : List Value} {f : Int32 → Int32 → List Value → Option am_R} (h : ∀ v0 v1 R, am_B m (f v0 v1 R)) : am_B m (q_ii S f) := fun r h1 => by obtain ⟨v0, v1, R, -, h2⟩ := q_ii_I h1; exact h _ _ _ r h2
theorem B_q_ll {m : am_M} {S : List Value} {f : Int64 → Int64 → List Value → Option am_R} (h : ∀ v0 v1 R, am_B m (f v0 v1 R)) : am_B m (q_ll S f) := fun r h1 => by obtain ⟨v0, v1, R, -, h2⟩ := q_ll_I h1; exact h _ _ _ r h2
theorem B_q_ff {m : am_M} {S : List Value} {f : UInt32 → UInt32 → List Value → Option am_R} (h : ∀ v0 v1 R, am_B m (f v0 v1 R)) : am_B m (q_ff S f) := fun r h1 => by obtain ⟨v0, v1, R, -, h2⟩ := q_ff_I h1; exact h _ _ _ r h2
theorem B_q_dd {m : am_M} {S : List Value} {f : UInt64 → UInt64 → List Value → Option am_R} (h : ∀ v0 v1 R, am_B m (f v0 v1 R)) : am_B m (q_dd S f) := fun r h1 => by obtain ⟨v0, v1, R, -, h2⟩ := q_dd_I h1; exact h _ _ _ r h2
theorem B_q_il {m : am_M} {S : List Value} {f : Int32 → Int64 → List Value → Option am_R} (h : ∀ v0 v1 R, am_B m (f v0 v1 R)) : am_B m (q_il S f) := fun r h1 => by obtain ⟨v0, v1, R, -, h2⟩ := q_il_I h1; exact h _ _ _ r h2
theorem B_q_ir {m : am_M} {S : List Value} {f : Int32 → Nat → List Value → Option am_R} (h : ∀ v0 v1 R, am_B m (f v0 v1 R)) : am_B m (q_ir S f) := fun r h1 => by obtain ⟨v0, v1, R, -, h2⟩ := q_ir_I h1; exact h _ _ _ r h2
theorem B_q_iir {m : am_M} {S : List Value} {f : Int32 → Int32 → Nat → List Value → Option am_R} (h : ∀ v0 v1 v2 R, am_B m (f v0 v1 v2 R)) : am_B m (q_iir S f) := fun r h1 => by obtain ⟨v0, v1, v2, R, -, h2⟩ := q_iir_I h1; exact h _ _ _ _ r h2
theorem B_q_lir {m : am_M} {S : List Value} {f : Int64 → Int32 → Nat → List Value → Option am_R} (h : ∀ v0 v1 v2 R, am_B m (f v0 v1 v2 R)) : am_B m (q_lir S f) := fun r h1 => by obtain ⟨v0, v1, v2, R, -, h2⟩ := q_lir_I h1; exact h _ _ _ _ r h2
theorem B_q_dir {m : am_M} {S : List Value} {f : UInt64 → Int32 → Nat → List Value → Option am_R} (h : ∀ v0 v1 v2 R, am_B m (f v0 v1 v2 R)) : am_B m (q_dir S f) := fun r h1 => by obtain ⟨v0, v1, v2, R, -, h2⟩ := q_dir_I h1; exact h _ _ _ _ r h2
theorem B_q_rir {m : am_M} {S : List Value} {f : Nat → Int32 → Nat → List Value → Option am_R} (h : ∀ v0 v1 v2 R, am_B m (f v0 v1 v2 R)) : am_B m (q_rir S f) := fun r h1 => by obtain ⟨v0, v1, v2, R, -, h2⟩ := q_rir_I h1; exact h _ _ _ _ r h2
theorem B_q_lr {m : am_M} {S : List Value} {f : Int64 → Nat → List Value → Option am_R} (h : ∀ v0 v1 R, am_B m (f v0 v1 R)) : am_B m (q_lr S f) := fun r h1 => by obtain ⟨v0, v1, R, -, h2⟩ := q_lr_I h1; exact h _ _ _ r h2
theorem B_q_rr {m : am_M} {S : List Value} {f : Nat → Nat → List Value → Option am_R} (h : ∀ v0 v1 R, am_B m (f v0 v1 R)) : am_B m (q_rr S f) := fun r h1 => by obtain ⟨v0, v1, R, -, h2⟩ := q_rr_I h1; exact h _ _ _ r h2
theorem B_q_iirir {m : am_M} {S : List Value} {f : Int32 → Int32 → Nat → Int32 → Nat → List Value → Option am_R} (h : ∀ v0 v1 v2 v3 v4 R, am_B m (f v0 v1 v2 v3 v4 R)) : am_B m (q_iirir S f) := fun r h1 => by obtain ⟨v0, v1, v2, v3, v4, R, -, h2⟩ := q_iirir_I h1; exact h _ _ _ _ _ _ r h2
theorem B_q_gi {m : am_M} {S : Option Value} {f : Int32 → Option am_R} (h : ∀ v, am_B m (f v)) : am_B m (q_gi S f) := fun r h1 => by obtain ⟨v, -, h2⟩ := q_gi_I h1; exact h v r h2
theorem B_q_gl {m : am_M} {S : Option Value} {f : Int64 → Option am_R} (h : ∀ v, am_B m (f v)) : am_B m (q_gl S f) := fun r h1 => by obtain ⟨v, -, h2⟩ := q_gl_I h1; exact h v r h2
theorem B_q_gf {m : am_M} {S : Option Value} {f : UInt32 → Option am_R} (h : ∀ v, am_B m (f v)) : am_B m (q_gf S f) := fun r h1 => by obtain ⟨v, -, h2⟩ := q_gf_I h1; exact h v r h2
theorem B_q_gr {m : am_M} {S : Option Value} {f : Nat → Option am_R} (h : ∀ v, am_B m (f v)) : am_B m (q_gr S f) := fun r h1 => by obtain ⟨v, -, h2⟩ := q_gr_I h1; exact h v r h2
set_option maxHeartbeats 4000000 in
theorem am_st_B (sa sv : Nat) {K : am_K} {C : Nat → List Value → am_M → Option am_R} {hd : Nat → Nat → Option Int32} {pc : Nat} {i : Instr} {x : am_X} {k : am_L → List Value → am_M → Option am_R} (hC : am_Cm C) (hK : ∀ pc L S m, am_B m (K pc L S m)) (hk : ∀ L S m, am_B m (k L S m)) (L : am_L) (S : List Value) (m : am_M) : am_B m (am_st sa sv K C hd pc i x k L S m) := by
  obtain ⟨x1, x2, x3, x4, x5, x6, x7⟩ := x
  cases i
  case getfield => rcases x3 with _ | _ | _ | _ | _ | _ | _ | _ | _ | x3 <;> dsimp only [am_st] <;> (repeat first | exact hk _ _ _ | exact B_n | exact B_s | exact B_th | exact hK _ _ _ _ | exact B_sr (B_si (hk _ _ _)) | exact B_si (hk _ _ _) | exact B_sl (hk _ _ _) | exact B_sr (hk _ _ _) | exact B_sd (hk _ _ _) | exact B_ri (hk _ _ _) | exact B_rl (hk _ _ _) | exact B_al (hk _ _ _) | exact B_rr (hk _ _ _) | exact B_mu (hk _ _ _) | exact B_al (B_ri (hk _ _ _)) | refine B_q_zir (fun _ _ _ _ => ?_) | refine B_q_zz (fun _ => ?_) ?_ | refine B_sw (fun _ => ?_) _ _ _ | refine B_gq ?_ | refine B_gb ?_ ?_ | refine B_bif ?_ ?_ | refine B_cc hC (fun _ _ => ?_) | refine B_c0 hC (fun _ => ?_) | refine B_ci hC (fun _ _ => ?_) | refine B_q_i (fun _ _ => ?_) | refine B_q_l (fun _ _ => ?_) | refine B_q_f (fun _ _ => ?_) | refine B_q_r (fun _ _ => ?_) | refine B_q_ii (fun _ _ _ => ?_) | refine B_q_ll (fun _ _ _ => ?_) | refine B_q_ff (fun _ _ _ => ?_) | refine B_q_dd (fun _ _ _ => ?_) | refine B_q_il (fun _ _ _ => ?_) | refine B_q_ir (fun _ _ _ => ?_) | refine B_q_iir (fun _ _ _ _ => ?_) | refine B_q_lir (fun _ _ _ _ => ?_) | refine B_q_dir (fun _ _ _ _ => ?_) | refine B_q_rir (fun _ _ _ _ => ?_) | refine B_q_lr (fun _ _ _ => ?_) | refine B_q_rr (fun _ _ _ => ?_) | refine B_q_iirir (fun _ _ _ _ _ _ => ?_) | refine B_q_gi (fun _ => ?_) | refine B_q_gl (fun _ => ?_) | refine B_q_gf (fun _ => ?_) | refine B_q_gr (fun _ => ?_) | refine B_q_o (fun _ => ?_))
  case putfield => rcases x3 with _ | _ | _ | _ | _ | _ | _ | x3 <;> dsimp only [am_st] <;> (repeat first | exact hk _ _ _ | exact B_n | exact B_s | exact B_th | exact hK _ _ _ _ | exact B_sr (B_si (hk _ _ _)) | exact B_si (hk _ _ _) | exact B_sl (hk _ _ _) | exact B_sr (hk _ _ _) | exact B_sd (hk _ _ _) | exact B_ri (hk _ _ _) | exact B_rl (hk _ _ _) | exact B_al (hk _ _ _) | exact B_rr (hk _ _ _) | exact B_mu (hk _ _ _) | exact B_al (B_ri (hk _ _ _)) | refine B_q_zir (fun _ _ _ _ => ?_) | refine B_q_zz (fun _ => ?_) ?_ | refine B_sw (fun _ => ?_) _ _ _ | refine B_gq ?_ | refine B_gb ?_ ?_ | refine B_bif ?_ ?_ | refine B_cc hC (fun _ _ => ?_) | refine B_c0 hC (fun _ => ?_) | refine B_ci hC (fun _ _ => ?_) | refine B_q_i (fun _ _ => ?_) | refine B_q_l (fun _ _ => ?_) | refine B_q_f (fun _ _ => ?_) | refine B_q_r (fun _ _ => ?_) | refine B_q_ii (fun _ _ _ => ?_) | refine B_q_ll (fun _ _ _ => ?_) | refine B_q_ff (fun _ _ _ => ?_) | refine B_q_dd (fun _ _ _ => ?_) | refine B_q_il (fun _ _ _ => ?_) | refine B_q_ir (fun _ _ _ => ?_) | refine B_q_iir (fun _ _ _ _ => ?_) | refine B_q_lir (fun _ _ _ _ => ?_) | refine B_q_dir (fun _ _ _ _ => ?_) | refine B_q_rir (fun _ _ _ _ => ?_) | refine B_q_lr (fun _ _ _ => ?_) | refine B_q_rr (fun _ _ _ => ?_) | refine B_q_iirir (fun _ _ _ _ _ _ => ?_) | refine B_q_gi (fun _ => ?_) | refine B_q_gl (fun _ => ?_) | refine B_q_gf (fun _ => ?_) | refine B_q_gr (fun _ => ?_) | refine B_q_o (fun _ => ?_))
  case new => rcases x3 with _ | _ | x3 <;> dsimp only [am_st] <;> (repeat first | exact hk _ _ _ | exact B_n | exact B_s | exact B_th | exact hK _ _ _ _ | exact B_sr (B_si (hk _ _ _)) | exact B_si (hk _ _ _) | exact B_sl (hk _ _ _) | exact B_sr (hk _ _ _) | exact B_sd (hk _ _ _) | exact B_ri (hk _ _ _) | exact B_rl (hk _ _ _) | exact B_al (hk _ _ _) | exact B_rr (hk _ _ _) | exact B_mu (hk _ _ _) | exact B_al (B_ri (hk _ _ _)) | refine B_q_zir (fun _ _ _ _ => ?_) | refine B_q_zz (fun _ => ?_) ?_ | refine B_sw (fun _ => ?_) _ _ _ | refine B_gq ?_ | refine B_gb ?_ ?_ | refine B_bif ?_ ?_ | refine B_cc hC (fun _ _ => ?_) | refine B_c0 hC (fun _ => ?_) | refine B_ci hC (fun _ _ => ?_) | refine B_q_i (fun _ _ => ?_) | refine B_q_l (fun _ _ => ?_) | refine B_q_f (fun _ _ => ?_) | refine B_q_r (fun _ _ => ?_) | refine B_q_ii (fun _ _ _ => ?_) | refine B_q_ll (fun _ _ _ => ?_) | refine B_q_ff (fun _ _ _ => ?_) | refine B_q_dd (fun _ _ _ => ?_) | refine B_q_il (fun _ _ _ => ?_) | refine B_q_ir (fun _ _ _ => ?_) | refine B_q_iir (fun _ _ _ _ => ?_) | refine B_q_lir (fun _ _ _ _ => ?_) | refine B_q_dir (fun _ _ _ _ => ?_) | refine B_q_rir (fun _ _ _ _ => ?_) | refine B_q_lr (fun _ _ _ => ?_) | refine B_q_rr (fun _ _ _ => ?_) | refine B_q_iirir (fun _ _ _ _ _ _ => ?_) | refine B_q_gi (fun _ => ?_) | refine B_q_gl (fun _ => ?_) | refine B_q_gf (fun _ => ?_) | refine B_q_gr (fun _ => ?_) | refine B_q_o (fun _ => ?_))
  case ireturn => rcases x1 with _ | _ | _ | x1 <;> dsimp only [am_st] <;> (repeat first | exact hk _ _ _ | exact B_n | exact B_s | exact B_th | exact hK _ _ _ _ | exact B_sr (B_si (hk _ _ _)) | exact B_si (hk _ _ _) | exact B_sl (hk _ _ _) | exact B_sr (hk _ _ _) | exact B_sd (hk _ _ _) | exact B_ri (hk _ _ _) | exact B_rl (hk _ _ _) | exact B_al (hk _ _ _) | exact B_rr (hk _ _ _) | exact B_mu (hk _ _ _) | exact B_al (B_ri (hk _ _ _)) | refine B_q_zir (fun _ _ _ _ => ?_) | refine B_q_zz (fun _ => ?_) ?_ | refine B_sw (fun _ => ?_) _ _ _ | refine B_gq ?_ | refine B_gb ?_ ?_ | refine B_bif ?_ ?_ | refine B_cc hC (fun _ _ => ?_) | refine B_c0 hC (fun _ => ?_) | refine B_ci hC (fun _ _ => ?_) | refine B_q_i (fun _ _ => ?_) | refine B_q_l (fun _ _ => ?_) | refine B_q_f (fun _ _ => ?_) | refine B_q_r (fun _ _ => ?_) | refine B_q_ii (fun _ _ _ => ?_) | refine B_q_ll (fun _ _ _ => ?_) | refine B_q_ff (fun _ _ _ => ?_) | refine B_q_dd (fun _ _ _ => ?_) | refine B_q_il (fun _ _ _ => ?_) | refine B_q_ir (fun _ _ _ => ?_) | refine B_q_iir (fun _ _ _ _ => ?_) | refine B_q_lir (fun _ _ _ _ => ?_) | refine B_q_dir (fun _ _ _ _ => ?_) | refine B_q_rir (fun _ _ _ _ => ?_) | refine B_q_lr (fun _ _ _ => ?_) | refine B_q_rr (fun _ _ _ => ?_) | refine B_q_iirir (fun _ _ _ _ _ _ => ?_) | refine B_q_gi (fun _ => ?_) | refine B_q_gl (fun _ => ?_) | refine B_q_gf (fun _ => ?_) | refine B_q_gr (fun _ => ?_) | refine B_q_o (fun _ => ?_))
  case invokestatic => rcases x4 with _ | _ | _ | _ | _ | _ | x4 <;> dsimp only [am_st] <;> (repeat first | exact hk _ _ _ | exact B_n | exact B_s | exact B_th | exact hK _ _ _ _ | exact B_sr (B_si (hk _ _ _)) | exact B_si (hk _ _ _) | exact B_sl (hk _ _ _) | exact B_sr (hk _ _ _) | exact B_sd (hk _ _ _) | exact B_ri (hk _ _ _) | exact B_rl (hk _ _ _) | exact B_al (hk _ _ _) | exact B_rr (hk _ _ _) | exact B_mu (hk _ _ _) | exact B_al (B_ri (hk _ _ _)) | refine B_q_zir (fun _ _ _ _ => ?_) | refine B_q_zz (fun _ => ?_) ?_ | refine B_sw (fun _ => ?_) _ _ _ | refine B_gq ?_ | refine B_gb ?_ ?_ | refine B_bif ?_ ?_ | refine B_cc hC (fun _ _ => ?_) | refine B_c0 hC (fun _ => ?_) | refine B_ci hC (fun _ _ => ?_) | refine B_q_i (fun _ _ => ?_) | refine B_q_l (fun _ _ => ?_) | refine B_q_f (fun _ _ => ?_) | refine B_q_r (fun _ _ => ?_) | refine B_q_ii (fun _ _ _ => ?_) | refine B_q_ll (fun _ _ _ => ?_) | refine B_q_ff (fun _ _ _ => ?_) | refine B_q_dd (fun _ _ _ => ?_) | refine B_q_il (fun _ _ _ => ?_) | refine B_q_ir (fun _ _ _ => ?_) | refine B_q_iir (fun _ _ _ _ => ?_) | refine B_q_lir (fun _ _ _ _ => ?_) | refine B_q_dir (fun _ _ _ _ => ?_) | refine B_q_rir (fun _ _ _ _ => ?_) | refine B_q_lr (fun _ _ _ => ?_) | refine B_q_rr (fun _ _ _ => ?_) | refine B_q_iirir (fun _ _ _ _ _ _ => ?_) | refine B_q_gi (fun _ => ?_) | refine B_q_gl (fun _ => ?_) | refine B_q_gf (fun _ => ?_) | refine B_q_gr (fun _ => ?_) | refine B_q_o (fun _ => ?_))
  case ldc => rcases x1 with _ | _ | _ | _ | x1 <;> dsimp only [am_st] <;> (repeat first | exact hk _ _ _ | exact B_n | exact B_s | exact B_th | exact hK _ _ _ _ | exact B_sr (B_si (hk _ _ _)) | exact B_si (hk _ _ _) | exact B_sl (hk _ _ _) | exact B_sr (hk _ _ _) | exact B_sd (hk _ _ _) | exact B_ri (hk _ _ _) | exact B_rl (hk _ _ _) | exact B_al (hk _ _ _) | exact B_rr (hk _ _ _) | exact B_mu (hk _ _ _) | exact B_al (B_ri (hk _ _ _)) | refine B_q_zir (fun _ _ _ _ => ?_) | refine B_q_zz (fun _ => ?_) ?_ | refine B_sw (fun _ => ?_) _ _ _ | refine B_gq ?_ | refine B_gb ?_ ?_ | refine B_bif ?_ ?_ | refine B_cc hC (fun _ _ => ?_) | refine B_c0 hC (fun _ => ?_) | refine B_ci hC (fun _ _ => ?_) | refine B_q_i (fun _ _ => ?_) | refine B_q_l (fun _ _ => ?_) | refine B_q_f (fun _ _ => ?_) | refine B_q_r (fun _ _ => ?_) | refine B_q_ii (fun _ _ _ => ?_) | refine B_q_ll (fun _ _ _ => ?_) | refine B_q_ff (fun _ _ _ => ?_) | refine B_q_dd (fun _ _ _ => ?_) | refine B_q_il (fun _ _ _ => ?_) | refine B_q_ir (fun _ _ _ => ?_) | refine B_q_iir (fun _ _ _ _ => ?_) | refine B_q_lir (fun _ _ _ _ => ?_) | refine B_q_dir (fun _ _ _ _ => ?_) | refine B_q_rir (fun _ _ _ _ => ?_) | refine B_q_lr (fun _ _ _ => ?_) | refine B_q_rr (fun _ _ _ => ?_) | refine B_q_iirir (fun _ _ _ _ _ _ => ?_) | refine B_q_gi (fun _ => ?_) | refine B_q_gl (fun _ => ?_) | refine B_q_gf (fun _ => ?_) | refine B_q_gr (fun _ => ?_) | refine B_q_o (fun _ => ?_))
  case getstatic => rcases x1 with _ | _ | x1 <;> dsimp only [am_st] <;> (repeat first | exact hk _ _ _ | exact B_n | exact B_s | exact B_th | exact hK _ _ _ _ | exact B_sr (B_si (hk _ _ _)) | exact B_si (hk _ _ _) | exact B_sl (hk _ _ _) | exact B_sr (hk _ _ _) | exact B_sd (hk _ _ _) | exact B_ri (hk _ _ _) | exact B_rl (hk _ _ _) | exact B_al (hk _ _ _) | exact B_rr (hk _ _ _) | exact B_mu (hk _ _ _) | exact B_al (B_ri (hk _ _ _)) | refine B_q_zir (fun _ _ _ _ => ?_) | refine B_q_zz (fun _ => ?_) ?_ | refine B_sw (fun _ => ?_) _ _ _ | refine B_gq ?_ | refine B_gb ?_ ?_ | refine B_bif ?_ ?_ | refine B_cc hC (fun _ _ => ?_) | refine B_c0 hC (fun _ => ?_) | refine B_ci hC (fun _ _ => ?_) | refine B_q_i (fun _ _ => ?_) | refine B_q_l (fun _ _ => ?_) | refine B_q_f (fun _ _ => ?_) | refine B_q_r (fun _ _ => ?_) | refine B_q_ii (fun _ _ _ => ?_) | refine B_q_ll (fun _ _ _ => ?_) | refine B_q_ff (fun _ _ _ => ?_) | refine B_q_dd (fun _ _ _ => ?_) | refine B_q_il (fun _ _ _ => ?_) | refine B_q_ir (fun _ _ _ => ?_) | refine B_q_iir (fun _ _ _ _ => ?_) | refine B_q_lir (fun _ _ _ _ => ?_) | refine B_q_dir (fun _ _ _ _ => ?_) | refine B_q_rir (fun _ _ _ _ => ?_) | refine B_q_lr (fun _ _ _ => ?_) | refine B_q_rr (fun _ _ _ => ?_) | refine B_q_iirir (fun _ _ _ _ _ _ => ?_) | refine B_q_gi (fun _ => ?_) | refine B_q_gl (fun _ => ?_) | refine B_q_gf (fun _ => ?_) | refine B_q_gr (fun _ => ?_) | refine B_q_o (fun _ => ?_))
  case if_acmp c o => cases c <;> dsimp only [am_st] <;> (repeat first | exact hk _ _ _ | exact B_n | exact B_s | exact B_th | exact hK _ _ _ _ | exact B_sr (B_si (hk _ _ _)) | exact B_si (hk _ _ _) | exact B_sl (hk _ _ _) | exact B_sr (hk _ _ _) | exact B_sd (hk _ _ _) | exact B_ri (hk _ _ _) | exact B_rl (hk _ _ _) | exact B_al (hk _ _ _) | exact B_rr (hk _ _ _) | exact B_mu (hk _ _ _) | exact B_al (B_ri (hk _ _ _)) | refine B_q_zir (fun _ _ _ _ => ?_) | refine B_q_zz (fun _ => ?_) ?_ | refine B_sw (fun _ => ?_) _ _ _ | refine B_gq ?_ | refine B_gb ?_ ?_ | refine B_bif ?_ ?_ | refine B_cc hC (fun _ _ => ?_) | refine B_c0 hC (fun _ => ?_) | refine B_ci hC (fun _ _ => ?_) | refine B_q_i (fun _ _ => ?_) | refine B_q_l (fun _ _ => ?_) | refine B_q_f (fun _ _ => ?_) | refine B_q_r (fun _ _ => ?_) | refine B_q_ii (fun _ _ _ => ?_) | refine B_q_ll (fun _ _ _ => ?_) | refine B_q_ff (fun _ _ _ => ?_) | refine B_q_dd (fun _ _ _ => ?_) | refine B_q_il (fun _ _ _ => ?_) | refine B_q_ir (fun _ _ _ => ?_) | refine B_q_iir (fun _ _ _ _ => ?_) | refine B_q_lir (fun _ _ _ _ => ?_) | refine B_q_dir (fun _ _ _ _ => ?_) | refine B_q_rir (fun _ _ _ _ => ?_) | refine B_q_lr (fun _ _ _ => ?_) | refine B_q_rr (fun _ _ _ => ?_) | refine B_q_iirir (fun _ _ _ _ _ _ => ?_) | refine B_q_gi (fun _ => ?_) | refine B_q_gl (fun _ => ?_) | refine B_q_gf (fun _ => ?_) | refine B_q_gr (fun _ => ?_) | refine B_q_o (fun _ => ?_))
  case invokespecial => rcases x4 with _ | _ | _ | _ | _ | x4 <;> dsimp only [am_st] <;> (repeat first | exact hk _ _ _ | exact B_n | exact B_s | exact B_th | exact hK _ _ _ _ | exact B_sr (B_si (hk _ _ _)) | exact B_si (hk _ _ _) | exact B_sl (hk _ _ _) | exact B_sr (hk _ _ _) | exact B_sd (hk _ _ _) | exact B_ri (hk _ _ _) | exact B_rl (hk _ _ _) | exact B_al (hk _ _ _) | exact B_rr (hk _ _ _) | exact B_mu (hk _ _ _) | exact B_al (B_ri (hk _ _ _)) | refine B_q_zir (fun _ _ _ _ => ?_) | refine B_q_zz (fun _ => ?_) ?_ | refine B_sw (fun _ => ?_) _ _ _ | refine B_gq ?_ | refine B_gb ?_ ?_ | refine B_bif ?_ ?_ | refine B_cc hC (fun _ _ => ?_) | refine B_c0 hC (fun _ => ?_) | refine B_ci hC (fun _ _ => ?_) | refine B_q_i (fun _ _ => ?_) | refine B_q_l (fun _ _ => ?_) | refine B_q_f (fun _ _ => ?_) | refine B_q_r (fun _ _ => ?_) | refine B_q_ii (fun _ _ _ => ?_) | refine B_q_ll (fun _ _ _ => ?_) | refine B_q_ff (fun _ _ _ => ?_) | refine B_q_dd (fun _ _ _ => ?_) | refine B_q_il (fun _ _ _ => ?_) | refine B_q_ir (fun _ _ _ => ?_) | refine B_q_iir (fun _ _ _ _ => ?_) | refine B_q_lir (fun _ _ _ _ => ?_) | refine B_q_dir (fun _ _ _ _ => ?_) | refine B_q_rir (fun _ _ _ _ => ?_) | refine B_q_lr (fun _ _ _ => ?_) | refine B_q_rr (fun _ _ _ => ?_) | refine B_q_iirir (fun _ _ _ _ _ _ => ?_) | refine B_q_gi (fun _ => ?_) | refine B_q_gl (fun _ => ?_) | refine B_q_gf (fun _ => ?_) | refine B_q_gr (fun _ => ?_) | refine B_q_o (fun _ => ?_))
  case ifCond c o => cases c <;> dsimp only [am_st] <;> (repeat first | exact hk _ _ _ | exact B_n | exact B_s | exact B_th | exact hK _ _ _ _ | exact B_sr (B_si (hk _ _ _)) | exact B_si (hk _ _ _) | exact B_sl (hk _ _ _) | exact B_sr (hk _ _ _) | exact B_sd (hk _ _ _) | exact B_ri (hk _ _ _) | exact B_rl (hk _ _ _) | exact B_al (hk _ _ _) | exact B_rr (hk _ _ _) | exact B_mu (hk _ _ _) | exact B_al (B_ri (hk _ _ _)) | refine B_q_zir (fun _ _ _ _ => ?_) | refine B_q_zz (fun _ => ?_) ?_ | refine B_sw (fun _ => ?_) _ _ _ | refine B_gq ?_ | refine B_gb ?_ ?_ | refine B_bif ?_ ?_ | refine B_cc hC (fun _ _ => ?_) | refine B_c0 hC (fun _ => ?_) | refine B_ci hC (fun _ _ => ?_) | refine B_q_i (fun _ _ => ?_) | refine B_q_l (fun _ _ => ?_) | refine B_q_f (fun _ _ => ?_) | refine B_q_r (fun _ _ => ?_) | refine B_q_ii (fun _ _ _ => ?_) | refine B_q_ll (fun _ _ _ => ?_) | refine B_q_ff (fun _ _ _ => ?_) | refine B_q_dd (fun _ _ _ => ?_) | refine B_q_il (fun _ _ _ => ?_) | refine B_q_ir (fun _ _ _ => ?_) | refine B_q_iir (fun _ _ _ _ => ?_) | refine B_q_lir (fun _ _ _ _ => ?_) | refine B_q_dir (fun _ _ _ _ => ?_) | refine B_q_rir (fun _ _ _ _ => ?_) | refine B_q_lr (fun _ _ _ => ?_) | refine B_q_rr (fun _ _ _ => ?_) | refine B_q_iirir (fun _ _ _ _ _ _ => ?_) | refine B_q_gi (fun _ => ?_) | refine B_q_gl (fun _ => ?_) | refine B_q_gf (fun _ => ?_) | refine B_q_gr (fun _ => ?_) | refine B_q_o (fun _ => ?_))
  case if_icmp c o => cases c <;> dsimp only [am_st] <;> (repeat first | exact hk _ _ _ | exact B_n | exact B_s | exact B_th | exact hK _ _ _ _ | exact B_sr (B_si (hk _ _ _)) | exact B_si (hk _ _ _) | exact B_sl (hk _ _ _) | exact B_sr (hk _ _ _) | exact B_sd (hk _ _ _) | exact B_ri (hk _ _ _) | exact B_rl (hk _ _ _) | exact B_al (hk _ _ _) | exact B_rr (hk _ _ _) | exact B_mu (hk _ _ _) | exact B_al (B_ri (hk _ _ _)) | refine B_q_zir (fun _ _ _ _ => ?_) | refine B_q_zz (fun _ => ?_) ?_ | refine B_sw (fun _ => ?_) _ _ _ | refine B_gq ?_ | refine B_gb ?_ ?_ | refine B_bif ?_ ?_ | refine B_cc hC (fun _ _ => ?_) | refine B_c0 hC (fun _ => ?_) | refine B_ci hC (fun _ _ => ?_) | refine B_q_i (fun _ _ => ?_) | refine B_q_l (fun _ _ => ?_) | refine B_q_f (fun _ _ => ?_) | refine B_q_r (fun _ _ => ?_) | refine B_q_ii (fun _ _ _ => ?_) | refine B_q_ll (fun _ _ _ => ?_) | refine B_q_ff (fun _ _ _ => ?_) | refine B_q_dd (fun _ _ _ => ?_) | refine B_q_il (fun _ _ _ => ?_) | refine B_q_ir (fun _ _ _ => ?_) | refine B_q_iir (fun _ _ _ _ => ?_) | refine B_q_lir (fun _ _ _ _ => ?_) | refine B_q_dir (fun _ _ _ _ => ?_) | refine B_q_rir (fun _ _ _ _ => ?_) | refine B_q_lr (fun _ _ _ => ?_) | refine B_q_rr (fun _ _ _ => ?_) | refine B_q_iirir (fun _ _ _ _ _ _ => ?_) | refine B_q_gi (fun _ => ?_) | refine B_q_gl (fun _ => ?_) | refine B_q_gf (fun _ => ?_) | refine B_q_gr (fun _ => ?_) | refine B_q_o (fun _ => ?_))
  all_goals dsimp only [am_st]
  all_goals (repeat first | exact hk _ _ _ | exact B_n | exact B_s | exact B_th | exact hK _ _ _ _ | exact B_sr (B_si (hk _ _ _)) | exact B_si (hk _ _ _) | exact B_sl (hk _ _ _) | exact B_sr (hk _ _ _) | exact B_sd (hk _ _ _) | exact B_ri (hk _ _ _) | exact B_rl (hk _ _ _) | exact B_al (hk _ _ _) | exact B_rr (hk _ _ _) | exact B_mu (hk _ _ _) | exact B_al (B_ri (hk _ _ _)) | refine B_q_zir (fun _ _ _ _ => ?_) | refine B_q_zz (fun _ => ?_) ?_ | refine B_sw (fun _ => ?_) _ _ _ | refine B_gq ?_ | refine B_gb ?_ ?_ | refine B_bif ?_ ?_ | refine B_cc hC (fun _ _ => ?_) | refine B_c0 hC (fun _ => ?_) | refine B_ci hC (fun _ _ => ?_) | refine B_q_i (fun _ _ => ?_) | refine B_q_l (fun _ _ => ?_) | refine B_q_f (fun _ _ => ?_) | refine B_q_r (fun _ _ => ?_) | refine B_q_ii (fun _ _ _ => ?_) | refine B_q_ll (fun _ _ _ => ?_) | refine B_q_ff (fun _ _ _ => ?_) | refine B_q_dd (fun _ _ _ => ?_) | refine B_q_il (fun _ _ _ => ?_) | refine B_q_ir (fun _ _ _ => ?_) | refine B_q_iir (fun _ _ _ _ => ?_) | refine B_q_lir (fun _ _ _ _ => ?_) | refine B_q_dir (fun _ _ _ _ => ?_) | refine B_q_rir (fun _ _ _ _ => ?_) | refine B_q_lr (fun _ _ _ => ?_) | refine B_q_rr (fun _ _ _ => ?_) | refine B_q_iirir (fun _ _ _ _ _ _ => ?_) | refine B_q_gi (fun _ => ?_) | refine B_q_gl (fun _ => ?_) | refine B_q_gf (fun _ => ?_) | refine B_q_gr (fun _ => ?_) | refine B_q_o (fun _ => ?_))
theorem am_sg_B (sa sv : Nat) {K : am_K} {C : Nat → List Value → am_M → Option am_R} {hd : Nat → Nat → Option Int32} (hC : am_Cm C) (hK : ∀ pc L S m, am_B m (K pc L S m)) (is : List am_I) : ∀ L S m, am_B m (am_sg sa sv K C hd is L S m) := by
  induction is with
  | nil => exact fun _ _ _ => B_n
  | cons q r ih => exact fun L S m => am_st_B sa sv hC hK ih L S m
theorem am_ex_B (sa sv : Nat) {C : Nat → List Value → am_M → Option am_R} {hd : Nat → Nat → Option Int32} (hC : am_Cm C) (is : List am_I) (n : Nat) : ∀ pc L S m, am_B m (am_ex sa sv C hd is n pc L S m) := by
  induction n with
  | zero => exact fun _ _ _ _ => B_n
  | succ n ih => exact fun pc L S m => am_sg_B sa sv hC ih _ L S m
/-! a method's entry -/
def am_sl : List Value → am_L
  | [] => []
  | v :: r => some v :: (bif am_c2 (some v) then none :: am_sl r else am_sl r)
def am_pd : Nat → am_L → am_L
  | 0, _ => []
  | n + 1, [] => none :: am_pd n []
  | n + 1, o :: L => o :: am_pd n L
def am_en (n : Nat) (as : List Value) : am_L := am_pd n (am_sl as)
/-- a method with handlers answers, or it isn't told -/
def am_nx (b : Bool) (o : Option am_R) : Option am_R := bif b then o else match o with
  | some (.inl v, m) => some (.inl v, m)
  | _ => none
theorem am_nx_I {b : Bool} {o : Option am_R} {r : am_R} (h : am_nx b o = some r) : o = some r ∧ (b = false → ∃ v, r.1 = .inl v) := by
  cases b with
  | true => exact ⟨h, fun z => nomatch z⟩
  | false =>
    rcases o with _ | ⟨v | j, m⟩
    · cases h
    · cases h
      exact ⟨rfl, fun _ => ⟨v, rfl⟩⟩
    · cases h
/-- the calls: at most d deep -/
noncomputable def am_ca (sa sv : Nat) : Nat → Nat → List Value → am_M → Option am_R
  | 0 => fun _ _ _ => none
  | d + 1 => fun y as m => bif (am_sl as).length.ble (am_ml y) then am_nx (am_hh y).isEmpty (am_rn sa sv (am_ca sa sv d) (am_hd y) (am_cd y) 0 (am_en (am_ml y) as) [] m) else none
theorem am_ca_I {sa sv d y : Nat} {as : List Value} {m : am_M} {r : am_R} (h : am_ca sa sv (d + 1) y as m = some r) : (am_sl as).length ≤ am_ml y ∧ am_rn sa sv (am_ca sa sv d) (am_hd y) (am_cd y) 0 (am_en (am_ml y) as) [] m = some r ∧ ((am_hh y).isEmpty = false → ∃ v, r.1 = .inl v) := by
  obtain ⟨h1, h2⟩ := am_bif (show (bif (am_sl as).length.ble (am_ml y) then am_nx (am_hh y).isEmpty (am_rn sa sv (am_ca sa sv d) (am_hd y) (am_cd y) 0 (am_en (am_ml y) as) [] m) else none) = some r from h)
  exact ⟨Nat.le_of_ble_eq_true h1, am_nx_I h2⟩
theorem am_ca_m (sa sv : Nat) : ∀ d, am_Cm (am_ca sa sv d) := by
  intro d
  induction d with
  | zero => exact fun _ _ _ _ h => nomatch h
  | succ d ih =>
    intro y as m r h
    obtain ⟨n, hn⟩ := am_rn_some _ _ _ _ _ (am_ca_I h).2.1
    exact am_ex_B sa sv ih _ n _ _ _ _ r hn
theorem am_pd_g : ∀ (n : Nat) (L : am_L) (i : Nat) (v : Value), am_lg (am_pd n L) i = some v → am_lg L i = some v := by
  intro n
  induction n with
  | zero => intro L i v h; cases h
  | succ n ih =>
    intro L i v h
    cases L with
    | nil =>
      cases i with
      | zero => cases h
      | succ i => exact absurd (ih [] i v h) (fun z => nomatch z)
    | cons o L =>
      cases i with
      | zero => exact h
      | succ i => exact ih L i v h
theorem am_sl_g : ∀ (as : List Value) (j i : Nat) (v : Value), am_lg (am_sl as) i = some v → (j + i, v) ∈ lv_args j as := by
  intro as
  induction as with
  | nil => intro j i v h; cases h
  | cons w r ih =>
    intro j i v h
    cases i with
    | zero =>
      cases h
      exact List.mem_cons_self
    | succ i =>
      refine List.mem_cons_of_mem _ ?_
      have h : am_lg (bif am_c2 (some w) then none :: am_sl r else am_sl r) i = some v := h
      cases hc : am_c2 (some w) with
      | true =>
        rw [hc] at h
        rw [if_pos ((am_c2_iff w).mp hc)]
        cases i with
        | zero => cases h
        | succ i =>
          have h1 := ih (j + 2) i v h
          rwa [show j + 2 + i = j + (i + 1 + 1) by omega] at h1
      | false =>
        rw [hc] at h
        rw [if_neg (fun z => by rw [(am_c2_iff w).mpr z] at hc; cases hc)]
        have h1 := ih (j + 1) i v h
        rwa [show j + 1 + i = j + (i + 1) by omega] at h1
theorem am_en_ok {ls : Array Slot} {n : Nat} {as : List Value} (h : lv_has ls n (lv_args 0 as)) : am_LH ls n (am_en n as) := by
  refine ⟨h.1, h.2.1, fun i v hv => h.2.2 (i, v) ?_⟩
  have h1 := am_sl_g as 0 i v (am_pd_g n _ i v hv)
  rwa [Nat.zero_add] at h1
/-! String.checkIndex -/
abbrev yPc : MethodName := ⟨"jdk/internal/util/Preconditions", "checkIndex", "(IILjava/util/function/BiFunction;)I"⟩
abbrev ySc : MethodName := ⟨"java/lang/String", "checkIndex", "(II)V"⟩
theorem am_cbG {R : Room} {s : State} {args : Array Value} {d : Nat} {own : String} (hts : ∀ w ∈ am_GW, w.before args s = true) {y : MethodName} {bytes : ByteArray} {maxL ix n mc ms : Nat} {ret : Option FieldType} (hc : Cond.code y bytes maxL ret ∈ am_GW) (hi : Cond.initialized y.cls ∈ am_GW) (hw : Cond.methodLink own ix y ∈ am_GW)
    (hd : y.cls ≠ "java/lang/invoke/MethodHandle" ∧ y.cls ≠ "java/lang/invoke/VarHandle" ∧ (parseMethodDescriptor y.desc).map (fun d => d.parameters.length) = some n) (hm : maxL ≤ 21) (hfr : 1 + d ≤ R.frames) (hlo : 40 + 40 * d ≤ R.locals) :
    CallB R s args own ix y bytes maxL ret (Cond.code y bytes maxL ret :: am_GW) { frames := d, cells := mc, slots := ms, locals := 40 * d } mc ms n := by
  refine ⟨rfl, rfl, by show d + 1 ≤ _; omega, by show 8 + (maxL + 11) + 40 * d ≤ _; omega, fun w hw a' U hW => ?_, List.mem_cons_self, hts _ hc, hts _ hi, ⟨hd.1, hd.2.1⟩, fun sig h => ?_, hts _ hw⟩
  · have hG : w ∈ am_GW := (List.mem_cons.mp hw).elim (fun e => by rw [e]; exact hc) id
    exact am_ow_warm (List.mem_filter.mp hG).2 hW (hts w hG)
  · have h2 := hd.2.2
    rw [h] at h2
    exact (Option.some.inj h2).symm
theorem dP0 : decode prog_51_method_11_code 0 = .ok (.iload_n 0, 1) := by decide +kernel
theorem dP1 : decode prog_51_method_11_code 1 = .ok (.ifCond .lt 8, 3) := by decide +kernel
theorem dP4 : decode prog_51_method_11_code 4 = .ok (.iload_n 0, 1) := by decide +kernel
theorem dP5 : decode prog_51_method_11_code 5 = .ok (.iload_n 1, 1) := by decide +kernel
theorem dP6 : decode prog_51_method_11_code 6 = .ok (.if_icmp .lt 10, 3) := by decide +kernel
theorem dP16 : decode prog_51_method_11_code 16 = .ok (.iload_n 0, 1) := by decide +kernel
theorem dP17 : decode prog_51_method_11_code 17 = .ok (.ireturn, 1) := by decide +kernel
theorem so_pchk (l : Launch) (E : am_E) (m : am_M) {i n : Int32} (w : Value) (hw : w = .null ∨ ∃ t, w = .ref t) (h0 : ¬ i < 0) (h1 : i < n) :
    Met l yPc (Cond.code yPc prog_51_method_11_code 3 (some .int) :: am_GW) { frames := 0, cells := 0, slots := 0, locals := 40 * 0 } (am_Pc E [.int i, .int n, w] m) (am_Qc E (.inl (some (.int i)), m)) 0 0 (am_A E) := by
  refine Met.ofW (cc := prog_51_method_11_code) (maxL := 3) (ret := some .int) (by decide) rfl ?_
  intro p e s mt args below meth c s₁ B hml hv
  obtain ⟨rfl, hR, hK⟩ := hv
  have hx := B.exec
  have hb := B.bytes
  have hr := B.returns
  have hlocks := B.notSynchronized
  have hl : lv_has ((lg_sl [.int i, .int n, w] ++ List.replicate (3 - (lg_sl [.int i, .int n, w]).length) Slot.unset).toArray) 3 [(0, .int i), (1, .int n), (2, w)] := lv_entry ([.int i, .int n, w]) (n := 3) (by rcases hw with rfl | ⟨t, rfl⟩ <;> exact Nat.le_of_ble_eq_true rfl)
  rw [lg_entry_eq]
  generalize (lg_sl [.int i, .int n, w] ++ List.replicate (3 - (lg_sl [.int i, .int n, w]).length) Slot.unset).toArray = ls at hl ⊢
  refine lv_iload_n hx hb dP0 rfl (lv_at hl 0 rfl) ?_
  refine lv_if_lt (tgt := 9) hx hb dP1 (by decide) (fun q => absurd q h0) (fun _ => ?_)
  refine lv_iload_n hx hb dP4 rfl (lv_at hl 0 rfl) ?_
  refine lv_iload_n hx hb dP5 rfl (lv_at hl 1 rfl) ?_
  refine lv_icmp_lt (tgt := 16) hx hb dP6 (by decide) (fun _ => ?_) (fun q => absurd h1 q)
  refine lv_iload_n hx hb dP16 rfl (lv_at hl 0 rfl) ?_
  exact W.iret (v := i) hx hb hr (fun t ht hW => ⟨⟨_, rfl, rfl⟩, by rw [ht]; exact hR, by rw [va_F, ht]; exact ⟨Nat.le_refl _, fun _ _ _ => rfl⟩⟩) (fun q h => nomatch h) dP17
theorem dS0 : decode prog_31_method_155_code 0 = .ok (.iload_n 0, 1) := by decide +kernel
theorem dS1 : decode prog_31_method_155_code 1 = .ok (.iload_n 1, 1) := by decide +kernel
theorem dS2 : decode prog_31_method_155_code 2 = .ok (.getstatic 1053, 3) := by decide +kernel
theorem dS5 : decode prog_31_method_155_code 5 = .ok (.invokestatic 1059, 3) := by decide +kernel
theorem dS8 : decode prog_31_method_155_code 8 = .ok (.pop, 1) := by decide +kernel
theorem dS9 : decode prog_31_method_155_code 9 = .ok (.return_, 1) := by decide +kernel
theorem wPc1 : Cond.code yPc prog_51_method_11_code 3 (some .int) ∈ am_GW := am_pw_in (p := (0, 80)) rfl rfl
theorem wPc2 : Cond.initialized yPc.cls ∈ am_GW := am_pw_in (p := (0, 13)) rfl rfl
theorem wPc3 : Cond.methodLink "java/lang/String" 1059 yPc ∈ am_GW := am_pw_in (p := (0, 78)) rfl rfl
theorem wPc4 : Cond.static yPc ∈ am_GW := am_pw_in (p := (0, 79)) rfl rfl
theorem wPc5 : Cond.fieldLink "java/lang/String" 1053 "jdk/internal/util/Preconditions" "SIOOBE_FORMATTER" "Ljava/util/function/BiFunction;" ∈ am_GW := am_pw_in (p := (0, 76)) rfl rfl
theorem wSc1 : Cond.code ySc prog_31_method_155_code 2 none ∈ am_GW := am_pw_in (p := (0, 75)) rfl rfl
theorem wSc2 : Cond.initialized ySc.cls ∈ am_GW := am_pw_in (p := (0, 7)) rfl rfl
theorem wSc3 : Cond.methodLink "java/lang/StringLatin1" 9 ySc ∈ am_GW := am_pw_in (p := (0, 73)) rfl rfl
theorem wSc4 : Cond.static ySc ∈ am_GW := am_pw_in (p := (0, 74)) rfl rfl
theorem so_schk (l : Launch) (E : am_E) (m : am_M) {i n : Int32} (h0 : ¬ i < 0) (h1 : i < n) :
    Met l ySc (Cond.code ySc prog_31_method_155_code 2 none :: am_GW) { frames := 1, cells := 0, slots := 0, locals := 40 * 1 } (am_Pc E [.int i, .int n] m) (am_Qc E (.inl none, m)) 0 0 (am_A E) := by
  refine Met.ofW (cc := prog_31_method_155_code) (maxL := 2) (ret := none) (by decide) rfl ?_
  intro p e s mt args below meth c s₁ B hml hv
  obtain ⟨rfl, hR, hK⟩ := hv
  have hx := B.exec
  have hb := B.bytes
  have hr := B.returns
  have hlocks := B.notSynchronized
  have hts0 := atoms_spec (ws := Cond.code ySc prog_31_method_155_code 2 none :: am_GW) B.pre
  have hts : ∀ w ∈ am_GW, w.before #[Value.int i, .int n] s = true := fun w hw => hts0 w (List.mem_cons_of_mem _ hw)
  have hown : s.vm.findClass "java/lang/String" = some mt.cls := findClass_of_methodNamed B.named
  have hl : lv_has ((lg_sl [.int i, .int n] ++ List.replicate (2 - (lg_sl [.int i, .int n]).length) Slot.unset).toArray) 2 [(0, .int i), (1, .int n)] := lv_entry ([.int i, .int n]) (n := 2) (Nat.le_of_ble_eq_true rfl)
  show W p l e _ s mt _ below meth c s.heap [] 0 0 _ (entryFrame mt ([Value.int i, .int n] : List Value).toArray 2)
  rw [lg_entry_eq]
  generalize (lg_sl [.int i, .int n] ++ List.replicate (2 - (lg_sl [.int i, .int n]).length) Slot.unset).toArray = ls at hl ⊢
  refine lv_iload_n hx hb dS0 rfl (lv_at hl 0 rfl) ?_
  refine lv_iload_n hx hb dS1 rfl (lv_at hl 1 rfl) ?_
  have hgo : ∀ w : Value, (w = .null ∨ ∃ t, w = .ref t) → va_Z "jdk/internal/util/Preconditions" "SIOOBE_FORMATTER" "Ljava/util/function/BiFunction;" w (am_A E) s s.heap → W p l e ({ frames := 1, cells := 0, slots := 0, locals := 40 * 1 } : Room) s mt (#[Value.int i, .int n]) below meth c s.heap [] 0 0 (MQ below (am_Qc E (.inl none, m)) (#[Value.int i, .int n]) s 0 0 (am_A E)) (F0 mt 2 ls [.int n, .int i]) := by
    intro w hw hZ
    refine va_gets hx hb hZ va_S.rf hown (hts _ wPc5) (fun _ h => h) dS2 ?_
    have hrun := va_runS (R := ({ frames := 1, cells := 0, slots := 0, locals := 40 * 1 } : Room)) (e := e) (below := below) (meth := meth) (locs := []) (cells := 0) (slots := 0) (H := s.heap) (n := 3) (As := [.int i, .int n, w]) (rest := []) (g := F0 mt 5 ls [w, .int n, .int i]) ⟨hx, hb, hml, hown, hts⟩ (so_pchk l E m w hw h0 h1) ⟨am_cbG (d := 0) (ix := 1059) hts wPc1 wPc2 wPc3 (by decide +kernel) (by decide) (by decide) (by decide), hts _ wPc4⟩
      ⟨am_Pc_blind E _ m, fun U hU hW => ⟨rfl, by rw [hU]; exact hR, by rw [hU]; exact am_Kk.moved hW.alike hW hK⟩⟩ rfl rfl hl.1 rfl (lv_room (st := []) (Nat.zero_le _)) dS5 ⟨Nat.le_refl _, Nat.le_refl _⟩
    intro T hT X
    obtain ⟨v, st₀, t, T', L, g0, X', hL, e1, e2, ⟨⟨v', hv1, hv2⟩, hR1, hF⟩, st⟩ := hrun T hT X
    cases hv2
    cases hv1
    have k3 := am_keep (A0 := am_A E) (A1 := am_A E) (free := am_A E) g0 e1 va_S.rf (fun _ h => h) (fun _ h => h) hL hF
    have fin : W p l e ({ frames := 1, cells := 0, slots := 0, locals := 40 * 1 } : Room) s mt (#[Value.int i, .int n]) below meth c T'.heap ([] ++ L) (0 + 0) (0 + 0) (MQ below (am_Qc E (.inl none, m)) (#[Value.int i, .int n]) s 0 0 (am_A E)) (F0 mt 8 ls [.int i]) := by
      refine lv_pop hx hb dS8 rfl ?_
      exact W.vret hx hb hr (fun t2 ht hW => ⟨⟨_, rfl, rfl⟩, by rw [ht, e1]; exact hR1, k3.F ht⟩) k3.2.2 dS9
    obtain ⟨t2, a1, b1⟩ := fin T' rfl X'
    exact ⟨t2, st t2 a1, b1⟩
  rcases hK.2.2.2.2.2.2.1 with hZ | ⟨t, hZ⟩
  · exact hgo _ (Or.inl rfl) hZ
  · exact hgo _ (Or.inr ⟨t, rfl⟩) hZ
section S6
variable {p : Program} {l : Launch} {e : Env} {R : Room} {s : State} {mt : MethodId} {args : Array Value} {below : List Frame} {meth : Method} {c : Code} {nL own : Nat} {cc : ByteArray} {E : am_E} {Q : State → Prop} {m0 : am_M} {r : am_R} {pc : Nat} {k : am_L → List Value → am_M → Option am_R} {x : am_X}
theorem so_chk (X : am_Cx p l R s mt args meth c cc nL own E m0 r) (ho : am_cn own = "java/lang/StringLatin1") (hd : decode cc pc = .ok (.invokestatic 9, 3)) (hk9 : am_G p l e R s mt args below meth c nL E Q m0 r (k) (pc + 3)) (hmo : ∀ L S m, k L S m = some r → am_le m r) : am_G p l e R s mt args below meth c nL E Q m0 r (fun L S m => q_ii S fun n i S => bif (am_w S).ble 8 then gq_ (¬ i < 0 ∧ i < n) (k L S m) else none) (pc) := by
  intro L S m H locs cells slots ls h hL hP
  obtain ⟨hx, hb, hml, hown, hts, hlk, hst, hK, hN, hrm, hfr, hlo⟩ := X
  obtain ⟨n, i, S2, rfl, h9⟩ := q_ii_I h
  obtain ⟨h8, h9⟩ := am_bif h9
  have h8 := am_w8 h8
  obtain ⟨⟨h0, h1⟩, h9⟩ := gq_I h9
  have hp1 := hP.2.2.1
  have hp2 := hP.2.2.2
  obtain ⟨hle1, hle2, -⟩ := hmo _ _ _ h9
  have hpre := am_pre hK hP [.int i, .int n]
  rw [ho] at hown
  have hrun := va_runS (l := l) (e := e) (R := R) (below := below) (meth := meth) (locs := locs) (cells := cells) (slots := slots) (n := 2) (As := [.int i, .int n]) (rest := S2) (g := F0 mt pc ls (.int n :: .int i :: S2)) ⟨hx, hb, hml, hown, hts⟩ (so_schk l E m h0 h1) ⟨am_cbG (d := 1) (ix := 9) hts wSc1 wSc2 wSc3 (by decide +kernel) (by decide) (by omega) (by omega), hts _ wSc4⟩ hpre rfl rfl hL.1 rfl (lv_room h8) hd ⟨by omega, by omega⟩
  refine so_run hrun hP rfl rfl (fun v H1 locs1 hv hP1 => ?_)
  cases hv
  exact hk9 _ _ _ _ _ _ _ _ h9 hL hP1
end S6
