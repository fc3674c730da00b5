/-! the runs: what K gives is asked at one place at most; so a run has one value, and unfolds -/
abbrev am_K : Type := Nat → am_L → List Value → am_M → Option am_R
abbrev am_P : Type := Nat × am_L × List Value × am_M
def am_fn (K : am_K) (ρ : Option am_R ⊕ am_P) : Option am_R :=
  match ρ with
  | .inl r => r
  | .inr q => K q.1 q.2.1 q.2.2.1 q.2.2.2
def am_F (f : am_K → Option am_R) : Prop := ∃ ρ, ∀ K, f K = am_fn K ρ
theorem F_c (r : Option am_R) : am_F (fun _ => r) := ⟨.inl r, fun _ => rfl⟩
theorem F_K (pc : Nat) (L : am_L) (S : List Value) (m : am_M) : am_F (fun K => K pc L S m) := ⟨.inr (pc, L, S, m), fun _ => rfl⟩
theorem F_gq {p : Prop} {f : am_K → Option am_R} (h : am_F f) : am_F (fun K => gq_ p (f K)) := by
  by_cases q : p
  · obtain ⟨ρ, hr⟩ := h
    exact ⟨ρ, fun K => (if_pos q).trans (hr K)⟩
  · exact ⟨.inl none, fun K => if_neg q⟩
theorem F_gb {p : Prop} {f g : am_K → Option am_R} (h : am_F f) (h' : am_F g) : am_F (fun K => gb_ p (f K) (g K)) := by
  by_cases q : p
  · obtain ⟨ρ, hr⟩ := h
    exact ⟨ρ, fun K => (if_pos q).trans (hr K)⟩
  · obtain ⟨ρ, hr⟩ := h'
    exact ⟨ρ, fun K => (if_neg q).trans (hr K)⟩
theorem F_bif {b : Bool} {f g : am_K → Option am_R} (h : am_F f) (h' : am_F g) : am_F (fun K => bif b then f K else g K) := by
  cases b
  · exact h'
  · exact h
theorem F_sw (x : Int32) (d : Nat) (L : am_L) (S : List Value) (m : am_M) (l : List (Int32 × Nat)) : am_F (fun K => am_sw (fun t => K t L S m) x d l) := by
  induction l with
  | nil => exact F_K _ _ _ _
  | cons q r ih => exact F_gb (F_K _ _ _ _) ih
theorem F_c0 (r : Option am_R) {k : am_K → am_M → Option am_R} (h : ∀ m, am_F (fun K => k K m)) : am_F (fun K => am_c0 r (fun m => k K m) (fun _ _ => none)) := by
  rcases r with _ | ⟨(_ | v) | E, m⟩
  · exact F_c _
  · exact h _
  · exact F_c _
  · exact F_c _
theorem F_ci (r : Option am_R) {k : am_K → Int32 → am_M → Option am_R} (h : ∀ v m, am_F (fun K => k K v m)) : am_F (fun K => am_ci r (fun v m => k K v m) (fun _ _ => none)) := by
  rcases r with _ | ⟨(_ | v) | E, m⟩
  · exact F_c _
  · exact F_c _
  · cases v <;> first | exact h _ _ | exact F_c _
  · exact F_c _
theorem F_cc (hd : Nat → Nat → Option Int32) (pc : Nat) (r : Option am_R) (t : Nat) (k : am_K → List Value → am_M → Option am_R) (R : List Value) (h : ∀ S m, am_F (fun K => k K S m)) : am_F (fun K => am_cc hd pc r t (k K) R) := by
  have h0 : am_F (fun K => am_c0 r (fun m => k K R m) (am_xc hd pc)) := by
    rcases r with _ | ⟨(_ | v) | E, m⟩
    · exact F_c _
    · exact h _ _
    · exact F_c _
    · exact F_c _
  have h1 : am_F (fun K => am_ci r (fun v m => k K (.int v :: R) m) (am_xc hd pc)) := by
    rcases r with _ | ⟨(_ | v) | E, m⟩
    · exact F_c _
    · exact F_c _
    · cases v <;> first | exact h _ _ | exact F_c _
    · exact F_c _
  have h2 : am_F (fun K => am_cl r (fun v m => k K (.long v :: R) m) (am_xc hd pc)) := by
    rcases r with _ | ⟨(_ | v) | E, m⟩
    · exact F_c _
    · exact F_c _
    · cases v <;> first | exact h _ _ | exact F_c _
    · exact F_c _
  have h4 : am_F (fun K => am_cr r (fun v m => k K (.ref v :: R) m) (am_xc hd pc)) := by
    rcases r with _ | ⟨(_ | v) | E, m⟩
    · exact F_c _
    · exact F_c _
    · cases v <;> first | exact h _ _ | exact F_c _
    · exact F_c _
  have h3 : am_F (fun K => am_cf r (fun v m => k K (.float v :: R) m) (am_xc hd pc)) := by
    rcases r with _ | ⟨(_ | v) | E, m⟩
    · exact F_c _
    · exact F_c _
    · cases v <;> first | exact h _ _ | exact F_c _
    · exact F_c _
  rcases t with _ | _ | _ | _ | _ | t
  · exact h0
  · exact h1
  · exact h2
  · exact h3
  · exact h4
  · exact h3
theorem F_q_zz (o : Option Nat) {f : am_K → Nat → Option am_R} {g : am_K → Option am_R} (h : ∀ v, am_F (fun K => f K v)) (h' : am_F g) : am_F (fun K => q_zz o (f K) (g K)) := by
  cases o with
  | none => exact h'
  | some v => exact h v
theorem F_q_zir (S : List Value) {f : am_K → Option Nat → Int32 → Nat → List Value → Option am_R} (h : ∀ v0 v1 v2 R, am_F (fun K => f K v0 v1 v2 R)) : am_F (fun K => q_zir S (f K)) := by
  rcases q_zir_D (α := am_R) S with ⟨v0, v1, v2, R, -, h2⟩ | h2
  · obtain ⟨ρ, hr⟩ := h v0 v1 v2 R
    exact ⟨ρ, fun K => (h2 _).trans (hr K)⟩
  · exact ⟨.inl none, fun K => h2 _⟩
theorem F_q_i (S : List Value) {f : am_K → Int32 → List Value → Option am_R} (h : ∀ v0 R, am_F (fun K => f K v0 R)) : am_F (fun K => q_i S (f K)) := by
  rcases q_i_D (α := am_R) S with ⟨v0, R, -, h2⟩ | h2
  · obtain ⟨ρ, hr⟩ := h v0 R
    exact ⟨ρ, fun K => (h2 _).trans (hr K)⟩
  · exact ⟨.inl none, fun K => h2 _⟩
theorem F_q_l (S : List Value) {f : am_K → Int64 → List Value → Option am_R} (h : ∀ v0 R, am_F (fun K => f K v0 R)) : am_F (fun K => q_l S (f K)) := by
  rcases q_l_D (α := am_R) S with ⟨v0, R, -, h2⟩ | h2
  · obtain ⟨ρ, hr⟩ := h v0 R
    exact ⟨ρ, fun K => (h2 _).trans (hr K)⟩
  · exact ⟨.inl none, fun K => h2 _⟩
theorem F_q_f (S : List Value) {f : am_K → UInt32 → List Value → Option am_R} (h : ∀ v0 R, am_F (fun K => f K v0 R)) : am_F (fun K => q_f S (f K)) := by
  rcases q_f_D (α := am_R) S with ⟨v0, R, -, h2⟩ | h2
  · obtain ⟨ρ, hr⟩ := h v0 R
    exact ⟨ρ, fun K => (h2 _).trans (hr K)⟩
  · exact ⟨.inl none, fun K => h2 _⟩
theorem F_q_r (S : List Value) {f : am_K → Nat → List Value → Option am_R} (h : ∀ v0 R, am_F (fun K => f K v0 R)) : am_F (fun K => q_r S (f K)) := by
  rcases q_r_D (α := am_R) S with ⟨v0, R, -, h2⟩ | h2
  · obtain ⟨ρ, hr⟩ := h v0 R
    exact ⟨ρ, fun K => (h2 _).trans (hr K)⟩
  · exact ⟨.inl none, fun K => h2 _⟩
theorem F_q_ii (S : List Value) {f : am_K → Int32 → Int32 → List Value → Option am_R} (h : ∀ v0 v1 R, am_F (fun K => f K v0 v1 R)) : am_F (fun K => q_ii S (f K)) := by
  rcases q_ii_D (α := am_R) S with ⟨v0, v1, R, -, h2⟩ | h2
  · obtain ⟨ρ, hr⟩ := h v0 v1 R
    exact ⟨ρ, fun K => (h2 _).trans (hr K)⟩
  · exact ⟨.inl none, fun K => h2 _⟩
theorem F_q_ll (S : List Value) {f : am_K → Int64 → Int64 → List Value → Option am_R} (h : ∀ v0 v1 R, am_F (fun K => f K v0 v1 R)) : am_F (fun K => q_ll S (f K)) := by
  rcases q_ll_D (α := am_R) S with ⟨v0, v1, R, -, h2⟩ | h2
  · obtain ⟨ρ, hr⟩ := h v0 v1 R
    exact ⟨ρ, fun K => (h2 _).trans (hr K)⟩
  · exact ⟨.inl none, fun K => h2 _⟩
theorem F_q_ff (S : List Value) {f : am_K → UInt32 → UInt32 → List Value → Option am_R} (h : ∀ v0 v1 R, am_F (fun K => f K v0 v1 R)) : am_F (fun K => q_ff S (f K)) := by
  rcases q_ff_D (α := am_R) S with ⟨v0, v1, R, -, h2⟩ | h2
  · obtain ⟨ρ, hr⟩ := h v0 v1 R
    exact ⟨ρ, fun K => (h2 _).trans (hr K)⟩
  · exact ⟨.inl none, fun K => h2 _⟩
theorem F_q_dd (S : List Value) {f : am_K → UInt64 → UInt64 → List Value → Option am_R} (h : ∀ v0 v1 R, am_F (fun K => f K v0 v1 R)) : am_F (fun K => q_dd S (f K)) := by
  rcases q_dd_D (α := am_R) S with ⟨v0, v1, R, -, h2⟩ | h2
  · obtain ⟨ρ, hr⟩ := h v0 v1 R
    exact ⟨ρ, fun K => (h2 _).trans (hr K)⟩
  · exact ⟨.inl none, fun K => h2 _⟩
theorem F_q_il (S : List Value) {f : am_K → Int32 → Int64 → List Value → Option am_R} (h : ∀ v0 v1 R, am_F (fun K => f K v0 v1 R)) : am_F (fun K => q_il S (f K)) := by
  rcases q_il_D (α := am_R) S with ⟨v0, v1, R, -, h2⟩ | h2
  · obtain ⟨ρ, hr⟩ := h v0 v1 R
    exact ⟨ρ, fun K => (h2 _).trans (hr K)⟩
  · exact ⟨.inl none, fun K => h2 _⟩
theorem F_q_ir (S : List Value) {f : am_K → Int32 → Nat → List Value → Option am_R} (h : ∀ v0 v1 R, am_F (fun K => f K v0 v1 R)) : am_F (fun K => q_ir S (f K)) := by
  rcases q_ir_D (α := am_R) S with ⟨v0, v1, R, -, h2⟩ | h2
  · obtain ⟨ρ, hr⟩ := h v0 v1 R
    exact ⟨ρ, fun K => (h2 _).trans (hr K)⟩
  · exact ⟨.inl none, fun K => h2 _⟩
theorem F_q_iir (S : List Value) {f : am_K → Int32 → Int32 → Nat → List Value → Option am_R} (h : ∀ v0 v1 v2 R, am_F (fun K => f K v0 v1 v2 R)) : am_F (fun K => q_iir S (f K)) := by
  rcases q_iir_D (α := am_R) S with ⟨v0, v1, v2, R, -, h2⟩ | h2
  · obtain ⟨ρ, hr⟩ := h v0 v1 v2 R
    exact ⟨ρ, fun K => (h2 _).trans (hr K)⟩
  · exact ⟨.inl none, fun K => h2 _⟩
theorem F_q_lir (S : List Value) {f : am_K → Int64 → Int32 → Nat → List Value → Option am_R} (h : ∀ v0 v1 v2 R, am_F (fun K => f K v0 v1 v2 R)) : am_F (fun K => q_lir S (f K)) := by
  rcases q_lir_D (α := am_R) S with ⟨v0, v1, v2, R, -, h2⟩ | h2
  · obtain ⟨ρ, hr⟩ := h v0 v1 v2 R
    exact ⟨ρ, fun K => (h2 _).trans (hr K)⟩
  · exact ⟨.inl none, fun K => h2 _⟩
theorem F_q_dir (S : List Value) {f : am_K → UInt64 → Int32 → Nat → List Value → Option am_R} (h : ∀ v0 v1 v2 R, am_F (fun K => f K v0 v1 v2 R)) : am_F (fun K => q_dir S (f K)) := by
  rcases q_dir_D (α := am_R) S with ⟨v0, v1, v2, R, -, h2⟩ | h2
  · obtain ⟨ρ, hr⟩ := h v0 v1 v2 R
    exact ⟨ρ, fun K => (h2 _).trans (hr K)⟩
  · exact ⟨.inl none, fun K => h2 _⟩
theorem F_q_rir (S : List Value) {f : am_K → Nat → Int32 → Nat → List Value → Option am_R} (h : ∀ v0 v1 v2 R, am_F (fun K => f K v0 v1 v2 R)) : am_F (fun K => q_rir S (f K)) := by
  rcases q_rir_D (α := am_R) S with ⟨v0, v1, v2, R, -, h2⟩ | h2
  · obtain ⟨ρ, hr⟩ := h v0 v1 v2 R
    exact ⟨ρ, fun K => (h2 _).trans (hr K)⟩
  · exact ⟨.inl none, fun K => h2 _⟩
theorem F_q_lr (S : List Value) {f : am_K → Int64 → Nat → List Value → Option am_R} (h : ∀ v0 v1 R, am_F (fun K => f K v0 v1 R)) : am_F (fun K => q_lr S (f K)) := by
  rcases q_lr_D (α := am_R) S with ⟨v0, v1, R, -, h2⟩ | h2
  · obtain ⟨ρ, hr⟩ := h v0 v1 R
    exact ⟨ρ, fun K => (h2 _).trans (hr K)⟩
  · exact ⟨.inl none, fun K => h2 _⟩
theorem F_q_rr (S : List Value) {f : am_K → Nat → Nat → List Value → Option am_R} (h : ∀ v0 v1 R, am_F (fun K => f K v0 v1 R)) : am_F (fun K => q_rr S (f K)) := by
  rcases q_rr_D (α := am_R) S with ⟨v0, v1, R, -, h2⟩ | h2
  · obtain ⟨ρ, hr⟩ := h v0 v1 R
    exact ⟨ρ, fun K => (h2 _).trans (hr K)⟩
  · exact ⟨.inl none, fun K => h2 _⟩
theorem F_q_iirir (S : List Value) {f : am_K → Int32 → Int32 → Nat → Int32 → Nat → List Value → Option am_R} (h : ∀ v0 v1 v2 v3 v4 R, am_F (fun K => f K v0 v1 v2 v3 v4 R)) : am_F (fun K => q_iirir S (f K)) := by
  rcases q_iirir_D (α := am_R) S with ⟨v0, v1, v2, v3, v4, R, -, h2⟩ | h2
  · obtain ⟨ρ, hr⟩ := h v0 v1 v2 v3 v4 R
    exact ⟨ρ, fun K => (h2 _).trans (hr K)⟩
  · exact ⟨.inl none, fun K => h2 _⟩
theorem F_q_gi (S : Option Value) {f : am_K → Int32 → Option am_R} (h : ∀ v, am_F (fun K => f K v)) : am_F (fun K => q_gi S (f K)) := by
  rcases q_gi_D (α := am_R) S with ⟨v, -, h2⟩ | h2
  · obtain ⟨ρ, hr⟩ := h v
    exact ⟨ρ, fun K => (h2 _).trans (hr K)⟩
  · exact ⟨.inl none, fun K => h2 _⟩
theorem F_q_gl (S : Option Value) {f : am_K → Int64 → Option am_R} (h : ∀ v, am_F (fun K => f K v)) : am_F (fun K => q_gl S (f K)) := by
  rcases q_gl_D (α := am_R) S with ⟨v, -, h2⟩ | h2
  · obtain ⟨ρ, hr⟩ := h v
    exact ⟨ρ, fun K => (h2 _).trans (hr K)⟩
  · exact ⟨.inl none, fun K => h2 _⟩
theorem F_q_gf (S : Option Value) {f : am_K → UInt32 → Option am_R} (h : ∀ v, am_F (fun K => f K v)) : am_F (fun K => q_gf S (f K)) := by
  rcases q_gf_D (α := am_R) S with ⟨v, -, h2⟩ | h2
  · obtain ⟨ρ, hr⟩ := h v
    exact ⟨ρ, fun K => (h2 _).trans (hr K)⟩
  · exact ⟨.inl none, fun K => h2 _⟩
theorem F_q_gr (S : Option Value) {f : am_K → Nat → Option am_R} (h : ∀ v, am_F (fun K => f K v)) : am_F (fun K => q_gr S (f K)) := by
  rcases q_gr_D (α := am_R) S with ⟨v, -, h2⟩ | h2
  · obtain ⟨ρ, hr⟩ := h v
    exact ⟨ρ, fun K => (h2 _).trans (hr K)⟩
  · exact ⟨.inl none, fun K => h2 _⟩
theorem F_q_o {α : Type} (S : Option α) {f : am_K → α → Option am_R} (h : ∀ v, am_F (fun K => f K v)) : am_F (fun K => q_o S (f K)) := by
  rcases q_o_D (β := am_R) S with ⟨v, -, h2⟩ | h2
  · obtain ⟨ρ, hr⟩ := h v
    exact ⟨ρ, fun K => (h2 _).trans (hr K)⟩
  · exact ⟨.inl none, fun K => h2 _⟩
set_option maxHeartbeats 4000000 in
theorem am_st_F (sa sv : Nat) (C : Nat → List Value → am_M → Option am_R) (hd : Nat → Nat → Option Int32) (pc : Nat) (i : Instr) (x : am_X) (kf : am_K → am_L → List Value → am_M → Option am_R) (hk : ∀ L S m, am_F (fun K => kf K L S m)) (L : am_L) (S : List Value) (m : am_M) :
    am_F (fun K => am_st sa sv K C hd pc i x (kf K) L S m) := by
  obtain ⟨x1, x2, x3, x4, x5, x6, x7⟩ := x
  cases i
  case getfield =>
    rcases x3 with _ | _ | _ | _ | _ | _ | _ | _ | _ | x3 <;> dsimp only [am_st] <;> (repeat first | exact hk _ _ _ | exact F_c _ | exact F_K _ _ _ _ | exact F_sw _ _ _ _ _ _ | refine F_gq ?_ | refine F_gb ?_ ?_ | refine F_bif ?_ ?_ | refine F_q_zir _ (fun _ _ _ _ => ?_) | refine F_q_zz _ (fun _ => ?_) ?_ | refine F_cc _ _ _ _ _ _ (fun _ _ => ?_) | refine F_c0 _ (fun _ => ?_) | refine F_ci _ (fun _ _ => ?_) | refine F_q_i _ (fun _ _ => ?_) | refine F_q_l _ (fun _ _ => ?_) | refine F_q_f _ (fun _ _ => ?_) | refine F_q_r _ (fun _ _ => ?_) | refine F_q_ii _ (fun _ _ _ => ?_) | refine F_q_ll _ (fun _ _ _ => ?_) | refine F_q_ff _ (fun _ _ _ => ?_) | refine F_q_dd _ (fun _ _ _ => ?_) | refine F_q_il _ (fun _ _ _ => ?_) | refine F_q_ir _ (fun _ _ _ => ?_) | refine F_q_iir _ (fun _ _ _ _ => ?_) | refine F_q_lir _ (fun _ _ _ _ => ?_) | refine F_q_dir _ (fun _ _ _ _ => ?_) | refine F_q_rir _ (fun _ _ _ _ => ?_) | refine F_q_lr _ (fun _ _ _ => ?_) | refine F_q_rr _ (fun _ _ _ => ?_) | refine F_q_iirir _ (fun _ _ _ _ _ _ => ?_) | refine F_q_gi _ (fun _ => ?_) | refine F_q_gl _ (fun _ => ?_) | refine F_q_gf _ (fun _ => ?_) | refine F_q_gr _ (fun _ => ?_) | refine F_q_o _ (fun _ => ?_))
  case putfield =>
    rcases x3 with _ | _ | _ | _ | _ | _ | _ | x3 <;> dsimp only [am_st] <;> (repeat first | exact hk _ _ _ | exact F_c _ | exact F_K _ _ _ _ | exact F_sw _ _ _ _ _ _ | refine F_gq ?_ | refine F_gb ?_ ?_ | refine F_bif ?_ ?_ | refine F_q_zir _ (fun _ _ _ _ => ?_) | refine F_q_zz _ (fun _ => ?_) ?_ | refine F_cc _ _ _ _ _ _ (fun _ _ => ?_) | refine F_c0 _ (fun _ => ?_) | refine F_ci _ (fun _ _ => ?_) | refine F_q_i _ (fun _ _ => ?_) | refine F_q_l _ (fun _ _ => ?_) | refine F_q_f _ (fun _ _ => ?_) | refine F_q_r _ (fun _ _ => ?_) | refine F_q_ii _ (fun _ _ _ => ?_) | refine F_q_ll _ (fun _ _ _ => ?_) | refine F_q_ff _ (fun _ _ _ => ?_) | refine F_q_dd _ (fun _ _ _ => ?_) | refine F_q_il _ (fun _ _ _ => ?_) | refine F_q_ir _ (fun _ _ _ => ?_) | refine F_q_iir _ (fun _ _ _ _ => ?_) | refine F_q_lir _ (fun _ _ _ _ => ?_) | refine F_q_dir _ (fun _ _ _ _ => ?_) | refine F_q_rir _ (fun _ _ _ _ => ?_) | refine F_q_lr _ (fun _ _ _ => ?_) | refine F_q_rr _ (fun _ _ _ => ?_) | refine F_q_iirir _ (fun _ _ _ _ _ _ => ?_) | refine F_q_gi _ (fun _ => ?_) | refine F_q_gl _ (fun _ => ?_) | refine F_q_gf _ (fun _ => ?_) | refine F_q_gr _ (fun _ => ?_) | refine F_q_o _ (fun _ => ?_))
  case new =>
    rcases x3 with _ | _ | x3 <;> dsimp only [am_st] <;> (repeat first | exact hk _ _ _ | exact F_c _ | exact F_K _ _ _ _ | exact F_sw _ _ _ _ _ _ | refine F_gq ?_ | refine F_gb ?_ ?_ | refine F_bif ?_ ?_ | refine F_q_zir _ (fun _ _ _ _ => ?_) | refine F_q_zz _ (fun _ => ?_) ?_ | refine F_cc _ _ _ _ _ _ (fun _ _ => ?_) | refine F_c0 _ (fun _ => ?_) | refine F_ci _ (fun _ _ => ?_) | refine F_q_i _ (fun _ _ => ?_) | refine F_q_l _ (fun _ _ => ?_) | refine F_q_f _ (fun _ _ => ?_) | refine F_q_r _ (fun _ _ => ?_) | refine F_q_ii _ (fun _ _ _ => ?_) | refine F_q_ll _ (fun _ _ _ => ?_) | refine F_q_ff _ (fun _ _ _ => ?_) | refine F_q_dd _ (fun _ _ _ => ?_) | refine F_q_il _ (fun _ _ _ => ?_) | refine F_q_ir _ (fun _ _ _ => ?_) | refine F_q_iir _ (fun _ _ _ _ => ?_) | refine F_q_lir _ (fun _ _ _ _ => ?_) | refine F_q_dir _ (fun _ _ _ _ => ?_) | refine F_q_rir _ (fun _ _ _ _ => ?_) | refine F_q_lr _ (fun _ _ _ => ?_) | refine F_q_rr _ (fun _ _ _ => ?_) | refine F_q_iirir _ (fun _ _ _ _ _ _ => ?_) | refine F_q_gi _ (fun _ => ?_) | refine F_q_gl _ (fun _ => ?_) | refine F_q_gf _ (fun _ => ?_) | refine F_q_gr _ (fun _ => ?_) | refine F_q_o _ (fun _ => ?_))
  case ireturn =>
    rcases x1 with _ | _ | _ | x1 <;> dsimp only [am_st] <;> (repeat first | exact hk _ _ _ | exact F_c _ | exact F_K _ _ _ _ | exact F_sw _ _ _ _ _ _ | refine F_gq ?_ | refine F_gb ?_ ?_ | refine F_bif ?_ ?_ | refine F_q_zir _ (fun _ _ _ _ => ?_) | refine F_q_zz _ (fun _ => ?_) ?_ | refine F_cc _ _ _ _ _ _ (fun _ _ => ?_) | refine F_c0 _ (fun _ => ?_) | refine F_ci _ (fun _ _ => ?_) | refine F_q_i _ (fun _ _ => ?_) | refine F_q_l _ (fun _ _ => ?_) | refine F_q_f _ (fun _ _ => ?_) | refine F_q_r _ (fun _ _ => ?_) | refine F_q_ii _ (fun _ _ _ => ?_) | refine F_q_ll _ (fun _ _ _ => ?_) | refine F_q_ff _ (fun _ _ _ => ?_) | refine F_q_dd _ (fun _ _ _ => ?_) | refine F_q_il _ (fun _ _ _ => ?_) | refine F_q_ir _ (fun _ _ _ => ?_) | refine F_q_iir _ (fun _ _ _ _ => ?_) | refine F_q_lir _ (fun _ _ _ _ => ?_) | refine F_q_dir _ (fun _ _ _ _ => ?_) | refine F_q_rir _ (fun _ _ _ _ => ?_) | refine F_q_lr _ (fun _ _ _ => ?_) | refine F_q_rr _ (fun _ _ _ => ?_) | refine F_q_iirir _ (fun _ _ _ _ _ _ => ?_) | refine F_q_gi _ (fun _ => ?_) | refine F_q_gl _ (fun _ => ?_) | refine F_q_gf _ (fun _ => ?_) | refine F_q_gr _ (fun _ => ?_) | refine F_q_o _ (fun _ => ?_))
  case invokestatic =>
    rcases x4 with _ | _ | _ | _ | _ | _ | x4 <;> dsimp only [am_st] <;> (repeat first | exact hk _ _ _ | exact F_c _ | exact F_K _ _ _ _ | exact F_sw _ _ _ _ _ _ | refine F_gq ?_ | refine F_gb ?_ ?_ | refine F_bif ?_ ?_ | refine F_q_zir _ (fun _ _ _ _ => ?_) | refine F_q_zz _ (fun _ => ?_) ?_ | refine F_cc _ _ _ _ _ _ (fun _ _ => ?_) | refine F_c0 _ (fun _ => ?_) | refine F_ci _ (fun _ _ => ?_) | refine F_q_i _ (fun _ _ => ?_) | refine F_q_l _ (fun _ _ => ?_) | refine F_q_f _ (fun _ _ => ?_) | refine F_q_r _ (fun _ _ => ?_) | refine F_q_ii _ (fun _ _ _ => ?_) | refine F_q_ll _ (fun _ _ _ => ?_) | refine F_q_ff _ (fun _ _ _ => ?_) | refine F_q_dd _ (fun _ _ _ => ?_) | refine F_q_il _ (fun _ _ _ => ?_) | refine F_q_ir _ (fun _ _ _ => ?_) | refine F_q_iir _ (fun _ _ _ _ => ?_) | refine F_q_lir _ (fun _ _ _ _ => ?_) | refine F_q_dir _ (fun _ _ _ _ => ?_) | refine F_q_rir _ (fun _ _ _ _ => ?_) | refine F_q_lr _ (fun _ _ _ => ?_) | refine F_q_rr _ (fun _ _ _ => ?_) | refine F_q_iirir _ (fun _ _ _ _ _ _ => ?_) | refine F_q_gi _ (fun _ => ?_) | refine F_q_gl _ (fun _ => ?_) | refine F_q_gf _ (fun _ => ?_) | refine F_q_gr _ (fun _ => ?_) | refine F_q_o _ (fun _ => ?_))
  case ldc =>
    rcases x1 with _ | _ | _ | _ | x1 <;> dsimp only [am_st] <;> (repeat first | exact hk _ _ _ | exact F_c _ | exact F_K _ _ _ _ | exact F_sw _ _ _ _ _ _ | refine F_gq ?_ | refine F_gb ?_ ?_ | refine F_bif ?_ ?_ | refine F_q_zir _ (fun _ _ _ _ => ?_) | refine F_q_zz _ (fun _ => ?_) ?_ | refine F_cc _ _ _ _ _ _ (fun _ _ => ?_) | refine F_c0 _ (fun _ => ?_) | refine F_ci _ (fun _ _ => ?_) | refine F_q_i _ (fun _ _ => ?_) | refine F_q_l _ (fun _ _ => ?_) | refine F_q_f _ (fun _ _ => ?_) | refine F_q_r _ (fun _ _ => ?_) | refine F_q_ii _ (fun _ _ _ => ?_) | refine F_q_ll _ (fun _ _ _ => ?_) | refine F_q_ff _ (fun _ _ _ => ?_) | refine F_q_dd _ (fun _ _ _ => ?_) | refine F_q_il _ (fun _ _ _ => ?_) | refine F_q_ir _ (fun _ _ _ => ?_) | refine F_q_iir _ (fun _ _ _ _ => ?_) | refine F_q_lir _ (fun _ _ _ _ => ?_) | refine F_q_dir _ (fun _ _ _ _ => ?_) | refine F_q_rir _ (fun _ _ _ _ => ?_) | refine F_q_lr _ (fun _ _ _ => ?_) | refine F_q_rr _ (fun _ _ _ => ?_) | refine F_q_iirir _ (fun _ _ _ _ _ _ => ?_) | refine F_q_gi _ (fun _ => ?_) | refine F_q_gl _ (fun _ => ?_) | refine F_q_gf _ (fun _ => ?_) | refine F_q_gr _ (fun _ => ?_) | refine F_q_o _ (fun _ => ?_))
  case getstatic =>
    rcases x1 with _ | _ | x1 <;> dsimp only [am_st] <;> (repeat first | exact hk _ _ _ | exact F_c _ | exact F_K _ _ _ _ | exact F_sw _ _ _ _ _ _ | refine F_gq ?_ | refine F_gb ?_ ?_ | refine F_bif ?_ ?_ | refine F_q_zir _ (fun _ _ _ _ => ?_) | refine F_q_zz _ (fun _ => ?_) ?_ | refine F_cc _ _ _ _ _ _ (fun _ _ => ?_) | refine F_c0 _ (fun _ => ?_) | refine F_ci _ (fun _ _ => ?_) | refine F_q_i _ (fun _ _ => ?_) | refine F_q_l _ (fun _ _ => ?_) | refine F_q_f _ (fun _ _ => ?_) | refine F_q_r _ (fun _ _ => ?_) | refine F_q_ii _ (fun _ _ _ => ?_) | refine F_q_ll _ (fun _ _ _ => ?_) | refine F_q_ff _ (fun _ _ _ => ?_) | refine F_q_dd _ (fun _ _ _ => ?_) | refine F_q_il _ (fun _ _ _ => ?_) | refine F_q_ir _ (fun _ _ _ => ?_) | refine F_q_iir _ (fun _ _ _ _ => ?_) | refine F_q_lir _ (fun _ _ _ _ => ?_) | refine F_q_dir _ (fun _ _ _ _ => ?_) | refine F_q_rir _ (fun _ _ _ _ => ?_) | refine F_q_lr _ (fun _ _ _ => ?_) | refine F_q_rr _ (fun _ _ _ => ?_) | refine F_q_iirir _ (fun _ _ _ _ _ _ => ?_) | refine F_q_gi _ (fun _ => ?_) | refine F_q_gl _ (fun _ => ?_) | refine F_q_gf _ (fun _ => ?_) | refine F_q_gr _ (fun _ => ?_) | refine F_q_o _ (fun _ => ?_))
  case if_acmp c o =>
    cases c <;> dsimp only [am_st] <;> (repeat first | exact hk _ _ _ | exact F_c _ | exact F_K _ _ _ _ | exact F_sw _ _ _ _ _ _ | refine F_gq ?_ | refine F_gb ?_ ?_ | refine F_bif ?_ ?_ | refine F_q_zir _ (fun _ _ _ _ => ?_) | refine F_q_zz _ (fun _ => ?_) ?_ | refine F_cc _ _ _ _ _ _ (fun _ _ => ?_) | refine F_c0 _ (fun _ => ?_) | refine F_ci _ (fun _ _ => ?_) | refine F_q_i _ (fun _ _ => ?_) | refine F_q_l _ (fun _ _ => ?_) | refine F_q_f _ (fun _ _ => ?_) | refine F_q_r _ (fun _ _ => ?_) | refine F_q_ii _ (fun _ _ _ => ?_) | refine F_q_ll _ (fun _ _ _ => ?_) | refine F_q_ff _ (fun _ _ _ => ?_) | refine F_q_dd _ (fun _ _ _ => ?_) | refine F_q_il _ (fun _ _ _ => ?_) | refine F_q_ir _ (fun _ _ _ => ?_) | refine F_q_iir _ (fun _ _ _ _ => ?_) | refine F_q_lir _ (fun _ _ _ _ => ?_) | refine F_q_dir _ (fun _ _ _ _ => ?_) | refine F_q_rir _ (fun _ _ _ _ => ?_) | refine F_q_lr _ (fun _ _ _ => ?_) | refine F_q_rr _ (fun _ _ _ => ?_) | refine F_q_iirir _ (fun _ _ _ _ _ _ => ?_) | refine F_q_gi _ (fun _ => ?_) | refine F_q_gl _ (fun _ => ?_) | refine F_q_gf _ (fun _ => ?_) | refine F_q_gr _ (fun _ => ?_) | refine F_q_o _ (fun _ => ?_))
  case invokespecial =>
    rcases x4 with _ | _ | _ | _ | _ | x4 <;> dsimp only [am_st] <;> (repeat first | exact hk _ _ _ | exact F_c _ | exact F_K _ _ _ _ | exact F_sw _ _ _ _ _ _ | refine F_gq ?_ | refine F_gb ?_ ?_ | refine F_bif ?_ ?_ | refine F_q_zir _ (fun _ _ _ _ => ?_) | refine F_q_zz _ (fun _ => ?_) ?_ | refine F_cc _ _ _ _ _ _ (fun _ _ => ?_) | refine F_c0 _ (fun _ => ?_) | refine F_ci _ (fun _ _ => ?_) | refine F_q_i _ (fun _ _ => ?_) | refine F_q_l _ (fun _ _ => ?_) | refine F_q_f _ (fun _ _ => ?_) | refine F_q_r _ (fun _ _ => ?_) | refine F_q_ii _ (fun _ _ _ => ?_) | refine F_q_ll _ (fun _ _ _ => ?_) | refine F_q_ff _ (fun _ _ _ => ?_) | refine F_q_dd _ (fun _ _ _ => ?_) | refine F_q_il _ (fun _ _ _ => ?_) | refine F_q_ir _ (fun _ _ _ => ?_) | refine F_q_iir _ (fun _ _ _ _ => ?_) | refine F_q_lir _ (fun _ _ _ _ => ?_) | refine F_q_dir _ (fun _ _ _ _ => ?_) | refine F_q_rir _ (fun _ _ _ _ => ?_) | refine F_q_lr _ (fun _ _ _ => ?_) | refine F_q_rr _ (fun _ _ _ => ?_) | refine F_q_iirir _ (fun _ _ _ _ _ _ => ?_) | refine F_q_gi _ (fun _ => ?_) | refine F_q_gl _ (fun _ => ?_) | refine F_q_gf _ (fun _ => ?_) | refine F_q_gr _ (fun _ => ?_) | refine F_q_o _ (fun _ => ?_))
  case ifCond c o =>
    cases c <;> dsimp only [am_st] <;> (repeat first | exact hk _ _ _ | exact F_c _ | exact F_K _ _ _ _ | exact F_sw _ _ _ _ _ _ | refine F_gq ?_ | refine F_gb ?_ ?_ | refine F_bif ?_ ?_ | refine F_q_zir _ (fun _ _ _ _ => ?_) | refine F_q_zz _ (fun _ => ?_) ?_ | refine F_cc _ _ _ _ _ _ (fun _ _ => ?_) | refine F_c0 _ (fun _ => ?_) | refine F_ci _ (fun _ _ => ?_) | refine F_q_i _ (fun _ _ => ?_) | refine F_q_l _ (fun _ _ => ?_) | refine F_q_f _ (fun _ _ => ?_) | refine F_q_r _ (fun _ _ => ?_) | refine F_q_ii _ (fun _ _ _ => ?_) | refine F_q_ll _ (fun _ _ _ => ?_) | refine F_q_ff _ (fun _ _ _ => ?_) | refine F_q_dd _ (fun _ _ _ => ?_) | refine F_q_il _ (fun _ _ _ => ?_) | refine F_q_ir _ (fun _ _ _ => ?_) | refine F_q_iir _ (fun _ _ _ _ => ?_) | refine F_q_lir _ (fun _ _ _ _ => ?_) | refine F_q_dir _ (fun _ _ _ _ => ?_) | refine F_q_rir _ (fun _ _ _ _ => ?_) | refine F_q_lr _ (fun _ _ _ => ?_) | refine F_q_rr _ (fun _ _ _ => ?_) | refine F_q_iirir _ (fun _ _ _ _ _ _ => ?_) | refine F_q_gi _ (fun _ => ?_) | refine F_q_gl _ (fun _ => ?_) | refine F_q_gf _ (fun _ => ?_) | refine F_q_gr _ (fun _ => ?_) | refine F_q_o _ (fun _ => ?_))
  case if_icmp c o =>
    cases c <;> dsimp only [am_st] <;> (repeat first | exact hk _ _ _ | exact F_c _ | exact F_K _ _ _ _ | exact F_sw _ _ _ _ _ _ | refine F_gq ?_ | refine F_gb ?_ ?_ | refine F_bif ?_ ?_ | refine F_q_zir _ (fun _ _ _ _ => ?_) | refine F_q_zz _ (fun _ => ?_) ?_ | refine F_cc _ _ _ _ _ _ (fun _ _ => ?_) | refine F_c0 _ (fun _ => ?_) | refine F_ci _ (fun _ _ => ?_) | refine F_q_i _ (fun _ _ => ?_) | refine F_q_l _ (fun _ _ => ?_) | refine F_q_f _ (fun _ _ => ?_) | refine F_q_r _ (fun _ _ => ?_) | refine F_q_ii _ (fun _ _ _ => ?_) | refine F_q_ll _ (fun _ _ _ => ?_) | refine F_q_ff _ (fun _ _ _ => ?_) | refine F_q_dd _ (fun _ _ _ => ?_) | refine F_q_il _ (fun _ _ _ => ?_) | refine F_q_ir _ (fun _ _ _ => ?_) | refine F_q_iir _ (fun _ _ _ _ => ?_) | refine F_q_lir _ (fun _ _ _ _ => ?_) | refine F_q_dir _ (fun _ _ _ _ => ?_) | refine F_q_rir _ (fun _ _ _ _ => ?_) | refine F_q_lr _ (fun _ _ _ => ?_) | refine F_q_rr _ (fun _ _ _ => ?_) | refine F_q_iirir _ (fun _ _ _ _ _ _ => ?_) | refine F_q_gi _ (fun _ => ?_) | refine F_q_gl _ (fun _ => ?_) | refine F_q_gf _ (fun _ => ?_) | refine F_q_gr _ (fun _ => ?_) | refine F_q_o _ (fun _ => ?_))
  all_goals dsimp only [am_st]
  all_goals (repeat first | exact hk _ _ _ | exact F_c _ | exact F_K _ _ _ _ | exact F_sw _ _ _ _ _ _ | refine F_gq ?_ | refine F_gb ?_ ?_ | refine F_bif ?_ ?_ | refine F_q_zir _ (fun _ _ _ _ => ?_) | refine F_q_zz _ (fun _ => ?_) ?_ | refine F_cc _ _ _ _ _ _ (fun _ _ => ?_) | refine F_c0 _ (fun _ => ?_) | refine F_ci _ (fun _ _ => ?_) | refine F_q_i _ (fun _ _ => ?_) | refine F_q_l _ (fun _ _ => ?_) | refine F_q_f _ (fun _ _ => ?_) | refine F_q_r _ (fun _ _ => ?_) | refine F_q_ii _ (fun _ _ _ => ?_) | refine F_q_ll _ (fun _ _ _ => ?_) | refine F_q_ff _ (fun _ _ _ => ?_) | refine F_q_dd _ (fun _ _ _ => ?_) | refine F_q_il _ (fun _ _ _ => ?_) | refine F_q_ir _ (fun _ _ _ => ?_) | refine F_q_iir _ (fun _ _ _ _ => ?_) | refine F_q_lir _ (fun _ _ _ _ => ?_) | refine F_q_dir _ (fun _ _ _ _ => ?_) | refine F_q_rir _ (fun _ _ _ _ => ?_) | refine F_q_lr _ (fun _ _ _ => ?_) | refine F_q_rr _ (fun _ _ _ => ?_) | refine F_q_iirir _ (fun _ _ _ _ _ _ => ?_) | refine F_q_gi _ (fun _ => ?_) | refine F_q_gl _ (fun _ => ?_) | refine F_q_gf _ (fun _ => ?_) | refine F_q_gr _ (fun _ => ?_) | refine F_q_o _ (fun _ => ?_))
theorem am_sg_F (sa sv : Nat) (C : Nat → List Value → am_M → Option am_R) (hd : Nat → Nat → Option Int32) (is : List am_I) : ∀ (L : am_L) (S : List Value) (m : am_M), am_F (fun K => am_sg sa sv K C hd is L S m) := by
  induction is with
  | nil => exact fun _ _ _ => F_c none
  | cons q r ih => exact fun L S m => am_st_F sa sv C hd q.1 q.2.1 q.2.2 (fun K => am_sg sa sv K C hd r) ih L S m
theorem am_lm_eq {α : Type} {f : Nat → Option α} (hf : ∀ n r, f n = some r → f (n + 1) = some r) {n : Nat} {r : α} (h : f n = some r) : am_lm f = some r := by
  have up : ∀ j n r, f n = some r → f (n + j) = some r := by
    intro j
    induction j with
    | zero => exact fun _ _ h => h
    | succ j ih => exact fun n r h => hf _ _ (ih n r h)
  have he : ∃ n, (f n).isSome = true := ⟨n, by rw [h]; rfl⟩
  unfold am_lm
  rw [dif_pos he]
  have h1 := Classical.choose_spec he
  cases hc : f (Classical.choose he) with
  | none => rw [hc] at h1; cases h1
  | some r' =>
    have a := up n _ _ hc
    have b := up (Classical.choose he) _ _ h
    rw [Nat.add_comm] at b
    rw [← a, ← b]
theorem am_lm_some {α : Type} {f : Nat → Option α} {r : α} (h : am_lm f = some r) : ∃ n, f n = some r := by
  unfold am_lm at h
  by_cases he : ∃ n, (f n).isSome = true
  · rw [dif_pos he] at h
    exact ⟨_, h⟩
  · rw [dif_neg he] at h
    cases h
section RN
variable (sa sv : Nat) (C : Nat → List Value → am_M → Option am_R) (hd : Nat → Nat → Option Int32) (is : List am_I)
theorem am_ex_up : ∀ (n : Nat) (pc : Nat) (L : am_L) (S : List Value) (m : am_M) (r : am_R), am_ex sa sv C hd is n pc L S m = some r → am_ex sa sv C hd is (n + 1) pc L S m = some r := by
  intro n
  induction n with
  | zero => intro pc L S m r h; cases h
  | succ n ih =>
    intro pc L S m r h
    obtain ⟨ρ, hr⟩ := am_sg_F sa sv C hd (am_dr pc is) L S m
    have hr : ∀ K : am_K, am_sg sa sv K C hd (am_dr pc is) L S m = am_fn K ρ := hr
    have h1 : am_sg sa sv (am_ex sa sv C hd is n) C hd (am_dr pc is) L S m = some r := h
    show am_sg sa sv (am_ex sa sv C hd is (n + 1)) C hd (am_dr pc is) L S m = some r
    rw [hr] at h1 ⊢
    cases ρ with
    | inl r' => exact h1
    | inr q => exact ih _ _ _ _ _ h1
theorem am_rn_of {n pc : Nat} {L : am_L} {S : List Value} {m : am_M} {r : am_R} (h : am_ex sa sv C hd is n pc L S m = some r) : am_rn sa sv C hd is pc L S m = some r :=
  am_lm_eq (f := fun n => am_ex sa sv C hd is n pc L S m) (fun n r h => am_ex_up sa sv C hd is n pc L S m r h) h
theorem am_rn_some {pc : Nat} {L : am_L} {S : List Value} {m : am_M} {r : am_R} (h : am_rn sa sv C hd is pc L S m = some r) : ∃ n, am_ex sa sv C hd is n pc L S m = some r := am_lm_some h
/-- A RUN UNFOLDS -/
theorem am_rn_eq (pc : Nat) (L : am_L) (S : List Value) (m : am_M) : am_rn sa sv C hd is pc L S m = am_sg sa sv (am_rn sa sv C hd is) C hd (am_dr pc is) L S m := by
  obtain ⟨ρ, hr⟩ := am_sg_F sa sv C hd (am_dr pc is) L S m
  have hr : ∀ K : am_K, am_sg sa sv K C hd (am_dr pc is) L S m = am_fn K ρ := hr
  have one : ∀ r, am_sg sa sv (am_rn sa sv C hd is) C hd (am_dr pc is) L S m = some r → am_rn sa sv C hd is pc L S m = some r := by
    intro r h
    rw [hr] at h
    cases ρ with
    | inl r' => exact am_rn_of sa sv C hd is (n := 1) (show am_sg sa sv (am_ex sa sv C hd is 0) C hd (am_dr pc is) L S m = some r by rw [hr]; exact h)
    | inr q =>
      obtain ⟨n, hn⟩ := am_rn_some sa sv C hd is h
      exact am_rn_of sa sv C hd is (n := n + 1) (show am_sg sa sv (am_ex sa sv C hd is n) C hd (am_dr pc is) L S m = some r by rw [hr]; exact hn)
  cases h : am_sg sa sv (am_rn sa sv C hd is) C hd (am_dr pc is) L S m with
  | some r => exact one r h
  | none =>
    cases h2 : am_rn sa sv C hd is pc L S m with
    | none => rfl
    | some r =>
      obtain ⟨n, hn⟩ := am_rn_some sa sv C hd is h2
      cases n with
      | zero => cases hn
      | succ n =>
        have h3 : am_sg sa sv (am_ex sa sv C hd is n) C hd (am_dr pc is) L S m = some r := hn
        rw [hr] at h h3
        cases ρ with
        | inl r' => exact (h3.symm.trans h).symm ▸ rfl
        | inr q =>
          have h4 := am_rn_of sa sv C hd is h3
          have h5 : am_rn sa sv C hd is q.1 q.2.1 q.2.2.1 q.2.2.2 = none := h
          rw [h4] at h5
          cases h5
end RN
