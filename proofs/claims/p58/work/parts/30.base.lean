/-! base of the runs: choices, calls, numbers -/
theorem gq_cg {α : Type} {p : Prop} {x x' : Option α} (h : x = x') : gq_ p x = gq_ p x' := congrArg (gq_ p) h
theorem gb_cg {α : Type} {p : Prop} {x x' y y' : Option α} (h : x = x') (h' : y = y') : gb_ p x y = gb_ p x' y' := by rw [h, h']
theorem gb_ite {α : Type} {p : Prop} [Decidable p] {x y : Option α} : gb_ p x y = if p then x else y := by
  by_cases h : p
  · rw [gb_pos h, if_pos h]
  · rw [gb_neg h, if_neg h]
theorem gb_same {α : Type} {p : Prop} {x : Option α} : gb_ p x x = x := by
  by_cases h : p
  · rw [gb_pos h]
  · rw [gb_neg h]
theorem gq_true {α : Type} {x : Option α} : gq_ True x = x := gq_pos trivial
theorem gb_true {α : Type} {x y : Option α} : gb_ True x y = x := gb_pos trivial
theorem gb_false {α : Type} {x y : Option α} : gb_ False x y = y := gb_neg id
theorem c0_cg {r : Option am_R} {f f' : am_M → Option am_R} {g : Nat → am_M → Option am_R} (h : ∀ m, f m = f' m) : am_c0 r f g = am_c0 r f' g := by rw [funext h]
theorem ci_cg {r : Option am_R} {f f' : Int32 → am_M → Option am_R} {g : Nat → am_M → Option am_R} (h : ∀ v m, f v m = f' v m) : am_ci r f g = am_ci r f' g := by rw [funext fun v => funext (h v)]
theorem cl_cg {r : Option am_R} {f f' : Int64 → am_M → Option am_R} {g : Nat → am_M → Option am_R} (h : ∀ v m, f v m = f' v m) : am_cl r f g = am_cl r f' g := by rw [funext fun v => funext (h v)]
theorem cr_cg {r : Option am_R} {f f' : Nat → am_M → Option am_R} {g : Nat → am_M → Option am_R} (h : ∀ v m, f v m = f' v m) : am_cr r f g = am_cr r f' g := by rw [funext fun v => funext (h v)]
theorem cf_cg {r : Option am_R} {f f' : UInt32 → am_M → Option am_R} {g : Nat → am_M → Option am_R} (h : ∀ v m, f v m = f' v m) : am_cf r f g = am_cf r f' g := by rw [funext fun v => funext (h v)]
def am_xg : Nat → am_M → Option am_R := fun E m => some (.inr E, m)
theorem c0_v {m : am_M} {f : am_M → Option am_R} {g : Nat → am_M → Option am_R} : am_c0 (some (.inl none, m)) f g = f m := rfl
theorem ci_v {v : Int32} {m : am_M} {f : Int32 → am_M → Option am_R} {g : Nat → am_M → Option am_R} : am_ci (some (.inl (some (.int v)), m)) f g = f v m := rfl
theorem cl_v {v : Int64} {m : am_M} {f : Int64 → am_M → Option am_R} {g : Nat → am_M → Option am_R} : am_cl (some (.inl (some (.long v)), m)) f g = f v m := rfl
theorem cr_v {v : Nat} {m : am_M} {f : Nat → am_M → Option am_R} {g : Nat → am_M → Option am_R} : am_cr (some (.inl (some (.ref v)), m)) f g = f v m := rfl
theorem cf_v {v : UInt32} {m : am_M} {f : UInt32 → am_M → Option am_R} {g : Nat → am_M → Option am_R} : am_cf (some (.inl (some (.float v)), m)) f g = f v m := rfl
theorem c0_x {E : Nat} {m : am_M} {f : am_M → Option am_R} {g : Nat → am_M → Option am_R} : am_c0 (some (.inr E, m)) f g = g E m := rfl
theorem ci_x {E : Nat} {m : am_M} {f : Int32 → am_M → Option am_R} {g : Nat → am_M → Option am_R} : am_ci (some (.inr E, m)) f g = g E m := rfl
theorem cl_x {E : Nat} {m : am_M} {f : Int64 → am_M → Option am_R} {g : Nat → am_M → Option am_R} : am_cl (some (.inr E, m)) f g = g E m := rfl
theorem cr_x {E : Nat} {m : am_M} {f : Nat → am_M → Option am_R} {g : Nat → am_M → Option am_R} : am_cr (some (.inr E, m)) f g = g E m := rfl
theorem cf_x {E : Nat} {m : am_M} {f : UInt32 → am_M → Option am_R} {g : Nat → am_M → Option am_R} : am_cf (some (.inr E, m)) f g = g E m := rfl
theorem xg_v {E : Nat} {m : am_M} : am_xg E m = some (.inr E, m) := rfl
/-! what is read behind a write -/
section MM
variable (m : am_M) (a b j k : Nat) (v : Int32) (w : Int64) (r : Nat) (u : UInt64)
theorem gk_siF : gk_ (si_ m a k v) = gk_ m := rfl
theorem gk_sl : gk_ (sl_ m a k w) = gk_ m := rfl
theorem gk_sr : gk_ (sr_ m a k r) = gk_ m := rfl
theorem gk_sd : gk_ (sd_ m a k u) = gk_ m := rfl
theorem gi_sl : gi_ (sl_ m a k w) = gi_ m := rfl
theorem gi_sr : gi_ (sr_ m a k r) = gi_ m := rfl
theorem gi_sd : gi_ (sd_ m a k u) = gi_ m := rfl
theorem gl_si : gl_ (si_ m a k v) = gl_ m := rfl
theorem gl_sr : gl_ (sr_ m a k r) = gl_ m := rfl
theorem gl_sd : gl_ (sd_ m a k u) = gl_ m := rfl
theorem gr_si : gr_ (si_ m a k v) = gr_ m := rfl
theorem gr_sl : gr_ (sl_ m a k w) = gr_ m := rfl
theorem gr_sd : gr_ (sd_ m a k u) = gr_ m := rfl
theorem gd_si : gd_ (si_ m a k v) = gd_ m := rfl
theorem gd_sl : gd_ (sl_ m a k w) = gd_ m := rfl
theorem gd_sr : gd_ (sr_ m a k r) = gd_ m := rfl
end MM
theorem in_of {n N : Nat} (h : n < N) (hN : N < 2 ^ 31) : in_ (nI n) N := vp_in_nI h hN
