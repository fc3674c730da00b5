/-! four signs in a word -/
def pn (f : Nat → Nat) : Nat → Nat
  | 0 => 0
  | n + 1 => pn f n * 256 + f n
theorem pn_4 {f : Nat → Nat} (h : ∀ c, c < 4 → f c < 128) : pn f 4 = f 0 * 16777216 + f 1 * 65536 + f 2 * 256 + f 3 := by
  show ((((0 * 256 + f 0) * 256 + f 1) * 256 + f 2) * 256 + f 3) = _
  omega
theorem pn_b {f : Nat → Nat} (h : ∀ c, c < 4 → f c < 128) : ∀ n, n ≤ 3 → pn f n < 8388608 := by
  have h0 := h 0 (by decide)
  have h1 := h 1 (by decide)
  have h2 := h 2 (by decide)
  intro n hn
  match n, hn with
  | 0, _ => show 0 < 8388608; omega
  | 1, _ => show 0 * 256 + f 0 < 8388608; omega
  | 2, _ => show (0 * 256 + f 0) * 256 + f 1 < 8388608; omega
  | 3, _ => show ((0 * 256 + f 0) * 256 + f 1) * 256 + f 2 < 8388608; omega
theorem nI_8or {v y : Nat} (hv : v < 8388608) (hy : y < 256) : (nI v <<< (nI 8 &&& 31)) ||| nI y = nI (v * 256 + y) := by
  rw [pk_shlN _ 8 (by decide) (by omega), nI_or]
  congr 1
  have h := Nat.shiftLeft_add_eq_or_of_lt (show y < 2 ^ 8 from hy) v
  rw [Nat.shiftLeft_eq] at h
  exact h.symm
theorem byt_n {V : Nat} (hV : V < 2 ^ 31) (k : Nat) (hk : ((nI k &&& 31).toBitVec.smod 32).toNat = k) : byt (nI V) (nI k) = V / 2 ^ k % 256 := by
  unfold byt
  rw [pk_shrN hV _ k hk]
  show (BitVec.ofNat 32 (V / 2 ^ k)).toNat % 256 = _
  rw [BitVec.toNat_ofNat, Nat.mod_eq_of_lt (a := V / 2 ^ k) (by have := Nat.div_le_self V (2 ^ k); omega)]
theorem four_at {f b : Nat → Nat} {n k : Nat} (h : ∀ c, c < 4 → f c < 128) : fourB b n (nI (pn f 4)) k = if n ≤ k ∧ k < n + 4 then f (k - n) else b k := by
  have h0 := h 0 (by decide)
  have h1 := h 1 (by decide)
  have h2 := h 2 (by decide)
  have h3 := h 3 (by decide)
  have hV : pn f 4 < 2 ^ 31 := by rw [pn_4 h]; omega
  have e24 : byt (nI (pn f 4)) (nI 24) = f 0 := by rw [byt_n hV 24 (by decide), pn_4 h]; omega
  have e16 : byt (nI (pn f 4)) (nI 16) = f 1 := by rw [byt_n hV 16 (by decide), pn_4 h]; omega
  have e8 : byt (nI (pn f 4)) (nI 8) = f 2 := by rw [byt_n hV 8 (by decide), pn_4 h]; omega
  have e0 : byt (nI (pn f 4)) (nI 0) = f 3 := by rw [byt_n hV 0 (by decide), pn_4 h]; omega
  unfold fourB putb
  rw [e24, e16, e8, e0]
  by_cases c3 : k = n + 3
  · rw [if_pos c3, if_pos (by omega), show k - n = 3 by omega]
  · rw [if_neg c3]
    by_cases c2 : k = n + 2
    · rw [if_pos c2, if_pos (by omega), show k - n = 2 by omega]
    · rw [if_neg c2]
      by_cases c1 : k = n + 1
      · rw [if_pos c1, if_pos (by omega), show k - n = 1 by omega]
      · rw [if_neg c1]
        by_cases c0 : k = n
        · rw [if_pos c0, if_pos (by omega), show k - n = 0 by omega]
        · rw [if_neg c0, if_neg (by omega)]
theorem fed_at {ch : Nat → Nat} (X : TX) (h : ∀ k, ch k < 128) (k : Nat) (hk : k < X.n + 20) : fedB X (nI (pn (fun c => ch (X.n + 4 * 0 + c)) 4)) (nI (pn (fun c => ch (X.n + 4 * 1 + c)) 4)) (nI (pn (fun c => ch (X.n + 4 * 2 + c)) 4)) (nI (pn (fun c => ch (X.n + 4 * 3 + c)) 4)) (nI (pn (fun c => ch (X.n + 4 * 4 + c)) 4)) k = if X.n ≤ k then ch k else X.b k := by
  unfold fedB
  rw [four_at (fun c _ => h _), four_at (fun c _ => h _), four_at (fun c _ => h _), four_at (fun c _ => h _), four_at (fun c _ => h _)]
  by_cases c4 : X.n + 16 ≤ k
  · rw [if_pos (by omega), if_pos (by omega)]; congr 1; omega
  · rw [if_neg (by omega)]
    by_cases c3 : X.n + 12 ≤ k
    · rw [if_pos (by omega), if_pos (by omega)]; congr 1; omega
    · rw [if_neg (by omega)]
      by_cases c2 : X.n + 8 ≤ k
      · rw [if_pos (by omega), if_pos (by omega)]; congr 1; omega
      · rw [if_neg (by omega)]
        by_cases c1 : X.n + 4 ≤ k
        · rw [if_pos (by omega), if_pos (by omega)]; congr 1; omega
        · rw [if_neg (by omega)]
          by_cases c0 : X.n ≤ k
          · rw [if_pos (by omega), if_pos (by omega)]; congr 1; omega
          · rw [if_neg (by omega), if_neg (by omega)]
/-- other bytes behind the end -/
theorem TC.wb {m : am_M} {N n : Nat} {X : TX} {b b' : Nat → Nat} (h : TC m N (X.wB b n)) (e : ∀ k, k < n → b' k = b k) : TC m N (X.wB b' n) :=
  ⟨h.x, h.q, ⟨h.b.1, fun k hk => by
    have := h.b.2 k hk
    show b' k < 256 ∧ gi_ m (N + 1) k = sb (b' k)
    rw [e k hk]; exact this⟩, h.2.2.2⟩
theorem TC.wb0 {m : am_M} {N : Nat} {X : TX} (h : TC m N X) (e : X.n = 0) (b' : Nat → Nat) : TC m N (X.wB b' 0) :=
  ⟨h.x, h.q, ⟨Nat.zero_le _, fun k hk => absurd hk (Nat.not_lt_zero _)⟩, by have := h.n; rw [e] at this; exact this, h.2.2.2.2⟩
