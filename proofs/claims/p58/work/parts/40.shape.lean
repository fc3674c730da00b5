/-! where things lie behind the constructors; what a run leaves as it was; loops -/
def ok_ : List (Nat × Nat) := [(1, 3), (1, 0), (4, 10), (2, 10), (4, 12), (2, 12), (2, 12), (1, 8), (2, 72), (1, 8), (2, 96), (1, 8), (2, 384), (1, 8), (2, 96), (1, 8), (2, 72), (1, 8), (2, 256), (1, 2), (4, 10), (4, 40), (4, 30), (4, 120), (4, 12), (4, 250), (2, 5)]
def orf_ : List (Nat × Nat × Nat) := [(0, 1, 1), (0, 2, 13), (0, 3, 15), (0, 4, 17), (0, 5, 19), (1, 2, 2), (1, 3, 3), (1, 4, 4), (1, 5, 5), (1, 6, 6), (1, 7, 7), (1, 8, 9), (1, 9, 11), (7, 1, 8), (9, 1, 10), (11, 1, 12), (13, 1, 14), (15, 1, 16), (17, 1, 18), (19, 0, 20), (19, 1, 21), (19, 2, 22), (19, 3, 23), (19, 4, 24), (19, 5, 25), (19, 6, 26)]
def owd_ : List (Nat × Nat) := [(7, 2), (9, 2), (11, 2), (13, 6), (15, 6), (17, 4)]
def xk_ : List (Nat × Nat × Nat) := [(0, 1, 10), (1, 3, 900), (2, 1, 9), (3, 4, 21), (4, 2, 901), (5, 2, 901), (6, 4, 901), (7, 1, 7), (8, 1, 8), (9, 2, 8), (10, 1, 5), (11, 1, 8), (12, 2, 120), (13, 1, 6), (14, 1, 1), (15, 2, 12), (16, 2, 120), (17, 2, 10), (18, 2, 12), (19, 2, 12), (20, 2, 10), (21, 1, 8), (22, 2, 256), (23, 1, 4), (24, 3, 3840), (25, 3, 20), (26, 6, 5)]
def xr_ : List (Nat × Nat × Nat) := [(0, 0, 1), (0, 2, 2), (0, 3, 7), (0, 4, 13), (0, 5, 10), (0, 6, 14), (0, 7, 23), (0, 8, 26), (0, 10, 162), (2, 0, 3), (2, 1, 4), (2, 2, 5), (2, 3, 6), (7, 0, 2), (7, 1, 8), (8, 1, 9), (10, 0, 11), (11, 1, 12), (13, 0, 2), (13, 1, 10), (14, 0, 15), (14, 1, 16), (14, 2, 17), (14, 3, 18), (14, 4, 19), (14, 5, 20), (14, 6, 21), (21, 1, 22), (23, 0, 24), (23, 1, 25)]
def xw_ : List (Nat × Nat) := [(8, 2), (11, 4), (21, 4)]
/-- an office at o -/
def OS (m : am_M) (o : Nat) : Prop := (∀ a, a < 27 → gk_ m (o + a) = ok_.getD a (0, 0)) ∧ (∀ q, q ∈ orf_ → gr_ m (o + q.1) q.2.1 = o + q.2.2) ∧ (∀ q, q ∈ owd_ → gi_ m (o + q.1) 0 = nI q.2)
/-- all else that the two constructors made -/
def XS (m : am_M) (N : Nat) : Prop := (∀ q, q ∈ xk_ → gk_ m (N + q.1) = q.2) ∧ (∀ q, q ∈ xr_ → gr_ m (N + q.1) q.2.1 = N + q.2.2) ∧ (∀ q, q ∈ xw_ → gi_ m (N + q.1) 0 = nI q.2)
/-- a table at t of width w with n cells -/
def TS (m : am_M) (t w n : Nat) : Prop := gk_ m t = (1, 8) ∧ gi_ m t 0 = nI w ∧ gr_ m t 1 = t + 1 ∧ gk_ m (t + 1) = (2, n)
theorem ok0 {m : am_M} {o : Nat} (h : OS m o) : gk_ m o = (1, 3) := h.1 0 (by decide)
theorem ok1 {m : am_M} {o : Nat} (h : OS m o) : gk_ m (o + 1) = (1, 0) := h.1 1 (by decide)
theorem ok2 {m : am_M} {o : Nat} (h : OS m o) : gk_ m (o + 2) = (4, 10) := h.1 2 (by decide)
theorem ok3 {m : am_M} {o : Nat} (h : OS m o) : gk_ m (o + 3) = (2, 10) := h.1 3 (by decide)
theorem ok4 {m : am_M} {o : Nat} (h : OS m o) : gk_ m (o + 4) = (4, 12) := h.1 4 (by decide)
theorem ok5 {m : am_M} {o : Nat} (h : OS m o) : gk_ m (o + 5) = (2, 12) := h.1 5 (by decide)
theorem ok6 {m : am_M} {o : Nat} (h : OS m o) : gk_ m (o + 6) = (2, 12) := h.1 6 (by decide)
theorem ok7 {m : am_M} {o : Nat} (h : OS m o) : gk_ m (o + 7) = (1, 8) := h.1 7 (by decide)
theorem ok8 {m : am_M} {o : Nat} (h : OS m o) : gk_ m (o + 8) = (2, 72) := h.1 8 (by decide)
theorem ok9 {m : am_M} {o : Nat} (h : OS m o) : gk_ m (o + 9) = (1, 8) := h.1 9 (by decide)
theorem ok10 {m : am_M} {o : Nat} (h : OS m o) : gk_ m (o + 10) = (2, 96) := h.1 10 (by decide)
theorem ok11 {m : am_M} {o : Nat} (h : OS m o) : gk_ m (o + 11) = (1, 8) := h.1 11 (by decide)
theorem ok12 {m : am_M} {o : Nat} (h : OS m o) : gk_ m (o + 12) = (2, 384) := h.1 12 (by decide)
theorem ok13 {m : am_M} {o : Nat} (h : OS m o) : gk_ m (o + 13) = (1, 8) := h.1 13 (by decide)
theorem ok14 {m : am_M} {o : Nat} (h : OS m o) : gk_ m (o + 14) = (2, 96) := h.1 14 (by decide)
theorem ok15 {m : am_M} {o : Nat} (h : OS m o) : gk_ m (o + 15) = (1, 8) := h.1 15 (by decide)
theorem ok16 {m : am_M} {o : Nat} (h : OS m o) : gk_ m (o + 16) = (2, 72) := h.1 16 (by decide)
theorem ok17 {m : am_M} {o : Nat} (h : OS m o) : gk_ m (o + 17) = (1, 8) := h.1 17 (by decide)
theorem ok18 {m : am_M} {o : Nat} (h : OS m o) : gk_ m (o + 18) = (2, 256) := h.1 18 (by decide)
theorem ok19 {m : am_M} {o : Nat} (h : OS m o) : gk_ m (o + 19) = (1, 2) := h.1 19 (by decide)
theorem ok20 {m : am_M} {o : Nat} (h : OS m o) : gk_ m (o + 20) = (4, 10) := h.1 20 (by decide)
theorem ok21 {m : am_M} {o : Nat} (h : OS m o) : gk_ m (o + 21) = (4, 40) := h.1 21 (by decide)
theorem ok22 {m : am_M} {o : Nat} (h : OS m o) : gk_ m (o + 22) = (4, 30) := h.1 22 (by decide)
theorem ok23 {m : am_M} {o : Nat} (h : OS m o) : gk_ m (o + 23) = (4, 120) := h.1 23 (by decide)
theorem ok24 {m : am_M} {o : Nat} (h : OS m o) : gk_ m (o + 24) = (4, 12) := h.1 24 (by decide)
theorem ok25 {m : am_M} {o : Nat} (h : OS m o) : gk_ m (o + 25) = (4, 250) := h.1 25 (by decide)
theorem ok26 {m : am_M} {o : Nat} (h : OS m o) : gk_ m (o + 26) = (2, 5) := h.1 26 (by decide)
theorem or0_1 {m : am_M} {o : Nat} (h : OS m o) : gr_ m o 1 = o + 1 := h.2.1 (0, 1, 1) (by decide)
theorem or0_2 {m : am_M} {o : Nat} (h : OS m o) : gr_ m o 2 = o + 13 := h.2.1 (0, 2, 13) (by decide)
theorem or0_3 {m : am_M} {o : Nat} (h : OS m o) : gr_ m o 3 = o + 15 := h.2.1 (0, 3, 15) (by decide)
theorem or0_4 {m : am_M} {o : Nat} (h : OS m o) : gr_ m o 4 = o + 17 := h.2.1 (0, 4, 17) (by decide)
theorem or0_5 {m : am_M} {o : Nat} (h : OS m o) : gr_ m o 5 = o + 19 := h.2.1 (0, 5, 19) (by decide)
theorem or1_2 {m : am_M} {o : Nat} (h : OS m o) : gr_ m (o + 1) 2 = o + 2 := h.2.1 (1, 2, 2) (by decide)
theorem or1_3 {m : am_M} {o : Nat} (h : OS m o) : gr_ m (o + 1) 3 = o + 3 := h.2.1 (1, 3, 3) (by decide)
theorem or1_4 {m : am_M} {o : Nat} (h : OS m o) : gr_ m (o + 1) 4 = o + 4 := h.2.1 (1, 4, 4) (by decide)
theorem or1_5 {m : am_M} {o : Nat} (h : OS m o) : gr_ m (o + 1) 5 = o + 5 := h.2.1 (1, 5, 5) (by decide)
theorem or1_6 {m : am_M} {o : Nat} (h : OS m o) : gr_ m (o + 1) 6 = o + 6 := h.2.1 (1, 6, 6) (by decide)
theorem or1_7 {m : am_M} {o : Nat} (h : OS m o) : gr_ m (o + 1) 7 = o + 7 := h.2.1 (1, 7, 7) (by decide)
theorem or1_8 {m : am_M} {o : Nat} (h : OS m o) : gr_ m (o + 1) 8 = o + 9 := h.2.1 (1, 8, 9) (by decide)
theorem or1_9 {m : am_M} {o : Nat} (h : OS m o) : gr_ m (o + 1) 9 = o + 11 := h.2.1 (1, 9, 11) (by decide)
theorem or7_1 {m : am_M} {o : Nat} (h : OS m o) : gr_ m (o + 7) 1 = o + 8 := h.2.1 (7, 1, 8) (by decide)
theorem or9_1 {m : am_M} {o : Nat} (h : OS m o) : gr_ m (o + 9) 1 = o + 10 := h.2.1 (9, 1, 10) (by decide)
theorem or11_1 {m : am_M} {o : Nat} (h : OS m o) : gr_ m (o + 11) 1 = o + 12 := h.2.1 (11, 1, 12) (by decide)
theorem or13_1 {m : am_M} {o : Nat} (h : OS m o) : gr_ m (o + 13) 1 = o + 14 := h.2.1 (13, 1, 14) (by decide)
theorem or15_1 {m : am_M} {o : Nat} (h : OS m o) : gr_ m (o + 15) 1 = o + 16 := h.2.1 (15, 1, 16) (by decide)
theorem or17_1 {m : am_M} {o : Nat} (h : OS m o) : gr_ m (o + 17) 1 = o + 18 := h.2.1 (17, 1, 18) (by decide)
theorem or19_0 {m : am_M} {o : Nat} (h : OS m o) : gr_ m (o + 19) 0 = o + 20 := h.2.1 (19, 0, 20) (by decide)
theorem or19_1 {m : am_M} {o : Nat} (h : OS m o) : gr_ m (o + 19) 1 = o + 21 := h.2.1 (19, 1, 21) (by decide)
theorem or19_2 {m : am_M} {o : Nat} (h : OS m o) : gr_ m (o + 19) 2 = o + 22 := h.2.1 (19, 2, 22) (by decide)
theorem or19_3 {m : am_M} {o : Nat} (h : OS m o) : gr_ m (o + 19) 3 = o + 23 := h.2.1 (19, 3, 23) (by decide)
theorem or19_4 {m : am_M} {o : Nat} (h : OS m o) : gr_ m (o + 19) 4 = o + 24 := h.2.1 (19, 4, 24) (by decide)
theorem or19_5 {m : am_M} {o : Nat} (h : OS m o) : gr_ m (o + 19) 5 = o + 25 := h.2.1 (19, 5, 25) (by decide)
theorem or19_6 {m : am_M} {o : Nat} (h : OS m o) : gr_ m (o + 19) 6 = o + 26 := h.2.1 (19, 6, 26) (by decide)
theorem ot7 {m : am_M} {o : Nat} (h : OS m o) : TS m (o + 7) 2 72 := ⟨ok7 h, h.2.2 (7, 2) (by decide), or7_1 h, ok8 h⟩
theorem ot9 {m : am_M} {o : Nat} (h : OS m o) : TS m (o + 9) 2 96 := ⟨ok9 h, h.2.2 (9, 2) (by decide), or9_1 h, ok10 h⟩
theorem ot11 {m : am_M} {o : Nat} (h : OS m o) : TS m (o + 11) 2 384 := ⟨ok11 h, h.2.2 (11, 2) (by decide), or11_1 h, ok12 h⟩
theorem ot13 {m : am_M} {o : Nat} (h : OS m o) : TS m (o + 13) 6 96 := ⟨ok13 h, h.2.2 (13, 6) (by decide), or13_1 h, ok14 h⟩
theorem ot15 {m : am_M} {o : Nat} (h : OS m o) : TS m (o + 15) 6 72 := ⟨ok15 h, h.2.2 (15, 6) (by decide), or15_1 h, ok16 h⟩
theorem ot17 {m : am_M} {o : Nat} (h : OS m o) : TS m (o + 17) 4 256 := ⟨ok17 h, h.2.2 (17, 4) (by decide), or17_1 h, ok18 h⟩
theorem xk0 {m : am_M} {N : Nat} (h : XS m N) : gk_ m N = (1, 10) := h.1 (0, 1, 10) (by decide)
theorem xk1 {m : am_M} {N : Nat} (h : XS m N) : gk_ m (N + 1) = (3, 900) := h.1 (1, 3, 900) (by decide)
theorem xk2 {m : am_M} {N : Nat} (h : XS m N) : gk_ m (N + 2) = (1, 9) := h.1 (2, 1, 9) (by decide)
theorem xk3 {m : am_M} {N : Nat} (h : XS m N) : gk_ m (N + 3) = (4, 21) := h.1 (3, 4, 21) (by decide)
theorem xk4 {m : am_M} {N : Nat} (h : XS m N) : gk_ m (N + 4) = (2, 901) := h.1 (4, 2, 901) (by decide)
theorem xk5 {m : am_M} {N : Nat} (h : XS m N) : gk_ m (N + 5) = (2, 901) := h.1 (5, 2, 901) (by decide)
theorem xk6 {m : am_M} {N : Nat} (h : XS m N) : gk_ m (N + 6) = (4, 901) := h.1 (6, 4, 901) (by decide)
theorem xk7 {m : am_M} {N : Nat} (h : XS m N) : gk_ m (N + 7) = (1, 7) := h.1 (7, 1, 7) (by decide)
theorem xk8 {m : am_M} {N : Nat} (h : XS m N) : gk_ m (N + 8) = (1, 8) := h.1 (8, 1, 8) (by decide)
theorem xk9 {m : am_M} {N : Nat} (h : XS m N) : gk_ m (N + 9) = (2, 8) := h.1 (9, 2, 8) (by decide)
theorem xk10 {m : am_M} {N : Nat} (h : XS m N) : gk_ m (N + 10) = (1, 5) := h.1 (10, 1, 5) (by decide)
theorem xk11 {m : am_M} {N : Nat} (h : XS m N) : gk_ m (N + 11) = (1, 8) := h.1 (11, 1, 8) (by decide)
theorem xk12 {m : am_M} {N : Nat} (h : XS m N) : gk_ m (N + 12) = (2, 120) := h.1 (12, 2, 120) (by decide)
theorem xk13 {m : am_M} {N : Nat} (h : XS m N) : gk_ m (N + 13) = (1, 6) := h.1 (13, 1, 6) (by decide)
theorem xk14 {m : am_M} {N : Nat} (h : XS m N) : gk_ m (N + 14) = (1, 1) := h.1 (14, 1, 1) (by decide)
theorem xk15 {m : am_M} {N : Nat} (h : XS m N) : gk_ m (N + 15) = (2, 12) := h.1 (15, 2, 12) (by decide)
theorem xk16 {m : am_M} {N : Nat} (h : XS m N) : gk_ m (N + 16) = (2, 120) := h.1 (16, 2, 120) (by decide)
theorem xk17 {m : am_M} {N : Nat} (h : XS m N) : gk_ m (N + 17) = (2, 10) := h.1 (17, 2, 10) (by decide)
theorem xk18 {m : am_M} {N : Nat} (h : XS m N) : gk_ m (N + 18) = (2, 12) := h.1 (18, 2, 12) (by decide)
theorem xk19 {m : am_M} {N : Nat} (h : XS m N) : gk_ m (N + 19) = (2, 12) := h.1 (19, 2, 12) (by decide)
theorem xk20 {m : am_M} {N : Nat} (h : XS m N) : gk_ m (N + 20) = (2, 10) := h.1 (20, 2, 10) (by decide)
theorem xk21 {m : am_M} {N : Nat} (h : XS m N) : gk_ m (N + 21) = (1, 8) := h.1 (21, 1, 8) (by decide)
theorem xk22 {m : am_M} {N : Nat} (h : XS m N) : gk_ m (N + 22) = (2, 256) := h.1 (22, 2, 256) (by decide)
theorem xk23 {m : am_M} {N : Nat} (h : XS m N) : gk_ m (N + 23) = (1, 4) := h.1 (23, 1, 4) (by decide)
theorem xk24 {m : am_M} {N : Nat} (h : XS m N) : gk_ m (N + 24) = (3, 3840) := h.1 (24, 3, 3840) (by decide)
theorem xk25 {m : am_M} {N : Nat} (h : XS m N) : gk_ m (N + 25) = (3, 20) := h.1 (25, 3, 20) (by decide)
theorem xk26 {m : am_M} {N : Nat} (h : XS m N) : gk_ m (N + 26) = (6, 5) := h.1 (26, 6, 5) (by decide)
theorem xr0_0 {m : am_M} {N : Nat} (h : XS m N) : gr_ m N 0 = N + 1 := h.2.1 (0, 0, 1) (by decide)
theorem xr0_2 {m : am_M} {N : Nat} (h : XS m N) : gr_ m N 2 = N + 2 := h.2.1 (0, 2, 2) (by decide)
theorem xr0_3 {m : am_M} {N : Nat} (h : XS m N) : gr_ m N 3 = N + 7 := h.2.1 (0, 3, 7) (by decide)
theorem xr0_4 {m : am_M} {N : Nat} (h : XS m N) : gr_ m N 4 = N + 13 := h.2.1 (0, 4, 13) (by decide)
theorem xr0_5 {m : am_M} {N : Nat} (h : XS m N) : gr_ m N 5 = N + 10 := h.2.1 (0, 5, 10) (by decide)
theorem xr0_6 {m : am_M} {N : Nat} (h : XS m N) : gr_ m N 6 = N + 14 := h.2.1 (0, 6, 14) (by decide)
theorem xr0_7 {m : am_M} {N : Nat} (h : XS m N) : gr_ m N 7 = N + 23 := h.2.1 (0, 7, 23) (by decide)
theorem xr0_8 {m : am_M} {N : Nat} (h : XS m N) : gr_ m N 8 = N + 26 := h.2.1 (0, 8, 26) (by decide)
theorem xr0_10 {m : am_M} {N : Nat} (h : XS m N) : gr_ m N 10 = N + 162 := h.2.1 (0, 10, 162) (by decide)
theorem xr2_0 {m : am_M} {N : Nat} (h : XS m N) : gr_ m (N + 2) 0 = N + 3 := h.2.1 (2, 0, 3) (by decide)
theorem xr2_1 {m : am_M} {N : Nat} (h : XS m N) : gr_ m (N + 2) 1 = N + 4 := h.2.1 (2, 1, 4) (by decide)
theorem xr2_2 {m : am_M} {N : Nat} (h : XS m N) : gr_ m (N + 2) 2 = N + 5 := h.2.1 (2, 2, 5) (by decide)
theorem xr2_3 {m : am_M} {N : Nat} (h : XS m N) : gr_ m (N + 2) 3 = N + 6 := h.2.1 (2, 3, 6) (by decide)
theorem xr7_0 {m : am_M} {N : Nat} (h : XS m N) : gr_ m (N + 7) 0 = N + 2 := h.2.1 (7, 0, 2) (by decide)
theorem xr7_1 {m : am_M} {N : Nat} (h : XS m N) : gr_ m (N + 7) 1 = N + 8 := h.2.1 (7, 1, 8) (by decide)
theorem xr8_1 {m : am_M} {N : Nat} (h : XS m N) : gr_ m (N + 8) 1 = N + 9 := h.2.1 (8, 1, 9) (by decide)
theorem xr10_0 {m : am_M} {N : Nat} (h : XS m N) : gr_ m (N + 10) 0 = N + 11 := h.2.1 (10, 0, 11) (by decide)
theorem xr11_1 {m : am_M} {N : Nat} (h : XS m N) : gr_ m (N + 11) 1 = N + 12 := h.2.1 (11, 1, 12) (by decide)
theorem xr13_0 {m : am_M} {N : Nat} (h : XS m N) : gr_ m (N + 13) 0 = N + 2 := h.2.1 (13, 0, 2) (by decide)
theorem xr13_1 {m : am_M} {N : Nat} (h : XS m N) : gr_ m (N + 13) 1 = N + 10 := h.2.1 (13, 1, 10) (by decide)
theorem xr14_0 {m : am_M} {N : Nat} (h : XS m N) : gr_ m (N + 14) 0 = N + 15 := h.2.1 (14, 0, 15) (by decide)
theorem xr14_1 {m : am_M} {N : Nat} (h : XS m N) : gr_ m (N + 14) 1 = N + 16 := h.2.1 (14, 1, 16) (by decide)
theorem xr14_2 {m : am_M} {N : Nat} (h : XS m N) : gr_ m (N + 14) 2 = N + 17 := h.2.1 (14, 2, 17) (by decide)
theorem xr14_3 {m : am_M} {N : Nat} (h : XS m N) : gr_ m (N + 14) 3 = N + 18 := h.2.1 (14, 3, 18) (by decide)
theorem xr14_4 {m : am_M} {N : Nat} (h : XS m N) : gr_ m (N + 14) 4 = N + 19 := h.2.1 (14, 4, 19) (by decide)
theorem xr14_5 {m : am_M} {N : Nat} (h : XS m N) : gr_ m (N + 14) 5 = N + 20 := h.2.1 (14, 5, 20) (by decide)
theorem xr14_6 {m : am_M} {N : Nat} (h : XS m N) : gr_ m (N + 14) 6 = N + 21 := h.2.1 (14, 6, 21) (by decide)
theorem xr21_1 {m : am_M} {N : Nat} (h : XS m N) : gr_ m (N + 21) 1 = N + 22 := h.2.1 (21, 1, 22) (by decide)
theorem xr23_0 {m : am_M} {N : Nat} (h : XS m N) : gr_ m (N + 23) 0 = N + 24 := h.2.1 (23, 0, 24) (by decide)
theorem xr23_1 {m : am_M} {N : Nat} (h : XS m N) : gr_ m (N + 23) 1 = N + 25 := h.2.1 (23, 1, 25) (by decide)
theorem xt8 {m : am_M} {N : Nat} (h : XS m N) : TS m (N + 8) 2 8 := ⟨xk8 h, h.2.2 (8, 2) (by decide), xr8_1 h, xk9 h⟩
theorem xt11 {m : am_M} {N : Nat} (h : XS m N) : TS m (N + 11) 4 120 := ⟨xk11 h, h.2.2 (11, 4) (by decide), xr11_1 h, xk12 h⟩
theorem xt21 {m : am_M} {N : Nat} (h : XS m N) : TS m (N + 21) 4 256 := ⟨xk21 h, h.2.2 (21, 4) (by decide), xr21_1 h, xk22 h⟩
/-- what a run leaves as it was: all outside P -/
def Fr (P : Nat → Nat → Prop) (m m' : am_M) : Prop := (gk_ m' = gk_ m ∧ gt_ m' = gt_ m ∧ gc_ m' = gc_ m ∧ gs_ m' = gs_ m ∧ ge_ m' = ge_ m) ∧ (∀ a k, ¬ P a k → gi_ m' a k = gi_ m a k) ∧ (∀ a k, ¬ P a k → gl_ m' a k = gl_ m a k) ∧ (∀ a k, ¬ P a k → gr_ m' a k = gr_ m a k) ∧ (∀ a k, ¬ P a k → gd_ m' a k = gd_ m a k)
theorem Fr.refl (P : Nat → Nat → Prop) (m : am_M) : Fr P m m := ⟨⟨rfl, rfl, rfl, rfl, rfl⟩, fun _ _ _ => rfl, fun _ _ _ => rfl, fun _ _ _ => rfl, fun _ _ _ => rfl⟩
theorem Fr.trans {P : Nat → Nat → Prop} {m m1 m2 : am_M} (h : Fr P m m1) (h' : Fr P m1 m2) : Fr P m m2 := by
  obtain ⟨⟨a1, a2, a3, a4, a5⟩, b1, b2, b3, b4⟩ := h
  obtain ⟨⟨c1, c2, c3, c4, c5⟩, d1, d2, d3, d4⟩ := h'
  exact ⟨⟨c1.trans a1, c2.trans a2, c3.trans a3, c4.trans a4, c5.trans a5⟩, fun a k h => (d1 a k h).trans (b1 a k h), fun a k h => (d2 a k h).trans (b2 a k h), fun a k h => (d3 a k h).trans (b3 a k h), fun a k h => (d4 a k h).trans (b4 a k h)⟩
theorem Fr.mono {P P' : Nat → Nat → Prop} {m m1 : am_M} (h : Fr P m m1) (hp : ∀ a k, P a k → P' a k) : Fr P' m m1 := by
  obtain ⟨a, b1, b2, b3, b4⟩ := h
  exact ⟨a, fun a k h => b1 a k (fun z => h (hp a k z)), fun a k h => b2 a k (fun z => h (hp a k z)), fun a k h => b3 a k (fun z => h (hp a k z)), fun a k h => b4 a k (fun z => h (hp a k z))⟩
theorem Fr.si {P : Nat → Nat → Prop} {m m1 : am_M} (h : Fr P m m1) {a k : Nat} {v : Int32} (hp : P a k) : Fr P m (si_ m1 a k v) :=
  h.trans ⟨⟨rfl, rfl, rfl, rfl, rfl⟩, fun b j z => if_neg (fun q => z (by rw [q.1, q.2]; exact hp)), fun _ _ _ => rfl, fun _ _ _ => rfl, fun _ _ _ => rfl⟩
theorem Fr.sl {P : Nat → Nat → Prop} {m m1 : am_M} (h : Fr P m m1) {a k : Nat} {v : Int64} (hp : P a k) : Fr P m (sl_ m1 a k v) :=
  h.trans ⟨⟨rfl, rfl, rfl, rfl, rfl⟩, fun _ _ _ => rfl, fun b j z => if_neg (fun q => z (by rw [q.1, q.2]; exact hp)), fun _ _ _ => rfl, fun _ _ _ => rfl⟩
theorem Fr.sr {P : Nat → Nat → Prop} {m m1 : am_M} (h : Fr P m m1) {a k : Nat} {v : Nat} (hp : P a k) : Fr P m (sr_ m1 a k v) :=
  h.trans ⟨⟨rfl, rfl, rfl, rfl, rfl⟩, fun _ _ _ => rfl, fun _ _ _ => rfl, fun b j z => if_neg (fun q => z (by rw [q.1, q.2]; exact hp)), fun _ _ _ => rfl⟩
theorem Fr.sd {P : Nat → Nat → Prop} {m m1 : am_M} (h : Fr P m m1) {a k : Nat} {v : UInt64} (hp : P a k) : Fr P m (sd_ m1 a k v) :=
  h.trans ⟨⟨rfl, rfl, rfl, rfl, rfl⟩, fun _ _ _ => rfl, fun _ _ _ => rfl, fun _ _ _ => rfl, fun b j z => if_neg (fun q => z (by rw [q.1, q.2]; exact hp))⟩
theorem Fr.ri {P : Nat → Nat → Prop} {m m1 : am_M} (h : Fr P m m1) {a : Nat} {g : Nat → Int32} (hp : ∀ k, P a k) : Fr P m (ri_ m1 a g) :=
  h.trans ⟨⟨rfl, rfl, rfl, rfl, rfl⟩, fun b j z => congrFun (if_neg (fun q => z (by rw [q]; exact hp j))) j, fun _ _ _ => rfl, fun _ _ _ => rfl, fun _ _ _ => rfl⟩
theorem Fr.rl {P : Nat → Nat → Prop} {m m1 : am_M} (h : Fr P m m1) {a : Nat} {g : Nat → Int64} (hp : ∀ k, P a k) : Fr P m (rl_ m1 a g) :=
  h.trans ⟨⟨rfl, rfl, rfl, rfl, rfl⟩, fun _ _ _ => rfl, fun b j z => congrFun (if_neg (fun q => z (by rw [q]; exact hp j))) j, fun _ _ _ => rfl, fun _ _ _ => rfl⟩
theorem OS.fr {P : Nat → Nat → Prop} {m m' : am_M} {o : Nat} (h : OS m o) (hf : Fr P m m') (h1 : ∀ q, q ∈ orf_ → ¬ P (o + q.1) q.2.1) (h2 : ∀ q, q ∈ owd_ → ¬ P (o + q.1) 0) : OS m' o :=
  ⟨fun a ha => (congrFun hf.1.1 _).trans (h.1 a ha), fun q hq => (hf.2.2.2.1 _ _ (h1 q hq)).trans (h.2.1 q hq), fun q hq => (hf.2.1 _ _ (h2 q hq)).trans (h.2.2 q hq)⟩
theorem XS.fr {P : Nat → Nat → Prop} {m m' : am_M} {N : Nat} (h : XS m N) (hf : Fr P m m') (h1 : ∀ q, q ∈ xr_ → ¬ P (N + q.1) q.2.1) (h2 : ∀ q, q ∈ xw_ → ¬ P (N + q.1) 0) : XS m' N :=
  ⟨fun q hq => (congrFun hf.1.1 _).trans (h.1 q hq), fun q hq => (hf.2.2.2.1 _ _ (h1 q hq)).trans (h.2.1 q hq), fun q hq => (hf.2.1 _ _ (h2 q hq)).trans (h.2.2 q hq)⟩
/-! loops -/
theorem lp_up {β : Type} (H : Nat → β) (n : Nat) (step : ∀ i, i < n → H i = H (i + 1)) : H 0 = H n := by
  induction n with
  | zero => rfl
  | succ n ih => exact (ih fun i hi => step i (Nat.lt_succ_of_lt hi)).trans (step n (Nat.lt_succ_self n))
theorem lp_from {β : Type} (H : Nat → β) (a n : Nat) (h : a ≤ n) (step : ∀ i, a ≤ i → i < n → H i = H (i + 1)) : H a = H n := by
  obtain ⟨k, rfl⟩ := Nat.exists_eq_add_of_le h
  have e := lp_up (fun i => H (a + i)) k (fun i hi => step (a + i) (Nat.le_add_right _ _) (by omega))
  exact e
/-- a loop down from n to 0 -/
theorem lp_dn {β : Type} (H : Nat → β) (n : Nat) (step : ∀ i, i < n → H (i + 1) = H i) : H n = H 0 := by
  induction n with
  | zero => rfl
  | succ n ih => exact (step n (Nat.lt_succ_self n)).trans (ih fun i hi => step i (Nat.lt_succ_of_lt hi))
theorem lp_inv {β : Type} (H : Nat → am_M → β) (I : Nat → am_M → Prop) (n : Nat) (step : ∀ i m, i < n → I i m → ∃ m', H i m = H (i + 1) m' ∧ I (i + 1) m') : ∀ m, I 0 m → ∃ m', H 0 m = H n m' ∧ I n m' := by
  induction n with
  | zero => exact fun m h => ⟨m, rfl, h⟩
  | succ n ih =>
    intro m h
    obtain ⟨m1, e1, h1⟩ := ih (fun i m hi => step i m (Nat.lt_succ_of_lt hi)) m h
    obtain ⟨m2, e2, h2⟩ := step n m1 (Nat.lt_succ_self n) h1
    exact ⟨m2, e1.trans e2, h2⟩
theorem lp_invF {β : Type} (H : Nat → am_M → β) (I : Nat → am_M → Prop) (a n : Nat) (hn : a ≤ n) (step : ∀ i m, a ≤ i → i < n → I i m → ∃ m', H i m = H (i + 1) m' ∧ I (i + 1) m') (m : am_M) (h : I a m) : ∃ m', H a m = H n m' ∧ I n m' := by
  obtain ⟨k, rfl⟩ := Nat.exists_eq_add_of_le hn
  exact lp_inv (fun i => H (a + i)) (fun i => I (a + i)) k (fun i m hi => step (a + i) m (Nat.le_add_right _ _) (by omega)) m h
theorem lp_invD {β : Type} (H : Nat → am_M → β) (I : Nat → am_M → Prop) (n : Nat) (step : ∀ i m, i < n → I (i + 1) m → ∃ m', H (i + 1) m = H i m' ∧ I i m') : ∀ m, I n m → ∃ m', H n m = H 0 m' ∧ I 0 m' := by
  induction n with
  | zero => exact fun m h => ⟨m, rfl, h⟩
  | succ n ih =>
    intro m h
    obtain ⟨m1, e1, h1⟩ := step n m (Nat.lt_succ_self n) h
    obtain ⟨m2, e2, h2⟩ := ih (fun i m hi => step i m (Nat.lt_succ_of_lt hi)) m1 h1
    exact ⟨m2, e1.trans e2, h2⟩
/-- the first i below n with p, or n -/
def fst_ (p : Nat → Bool) : Nat → Nat → Nat
  | 0, i => i
  | n + 1, i => bif p i then i else fst_ p n (i + 1)
/-- a fold over 0 .. n - 1 -/
def fl_ {α : Type} (f : Nat → α → α) (a : α) : Nat → α
  | 0 => a
  | n + 1 => f n (fl_ f a n)
/-- the greatest i below n with p, or 0 -/
def lst_ (p : Nat → Bool) : Nat → Nat
  | 0 => 0
  | n + 1 => bif p n then n else lst_ p n
def cN (s : Nat → Int32) (k : Nat) : Nat := (s k).toNatClampNeg
/-! numbers -/
theorem in_t {i n : Nat} (h : i < n) (hn : n < 2 ^ 31) : in_ (nI i) n = True := eq_true (in_of h hn)
theorem ba0 : (nI 0 &&& 1 = nI 0) = True := eq_true (by decide)
theorem ba1 : (nI 1 &&& 1 = nI 1) = True := eq_true (by decide)
theorem nI_m1 {n : Nat} (h : n < 2 ^ 31) : (nI n = -1) = False := eq_false (fun z => by
  have := congrArg Int32.toInt z
  rw [nI_toInt h] at this
  have h2 : (-1 : Int32).toInt = -1 := by decide
  omega)
theorem nI_lt0 {n : Nat} (h : n < 2 ^ 31) : (nI n < 0) = False := eq_false (nI_pos h)
theorem nI_0le {n : Nat} (h : n < 2 ^ 31) : (0 ≤ nI n) = True := eq_true (nI_pos' h)
theorem nI_eq0 {n : Nat} (h : n < 2 ^ 31) : (nI n = 0) = (n = 0) := propext (by rw [← nI_0]; exact nI_eq h (by decide))
theorem nI_lt0r {n : Nat} (h : n < 2 ^ 31) : (0 < nI n) = (0 < n) := propext (by rw [← nI_0]; exact nI_ltI (by decide) h)
theorem nI_le0 {n : Nat} (h : n < 2 ^ 31) : (nI n ≤ 0) = (n = 0) := propext (by rw [← nI_0, nI_leI h (by decide)]; omega)
theorem nI_ltE {a b : Nat} (ha : a < 2 ^ 31) (hb : b < 2 ^ 31) : (nI a < nI b) = (a < b) := propext (nI_ltI ha hb)
theorem nI_leE {a b : Nat} (ha : a < 2 ^ 31) (hb : b < 2 ^ 31) : (nI a ≤ nI b) = (a ≤ b) := propext (nI_leI ha hb)
theorem nI_eqE {a b : Nat} (ha : a < 2 ^ 31) (hb : b < 2 ^ 31) : (nI a = nI b) = (a = b) := propext (nI_eq ha hb)
theorem cN_ {s : Nat → Int32} {k n : Nat} (h : s k = nI n) (hn : n < 2 ^ 31) : cN s k = n := by unfold cN; rw [h]; exact nI_clamp hn
theorem lgc_eq (a b : Int64) : (lg_cmp a b = 0) = (a = b) := propext (by
  unfold lg_cmp
  constructor
  · intro h
    by_cases h1 : a > b
    · rw [if_pos h1] at h; exact absurd h (by decide)
    · rw [if_neg h1] at h
      by_cases h2 : a = b
      · exact h2
      · rw [if_neg h2] at h; exact absurd h (by decide)
  · intro h
    subst h
    rw [if_neg (show ¬ a > a from Int64.lt_irrefl), if_pos rfl])
theorem tb_at {sa sv d : Nat} {m : am_M} {t w n : Nat} (h : TS m t w n) (hn : n < 2 ^ 20) (i c : Nat) (hi : i * w + c < n) : am_ca sa sv (d + 1) 127 [.ref t, .int (nI i), .int (nI c)] m = some (.inl (some (.int (gi_ m (t + 1) (i * w + c)))), m) := by
  obtain ⟨h1, h2, h3, h4⟩ := h
  rw [c127, b127_0]
  simp (disch := omega) only [h1, h2, h3, h4, pk_mul, nI_add, nI_clamp, nI_lt0, nI_leE, in_t, gb_false, gq_true, and_true, true_and, eq_self, not_false_eq_true, Nat.not_le.mpr hi, Nat.add_eq_zero_iff, and_false, true_or, Nat.reduceLeDiff, Nat.reduceEqDiff, Nat.one_ne_zero]
theorem am_el6 (m : am_M) (v : Nat) : am_el m 6 v = (¬ v = 0 ∧ gk_ m v = (1, 3)) := propext (by unfold am_el; simp)
