/-! arms of the law's loop (by a program) -/
section K89
variable {sa sv N b L C S n i : Nat} {m : am_M} {X : TX}
theorem A25 (h : LZ N b L C S n m X) (hs : X.s = gi_ m (N + 245)) (hq : X.q = gl_ m (N + 249)) (hn : n < 512) (hi : i + 6 ≤ L) (o6 o7 o8 : Option Value) : AR sa sv N b L C S n i (r411 sa sv 20 1616 [some (.ref b), some (.ref N), some (.ref (N + 243)), some (.ref (N + 266)), some (.ref (N + 267)), some (.int (nI i)), o6, o7, o8] [] m) := by
  have K := h.scr hi
  obtain ⟨f, hF⟩ := h.tc.f
  have hCQ := h.tc.cq hF h.g h.n0 (by omega)
  rw [b411_1616, gq_pos (K 1 (by omega) m rfl), c390 (d := 19), b390_0, gq_pos (xk0 h.tc.x)]
  have hh := wr_j (g := am_xc (am_hd 390) 4) h.tr (CJ.q1 h.tc (Fr.refl _ _) (x179 (sa := sa) (sv := sv) (d := 16) hCQ (gi_ m b (nI i + nI 1).toNatClampNeg))) (HC.q1 (fun _ => rfl) _)
  exact AR.oj (arm_j (P := fun v4 v6 m7 => r411 sa sv 20 3178 [some (.ref b), some (.ref N), some (.ref (N + 243)), some (.ref (N + 266)), some (.ref (N + 267)), some (.int (nI i)), some (.int v4), some (.long v6), none] [] m7) (Q := fun m7 => gq_ ((nI 0) &&& 1 = (nI 0)) (some (.inl (some (.int (nI 0))), m7))) (R := fun m3 => am_ca sa sv 20 310 [.ref (N + 243), .int (gi_ m b (nI i + nI 1).toNatClampNeg)] m3) h (BJ.of hs hq hh (h.g.mono (by omega)) (fun m1 r1 e1 e2 => RJ.q1 r1 (by omega) (y310 (sa := sa) (sv := sv) (d := 16) (r1.RS e1 e2) h.g.1.1 (by omega) (gi_ m b (nI i + nI 1).toNatClampNeg)))) (fun v4 m3 k1 k2 k3 => by rw [gq_pos (K 1 (by omega) m3 k1), gq_pos (xk243 k3), k2]))
theorem A26 (h : LZ N b L C S n m X) (hs : X.s = gi_ m (N + 245)) (hq : X.q = gl_ m (N + 249)) (hn : n < 512) (hi : i + 6 ≤ L) (o6 o7 o8 : Option Value) : AR sa sv N b L C S n i (r411 sa sv 20 1671 [some (.ref b), some (.ref N), some (.ref (N + 243)), some (.ref (N + 266)), some (.ref (N + 267)), some (.int (nI i)), o6, o7, o8] [] m) := by
  have K := h.scr hi
  obtain ⟨f, hF⟩ := h.tc.f
  have hCQ := h.tc.cq hF h.g h.n0 (by omega)
  rw [b411_1671, gq_pos (K 1 (by omega) m rfl), gq_pos (K 2 (by omega) m rfl), c391 (d := 19), b391_0, gq_pos (xk0 h.tc.x)]
  have hh := wr_j (g := am_xc (am_hd 391) 5) h.tr (CJ.q2 h.tc (Fr.refl _ _) (x180 (sa := sa) (sv := sv) (d := 16) hCQ (gi_ m b (nI i + nI 1).toNatClampNeg) (gi_ m b (nI i + nI 2).toNatClampNeg))) (HC.q2 (fun _ => rfl) (fun _ => rfl) _ _)
  exact AR.oj (arm_j (P := fun v4 v6 m7 => r411 sa sv 20 3178 [some (.ref b), some (.ref N), some (.ref (N + 243)), some (.ref (N + 266)), some (.ref (N + 267)), some (.int (nI i)), some (.int v4), some (.long v6), none] [] m7) (Q := fun m7 => gq_ ((nI 0) &&& 1 = (nI 0)) (some (.inl (some (.int (nI 0))), m7))) (R := fun m3 => am_ca sa sv 20 311 [.ref (N + 243), .int (gi_ m b (nI i + nI 1).toNatClampNeg), .int (gi_ m b (nI i + nI 2).toNatClampNeg)] m3) h (BJ.of hs hq hh (h.g.mono (by omega)) (fun m1 r1 e1 e2 => RJ.q2 r1 (by omega) (by omega) (y311 (sa := sa) (sv := sv) (d := 16) (r1.RS e1 e2) h.g.1.1 (by omega) (gi_ m b (nI i + nI 1).toNatClampNeg) (gi_ m b (nI i + nI 2).toNatClampNeg)))) (fun v4 m3 k1 k2 k3 => by rw [gq_pos (K 1 (by omega) m3 k1), gq_pos (K 2 (by omega) m3 k1), gq_pos (xk243 k3), k2]))
theorem A27 (h : LZ N b L C S n m X) (hs : X.s = gi_ m (N + 245)) (hq : X.q = gl_ m (N + 249)) (hn : n < 512) (hi : i + 6 ≤ L) (o6 o7 o8 : Option Value) : AR sa sv N b L C S n i (r411 sa sv 20 1738 [some (.ref b), some (.ref N), some (.ref (N + 243)), some (.ref (N + 266)), some (.ref (N + 267)), some (.int (nI i)), o6, o7, o8] [] m) := by
  have K := h.scr hi
  obtain ⟨f, hF⟩ := h.tc.f
  have hCQ := h.tc.cq hF h.g h.n0 (by omega)
  rw [b411_1738, gq_pos (K 1 (by omega) m rfl), gq_pos (K 2 (by omega) m rfl), c392 (d := 19), b392_0, gq_pos (xk0 h.tc.x)]
  have hh := wr_j (g := am_xc (am_hd 392) 5) h.tr (CJ.q2 h.tc (Fr.refl _ _) (x181 (sa := sa) (sv := sv) (d := 16) hCQ (gi_ m b (nI i + nI 1).toNatClampNeg) (gi_ m b (nI i + nI 2).toNatClampNeg))) (HC.q2s (fun _ => rfl) _ _)
  exact AR.oj (arm_j (P := fun v4 v6 m7 => r411 sa sv 20 3178 [some (.ref b), some (.ref N), some (.ref (N + 243)), some (.ref (N + 266)), some (.ref (N + 267)), some (.int (nI i)), some (.int v4), some (.long v6), none] [] m7) (Q := fun m7 => gq_ ((nI 0) &&& 1 = (nI 0)) (some (.inl (some (.int (nI 0))), m7))) (R := fun m3 => am_ca sa sv 20 312 [.ref (N + 243), .int (gi_ m b (nI i + nI 1).toNatClampNeg), .int (gi_ m b (nI i + nI 2).toNatClampNeg)] m3) h (BJ.of hs hq hh (h.g.mono (by omega)) (fun m1 r1 e1 e2 => RJ.q2 r1 (by omega) (by omega) (y312 (sa := sa) (sv := sv) (d := 16) (r1.RS e1 e2) h.g.1.1 (by omega) (gi_ m b (nI i + nI 1).toNatClampNeg) (gi_ m b (nI i + nI 2).toNatClampNeg)))) (fun v4 m3 k1 k2 k3 => by rw [gq_pos (K 1 (by omega) m3 k1), gq_pos (K 2 (by omega) m3 k1), gq_pos (xk243 k3), k2]))
theorem A28 (h : LZ N b L C S n m X) (hs : X.s = gi_ m (N + 245)) (hq : X.q = gl_ m (N + 249)) (hn : n < 512) (hi : i + 6 ≤ L) (o6 o7 o8 : Option Value) : AR sa sv N b L C S n i (r411 sa sv 20 1805 [some (.ref b), some (.ref N), some (.ref (N + 243)), some (.ref (N + 266)), some (.ref (N + 267)), some (.int (nI i)), o6, o7, o8] [] m) := by
  have K := h.scr hi
  obtain ⟨f, hF⟩ := h.tc.f
  have hCQ := h.tc.cq hF h.g h.n0 (by omega)
  rw [b411_1805, gq_pos (K 1 (by omega) m rfl), c393 (d := 19), b393_0, gq_pos (xk0 h.tc.x)]
  have hh := wr_j (g := am_xc (am_hd 393) 4) h.tr (CJ.q1 h.tc (Fr.refl _ _) (x182 (sa := sa) (sv := sv) (d := 16) hCQ (gi_ m b (nI i + nI 1).toNatClampNeg))) (HC.q1 (fun _ => rfl) _)
  exact AR.oj (arm_j (P := fun v4 v6 m7 => r411 sa sv 20 3178 [some (.ref b), some (.ref N), some (.ref (N + 243)), some (.ref (N + 266)), some (.ref (N + 267)), some (.int (nI i)), some (.int v4), some (.long v6), none] [] m7) (Q := fun m7 => gq_ ((nI 0) &&& 1 = (nI 0)) (some (.inl (some (.int (nI 0))), m7))) (R := fun m3 => am_ca sa sv 20 313 [.ref (N + 243), .int (gi_ m b (nI i + nI 1).toNatClampNeg)] m3) h (BJ.of hs hq hh (h.g.mono (by omega)) (fun m1 r1 e1 e2 => RJ.q1 r1 (by omega) (y313 (sa := sa) (sv := sv) (d := 16) (r1.RS e1 e2) h.g.1.1 (by omega) (gi_ m b (nI i + nI 1).toNatClampNeg)))) (fun v4 m3 k1 k2 k3 => by rw [gq_pos (K 1 (by omega) m3 k1), gq_pos (xk243 k3), k2]))
theorem A29 (h : LZ N b L C S n m X) (hs : X.s = gi_ m (N + 245)) (hq : X.q = gl_ m (N + 249)) (hn : n < 512) (hi : i + 6 ≤ L) (o6 o7 o8 : Option Value) : AR sa sv N b L C S n i (r411 sa sv 20 1860 [some (.ref b), some (.ref N), some (.ref (N + 243)), some (.ref (N + 266)), some (.ref (N + 267)), some (.int (nI i)), o6, o7, o8] [] m) := by
  have K := h.scr hi
  obtain ⟨f, hF⟩ := h.tc.f
  have hCQ := h.tc.cq hF h.g h.n0 (by omega)
  rw [b411_1860, gq_pos (xk0 h.tc.x)]
  exact AR.on (arm_n (P := fun m7 => r411 sa sv 20 3178 [some (.ref b), some (.ref N), some (.ref (N + 243)), some (.ref (N + 266)), some (.ref (N + 267)), some (.int (nI i)), o6, o7, o8] [] m7) (Q := fun m7 => gq_ ((nI 0) &&& 1 = (nI 0)) (some (.inl (some (.int (nI 0))), m7))) (R := fun m3 => am_ca sa sv 20 314 [.ref (N + 243)] m3) h hs hq (CI.ok h.tc (Fr.refl _ _) (x183 (sa := sa) (sv := sv) (d := 18) hCQ)) (h.g.mono (by omega)) (fun m1 r1 e1 e2 => RN.of r1 _ (y314 (sa := sa) (sv := sv) (d := 19) (r1.RS e1 e2) h.g.1.C h.g.1.1.2.2.2.2.2.1)))
theorem A31 (h : LZ N b L C S n m X) (hs : X.s = gi_ m (N + 245)) (hq : X.q = gl_ m (N + 249)) (hn : n < 512) (hi : i + 6 ≤ L) (o6 o7 o8 : Option Value) : AR sa sv N b L C S n i (r411 sa sv 20 1951 [some (.ref b), some (.ref N), some (.ref (N + 243)), some (.ref (N + 266)), some (.ref (N + 267)), some (.int (nI i)), o6, o7, o8] [] m) := by
  have K := h.scr hi
  obtain ⟨f, hF⟩ := h.tc.f
  have hCQ := h.tc.cq hF h.g h.n0 (by omega)
  rw [b411_1951, gq_pos (xk0 h.tc.x)]
  exact AR.on (arm_n (P := fun m7 => r411 sa sv 20 3178 [some (.ref b), some (.ref N), some (.ref (N + 243)), some (.ref (N + 266)), some (.ref (N + 267)), some (.int (nI i)), o6, o7, o8] [] m7) (Q := fun m7 => gq_ ((nI 0) &&& 1 = (nI 0)) (some (.inl (some (.int (nI 0))), m7))) (R := fun m3 => am_ca sa sv 20 316 [.ref (N + 243)] m3) h hs hq (CI.ok h.tc (Fr.refl _ _) (x185 (sa := sa) (sv := sv) (d := 16) hCQ)) (h.g.mono (by omega)) (fun m1 r1 e1 e2 => RN.of r1 _ (y316 (sa := sa) (sv := sv) (d := 19) (r1.RS e1 e2) h.g.1.C)))
theorem A32 (h : LZ N b L C S n m X) (hs : X.s = gi_ m (N + 245)) (hq : X.q = gl_ m (N + 249)) (hn : n < 512) (hi : i + 6 ≤ L) (o6 o7 o8 : Option Value) : AR sa sv N b L C S n i (r411 sa sv 20 1964 [some (.ref b), some (.ref N), some (.ref (N + 243)), some (.ref (N + 266)), some (.ref (N + 267)), some (.int (nI i)), o6, o7, o8] [] m) := by
  have K := h.scr hi
  obtain ⟨f, hF⟩ := h.tc.f
  have hCQ := h.tc.cq hF h.g h.n0 (by omega)
  rw [b411_1964, gq_pos (xk0 h.tc.x)]
  exact AR.on (arm_n (P := fun m7 => r411 sa sv 20 3178 [some (.ref b), some (.ref N), some (.ref (N + 243)), some (.ref (N + 266)), some (.ref (N + 267)), some (.int (nI i)), o6, o7, o8] [] m7) (Q := fun m7 => gq_ ((nI 0) &&& 1 = (nI 0)) (some (.inl (some (.int (nI 0))), m7))) (R := fun m3 => am_ca sa sv 20 318 [.ref (N + 243)] m3) h hs hq (CI.ok h.tc (Fr.refl _ _) (x186 (sa := sa) (sv := sv) (d := 16) hCQ)) (h.g.mono (by omega)) (fun m1 r1 e1 e2 => RN.of r1 _ (y318 (sa := sa) (sv := sv) (d := 18) (r1.RS e1 e2) h.g.1.C)))
theorem A33 (h : LZ N b L C S n m X) (hs : X.s = gi_ m (N + 245)) (hq : X.q = gl_ m (N + 249)) (hn : n < 512) (hi : i + 6 ≤ L) (o6 o7 o8 : Option Value) : AR sa sv N b L C S n i (r411 sa sv 20 1977 [some (.ref b), some (.ref N), some (.ref (N + 243)), some (.ref (N + 266)), some (.ref (N + 267)), some (.int (nI i)), o6, o7, o8] [] m) := by
  have K := h.scr hi
  obtain ⟨f, hF⟩ := h.tc.f
  have hCQ := h.tc.cq hF h.g h.n0 (by omega)
  rw [b411_1977, gq_pos (xk0 h.tc.x)]
  exact AR.on (arm_n (P := fun m7 => r411 sa sv 20 3178 [some (.ref b), some (.ref N), some (.ref (N + 243)), some (.ref (N + 266)), some (.ref (N + 267)), some (.int (nI i)), o6, o7, o8] [] m7) (Q := fun m7 => gq_ ((nI 0) &&& 1 = (nI 0)) (some (.inl (some (.int (nI 0))), m7))) (R := fun m3 => am_ca sa sv 20 319 [.ref (N + 243)] m3) h hs hq (CI.ok h.tc (Fr.refl _ _) (x187 (sa := sa) (sv := sv) (d := 19) hCQ)) (h.g.mono (by omega)) (fun m1 r1 e1 e2 => RN.of r1 _ (y319 (sa := sa) (sv := sv) (d := 19) (r1.RS e1 e2))))
theorem A34 (h : LZ N b L C S n m X) (hs : X.s = gi_ m (N + 245)) (hq : X.q = gl_ m (N + 249)) (hn : n < 512) (hi : i + 6 ≤ L) (o6 o7 o8 : Option Value) : AR sa sv N b L C S n i (r411 sa sv 20 1990 [some (.ref b), some (.ref N), some (.ref (N + 243)), some (.ref (N + 266)), some (.ref (N + 267)), some (.int (nI i)), o6, o7, o8] [] m) := by
  have K := h.scr hi
  obtain ⟨f, hF⟩ := h.tc.f
  have hCQ := h.tc.cq hF h.g h.n0 (by omega)
  rw [b411_1990, gq_pos (K 1 (by omega) m rfl), gq_pos (K 2 (by omega) m rfl), c395 (d := 19), b395_0, gq_pos (xk0 h.tc.x)]
  have hh := wr_i (g := am_xc (am_hd 395) 5) h.tr (CI.q2 h.tc (Fr.refl _ _) (x188 (sa := sa) (sv := sv) (d := 17) hCQ (gi_ m b (nI i + nI 1).toNatClampNeg) (gi_ m b (nI i + nI 2).toNatClampNeg))) (HC.q2 (fun _ => rfl) (fun _ => rfl) _ _)
  exact AR.oi (arm_i (P := fun v4 v6 m7 => r411 sa sv 20 3178 [some (.ref b), some (.ref N), some (.ref (N + 243)), some (.ref (N + 266)), some (.ref (N + 267)), some (.int (nI i)), some (.int v4), some (.int v6), o8] [] m7) (Q := fun m7 => gq_ ((nI 0) &&& 1 = (nI 0)) (some (.inl (some (.int (nI 0))), m7))) (R := fun m3 => am_ca sa sv 20 320 [.ref (N + 243), .int (gi_ m b (nI i + nI 1).toNatClampNeg), .int (gi_ m b (nI i + nI 2).toNatClampNeg)] m3) h (BI.of hs hq hh (h.g.mono (by omega)) (fun m1 r1 e1 e2 => RI.q2 r1 (by omega) (by omega) (y320 (sa := sa) (sv := sv) (d := 17) (r1.RS e1 e2) h.g.1.1 (by omega) (gi_ m b (nI i + nI 1).toNatClampNeg) (gi_ m b (nI i + nI 2).toNatClampNeg)))) (fun v4 m3 k1 k2 k3 => by rw [gq_pos (K 1 (by omega) m3 k1), gq_pos (K 2 (by omega) m3 k1), gq_pos (xk243 k3), k2]))
theorem A35 (h : LZ N b L C S n m X) (hs : X.s = gi_ m (N + 245)) (hq : X.q = gl_ m (N + 249)) (hn : n < 512) (hi : i + 6 ≤ L) (o6 o7 o8 : Option Value) : AR sa sv N b L C S n i (r411 sa sv 20 2058 [some (.ref b), some (.ref N), some (.ref (N + 243)), some (.ref (N + 266)), some (.ref (N + 267)), some (.int (nI i)), o6, o7, o8] [] m) := by
  have K := h.scr hi
  obtain ⟨f, hF⟩ := h.tc.f
  have hCQ := h.tc.cq hF h.g h.n0 (by omega)
  rw [b411_2058, gq_pos (K 1 (by omega) m rfl), gq_pos (K 2 (by omega) m rfl), gq_pos (K 3 (by omega) m rfl), c396 (d := 19), b396_0, gq_pos (xk0 h.tc.x)]
  have hh := wr_j (g := am_xc (am_hd 396) 7) h.tr (CJ.q3 h.tc (Fr.refl _ _) (x189 (sa := sa) (sv := sv) (d := 16) hCQ (gi_ m b (nI i + nI 1).toNatClampNeg) (gi_ m b (nI i + nI 2).toNatClampNeg) (gi_ m b (nI i + nI 3).toNatClampNeg))) (HC.q3 (fun _ => rfl) (fun _ => rfl) _ _ _)
  exact AR.oj (arm_j (P := fun v4 v6 m7 => r411 sa sv 20 3178 [some (.ref b), some (.ref N), some (.ref (N + 243)), some (.ref (N + 266)), some (.ref (N + 267)), some (.int (nI i)), some (.int v4), some (.long v6), none] [] m7) (Q := fun m7 => gq_ ((nI 0) &&& 1 = (nI 0)) (some (.inl (some (.int (nI 0))), m7))) (R := fun m3 => am_ca sa sv 20 321 [.ref (N + 243), .int (gi_ m b (nI i + nI 1).toNatClampNeg), .int (gi_ m b (nI i + nI 2).toNatClampNeg), .int (gi_ m b (nI i + nI 3).toNatClampNeg)] m3) h (BJ.of hs hq hh (h.g.mono (by omega)) (fun m1 r1 e1 e2 => RJ.q3 r1 (by omega) (by omega) (by omega) (y321 (sa := sa) (sv := sv) (d := 16) (r1.RS e1 e2) h.g.1.1 (by omega) (gi_ m b (nI i + nI 1).toNatClampNeg) (gi_ m b (nI i + nI 2).toNatClampNeg) (gi_ m b (nI i + nI 3).toNatClampNeg)))) (fun v4 m3 k1 k2 k3 => by rw [gq_pos (K 1 (by omega) m3 k1), gq_pos (K 2 (by omega) m3 k1), gq_pos (K 3 (by omega) m3 k1), gq_pos (xk243 k3), k2]))
theorem A36 (h : LZ N b L C S n m X) (hs : X.s = gi_ m (N + 245)) (hq : X.q = gl_ m (N + 249)) (hn : n < 512) (hi : i + 6 ≤ L) (o6 o7 o8 : Option Value) : AR sa sv N b L C S n i (r411 sa sv 20 2137 [some (.ref b), some (.ref N), some (.ref (N + 243)), some (.ref (N + 266)), some (.ref (N + 267)), some (.int (nI i)), o6, o7, o8] [] m) := by
  have K := h.scr hi
  obtain ⟨f, hF⟩ := h.tc.f
  have hCQ := h.tc.cq hF h.g h.n0 (by omega)
  rw [b411_2137, gq_pos (K 1 (by omega) m rfl), c397 (d := 19), b397_0, gq_pos (xk0 h.tc.x)]
  have hh := wr_i (g := am_xc (am_hd 397) 4) h.tr (CI.q1 h.tc (Fr.refl _ _) (x190 (sa := sa) (sv := sv) (d := 17) hCQ (gi_ m b (nI i + nI 1).toNatClampNeg))) (HC.q1 (fun _ => rfl) _)
  exact AR.oi (arm_i (P := fun v4 v6 m7 => r411 sa sv 20 3178 [some (.ref b), some (.ref N), some (.ref (N + 243)), some (.ref (N + 266)), some (.ref (N + 267)), some (.int (nI i)), some (.int v4), some (.int v6), o8] [] m7) (Q := fun m7 => gq_ ((nI 0) &&& 1 = (nI 0)) (some (.inl (some (.int (nI 0))), m7))) (R := fun m3 => am_ca sa sv 20 322 [.ref (N + 243), .int (gi_ m b (nI i + nI 1).toNatClampNeg)] m3) h (BI.of hs hq hh (h.g.mono (by omega)) (fun m1 r1 e1 e2 => RI.q1 r1 (by omega) (y322 (sa := sa) (sv := sv) (d := 16) (r1.RS e1 e2) h.g.1.1 (by omega) (gi_ m b (nI i + nI 1).toNatClampNeg)))) (fun v4 m3 k1 k2 k3 => by rw [gq_pos (K 1 (by omega) m3 k1), gq_pos (xk243 k3), k2]))
end K89
