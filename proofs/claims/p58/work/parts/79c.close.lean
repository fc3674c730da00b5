/-! the reference closes a period -/
def cQi (s : Nat → Int32) (q : Nat → Int64) (i k : Nat) : Int64 := if k < 10 then (if k < i then q k - pd_ s q k else q k) else if k < 50 then (if (k - 10) % 4 = 3 ∧ (k - 10) / 4 < i then q k + pd_ s q ((k - 10) / 4) else q k) else if k < 80 then (if (k - 50) / 3 < i then 0 else q k) else if k < 212 then q k else if k < 262 then (if (k - 212) / 5 < i then nv_ s q ((k - 212) / 5) ((k - 212) % 5) else q k) else if k < 462 then q (k - 50) else q k
section R79
variable {sa sv d N B : Nat} {m : am_M} {s : Nat → Int32} {q : Nat → Int64}
theorem cQi_10 (k : Nat) : cQi s q 10 k = cQ_ s q k := by
  unfold cQi cQ_
  by_cases k1 : k < 10
  · simp (disch := omega) only [if_pos, if_neg]
  · by_cases k2 : k < 50
    · by_cases e : (k - 10) % 4 = 3
      · simp (disch := omega) only [if_pos, if_neg]
      · simp (disch := omega) only [if_pos, if_neg]
    · by_cases k3 : k < 80
      · simp (disch := omega) only [if_pos, if_neg]
      · by_cases k4 : k < 212
        · simp (disch := omega) only [if_pos, if_neg]
        · by_cases k5 : k < 262
          · simp (disch := omega) only [if_pos, if_neg]
          · by_cases k6 : k < 462
            · simp (disch := omega) only [if_pos, if_neg]
            · simp (disch := omega) only [if_neg]
theorem cQi_s (i k : Nat) (hi : i < 10) : cQi s q (i + 1) k = if k = 212 + 5 * i + 4 then q i - pd_ s q i else if k = 212 + 5 * i + 3 then pd_ s q i else if k = 10 + 4 * i + 3 then q (10 + 4 * i + 3) + pd_ s q i else if k = i then q i - pd_ s q i else if k = 50 + 3 * i + 2 then 0 else if k = 212 + 5 * i + 2 then q (50 + 3 * i + 2) else if k = 50 + 3 * i + 1 then 0 else if k = 212 + 5 * i + 1 then q (50 + 3 * i + 1) else if k = 50 + 3 * i + 0 then 0 else if k = 212 + 5 * i + 0 then q (50 + 3 * i + 0) else cQi s q i k := by
  have nv : ∀ w, w < 5 → k = 212 + 5 * i + w → nv_ s q ((k - 212) / 5) ((k - 212) % 5) = nv_ s q i w := fun w hw e => by
    rw [show (k - 212) / 5 = i by omega, show (k - 212) % 5 = w by omega]
  by_cases c1 : k = 212 + 5 * i + 4
  · rw [if_pos c1]
    unfold cQi
    simp (disch := omega) only [if_pos, if_neg]
    rw [nv 4 (by omega) c1]; rfl
  · rw [if_neg c1]
    by_cases c2 : k = 212 + 5 * i + 3
    · rw [if_pos c2]
      unfold cQi
      simp (disch := omega) only [if_pos, if_neg]
      rw [nv 3 (by omega) c2]; rfl
    · rw [if_neg c2]
      by_cases c3 : k = 10 + 4 * i + 3
      · rw [if_pos c3]
        unfold cQi
        simp (disch := omega) only [if_pos, if_neg]
        rw [show (k - 10) / 4 = i by omega, c3]
      · rw [if_neg c3]
        by_cases c4 : k = i
        · rw [if_pos c4]
          unfold cQi
          simp (disch := omega) only [if_pos]
          rw [c4]
        · rw [if_neg c4]
          by_cases c5 : k = 50 + 3 * i + 2
          · rw [if_pos c5]
            unfold cQi
            simp (disch := omega) only [if_pos, if_neg]
          · rw [if_neg c5]
            by_cases c6 : k = 212 + 5 * i + 2
            · rw [if_pos c6]
              unfold cQi
              simp (disch := omega) only [if_pos, if_neg]
              rw [nv 2 (by omega) c6]; rfl
            · rw [if_neg c6]
              by_cases c7 : k = 50 + 3 * i + 1
              · rw [if_pos c7]
                unfold cQi
                simp (disch := omega) only [if_pos, if_neg]
              · rw [if_neg c7]
                by_cases c8 : k = 212 + 5 * i + 1
                · rw [if_pos c8]
                  unfold cQi
                  simp (disch := omega) only [if_pos, if_neg]
                  rw [nv 1 (by omega) c8]; rfl
                · rw [if_neg c8]
                  by_cases c9 : k = 50 + 3 * i + 0
                  · rw [if_pos c9]
                    unfold cQi
                    simp (disch := omega) only [if_pos, if_neg]
                  · rw [if_neg c9]
                    by_cases c10 : k = 212 + 5 * i + 0
                    · rw [if_pos c10]
                      unfold cQi
                      simp (disch := omega) only [if_pos, if_neg]
                      rw [nv 0 (by omega) c10]; rfl
                    · rw [if_neg c10]
                      unfold cQi
                      by_cases k1 : k < 10
                      · rw [if_pos k1, if_pos k1]
                        by_cases e : k < i
                        · rw [if_pos e, if_pos (by omega)]
                        · rw [if_neg e, if_neg (by omega)]
                      · rw [if_neg k1, if_neg k1]
                        by_cases k2 : k < 50
                        · rw [if_pos k2, if_pos k2]
                          by_cases e : (k - 10) % 4 = 3 ∧ (k - 10) / 4 < i
                          · rw [if_pos e, if_pos (by omega)]
                          · rw [if_neg e, if_neg (by omega)]
                        · rw [if_neg k2, if_neg k2]
                          by_cases k3 : k < 80
                          · rw [if_pos k3, if_pos k3]
                            by_cases e : (k - 50) / 3 < i
                            · rw [if_pos e, if_pos (by omega)]
                            · rw [if_neg e, if_neg (by omega)]
                          · rw [if_neg k3, if_neg k3]
                            by_cases k4 : k < 212
                            · rw [if_pos k4, if_pos k4]
                            · rw [if_neg k4, if_neg k4]
                              by_cases k5 : k < 262
                              · rw [if_pos k5, if_pos k5]
                                by_cases e : (k - 212) / 5 < i
                                · rw [if_pos e, if_pos (by omega)]
                                · rw [if_neg e, if_neg (by omega)]
                              · rw [if_neg k5, if_neg k5]
theorem cQi_0 (k : Nat) : cQi s q 0 k = if 262 ≤ k ∧ k < 462 then q (k - 50) else q k := by
  unfold cQi
  by_cases k1 : k < 262
  · simp (disch := omega) only [if_neg]
    repeat' split
    all_goals rfl
  · by_cases k2 : k < 462
    · simp (disch := omega) only [if_pos, if_neg]
    · simp (disch := omega) only [if_neg]
end R79
