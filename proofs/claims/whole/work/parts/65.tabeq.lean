/-! TABLES: the class's and the reference's *-/
theorem brkE_eq {sz : Nat} {b : Nat → Int32} {v : Int64} {j : Nat} (hj : j < sz) : brkE sz b v j = brkEM sz b v j := by
  unfold brkE brkEM
  by_cases h : j + 1 = sz
  · rw [if_neg (by omega), if_pos h]
  · rw [if_pos (by omega), if_neg h]
    unfold minL
    by_cases q : (b (j + 1)).toInt64 < v
    · rw [if_pos q, if_pos (Int64.le_of_lt q)]
    · rw [if_neg q]
      by_cases z : (b (j + 1)).toInt64 ≤ v
      · rw [if_pos z]
        exact Int64.le_antisymm (Int64.not_lt.mp q) z
      · rw [if_neg z]
theorem brkS_eq {sz : Nat} {b r : Nat → Int32} {v : Int64} : ∀ {j : Nat}, j ≤ sz → brkS sz b r v j = brkSM sz b r v j
  | 0, _ => rfl
  | j + 1, h => by
    rw [brkS, brkSM, brkS_eq (j := j) (by omega), brkE_eq (by omega)]
    by_cases q : brkEM sz b v j ≤ (b j).toInt64
    · rw [if_pos q, if_pos q, Int64.add_zero]
    · rw [if_neg q, if_neg q]
theorem rnd_eq {ro : Nat} (hro : ro < 3) {x : Int64} (h0 : 0 ≤ x.toInt) (h1 : x.toInt ≤ 4000000000000000000) : rndL (nI ro) x = divV x 1000 (nI ro) := by
  have hB : (1000 : Int64).toInt = 1000 := by decide
  have e500 : (500 : Int64).toInt = 500 := by decide
  have hz : (0 : Int64).toInt = 0 := rfl
  obtain ⟨q1, q2, q3, q4⟩ := lo64 (x := x) hB (by decide) (by decide) (by omega) h1
  obtain ⟨t1, t2, t3, t4, t5⟩ := td (X := x.toInt) (b := 1000) (by decide)
  have hd : (x / 1000).toInt = x.toInt / 1000 := by rw [Int64.toInt_div_of_ne_right _ _ (by decide), hB, Int.tdiv_eq_ediv_of_nonneg h0]
  have eD : divLo x 1000 = x / 1000 := Int64.toInt_inj.mp (by rw [q2, hd])
  have eF : fdivL x 1000 = x / 1000 := Int64.toInt_inj.mp (by rw [q1, hd])
  rw [eD] at q4
  have eM : fmodL x 1000 = x - x / 1000 * 1000 := Int64.toInt_inj.mp (by rw [q3, q4])
  have e2 : (2 : Int64).toInt = 2 := by decide
  have hemod1 : 0 ≤ x.toInt % 1000 := Int.emod_nonneg _ (by decide)
  have hemod2 : x.toInt % 1000 < 1000 := Int.emod_lt_of_pos _ (by decide)
  have er : (2 * (x - x / 1000 * 1000)).toInt = 2 * (x.toInt % 1000) := by rw [ml64 (by rw [q4, e2]; omega) (by rw [q4, e2]; omega), q4, e2]
  rcases (show ro = 0 ∨ ro = 1 ∨ ro = 2 by omega) with rfl | rfl | rfl
  · unfold rndL rndB divV
    rw [if_pos (show nI 0 = 0 from rfl), eD, decide_eq_false (show ¬ nI 0 = 1 by decide), decide_eq_false (show ¬ nI 0 = 2 by decide), Bool.false_and, Bool.false_and, if_neg (by decide)]
  · unfold rndL rndB divV
    rw [if_neg (show ¬ nI 1 = 0 by decide), eD]
    by_cases c : 500 ≤ x.toInt % 1000
    · rw [if_pos (by rw [decide_eq_true (show nI 1 = 1 from rfl), decide_eq_true (by rw [Int64.le_iff_toInt_le, e500, q4]; exact c)]; rfl), if_neg (by rw [Int64.le_iff_toInt_le, hB, er]; omega)]
      split
      · rfl
      · rw [if_pos (show nI 1 = 1 from rfl)]
    · rw [if_pos (show ¬ (1000 : Int64) ≤ 2 * (x - x / 1000 * 1000) by rw [Int64.le_iff_toInt_le, hB, er]; omega), if_neg]
      rw [decide_eq_false (show ¬ (500 : Int64) ≤ x - x / 1000 * 1000 by rw [Int64.le_iff_toInt_le, e500, q4]; exact c), decide_eq_false (show ¬ nI 1 = 2 by decide), Bool.and_false, Bool.false_and]
      decide
  · have := div_ev (x := x) (b := 1000) (B := 1000) hB (by decide) (by decide) (by omega) h1 (h := 500) (by rw [e500]; decide)
    rw [show nI 2 = (2 : Int32) from rfl, this, eF, eM]
    unfold rndL rndB
    rw [decide_eq_false (show ¬ (2 : Int32) = 1 by decide), Bool.false_and, Bool.false_or, decide_eq_true (show (2 : Int32) = 2 from rfl), Bool.true_and]
