/-! TABLES: equal and within range *-/
theorem tab_ok {sz ro : Nat} {b r : Nat → Int32} {v : Int64} (hO : BrkOk sz b r) (hro : ro < 3) (hv : inR v = true) : rndL (nI ro) (brkS sz b r v sz) = divV (brkSM sz b r v sz) 1000 (nI ro) ∧ inR (rndL (nI ro) (brkS sz b r v sz)) = true := by
  obtain ⟨h1, h2⟩ := inR_i hv
  obtain ⟨i1, i2, i3⟩ := brkSM_b hO h1 h2 sz (Nat.le_refl _)
  have hV : bndB sz b v.toInt sz = v.toInt := if_neg (by omega)
  rw [hV] at i2 i3
  rw [brkS_eq (Nat.le_refl _)]
  generalize brkSM sz b r v sz = x at i1 i2 i3
  have hx : x.toInt ≤ 1000000000000000 ∧ (x.toInt ≤ 1000 * v.toInt ∨ x.toInt = 0) := by
    rcases Int.lt_or_le v.toInt 0 with q | q
    · have := i3 q; omega
    · have := i2 q; omega
  refine ⟨rnd_eq hro i1 (by omega), ?_⟩
  have hB : (1000 : Int64).toInt = 1000 := by decide
  have e500 : (500 : Int64).toInt = 500 := by decide
  obtain ⟨q1, q2, q3, q4⟩ := lo64 (x := x) hB (by decide) (by decide) (by omega) (by omega)
  have hd : (x / 1000).toInt = x.toInt / 1000 := by rw [Int64.toInt_div_of_ne_right _ _ (by decide), hB, Int.tdiv_eq_ediv_of_nonneg i1]
  have eD : divLo x 1000 = x / 1000 := Int64.toInt_inj.mp (by rw [q2, hd])
  rw [eD] at q4
  have e1 : (-1000000000000 : Int64).toInt = -1000000000000 := by decide
  have e2 : (1000000000000 : Int64).toInt = 1000000000000 := by decide
  have e3 : (1 : Int64).toInt = 1 := by decide
  have hin : ∀ y : Int64, 0 ≤ y.toInt → y.toInt ≤ 1000000000000 → inR y = true := by
    intro y z1 z2
    unfold inR
    rw [Bool.and_eq_true, decide_eq_true_eq, decide_eq_true_eq, Int64.lt_iff_toInt_lt, Int64.lt_iff_toInt_lt, e1, e2]
    omega
  unfold rndL
  by_cases c : rndB (nI ro) x = true
  · rw [if_pos c]
    have hr : 500 ≤ x.toInt % 1000 := by
      unfold rndB ctE at c
      simp only [Bool.or_eq_true, Bool.and_eq_true, decide_eq_true_eq] at c
      rcases c with z | z
      · have := z.2
        rw [Int64.le_iff_toInt_le, e500, q4] at this
        exact this
      · rcases z.2 with y | y
        · rw [Int64.lt_iff_toInt_lt, e500, q4] at y
          omega
        · have := congrArg Int64.toInt y.1
          rw [q4, e500] at this
          omega
    have ea : (x / 1000 + 1).toInt = x.toInt / 1000 + 1 := by rw [ad64 (by rw [hd, e3]; omega) (by rw [hd, e3]; omega), hd, e3]
    exact hin _ (by rw [ea]; omega) (by rw [ea]; omega)
  · rw [if_neg c]
    exact hin _ (by rw [hd]; omega) (by rw [hd]; omega)
/-- interest: the class's and the reference's *-/
theorem intr_eq {b : Int64} {t : Int32} {T : Int64} (h : t.toInt64 = T) : intr b t = intrM b T := by
  unfold intr intrM
  rw [h]
  by_cases q : b ≤ 0
  · rw [if_pos q, if_neg (Int64.not_lt.mpr q)]
  · rw [if_neg q, if_pos (Int64.not_le.mp q)]
