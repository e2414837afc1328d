/-! HUNDREDTHS, AND OTHER ROUNDINGS *-/
theorem evn64 {x : Int64} : x - x / 2 * 2 = 0 ↔ x.toInt % 2 = 0 := by
  obtain ⟨t1, t2, t3, t4, t5⟩ := td (X := x.toInt) (b := 2) (by decide)
  have hx1 := x.le_toInt
  have hx2 := x.toInt_lt
  have h2 : (2 : Int64).toInt = 2 := by decide
  have hz : (0 : Int64).toInt = 0 := rfl
  have hd : (x / 2).toInt = x.toInt.tdiv 2 := by rw [Int64.toInt_div_of_ne_right _ _ (by decide), h2]
  have e : (x / 2).toInt * (2 : Int64).toInt = 2 * x.toInt.tdiv 2 := by rw [hd, h2, Int.mul_comm]
  have hm : (x / 2 * 2).toInt = 2 * x.toInt.tdiv 2 := by rw [ml64 (by rw [e]; omega) (by rw [e]; omega), e]
  have hr : (x - x / 2 * 2).toInt = x.toInt.tmod 2 := by
    rw [sb64 (by rw [hm]; omega) (by rw [hm]; omega), hm]
    omega
  constructor
  · intro q
    have := congrArg Int64.toInt q
    rw [hr, hz] at this
    omega
  · intro q
    exact Int64.toInt_inj.mp (by rw [hr, hz]; omega)
theorem inR_i {v : Int64} (h : inR v = true) : -1000000000000 ≤ v.toInt ∧ v.toInt ≤ 1000000000000 := by
  unfold inR at h
  have e1 : (-1000000000000 : Int64).toInt = -1000000000000 := by decide
  have e2 : (1000000000000 : Int64).toInt = 1000000000000 := by decide
  rw [Bool.and_eq_true, decide_eq_true_eq, decide_eq_true_eq, Int64.lt_iff_toInt_lt, Int64.lt_iff_toInt_lt, e1, e2] at h
  omega
/-- the reference's rounding, halves to even, by the lower quotient and the rest *-/
theorem div_ev {x b : Int64} {B : Int} (hB : b.toInt = B) (h0 : 1 < B) (h1 : B ≤ 1000000) (hx1 : -4000000000000000000 ≤ x.toInt) (hx2 : x.toInt ≤ 4000000000000000000) {h : Int64} (hh : 2 * h.toInt = B) : divV x b 2 = if ctE (fdivL x b) (fmodL x b) h = true then fdivL x b + 1 else fdivL x b := by
  obtain ⟨q1, q2, q3, q4⟩ := lo64 hB h0 h1 hx1 hx2
  have eD : fdivL x b = divLo x b := Int64.toInt_inj.mp (by rw [q1, q2])
  have hemod1 : 0 ≤ x.toInt % B := Int.emod_nonneg _ (by omega)
  have hemod2 : x.toInt % B < B := Int.emod_lt_of_pos _ (by omega)
  have e2 : (2 : Int64).toInt = 2 := by decide
  have er : (2 * (x - divLo x b * b)).toInt = 2 * (x.toInt % B) := by rw [ml64 (by rw [q4, e2]; omega) (by rw [q4, e2]; omega), q4, e2]
  unfold divV
  rw [if_neg (by decide), eD]
  by_cases c1 : x.toInt % B * 2 < B
  · rw [if_pos (by rw [Int64.le_iff_toInt_le, hB, er]; omega), if_neg]
    unfold ctE
    rw [Bool.or_eq_true, Bool.and_eq_true, decide_eq_true_eq, decide_eq_true_eq, Int64.lt_iff_toInt_lt, q3]
    rintro (z | z)
    · omega
    · have := congrArg Int64.toInt z.1
      rw [q3] at this
      omega
  rw [if_neg (by rw [Int64.le_iff_toInt_le, hB, er]; omega)]
  by_cases c2 : B < x.toInt % B * 2
  · rw [if_pos (by rw [Int64.lt_iff_toInt_lt, hB, er]; omega), if_pos]
    unfold ctE
    rw [Bool.or_eq_true, decide_eq_true_eq, Int64.lt_iff_toInt_lt, q3]
    exact Or.inl (by omega)
  rw [if_neg (by rw [Int64.lt_iff_toInt_lt, hB, er]; omega), if_neg (by decide)]
  have hmh : fmodL x b = h := Int64.toInt_inj.mp (by rw [q3]; omega)
  have hlt : ¬ h < fmodL x b := by rw [hmh]; exact fun q => Int64.lt_irrefl q
  by_cases c3 : (divLo x b).toInt % 2 = 0
  · rw [if_pos (evn64.mpr c3), if_neg]
    unfold ctE
    rw [Bool.or_eq_true, Bool.and_eq_true, decide_eq_true_eq, decide_eq_true_eq, decide_eq_true_eq]
    rintro (z | z)
    · exact hlt z
    · exact z.2 (odd64.mpr c3)
  · rw [if_neg (fun q => c3 (evn64.mp q)), if_pos]
    unfold ctE
    rw [Bool.or_eq_true, Bool.and_eq_true, decide_eq_true_eq, decide_eq_true_eq, decide_eq_true_eq]
    exact Or.inr ⟨hmh, fun q => c3 (odd64.mp q)⟩
theorem pct : Pct := by
  intro v k hv hk
  obtain ⟨h1, h2⟩ := inR_i hv
  have ek : (nI k).toInt64.toInt = k := by rw [Int32.toInt_toInt64, nI_toInt (by omega)]
  have b1 : -1000000000000000 ≤ v.toInt * (k : Int) ∧ v.toInt * (k : Int) ≤ 1000000000000000 := by
    have a1 : v.toInt * (k : Int) ≤ 1000000000000 * (k : Int) := Int.mul_le_mul_of_nonneg_right h2 (by omega)
    have a2 : -1000000000000 * (k : Int) ≤ v.toInt * (k : Int) := Int.mul_le_mul_of_nonneg_right h1 (by omega)
    omega
  have ex : (v * (nI k).toInt64).toInt = v.toInt * k := by rw [ml64 (by rw [ek]; omega) (by rw [ek]; omega), ek]
  have e100 : (100 : Int64).toInt = 100 := by decide
  have e50 : (50 : Int64).toInt = 50 := by decide
  have := div_ev (x := v * (nI k).toInt64) (b := 100) (B := 100) e100 (by decide) (by decide) (by rw [ex]; omega) (by rw [ex]; omega) (h := 50) (by rw [e50]; decide)
  rw [this]
  rfl
