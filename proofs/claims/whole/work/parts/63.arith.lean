/-! HUNDREDTHS: the class's rounding and the reference's *-/
theorem bm64 {x : Int} (h1 : -9223372036854775808 ≤ x) (h2 : x < 9223372036854775808) : x.bmod (2 ^ 64) = x := Int.bmod_eq_of_le (by omega) (by omega)
theorem ad64 {a b : Int64} (h1 : -9223372036854775808 ≤ a.toInt + b.toInt) (h2 : a.toInt + b.toInt < 9223372036854775808) : (a + b).toInt = a.toInt + b.toInt := by rw [Int64.toInt_add, bm64 h1 h2]
theorem sb64 {a b : Int64} (h1 : -9223372036854775808 ≤ a.toInt - b.toInt) (h2 : a.toInt - b.toInt < 9223372036854775808) : (a - b).toInt = a.toInt - b.toInt := by rw [Int64.toInt_sub, bm64 h1 h2]
theorem ml64 {a b : Int64} (h1 : -9223372036854775808 ≤ a.toInt * b.toInt) (h2 : a.toInt * b.toInt < 9223372036854775808) : (a * b).toInt = a.toInt * b.toInt := by rw [Int64.toInt_mul, bm64 h1 h2]
theorem td {X : Int} {b : Int} (hb : 0 < b) : b * X.tdiv b + X.tmod b = X ∧ X.tmod b < b ∧ -b < X.tmod b ∧ (0 ≤ X → 0 ≤ X.tmod b) ∧ (X ≤ 0 → X.tmod b ≤ 0) := by
  refine ⟨Int.mul_tdiv_add_tmod X b, Int.tmod_lt_of_pos X hb, Int.lt_tmod_of_pos X hb, fun h => Int.tmod_nonneg b h, fun h => ?_⟩
  have := Int.tmod_nonneg b (a := -X) (by omega)
  rw [Int.neg_tmod] at this
  omega
theorem sgn64 {x : Int64} : 0 ≤ x ↔ x.toBitVec.msb = false := by
  rw [Int64.le_iff_toInt_le, BitVec.msb_eq_toInt, decide_eq_false_iff_not]
  show (0 : Int64).toInt ≤ x.toInt ↔ ¬ x.toInt < 0
  rw [show (0 : Int64).toInt = 0 from rfl]
  omega
theorem xor64 {x y : Int64} (hy : 0 ≤ y) : 0 ≤ x ^^^ y ↔ 0 ≤ x := by
  rw [sgn64, sgn64, Int64.toBitVec_xor, BitVec.msb_xor, sgn64.mp hy, Bool.xor_false]
theorem odd64 {x : Int64} : x &&& 1 = 0 ↔ x.toInt % 2 = 0 := by
  have h1 : (x &&& 1).toBitVec = if x.toBitVec.getLsbD 0 then 1#64 else 0#64 := by
    rw [Int64.toBitVec_and]
    show x.toBitVec &&& BitVec.twoPow 64 0 = _
    rw [BitVec.and_twoPow]
    rfl
  have h2 : x.toBitVec.getLsbD 0 = decide (x.toBitVec.toNat % 2 = 1) := by simp [BitVec.getLsbD]
  have h3 : x.toInt % 2 = 0 ↔ x.toBitVec.toNat % 2 = 0 := by
    show x.toBitVec.toInt % 2 = 0 ↔ _
    rw [BitVec.toInt_eq_toNat_cond]
    split <;> omega
  rw [h3]
  constructor
  · intro q
    rw [q] at h1
    by_cases z : x.toBitVec.toNat % 2 = 1
    · rw [h2, decide_eq_true z] at h1
      exact absurd h1 (by decide)
    · omega
  · intro q
    rw [h2, decide_eq_false (by omega)] at h1
    exact Int64.toBitVec_inj.mp (by rw [h1]; rfl)
/-- the lower quotient by a positive number, both ways *-/
theorem lo64 {x b : Int64} {B : Int} (hB : b.toInt = B) (h0 : 1 < B) (h1 : B ≤ 1000000) (hx1 : -4000000000000000000 ≤ x.toInt) (hx2 : x.toInt ≤ 4000000000000000000) : (fdivL x b).toInt = x.toInt / B ∧ (divLo x b).toInt = x.toInt / B ∧ (fmodL x b).toInt = x.toInt % B ∧ (x - divLo x b * b).toInt = x.toInt % B := by
  obtain ⟨t1, t2, t3, t4, t5⟩ := td (X := x.toInt) (b := B) (by omega)
  have hb0 : 0 ≤ b := by rw [Int64.le_iff_toInt_le, hB]; show (0 : Int64).toInt ≤ B; rw [show (0 : Int64).toInt = 0 from rfl]; omega
  have hb1 : b ≠ -1 := fun q => by rw [q] at hB; have : (-1 : Int64).toInt = -1 := by decide
                                   omega
  have hd : (x / b).toInt = x.toInt.tdiv B := by rw [Int64.toInt_div_of_ne_right _ _ hb1, hB]
  have hq1 : -4000000000000000000 ≤ B * x.toInt.tdiv B := by omega
  have hq2 : B * x.toInt.tdiv B ≤ 4000000000000000000 := by omega
  have hm : (x / b * b).toInt = B * x.toInt.tdiv B := by
    have e : (x / b).toInt * b.toInt = B * x.toInt.tdiv B := by rw [hd, hB, Int.mul_comm]
    rw [ml64 (by rw [e]; omega) (by rw [e]; omega), e]
  have hr : (x - x / b * b).toInt = x.toInt.tmod B := by
    rw [sb64 (by rw [hm]; omega) (by rw [hm]; omega), hm]
    omega
  have hz : (0 : Int64).toInt = 0 := rfl
  have h1' : (1 : Int64).toInt = 1 := by decide
  have hle : 0 ≤ x - x / b * b ↔ 0 ≤ x.toInt.tmod B := by rw [Int64.le_iff_toInt_le, hr, hz]
  have hx0 : 0 ≤ x ↔ 0 ≤ x.toInt := by rw [Int64.le_iff_toInt_le, hz]
  have hT : -4000000000000000000 ≤ x.toInt.tdiv B ∧ x.toInt.tdiv B ≤ 4000000000000000000 := by
    rcases Int.le_total 0 (x.toInt.tdiv B) with q | q
    · have : 1 * x.toInt.tdiv B ≤ B * x.toInt.tdiv B := Int.mul_le_mul_of_nonneg_right (by omega) q
      omega
    · have : B * x.toInt.tdiv B ≤ 1 * x.toInt.tdiv B := Int.mul_le_mul_of_nonpos_right (by omega) q
      omega
  have hs1 : (x / b - 1).toInt = x.toInt.tdiv B - 1 := by rw [sb64 (by rw [hd, h1']; omega) (by rw [hd, h1']; omega), hd, h1']
  have hdlo : (divLo x b).toInt = x.toInt / B ∧ (fdivL x b).toInt = x.toInt / B ∧ (fmodL x b).toInt = x.toInt % B := by
    by_cases hr0 : 0 ≤ x.toInt.tmod B
    · obtain ⟨u1, u2⟩ := (Int.ediv_emod_unique (a := x.toInt) (b := B) (r := x.toInt.tmod B) (q := x.toInt.tdiv B) (by omega)).mpr ⟨by omega, hr0, t2⟩
      rw [u1, u2]
      refine ⟨by unfold divLo; rw [if_pos (hle.mpr hr0)]; exact hd, ?_, ?_⟩
      · unfold fdivL
        by_cases hp : 0 ≤ x ^^^ b
        · rw [if_pos hp]; exact hd
        · rw [if_neg hp, if_pos]
          · exact hd
          · have hn : ¬ 0 ≤ x.toInt := fun q => hp ((xor64 hb0).mpr (hx0.mpr q))
            exact Int64.toInt_inj.mp (by rw [hm]; have := t5 (by omega); omega)
      · unfold fmodL
        by_cases hp : 0 ≤ x ^^^ b
        · rw [if_pos hp]; exact hr
        · rw [if_neg hp, if_pos]
          · exact hr
          · have hn : ¬ 0 ≤ x.toInt := fun q => hp ((xor64 hb0).mpr (hx0.mpr q))
            exact Int64.toInt_inj.mp (by rw [hr, hz]; have := t5 (by omega); omega)
    · have hms : B * (x.toInt.tdiv B - 1) = B * x.toInt.tdiv B - B := by rw [Int.mul_sub, Int.mul_one]
      obtain ⟨u1, u2⟩ := (Int.ediv_emod_unique (a := x.toInt) (b := B) (r := x.toInt.tmod B + B) (q := x.toInt.tdiv B - 1) (by omega)).mpr ⟨by rw [hms]; omega, by omega, by omega⟩
      rw [u1, u2]
      have hn : ¬ 0 ≤ x.toInt := fun q => hr0 (t4 q)
      have hp : ¬ 0 ≤ x ^^^ b := fun q => hn (hx0.mp ((xor64 hb0).mp q))
      refine ⟨by unfold divLo; rw [if_neg (fun q => hr0 (hle.mp q))]; exact hs1, ?_, ?_⟩
      · unfold fdivL
        rw [if_neg hp, if_neg]
        · exact hs1
        · intro q
          have := congrArg Int64.toInt q
          rw [hm] at this
          omega
      · unfold fmodL
        rw [if_neg hp, if_neg]
        · rw [ad64 (by rw [hr, hB]; omega) (by rw [hr, hB]; omega), hr, hB]
        · intro q
          have := congrArg Int64.toInt q
          rw [hr, hz] at this
          omega
  obtain ⟨w1, w2, w3⟩ := hdlo
  have hediv : B * (x.toInt / B) + x.toInt % B = x.toInt := Int.mul_ediv_add_emod _ _
  have hemod1 : 0 ≤ x.toInt % B := Int.emod_nonneg _ (by omega)
  have hemod2 : x.toInt % B < B := Int.emod_lt_of_pos _ (by omega)
  refine ⟨w2, w1, w3, ?_⟩
  have e : (divLo x b).toInt * b.toInt = B * (x.toInt / B) := by rw [w1, hB, Int.mul_comm]
  have e2 : (divLo x b * b).toInt = B * (x.toInt / B) := by rw [ml64 (by rw [e]; omega) (by rw [e]; omega), e]
  rw [sb64 (by rw [e2]; omega) (by rw [e2]; omega), e2]
  omega
