/-! TABLES: what they make is no more than the amount *-/
def BrkOk (sz : Nat) (b r : Nat → Int32) : Prop := (∀ j, j < sz → 0 ≤ (b j).toInt ∧ (b j).toInt ≤ 1000000000 ∧ 0 ≤ (r j).toInt ∧ (r j).toInt ≤ 1000) ∧ ∀ j, j + 1 < sz → (b j).toInt < (b (j + 1)).toInt
def bndB (sz : Nat) (b : Nat → Int32) (V : Int) (j : Nat) : Int := if j < sz then (if V ≤ (b j).toInt then V else (b j).toInt) else V
theorem brkEM_i {sz : Nat} {b : Nat → Int32} {v : Int64} {j : Nat} (hj : j < sz) : (brkEM sz b v j).toInt = bndB sz b v.toInt (j + 1) := by
  unfold brkEM bndB
  by_cases h : j + 1 = sz
  · rw [if_pos h, if_neg (by omega)]
  · rw [if_neg h, if_pos (show j + 1 < sz by omega)]
    by_cases q : (b (j + 1)).toInt64 ≤ v
    · rw [if_pos q]
      rw [Int64.le_iff_toInt_le, Int32.toInt_toInt64] at q
      rw [Int32.toInt_toInt64]
      split <;> omega
    · rw [if_neg q]
      rw [Int64.le_iff_toInt_le, Int32.toInt_toInt64] at q
      rw [if_pos (by omega)]
theorem brkSM_b {sz : Nat} {b r : Nat → Int32} {v : Int64} (hO : BrkOk sz b r) (h1 : -1000000000000 ≤ v.toInt) (h2 : v.toInt ≤ 1000000000000) : ∀ (j : Nat), j ≤ sz → 0 ≤ (brkSM sz b r v j).toInt ∧ (0 ≤ bndB sz b v.toInt j → (brkSM sz b r v j).toInt ≤ 1000 * bndB sz b v.toInt j) ∧ (bndB sz b v.toInt j < 0 → (brkSM sz b r v j).toInt = 0)
  | 0, _ => by
    have e : (brkSM sz b r v 0).toInt = 0 := rfl
    rw [e]
    exact ⟨Int.le_refl _, fun h => by omega, fun _ => rfl⟩
  | j + 1, hj => by
    obtain ⟨i1, i2, i3⟩ := brkSM_b hO h1 h2 j (by omega)
    obtain ⟨o1, o2, o3, o4⟩ := hO.1 j (by omega)
    have hE := brkEM_i (sz := sz) (b := b) (v := v) (j := j) (by omega)
    have hBj : bndB sz b v.toInt j = if v.toInt ≤ (b j).toInt then v.toInt else (b j).toInt := if_pos (by omega)
    have hBV : bndB sz b v.toInt (j + 1) ≤ v.toInt := by unfold bndB; split <;> (try split) <;> omega
    have hB0 : ¬ bndB sz b v.toInt (j + 1) ≤ (b j).toInt ∨ (0 ≤ bndB sz b v.toInt j ↔ 0 ≤ bndB sz b v.toInt (j + 1)) ∧ bndB sz b v.toInt j ≤ bndB sz b v.toInt (j + 1) := by
      by_cases q : bndB sz b v.toInt (j + 1) ≤ (b j).toInt
      · refine Or.inr ?_
        have hmono : bndB sz b v.toInt j ≤ bndB sz b v.toInt (j + 1) ∧ (bndB sz b v.toInt (j + 1) = v.toInt) := by
          rw [hBj]
          unfold bndB at q ⊢
          by_cases hs : j + 1 < sz
          · have := hO.2 j hs
            rw [if_pos hs] at q ⊢
            split at q <;> (split <;> omega)
          · rw [if_neg hs] at q ⊢
            split <;> omega
        rw [hBj] at hmono ⊢
        split at hmono <;> omega
      · exact Or.inl q
    have hlast : -1000000000000 ≤ bndB sz b v.toInt (j + 1) := by
      unfold bndB
      split
      · split
        · exact h1
        · have := (hO.1 (j + 1) (by assumption)).1; omega
      · exact h1
    rw [brkSM]
    by_cases c : brkEM sz b v j ≤ (b j).toInt64
    · rw [if_pos c, Int64.add_zero]
      rw [Int64.le_iff_toInt_le, Int32.toInt_toInt64, hE] at c
      rcases hB0 with q | q
      · exact absurd c q
      · exact ⟨i1, fun h => by have := i2 (q.1.mpr h); omega, fun h => i3 (by omega)⟩
    · rw [if_neg c]
      rw [Int64.le_iff_toInt_le, Int32.toInt_toInt64, hE] at c
      have hVb : (b j).toInt < v.toInt := by omega
      have hBjb : bndB sz b v.toInt j = (b j).toInt := by rw [hBj, if_neg (by omega)]
      rw [hBjb] at i2
      have i2' := i2 o1
      have eb : ((b j).toInt64).toInt = (b j).toInt := Int32.toInt_toInt64 _
      have eR : ((r j).toInt64).toInt = (r j).toInt := Int32.toInt_toInt64 _
      have es : (brkEM sz b v j - (b j).toInt64).toInt = bndB sz b v.toInt (j + 1) - (b j).toInt := by rw [sb64 (by rw [hE, eb]; omega) (by rw [hE, eb]; omega), hE, eb]
      have p1 : (r j).toInt * (bndB sz b v.toInt (j + 1) - (b j).toInt) ≤ 1000 * (bndB sz b v.toInt (j + 1) - (b j).toInt) := Int.mul_le_mul_of_nonneg_right o4 (by omega)
      have p2 : 0 ≤ (r j).toInt * (bndB sz b v.toInt (j + 1) - (b j).toInt) := Int.mul_nonneg o3 (by omega)
      have em : ((r j).toInt64 * (brkEM sz b v j - (b j).toInt64)).toInt = (r j).toInt * (bndB sz b v.toInt (j + 1) - (b j).toInt) := by rw [ml64 (by rw [eR, es]; omega) (by rw [eR, es]; omega), eR, es]
      have ea : (brkSM sz b r v j + (r j).toInt64 * (brkEM sz b v j - (b j).toInt64)).toInt = (brkSM sz b r v j).toInt + (r j).toInt * (bndB sz b v.toInt (j + 1) - (b j).toInt) := by rw [ad64 (by rw [em]; omega) (by rw [em]; omega), em]
      rw [ea]
      exact ⟨by omega, fun _ => by omega, fun h => by omega⟩
