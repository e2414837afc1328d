/-! WHAT HOLDS BETWEEN THE CLASS AND THE REFERENCE -/
def IPad (n1 : Int32) (t1 : Nat → Int32) (n2 : Int32) (t2 : Nat → Int32) : Prop := ∃ len, len ≤ 40 ∧ n1 = nI len ∧ n2 = nI len ∧ ∀ j, j < len → t1 j = t2 j ∧ t1 j ∈ signBy
def ILine (n : Int32) (tx : Nat → Int32) (nd fo ndm st : Int32) (S A : Nat → Int32) : Prop := ∃ len k, len ≤ 40 ∧ k ≤ 48 ∧ n = nI len ∧ st = nI k ∧ (∀ j, j < len → tx j ∈ signBy) ∧ ((fo = 0 ∧ len = 0 ∧ nd = 0) ∨ (fo = 1 ∧ 0 < len ∧ nd = ndm ∧ LineOk tx len S A k ndm))
def ITab (sz ro : Int32) (b r : Nat → Int32) (szM roM : Int32) (bM rM : Nat → Int32) : Prop := ∃ k o, k ≤ 4 ∧ o < 3 ∧ sz = nI k ∧ szM = nI k ∧ ro = nI o ∧ roM = nI o ∧ BrkOk k b r ∧ ∀ j, j < k → b j = bM j ∧ r j = rM j
def IRet (num fil : Nat → Int32) (was asd : Int32) (due tot : Int64) (val valM : Nat → Int64) : Prop := (∀ k, k < 12 → num k = fil k ∧ ¬ num k < -1000000000 ∧ ¬ 1000000000 < num k) ∧ ((was = 0 ∧ asd = 0 ∧ due = 0 ∧ ∀ k, k < 12 → val k = 0) ∨ (was = 1 ∧ asd = 1 ∧ due = tot ∧ ∀ k, k < 12 → val k = valM k ∧ inR (val k) = true))
def IAcc (n : Int32) (sum : Int64) (kd yr : Nat → Int32) (am : Nat → Int64) (nM : Int32) (kM yM : Nat → Int32) (aM : Nat → Int64) : Prop := ∃ p, p ≤ 24 ∧ n = nI p ∧ nM = nI p ∧ sum = sumV aM p ∧ ∀ j, j < p → kd j = kM j ∧ yr j = yM j ∧ am j = aM j
def IP (M : Mem) : Prop := IPad (mI M 1 1) (mI M 2) (mI M 96 2) (mI M 97)
def IL (M : Mem) : Prop := ∀ i, i < 12 → ILine (mI M (24 + 2 * i) 1) (mI M (24 + 2 * i + 1)) (mI M 4 i) (mI M 98 i) (mI M 99 i) (mI M 100 i) (fun k => mI M 101 (48 * i + k)) (fun k => mI M 102 (48 * i + k))
def IT (M : Mem) : Prop := ∀ t, t < 3 → ITab (mI M (12 + 3 * t) 2) (mI M (12 + 3 * t) 3) (mI M (12 + 3 * t + 1)) (mI M (12 + 3 * t + 2)) (mI M 103 t) (mI M 106 t) (fun j => mI M 104 (4 * t + j)) (fun j => mI M 105 (4 * t + j))
def IU (M : Mem) : Prop := (∃ tl, tl < 12 ∧ mI M 0 9 = nI tl ∧ mI M 96 8 = nI tl) ∧ ∃ x, x < 31 ∧ mI M 0 10 = nI x ∧ mI M 96 17 = nI x
def IR (M : Mem) : Prop := ∀ q, q < 12 → IRet (mI M (48 + 3 * q + 1)) (fun k => mI M 107 (12 * q + k)) (mI M (48 + 3 * q) 3) (mI M 108 q) (mJ M (48 + 3 * q) 2) (mJ M 110 q) (mJ M (48 + 3 * q + 2)) (fun k => mJ M 109 (12 * q + k))
def IA (M : Mem) : Prop := ∀ t, t < 3 → IAcc (mI M (84 + 4 * t) 3) (mJ M (84 + 4 * t) 4) (mI M (84 + 4 * t + 1)) (mI M (84 + 4 * t + 2)) (mJ M (84 + 4 * t + 3)) (mI M 111 t) (fun j => mI M 112 (24 * t + j)) (fun j => mI M 113 (24 * t + j)) (fun j => mJ M 114 (24 * t + j))
def IN (M : Mem) : Prop := ∀ k, k < 12 → mJ M 23 k = 0
def Inv (M : Mem) : Prop := Full M ∧ IP M ∧ IL M ∧ IT M ∧ IU M ∧ IR M ∧ IA M ∧ IN M
section
variable {M M' : Mem}
theorem IP.same (h : IP M) (h1 : ∀ a, a = 1 ∨ a = 2 ∨ a = 97 → mI M' a = mI M a) (h2 : mI M' 96 2 = mI M 96 2) : IP M' := by
  unfold IP
  rw [h1 1 (by omega), h1 2 (by omega), h1 97 (by omega), h2]
  exact h
theorem IL.same (h : IL M) (h1 : ∀ a, a = 4 ∨ (24 ≤ a ∧ a < 48) ∨ (98 ≤ a ∧ a ≤ 102) → mI M' a = mI M a) : IL M' := by
  intro i hi
  rw [h1 4 (by omega), h1 98 (by omega), h1 99 (by omega), h1 100 (by omega), h1 101 (by omega), h1 102 (by omega), h1 (24 + 2 * i) (by omega), h1 (24 + 2 * i + 1) (by omega)]
  exact h i hi
theorem IT.same (h : IT M) (h1 : ∀ a, (12 ≤ a ∧ a < 21) ∨ (103 ≤ a ∧ a ≤ 106) → mI M' a = mI M a) : IT M' := by
  intro i hi
  rw [h1 103 (by omega), h1 104 (by omega), h1 105 (by omega), h1 106 (by omega), h1 (12 + 3 * i) (by omega), h1 (12 + 3 * i + 1) (by omega), h1 (12 + 3 * i + 2) (by omega)]
  exact h i hi
theorem IU.same (h : IU M) (h1 : mI M' 0 = mI M 0) (h2 : mI M' 96 8 = mI M 96 8) (h3 : mI M' 96 17 = mI M 96 17) : IU M' := by
  unfold IU
  rw [h1, h2, h3]
  exact h
theorem IR.same (h : IR M) (h1 : ∀ a, (48 ≤ a ∧ a < 84) ∨ a = 107 ∨ a = 108 → mI M' a = mI M a) (h2 : ∀ a, (48 ≤ a ∧ a < 84) ∨ a = 109 ∨ a = 110 → mJ M' a = mJ M a) : IR M' := by
  intro i hi
  rw [h1 107 (by omega), h1 108 (by omega), h1 (48 + 3 * i) (by omega), h1 (48 + 3 * i + 1) (by omega), h2 109 (by omega), h2 110 (by omega), h2 (48 + 3 * i) (by omega), h2 (48 + 3 * i + 2) (by omega)]
  exact h i hi
theorem IA.same (h : IA M) (h1 : ∀ a, (84 ≤ a ∧ a < 96) ∨ (111 ≤ a ∧ a ≤ 113) → mI M' a = mI M a) (h2 : ∀ a, (84 ≤ a ∧ a < 96) ∨ a = 114 → mJ M' a = mJ M a) : IA M' := by
  intro i hi
  rw [h1 111 (by omega), h1 112 (by omega), h1 113 (by omega), h1 (84 + 4 * i) (by omega), h1 (84 + 4 * i + 1) (by omega), h1 (84 + 4 * i + 2) (by omega), h2 114 (by omega), h2 (84 + 4 * i) (by omega), h2 (84 + 4 * i + 3) (by omega)]
  exact h i hi
theorem IN.same (h : IN M) (h1 : mJ M' 23 = mJ M 23) : IN M' := by
  unfold IN
  rw [h1]
  exact h
/-- what is no part of it may change -/
theorem Inv.same (h : Inv M) (hF : Full M') (h1 : ∀ a, a ≠ 7 → a ≠ 21 → a ≠ 96 → ¬ (115 ≤ a ∧ a ≤ 119) → mI M' a = mI M a) (h2 : ∀ k, k = 2 ∨ k = 8 ∨ k = 17 → mI M' 96 k = mI M 96 k) (h3 : ∀ a, a ≠ 22 → a ≠ 120 → a ≠ 121 → a ≠ 122 → mJ M' a = mJ M a) : Inv M' := by
  obtain ⟨-, hP, hL, hT, hO, hR, hA, hN⟩ := h
  exact ⟨hF, hP.same (fun a ha => h1 a (by omega) (by omega) (by omega) (by omega)) (h2 2 (by omega)), hL.same (fun a ha => h1 a (by omega) (by omega) (by omega) (by omega)), hT.same (fun a ha => h1 a (by omega) (by omega) (by omega) (by omega)),
    hO.same (h1 0 (by omega) (by omega) (by omega) (by omega)) (h2 8 (by omega)) (h2 17 (by omega)), hR.same (fun a ha => h1 a (by omega) (by omega) (by omega) (by omega)) (fun a ha => h3 a (by omega) (by omega) (by omega) (by omega)), hA.same (fun a ha => h1 a (by omega) (by omega) (by omega) (by omega)) (fun a ha => h3 a (by omega) (by omega) (by omega) (by omega)), hN.same (h3 23 (by omega) (by omega) (by omega) (by omega))⟩
end
abbrev PQ : Type := Option Value → Mem → Prop
abbrev PX : Type := String → Mem → Prop
/-- the reference's call behind an answer of the class (an int that lies in the law's row) -/
def MidI (Tm : PT) (as : List Value) (n : Int32) (M1 : Mem) : Prop := ∀ (Q : PQ) (X : PX), (∀ M2, Inv M2 → mI M2 96 0 = 0 → mJ M2 122 0 = n.toInt64 → Q (some (.int n)) M2) → Tm as (sJ M1 122 0 n.toInt64) Q X
/-- .. a truth value -/
def MidZ (Tm : PT) (as : List Value) (b : Bool) (M1 : Mem) : Prop := ∀ (Q : PQ) (X : PX), (∀ M2, Inv M2 → mI M2 96 0 = 0 → mJ M2 122 0 = (if b = true then 1 else 0) → Q (some (.int (bi b))) M2) → Tm as (sJ M1 122 0 (if b = true then 1 else 0)) Q X
/-- .. a long -/
def MidJ (Tm : PT) (as : List Value) (v : Int64) (M1 : Mem) : Prop := ∀ (Q : PQ) (X : PX), (∀ M2, Inv M2 → mI M2 96 0 = 0 → mJ M2 122 0 = v → Q (some (.long v)) M2) → Tm as (sJ M1 122 0 v) Q X
/-- .. a double -/
def MidD (Tm : PT) (as : List Value) (v : UInt64) (M1 : Mem) : Prop := vf_n64 v ∧ ∀ (Q : PQ) (X : PX), (∀ M2, Inv M2 → mI M2 96 0 = 0 → mD M2 123 0 = v → Q (some (.double v)) M2) → Tm as (sD M1 123 0 v) Q X
/-- .. behind a refusal -/
def MidX (Tm : PT) (as : List Value) (r : Value) (c : Int32) (M1 : Mem) : Prop := ∀ (Q : PQ) (X : PX), (∀ M2, Inv M2 → mI M2 96 0 = c → Q (some r) M2) → Tm as M1 Q X
