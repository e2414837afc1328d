/-! HOW MANY BITS *-/
def bitOk (n : Nat) : Bool := (List.range n).all (fun j => decide (bitC (nI j) = nI (bcN (nI j) 12)))
theorem bit_all : bitOk 4096 = true := by decide +kernel
theorem bit_eq {j : Nat} (h : j < 4096) : bitC (nI j) = nI (bcN (nI j) 12) := by
  have := List.all_eq_true.mp bit_all j (List.mem_range.mpr h)
  exact of_decide_eq_true this
/-- a mask of the twelve lines *-/
def msk (m : Int32) : Prop := ∃ j, j < 4096 ∧ m = nI j
theorem msk_or {m : Int32} (h : msk m) {i : Nat} (hi : i < 12) : msk (m ||| ((1 : Int32) <<< (nI i &&& 31))) := by
  obtain ⟨j, hj, rfl⟩ := h
  have e : ∀ i, i < 12 → (1 : Int32) <<< (nI i &&& 31) = nI (2 ^ i) := by decide +kernel
  have hp : 2 ^ i < 4096 := by
    have : 2 ^ i < 2 ^ 12 := Nat.pow_lt_pow_right (by decide) hi
    exact this
  refine ⟨j ||| 2 ^ i, Nat.or_lt_two_pow (n := 12) hj hp, ?_⟩
  rw [e i hi]
  apply Int32.toBitVec_inj.mp
  rw [Int32.toBitVec_or]
  apply BitVec.eq_of_toNat_eq
  rw [BitVec.toNat_or]
  show (nI j).toBitVec.toNat ||| (nI (2 ^ i)).toBitVec.toNat = (nI (j ||| 2 ^ i)).toBitVec.toNat
  have f : ∀ k, k < 4096 → (nI k).toBitVec.toNat = k := by
    intro k hk
    show (BitVec.ofNat 32 k).toNat = k
    rw [BitVec.toNat_ofNat]
    omega
  rw [f j hj, f _ hp, f _ (Nat.or_lt_two_pow (n := 12) hj hp)]
