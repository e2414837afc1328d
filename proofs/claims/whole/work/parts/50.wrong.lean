/-! THE CLASS'S READING, WITHOUT ITS VALUES: once wrong, always wrong -/
abbrev VV : Type := (Nat → Int64) × (Nat → Int64) × (Nat → Int64 → Int64)
def mkE (tx : Nat → Int32) (len : Nat) (V : VV) : CE := (tx, len, V)
theorem nx_w {E : CE} {s : St} (h : s.2.1 = true) : nx E s = 0 := if_pos (Or.inl h)
theorem nx_k {tx : Nat → Int32} {len : Nat} {V : VV} {a : Nat} {nm : Int32} {ov : Bool} : nx (mkE tx len V) (a, false, nm, ov) = lkR tx len a := by
  unfold nx lkR
  show (if false = true ∨ len ≤ a then (0 : Int32) else tx a) = if len ≤ a then 0 else tx a
  by_cases h : len ≤ a
  · rw [if_pos (Or.inr h), if_pos h]
  · rw [if_neg (by rintro (q | q); exact absurd q (by decide); exact h q), if_neg h]
theorem ex_w {E : CE} {s : St} {c : Int32} (h : s.2.1 = true) (hc : c ≠ 0) : (ex E c s).2.1 = true := by
  unfold ex
  rw [if_neg (by rw [nx_w h]; exact fun q => hc q.symm)]
  rfl
theorem ck_w {w : Int64} {lv : Bool} {s : St} : (ck w lv s).2.2.1 = s.2.1 := by
  unfold ck
  split <;> rfl
theorem rUnit_w {E : CE} {R : RR} {d : Nat} {lv : Bool} {s : St} (h : s.2.1 = true) : (rUnit E R d lv s).2.2.1 = true := by
  unfold rUnit
  rw [nx_w h, if_neg (by decide), if_neg (by decide)]
  by_cases q : 4 ≤ d
  · rw [if_pos q]; rfl
  · rw [if_neg q, if_neg (by decide), if_neg (by decide), if_neg (by decide)]; rfl
theorem rPart_w {E : CE} {R : RR} {d : Nat} {lv : Bool} {s : St} (h : s.2.1 = true) : (rPart E R d lv s).2.2.1 = true := by
  have hu := rUnit_w (E := E) (R := R) (d := d) (lv := lv) h
  unfold rPart
  rw [if_neg (by rw [nx_w hu]; decide)]
  exact hu
theorem rSumL_w {E : CE} {R : RR} {d : Nat} {lv : Bool} : ∀ (n : Nat) {x : Int64} {s : St}, s.2.1 = true → (rSumL E R d lv n x s).2.2.1 = true
  | 0, _, _, h => h
  | n + 1, x, s, h => by
    rw [rSumL, if_neg (by rw [nx_w h]; decide), if_neg (by rw [nx_w h]; decide)]
    exact h
theorem rSum_w {E : CE} {R : RR} {d : Nat} {lv : Bool} {s : St} (h : s.2.1 = true) : (rSum E R d lv s).2.2.1 = true := rSumL_w 40 (rPart_w h)
theorem rForm_w {E : CE} : ∀ (n : Nat) {d : Nat} {lv : Bool} {s : St}, s.2.1 = true → (rForm E n d lv s).2.2.1 = true
  | 0, _, _, _, _ => rfl
  | n + 1, d, lv, s, h => by
    have hs := rSum_w (E := E) (R := rForm E n) (d := d) (lv := lv) h
    show (rForm1 E (rForm E n) d lv s).2.2.1 = true
    unfold rForm1
    rw [if_neg (by rw [nx_w hs]; decide), if_neg (by rw [nx_w hs]; decide)]
    exact hs
theorem rCon_w {E : CE} {n d : Nat} {lv hold : Bool} {s : St} (h : s.2.1 = true ∨ ¬ nx E s = 63 ∨ (rCon1 E (rForm E n) d lv hold s).2.2.1 = true ∨ ¬ nx E (rCon1 E (rForm E n) d lv hold s).2 = 58 ∨ (rCon2 E (rForm E n) d lv hold s).2.2.1 = true) : (rCon E (rForm E n) d lv hold s).2.2.1 = true := by
  show (rCon2 E (rForm E n) d lv hold s).2.2.1 = true
  have k2 : (rCon1 E (rForm E n) d lv hold s).2.2.1 = true → (rCon2 E (rForm E n) d lv hold s).2.2.1 = true := fun q => rForm_w n (ex_w q (by decide))
  rcases h with h | h | h | h | h
  · exact k2 (rForm_w n (ex_w h (by decide)))
  · exact k2 (rForm_w n (by unfold ex; rw [if_neg h]; rfl))
  · exact k2 h
  · exact rForm_w n (by unfold ex; rw [if_neg h]; rfl)
  · exact h
/-! what a reading makes: its value and its overflow by the values alone -/
/-- from at, nm: to at', nm', with this value and this overflow; whatever is live *-/
def RdTo (tx : Nat → Int32) (len : Nat) (f : VV → Bool → St → Int64 × St) (a : Nat) (nm : Int32) (a' : Nat) (nm' : Int32) (val : VV → Int64) (ovf : VV → Bool) : Prop :=
  ∀ (V : VV) (lv ov : Bool), f V lv (a, false, nm, ov) = (val V, (a', false, nm', ov || (lv && ovf V)))
def RdBad (f : VV → Bool → St → Int64 × St) (a : Nat) (nm : Int32) : Prop := ∀ (V : VV) (lv ov : Bool), (f V lv (a, false, nm, ov)).2.2.1 = true
theorem ex_ok {tx : Nat → Int32} {len : Nat} {V : VV} {a : Nat} {nm : Int32} {ov : Bool} {c : Int32} (h : lkR tx len a = c) : ex (mkE tx len V) c (a, false, nm, ov) = (a + 1, false, nm, ov) := by
  unfold ex
  rw [if_pos (by rw [nx_k]; exact h)]
  rfl
theorem ex_no {tx : Nat → Int32} {len : Nat} {V : VV} {a : Nat} {nm : Int32} {ov : Bool} {c : Int32} (h : ¬ lkR tx len a = c) : (ex (mkE tx len V) c (a, false, nm, ov)).2.1 = true := by
  unfold ex
  rw [if_neg (by rw [nx_k]; exact h)]
  rfl
/-! numbers: the class counts in longs, the reference in ints -/
theorem nmR_bd {tx : Nat → Int32} {len : Nat} : ∀ (k : Nat) (x : Nat) (i b : Nat), x < b → b * 10 ^ k < 2 ^ 31 → ∃ y, y < b * 10 ^ k ∧ nmR tx len k (nI x) i = (nI y, (nmR tx len k (nI x) i).2)
  | 0, x, i, b, hx, _ => ⟨x, by simpa using hx, rfl⟩
  | k + 1, x, i, b, hx, hb => by
    rw [nmR]
    by_cases h : isDg (lkR tx len i) = true
    · rw [if_pos h]
      have hl := lk_lt (dg_ne h)
      have ht : lkR tx len i = tx i := if_neg (by omega)
      unfold isDg at h
      rw [ht, Bool.and_eq_true, decide_eq_true_eq, decide_eq_true_eq] at h
      obtain ⟨j, hj, ej⟩ := nI_of (x := tx i) (fun q => h.1 (Int32.lt_trans q (by decide)))
      rw [ej, show (48 : Int32) = nI 48 from rfl, nI_ltI hj (by decide), show (57 : Int32) = nI 57 from rfl, nI_ltI (by decide) hj] at h
      have e : (10 : Int32) * nI x + tx i - 48 = nI (10 * x + (j - 48)) := by
        rw [ej, show (10 : Int32) = nI 10 from rfl, pk_mul, nI_add, show (48 : Int32) = nI 48 from rfl, pk_sub (by omega)]
        congr 1
        omega
      rw [e]
      have hp : b * 10 ^ (k + 1) = (b * 10) * 10 ^ k := by rw [Nat.pow_succ, Nat.mul_comm (10 ^ k) 10, Nat.mul_assoc]
      rw [hp] at hb ⊢
      exact nmR_bd k (10 * x + (j - 48)) (i + 1) (b * 10) (by omega) hb
    · rw [if_neg h]
      refine ⟨x, ?_, rfl⟩
      have : 1 ≤ 10 ^ (k + 1) := Nat.one_le_pow _ _ (by decide)
      calc x < b := hx
        _ = b * 1 := (Nat.mul_one b).symm
        _ ≤ b * 10 ^ (k + 1) := Nat.mul_le_mul_left b this
