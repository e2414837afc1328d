/-! THE CALCULATOR: a mirror of its reading, and that its methods do it -/
/-- at, wrong, names, overflow -/
abbrev St : Type := Nat × Bool × Int32 × Bool
/-- characters, length, values, values before, tables -/
abbrev CE : Type := (Nat → Int32) × Nat × (Nat → Int64) × (Nat → Int64) × (Nat → Int64 → Int64)
def calF (f : Nat → Int32) (s : St) : Nat → Int32 := fun j => if j = 3 then nI s.1 else if j = 4 then bi s.2.1 else if j = 7 then s.2.2.1 else if j = 8 then bi s.2.2.2 else f j
def calS (M : Mem) (s : St) : Mem := rI M 7 (calF (mI M 7) s)
theorem cs_r (M : Mem) (s : St) : mI (calS M s) 7 = calF (mI M 7) s := mI_rs
theorem cs_at {M : Mem} {s : St} : mI (calS M s) 7 3 = nI s.1 := by rw [cs_r]; rfl
theorem cs_wr {M : Mem} {s : St} : mI (calS M s) 7 4 = bi s.2.1 := by rw [cs_r]; rfl
theorem cs_nm {M : Mem} {s : St} : mI (calS M s) 7 7 = s.2.2.1 := by rw [cs_r]; rfl
theorem cs_ov {M : Mem} {s : St} : mI (calS M s) 7 8 = bi s.2.2.2 := by rw [cs_r]; rfl
theorem cs_o {M : Mem} {s : St} {a : Nat} (h : a ≠ 7) : mI (calS M s) a = mI M a := mI_rn h
theorem cs_F {M : Mem} {s : St} : mF (calS M s) = mF M := rfl
theorem cs_J {M : Mem} {s : St} : mJ (calS M s) = mJ M := rfl
theorem sI_rw {M : Mem} {a k : Nat} {f : Nat → Int32} {v : Int32} : sI (rI M a f) a k v = rI M a (va_up f k v) := by
  show (up2 (va_up M.1 a f) a k v, M.2) = (va_up M.1 a (va_up f k v), M.2)
  congr 1
  funext b j
  unfold up2
  by_cases hb : b = a
  · subst hb
    rw [va_up_self, va_up_self]
    by_cases hj : j = k
    · subst hj; rw [if_pos ⟨rfl, rfl⟩, va_up_self]
    · rw [if_neg (fun q => hj q.2), va_up_ne _ _ hj]
  · rw [if_neg (fun q => hb q.1), va_up_ne _ _ hb, va_up_ne _ _ hb]
def inc1 (s : St) : St := (s.1 + 1, s.2)
def rfu (s : St) : St := (s.1, true, s.2.2)
theorem calF_up {f : Nat → Int32} {s t : St} {k : Nat} {v : Int32} (hk : calF f t k = v) (ho : ∀ j, j ≠ k → calF f t j = calF f s j) : va_up (calF f s) k v = calF f t := by
  funext j
  by_cases hj : j = k
  · subst hj; rw [va_up_self, hk]
  · rw [va_up_ne _ _ hj, ho j hj]
theorem cs_s3 {M : Mem} {s : St} {x : Nat} : sI (calS M s) 7 3 (nI x) = calS M (x, s.2) := by
  unfold calS; rw [sI_rw]; exact congrArg (rI M 7) (calF_up (t := (x, s.2)) rfl (fun j hj => by simp only [calF, if_neg hj]))
theorem cs_s4 {M : Mem} {s : St} {x : Bool} : sI (calS M s) 7 4 (bi x) = calS M (s.1, x, s.2.2) := by
  unfold calS; rw [sI_rw]; exact congrArg (rI M 7) (calF_up (t := (s.1, x, s.2.2)) rfl (fun j hj => by simp only [calF, if_neg hj]))
theorem cs_s7 {M : Mem} {s : St} {x : Int32} : sI (calS M s) 7 7 x = calS M (s.1, s.2.1, x, s.2.2.2) := by
  unfold calS; rw [sI_rw]; exact congrArg (rI M 7) (calF_up (t := (s.1, s.2.1, x, s.2.2.2)) rfl (fun j hj => by simp only [calF, if_neg hj]))
theorem cs_s8 {M : Mem} {s : St} {x : Bool} : sI (calS M s) 7 8 (bi x) = calS M (s.1, s.2.1, s.2.2.1, x) := by
  unfold calS; rw [sI_rw]; exact congrArg (rI M 7) (calF_up (t := (s.1, s.2.1, s.2.2.1, x)) rfl (fun j hj => by simp only [calF, if_neg hj]))
theorem cs_inc {M : Mem} {s : St} : sI (calS M s) 7 3 (mI (calS M s) 7 3 + 1) = calS M (inc1 s) := by rw [cs_at, nI_1]; exact cs_s3
theorem cs_rfu {M : Mem} {s : St} : sI (calS M s) 7 4 1 = calS M (rfu s) := cs_s4 (x := true)
/-! the mirror -/
def nx (E : CE) (s : St) : Int32 := if s.2.1 = true ∨ E.2.1 ≤ s.1 then 0 else E.1 s.1
def tkS (E : CE) (c : Int32) (s : St) : St := if nx E s = c then inc1 s else s
def ex (E : CE) (c : Int32) (s : St) : St := if nx E s = c then inc1 s else rfu s
def okR (w : Int64) : Bool := decide (¬ w < -1000000000000) && decide (¬ 1000000000000 < w)
def ck (w : Int64) (lv : Bool) (s : St) : Int64 × St := if okR w = true then (w, s) else (0, (s.1, s.2.1, s.2.2.1, s.2.2.2 || lv))
def rNumL (E : CE) : Nat → Int64 → St → Int64 × St
  | 0, x, s => (x, s)
  | n + 1, x, s => if isDg (nx E s) = true then rNumL E n (x * 10 + (nx E s - 48).toInt64) (inc1 s) else (x, s)
def rNum (E : CE) (n : Nat) (s : St) : Int64 × St := if isDg (nx E s) = true then rNumL E n 0 s else (0, rfu s)
def rName (E : CE) (i : Nat) (s : St) : Int64 × St := if nx E (inc1 s) = 39 then (E.2.2.2.1 i, inc1 (inc1 s)) else (E.2.2.1 i, (s.1 + 1, s.2.1, s.2.2.1 ||| ((1 : Int32) <<< (nI i &&& 31)), s.2.2.2))
abbrev RR : Type := Nat → Bool → St → Int64 × St
def rBr (E : CE) (R : RR) : RR := fun d lv s => ((R d lv (ex E 40 s)).1, ex E 41 (R d lv (ex E 40 s)).2)
def rTwoA (E : CE) (R : RR) (d : Nat) (lv : Bool) (s : St) : Int64 × St := R d lv (ex E 40 (inc1 s))
def rTwoB (E : CE) (R : RR) (d : Nat) (lv : Bool) (s : St) : Int64 × St := R d lv (ex E 44 (rTwoA E R d lv s).2)
def rTwo (E : CE) (R : RR) : RR := fun d lv s => (if nx E s = 109 then minL (rTwoA E R d lv s).1 (rTwoB E R d lv s).1 else maxL (rTwoA E R d lv s).1 (rTwoB E R d lv s).1, ex E 41 (rTwoB E R d lv s).2)
def rTab (E : CE) (R : RR) : RR := fun d lv s => if (nx E (inc1 s) - 48) < 0 ∨ ¬ (nx E (inc1 s) - 48) < 3 then (0, rfu (inc1 s)) else (E.2.2.2.2 (nx E (inc1 s) - 48).toNatClampNeg (rBr E R d lv (inc1 (inc1 s))).1, (rBr E R d lv (inc1 (inc1 s))).2)
def rUnit (E : CE) (R : RR) : RR := fun d lv s => if ¬ nx E s < 65 ∧ ¬ 76 < nx E s then rName E (nx E s - 65).toNatClampNeg s else if isDg (nx E s) = true then rNum E 6 s else if 4 ≤ d then (0, rfu s) else if nx E s = 40 then rBr E R (d + 1) lv s else if nx E s = 109 ∨ nx E s = 120 then rTwo E R (d + 1) lv s else if nx E s = 116 then rTab E R (d + 1) lv s else (0, rfu s)
def hdT (v : Int64) : Int64 := if ctE (fdivL v 100) (fmodL v 100) 50 = true then fdivL v 100 + 1 else fdivL v 100
def rPartN (E : CE) (R : RR) (d : Nat) (lv : Bool) (s : St) : Int64 × St := rNum E 3 (inc1 (rUnit E R d lv s).2)
def rPart (E : CE) (R : RR) : RR := fun d lv s => if nx E (rUnit E R d lv s).2 = 42 then ck (hdT ((rUnit E R d lv s).1 * (rPartN E R d lv s).1)) lv (ex E 37 (rPartN E R d lv s).2) else rUnit E R d lv s
def rAdd (E : CE) (R : RR) (d : Nat) (lv : Bool) (x : Int64) (s : St) : Int64 × St := ck (x + (rPart E R d lv (inc1 s)).1) lv (rPart E R d lv (inc1 s)).2
def rSub (E : CE) (R : RR) (d : Nat) (lv : Bool) (x : Int64) (s : St) : Int64 × St := ck (x - (rPart E R d lv (inc1 s)).1) lv (rPart E R d lv (inc1 s)).2
def rSumL (E : CE) (R : RR) (d : Nat) (lv : Bool) : Nat → Int64 → St → Int64 × St
  | 0, x, s => (x, s)
  | n + 1, x, s => if nx E s = 43 then rSumL E R d lv n (rAdd E R d lv x s).1 (rAdd E R d lv x s).2 else if nx E s = 45 then rSumL E R d lv n (rSub E R d lv x s).1 (rSub E R d lv x s).2 else (x, s)
def rSum (E : CE) (R : RR) : RR := fun d lv s => rSumL E R d lv 40 (rPart E R d lv s).1 (rPart E R d lv s).2
def rCon1 (E : CE) (R : RR) (d : Nat) (lv : Bool) (hold : Bool) (s : St) : Int64 × St := R d (lv && hold) (ex E 63 s)
def rCon2 (E : CE) (R : RR) (d : Nat) (lv : Bool) (hold : Bool) (s : St) : Int64 × St := R d (lv && !hold) (ex E 58 (rCon1 E R d lv hold s).2)
def rCon (E : CE) (R : RR) (d : Nat) (lv : Bool) (hold : Bool) (s : St) : Int64 × St := (if hold = true then (rCon1 E R d lv hold s).1 else (rCon2 E R d lv hold s).1, (rCon2 E R d lv hold s).2)
def rForm1 (E : CE) (R : RR) : RR := fun d lv s => if nx E (rSum E R d lv s).2 = 60 then rCon E R d lv (decide ((rSum E R d lv s).1 < (rSum E R d lv (inc1 (rSum E R d lv s).2)).1)) (rSum E R d lv (inc1 (rSum E R d lv s).2)).2 else if nx E (rSum E R d lv s).2 = 62 then rCon E R d lv (decide ((rSum E R d lv (inc1 (rSum E R d lv s).2)).1 < (rSum E R d lv s).1)) (rSum E R d lv (inc1 (rSum E R d lv s).2)).2 else rSum E R d lv s
def rForm (E : CE) : Nat → RR
  | 0 => fun _ _ s => (0, rfu s)
  | n + 1 => rForm1 E (rForm E n)
theorem at_lt {E : CE} {s : St} (h : nx E s ≠ 0) : s.1 < E.2.1 := by
  unfold nx at h
  by_cases q : s.2.1 = true ∨ E.2.1 ≤ s.1
  · rw [if_pos q] at h; exact absurd rfl h
  · omega
theorem inc_le {E : CE} {s : St} {c : Int32} (h : nx E s = c) (hc : c ≠ 0) : (inc1 s).1 ≤ E.2.1 := at_lt (by rw [h]; exact hc)
theorem isDg_0 {E : CE} {s : St} (h : isDg (nx E s) = true) : nx E s ≠ 0 := fun q => by rw [q] at h; exact absurd h (by decide)
theorem ex_le {E : CE} {s : St} {c : Int32} (hs : s.1 ≤ E.2.1) (hc : c ≠ 0) : (ex E c s).1 ≤ E.2.1 := by
  unfold ex
  by_cases h : nx E s = c
  · rw [if_pos h]; exact inc_le h hc
  · rw [if_neg h]; exact hs
theorem ck_le {E : CE} {s : St} {w : Int64} {lv : Bool} (hs : s.1 ≤ E.2.1) : (ck w lv s).2.1 ≤ E.2.1 := by
  unfold ck
  split
  · exact hs
  · exact hs
/-- what stands when the calculator reads -/
def CalOk (E : CE) (M : Mem) : Prop := Full M ∧ (OB 4 (mF M 2) ∧ rf (mF M 2) 0 = mF M 2 + 1 ∧ AR 0 40 (mF M 2 + 1) ∧ mF M 2 ≠ 7 ∧ mF M 2 + 1 ≠ 7) ∧ (E.1 = mI M (mF M 2 + 1) ∧ mI M (mF M 2) 1 = nI E.2.1 ∧ E.2.1 ≤ 40 ∧ ∀ i, i < E.2.1 → narrow .char (.int (E.1 i)) = .int (E.1 i)) ∧ (AR 2 12 (mF M 5) ∧ E.2.2.1 = mJ M (mF M 5)) ∧ (AR 2 12 (mF M 6) ∧ E.2.2.2.1 = mJ M (mF M 6)) ∧ ∀ t, t < 3 → ∃ sz, sz ≤ 4 ∧ mI M (12 + 3 * t) 2 = nI sz ∧ ∀ v, E.2.2.2.2 t v = rndL (mI M (12 + 3 * t) 3) (brkS sz (mI M (12 + 3 * t + 1)) (mI M (12 + 3 * t + 2)) v sz)
def T_next : PT := fun as M' Q X => ∃ (E : CE) (M : Mem) (s : St), as = [.ref 7] ∧ M' = calS M s ∧ CalOk E M ∧ s.1 ≤ E.2.1 ∧ ((s).1 ≤ E.2.1 → Q (some (.int (nx E s))) (calS M (s)))
theorem c_X1_next {l : Launch} (hl : l.stackTraces = false) : Con l yX1_next wX1_next 0 1 (T_next) := by
  refine con_of hl (by decide) ?_ ?_
  · intro as M Q X hpt
    obtain ⟨E, M, s, rfl, rfl, hE, hs, hQ⟩ := hpt
    exact Nat.le_of_ble_eq_true rfl
  intro G as M Q X hl' hT hd hpt
  obtain ⟨E, M, s, rfl, rfl, hE, hs, hQ⟩ := hpt
  have hG : (gl G).stackTraces = false := by rw [hl']; exact hl
  show PW G RX1 cX1_next 1 (some .char) Q X 0 0 [(0, .ref 7)] [] (calS M s)
  have hF := hE.1
  obtain ⟨-, ⟨hx, hxr, hxa, hx7, hx8⟩, ⟨ec, el, h40, hnar⟩, -⟩ := hE
  refine w_aload_n (pc := 0) dX1_next_0 rfl ?_
  refine w_getI (pc := 1) fl_X1_32 hF (by first | assumption | exact ob rfl) rfl dX1_next_1 ?_
  rw [cs_wr]
  refine w_if_ne 21 (pc := 4) dX1_next_4 (by decide) (fun h4 => ?_) (fun h4 => ?_)
  · have h9 : nx E s = 0 := if_pos (Or.inl (bi_1.mp h4))
    refine w_iconst (v := 0) (pc := 21) dX1_next_21 rfl ?_
    refine w_goto 37 (pc := 22) dX1_next_22 (by decide) ?_
    refine w_ireturn (pc := 37) dX1_next_37 (by first | exact hnar _ h9 | rfl) ?_
    first | (rw [h9] at hQ; exact hQ hs) | (rw [nx, if_neg (by rw [h4]; rintro (q | q); exact absurd q (by decide); omega)] at hQ; exact hQ hs)
  · rw [bi_0] at h4
    refine w_aload_n (pc := 7) dX1_next_7 rfl ?_
    refine w_getI (pc := 8) fl_X1_28 hF (by first | assumption | exact ob rfl) rfl dX1_next_8 ?_
    rw [cs_at]
    refine w_aload_n (pc := 11) dX1_next_11 rfl ?_
    refine w_getF (pc := 12) fl_X1_24 hF (by first | assumption | exact ob rfl) rfl dX1_next_12 ?_
    rw [cs_F]
    refine w_getI (pc := 15) fl_X1_57 hF (by first | assumption | exact ob rfl) rfl dX1_next_15 ?_
    rw [cs_o hx7, el]
    refine w_icmp_lt 25 (pc := 18) dX1_next_18 (by decide) (fun h18 => ?_) (fun h18 => ?_)
    · have h9 : s.1 < E.2.1 := (nI_ltI (by omega) (by omega)).mp h18
      refine w_aload_n (pc := 25) dX1_next_25 rfl ?_
      refine w_getF (pc := 26) fl_X1_24 hF (by first | assumption | exact ob rfl) rfl dX1_next_26 ?_
      rw [cs_F]
      refine w_getR (b := mF M 2 + 1) (pc := 29) fl_X1_137 hF (by first | assumption | exact ob rfl) rfl (by first | assumption | exact rf_x (by omega)) dX1_next_29 ?_
      refine w_aload_n (pc := 32) dX1_next_32 rfl ?_
      refine w_getI (pc := 33) fl_X1_28 hF (by first | assumption | exact ob rfl) rfl dX1_next_33 ?_
      rw [cs_at]
      refine w_cald (m := 40) (pc := 36) hF (by first | assumption | exact ar rfl) (vin (by omega) (by decide)) dX1_next_36 ?_
      rw [cs_o hx8, ← ec, clN (by omega)]
      refine w_ireturn (pc := 37) dX1_next_37 (by first | exact hnar _ h9 | rfl) ?_
      first | (rw [h9] at hQ; exact hQ hs) | (rw [nx, if_neg (by rw [h4]; rintro (q | q); exact absurd q (by decide); omega)] at hQ; exact hQ hs)
    · have h9 : nx E s = 0 := if_pos (Or.inr (by have := h18; rw [nI_ltI (by omega) (by omega)] at this; omega))
      refine w_iconst (v := 0) (pc := 21) dX1_next_21 rfl ?_
      refine w_goto 37 (pc := 22) dX1_next_22 (by decide) ?_
      refine w_ireturn (pc := 37) dX1_next_37 (by first | exact hnar _ h9 | rfl) ?_
      first | (rw [h9] at hQ; exact hQ hs) | (rw [nx, if_neg (by rw [h4]; rintro (q | q); exact absurd q (by decide); omega)] at hQ; exact hQ hs)
def T_take : PT := fun as M' Q X => ∃ (E : CE) (M : Mem) (s : St) (c : Int32), as = [.ref 7, .int c] ∧ M' = calS M s ∧ CalOk E M ∧ s.1 ≤ E.2.1 ∧ c ≠ 0 ∧ ((tkS E c s).1 ≤ E.2.1 → Q (some (.int (bi (decide (nx E s = c))))) (calS M (tkS E c s)))
theorem c_X1_take {l : Launch} (hl : l.stackTraces = false) : Con l yX1_take wX1_take 0 2 (T_take) := by
  refine con_of hl (by decide) ?_ ?_
  · intro as M Q X hpt
    obtain ⟨E, M, s, c, rfl, rfl, hE, hs, hc, hQ⟩ := hpt
    exact Nat.le_of_ble_eq_true rfl
  intro G as M Q X hl' hT hd hpt
  obtain ⟨E, M, s, c, rfl, rfl, hE, hs, hc, hQ⟩ := hpt
  have hG : (gl G).stackTraces = false := by rw [hl']; exact hl
  show PW G RX1 cX1_take 2 (some .boolean) Q X 0 0 [(0, .ref 7), (1, .int c)] [] (calS M s)
  have hF := hE.1
  refine w_aload_n (pc := 0) dX1_take_0 rfl ?_
  refine w_callV0 (n' := 0) (pc := 1) (c_X1_next hG) cv_X1_106 (by first | assumption | exact ob rfl) hF hT (by omega) (by decide) (Nat.le_of_ble_eq_true rfl) dX1_take_1 ?_
  refine ⟨E, M, _, rfl, rfl, hE, hs, fun _ => ?_⟩
  dsimp only [psh]
  refine w_iload_n (pc := 4) dX1_take_4 rfl ?_
  refine w_icmp_eq 10 (pc := 5) dX1_take_5 (by decide) (fun h5 => ?_) (fun h5 => ?_)
  · refine w_aload_n (pc := 10) dX1_take_10 rfl ?_
    refine w_dup (pc := 11) dX1_take_11 rfl ?_
    refine w_getI (pc := 12) fl_X1_28 hF (by first | assumption | exact ob rfl) rfl dX1_take_12 ?_
    refine w_iconst (v := 1) (pc := 15) dX1_take_15 rfl ?_
    refine w_iadd (pc := 16) dX1_take_16 ?_
    refine w_putI (pc := 17) fp_X1_28 hF (by first | assumption | exact ob rfl) rfl dX1_take_17 ?_
    rw [cs_inc]
    refine w_iconst (v := 1) (pc := 20) dX1_take_20 rfl ?_
    refine w_ireturn (pc := 21) dX1_take_21 rfl ?_
    rw [tkS, if_pos h5, bi_t h5] at hQ
    exact hQ (inc_le h5 hc)
  · refine w_iconst (v := 0) (pc := 8) dX1_take_8 rfl ?_
    refine w_ireturn (pc := 9) dX1_take_9 rfl ?_
    rw [tkS, if_neg h5, bi_f h5] at hQ
    exact hQ hs
def T_expect : PT := fun as M' Q X => ∃ (E : CE) (M : Mem) (s : St) (c : Int32), as = [.ref 7, .int c] ∧ M' = calS M s ∧ CalOk E M ∧ s.1 ≤ E.2.1 ∧ c ≠ 0 ∧ ((ex E c s).1 ≤ E.2.1 → Q (none) (calS M (ex E c s)))
theorem c_X1_expect {l : Launch} (hl : l.stackTraces = false) : Con l yX1_expect wX1_expect 0 3 (T_expect) := by
  refine con_of hl (by decide) ?_ ?_
  · intro as M Q X hpt
    obtain ⟨E, M, s, c, rfl, rfl, hE, hs, hc, hQ⟩ := hpt
    exact Nat.le_of_ble_eq_true rfl
  intro G as M Q X hl' hT hd hpt
  obtain ⟨E, M, s, c, rfl, rfl, hE, hs, hc, hQ⟩ := hpt
  have hG : (gl G).stackTraces = false := by rw [hl']; exact hl
  show PW G RX1 cX1_expect 2 none Q X 0 0 [(0, .ref 7), (1, .int c)] [] (calS M s)
  have hF := hE.1
  refine w_aload_n (pc := 0) dX1_expect_0 rfl ?_
  refine w_iload_n (pc := 1) dX1_expect_1 rfl ?_
  refine w_callV1 (n' := 0) (pc := 2) (c_X1_take hG) cv_X1_67 (by first | assumption | exact ob rfl) hF hT (by omega) (by decide) (Nat.le_of_ble_eq_true rfl) dX1_expect_2 ?_
  refine ⟨E, M, _, _, rfl, rfl, hE, hs, hc, fun hb => ?_⟩
  dsimp only [psh]
  refine w_if_ne 13 (pc := 5) dX1_expect_5 (by decide) (fun h5 => ?_) (fun h5 => ?_)
  · rw [bi_1, decide_eq_true_eq] at h5
    rw [tkS, if_pos h5]
    refine w_return (pc := 13) dX1_expect_13 ?_
    first | (rw [ex, if_pos h5] at hQ; exact hQ (inc_le h5 hc)) | (rw [ex, if_neg h5] at hQ; exact hQ hs)
  · rw [bi_0, decide_eq_false_iff_not] at h5
    rw [tkS, if_neg h5]
    refine w_aload_n (pc := 8) dX1_expect_8 rfl ?_
    refine w_iconst (v := 1) (pc := 9) dX1_expect_9 rfl ?_
    refine w_putZ (pc := 10) fp_X1_32 hF (by first | assumption | exact ob rfl) rfl (by first | exact Or.inl rfl | exact Or.inr rfl | assumption) dX1_expect_10 ?_
    rw [cs_rfu]
    refine w_return (pc := 13) dX1_expect_13 ?_
    first | (rw [ex, if_pos h5] at hQ; exact hQ (inc_le h5 hc)) | (rw [ex, if_neg h5] at hQ; exact hQ hs)
def T_refuse : PT := fun as M' Q X => ∃ (E : CE) (M : Mem) (s : St), as = [.ref 7] ∧ M' = calS M s ∧ CalOk E M ∧ s.1 ≤ E.2.1 ∧ ((rfu s).1 ≤ E.2.1 → Q (some (.long 0)) (calS M (rfu s)))
theorem c_X1_refuse {l : Launch} (hl : l.stackTraces = false) : Con l yX1_refuse wX1_refuse 0 1 (T_refuse) := by
  refine con_of hl (by decide) ?_ ?_
  · intro as M Q X hpt
    obtain ⟨E, M, s, rfl, rfl, hE, hs, hQ⟩ := hpt
    exact Nat.le_of_ble_eq_true rfl
  intro G as M Q X hl' hT hd hpt
  obtain ⟨E, M, s, rfl, rfl, hE, hs, hQ⟩ := hpt
  have hG : (gl G).stackTraces = false := by rw [hl']; exact hl
  show PW G RX1 cX1_refuse 1 (some .long) Q X 0 0 [(0, .ref 7)] [] (calS M s)
  have hF := hE.1
  refine w_aload_n (pc := 0) dX1_refuse_0 rfl ?_
  refine w_iconst (v := 1) (pc := 1) dX1_refuse_1 rfl ?_
  refine w_putZ (pc := 2) fp_X1_32 hF (by first | assumption | exact ob rfl) rfl (by first | exact Or.inl rfl | exact Or.inr rfl | assumption) dX1_refuse_2 ?_
  rw [cs_rfu]
  refine w_lconst (v := 0) (pc := 5) dX1_refuse_5 rfl ?_
  refine w_lreturn (pc := 6) dX1_refuse_6 ?_
  exact hQ hs
def T_checked : PT := fun as M' Q X => ∃ (E : CE) (M : Mem) (s : St) (w : Int64) (lv : Bool), as = [.ref 7, .long w, .int (bi lv)] ∧ M' = calS M s ∧ CalOk E M ∧ s.1 ≤ E.2.1 ∧ (((ck w lv s).2).1 ≤ E.2.1 → Q (some (.long (ck w lv s).1)) (calS M ((ck w lv s).2)))
theorem c_X1_checked {l : Launch} (hl : l.stackTraces = false) : Con l yX1_checked wX1_checked 0 1 (T_checked) := by
  refine con_of hl (by decide) ?_ ?_
  · intro as M Q X hpt
    obtain ⟨E, M, s, w, lv, rfl, rfl, hE, hs, hQ⟩ := hpt
    exact Nat.le_of_ble_eq_true rfl
  intro G as M Q X hl' hT hd hpt
  obtain ⟨E, M, s, w, lv, rfl, rfl, hE, hs, hQ⟩ := hpt
  have hG : (gl G).stackTraces = false := by rw [hl']; exact hl
  show PW G RX1 cX1_checked 4 (some .long) Q X 0 0 [(0, .ref 7), (1, .long w), (3, .int (bi lv))] [] (calS M s)
  have hF := hE.1
  refine w_lload_n (pc := 0) dX1_checked_0 rfl ?_
  refine w_ldc2 (pc := 1) kl_X1_141 dX1_checked_1 ?_
  refine w_lcmp_lt 18 (pc := 4) dX1_checked_4 dX1_checked_5 (by decide) (fun h4 => ?_) (fun h4 => ?_)
  · refine w_aload_n (pc := 18) dX1_checked_18 rfl ?_
    refine w_aload_n (pc := 19) dX1_checked_19 rfl ?_
    refine w_getI (pc := 20) fl_X1_45 hF (by first | assumption | exact ob rfl) rfl dX1_checked_20 ?_
    rw [cs_ov]
    refine w_if_ne 30 (pc := 23) dX1_checked_23 (by decide) (fun h23 => ?_) (fun h23 => ?_)
    · rw [bi_1] at h23
      refine w_iconst (v := 1) (pc := 30) dX1_checked_30 rfl ?_
      refine w_goto 35 (pc := 31) dX1_checked_31 (by decide) ?_
      refine w_putZ (pc := 35) fp_X1_45 hF (by first | assumption | exact ob rfl) rfl (by first | exact Or.inl rfl | exact Or.inr rfl | assumption) dX1_checked_35 ?_
      first | rw [show (1 : Int32) = bi true from rfl, cs_s8] | rw [show (0 : Int32) = bi false from rfl, cs_s8]
      refine w_lconst (v := 0) (pc := 38) dX1_checked_38 rfl ?_
      refine w_lreturn (pc := 39) dX1_checked_39 ?_
      have hk : ¬ okR w = true := by rw [okR, Bool.and_eq_true, decide_eq_true_eq, decide_eq_true_eq]; first | exact fun q => q.1 h4 | exact fun q => q.2 h12
      rw [ck, if_neg hk] at hQ
      first | (rw [h23, Bool.true_or] at hQ; exact hQ hs) | (rw [h23, h27, Bool.false_or] at hQ; exact hQ hs)
    · rw [bi_0] at h23
      refine w_iload_n (pc := 26) dX1_checked_26 rfl ?_
      refine w_if_eq 34 (pc := 27) dX1_checked_27 (by decide) (fun h27 => ?_) (fun h27 => ?_)
      · rw [bi_0] at h27
        refine w_iconst (v := 0) (pc := 34) dX1_checked_34 rfl ?_
        refine w_putZ (pc := 35) fp_X1_45 hF (by first | assumption | exact ob rfl) rfl (by first | exact Or.inl rfl | exact Or.inr rfl | assumption) dX1_checked_35 ?_
        first | rw [show (1 : Int32) = bi true from rfl, cs_s8] | rw [show (0 : Int32) = bi false from rfl, cs_s8]
        refine w_lconst (v := 0) (pc := 38) dX1_checked_38 rfl ?_
        refine w_lreturn (pc := 39) dX1_checked_39 ?_
        have hk : ¬ okR w = true := by rw [okR, Bool.and_eq_true, decide_eq_true_eq, decide_eq_true_eq]; first | exact fun q => q.1 h4 | exact fun q => q.2 h12
        rw [ck, if_neg hk] at hQ
        first | (rw [h23, Bool.true_or] at hQ; exact hQ hs) | (rw [h23, h27, Bool.false_or] at hQ; exact hQ hs)
      · rw [bi_1] at h27
        refine w_iconst (v := 1) (pc := 30) dX1_checked_30 rfl ?_
        refine w_goto 35 (pc := 31) dX1_checked_31 (by decide) ?_
        refine w_putZ (pc := 35) fp_X1_45 hF (by first | assumption | exact ob rfl) rfl (by first | exact Or.inl rfl | exact Or.inr rfl | assumption) dX1_checked_35 ?_
        first | rw [show (1 : Int32) = bi true from rfl, cs_s8] | rw [show (0 : Int32) = bi false from rfl, cs_s8]
        refine w_lconst (v := 0) (pc := 38) dX1_checked_38 rfl ?_
        refine w_lreturn (pc := 39) dX1_checked_39 ?_
        have hk : ¬ okR w = true := by rw [okR, Bool.and_eq_true, decide_eq_true_eq, decide_eq_true_eq]; first | exact fun q => q.1 h4 | exact fun q => q.2 h12
        rw [ck, if_neg hk] at hQ
        first | (rw [h23, Bool.true_or] at hQ; exact hQ hs) | (rw [h23, h27, Bool.false_or] at hQ; exact hQ hs)
  · refine w_lload_n (pc := 8) dX1_checked_8 rfl ?_
    refine w_ldc2 (pc := 9) kl_X1_143 dX1_checked_9 ?_
    refine w_lcmp_gt 18 (pc := 12) dX1_checked_12 dX1_checked_13 (by decide) (fun h12 => ?_) (fun h12 => ?_)
    · refine w_aload_n (pc := 18) dX1_checked_18 rfl ?_
      refine w_aload_n (pc := 19) dX1_checked_19 rfl ?_
      refine w_getI (pc := 20) fl_X1_45 hF (by first | assumption | exact ob rfl) rfl dX1_checked_20 ?_
      rw [cs_ov]
      refine w_if_ne 30 (pc := 23) dX1_checked_23 (by decide) (fun h23 => ?_) (fun h23 => ?_)
      · rw [bi_1] at h23
        refine w_iconst (v := 1) (pc := 30) dX1_checked_30 rfl ?_
        refine w_goto 35 (pc := 31) dX1_checked_31 (by decide) ?_
        refine w_putZ (pc := 35) fp_X1_45 hF (by first | assumption | exact ob rfl) rfl (by first | exact Or.inl rfl | exact Or.inr rfl | assumption) dX1_checked_35 ?_
        first | rw [show (1 : Int32) = bi true from rfl, cs_s8] | rw [show (0 : Int32) = bi false from rfl, cs_s8]
        refine w_lconst (v := 0) (pc := 38) dX1_checked_38 rfl ?_
        refine w_lreturn (pc := 39) dX1_checked_39 ?_
        have hk : ¬ okR w = true := by rw [okR, Bool.and_eq_true, decide_eq_true_eq, decide_eq_true_eq]; first | exact fun q => q.1 h4 | exact fun q => q.2 h12
        rw [ck, if_neg hk] at hQ
        first | (rw [h23, Bool.true_or] at hQ; exact hQ hs) | (rw [h23, h27, Bool.false_or] at hQ; exact hQ hs)
      · rw [bi_0] at h23
        refine w_iload_n (pc := 26) dX1_checked_26 rfl ?_
        refine w_if_eq 34 (pc := 27) dX1_checked_27 (by decide) (fun h27 => ?_) (fun h27 => ?_)
        · rw [bi_0] at h27
          refine w_iconst (v := 0) (pc := 34) dX1_checked_34 rfl ?_
          refine w_putZ (pc := 35) fp_X1_45 hF (by first | assumption | exact ob rfl) rfl (by first | exact Or.inl rfl | exact Or.inr rfl | assumption) dX1_checked_35 ?_
          first | rw [show (1 : Int32) = bi true from rfl, cs_s8] | rw [show (0 : Int32) = bi false from rfl, cs_s8]
          refine w_lconst (v := 0) (pc := 38) dX1_checked_38 rfl ?_
          refine w_lreturn (pc := 39) dX1_checked_39 ?_
          have hk : ¬ okR w = true := by rw [okR, Bool.and_eq_true, decide_eq_true_eq, decide_eq_true_eq]; first | exact fun q => q.1 h4 | exact fun q => q.2 h12
          rw [ck, if_neg hk] at hQ
          first | (rw [h23, Bool.true_or] at hQ; exact hQ hs) | (rw [h23, h27, Bool.false_or] at hQ; exact hQ hs)
        · rw [bi_1] at h27
          refine w_iconst (v := 1) (pc := 30) dX1_checked_30 rfl ?_
          refine w_goto 35 (pc := 31) dX1_checked_31 (by decide) ?_
          refine w_putZ (pc := 35) fp_X1_45 hF (by first | assumption | exact ob rfl) rfl (by first | exact Or.inl rfl | exact Or.inr rfl | assumption) dX1_checked_35 ?_
          first | rw [show (1 : Int32) = bi true from rfl, cs_s8] | rw [show (0 : Int32) = bi false from rfl, cs_s8]
          refine w_lconst (v := 0) (pc := 38) dX1_checked_38 rfl ?_
          refine w_lreturn (pc := 39) dX1_checked_39 ?_
          have hk : ¬ okR w = true := by rw [okR, Bool.and_eq_true, decide_eq_true_eq, decide_eq_true_eq]; first | exact fun q => q.1 h4 | exact fun q => q.2 h12
          rw [ck, if_neg hk] at hQ
          first | (rw [h23, Bool.true_or] at hQ; exact hQ hs) | (rw [h23, h27, Bool.false_or] at hQ; exact hQ hs)
    · refine w_lload_n (pc := 16) dX1_checked_16 rfl ?_
      refine w_lreturn (pc := 17) dX1_checked_17 ?_
      have hk : okR w = true := by rw [okR, Bool.and_eq_true, decide_eq_true_eq, decide_eq_true_eq]; exact ⟨h4, h12⟩
      rw [ck, hk, if_pos rfl] at hQ
      exact hQ hs
def T_num : PT := fun as M' Q X => ∃ (E : CE) (M : Mem) (s : St) (n : Nat), as = [.ref 7, .int (nI n)] ∧ M' = calS M s ∧ CalOk E M ∧ s.1 ≤ E.2.1 ∧ n ≤ 6 ∧ (((rNum E n s).2).1 ≤ E.2.1 → Q (some (.long (rNum E n s).1)) (calS M ((rNum E n s).2)))
theorem c_X1_readNumber {l : Launch} (hl : l.stackTraces = false) : Con l yX1_readNumber wX1_readNumber 0 2 (T_num) := by
  refine con_of hl (by decide) ?_ ?_
  · intro as M Q X hpt
    obtain ⟨E, M, s, n, rfl, rfl, hE, hs, hn6, hQ⟩ := hpt
    exact Nat.le_of_ble_eq_true rfl
  intro G as M Q X hl' hT hd hpt
  obtain ⟨E, M, s, n, rfl, rfl, hE, hs, hn6, hQ⟩ := hpt
  have hG : (gl G).stackTraces = false := by rw [hl']; exact hl
  show PW G RX1 cX1_readNumber 5 (some .long) Q X 0 0 [(0, .ref 7), (1, .int (nI n))] [] (calS M s)
  have hF := hE.1
  have loop : ∀ (k i : Nat) (x : Int64) (s : St), i + k = n → s.1 ≤ E.2.1 → ((rNumL E k x s).2.1 ≤ E.2.1 → Q (some (.long (rNumL E k x s).1)) (calS M (rNumL E k x s).2)) → PW G RX1 cX1_readNumber 5 (some .long) Q X 0 20 [(0, .ref 7), (1, .int (nI n)), (2, .long x), (4, .int (nI i))] [] (calS M s) := by
    intro k
    induction k with
    | zero =>
      intro i x s hi hs hq
      refine w_iload (pc := 20) dX1_readNumber_20 rfl ?_
      refine w_iload_n (pc := 22) dX1_readNumber_22 rfl ?_
      refine w_icmp_ge 67 (pc := 23) dX1_readNumber_23 (by decide) (fun h23 => ?_) (fun h23 => ?_)
      · refine w_lload_n (pc := 67) dX1_readNumber_67 rfl ?_
        refine w_lreturn (pc := 68) dX1_readNumber_68 ?_
        exact hq hs
      · exact absurd (by rw [nI_leI (by omega) (by omega)]; omega) h23
    | succ k ih =>
      intro i x s hi hs hq
      refine w_iload (pc := 20) dX1_readNumber_20 rfl ?_
      refine w_iload_n (pc := 22) dX1_readNumber_22 rfl ?_
      refine w_icmp_ge 67 (pc := 23) dX1_readNumber_23 (by decide) (fun h23 => ?_) (fun h23 => ?_)
      · exact absurd h23 (by rw [nI_leI (by omega) (by omega)]; omega)
      · refine w_aload_n (pc := 26) dX1_readNumber_26 rfl ?_
        refine w_callV0 (n' := 0) (pc := 27) (c_X1_next hG) cv_X1_106 (by first | assumption | exact ob rfl) hF hT (by omega) (by decide) (Nat.le_of_ble_eq_true rfl) dX1_readNumber_27 ?_
        refine ⟨E, M, _, rfl, rfl, hE, hs, fun _ => ?_⟩
        dsimp only [psh]
        refine w_callS1 (n' := 0) (pc := 30) (c_X1_isDigit hG) cs_X1_113 hT (by omega) (by decide) (Nat.le_of_ble_eq_true rfl) dX1_readNumber_30 ?_
        refine ⟨_, rfl, ?_⟩
        dsimp only [psh]
        refine w_if_eq 67 (pc := 33) dX1_readNumber_33 (by decide) (fun h33 => ?_) (fun h33 => ?_)
        · rw [bi_0] at h33
          rw [rNumL, if_neg (by rw [h33]; decide)] at hq
          refine w_lload_n (pc := 67) dX1_readNumber_67 rfl ?_
          refine w_lreturn (pc := 68) dX1_readNumber_68 ?_
          exact hq hs
        · rw [bi_1] at h33
          rw [rNumL, if_pos h33] at hq
          refine w_lload_n (pc := 36) dX1_readNumber_36 rfl ?_
          refine w_ldc2 (pc := 37) kl_X1_125 dX1_readNumber_37 ?_
          refine w_lmul (pc := 40) dX1_readNumber_40 ?_
          refine w_aload_n (pc := 41) dX1_readNumber_41 rfl ?_
          refine w_callV0 (n' := 0) (pc := 42) (c_X1_next hG) cv_X1_106 (by first | assumption | exact ob rfl) hF hT (by omega) (by decide) (Nat.le_of_ble_eq_true rfl) dX1_readNumber_42 ?_
          refine ⟨E, M, _, rfl, rfl, hE, hs, fun _ => ?_⟩
          dsimp only [psh]
          refine w_bipush (v := 48) (pc := 45) dX1_readNumber_45 rfl ?_
          refine w_isub (pc := 47) dX1_readNumber_47 ?_
          refine w_i2l (pc := 48) dX1_readNumber_48 ?_
          refine w_ladd (pc := 49) dX1_readNumber_49 ?_
          refine w_lstore_n 2 (pc := 50) rfl dX1_readNumber_50 (by decide) ?_
          refine w_aload_n (pc := 51) dX1_readNumber_51 rfl ?_
          refine w_dup (pc := 52) dX1_readNumber_52 rfl ?_
          refine w_getI (pc := 53) fl_X1_28 hF (by first | assumption | exact ob rfl) rfl dX1_readNumber_53 ?_
          refine w_iconst (v := 1) (pc := 56) dX1_readNumber_56 rfl ?_
          refine w_iadd (pc := 57) dX1_readNumber_57 ?_
          refine w_putI (pc := 58) fp_X1_28 hF (by first | assumption | exact ob rfl) rfl dX1_readNumber_58 ?_
          rw [cs_inc]
          refine w_iinc (v := nI (i + 1)) (pc := 61) dX1_readNumber_61 rfl (nI_1 i) (by decide) ?_
          refine w_goto 20 (pc := 64) dX1_readNumber_64 (by decide) ?_
          exact w_lk (ih (i + 1) _ (inc1 s) (by omega) (at_lt (isDg_0 h33)) hq) (lkc rfl (lkc rfl (lkc rfl (lkc rfl lkn))))
  refine w_aload_n (pc := 0) dX1_readNumber_0 rfl ?_
  refine w_callV0 (n' := 0) (pc := 1) (c_X1_next hG) cv_X1_106 (by first | assumption | exact ob rfl) hF hT (by omega) (by decide) (Nat.le_of_ble_eq_true rfl) dX1_readNumber_1 ?_
  refine ⟨E, M, _, rfl, rfl, hE, hs, fun _ => ?_⟩
  dsimp only [psh]
  refine w_callS1 (n' := 0) (pc := 4) (c_X1_isDigit hG) cs_X1_113 hT (by omega) (by decide) (Nat.le_of_ble_eq_true rfl) dX1_readNumber_4 ?_
  refine ⟨_, rfl, ?_⟩
  dsimp only [psh]
  refine w_if_ne 15 (pc := 7) dX1_readNumber_7 (by decide) (fun h7 => ?_) (fun h7 => ?_)
  · rw [bi_1] at h7
    rw [rNum, if_pos h7] at hQ
    refine w_lconst (v := 0) (pc := 15) dX1_readNumber_15 rfl ?_
    refine w_lstore_n 2 (pc := 16) rfl dX1_readNumber_16 (by decide) ?_
    refine w_iconst (v := 0) (pc := 17) dX1_readNumber_17 rfl ?_
    refine w_istore 4 (pc := 18) dX1_readNumber_18 (by decide) ?_
    exact w_lk (loop n 0 0 s (by omega) hs hQ) (lkc rfl (lkc rfl (lkc rfl (lkc rfl lkn))))
  · rw [bi_0] at h7
    rw [rNum, if_neg (by rw [h7]; decide)] at hQ
    refine w_aload_n (pc := 10) dX1_readNumber_10 rfl ?_
    refine w_callV0 (n' := 0) (pc := 11) (c_X1_refuse hG) cv_X1_60 (by first | assumption | exact ob rfl) hF hT (by omega) (by decide) (Nat.le_of_ble_eq_true rfl) dX1_readNumber_11 ?_
    refine ⟨E, M, _, rfl, rfl, hE, hs, fun _ => ?_⟩
    dsimp only [psh]
    refine w_lreturn (pc := 14) dX1_readNumber_14 ?_
    exact hQ hs
def T_name : PT := fun as M' Q X => ∃ (E : CE) (M : Mem) (s : St) (i : Nat), as = [.ref 7, .int (nI i)] ∧ M' = calS M s ∧ CalOk E M ∧ s.1 ≤ E.2.1 ∧ i < 12 ∧ nx E s ≠ 0 ∧ (((rName E i s).2).1 ≤ E.2.1 → Q (some (.long (rName E i s).1)) (calS M ((rName E i s).2)))
theorem c_X1_readName {l : Launch} (hl : l.stackTraces = false) : Con l yX1_readName wX1_readName 0 3 (T_name) := by
  refine con_of hl (by decide) ?_ ?_
  · intro as M Q X hpt
    obtain ⟨E, M, s, i, rfl, rfl, hE, hs, hi, hn, hQ⟩ := hpt
    exact Nat.le_of_ble_eq_true rfl
  intro G as M Q X hl' hT hd hpt
  obtain ⟨E, M, s, i, rfl, rfl, hE, hs, hi, hn, hQ⟩ := hpt
  have hG : (gl G).stackTraces = false := by rw [hl']; exact hl
  show PW G RX1 cX1_readName 2 (some .long) Q X 0 0 [(0, .ref 7), (1, .int (nI i))] [] (calS M s)
  have hF := hE.1
  obtain ⟨hva, ev⟩ := hE.2.2.2.1
  obtain ⟨hba, eb⟩ := hE.2.2.2.2.1
  refine w_aload_n (pc := 0) dX1_readName_0 rfl ?_
  refine w_dup (pc := 1) dX1_readName_1 rfl ?_
  refine w_getI (pc := 2) fl_X1_28 hF (by first | assumption | exact ob rfl) rfl dX1_readName_2 ?_
  refine w_iconst (v := 1) (pc := 5) dX1_readName_5 rfl ?_
  refine w_iadd (pc := 6) dX1_readName_6 ?_
  refine w_putI (pc := 7) fp_X1_28 hF (by first | assumption | exact ob rfl) rfl dX1_readName_7 ?_
  rw [cs_inc]
  refine w_aload_n (pc := 10) dX1_readName_10 rfl ?_
  refine w_bipush (v := 39) (pc := 11) dX1_readName_11 rfl ?_
  refine w_callV1 (n' := 0) (pc := 13) (c_X1_take hG) cv_X1_67 (by first | assumption | exact ob rfl) hF hT (by omega) (by decide) (Nat.le_of_ble_eq_true rfl) dX1_readName_13 ?_
  refine ⟨E, M, _, _, rfl, rfl, hE, (at_lt hn), (by decide), fun hb => ?_⟩
  dsimp only [psh]
  refine w_if_eq 26 (pc := 16) dX1_readName_16 (by decide) (fun h16 => ?_) (fun h16 => ?_)
  · rw [bi_0, decide_eq_false_iff_not] at h16
    rw [tkS, if_neg h16]
    rw [rName, if_neg h16] at hQ
    refine w_aload_n (pc := 26) dX1_readName_26 rfl ?_
    refine w_dup (pc := 27) dX1_readName_27 rfl ?_
    refine w_getI (pc := 28) fl_X1_42 hF (by first | assumption | exact ob rfl) rfl dX1_readName_28 ?_
    rw [cs_nm]
    refine w_iconst (v := 1) (pc := 31) dX1_readName_31 rfl ?_
    refine w_iload_n (pc := 32) dX1_readName_32 rfl ?_
    refine w_ishl (pc := 33) dX1_readName_33 ?_
    refine w_ior (pc := 34) dX1_readName_34 ?_
    refine w_putI (pc := 35) fp_X1_42 hF (by first | assumption | exact ob rfl) rfl dX1_readName_35 ?_
    rw [cs_s7]
    refine w_aload_n (pc := 38) dX1_readName_38 rfl ?_
    refine w_getF (pc := 39) fl_X1_36 hF (by first | assumption | exact ob rfl) rfl dX1_readName_39 ?_
    rw [cs_F]
    refine w_iload_n (pc := 42) dX1_readName_42 rfl ?_
    refine w_lald (m := 12) (pc := 43) hF (by first | assumption | exact ar rfl) (vin hi (by decide)) dX1_readName_43 ?_
    rw [cs_J, ← ev, clN (by omega)]
    refine w_lreturn (pc := 44) dX1_readName_44 ?_
    exact hQ (at_lt hn)
  · rw [bi_1, decide_eq_true_eq] at h16
    rw [tkS, if_pos h16]
    rw [rName, if_pos h16] at hQ
    refine w_aload_n (pc := 19) dX1_readName_19 rfl ?_
    refine w_getF (pc := 20) fl_X1_39 hF (by first | assumption | exact ob rfl) rfl dX1_readName_20 ?_
    rw [cs_F]
    refine w_iload_n (pc := 23) dX1_readName_23 rfl ?_
    refine w_lald (m := 12) (pc := 24) hF (by first | assumption | exact ar rfl) (vin hi (by decide)) dX1_readName_24 ?_
    rw [cs_J, ← eb, clN (by omega)]
    refine w_lreturn (pc := 25) dX1_readName_25 ?_
    exact hQ (inc_le h16 (by decide))
