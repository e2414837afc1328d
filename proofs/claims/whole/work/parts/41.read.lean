/-! THE REFERENCE'S READING: a mirror, and that its methods do it -/
/-- at, signs, sign, mend, made, newStep, newWith, lines -/
abbrev RS : Type := Nat × Nat × (Nat → Int32) × (Nat → Int32) × Nat × (Nat → Int32) × (Nat → Int32) × Int32
def modF (f : Nat → Int32) (s : RS) : Nat → Int32 := fun j => if j = 22 then nI s.1 else if j = 23 then nI s.2.1 else if j = 26 then nI s.2.2.2.2.1 else if j = 27 then s.2.2.2.2.2.2.2 else f j
def rsF (f : Nat → Nat → Int32) (s : RS) : Nat → Nat → Int32 := fun a => if a = 96 then modF (f 96) s else if a = 115 then s.2.2.1 else if a = 116 then s.2.2.2.1 else if a = 117 then s.2.2.2.2.2.1 else if a = 118 then s.2.2.2.2.2.2.1 else f a
def rS (M : Mem) (s : RS) : Mem := (rsF M.1 s, M.2)
theorem rs_at {M : Mem} {s : RS} : mI (rS M s) 96 22 = nI s.1 := rfl
theorem rs_sg {M : Mem} {s : RS} : mI (rS M s) 96 23 = nI s.2.1 := rfl
theorem rs_ma {M : Mem} {s : RS} : mI (rS M s) 96 26 = nI s.2.2.2.2.1 := rfl
theorem rs_li {M : Mem} {s : RS} : mI (rS M s) 96 27 = s.2.2.2.2.2.2.2 := rfl
theorem rs_len {M : Mem} {s : RS} : mI (rS M s) 96 2 = mI M 96 2 := rfl
theorem rs_si {M : Mem} {s : RS} : mI (rS M s) 115 = s.2.2.1 := rfl
theorem rs_me {M : Mem} {s : RS} : mI (rS M s) 116 = s.2.2.2.1 := rfl
theorem rs_st {M : Mem} {s : RS} : mI (rS M s) 117 = s.2.2.2.2.2.1 := rfl
theorem rs_wi {M : Mem} {s : RS} : mI (rS M s) 118 = s.2.2.2.2.2.2.1 := rfl
theorem rs_tx {M : Mem} {s : RS} : mI (rS M s) 97 = mI M 97 := rfl
theorem rs_up {M : Mem} {s t : RS} {a k : Nat} {v : Int32} (h1 : rsF M.1 t a k = v) (h2 : ∀ b j, ¬ (b = a ∧ j = k) → rsF M.1 t b j = rsF M.1 s b j) : sI (rS M s) a k v = rS M t := by
  show (up2 (rsF M.1 s) a k v, M.2) = (rsF M.1 t, M.2)
  congr 1
  funext b j
  by_cases h : b = a ∧ j = k
  · obtain ⟨rfl, rfl⟩ := h
    rw [up2_s, h1]
  · rw [up2_n _ _ h, h2 b j h]
theorem rs_s22 {M : Mem} {s : RS} {x : Nat} : sI (rS M s) 96 22 (nI x) = rS M (x, s.2.1, s.2.2.1, s.2.2.2.1, s.2.2.2.2.1, s.2.2.2.2.2.1, s.2.2.2.2.2.2.1, s.2.2.2.2.2.2.2) := rs_up rfl (fun b j h => by by_cases q : b = 96; subst q; (have h9 : ¬ j = 22 := fun z => h ⟨rfl, z⟩); simp [rsF, modF, h9]; simp [rsF, q])
theorem rs_s23 {M : Mem} {s : RS} {x : Nat} : sI (rS M s) 96 23 (nI x) = rS M (s.1, x, s.2.2.1, s.2.2.2.1, s.2.2.2.2.1, s.2.2.2.2.2.1, s.2.2.2.2.2.2.1, s.2.2.2.2.2.2.2) := rs_up rfl (fun b j h => by by_cases q : b = 96; subst q; (have h9 : ¬ j = 23 := fun z => h ⟨rfl, z⟩); simp [rsF, modF, h9]; simp [rsF, q])
theorem rs_s26 {M : Mem} {s : RS} {x : Nat} : sI (rS M s) 96 26 (nI x) = rS M (s.1, s.2.1, s.2.2.1, s.2.2.2.1, x, s.2.2.2.2.2.1, s.2.2.2.2.2.2.1, s.2.2.2.2.2.2.2) := rs_up rfl (fun b j h => by by_cases q : b = 96; subst q; (have h9 : ¬ j = 26 := fun z => h ⟨rfl, z⟩); simp [rsF, modF, h9]; simp [rsF, q])
theorem rs_s27 {M : Mem} {s : RS} {x : Int32} : sI (rS M s) 96 27 x = rS M (s.1, s.2.1, s.2.2.1, s.2.2.2.1, s.2.2.2.2.1, s.2.2.2.2.2.1, s.2.2.2.2.2.2.1, x) := rs_up rfl (fun b j h => by by_cases q : b = 96; subst q; (have h9 : ¬ j = 27 := fun z => h ⟨rfl, z⟩); simp [rsF, modF, h9]; simp [rsF, q])
theorem rs_s115 {M : Mem} {s : RS} {k : Nat} {x : Int32} : sI (rS M s) 115 k x = rS M (s.1, s.2.1, va_up s.2.2.1 k x, s.2.2.2.1, s.2.2.2.2.1, s.2.2.2.2.2.1, s.2.2.2.2.2.2.1, s.2.2.2.2.2.2.2) := rs_up (by show va_up s.2.2.1 k x k = x; rw [va_up_self]) (fun b j h => by by_cases q : b = 115; subst q; exact va_up_ne _ _ (fun z => h ⟨rfl, z⟩); simp [rsF, q]; rfl)
theorem rs_s116 {M : Mem} {s : RS} {k : Nat} {x : Int32} : sI (rS M s) 116 k x = rS M (s.1, s.2.1, s.2.2.1, va_up s.2.2.2.1 k x, s.2.2.2.2.1, s.2.2.2.2.2.1, s.2.2.2.2.2.2.1, s.2.2.2.2.2.2.2) := rs_up (by show va_up s.2.2.2.1 k x k = x; rw [va_up_self]) (fun b j h => by by_cases q : b = 116; subst q; exact va_up_ne _ _ (fun z => h ⟨rfl, z⟩); simp [rsF, q]; rfl)
theorem rs_s117 {M : Mem} {s : RS} {k : Nat} {x : Int32} : sI (rS M s) 117 k x = rS M (s.1, s.2.1, s.2.2.1, s.2.2.2.1, s.2.2.2.2.1, va_up s.2.2.2.2.2.1 k x, s.2.2.2.2.2.2.1, s.2.2.2.2.2.2.2) := rs_up (by show va_up s.2.2.2.2.2.1 k x k = x; rw [va_up_self]) (fun b j h => by by_cases q : b = 117; subst q; exact va_up_ne _ _ (fun z => h ⟨rfl, z⟩); simp [rsF, q]; rfl)
theorem rs_s118 {M : Mem} {s : RS} {k : Nat} {x : Int32} : sI (rS M s) 118 k x = rS M (s.1, s.2.1, s.2.2.1, s.2.2.2.1, s.2.2.2.2.1, s.2.2.2.2.2.1, va_up s.2.2.2.2.2.2.1 k x, s.2.2.2.2.2.2.2) := rs_up (by show va_up s.2.2.2.2.2.2.1 k x k = x; rw [va_up_self]) (fun b j h => by by_cases q : b = 118; subst q; exact va_up_ne _ _ (fun z => h ⟨rfl, z⟩); simp [rsF, q]; rfl)
/-! the mirror -/
def lkR (tx : Nat → Int32) (len i : Nat) : Int32 := if len ≤ i then 0 else tx i
def mkS (s : RS) (w n : Int32) : RS := (s.1, s.2.1, s.2.2.1, s.2.2.2.1, s.2.2.2.2.1 + 1, va_up s.2.2.2.2.2.1 s.2.2.2.2.1 w, va_up s.2.2.2.2.2.2.1 s.2.2.2.2.1 n, s.2.2.2.2.2.2.2)
def ptS (s : RS) (w n : Int32) : RS := (s.1, s.2.1 + 1, va_up s.2.2.1 s.2.1 w, va_up s.2.2.2.1 s.2.1 n, s.2.2.2.2.1, s.2.2.2.2.2.1, s.2.2.2.2.2.2.1, s.2.2.2.2.2.2.2)
def tpS (s : RS) : Int32 := if s.2.1 = 0 then 0 else s.2.2.1 (s.2.1 - 1)
def atS (s : RS) (x : Nat) : RS := (x, s.2.1, s.2.2.1, s.2.2.2.1, s.2.2.2.2.1, s.2.2.2.2.2.1, s.2.2.2.2.2.2.1, s.2.2.2.2.2.2.2)
def liS (s : RS) (x : Int32) : RS := (s.1, s.2.1, s.2.2.1, s.2.2.2.1, s.2.2.2.2.1, s.2.2.2.2.2.1, s.2.2.2.2.2.2.1, x)
def popS (s : RS) : RS := (s.1, s.2.1 - 1, s.2.2.1, s.2.2.2.1, s.2.2.2.2.1, s.2.2.2.2.2.1, s.2.2.2.2.2.2.1, s.2.2.2.2.2.2.2)
theorem mk_eq {M : Mem} {s : RS} {w n : Int32} (h : s.2.2.2.2.1 < 2 ^ 31) : makeV (rS M s) w n = rS M (mkS s w n) := by
  unfold makeV
  rw [rs_ma, clN h, rs_s117, rs_s118, nI_1, rs_s26]
  rfl
theorem pt_eq {M : Mem} {s : RS} {w n : Int32} (h : s.2.1 < 2 ^ 31) : putV (rS M s) w n = rS M (ptS s w n) := by
  unfold putV
  rw [rs_sg, clN h, rs_s115, rs_s116, nI_1, rs_s23]
  rfl
theorem tp_eq {M : Mem} {s : RS} (h : s.2.1 < 2 ^ 31) : topV (rS M s) = tpS s := by
  unfold topV tpS
  rw [rs_sg, rs_si]
  by_cases q : s.2.1 = 0
  · rw [if_pos (show nI s.2.1 ≤ 0 from (nI_leI h (by decide)).mpr (by omega)), if_pos q]
  · rw [if_neg (show ¬ nI s.2.1 ≤ 0 from fun z => q (by have := (nI_leI (b := 0) h (by decide)).mp z; omega)), if_neg q, sb1 (by omega), clN (by omega)]
theorem lk_eq {M : Mem} {s : RS} {len i : Nat} (el : mI M 96 2 = nI len) (hl : len < 2 ^ 31) (hi : i < 2 ^ 31) : lookV (rS M s) (nI i) = lkR (mI M 97) len i := by
  unfold lookV lkR
  rw [rs_len, el, rs_tx, clN hi]
  by_cases q : len ≤ i
  · rw [if_pos ((nI_leI hl hi).mpr q), if_pos q]
  · rw [if_neg (fun z => q ((nI_leI hl hi).mp z)), if_neg q]
def dpN (f : Nat → Int32) : Nat → Nat
  | 0 => 0
  | k + 1 => if ¬ 6 < f k then dpN f k + 1 else dpN f k
theorem dpN_le (f : Nat → Int32) : ∀ k, dpN f k ≤ k
  | 0 => Nat.le_refl _
  | k + 1 => by unfold dpN; have := dpN_le f k; split <;> omega
def nmR (tx : Nat → Int32) (len : Nat) : Nat → Int32 → Nat → Int32 × Nat
  | 0, x, i => (x, i)
  | k + 1, x, i => if isDg (lkR tx len i) = true then nmR tx len k (10 * x + tx i - 48) (i + 1) else (x, i)
def RdOk (M : Mem) (len : Nat) : Prop := Full M ∧ mI M 96 2 = nI len ∧ len ≤ 40
/-- looks of the reference, with the memory as mirrored -/
theorem lk_lt {tx : Nat → Int32} {len i : Nat} (h : lkR tx len i ≠ 0) : i < len := by
  unfold lkR at h
  by_cases q : len ≤ i
  · rw [if_pos q] at h; exact absurd rfl h
  · omega
theorem dg_ne {c : Int32} (h : isDg c = true) : c ≠ 0 := fun q => by rw [q] at h; exact absurd h (by decide)
def T_deep : PT := fun as M' Q X => ∃ (M : Mem) (len : Nat) (s : RS), as = [.ref 96] ∧ M' = rS M s ∧ RdOk M len ∧ s.2.1 ≤ 48 ∧ Q (some (.int (nI (dpN s.2.2.1 s.2.1)))) (rS M (s))
theorem c_X6_deepness {l : Launch} (hl : l.stackTraces = false) : Con l yX6_deepness wX6_deepness 0 1 (T_deep) := by
  refine con_of hl (by decide) ?_ ?_
  · intro as M Q X hpt
    obtain ⟨M, len, s, rfl, rfl, ⟨hF, el, h40⟩, hsg, hQ⟩ := hpt
    exact Nat.le_of_ble_eq_true rfl
  intro G as M Q X hl' hT hd hpt
  obtain ⟨M, len, s, rfl, rfl, ⟨hF, el, h40⟩, hsg, hQ⟩ := hpt
  have hG : (gl G).stackTraces = false := by rw [hl']; exact hl
  show PW G RX6 cX6_deepness 3 (some .int) Q X 0 0 [(0, .ref 96)] [] (rS M s)
  have hle := dpN_le s.2.2.1
  have loop : ∀ (n k : Nat), k + n = s.2.1 → PW G RX6 cX6_deepness 3 (some .int) Q X 0 4 [(0, .ref 96), (1, .int (nI (dpN s.2.2.1 k))), (2, .int (nI k))] [] (rS M s) := by
    intro n
    induction n with
    | zero =>
      intro k hk
      refine w_iload_n (pc := 4) dX6_deepness_4 rfl ?_
      refine w_aload_n (pc := 5) dX6_deepness_5 rfl ?_
      refine w_getI (pc := 6) fl_X6_107 hF (by first | assumption | exact ob rfl) rfl dX6_deepness_6 ?_
      rw [rs_sg]
      refine w_icmp_ge 37 (pc := 9) dX6_deepness_9 (by decide) (fun h9 => ?_) (fun h9 => ?_)
      · refine w_iload_n (pc := 37) dX6_deepness_37 rfl ?_
        refine w_ireturn (pc := 38) dX6_deepness_38 rfl ?_
        rw [show k = s.2.1 by omega]
        exact hQ
      · exact absurd (by rw [nI_leI (by omega) (by omega)]; omega) h9
    | succ n ih =>
      intro k hk
      refine w_iload_n (pc := 4) dX6_deepness_4 rfl ?_
      refine w_aload_n (pc := 5) dX6_deepness_5 rfl ?_
      refine w_getI (pc := 6) fl_X6_107 hF (by first | assumption | exact ob rfl) rfl dX6_deepness_6 ?_
      rw [rs_sg]
      refine w_icmp_ge 37 (pc := 9) dX6_deepness_9 (by decide) (fun h9 => ?_) (fun h9 => ?_)
      · exact absurd h9 (by rw [nI_leI (by omega) (by omega)]; omega)
      · refine w_aload_n (pc := 12) dX6_deepness_12 rfl ?_
        refine w_getR (b := 115) (pc := 13) fl_X6_70 hF (by first | assumption | exact ob rfl) rfl rfl dX6_deepness_13 ?_
        refine w_iload_n (pc := 16) dX6_deepness_16 rfl ?_
        refine w_iald (m := 48) (pc := 17) hF (by first | assumption | exact ar rfl) (vin (by omega) (by decide)) dX6_deepness_17 ?_
        rw [rs_si, clN (by omega)]
        refine w_bipush (v := 6) (pc := 18) dX6_deepness_18 rfl ?_
        refine w_icmp_gt 29 (pc := 20) dX6_deepness_20 (by decide) (fun h20 => ?_) (fun h20 => ?_)
        · have e9 : dpN s.2.2.1 (k + 1) = dpN s.2.2.1 k := if_neg (fun q => q h20)
          refine w_iload_n (pc := 29) dX6_deepness_29 rfl ?_
          refine w_istore_n 1 (pc := 30) rfl dX6_deepness_30 (by decide) ?_
          refine w_iinc (v := nI (k + 1)) (pc := 31) dX6_deepness_31 rfl (nI_1 k) (by decide) ?_
          refine w_goto 4 (pc := 34) dX6_deepness_34 (by decide) ?_
          have h0 := ih (k + 1) (by omega)
          rw [e9] at h0
          exact w_lk h0 (lkc rfl (lkc rfl (lkc rfl lkn)))
        · have e9 : dpN s.2.2.1 (k + 1) = dpN s.2.2.1 k + 1 := if_pos h20
          refine w_iload_n (pc := 23) dX6_deepness_23 rfl ?_
          refine w_iconst (v := 1) (pc := 24) dX6_deepness_24 rfl ?_
          refine w_iadd (pc := 25) dX6_deepness_25 ?_
          rw [nI_1]
          refine w_goto 30 (pc := 26) dX6_deepness_26 (by decide) ?_
          refine w_istore_n 1 (pc := 30) rfl dX6_deepness_30 (by decide) ?_
          refine w_iinc (v := nI (k + 1)) (pc := 31) dX6_deepness_31 rfl (nI_1 k) (by decide) ?_
          refine w_goto 4 (pc := 34) dX6_deepness_34 (by decide) ?_
          have h0 := ih (k + 1) (by omega)
          rw [e9] at h0
          exact w_lk h0 (lkc rfl (lkc rfl (lkc rfl lkn)))
  refine w_iconst (v := 0) (pc := 0) dX6_deepness_0 rfl ?_
  refine w_istore_n 1 (pc := 1) rfl dX6_deepness_1 (by decide) ?_
  refine w_iconst (v := 0) (pc := 2) dX6_deepness_2 rfl ?_
  refine w_istore_n 2 (pc := 3) rfl dX6_deepness_3 (by decide) ?_
  exact w_lk (loop s.2.1 0 (by omega)) (lkc rfl (lkc rfl (lkc rfl lkn)))
def T_mNum : PT := fun as M' Q X => ∃ (M : Mem) (len : Nat) (s : RS) (n : Nat), as = [.ref 96, .int (nI n)] ∧ M' = rS M s ∧ RdOk M len ∧ s.1 ≤ 41 ∧ n ≤ 6 ∧ Q (some (.int (nmR (mI M 97) len n 0 s.1).1)) (rS M (atS s (nmR (mI M 97) len n 0 s.1).2))
theorem c_X6_number {l : Launch} (hl : l.stackTraces = false) : Con l yX6_number wX6_number 0 2 (T_mNum) := by
  refine con_of hl (by decide) ?_ ?_
  · intro as M Q X hpt
    obtain ⟨M, len, s, n, rfl, rfl, ⟨hF, el, h40⟩, hat, hn, hQ⟩ := hpt
    exact Nat.le_of_ble_eq_true rfl
  intro G as M Q X hl' hT hd hpt
  obtain ⟨M, len, s, n, rfl, rfl, ⟨hF, el, h40⟩, hat, hn, hQ⟩ := hpt
  have hG : (gl G).stackTraces = false := by rw [hl']; exact hl
  show PW G RX6 cX6_number 4 (some .int) Q X 0 0 [(0, .ref 96), (1, .int (nI n))] [] (rS M s)
  have loop : ∀ (k i : Nat) (x : Int32) (a : Nat), i + k = n → a ≤ 41 → Q (some (.int (nmR (mI M 97) len k x a).1)) (rS M (atS s (nmR (mI M 97) len k x a).2)) → PW G RX6 cX6_number 4 (some .int) Q X 0 4 [(0, .ref 96), (1, .int (nI n)), (2, .int x), (3, .int (nI i))] [] (rS M (atS s a)) := by
    intro k
    induction k with
    | zero =>
      intro i x a hi ha hq
      refine w_iload_n (pc := 4) dX6_number_4 rfl ?_
      refine w_iload_n (pc := 5) dX6_number_5 rfl ?_
      refine w_icmp_ge 57 (pc := 6) dX6_number_6 (by decide) (fun h6 => ?_) (fun h6 => ?_)
      · refine w_iload_n (pc := 57) dX6_number_57 rfl ?_
        refine w_ireturn (pc := 58) dX6_number_58 rfl ?_
        exact hq
      · exact absurd (by rw [nI_leI (by omega) (by omega)]; omega) h6
    | succ k ih =>
      intro i x a hi ha hq
      refine w_iload_n (pc := 4) dX6_number_4 rfl ?_
      refine w_iload_n (pc := 5) dX6_number_5 rfl ?_
      refine w_icmp_ge 57 (pc := 6) dX6_number_6 (by decide) (fun h6 => ?_) (fun h6 => ?_)
      · exact absurd h6 (by rw [nI_leI (by omega) (by omega)]; omega)
      · refine w_aload_n (pc := 9) dX6_number_9 rfl ?_
        refine w_aload_n (pc := 10) dX6_number_10 rfl ?_
        refine w_getI (pc := 11) fl_X6_110 hF (by first | assumption | exact ob rfl) rfl dX6_number_11 ?_
        rw [rs_at, show (atS s a).1 = a from rfl]
        refine w_callV1 (n' := 0) (pc := 14) (c_X6_look hG) cv_X6_113 (by first | assumption | exact ob rfl) hF hT (by omega) (by decide) (Nat.le_of_ble_eq_true rfl) dX6_number_14 ?_
        refine ⟨nI (a), (by first | rfl | rw [nI_1] | (rw [show (2 : Int32) = nI 2 from rfl, nI_add])), hF, (fun q => by rw [rs_len, el, nI_leI (by omega) (by omega)] at q; exact vin (by omega) (by decide)), ?_⟩
        rw [lk_eq el (by omega) (by omega)]
        dsimp only [psh]
        refine w_callS1 (n' := 0) (pc := 17) (c_X6_isDigit hG) cs_X6_94 hT (by omega) (by decide) (Nat.le_of_ble_eq_true rfl) dX6_number_17 ?_
        refine ⟨_, rfl, ?_⟩
        dsimp only [psh]
        refine w_if_eq 57 (pc := 20) dX6_number_20 (by decide) (fun h20 => ?_) (fun h20 => ?_)
        · rw [bi_0] at h20
          rw [nmR, if_neg (by rw [h20]; decide)] at hq
          refine w_iload_n (pc := 57) dX6_number_57 rfl ?_
          refine w_ireturn (pc := 58) dX6_number_58 rfl ?_
          exact hq
        · rw [bi_1] at h20
          rw [nmR, if_pos h20] at hq
          refine w_bipush (v := 10) (pc := 23) dX6_number_23 rfl ?_
          refine w_iload_n (pc := 25) dX6_number_25 rfl ?_
          refine w_imul (pc := 26) dX6_number_26 ?_
          refine w_aload_n (pc := 27) dX6_number_27 rfl ?_
          refine w_getR (b := 97) (pc := 28) fl_X6_7 hF (by first | assumption | exact ob rfl) rfl rfl dX6_number_28 ?_
          refine w_aload_n (pc := 31) dX6_number_31 rfl ?_
          refine w_getI (pc := 32) fl_X6_110 hF (by first | assumption | exact ob rfl) rfl dX6_number_32 ?_
          rw [rs_at, show (atS s a).1 = a from rfl]
          refine w_iald (m := 40) (pc := 35) hF (by first | assumption | exact ar rfl) (vin (by have := lk_lt (dg_ne h20); omega) (by decide)) dX6_number_35 ?_
          rw [rs_tx, clN (by omega)]
          refine w_iadd (pc := 36) dX6_number_36 ?_
          refine w_bipush (v := 48) (pc := 37) dX6_number_37 rfl ?_
          refine w_isub (pc := 39) dX6_number_39 ?_
          refine w_istore_n 2 (pc := 40) rfl dX6_number_40 (by decide) ?_
          refine w_aload_n (pc := 41) dX6_number_41 rfl ?_
          refine w_dup (pc := 42) dX6_number_42 rfl ?_
          refine w_getI (pc := 43) fl_X6_110 hF (by first | assumption | exact ob rfl) rfl dX6_number_43 ?_
          rw [rs_at, show (atS s a).1 = a from rfl]
          refine w_iconst (v := 1) (pc := 46) dX6_number_46 rfl ?_
          refine w_iadd (pc := 47) dX6_number_47 ?_
          refine w_putI (pc := 48) fp_X6_110 hF (by first | assumption | exact ob rfl) rfl dX6_number_48 ?_
          rw [nI_1, rs_s22]
          refine w_iinc (v := nI (i + 1)) (pc := 51) dX6_number_51 rfl (nI_1 i) (by decide) ?_
          refine w_goto 4 (pc := 54) dX6_number_54 (by decide) ?_
          exact w_lk (ih (i + 1) _ (a + 1) (by omega) (by have := lk_lt (dg_ne h20); omega) hq) (lkc rfl (lkc rfl (lkc rfl (lkc rfl lkn))))
  refine w_iconst (v := 0) (pc := 0) dX6_number_0 rfl ?_
  refine w_istore_n 2 (pc := 1) rfl dX6_number_1 (by decide) ?_
  refine w_iconst (v := 0) (pc := 2) dX6_number_2 rfl ?_
  refine w_istore_n 3 (pc := 3) rfl dX6_number_3 (by decide) ?_
  exact w_lk (loop n 0 0 s.1 (by omega) hat hQ) (lkc rfl (lkc rfl (lkc rfl (lkc rfl lkn))))
def bgS (tx : Nat → Int32) (len : Nat) (s : RS) : Int32 × RS :=
  if isNm (lkR tx len s.1) = true then (if lkR tx len (s.1 + 1) = 39 then (1, atS (mkS s 2 (lkR tx len s.1 - 65)) (s.1 + 2)) else (1, atS (liS (mkS s 1 (lkR tx len s.1 - 65)) (s.2.2.2.2.2.2.2 ||| ((1 : Int32) <<< ((lkR tx len s.1 - 65) &&& 31)))) (s.1 + 1)))
  else if isDg (lkR tx len s.1) = true then (1, mkS (atS s (nmR tx len 6 0 s.1).2) 0 (nmR tx len 6 0 s.1).1)
  else if dpN s.2.2.1 s.2.1 = 4 then (0, s)
  else if lkR tx len s.1 = 40 then (2, atS (ptS s 1 0) (s.1 + 1))
  else if (lkR tx len s.1 = 109 ∨ lkR tx len s.1 = 120) ∧ lkR tx len (s.1 + 1) = 40 then (2, atS (ptS s (if lkR tx len s.1 = 109 then 2 else 3) 0) (s.1 + 2))
  else if lkR tx len s.1 = 116 ∧ (¬ lkR tx len (s.1 + 1) - 48 < 0 ∧ ¬ 2 < lkR tx len (s.1 + 1) - 48) ∧ lkR tx len (s.1 + 2) = 40 then (2, atS (ptS s 6 (lkR tx len (s.1 + 1) - 48)) (s.1 + 3)) else (0, s)
def T_mBegin : PT := fun as M' Q X => ∃ (M : Mem) (len : Nat) (s : RS), as = [.ref 96] ∧ M' = rS M s ∧ RdOk M len ∧ s.1 ≤ 40 ∧ s.2.1 < 48 ∧ s.2.2.2.2.1 < 48 ∧ Q (some (.int (bgS (mI M 97) len s).1)) (rS M ((bgS (mI M 97) len s).2))
theorem c_X6_begin {l : Launch} (hl : l.stackTraces = false) : Con l yX6_begin wX6_begin 0 3 (T_mBegin) := by
  refine con_of hl (by decide) ?_ ?_
  · intro as M Q X hpt
    obtain ⟨M, len, s, rfl, rfl, ⟨hF, el, h40⟩, hat, hsg, hma, hQ⟩ := hpt
    exact Nat.le_of_ble_eq_true rfl
  intro G as M Q X hl' hT hd hpt
  obtain ⟨M, len, s, rfl, rfl, ⟨hF, el, h40⟩, hat, hsg, hma, hQ⟩ := hpt
  have hG : (gl G).stackTraces = false := by rw [hl']; exact hl
  show PW G RX6 cX6_begin 3 (some .int) Q X 0 0 [(0, .ref 96)] [] (rS M s)
  have hma31 : s.2.2.2.2.1 < 2 ^ 31 := by omega
  have hsg31 : s.2.1 < 2 ^ 31 := by omega
  have tT : isNm (lkR (mI M 97) len s.1) = true → (lkR (mI M 97) len (s.1 + 1)) = 39 → PW G RX6 cX6_begin 3 (some .int) Q X 0 36 [(0, .ref 96), (1, .int (lkR (mI M 97) len s.1))] [.int 1] (rS M s) := by
    intro hnm hb
    refine w_istore_n 2 (pc := 36) rfl dX6_begin_36 (by decide) ?_
    refine w_aload_n (pc := 37) dX6_begin_37 rfl ?_
    refine w_iload_n (pc := 38) dX6_begin_38 rfl ?_
    refine w_if_eq 46 (pc := 39) dX6_begin_39 (by decide) (fun h39 => ?_) (fun h39 => ?_)
    · exact absurd h39 (by decide)
    · refine w_iconst (v := 2) (pc := 42) dX6_begin_42 rfl ?_
      refine w_goto 47 (pc := 43) dX6_begin_43 (by decide) ?_
      refine w_iload_n (pc := 47) dX6_begin_47 rfl ?_
      refine w_bipush (v := 65) (pc := 48) dX6_begin_48 rfl ?_
      refine w_isub (pc := 50) dX6_begin_50 ?_
      refine w_callV2 (n' := 0) (pc := 51) (c_X6_make hG) cv_X6_117 (by first | assumption | exact ob rfl) hF hT (by omega) (by decide) (Nat.le_of_ble_eq_true rfl) dX6_begin_51 ?_
      refine ⟨_, _, rfl, hF, (by rw [rs_ma]; exact vin hma (by decide)), ?_⟩
      rw [mk_eq (by exact hma31)]
      dsimp only [psh]
      refine w_aload_n (pc := 54) dX6_begin_54 rfl ?_
      refine w_iload_n (pc := 55) dX6_begin_55 rfl ?_
      refine w_if_eq 66 (pc := 56) dX6_begin_56 (by decide) (fun h56 => ?_) (fun h56 => ?_)
      · exact absurd h56 (by decide)
      · refine w_aload_n (pc := 59) dX6_begin_59 rfl ?_
        refine w_getI (pc := 60) fl_X6_121 hF (by first | assumption | exact ob rfl) rfl dX6_begin_60 ?_
        rw [rs_li]
        refine w_goto 77 (pc := 63) dX6_begin_63 (by decide) ?_
        refine w_putI (pc := 77) fp_X6_121 hF (by first | assumption | exact ob rfl) rfl dX6_begin_77 ?_
        rw [rs_s27]
        refine w_aload_n (pc := 80) dX6_begin_80 rfl ?_
        refine w_iload_n (pc := 81) dX6_begin_81 rfl ?_
        refine w_if_eq 94 (pc := 82) dX6_begin_82 (by decide) (fun h82 => ?_) (fun h82 => ?_)
        · exact absurd h82 (by decide)
        · refine w_aload_n (pc := 85) dX6_begin_85 rfl ?_
          refine w_getI (pc := 86) fl_X6_110 hF (by first | assumption | exact ob rfl) rfl dX6_begin_86 ?_
          rw [rs_at]
          refine w_iconst (v := 2) (pc := 89) dX6_begin_89 rfl ?_
          refine w_iadd (pc := 90) dX6_begin_90 ?_
          refine w_goto 100 (pc := 91) dX6_begin_91 (by decide) ?_
          refine w_putI (pc := 100) fp_X6_110 hF (by first | assumption | exact ob rfl) rfl dX6_begin_100 ?_
          first | rw [nI_1, rs_s22] | rw [show (2 : Int32) = nI 2 from rfl, nI_add, rs_s22]
          refine w_iconst (v := 1) (pc := 103) dX6_begin_103 rfl ?_
          refine w_ireturn (pc := 104) dX6_begin_104 rfl ?_
          unfold bgS at hQ
          rw [if_pos hnm, if_pos hb] at hQ
          exact hQ
  have tF : isNm (lkR (mI M 97) len s.1) = true → ¬ (lkR (mI M 97) len (s.1 + 1)) = 39 → PW G RX6 cX6_begin 3 (some .int) Q X 0 36 [(0, .ref 96), (1, .int (lkR (mI M 97) len s.1))] [.int 0] (rS M s) := by
    intro hnm hb
    refine w_istore_n 2 (pc := 36) rfl dX6_begin_36 (by decide) ?_
    refine w_aload_n (pc := 37) dX6_begin_37 rfl ?_
    refine w_iload_n (pc := 38) dX6_begin_38 rfl ?_
    refine w_if_eq 46 (pc := 39) dX6_begin_39 (by decide) (fun h39 => ?_) (fun h39 => ?_)
    · refine w_iconst (v := 1) (pc := 46) dX6_begin_46 rfl ?_
      refine w_iload_n (pc := 47) dX6_begin_47 rfl ?_
      refine w_bipush (v := 65) (pc := 48) dX6_begin_48 rfl ?_
      refine w_isub (pc := 50) dX6_begin_50 ?_
      refine w_callV2 (n' := 0) (pc := 51) (c_X6_make hG) cv_X6_117 (by first | assumption | exact ob rfl) hF hT (by omega) (by decide) (Nat.le_of_ble_eq_true rfl) dX6_begin_51 ?_
      refine ⟨_, _, rfl, hF, (by rw [rs_ma]; exact vin hma (by decide)), ?_⟩
      rw [mk_eq (by exact hma31)]
      dsimp only [psh]
      refine w_aload_n (pc := 54) dX6_begin_54 rfl ?_
      refine w_iload_n (pc := 55) dX6_begin_55 rfl ?_
      refine w_if_eq 66 (pc := 56) dX6_begin_56 (by decide) (fun h56 => ?_) (fun h56 => ?_)
      · refine w_aload_n (pc := 66) dX6_begin_66 rfl ?_
        refine w_getI (pc := 67) fl_X6_121 hF (by first | assumption | exact ob rfl) rfl dX6_begin_67 ?_
        rw [rs_li]
        refine w_iconst (v := 1) (pc := 70) dX6_begin_70 rfl ?_
        refine w_iload_n (pc := 71) dX6_begin_71 rfl ?_
        refine w_bipush (v := 65) (pc := 72) dX6_begin_72 rfl ?_
        refine w_isub (pc := 74) dX6_begin_74 ?_
        refine w_ishl (pc := 75) dX6_begin_75 ?_
        refine w_ior (pc := 76) dX6_begin_76 ?_
        refine w_putI (pc := 77) fp_X6_121 hF (by first | assumption | exact ob rfl) rfl dX6_begin_77 ?_
        rw [rs_s27]
        refine w_aload_n (pc := 80) dX6_begin_80 rfl ?_
        refine w_iload_n (pc := 81) dX6_begin_81 rfl ?_
        refine w_if_eq 94 (pc := 82) dX6_begin_82 (by decide) (fun h82 => ?_) (fun h82 => ?_)
        · refine w_aload_n (pc := 94) dX6_begin_94 rfl ?_
          refine w_getI (pc := 95) fl_X6_110 hF (by first | assumption | exact ob rfl) rfl dX6_begin_95 ?_
          rw [rs_at]
          refine w_iconst (v := 1) (pc := 98) dX6_begin_98 rfl ?_
          refine w_iadd (pc := 99) dX6_begin_99 ?_
          refine w_putI (pc := 100) fp_X6_110 hF (by first | assumption | exact ob rfl) rfl dX6_begin_100 ?_
          first | rw [nI_1, rs_s22] | rw [show (2 : Int32) = nI 2 from rfl, nI_add, rs_s22]
          refine w_iconst (v := 1) (pc := 103) dX6_begin_103 rfl ?_
          refine w_ireturn (pc := 104) dX6_begin_104 rfl ?_
          unfold bgS at hQ
          rw [if_pos hnm, if_neg hb] at hQ
          exact hQ
        · exact absurd rfl h82
      · exact absurd rfl h56
    · exact absurd rfl h39
  refine w_aload_n (pc := 0) dX6_begin_0 rfl ?_
  refine w_aload_n (pc := 1) dX6_begin_1 rfl ?_
  refine w_getI (pc := 2) fl_X6_110 hF (by first | assumption | exact ob rfl) rfl dX6_begin_2 ?_
  rw [rs_at]
  refine w_callV1 (n' := 0) (pc := 5) (c_X6_look hG) cv_X6_113 (by first | assumption | exact ob rfl) hF hT (by omega) (by decide) (Nat.le_of_ble_eq_true rfl) dX6_begin_5 ?_
  refine ⟨nI (s.1), (by first | rfl | rw [nI_1] | (rw [show (2 : Int32) = nI 2 from rfl, nI_add])), hF, (fun q => by rw [rs_len, el, nI_leI (by omega) (by omega)] at q; exact vin (by omega) (by decide)), ?_⟩
  rw [lk_eq el (by omega) (by omega)]
  dsimp only [psh]
  refine w_istore_n 1 (pc := 8) rfl dX6_begin_8 (by decide) ?_
  refine w_iload_n (pc := 9) dX6_begin_9 rfl ?_
  refine w_callS1 (n' := 0) (pc := 10) (c_X6_isName hG) cs_X6_98 hT (by omega) (by decide) (Nat.le_of_ble_eq_true rfl) dX6_begin_10 ?_
  refine ⟨_, rfl, ?_⟩
  dsimp only [psh]
  refine w_if_eq 105 (pc := 13) dX6_begin_13 (by decide) (fun h13 => ?_) (fun h13 => ?_)
  · rw [bi_0] at h13
    replace h13 := Bool.eq_false_iff.mp h13
    refine w_iload_n (pc := 105) dX6_begin_105 rfl ?_
    refine w_callS1 (n' := 0) (pc := 106) (c_X6_isDigit hG) cs_X6_94 hT (by omega) (by decide) (Nat.le_of_ble_eq_true rfl) dX6_begin_106 ?_
    refine ⟨_, rfl, ?_⟩
    dsimp only [psh]
    refine w_if_eq 127 (pc := 109) dX6_begin_109 (by decide) (fun h109 => ?_) (fun h109 => ?_)
    · rw [bi_0] at h109
      replace h109 := Bool.eq_false_iff.mp h109
      refine w_aload_n (pc := 127) dX6_begin_127 rfl ?_
      refine w_callV0 (n' := 0) (pc := 128) (c_X6_deepness hG) cv_X6_127 (by first | assumption | exact ob rfl) hF hT (by omega) (by decide) (Nat.le_of_ble_eq_true rfl) dX6_begin_128 ?_
      refine ⟨M, len, s, rfl, rfl, ⟨hF, el, h40⟩, (by omega), ?_⟩
      dsimp only [psh]
      refine w_iconst (v := 4) (pc := 131) dX6_begin_131 rfl ?_
      refine w_icmp_ne 137 (pc := 132) dX6_begin_132 (by decide) (fun h132 => ?_) (fun h132 => ?_)
      · have h9 : ¬ dpN s.2.2.1 s.2.1 = 4 := fun q => h132 (by rw [q]; rfl)
        refine w_iload_n (pc := 137) dX6_begin_137 rfl ?_
        refine w_bipush (v := 40) (pc := 138) dX6_begin_138 rfl ?_
        refine w_icmp_ne 162 (pc := 140) dX6_begin_140 (by decide) (fun h140 => ?_) (fun h140 => ?_)
        · refine w_iload_n (pc := 162) dX6_begin_162 rfl ?_
          refine w_bipush (v := 109) (pc := 163) dX6_begin_163 rfl ?_
          refine w_icmp_eq 174 (pc := 165) dX6_begin_165 (by decide) (fun h165 => ?_) (fun h165 => ?_)
          · have hc : (lkR (mI M 97) len s.1) = 109 ∨ (lkR (mI M 97) len s.1) = 120 := Or.inl h165
            refine w_aload_n (pc := 174) dX6_begin_174 rfl ?_
            refine w_aload_n (pc := 175) dX6_begin_175 rfl ?_
            refine w_getI (pc := 176) fl_X6_110 hF (by first | assumption | exact ob rfl) rfl dX6_begin_176 ?_
            rw [rs_at]
            refine w_iconst (v := 1) (pc := 179) dX6_begin_179 rfl ?_
            refine w_iadd (pc := 180) dX6_begin_180 ?_
            refine w_callV1 (n' := 0) (pc := 181) (c_X6_look hG) cv_X6_113 (by first | assumption | exact ob rfl) hF hT (by omega) (by decide) (Nat.le_of_ble_eq_true rfl) dX6_begin_181 ?_
            refine ⟨nI (s.1 + 1), (by first | rfl | rw [nI_1] | (rw [show (2 : Int32) = nI 2 from rfl, nI_add])), hF, (fun q => by rw [rs_len, el, nI_leI (by omega) (by omega)] at q; exact vin (by omega) (by decide)), ?_⟩
            rw [lk_eq el (by omega) (by omega)]
            dsimp only [psh]
            refine w_bipush (v := 40) (pc := 184) dX6_begin_184 rfl ?_
            refine w_icmp_ne 218 (pc := 186) dX6_begin_186 (by decide) (fun h186 => ?_) (fun h186 => ?_)
            · have hm : ¬ (((lkR (mI M 97) len s.1) = 109 ∨ (lkR (mI M 97) len s.1) = 120) ∧ (lkR (mI M 97) len (s.1 + 1)) = 40) := fun q => h186 q.2
              refine w_aload_n (pc := 218) dX6_begin_218 rfl ?_
              refine w_aload_n (pc := 219) dX6_begin_219 rfl ?_
              refine w_getI (pc := 220) fl_X6_110 hF (by first | assumption | exact ob rfl) rfl dX6_begin_220 ?_
              rw [rs_at]
              refine w_iconst (v := 1) (pc := 223) dX6_begin_223 rfl ?_
              refine w_iadd (pc := 224) dX6_begin_224 ?_
              refine w_callV1 (n' := 0) (pc := 225) (c_X6_look hG) cv_X6_113 (by first | assumption | exact ob rfl) hF hT (by omega) (by decide) (Nat.le_of_ble_eq_true rfl) dX6_begin_225 ?_
              refine ⟨nI (s.1 + 1), (by first | rfl | rw [nI_1] | (rw [show (2 : Int32) = nI 2 from rfl, nI_add])), hF, (fun q => by rw [rs_len, el, nI_leI (by omega) (by omega)] at q; exact vin (by omega) (by decide)), ?_⟩
              rw [lk_eq el (by omega) (by omega)]
              dsimp only [psh]
              refine w_bipush (v := 48) (pc := 228) dX6_begin_228 rfl ?_
              refine w_isub (pc := 230) dX6_begin_230 ?_
              refine w_istore_n 2 (pc := 231) rfl dX6_begin_231 (by decide) ?_
              refine w_iload_n (pc := 232) dX6_begin_232 rfl ?_
              refine w_bipush (v := 116) (pc := 233) dX6_begin_233 rfl ?_
              refine w_icmp_ne 265 (pc := 235) dX6_begin_235 (by decide) (fun h235 => ?_) (fun h235 => ?_)
              · have hz : ¬ ((lkR (mI M 97) len s.1) = 116 ∧ (¬ (lkR (mI M 97) len (s.1 + 1)) - 48 < 0 ∧ ¬ 2 < (lkR (mI M 97) len (s.1 + 1)) - 48) ∧ (lkR (mI M 97) len (s.1 + 2)) = 40) := fun q => h235 q.1
                refine w_iconst (v := 0) (pc := 265) dX6_begin_265 rfl ?_
                refine w_ireturn (pc := 266) dX6_begin_266 rfl ?_
                unfold bgS at hQ
                rw [if_neg h13, if_neg h109, if_neg h9, if_neg h140, if_neg hm, if_neg hz] at hQ
                exact hQ
              · refine w_iload_n (pc := 238) dX6_begin_238 rfl ?_
                refine w_i2l (pc := 239) dX6_begin_239 ?_
                refine w_lconst (v := 0) (pc := 240) dX6_begin_240 rfl ?_
                refine w_ldc2 (pc := 241) kl_X6_135 dX6_begin_241 ?_
                refine w_callS3 (n' := 0) (pc := 244) (c_X6_in hG) cs_X6_137 hT (by omega) (by decide) (Nat.le_of_ble_eq_true rfl) dX6_begin_244 ?_
                refine ⟨_, _, _, rfl, ?_⟩
                dsimp only [psh]
                refine w_if_eq 265 (pc := 247) dX6_begin_247 (by decide) (fun h247 => ?_) (fun h247 => ?_)
                · have hv := in_f (lo := 0) (hi := 2) rfl rfl h247
                  have hz : ¬ ((lkR (mI M 97) len s.1) = 116 ∧ (¬ (lkR (mI M 97) len (s.1 + 1)) - 48 < 0 ∧ ¬ 2 < (lkR (mI M 97) len (s.1 + 1)) - 48) ∧ (lkR (mI M 97) len (s.1 + 2)) = 40) := fun q => by rcases hv with z | z; exact q.2.1.1 z; exact q.2.1.2 z
                  refine w_iconst (v := 0) (pc := 265) dX6_begin_265 rfl ?_
                  refine w_ireturn (pc := 266) dX6_begin_266 rfl ?_
                  unfold bgS at hQ
                  rw [if_neg h13, if_neg h109, if_neg h9, if_neg h140, if_neg hm, if_neg hz] at hQ
                  exact hQ
                · have hv := in_t (lo := 0) (hi := 2) rfl rfl h247
                  refine w_aload_n (pc := 250) dX6_begin_250 rfl ?_
                  refine w_aload_n (pc := 251) dX6_begin_251 rfl ?_
                  refine w_getI (pc := 252) fl_X6_110 hF (by first | assumption | exact ob rfl) rfl dX6_begin_252 ?_
                  rw [rs_at]
                  refine w_iconst (v := 2) (pc := 255) dX6_begin_255 rfl ?_
                  refine w_iadd (pc := 256) dX6_begin_256 ?_
                  refine w_callV1 (n' := 0) (pc := 257) (c_X6_look hG) cv_X6_113 (by first | assumption | exact ob rfl) hF hT (by omega) (by decide) (Nat.le_of_ble_eq_true rfl) dX6_begin_257 ?_
                  refine ⟨nI (s.1 + 2), (by first | rfl | rw [nI_1] | (rw [show (2 : Int32) = nI 2 from rfl, nI_add])), hF, (fun q => by rw [rs_len, el, nI_leI (by omega) (by omega)] at q; exact vin (by omega) (by decide)), ?_⟩
                  rw [lk_eq el (by omega) (by omega)]
                  dsimp only [psh]
                  refine w_bipush (v := 40) (pc := 260) dX6_begin_260 rfl ?_
                  refine w_icmp_eq 267 (pc := 262) dX6_begin_262 (by decide) (fun h262 => ?_) (fun h262 => ?_)
                  · refine w_aload_n (pc := 267) dX6_begin_267 rfl ?_
                    refine w_bipush (v := 6) (pc := 268) dX6_begin_268 rfl ?_
                    refine w_iload_n (pc := 270) dX6_begin_270 rfl ?_
                    refine w_callV2 (n' := 0) (pc := 271) (c_X6_put hG) cv_X6_131 (by first | assumption | exact ob rfl) hF hT (by omega) (by decide) (Nat.le_of_ble_eq_true rfl) dX6_begin_271 ?_
                    refine ⟨_, _, rfl, hF, (by rw [rs_sg]; exact vin hsg (by decide)), ?_⟩
                    rw [pt_eq (by exact hsg31)]
                    dsimp only [psh]
                    refine w_pop (pc := 274) dX6_begin_274 rfl ?_
                    refine w_aload_n (pc := 275) dX6_begin_275 rfl ?_
                    refine w_dup (pc := 276) dX6_begin_276 rfl ?_
                    refine w_getI (pc := 277) fl_X6_110 hF (by first | assumption | exact ob rfl) rfl dX6_begin_277 ?_
                    rw [rs_at]
                    refine w_iconst (v := 3) (pc := 280) dX6_begin_280 rfl ?_
                    refine w_iadd (pc := 281) dX6_begin_281 ?_
                    refine w_putI (pc := 282) fp_X6_110 hF (by first | assumption | exact ob rfl) rfl dX6_begin_282 ?_
                    rw [show (3 : Int32) = nI 3 from rfl, nI_add, rs_s22]
                    refine w_iconst (v := 2) (pc := 285) dX6_begin_285 rfl ?_
                    refine w_ireturn (pc := 286) dX6_begin_286 rfl ?_
                    unfold bgS at hQ
                    rw [if_neg h13, if_neg h109, if_neg h9, if_neg h140, if_neg hm, if_pos ⟨h235, hv, h262⟩] at hQ
                    exact hQ
                  · have hz : ¬ ((lkR (mI M 97) len s.1) = 116 ∧ (¬ (lkR (mI M 97) len (s.1 + 1)) - 48 < 0 ∧ ¬ 2 < (lkR (mI M 97) len (s.1 + 1)) - 48) ∧ (lkR (mI M 97) len (s.1 + 2)) = 40) := fun q => h262 q.2.2
                    refine w_iconst (v := 0) (pc := 265) dX6_begin_265 rfl ?_
                    refine w_ireturn (pc := 266) dX6_begin_266 rfl ?_
                    unfold bgS at hQ
                    rw [if_neg h13, if_neg h109, if_neg h9, if_neg h140, if_neg hm, if_neg hz] at hQ
                    exact hQ
            · refine w_aload_n (pc := 189) dX6_begin_189 rfl ?_
              refine w_iload_n (pc := 190) dX6_begin_190 rfl ?_
              refine w_bipush (v := 109) (pc := 191) dX6_begin_191 rfl ?_
              refine w_icmp_ne 200 (pc := 193) dX6_begin_193 (by decide) (fun h193 => ?_) (fun h193 => ?_)
              · refine w_iconst (v := 3) (pc := 200) dX6_begin_200 rfl ?_
                refine w_iconst (v := 0) (pc := 201) dX6_begin_201 rfl ?_
                refine w_callV2 (n' := 0) (pc := 202) (c_X6_put hG) cv_X6_131 (by first | assumption | exact ob rfl) hF hT (by omega) (by decide) (Nat.le_of_ble_eq_true rfl) dX6_begin_202 ?_
                refine ⟨_, _, rfl, hF, (by rw [rs_sg]; exact vin hsg (by decide)), ?_⟩
                rw [pt_eq (by exact hsg31)]
                dsimp only [psh]
                refine w_pop (pc := 205) dX6_begin_205 rfl ?_
                refine w_aload_n (pc := 206) dX6_begin_206 rfl ?_
                refine w_dup (pc := 207) dX6_begin_207 rfl ?_
                refine w_getI (pc := 208) fl_X6_110 hF (by first | assumption | exact ob rfl) rfl dX6_begin_208 ?_
                rw [rs_at]
                refine w_iconst (v := 2) (pc := 211) dX6_begin_211 rfl ?_
                refine w_iadd (pc := 212) dX6_begin_212 ?_
                refine w_putI (pc := 213) fp_X6_110 hF (by first | assumption | exact ob rfl) rfl dX6_begin_213 ?_
                rw [show (2 : Int32) = nI 2 from rfl, nI_add, rs_s22]
                refine w_iconst (v := 2) (pc := 216) dX6_begin_216 rfl ?_
                refine w_ireturn (pc := 217) dX6_begin_217 rfl ?_
                unfold bgS at hQ
                rw [if_neg h13, if_neg h109, if_neg h9, if_neg h140, if_pos ⟨hc, h186⟩] at hQ
                first | (rw [if_neg h193] at hQ; exact hQ) | (rw [if_pos h193] at hQ; exact hQ)
              · refine w_iconst (v := 2) (pc := 196) dX6_begin_196 rfl ?_
                refine w_goto 201 (pc := 197) dX6_begin_197 (by decide) ?_
                refine w_iconst (v := 0) (pc := 201) dX6_begin_201 rfl ?_
                refine w_callV2 (n' := 0) (pc := 202) (c_X6_put hG) cv_X6_131 (by first | assumption | exact ob rfl) hF hT (by omega) (by decide) (Nat.le_of_ble_eq_true rfl) dX6_begin_202 ?_
                refine ⟨_, _, rfl, hF, (by rw [rs_sg]; exact vin hsg (by decide)), ?_⟩
                rw [pt_eq (by exact hsg31)]
                dsimp only [psh]
                refine w_pop (pc := 205) dX6_begin_205 rfl ?_
                refine w_aload_n (pc := 206) dX6_begin_206 rfl ?_
                refine w_dup (pc := 207) dX6_begin_207 rfl ?_
                refine w_getI (pc := 208) fl_X6_110 hF (by first | assumption | exact ob rfl) rfl dX6_begin_208 ?_
                rw [rs_at]
                refine w_iconst (v := 2) (pc := 211) dX6_begin_211 rfl ?_
                refine w_iadd (pc := 212) dX6_begin_212 ?_
                refine w_putI (pc := 213) fp_X6_110 hF (by first | assumption | exact ob rfl) rfl dX6_begin_213 ?_
                rw [show (2 : Int32) = nI 2 from rfl, nI_add, rs_s22]
                refine w_iconst (v := 2) (pc := 216) dX6_begin_216 rfl ?_
                refine w_ireturn (pc := 217) dX6_begin_217 rfl ?_
                unfold bgS at hQ
                rw [if_neg h13, if_neg h109, if_neg h9, if_neg h140, if_pos ⟨hc, h186⟩] at hQ
                first | (rw [if_neg h193] at hQ; exact hQ) | (rw [if_pos h193] at hQ; exact hQ)
          · refine w_iload_n (pc := 168) dX6_begin_168 rfl ?_
            refine w_bipush (v := 120) (pc := 169) dX6_begin_169 rfl ?_
            refine w_icmp_ne 218 (pc := 171) dX6_begin_171 (by decide) (fun h171 => ?_) (fun h171 => ?_)
            · have hm : ¬ (((lkR (mI M 97) len s.1) = 109 ∨ (lkR (mI M 97) len s.1) = 120) ∧ (lkR (mI M 97) len (s.1 + 1)) = 40) := fun q => by rcases q.1 with z | z; exact h165 z; exact h171 z
              refine w_aload_n (pc := 218) dX6_begin_218 rfl ?_
              refine w_aload_n (pc := 219) dX6_begin_219 rfl ?_
              refine w_getI (pc := 220) fl_X6_110 hF (by first | assumption | exact ob rfl) rfl dX6_begin_220 ?_
              rw [rs_at]
              refine w_iconst (v := 1) (pc := 223) dX6_begin_223 rfl ?_
              refine w_iadd (pc := 224) dX6_begin_224 ?_
              refine w_callV1 (n' := 0) (pc := 225) (c_X6_look hG) cv_X6_113 (by first | assumption | exact ob rfl) hF hT (by omega) (by decide) (Nat.le_of_ble_eq_true rfl) dX6_begin_225 ?_
              refine ⟨nI (s.1 + 1), (by first | rfl | rw [nI_1] | (rw [show (2 : Int32) = nI 2 from rfl, nI_add])), hF, (fun q => by rw [rs_len, el, nI_leI (by omega) (by omega)] at q; exact vin (by omega) (by decide)), ?_⟩
              rw [lk_eq el (by omega) (by omega)]
              dsimp only [psh]
              refine w_bipush (v := 48) (pc := 228) dX6_begin_228 rfl ?_
              refine w_isub (pc := 230) dX6_begin_230 ?_
              refine w_istore_n 2 (pc := 231) rfl dX6_begin_231 (by decide) ?_
              refine w_iload_n (pc := 232) dX6_begin_232 rfl ?_
              refine w_bipush (v := 116) (pc := 233) dX6_begin_233 rfl ?_
              refine w_icmp_ne 265 (pc := 235) dX6_begin_235 (by decide) (fun h235 => ?_) (fun h235 => ?_)
              · have hz : ¬ ((lkR (mI M 97) len s.1) = 116 ∧ (¬ (lkR (mI M 97) len (s.1 + 1)) - 48 < 0 ∧ ¬ 2 < (lkR (mI M 97) len (s.1 + 1)) - 48) ∧ (lkR (mI M 97) len (s.1 + 2)) = 40) := fun q => h235 q.1
                refine w_iconst (v := 0) (pc := 265) dX6_begin_265 rfl ?_
                refine w_ireturn (pc := 266) dX6_begin_266 rfl ?_
                unfold bgS at hQ
                rw [if_neg h13, if_neg h109, if_neg h9, if_neg h140, if_neg hm, if_neg hz] at hQ
                exact hQ
              · refine w_iload_n (pc := 238) dX6_begin_238 rfl ?_
                refine w_i2l (pc := 239) dX6_begin_239 ?_
                refine w_lconst (v := 0) (pc := 240) dX6_begin_240 rfl ?_
                refine w_ldc2 (pc := 241) kl_X6_135 dX6_begin_241 ?_
                refine w_callS3 (n' := 0) (pc := 244) (c_X6_in hG) cs_X6_137 hT (by omega) (by decide) (Nat.le_of_ble_eq_true rfl) dX6_begin_244 ?_
                refine ⟨_, _, _, rfl, ?_⟩
                dsimp only [psh]
                refine w_if_eq 265 (pc := 247) dX6_begin_247 (by decide) (fun h247 => ?_) (fun h247 => ?_)
                · have hv := in_f (lo := 0) (hi := 2) rfl rfl h247
                  have hz : ¬ ((lkR (mI M 97) len s.1) = 116 ∧ (¬ (lkR (mI M 97) len (s.1 + 1)) - 48 < 0 ∧ ¬ 2 < (lkR (mI M 97) len (s.1 + 1)) - 48) ∧ (lkR (mI M 97) len (s.1 + 2)) = 40) := fun q => by rcases hv with z | z; exact q.2.1.1 z; exact q.2.1.2 z
                  refine w_iconst (v := 0) (pc := 265) dX6_begin_265 rfl ?_
                  refine w_ireturn (pc := 266) dX6_begin_266 rfl ?_
                  unfold bgS at hQ
                  rw [if_neg h13, if_neg h109, if_neg h9, if_neg h140, if_neg hm, if_neg hz] at hQ
                  exact hQ
                · have hv := in_t (lo := 0) (hi := 2) rfl rfl h247
                  refine w_aload_n (pc := 250) dX6_begin_250 rfl ?_
                  refine w_aload_n (pc := 251) dX6_begin_251 rfl ?_
                  refine w_getI (pc := 252) fl_X6_110 hF (by first | assumption | exact ob rfl) rfl dX6_begin_252 ?_
                  rw [rs_at]
                  refine w_iconst (v := 2) (pc := 255) dX6_begin_255 rfl ?_
                  refine w_iadd (pc := 256) dX6_begin_256 ?_
                  refine w_callV1 (n' := 0) (pc := 257) (c_X6_look hG) cv_X6_113 (by first | assumption | exact ob rfl) hF hT (by omega) (by decide) (Nat.le_of_ble_eq_true rfl) dX6_begin_257 ?_
                  refine ⟨nI (s.1 + 2), (by first | rfl | rw [nI_1] | (rw [show (2 : Int32) = nI 2 from rfl, nI_add])), hF, (fun q => by rw [rs_len, el, nI_leI (by omega) (by omega)] at q; exact vin (by omega) (by decide)), ?_⟩
                  rw [lk_eq el (by omega) (by omega)]
                  dsimp only [psh]
                  refine w_bipush (v := 40) (pc := 260) dX6_begin_260 rfl ?_
                  refine w_icmp_eq 267 (pc := 262) dX6_begin_262 (by decide) (fun h262 => ?_) (fun h262 => ?_)
                  · refine w_aload_n (pc := 267) dX6_begin_267 rfl ?_
                    refine w_bipush (v := 6) (pc := 268) dX6_begin_268 rfl ?_
                    refine w_iload_n (pc := 270) dX6_begin_270 rfl ?_
                    refine w_callV2 (n' := 0) (pc := 271) (c_X6_put hG) cv_X6_131 (by first | assumption | exact ob rfl) hF hT (by omega) (by decide) (Nat.le_of_ble_eq_true rfl) dX6_begin_271 ?_
                    refine ⟨_, _, rfl, hF, (by rw [rs_sg]; exact vin hsg (by decide)), ?_⟩
                    rw [pt_eq (by exact hsg31)]
                    dsimp only [psh]
                    refine w_pop (pc := 274) dX6_begin_274 rfl ?_
                    refine w_aload_n (pc := 275) dX6_begin_275 rfl ?_
                    refine w_dup (pc := 276) dX6_begin_276 rfl ?_
                    refine w_getI (pc := 277) fl_X6_110 hF (by first | assumption | exact ob rfl) rfl dX6_begin_277 ?_
                    rw [rs_at]
                    refine w_iconst (v := 3) (pc := 280) dX6_begin_280 rfl ?_
                    refine w_iadd (pc := 281) dX6_begin_281 ?_
                    refine w_putI (pc := 282) fp_X6_110 hF (by first | assumption | exact ob rfl) rfl dX6_begin_282 ?_
                    rw [show (3 : Int32) = nI 3 from rfl, nI_add, rs_s22]
                    refine w_iconst (v := 2) (pc := 285) dX6_begin_285 rfl ?_
                    refine w_ireturn (pc := 286) dX6_begin_286 rfl ?_
                    unfold bgS at hQ
                    rw [if_neg h13, if_neg h109, if_neg h9, if_neg h140, if_neg hm, if_pos ⟨h235, hv, h262⟩] at hQ
                    exact hQ
                  · have hz : ¬ ((lkR (mI M 97) len s.1) = 116 ∧ (¬ (lkR (mI M 97) len (s.1 + 1)) - 48 < 0 ∧ ¬ 2 < (lkR (mI M 97) len (s.1 + 1)) - 48) ∧ (lkR (mI M 97) len (s.1 + 2)) = 40) := fun q => h262 q.2.2
                    refine w_iconst (v := 0) (pc := 265) dX6_begin_265 rfl ?_
                    refine w_ireturn (pc := 266) dX6_begin_266 rfl ?_
                    unfold bgS at hQ
                    rw [if_neg h13, if_neg h109, if_neg h9, if_neg h140, if_neg hm, if_neg hz] at hQ
                    exact hQ
            · have hc : (lkR (mI M 97) len s.1) = 109 ∨ (lkR (mI M 97) len s.1) = 120 := Or.inr h171
              refine w_aload_n (pc := 174) dX6_begin_174 rfl ?_
              refine w_aload_n (pc := 175) dX6_begin_175 rfl ?_
              refine w_getI (pc := 176) fl_X6_110 hF (by first | assumption | exact ob rfl) rfl dX6_begin_176 ?_
              rw [rs_at]
              refine w_iconst (v := 1) (pc := 179) dX6_begin_179 rfl ?_
              refine w_iadd (pc := 180) dX6_begin_180 ?_
              refine w_callV1 (n' := 0) (pc := 181) (c_X6_look hG) cv_X6_113 (by first | assumption | exact ob rfl) hF hT (by omega) (by decide) (Nat.le_of_ble_eq_true rfl) dX6_begin_181 ?_
              refine ⟨nI (s.1 + 1), (by first | rfl | rw [nI_1] | (rw [show (2 : Int32) = nI 2 from rfl, nI_add])), hF, (fun q => by rw [rs_len, el, nI_leI (by omega) (by omega)] at q; exact vin (by omega) (by decide)), ?_⟩
              rw [lk_eq el (by omega) (by omega)]
              dsimp only [psh]
              refine w_bipush (v := 40) (pc := 184) dX6_begin_184 rfl ?_
              refine w_icmp_ne 218 (pc := 186) dX6_begin_186 (by decide) (fun h186 => ?_) (fun h186 => ?_)
              · have hm : ¬ (((lkR (mI M 97) len s.1) = 109 ∨ (lkR (mI M 97) len s.1) = 120) ∧ (lkR (mI M 97) len (s.1 + 1)) = 40) := fun q => h186 q.2
                refine w_aload_n (pc := 218) dX6_begin_218 rfl ?_
                refine w_aload_n (pc := 219) dX6_begin_219 rfl ?_
                refine w_getI (pc := 220) fl_X6_110 hF (by first | assumption | exact ob rfl) rfl dX6_begin_220 ?_
                rw [rs_at]
                refine w_iconst (v := 1) (pc := 223) dX6_begin_223 rfl ?_
                refine w_iadd (pc := 224) dX6_begin_224 ?_
                refine w_callV1 (n' := 0) (pc := 225) (c_X6_look hG) cv_X6_113 (by first | assumption | exact ob rfl) hF hT (by omega) (by decide) (Nat.le_of_ble_eq_true rfl) dX6_begin_225 ?_
                refine ⟨nI (s.1 + 1), (by first | rfl | rw [nI_1] | (rw [show (2 : Int32) = nI 2 from rfl, nI_add])), hF, (fun q => by rw [rs_len, el, nI_leI (by omega) (by omega)] at q; exact vin (by omega) (by decide)), ?_⟩
                rw [lk_eq el (by omega) (by omega)]
                dsimp only [psh]
                refine w_bipush (v := 48) (pc := 228) dX6_begin_228 rfl ?_
                refine w_isub (pc := 230) dX6_begin_230 ?_
                refine w_istore_n 2 (pc := 231) rfl dX6_begin_231 (by decide) ?_
                refine w_iload_n (pc := 232) dX6_begin_232 rfl ?_
                refine w_bipush (v := 116) (pc := 233) dX6_begin_233 rfl ?_
                refine w_icmp_ne 265 (pc := 235) dX6_begin_235 (by decide) (fun h235 => ?_) (fun h235 => ?_)
                · have hz : ¬ ((lkR (mI M 97) len s.1) = 116 ∧ (¬ (lkR (mI M 97) len (s.1 + 1)) - 48 < 0 ∧ ¬ 2 < (lkR (mI M 97) len (s.1 + 1)) - 48) ∧ (lkR (mI M 97) len (s.1 + 2)) = 40) := fun q => h235 q.1
                  refine w_iconst (v := 0) (pc := 265) dX6_begin_265 rfl ?_
                  refine w_ireturn (pc := 266) dX6_begin_266 rfl ?_
                  unfold bgS at hQ
                  rw [if_neg h13, if_neg h109, if_neg h9, if_neg h140, if_neg hm, if_neg hz] at hQ
                  exact hQ
                · refine w_iload_n (pc := 238) dX6_begin_238 rfl ?_
                  refine w_i2l (pc := 239) dX6_begin_239 ?_
                  refine w_lconst (v := 0) (pc := 240) dX6_begin_240 rfl ?_
                  refine w_ldc2 (pc := 241) kl_X6_135 dX6_begin_241 ?_
                  refine w_callS3 (n' := 0) (pc := 244) (c_X6_in hG) cs_X6_137 hT (by omega) (by decide) (Nat.le_of_ble_eq_true rfl) dX6_begin_244 ?_
                  refine ⟨_, _, _, rfl, ?_⟩
                  dsimp only [psh]
                  refine w_if_eq 265 (pc := 247) dX6_begin_247 (by decide) (fun h247 => ?_) (fun h247 => ?_)
                  · have hv := in_f (lo := 0) (hi := 2) rfl rfl h247
                    have hz : ¬ ((lkR (mI M 97) len s.1) = 116 ∧ (¬ (lkR (mI M 97) len (s.1 + 1)) - 48 < 0 ∧ ¬ 2 < (lkR (mI M 97) len (s.1 + 1)) - 48) ∧ (lkR (mI M 97) len (s.1 + 2)) = 40) := fun q => by rcases hv with z | z; exact q.2.1.1 z; exact q.2.1.2 z
                    refine w_iconst (v := 0) (pc := 265) dX6_begin_265 rfl ?_
                    refine w_ireturn (pc := 266) dX6_begin_266 rfl ?_
                    unfold bgS at hQ
                    rw [if_neg h13, if_neg h109, if_neg h9, if_neg h140, if_neg hm, if_neg hz] at hQ
                    exact hQ
                  · have hv := in_t (lo := 0) (hi := 2) rfl rfl h247
                    refine w_aload_n (pc := 250) dX6_begin_250 rfl ?_
                    refine w_aload_n (pc := 251) dX6_begin_251 rfl ?_
                    refine w_getI (pc := 252) fl_X6_110 hF (by first | assumption | exact ob rfl) rfl dX6_begin_252 ?_
                    rw [rs_at]
                    refine w_iconst (v := 2) (pc := 255) dX6_begin_255 rfl ?_
                    refine w_iadd (pc := 256) dX6_begin_256 ?_
                    refine w_callV1 (n' := 0) (pc := 257) (c_X6_look hG) cv_X6_113 (by first | assumption | exact ob rfl) hF hT (by omega) (by decide) (Nat.le_of_ble_eq_true rfl) dX6_begin_257 ?_
                    refine ⟨nI (s.1 + 2), (by first | rfl | rw [nI_1] | (rw [show (2 : Int32) = nI 2 from rfl, nI_add])), hF, (fun q => by rw [rs_len, el, nI_leI (by omega) (by omega)] at q; exact vin (by omega) (by decide)), ?_⟩
                    rw [lk_eq el (by omega) (by omega)]
                    dsimp only [psh]
                    refine w_bipush (v := 40) (pc := 260) dX6_begin_260 rfl ?_
                    refine w_icmp_eq 267 (pc := 262) dX6_begin_262 (by decide) (fun h262 => ?_) (fun h262 => ?_)
                    · refine w_aload_n (pc := 267) dX6_begin_267 rfl ?_
                      refine w_bipush (v := 6) (pc := 268) dX6_begin_268 rfl ?_
                      refine w_iload_n (pc := 270) dX6_begin_270 rfl ?_
                      refine w_callV2 (n' := 0) (pc := 271) (c_X6_put hG) cv_X6_131 (by first | assumption | exact ob rfl) hF hT (by omega) (by decide) (Nat.le_of_ble_eq_true rfl) dX6_begin_271 ?_
                      refine ⟨_, _, rfl, hF, (by rw [rs_sg]; exact vin hsg (by decide)), ?_⟩
                      rw [pt_eq (by exact hsg31)]
                      dsimp only [psh]
                      refine w_pop (pc := 274) dX6_begin_274 rfl ?_
                      refine w_aload_n (pc := 275) dX6_begin_275 rfl ?_
                      refine w_dup (pc := 276) dX6_begin_276 rfl ?_
                      refine w_getI (pc := 277) fl_X6_110 hF (by first | assumption | exact ob rfl) rfl dX6_begin_277 ?_
                      rw [rs_at]
                      refine w_iconst (v := 3) (pc := 280) dX6_begin_280 rfl ?_
                      refine w_iadd (pc := 281) dX6_begin_281 ?_
                      refine w_putI (pc := 282) fp_X6_110 hF (by first | assumption | exact ob rfl) rfl dX6_begin_282 ?_
                      rw [show (3 : Int32) = nI 3 from rfl, nI_add, rs_s22]
                      refine w_iconst (v := 2) (pc := 285) dX6_begin_285 rfl ?_
                      refine w_ireturn (pc := 286) dX6_begin_286 rfl ?_
                      unfold bgS at hQ
                      rw [if_neg h13, if_neg h109, if_neg h9, if_neg h140, if_neg hm, if_pos ⟨h235, hv, h262⟩] at hQ
                      exact hQ
                    · have hz : ¬ ((lkR (mI M 97) len s.1) = 116 ∧ (¬ (lkR (mI M 97) len (s.1 + 1)) - 48 < 0 ∧ ¬ 2 < (lkR (mI M 97) len (s.1 + 1)) - 48) ∧ (lkR (mI M 97) len (s.1 + 2)) = 40) := fun q => h262 q.2.2
                      refine w_iconst (v := 0) (pc := 265) dX6_begin_265 rfl ?_
                      refine w_ireturn (pc := 266) dX6_begin_266 rfl ?_
                      unfold bgS at hQ
                      rw [if_neg h13, if_neg h109, if_neg h9, if_neg h140, if_neg hm, if_neg hz] at hQ
                      exact hQ
              · refine w_aload_n (pc := 189) dX6_begin_189 rfl ?_
                refine w_iload_n (pc := 190) dX6_begin_190 rfl ?_
                refine w_bipush (v := 109) (pc := 191) dX6_begin_191 rfl ?_
                refine w_icmp_ne 200 (pc := 193) dX6_begin_193 (by decide) (fun h193 => ?_) (fun h193 => ?_)
                · refine w_iconst (v := 3) (pc := 200) dX6_begin_200 rfl ?_
                  refine w_iconst (v := 0) (pc := 201) dX6_begin_201 rfl ?_
                  refine w_callV2 (n' := 0) (pc := 202) (c_X6_put hG) cv_X6_131 (by first | assumption | exact ob rfl) hF hT (by omega) (by decide) (Nat.le_of_ble_eq_true rfl) dX6_begin_202 ?_
                  refine ⟨_, _, rfl, hF, (by rw [rs_sg]; exact vin hsg (by decide)), ?_⟩
                  rw [pt_eq (by exact hsg31)]
                  dsimp only [psh]
                  refine w_pop (pc := 205) dX6_begin_205 rfl ?_
                  refine w_aload_n (pc := 206) dX6_begin_206 rfl ?_
                  refine w_dup (pc := 207) dX6_begin_207 rfl ?_
                  refine w_getI (pc := 208) fl_X6_110 hF (by first | assumption | exact ob rfl) rfl dX6_begin_208 ?_
                  rw [rs_at]
                  refine w_iconst (v := 2) (pc := 211) dX6_begin_211 rfl ?_
                  refine w_iadd (pc := 212) dX6_begin_212 ?_
                  refine w_putI (pc := 213) fp_X6_110 hF (by first | assumption | exact ob rfl) rfl dX6_begin_213 ?_
                  rw [show (2 : Int32) = nI 2 from rfl, nI_add, rs_s22]
                  refine w_iconst (v := 2) (pc := 216) dX6_begin_216 rfl ?_
                  refine w_ireturn (pc := 217) dX6_begin_217 rfl ?_
                  unfold bgS at hQ
                  rw [if_neg h13, if_neg h109, if_neg h9, if_neg h140, if_pos ⟨hc, h186⟩] at hQ
                  first | (rw [if_neg h193] at hQ; exact hQ) | (rw [if_pos h193] at hQ; exact hQ)
                · refine w_iconst (v := 2) (pc := 196) dX6_begin_196 rfl ?_
                  refine w_goto 201 (pc := 197) dX6_begin_197 (by decide) ?_
                  refine w_iconst (v := 0) (pc := 201) dX6_begin_201 rfl ?_
                  refine w_callV2 (n' := 0) (pc := 202) (c_X6_put hG) cv_X6_131 (by first | assumption | exact ob rfl) hF hT (by omega) (by decide) (Nat.le_of_ble_eq_true rfl) dX6_begin_202 ?_
                  refine ⟨_, _, rfl, hF, (by rw [rs_sg]; exact vin hsg (by decide)), ?_⟩
                  rw [pt_eq (by exact hsg31)]
                  dsimp only [psh]
                  refine w_pop (pc := 205) dX6_begin_205 rfl ?_
                  refine w_aload_n (pc := 206) dX6_begin_206 rfl ?_
                  refine w_dup (pc := 207) dX6_begin_207 rfl ?_
                  refine w_getI (pc := 208) fl_X6_110 hF (by first | assumption | exact ob rfl) rfl dX6_begin_208 ?_
                  rw [rs_at]
                  refine w_iconst (v := 2) (pc := 211) dX6_begin_211 rfl ?_
                  refine w_iadd (pc := 212) dX6_begin_212 ?_
                  refine w_putI (pc := 213) fp_X6_110 hF (by first | assumption | exact ob rfl) rfl dX6_begin_213 ?_
                  rw [show (2 : Int32) = nI 2 from rfl, nI_add, rs_s22]
                  refine w_iconst (v := 2) (pc := 216) dX6_begin_216 rfl ?_
                  refine w_ireturn (pc := 217) dX6_begin_217 rfl ?_
                  unfold bgS at hQ
                  rw [if_neg h13, if_neg h109, if_neg h9, if_neg h140, if_pos ⟨hc, h186⟩] at hQ
                  first | (rw [if_neg h193] at hQ; exact hQ) | (rw [if_pos h193] at hQ; exact hQ)
        · refine w_aload_n (pc := 143) dX6_begin_143 rfl ?_
          refine w_iconst (v := 1) (pc := 144) dX6_begin_144 rfl ?_
          refine w_iconst (v := 0) (pc := 145) dX6_begin_145 rfl ?_
          refine w_callV2 (n' := 0) (pc := 146) (c_X6_put hG) cv_X6_131 (by first | assumption | exact ob rfl) hF hT (by omega) (by decide) (Nat.le_of_ble_eq_true rfl) dX6_begin_146 ?_
          refine ⟨_, _, rfl, hF, (by rw [rs_sg]; exact vin hsg (by decide)), ?_⟩
          rw [pt_eq (by exact hsg31)]
          dsimp only [psh]
          refine w_pop (pc := 149) dX6_begin_149 rfl ?_
          refine w_aload_n (pc := 150) dX6_begin_150 rfl ?_
          refine w_dup (pc := 151) dX6_begin_151 rfl ?_
          refine w_getI (pc := 152) fl_X6_110 hF (by first | assumption | exact ob rfl) rfl dX6_begin_152 ?_
          rw [rs_at]
          refine w_iconst (v := 1) (pc := 155) dX6_begin_155 rfl ?_
          refine w_iadd (pc := 156) dX6_begin_156 ?_
          refine w_putI (pc := 157) fp_X6_110 hF (by first | assumption | exact ob rfl) rfl dX6_begin_157 ?_
          rw [nI_1, rs_s22]
          refine w_iconst (v := 2) (pc := 160) dX6_begin_160 rfl ?_
          refine w_ireturn (pc := 161) dX6_begin_161 rfl ?_
          unfold bgS at hQ
          rw [if_neg h13, if_neg h109, if_neg h9, if_pos h140] at hQ
          exact hQ
      · have h9 : dpN s.2.2.1 s.2.1 = 4 := by have := dpN_le s.2.2.1 s.2.1; rw [show (4 : Int32) = nI 4 from rfl, nI_eq (by omega) (by omega)] at h132; exact h132
        refine w_iconst (v := 0) (pc := 135) dX6_begin_135 rfl ?_
        refine w_ireturn (pc := 136) dX6_begin_136 rfl ?_
        unfold bgS at hQ
        rw [if_neg h13, if_neg h109, if_pos h9] at hQ
        exact hQ
    · rw [bi_1] at h109
      refine w_aload_n (pc := 112) dX6_begin_112 rfl ?_
      refine w_bipush (v := 6) (pc := 113) dX6_begin_113 rfl ?_
      refine w_callV1 (n' := 0) (pc := 115) (c_X6_number hG) cv_X6_124 (by first | assumption | exact ob rfl) hF hT (by omega) (by decide) (Nat.le_of_ble_eq_true rfl) dX6_begin_115 ?_
      refine ⟨M, len, s, 6, rfl, rfl, ⟨hF, el, h40⟩, (by omega), (by decide), ?_⟩
      dsimp only [psh]
      refine w_istore_n 2 (pc := 118) rfl dX6_begin_118 (by decide) ?_
      refine w_aload_n (pc := 119) dX6_begin_119 rfl ?_
      refine w_iconst (v := 0) (pc := 120) dX6_begin_120 rfl ?_
      refine w_iload_n (pc := 121) dX6_begin_121 rfl ?_
      refine w_callV2 (n' := 0) (pc := 122) (c_X6_make hG) cv_X6_117 (by first | assumption | exact ob rfl) hF hT (by omega) (by decide) (Nat.le_of_ble_eq_true rfl) dX6_begin_122 ?_
      refine ⟨_, _, rfl, hF, (by rw [rs_ma]; exact vin hma (by decide)), ?_⟩
      rw [mk_eq (by exact hma31)]
      dsimp only [psh]
      refine w_iconst (v := 1) (pc := 125) dX6_begin_125 rfl ?_
      refine w_ireturn (pc := 126) dX6_begin_126 rfl ?_
      unfold bgS at hQ
      rw [if_neg h13, if_pos h109] at hQ
      exact hQ
  · rw [bi_1] at h13
    refine w_aload_n (pc := 16) dX6_begin_16 rfl ?_
    refine w_aload_n (pc := 17) dX6_begin_17 rfl ?_
    refine w_getI (pc := 18) fl_X6_110 hF (by first | assumption | exact ob rfl) rfl dX6_begin_18 ?_
    rw [rs_at]
    refine w_iconst (v := 1) (pc := 21) dX6_begin_21 rfl ?_
    refine w_iadd (pc := 22) dX6_begin_22 ?_
    refine w_callV1 (n' := 0) (pc := 23) (c_X6_look hG) cv_X6_113 (by first | assumption | exact ob rfl) hF hT (by omega) (by decide) (Nat.le_of_ble_eq_true rfl) dX6_begin_23 ?_
    refine ⟨nI (s.1 + 1), (by first | rfl | rw [nI_1] | (rw [show (2 : Int32) = nI 2 from rfl, nI_add])), hF, (fun q => by rw [rs_len, el, nI_leI (by omega) (by omega)] at q; exact vin (by omega) (by decide)), ?_⟩
    rw [lk_eq el (by omega) (by omega)]
    dsimp only [psh]
    refine w_bipush (v := 39) (pc := 26) dX6_begin_26 rfl ?_
    refine w_icmp_ne 35 (pc := 28) dX6_begin_28 (by decide) (fun h28 => ?_) (fun h28 => ?_)
    · refine w_iconst (v := 0) (pc := 35) dX6_begin_35 rfl ?_
      first | exact w_lk (tT h13 h28) (lkc rfl (lkc rfl lkn)) | exact w_lk (tF h13 h28) (lkc rfl (lkc rfl lkn))
    · refine w_iconst (v := 1) (pc := 31) dX6_begin_31 rfl ?_
      refine w_goto 36 (pc := 32) dX6_begin_32 (by decide) ?_
      first | exact w_lk (tT h13 h28) (lkc rfl (lkc rfl lkn)) | exact w_lk (tF h13 h28) (lkc rfl (lkc rfl lkn))
/-- what a sign will still cost: a step of the code *-/
def wtV (x : Int32) : Nat := if x = 9 ∨ x = 10 then 0 else 1
def wtN (f : Nat → Int32) : Nat → Nat
  | 0 => 0
  | k + 1 => wtN f k + wtV (f k)
def stS : Nat → RS → RS
  | 0, s => s
  | n + 1, s => if tpS s = 11 ∨ tpS s = 12 then stS n (mkS (popS s) (if tpS s = 11 then 7 else 8) 0) else s
theorem wt_pop {s : RS} (h : tpS s = 11 ∨ tpS s = 12) : 0 < s.2.1 ∧ wtN s.2.2.1 s.2.1 = wtN s.2.2.1 (s.2.1 - 1) + 1 := by
  unfold tpS at h
  by_cases q : s.2.1 = 0
  · rw [if_pos q] at h
    rcases h with h | h <;> exact absurd h (by decide)
  · rw [if_neg q] at h
    obtain ⟨k, hk⟩ : ∃ k, s.2.1 = k + 1 := ⟨s.2.1 - 1, by omega⟩
    rw [hk] at h ⊢
    refine ⟨by omega, ?_⟩
    show wtN s.2.2.1 k + wtV (s.2.2.1 k) = wtN s.2.2.1 k + 1
    have h2 : s.2.2.1 k = 11 ∨ s.2.2.1 k = 12 := h
    have : wtV (s.2.2.1 k) = 1 := by rcases h2 with z | z <;> rw [z] <;> rfl
    rw [this]
def T_settle : PT := fun as M' Q X => ∃ (M : Mem) (len : Nat) (s : RS), as = [.ref 96] ∧ M' = rS M s ∧ RdOk M len ∧ s.2.1 < 48 ∧ s.2.2.2.2.1 + wtN s.2.2.1 s.2.1 ≤ 47 ∧ Q (none) (rS M (stS s.2.1 s))
theorem c_X6_settle {l : Launch} (hl : l.stackTraces = false) : Con l yX6_settle wX6_settle 0 2 (T_settle) := by
  refine con_of hl (by decide) ?_ ?_
  · intro as M Q X hpt
    obtain ⟨M, len, s, rfl, rfl, ⟨hF, el, h40⟩, hsg, hma, hQ⟩ := hpt
    exact Nat.le_of_ble_eq_true rfl
  intro G as M Q X hl' hT hd hpt
  obtain ⟨M, len, s, rfl, rfl, ⟨hF, el, h40⟩, hsg, hma, hQ⟩ := hpt
  have hG : (gl G).stackTraces = false := by rw [hl']; exact hl
  show PW G RX6 cX6_settle 1 none Q X 0 0 [(0, .ref 96)] [] (rS M s)
  have loop : ∀ (n : Nat) (s : RS), s.2.1 = n → s.2.1 < 48 → s.2.2.2.2.1 + wtN s.2.2.1 s.2.1 ≤ 47 → Q none (rS M (stS n s)) → PW G RX6 cX6_settle 1 none Q X 0 0 [(0, .ref 96)] [] (rS M s) := by
    intro n
    induction n with
    | zero =>
      intro s hk hsg hma hq
      refine w_aload_n (pc := 0) dX6_settle_0 rfl ?_
      refine w_callV0 (n' := 0) (pc := 1) (c_X6_top hG) cv_X6_141 (by first | assumption | exact ob rfl) hF hT (by omega) (by decide) (Nat.le_of_ble_eq_true rfl) dX6_settle_1 ?_
      refine ⟨rfl, hF, (fun q => by have hp : 0 < s.2.1 := Nat.pos_of_ne_zero (fun z => q (by rw [rs_sg, z]; exact Int32.le_refl _)); rw [rs_sg, sb1 hp]; exact vin (by omega) (by decide)), ?_⟩
      rw [tp_eq (by omega)]
      dsimp only [psh]
      refine w_bipush (v := 11) (pc := 4) dX6_settle_4 rfl ?_
      refine w_icmp_eq 18 (pc := 6) dX6_settle_6 (by decide) (fun h6 => ?_) (fun h6 => ?_)
      · exact absurd h6 (by unfold tpS; rw [if_pos hk]; decide)
      · refine w_aload_n (pc := 9) dX6_settle_9 rfl ?_
        refine w_callV0 (n' := 0) (pc := 10) (c_X6_top hG) cv_X6_141 (by first | assumption | exact ob rfl) hF hT (by omega) (by decide) (Nat.le_of_ble_eq_true rfl) dX6_settle_10 ?_
        refine ⟨rfl, hF, (fun q => by have hp : 0 < s.2.1 := Nat.pos_of_ne_zero (fun z => q (by rw [rs_sg, z]; exact Int32.le_refl _)); rw [rs_sg, sb1 hp]; exact vin (by omega) (by decide)), ?_⟩
        rw [tp_eq (by omega)]
        dsimp only [psh]
        refine w_bipush (v := 12) (pc := 13) dX6_settle_13 rfl ?_
        refine w_icmp_ne 57 (pc := 15) dX6_settle_15 (by decide) (fun h15 => ?_) (fun h15 => ?_)
        · refine w_return (pc := 57) dX6_settle_57 ?_
          exact hq
        · exact absurd h15 (by unfold tpS; rw [if_pos hk]; decide)
    | succ n ih =>
      intro s hk hsg hma hq
      have t18 : tpS s = 11 ∨ tpS s = 12 → PW G RX6 cX6_settle 1 none Q X 0 18 [(0, .ref 96)] [] (rS M s) := by
        intro h
        obtain ⟨hp, hw⟩ := wt_pop h
        refine w_aload_n (pc := 18) dX6_settle_18 rfl ?_
        refine w_dup (pc := 19) dX6_settle_19 rfl ?_
        refine w_getI (pc := 20) fl_X6_107 hF (by first | assumption | exact ob rfl) rfl dX6_settle_20 ?_
        rw [rs_sg]
        refine w_iconst (v := 1) (pc := 23) dX6_settle_23 rfl ?_
        refine w_isub (pc := 24) dX6_settle_24 ?_
        refine w_putI (pc := 25) fp_X6_107 hF (by first | assumption | exact ob rfl) rfl dX6_settle_25 ?_
        rw [sb1 (by omega), rs_s23, show (s.1, s.2.1 - 1, s.2.2.1, s.2.2.2.1, s.2.2.2.2.1, s.2.2.2.2.2.1, s.2.2.2.2.2.2.1, s.2.2.2.2.2.2.2) = popS s from rfl]
        refine w_aload_n (pc := 28) dX6_settle_28 rfl ?_
        refine w_aload_n (pc := 29) dX6_settle_29 rfl ?_
        refine w_getR (b := 115) (pc := 30) fl_X6_70 hF (by first | assumption | exact ob rfl) rfl rfl dX6_settle_30 ?_
        refine w_aload_n (pc := 33) dX6_settle_33 rfl ?_
        refine w_getI (pc := 34) fl_X6_107 hF (by first | assumption | exact ob rfl) rfl dX6_settle_34 ?_
        rw [rs_sg, show (popS s).2.1 = s.2.1 - 1 from rfl]
        refine w_iald (m := 48) (pc := 37) hF (by first | assumption | exact ar rfl) (vin (by omega) (by decide)) dX6_settle_37 ?_
        rw [rs_si, clN (by omega), show (popS s).2.2.1 (s.2.1 - 1) = tpS s from (by unfold tpS; rw [if_neg (by omega)]; rfl)]
        refine w_bipush (v := 11) (pc := 38) dX6_settle_38 rfl ?_
        refine w_icmp_ne 48 (pc := 40) dX6_settle_40 (by decide) (fun h40 => ?_) (fun h40 => ?_)
        · have e9 : (if tpS s = 11 then (7 : Int32) else 8) = 8 := if_neg h40
          rw [stS, if_pos h, e9] at hq
          refine w_bipush (v := 8) (pc := 48) dX6_settle_48 rfl ?_
          refine w_iconst (v := 0) (pc := 50) dX6_settle_50 rfl ?_
          refine w_callV2 (n' := 0) (pc := 51) (c_X6_make hG) cv_X6_117 (by first | assumption | exact ob rfl) hF hT (by omega) (by decide) (Nat.le_of_ble_eq_true rfl) dX6_settle_51 ?_
          refine ⟨_, _, rfl, hF, (by rw [rs_ma]; exact vin (show s.2.2.2.2.1 < 48 by omega) (by decide)), ?_⟩
          rw [mk_eq (by show s.2.2.2.2.1 < 2 ^ 31; omega)]
          dsimp only [psh]
          refine w_goto 0 (pc := 54) dX6_settle_54 (by decide) ?_
          exact w_lk (ih _ (by show s.2.1 - 1 = n; omega) (by show s.2.1 - 1 < 48; omega) (by show s.2.2.2.2.1 + 1 + wtN s.2.2.1 (s.2.1 - 1) ≤ 47; omega) hq) (lkc rfl lkn)
        · have e9 : (if tpS s = 11 then (7 : Int32) else 8) = 7 := if_pos h40
          rw [stS, if_pos h, e9] at hq
          refine w_bipush (v := 7) (pc := 43) dX6_settle_43 rfl ?_
          refine w_goto 50 (pc := 45) dX6_settle_45 (by decide) ?_
          refine w_iconst (v := 0) (pc := 50) dX6_settle_50 rfl ?_
          refine w_callV2 (n' := 0) (pc := 51) (c_X6_make hG) cv_X6_117 (by first | assumption | exact ob rfl) hF hT (by omega) (by decide) (Nat.le_of_ble_eq_true rfl) dX6_settle_51 ?_
          refine ⟨_, _, rfl, hF, (by rw [rs_ma]; exact vin (show s.2.2.2.2.1 < 48 by omega) (by decide)), ?_⟩
          rw [mk_eq (by show s.2.2.2.2.1 < 2 ^ 31; omega)]
          dsimp only [psh]
          refine w_goto 0 (pc := 54) dX6_settle_54 (by decide) ?_
          exact w_lk (ih _ (by show s.2.1 - 1 = n; omega) (by show s.2.1 - 1 < 48; omega) (by show s.2.2.2.2.1 + 1 + wtN s.2.2.1 (s.2.1 - 1) ≤ 47; omega) hq) (lkc rfl lkn)
      refine w_aload_n (pc := 0) dX6_settle_0 rfl ?_
      refine w_callV0 (n' := 0) (pc := 1) (c_X6_top hG) cv_X6_141 (by first | assumption | exact ob rfl) hF hT (by omega) (by decide) (Nat.le_of_ble_eq_true rfl) dX6_settle_1 ?_
      refine ⟨rfl, hF, (fun q => by have hp : 0 < s.2.1 := Nat.pos_of_ne_zero (fun z => q (by rw [rs_sg, z]; exact Int32.le_refl _)); rw [rs_sg, sb1 hp]; exact vin (by omega) (by decide)), ?_⟩
      rw [tp_eq (by omega)]
      dsimp only [psh]
      refine w_bipush (v := 11) (pc := 4) dX6_settle_4 rfl ?_
      refine w_icmp_eq 18 (pc := 6) dX6_settle_6 (by decide) (fun h6 => ?_) (fun h6 => ?_)
      · exact w_lk (t18 (by first | exact Or.inl h6 | exact Or.inr h15)) (lkc rfl lkn)
      · refine w_aload_n (pc := 9) dX6_settle_9 rfl ?_
        refine w_callV0 (n' := 0) (pc := 10) (c_X6_top hG) cv_X6_141 (by first | assumption | exact ob rfl) hF hT (by omega) (by decide) (Nat.le_of_ble_eq_true rfl) dX6_settle_10 ?_
        refine ⟨rfl, hF, (fun q => by have hp : 0 < s.2.1 := Nat.pos_of_ne_zero (fun z => q (by rw [rs_sg, z]; exact Int32.le_refl _)); rw [rs_sg, sb1 hp]; exact vin (by omega) (by decide)), ?_⟩
        rw [tp_eq (by omega)]
        dsimp only [psh]
        refine w_bipush (v := 12) (pc := 13) dX6_settle_13 rfl ?_
        refine w_icmp_ne 57 (pc := 15) dX6_settle_15 (by decide) (fun h15 => ?_) (fun h15 => ?_)
        · rw [stS, if_neg (by rintro (z | z); exact h6 z; exact h15 z)] at hq
          refine w_return (pc := 57) dX6_settle_57 ?_
          exact hq
        · exact w_lk (t18 (by first | exact Or.inl h6 | exact Or.inr h15)) (lkc rfl lkn)
  exact loop s.2.1 s rfl hsg hma hQ
