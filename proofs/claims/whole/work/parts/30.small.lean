/-! SMALL METHODS -/
def ush (x y : Int32) : Int32 := (x.toUInt32 >>> (y.toUInt32 &&& Int32.toUInt32 31)).toInt32
def bitC1 (x : Int32) : Int32 := x - (ush x 1 &&& 1431655765)
def bitC2 (x : Int32) : Int32 := (x &&& 858993459) + (ush x 2 &&& 858993459)
def bitC3 (x : Int32) : Int32 := (x + ush x 4) &&& 252645135
def bitC4 (x : Int32) : Int32 := x + ush x 8
def bitC5 (x : Int32) : Int32 := x + ush x 16
def bitC (x : Int32) : Int32 := bitC5 (bitC4 (bitC3 (bitC2 (bitC1 x)))) &&& 63
def T_bitCount : PT := fun as M Q X => ∃ x : Int32, as = [.int x] ∧ Q (some (.int (bitC x))) M
theorem c_J6_bitCount_0f7a4 {l : Launch} (hl : l.stackTraces = false) : Con l yJ6_bitCount_0f7a4 wJ6_bitCount_0f7a4 0 1 (T_bitCount) := by
  refine con_of hl (by decide) ?_ ?_
  · intro as M Q X hpt
    obtain ⟨x, rfl, hQ⟩ := hpt
    exact Nat.le_of_ble_eq_true rfl
  intro G as M Q X hl' hT hd hpt
  obtain ⟨x, rfl, hQ⟩ := hpt
  have hG : (gl G).stackTraces = false := by rw [hl']; exact hl
  show PW G RJ6 cJ6_bitCount_0f7a4 1 (some .int) Q X 0 0 [(0, .int x)] [] M
  refine w_iload_n (pc := 0) dJ6_bitCount_0f7a4_0 rfl ?_
  refine w_iload_n (pc := 1) dJ6_bitCount_0f7a4_1 rfl ?_
  refine w_iconst (v := 1) (pc := 2) dJ6_bitCount_0f7a4_2 rfl ?_
  refine w_iushr (pc := 3) dJ6_bitCount_0f7a4_3 ?_
  refine w_ldcw (pc := 4) ki_J6_265 dJ6_bitCount_0f7a4_4 ?_
  refine w_iand (pc := 7) dJ6_bitCount_0f7a4_7 ?_
  refine w_isub (pc := 8) dJ6_bitCount_0f7a4_8 ?_
  refine w_istore_n 0 (pc := 9) rfl dJ6_bitCount_0f7a4_9 (by decide) ?_
  refine w_iload_n (pc := 10) dJ6_bitCount_0f7a4_10 rfl ?_
  refine w_ldcw (pc := 11) ki_J6_266 dJ6_bitCount_0f7a4_11 ?_
  refine w_iand (pc := 14) dJ6_bitCount_0f7a4_14 ?_
  refine w_iload_n (pc := 15) dJ6_bitCount_0f7a4_15 rfl ?_
  refine w_iconst (v := 2) (pc := 16) dJ6_bitCount_0f7a4_16 rfl ?_
  refine w_iushr (pc := 17) dJ6_bitCount_0f7a4_17 ?_
  refine w_ldcw (pc := 18) ki_J6_266 dJ6_bitCount_0f7a4_18 ?_
  refine w_iand (pc := 21) dJ6_bitCount_0f7a4_21 ?_
  refine w_iadd (pc := 22) dJ6_bitCount_0f7a4_22 ?_
  refine w_istore_n 0 (pc := 23) rfl dJ6_bitCount_0f7a4_23 (by decide) ?_
  refine w_iload_n (pc := 24) dJ6_bitCount_0f7a4_24 rfl ?_
  refine w_iload_n (pc := 25) dJ6_bitCount_0f7a4_25 rfl ?_
  refine w_iconst (v := 4) (pc := 26) dJ6_bitCount_0f7a4_26 rfl ?_
  refine w_iushr (pc := 27) dJ6_bitCount_0f7a4_27 ?_
  refine w_iadd (pc := 28) dJ6_bitCount_0f7a4_28 ?_
  refine w_ldcw (pc := 29) ki_J6_267 dJ6_bitCount_0f7a4_29 ?_
  refine w_iand (pc := 32) dJ6_bitCount_0f7a4_32 ?_
  refine w_istore_n 0 (pc := 33) rfl dJ6_bitCount_0f7a4_33 (by decide) ?_
  refine w_iload_n (pc := 34) dJ6_bitCount_0f7a4_34 rfl ?_
  refine w_iload_n (pc := 35) dJ6_bitCount_0f7a4_35 rfl ?_
  refine w_bipush (v := 8) (pc := 36) dJ6_bitCount_0f7a4_36 rfl ?_
  refine w_iushr (pc := 38) dJ6_bitCount_0f7a4_38 ?_
  refine w_iadd (pc := 39) dJ6_bitCount_0f7a4_39 ?_
  refine w_istore_n 0 (pc := 40) rfl dJ6_bitCount_0f7a4_40 (by decide) ?_
  refine w_iload_n (pc := 41) dJ6_bitCount_0f7a4_41 rfl ?_
  refine w_iload_n (pc := 42) dJ6_bitCount_0f7a4_42 rfl ?_
  refine w_bipush (v := 16) (pc := 43) dJ6_bitCount_0f7a4_43 rfl ?_
  refine w_iushr (pc := 45) dJ6_bitCount_0f7a4_45 ?_
  refine w_iadd (pc := 46) dJ6_bitCount_0f7a4_46 ?_
  refine w_istore_n 0 (pc := 47) rfl dJ6_bitCount_0f7a4_47 (by decide) ?_
  refine w_iload_n (pc := 48) dJ6_bitCount_0f7a4_48 rfl ?_
  refine w_bipush (v := 63) (pc := 49) dJ6_bitCount_0f7a4_49 rfl ?_
  refine w_iand (pc := 51) dJ6_bitCount_0f7a4_51 ?_
  refine w_ireturn (pc := 52) dJ6_bitCount_0f7a4_52 rfl ?_
  exact hQ
def fdivL (x y : Int64) : Int64 := if 0 ≤ x ^^^ y then x / y else if x / y * y = x then x / y else x / y - 1
def fmodL (x y : Int64) : Int64 := if 0 ≤ x ^^^ y then x - x / y * y else if x - x / y * y = 0 then x - x / y * y else x - x / y * y + y
def minL (x y : Int64) : Int64 := if y < x then y else x
def maxL (x y : Int64) : Int64 := if x < y then y else x
def T_floorDiv : PT := fun as M Q X => ∃ x y : Int64, as = [.long x, .long y] ∧ ¬ y = 0 ∧ Q (some (.long (fdivL x y))) M
def T_floorMod : PT := fun as M Q X => ∃ x y : Int64, as = [.long x, .long y] ∧ ¬ y = 0 ∧ Q (some (.long (fmodL x y))) M
def T_minL : PT := fun as M Q X => ∃ x y : Int64, as = [.long x, .long y] ∧ Q (some (.long (minL x y))) M
def T_maxL : PT := fun as M Q X => ∃ x y : Int64, as = [.long x, .long y] ∧ Q (some (.long (maxL x y))) M
theorem c_J9_floorDiv_f86c9 {l : Launch} (hl : l.stackTraces = false) : Con l yJ9_floorDiv_f86c9 wJ9_floorDiv_f86c9 0 1 (T_floorDiv) := by
  refine con_ofF hl (by decide +kernel) (by intro as M Q X X2 h; exact h) ?_ ?_ tab_none
  · intro as M Q X hpt
    obtain ⟨x, y, rfl, hy, hQ⟩ := hpt
    exact Nat.le_of_ble_eq_true rfl
  intro G as M Q X hl' hT hd hpt
  obtain ⟨x, y, rfl, hy, hQ⟩ := hpt
  have hG : (gl G).stackTraces = false := by rw [hl']; exact hl
  show PW G RJ9 cJ9_floorDiv_f86c9 6 (some .long) Q X 0 0 [(0, .long x), (2, .long y)] [] M
  refine w_lload_n (pc := 0) dJ9_floorDiv_f86c9_0 rfl ?_
  refine w_lload_n (pc := 1) dJ9_floorDiv_f86c9_1 rfl ?_
  refine w_ldiv (pc := 2) dJ9_floorDiv_f86c9_2 hy ?_
  refine w_lstore 4 (pc := 3) dJ9_floorDiv_f86c9_3 (by decide) ?_
  refine w_lload_n (pc := 5) dJ9_floorDiv_f86c9_5 rfl ?_
  refine w_lload_n (pc := 6) dJ9_floorDiv_f86c9_6 rfl ?_
  refine w_lxor (pc := 7) dJ9_floorDiv_f86c9_7 ?_
  refine w_lconst (v := 0) (pc := 8) dJ9_floorDiv_f86c9_8 rfl ?_
  refine w_lcmp_ge 27 (pc := 9) dJ9_floorDiv_f86c9_9 dJ9_floorDiv_f86c9_10 (by decide) (fun h9 => ?_) (fun h9 => ?_)
  · refine w_lload (pc := 27) dJ9_floorDiv_f86c9_27 rfl ?_
    refine w_lreturn (pc := 29) dJ9_floorDiv_f86c9_29 ?_
    unfold fdivL at hQ
    (repeat (first | rw [if_pos (by assumption)] at hQ | rw [if_neg (by assumption)] at hQ))
    exact hQ
  · refine w_lload (pc := 13) dJ9_floorDiv_f86c9_13 rfl ?_
    refine w_lload_n (pc := 15) dJ9_floorDiv_f86c9_15 rfl ?_
    refine w_lmul (pc := 16) dJ9_floorDiv_f86c9_16 ?_
    refine w_lload_n (pc := 17) dJ9_floorDiv_f86c9_17 rfl ?_
    refine w_lcmp_eq 27 (pc := 18) dJ9_floorDiv_f86c9_18 dJ9_floorDiv_f86c9_19 (by decide) (fun h18 => ?_) (fun h18 => ?_)
    · refine w_lload (pc := 27) dJ9_floorDiv_f86c9_27 rfl ?_
      refine w_lreturn (pc := 29) dJ9_floorDiv_f86c9_29 ?_
      unfold fdivL at hQ
      (repeat (first | rw [if_pos (by assumption)] at hQ | rw [if_neg (by assumption)] at hQ))
      exact hQ
    · refine w_lload (pc := 22) dJ9_floorDiv_f86c9_22 rfl ?_
      refine w_lconst (v := 1) (pc := 24) dJ9_floorDiv_f86c9_24 rfl ?_
      refine w_lsub (pc := 25) dJ9_floorDiv_f86c9_25 ?_
      refine w_lreturn (pc := 26) dJ9_floorDiv_f86c9_26 ?_
      unfold fdivL at hQ
      (repeat (first | rw [if_pos (by assumption)] at hQ | rw [if_neg (by assumption)] at hQ))
      exact hQ
theorem c_J9_floorMod_f86c9 {l : Launch} (hl : l.stackTraces = false) : Con l yJ9_floorMod_f86c9 wJ9_floorMod_f86c9 0 1 (T_floorMod) := by
  refine con_ofF hl (by decide +kernel) (by intro as M Q X X2 h; exact h) ?_ ?_ tab_none
  · intro as M Q X hpt
    obtain ⟨x, y, rfl, hy, hQ⟩ := hpt
    exact Nat.le_of_ble_eq_true rfl
  intro G as M Q X hl' hT hd hpt
  obtain ⟨x, y, rfl, hy, hQ⟩ := hpt
  have hG : (gl G).stackTraces = false := by rw [hl']; exact hl
  show PW G RJ9 cJ9_floorMod_f86c9 6 (some .long) Q X 0 0 [(0, .long x), (2, .long y)] [] M
  refine w_lload_n (pc := 0) dJ9_floorMod_f86c9_0 rfl ?_
  refine w_lload_n (pc := 1) dJ9_floorMod_f86c9_1 rfl ?_
  refine w_lrem (pc := 2) dJ9_floorMod_f86c9_2 hy ?_
  refine w_lstore 4 (pc := 3) dJ9_floorMod_f86c9_3 (by decide) ?_
  refine w_lload_n (pc := 5) dJ9_floorMod_f86c9_5 rfl ?_
  refine w_lload_n (pc := 6) dJ9_floorMod_f86c9_6 rfl ?_
  refine w_lxor (pc := 7) dJ9_floorMod_f86c9_7 ?_
  refine w_lconst (v := 0) (pc := 8) dJ9_floorMod_f86c9_8 rfl ?_
  refine w_lcmp_ge 25 (pc := 9) dJ9_floorMod_f86c9_9 dJ9_floorMod_f86c9_10 (by decide) (fun h9 => ?_) (fun h9 => ?_)
  · refine w_lload (pc := 25) dJ9_floorMod_f86c9_25 rfl ?_
    refine w_lreturn (pc := 27) dJ9_floorMod_f86c9_27 ?_
    unfold fmodL at hQ
    (repeat (first | rw [if_pos (by assumption)] at hQ | rw [if_neg (by assumption)] at hQ))
    exact hQ
  · refine w_lload (pc := 13) dJ9_floorMod_f86c9_13 rfl ?_
    refine w_lconst (v := 0) (pc := 15) dJ9_floorMod_f86c9_15 rfl ?_
    refine w_lcmp_eq 25 (pc := 16) dJ9_floorMod_f86c9_16 dJ9_floorMod_f86c9_17 (by decide) (fun h16 => ?_) (fun h16 => ?_)
    · refine w_lload (pc := 25) dJ9_floorMod_f86c9_25 rfl ?_
      refine w_lreturn (pc := 27) dJ9_floorMod_f86c9_27 ?_
      unfold fmodL at hQ
      (repeat (first | rw [if_pos (by assumption)] at hQ | rw [if_neg (by assumption)] at hQ))
      exact hQ
    · refine w_lload (pc := 20) dJ9_floorMod_f86c9_20 rfl ?_
      refine w_lload_n (pc := 22) dJ9_floorMod_f86c9_22 rfl ?_
      refine w_ladd (pc := 23) dJ9_floorMod_f86c9_23 ?_
      refine w_lreturn (pc := 24) dJ9_floorMod_f86c9_24 ?_
      unfold fmodL at hQ
      (repeat (first | rw [if_pos (by assumption)] at hQ | rw [if_neg (by assumption)] at hQ))
      exact hQ
theorem c_J9_min_f86c9 {l : Launch} (hl : l.stackTraces = false) : Con l yJ9_min_f86c9 wJ9_min_f86c9 0 1 (T_minL) := by
  refine con_ofF hl (by decide +kernel) (by intro as M Q X X2 h; exact h) ?_ ?_ tab_none
  · intro as M Q X hpt
    obtain ⟨x, y, rfl, hQ⟩ := hpt
    exact Nat.le_of_ble_eq_true rfl
  intro G as M Q X hl' hT hd hpt
  obtain ⟨x, y, rfl, hQ⟩ := hpt
  have hG : (gl G).stackTraces = false := by rw [hl']; exact hl
  show PW G RJ9 cJ9_min_f86c9 4 (some .long) Q X 0 0 [(0, .long x), (2, .long y)] [] M
  refine w_lload_n (pc := 0) dJ9_min_f86c9_0 rfl ?_
  refine w_lload_n (pc := 1) dJ9_min_f86c9_1 rfl ?_
  refine w_lcmp_gt 10 (pc := 2) dJ9_min_f86c9_2 dJ9_min_f86c9_3 (by decide) (fun h2 => ?_) (fun h2 => ?_)
  · refine w_lload_n (pc := 10) dJ9_min_f86c9_10 rfl ?_
    refine w_lreturn (pc := 11) dJ9_min_f86c9_11 ?_
    simp only [minL, h2, if_true, if_false, decide_true, decide_false, Bool.or_false, Bool.or_true, Bool.and_true, Bool.and_false, Bool.true_or, Bool.true_and, Bool.false_and, Bool.false_or, not_true_eq_false, not_false_eq_true] at hQ
    exact hQ
  · refine w_lload_n (pc := 6) dJ9_min_f86c9_6 rfl ?_
    refine w_goto 11 (pc := 7) dJ9_min_f86c9_7 (by decide) ?_
    refine w_lreturn (pc := 11) dJ9_min_f86c9_11 ?_
    simp only [minL, h2, if_true, if_false, decide_true, decide_false, Bool.or_false, Bool.or_true, Bool.and_true, Bool.and_false, Bool.true_or, Bool.true_and, Bool.false_and, Bool.false_or, not_true_eq_false, not_false_eq_true] at hQ
    exact hQ
theorem c_J9_max_f86c9 {l : Launch} (hl : l.stackTraces = false) : Con l yJ9_max_f86c9 wJ9_max_f86c9 0 1 (T_maxL) := by
  refine con_ofF hl (by decide +kernel) (by intro as M Q X X2 h; exact h) ?_ ?_ tab_none
  · intro as M Q X hpt
    obtain ⟨x, y, rfl, hQ⟩ := hpt
    exact Nat.le_of_ble_eq_true rfl
  intro G as M Q X hl' hT hd hpt
  obtain ⟨x, y, rfl, hQ⟩ := hpt
  have hG : (gl G).stackTraces = false := by rw [hl']; exact hl
  show PW G RJ9 cJ9_max_f86c9 4 (some .long) Q X 0 0 [(0, .long x), (2, .long y)] [] M
  refine w_lload_n (pc := 0) dJ9_max_f86c9_0 rfl ?_
  refine w_lload_n (pc := 1) dJ9_max_f86c9_1 rfl ?_
  refine w_lcmp_lt 10 (pc := 2) dJ9_max_f86c9_2 dJ9_max_f86c9_3 (by decide) (fun h2 => ?_) (fun h2 => ?_)
  · refine w_lload_n (pc := 10) dJ9_max_f86c9_10 rfl ?_
    refine w_lreturn (pc := 11) dJ9_max_f86c9_11 ?_
    simp only [maxL, h2, if_true, if_false, decide_true, decide_false, Bool.or_false, Bool.or_true, Bool.and_true, Bool.and_false, Bool.true_or, Bool.true_and, Bool.false_and, Bool.false_or, not_true_eq_false, not_false_eq_true] at hQ
    exact hQ
  · refine w_lload_n (pc := 6) dJ9_max_f86c9_6 rfl ?_
    refine w_goto 11 (pc := 7) dJ9_max_f86c9_7 (by decide) ?_
    refine w_lreturn (pc := 11) dJ9_max_f86c9_11 ?_
    simp only [maxL, h2, if_true, if_false, decide_true, decide_false, Bool.or_false, Bool.or_true, Bool.and_true, Bool.and_false, Bool.true_or, Bool.true_and, Bool.false_and, Bool.false_or, not_true_eq_false, not_false_eq_true] at hQ
    exact hQ
def ctE (lo r h : Int64) : Bool := decide (h < r) || (decide (r = h) && decide (¬ lo &&& 1 = 0))
def T_carries : PT := fun as M Q X => ∃ lo r h : Int64, as = [.long lo, .long r, .long h] ∧ Q (some (.int (bi (ctE lo r h)))) M
theorem c_X5_carriesToEven {l : Launch} (hl : l.stackTraces = false) : Con l yX5_carriesToEven wX5_carriesToEven 0 1 (T_carries) := by
  refine con_of hl (by decide) ?_ ?_
  · intro as M Q X hpt
    obtain ⟨lo, r, h, rfl, hQ⟩ := hpt
    exact Nat.le_of_ble_eq_true rfl
  intro G as M Q X hl' hT hd hpt
  obtain ⟨lo, r, h, rfl, hQ⟩ := hpt
  have hG : (gl G).stackTraces = false := by rw [hl']; exact hl
  show PW G RX5 cX5_carriesToEven 6 (some .boolean) Q X 0 0 [(0, .long lo), (2, .long r), (4, .long h)] [] M
  refine w_lload_n (pc := 0) dX5_carriesToEven_0 rfl ?_
  refine w_lload (pc := 1) dX5_carriesToEven_1 rfl ?_
  refine w_lcmp_gt 22 (pc := 3) dX5_carriesToEven_3 dX5_carriesToEven_4 (by decide) (fun h3 => ?_) (fun h3 => ?_)
  · refine w_iconst (v := 1) (pc := 22) dX5_carriesToEven_22 rfl ?_
    refine w_goto 27 (pc := 23) dX5_carriesToEven_23 (by decide) ?_
    refine w_ireturn (pc := 27) dX5_carriesToEven_27 rfl ?_
    first | (have hb : ctE lo r h = true := (by simp [ctE, h3]); rw [hb] at hQ; exact hQ) | (have hb : ctE lo r h = false := (by simp [ctE, h3]); rw [hb] at hQ; exact hQ)
  · refine w_lload_n (pc := 7) dX5_carriesToEven_7 rfl ?_
    refine w_lload (pc := 8) dX5_carriesToEven_8 rfl ?_
    refine w_lcmp_ne 26 (pc := 10) dX5_carriesToEven_10 dX5_carriesToEven_11 (by decide) (fun h10 => ?_) (fun h10 => ?_)
    · refine w_iconst (v := 0) (pc := 26) dX5_carriesToEven_26 rfl ?_
      refine w_ireturn (pc := 27) dX5_carriesToEven_27 rfl ?_
      first | (have hb : ctE lo r h = true := (by simp [ctE, h3, h10]); rw [hb] at hQ; exact hQ) | (have hb : ctE lo r h = false := (by simp [ctE, h3, h10]); rw [hb] at hQ; exact hQ)
    · refine w_lload_n (pc := 14) dX5_carriesToEven_14 rfl ?_
      refine w_lconst (v := 1) (pc := 15) dX5_carriesToEven_15 rfl ?_
      refine w_land (pc := 16) dX5_carriesToEven_16 ?_
      refine w_lconst (v := 0) (pc := 17) dX5_carriesToEven_17 rfl ?_
      refine w_lcmp_eq 26 (pc := 18) dX5_carriesToEven_18 dX5_carriesToEven_19 (by decide) (fun h18 => ?_) (fun h18 => ?_)
      · refine w_iconst (v := 0) (pc := 26) dX5_carriesToEven_26 rfl ?_
        refine w_ireturn (pc := 27) dX5_carriesToEven_27 rfl ?_
        first | (have hb : ctE lo r h = true := (by simp [ctE, h3, h10, h18]); rw [hb] at hQ; exact hQ) | (have hb : ctE lo r h = false := (by simp [ctE, h3, h10, h18]); rw [hb] at hQ; exact hQ)
      · refine w_iconst (v := 1) (pc := 22) dX5_carriesToEven_22 rfl ?_
        refine w_goto 27 (pc := 23) dX5_carriesToEven_23 (by decide) ?_
        refine w_ireturn (pc := 27) dX5_carriesToEven_27 rfl ?_
        first | (have hb : ctE lo r h = true := (by simp [ctE, h3, h10, h18]); rw [hb] at hQ; exact hQ) | (have hb : ctE lo r h = false := (by simp [ctE, h3, h10, h18]); rw [hb] at hQ; exact hQ)
def T_textFull : PT := fun as M Q X => ∃ a, as = [.ref a] ∧ Full M ∧ OB 4 a ∧ Q (some (.int (bi (decide (40 ≤ mI M a 1))))) M
theorem c_X4_isFull {l : Launch} (hl : l.stackTraces = false) : Con l yX4_isFull wX4_isFull 0 1 (T_textFull) := by
  refine con_of hl (by decide) ?_ ?_
  · intro as M Q X hpt
    obtain ⟨a, rfl, hF, ho, hQ⟩ := hpt
    exact Nat.le_of_ble_eq_true rfl
  intro G as M Q X hl' hT hd hpt
  obtain ⟨a, rfl, hF, ho, hQ⟩ := hpt
  have hG : (gl G).stackTraces = false := by rw [hl']; exact hl
  show PW G RX4 cX4_isFull 1 (some .boolean) Q X 0 0 [(0, .ref a)] [] M
  refine w_aload_n (pc := 0) dX4_isFull_0 rfl ?_
  refine w_getI (pc := 1) fl_X4_15 hF (by first | assumption | exact ob rfl) rfl dX4_isFull_1 ?_
  refine w_bipush (v := 40) (pc := 4) dX4_isFull_4 rfl ?_
  refine w_icmp_lt 13 (pc := 6) dX4_isFull_6 (by decide) (fun h6 => ?_) (fun h6 => ?_)
  · refine w_iconst (v := 0) (pc := 13) dX4_isFull_13 rfl ?_
    refine w_ireturn (pc := 14) dX4_isFull_14 rfl ?_
    first | (rw [bi_f (Int32.not_le.mpr h6)] at hQ; exact hQ) | (rw [bi_t (Int32.not_lt.mp h6)] at hQ; exact hQ)
  · refine w_iconst (v := 1) (pc := 9) dX4_isFull_9 rfl ?_
    refine w_goto 14 (pc := 10) dX4_isFull_10 (by decide) ?_
    refine w_ireturn (pc := 14) dX4_isFull_14 rfl ?_
    first | (rw [bi_f (Int32.not_le.mpr h6)] at hQ; exact hQ) | (rw [bi_t (Int32.not_lt.mp h6)] at hQ; exact hQ)
def appT (M : Mem) (a : Nat) (c : Int32) : Mem := sI (sI M (a + 1) (mI M a 1).toNatClampNeg c) a 1 (mI (sI M (a + 1) (mI M a 1).toNatClampNeg c) a 1 + 1)
def T_textAppend : PT := fun as M Q X => ∃ (a : Nat) (c : Int32), as = [.ref a, .int c] ∧ Full M ∧ OB 4 a ∧ rf a 0 = a + 1 ∧ AR 0 40 (a + 1) ∧ vp_in (mI M a 1) 40 ∧ vp_nar .char c = c ∧ Q none (appT M a c)
theorem c_X4_append {l : Launch} (hl : l.stackTraces = false) : Con l yX4_append wX4_append 0 1 (T_textAppend) := by
  refine con_of hl (by decide) ?_ ?_
  · intro as M Q X hpt
    obtain ⟨a, c, rfl, hF, ho, hr, har, hin, hc, hQ⟩ := hpt
    exact Nat.le_of_ble_eq_true rfl
  intro G as M Q X hl' hT hd hpt
  obtain ⟨a, c, rfl, hF, ho, hr, har, hin, hc, hQ⟩ := hpt
  have hG : (gl G).stackTraces = false := by rw [hl']; exact hl
  show PW G RX4 cX4_append 2 none Q X 0 0 [(0, .ref a), (1, .int c)] [] M
  refine w_aload_n (pc := 0) dX4_append_0 rfl ?_
  refine w_getR (b := a + 1) (pc := 1) fl_X4_9 hF (by first | assumption | exact ob rfl) rfl (by first | assumption | exact rf_x (by omega)) dX4_append_1 ?_
  refine w_aload_n (pc := 4) dX4_append_4 rfl ?_
  refine w_getI (pc := 5) fl_X4_15 hF (by first | assumption | exact ob rfl) rfl dX4_append_5 ?_
  refine w_iload_n (pc := 8) dX4_append_8 rfl ?_
  refine w_cast (m := 40) (pc := 9) hF (by first | assumption | exact ar rfl) (by assumption) hc dX4_append_9 ?_
  refine w_aload_n (pc := 10) dX4_append_10 rfl ?_
  refine w_dup (pc := 11) dX4_append_11 rfl ?_
  refine w_getI (pc := 12) fl_X4_15 hF (by first | assumption | exact ob rfl) rfl dX4_append_12 ?_
  refine w_iconst (v := 1) (pc := 15) dX4_append_15 rfl ?_
  refine w_iadd (pc := 16) dX4_append_16 ?_
  refine w_putI (pc := 17) fp_X4_15 hF (by first | assumption | exact ob rfl) rfl dX4_append_17 ?_
  refine w_return (pc := 20) dX4_append_20 ?_
  exact hQ
def copT (M : Mem) (a b : Nat) : Mem := sI (rI M (a + 1) (va_cpy (mI M (b + 1)) (mI M (a + 1)) 0 0 (mI M b 1).toNatClampNeg)) a 1 (mI (rI M (a + 1) (va_cpy (mI M (b + 1)) (mI M (a + 1)) 0 0 (mI M b 1).toNatClampNeg)) b 1)
def T_textCopy : PT := fun as M Q X => ∃ (a b : Nat), as = [.ref a, .ref b] ∧ Full M ∧ (OB 4 a ∧ rf a 0 = a + 1 ∧ AR 0 40 (a + 1)) ∧ (OB 4 b ∧ rf b 0 = b + 1 ∧ AR 0 40 (b + 1)) ∧ ¬ mI M b 1 < 0 ∧ (mI M b 1).toNatClampNeg ≤ 40 ∧ (∀ i, i < (mI M b 1).toNatClampNeg → fits .char (.int (mI M (b + 1) i)) = true) ∧ Q none (copT M a b)
theorem c_X4_copy {l : Launch} (hl : l.stackTraces = false) : Con l yX4_copy wX4_copy 0 1 (T_textCopy) := by
  refine con_of hl (by decide) ?_ ?_
  · intro as M Q X hpt
    obtain ⟨a, b, rfl, hF, ⟨hoa, hra, hara⟩, ⟨hob, hrb, harb⟩, hn, hle, hfit, hQ⟩ := hpt
    exact Nat.le_of_ble_eq_true rfl
  intro G as M Q X hl' hT hd hpt
  obtain ⟨a, b, rfl, hF, ⟨hoa, hra, hara⟩, ⟨hob, hrb, harb⟩, hn, hle, hfit, hQ⟩ := hpt
  have hG : (gl G).stackTraces = false := by rw [hl']; exact hl
  show PW G RX4 cX4_copy 2 none Q X 0 0 [(0, .ref a), (1, .ref b)] [] M
  refine w_aload_n (pc := 0) dX4_copy_0 rfl ?_
  refine w_getR (b := b + 1) (pc := 1) fl_X4_9 hF (by first | assumption | exact ob rfl) rfl (by first | assumption | exact rf_x (by omega)) dX4_copy_1 ?_
  refine w_iconst (v := 0) (pc := 4) dX4_copy_4 rfl ?_
  refine w_aload_n (pc := 5) dX4_copy_5 rfl ?_
  refine w_getR (b := a + 1) (pc := 6) fl_X4_9 hF (by first | assumption | exact ob rfl) rfl (by first | assumption | exact rf_x (by omega)) dX4_copy_6 ?_
  refine w_iconst (v := 0) (pc := 9) dX4_copy_9 rfl ?_
  refine w_aload_n (pc := 10) dX4_copy_10 rfl ?_
  refine w_getI (pc := 11) fl_X4_15 hF (by first | assumption | exact ob rfl) rfl dX4_copy_11 ?_
  refine w_copyC (pc := 14) ac_X4_19 hF (by assumption) (by assumption) (by decide) (by decide) hn (by simpa using hle) (by simpa using hle) (by simpa using hfit) (by omega) (Nat.le_of_ble_eq_true rfl) dX4_copy_14 ?_
  refine w_aload_n (pc := 17) dX4_copy_17 rfl ?_
  refine w_aload_n (pc := 18) dX4_copy_18 rfl ?_
  refine w_getI (pc := 19) fl_X4_15 hF (by first | assumption | exact ob rfl) rfl dX4_copy_19 ?_
  refine w_putI (pc := 22) fp_X4_15 hF (by first | assumption | exact ob rfl) rfl dX4_copy_22 ?_
  refine w_return (pc := 25) dX4_copy_25 ?_
  exact hQ
def T_tabFull : PT := fun as M Q X => ∃ a, as = [.ref a] ∧ Full M ∧ OB 3 a ∧ Q (some (.int (bi (decide (4 ≤ mI M a 2))))) M
theorem c_X3_isFull {l : Launch} (hl : l.stackTraces = false) : Con l yX3_isFull wX3_isFull 0 1 (T_tabFull) := by
  refine con_of hl (by decide) ?_ ?_
  · intro as M Q X hpt
    obtain ⟨a, rfl, hF, ho, hQ⟩ := hpt
    exact Nat.le_of_ble_eq_true rfl
  intro G as M Q X hl' hT hd hpt
  obtain ⟨a, rfl, hF, ho, hQ⟩ := hpt
  have hG : (gl G).stackTraces = false := by rw [hl']; exact hl
  show PW G RX3 cX3_isFull 1 (some .boolean) Q X 0 0 [(0, .ref a)] [] M
  refine w_aload_n (pc := 0) dX3_isFull_0 rfl ?_
  refine w_getI (pc := 1) fl_X3_16 hF (by first | assumption | exact ob rfl) rfl dX3_isFull_1 ?_
  refine w_iconst (v := 4) (pc := 4) dX3_isFull_4 rfl ?_
  refine w_icmp_lt 12 (pc := 5) dX3_isFull_5 (by decide) (fun h5 => ?_) (fun h5 => ?_)
  · refine w_iconst (v := 0) (pc := 12) dX3_isFull_12 rfl ?_
    refine w_ireturn (pc := 13) dX3_isFull_13 rfl ?_
    first | (rw [bi_f (Int32.not_le.mpr h5)] at hQ; exact hQ) | (rw [bi_t (Int32.not_lt.mp h5)] at hQ; exact hQ)
  · refine w_iconst (v := 1) (pc := 8) dX3_isFull_8 rfl ?_
    refine w_goto 13 (pc := 9) dX3_isFull_9 (by decide) ?_
    refine w_ireturn (pc := 13) dX3_isFull_13 rfl ?_
    first | (rw [bi_f (Int32.not_le.mpr h5)] at hQ; exact hQ) | (rw [bi_t (Int32.not_lt.mp h5)] at hQ; exact hQ)
def alwB (M : Mem) (a : Nat) (x : Int32) : Bool := decide (¬ x < 0) && (decide (¬ 1000000000 < x) && (decide (mI M a 2 = 0) || decide (¬ x ≤ mI M (a + 1) (mI M a 2 - 1).toNatClampNeg)))
def T_allows : PT := fun as M Q X => ∃ (a : Nat) (x : Int32), as = [.ref a, .int x] ∧ Full M ∧ OB 3 a ∧ rf a 0 = a + 1 ∧ AR 1 4 (a + 1) ∧ (¬ mI M a 2 = 0 → vp_in (mI M a 2 - 1) 4) ∧ Q (some (.int (bi (alwB M a x)))) M
theorem c_X3_allowsBeginning {l : Launch} (hl : l.stackTraces = false) : Con l yX3_allowsBeginning wX3_allowsBeginning 0 1 (T_allows) := by
  refine con_of hl (by decide) ?_ ?_
  · intro as M Q X hpt
    obtain ⟨a, x, rfl, hF, ho, hr, har, hin, hQ⟩ := hpt
    exact Nat.le_of_ble_eq_true rfl
  intro G as M Q X hl' hT hd hpt
  obtain ⟨a, x, rfl, hF, ho, hr, har, hin, hQ⟩ := hpt
  have hG : (gl G).stackTraces = false := by rw [hl']; exact hl
  show PW G RX3 cX3_allowsBeginning 2 (some .boolean) Q X 0 0 [(0, .ref a), (1, .int x)] [] M
  refine w_iload_n (pc := 0) dX3_allowsBeginning_0 rfl ?_
  refine w_if_lt 36 (pc := 1) dX3_allowsBeginning_1 (by decide) (fun h1 => ?_) (fun h1 => ?_)
  · refine w_iconst (v := 0) (pc := 36) dX3_allowsBeginning_36 rfl ?_
    refine w_ireturn (pc := 37) dX3_allowsBeginning_37 rfl ?_
    simp only [alwB, bi, h1, if_true, if_false, decide_true, decide_false, Bool.or_false, Bool.or_true, Bool.and_true, Bool.and_false, Bool.true_or, Bool.true_and, Bool.false_and, Bool.false_or, not_true_eq_false, not_false_eq_true] at hQ
    exact hQ
  · refine w_iload_n (pc := 4) dX3_allowsBeginning_4 rfl ?_
    refine w_ldc (pc := 5) ki_X3_23 dX3_allowsBeginning_5 ?_
    refine w_icmp_gt 36 (pc := 7) dX3_allowsBeginning_7 (by decide) (fun h7 => ?_) (fun h7 => ?_)
    · refine w_iconst (v := 0) (pc := 36) dX3_allowsBeginning_36 rfl ?_
      refine w_ireturn (pc := 37) dX3_allowsBeginning_37 rfl ?_
      simp only [alwB, bi, h1, h7, if_true, if_false, decide_true, decide_false, Bool.or_false, Bool.or_true, Bool.and_true, Bool.and_false, Bool.true_or, Bool.true_and, Bool.false_and, Bool.false_or, not_true_eq_false, not_false_eq_true] at hQ
      exact hQ
    · refine w_aload_n (pc := 10) dX3_allowsBeginning_10 rfl ?_
      refine w_getI (pc := 11) fl_X3_16 hF (by first | assumption | exact ob rfl) rfl dX3_allowsBeginning_11 ?_
      refine w_if_eq 32 (pc := 14) dX3_allowsBeginning_14 (by decide) (fun h14 => ?_) (fun h14 => ?_)
      · refine w_iconst (v := 1) (pc := 32) dX3_allowsBeginning_32 rfl ?_
        refine w_goto 37 (pc := 33) dX3_allowsBeginning_33 (by decide) ?_
        refine w_ireturn (pc := 37) dX3_allowsBeginning_37 rfl ?_
        simp only [alwB, bi, h1, h7, h14, if_true, if_false, decide_true, decide_false, Bool.or_false, Bool.or_true, Bool.and_true, Bool.and_false, Bool.true_or, Bool.true_and, Bool.false_and, Bool.false_or, not_true_eq_false, not_false_eq_true] at hQ
        exact hQ
      · refine w_iload_n (pc := 17) dX3_allowsBeginning_17 rfl ?_
        refine w_aload_n (pc := 18) dX3_allowsBeginning_18 rfl ?_
        refine w_getR (b := a + 1) (pc := 19) fl_X3_9 hF (by first | assumption | exact ob rfl) rfl (by first | assumption | exact rf_x (by omega)) dX3_allowsBeginning_19 ?_
        refine w_aload_n (pc := 22) dX3_allowsBeginning_22 rfl ?_
        refine w_getI (pc := 23) fl_X3_16 hF (by first | assumption | exact ob rfl) rfl dX3_allowsBeginning_23 ?_
        refine w_iconst (v := 1) (pc := 26) dX3_allowsBeginning_26 rfl ?_
        refine w_isub (pc := 27) dX3_allowsBeginning_27 ?_
        refine w_iald (m := 4) (pc := 28) hF (by first | assumption | exact ar rfl) (hin h14) dX3_allowsBeginning_28 ?_
        refine w_icmp_le 36 (pc := 29) dX3_allowsBeginning_29 (by decide) (fun h29 => ?_) (fun h29 => ?_)
        · refine w_iconst (v := 0) (pc := 36) dX3_allowsBeginning_36 rfl ?_
          refine w_ireturn (pc := 37) dX3_allowsBeginning_37 rfl ?_
          simp only [alwB, bi, h1, h7, h14, h29, if_true, if_false, decide_true, decide_false, Bool.or_false, Bool.or_true, Bool.and_true, Bool.and_false, Bool.true_or, Bool.true_and, Bool.false_and, Bool.false_or, not_true_eq_false, not_false_eq_true] at hQ
          exact hQ
        · refine w_iconst (v := 1) (pc := 32) dX3_allowsBeginning_32 rfl ?_
          refine w_goto 37 (pc := 33) dX3_allowsBeginning_33 (by decide) ?_
          refine w_ireturn (pc := 37) dX3_allowsBeginning_37 rfl ?_
          simp only [alwB, bi, h1, h7, h14, h29, if_true, if_false, decide_true, decide_false, Bool.or_false, Bool.or_true, Bool.and_true, Bool.and_false, Bool.true_or, Bool.true_and, Bool.false_and, Bool.false_or, not_true_eq_false, not_false_eq_true] at hQ
          exact hQ
def appB (M : Mem) (a : Nat) (x r : Int32) : Mem := sI (sI (sI M (a + 1) (mI M a 2).toNatClampNeg x) (a + 2) (mI M a 2).toNatClampNeg r) a 2 (mI M a 2 + 1)
def T_tabAppend : PT := fun as M Q X => ∃ (a : Nat) (x r : Int32), as = [.ref a, .int x, .int r] ∧ Full M ∧ OB 3 a ∧ (rf a 0 = a + 1 ∧ rf a 1 = a + 2) ∧ (AR 1 4 (a + 1) ∧ AR 1 4 (a + 2)) ∧ vp_in (mI M a 2) 4 ∧ Q none (appB M a x r)
theorem c_X3_append {l : Launch} (hl : l.stackTraces = false) : Con l yX3_append wX3_append 0 1 (T_tabAppend) := by
  refine con_of hl (by decide) ?_ ?_
  · intro as M Q X hpt
    obtain ⟨a, x, r, rfl, hF, ho, ⟨hr0, hr1⟩, ⟨har0, har1⟩, hin, hQ⟩ := hpt
    exact Nat.le_of_ble_eq_true rfl
  intro G as M Q X hl' hT hd hpt
  obtain ⟨a, x, r, rfl, hF, ho, ⟨hr0, hr1⟩, ⟨har0, har1⟩, hin, hQ⟩ := hpt
  have hG : (gl G).stackTraces = false := by rw [hl']; exact hl
  show PW G RX3 cX3_append 3 none Q X 0 0 [(0, .ref a), (1, .int x), (2, .int r)] [] M
  refine w_aload_n (pc := 0) dX3_append_0 rfl ?_
  refine w_getR (b := a + 1) (pc := 1) fl_X3_9 hF (by first | assumption | exact ob rfl) rfl (by first | assumption | exact rf_x (by omega)) dX3_append_1 ?_
  refine w_aload_n (pc := 4) dX3_append_4 rfl ?_
  refine w_getI (pc := 5) fl_X3_16 hF (by first | assumption | exact ob rfl) rfl dX3_append_5 ?_
  refine w_iload_n (pc := 8) dX3_append_8 rfl ?_
  refine w_iast (m := 4) (pc := 9) hF (by first | assumption | exact ar rfl) (by assumption) dX3_append_9 ?_
  refine w_aload_n (pc := 10) dX3_append_10 rfl ?_
  refine w_getR (b := a + 2) (pc := 11) fl_X3_13 hF (by first | assumption | exact ob rfl) rfl (by first | assumption | exact rf_x (by omega)) dX3_append_11 ?_
  refine w_aload_n (pc := 14) dX3_append_14 rfl ?_
  refine w_getI (pc := 15) fl_X3_16 hF (by first | assumption | exact ob rfl) rfl dX3_append_15 ?_
  refine w_iload_n (pc := 18) dX3_append_18 rfl ?_
  refine w_iast (m := 4) (pc := 19) hF (by first | assumption | exact ar rfl) (by simp (disch := omega) only [mI_n]; exact hin) dX3_append_19 ?_
  refine w_aload_n (pc := 20) dX3_append_20 rfl ?_
  refine w_dup (pc := 21) dX3_append_21 rfl ?_
  refine w_getI (pc := 22) fl_X3_16 hF (by first | assumption | exact ob rfl) rfl dX3_append_22 ?_
  refine w_iconst (v := 1) (pc := 25) dX3_append_25 rfl ?_
  refine w_iadd (pc := 26) dX3_append_26 ?_
  refine w_putI (pc := 27) fp_X3_16 hF (by first | assumption | exact ob rfl) rfl dX3_append_27 ?_
  refine w_return (pc := 30) dX3_append_30 ?_
  simp (disch := omega) only [mI_n] at *
  exact hQ
def rndB (ro : Int32) (v : Int64) : Bool := (decide (ro = 1) && decide (500 ≤ v - v / 1000 * 1000)) || (decide (ro = 2) && ctE (v / 1000) (v - v / 1000 * 1000) 500)
def rndL (ro : Int32) (v : Int64) : Int64 := if rndB ro v = true then v / 1000 + 1 else v / 1000
def T_rounded : PT := fun as M Q X => ∃ (a : Nat) (v : Int64), as = [.ref a, .long v] ∧ Full M ∧ OB 3 a ∧ Q (some (.long (rndL (mI M a 3) v))) M
theorem c_X3_rounded {l : Launch} (hl : l.stackTraces = false) : Con l yX3_rounded wX3_rounded 0 3 (T_rounded) := by
  refine con_of hl (by decide) ?_ ?_
  · intro as M Q X hpt
    obtain ⟨a, v, rfl, hF, ho, hQ⟩ := hpt
    exact Nat.le_of_ble_eq_true rfl
  intro G as M Q X hl' hT hd hpt
  obtain ⟨a, v, rfl, hF, ho, hQ⟩ := hpt
  have hG : (gl G).stackTraces = false := by rw [hl']; exact hl
  show PW G RX3 cX3_rounded 8 (some .long) Q X 0 0 [(0, .ref a), (1, .long v)] [] M
  refine w_lload_n (pc := 0) dX3_rounded_0 rfl ?_
  refine w_ldc2 (pc := 1) kl_X3_34 dX3_rounded_1 ?_
  refine w_ldiv (pc := 4) dX3_rounded_4 (by decide) ?_
  refine w_lstore_n 3 (pc := 5) rfl dX3_rounded_5 (by decide) ?_
  refine w_lload_n (pc := 6) dX3_rounded_6 rfl ?_
  refine w_ldc2 (pc := 7) kl_X3_34 dX3_rounded_7 ?_
  refine w_lrem (pc := 10) dX3_rounded_10 (by decide) ?_
  refine w_lstore 5 (pc := 11) dX3_rounded_11 (by decide) ?_
  refine w_aload_n (pc := 13) dX3_rounded_13 rfl ?_
  refine w_getI (pc := 14) fl_X3_20 hF (by first | assumption | exact ob rfl) rfl dX3_rounded_14 ?_
  refine w_iconst (v := 1) (pc := 17) dX3_rounded_17 rfl ?_
  refine w_icmp_ne 30 (pc := 18) dX3_rounded_18 (by decide) (fun h18 => ?_) (fun h18 => ?_)
  · refine w_aload_n (pc := 30) dX3_rounded_30 rfl ?_
    refine w_getI (pc := 31) fl_X3_20 hF (by first | assumption | exact ob rfl) rfl dX3_rounded_31 ?_
    refine w_iconst (v := 2) (pc := 34) dX3_rounded_34 rfl ?_
    refine w_icmp_ne 54 (pc := 35) dX3_rounded_35 (by decide) (fun h35 => ?_) (fun h35 => ?_)
    · refine w_iconst (v := 0) (pc := 54) dX3_rounded_54 rfl ?_
      refine w_istore 7 (pc := 55) dX3_rounded_55 (by decide) ?_
      refine w_iload (pc := 57) dX3_rounded_57 rfl ?_
      refine w_if_eq 68 (pc := 59) dX3_rounded_59 (by decide) (fun h59 => ?_) (fun h59 => ?_)
      · refine w_lload_n (pc := 68) dX3_rounded_68 rfl ?_
        refine w_lreturn (pc := 69) dX3_rounded_69 ?_
        first | exact absurd rfl h59 | exact absurd h59 (by decide) | (have hb : rndB (mI M a 3) v = true := (by clear hQ; simp_all [rndB, bi_0, bi_1]); rw [rndL, if_pos hb] at hQ; exact hQ) | (have hb : rndB (mI M a 3) v = false := (by clear hQ; simp_all [rndB, bi_0, bi_1]); rw [rndL, hb] at hQ; exact hQ)
      · refine w_lload_n (pc := 62) dX3_rounded_62 rfl ?_
        refine w_lconst (v := 1) (pc := 63) dX3_rounded_63 rfl ?_
        refine w_ladd (pc := 64) dX3_rounded_64 ?_
        refine w_goto 69 (pc := 65) dX3_rounded_65 (by decide) ?_
        refine w_lreturn (pc := 69) dX3_rounded_69 ?_
        first | exact absurd rfl h59 | exact absurd h59 (by decide) | (have hb : rndB (mI M a 3) v = true := (by clear hQ; simp_all [rndB, bi_0, bi_1]); rw [rndL, if_pos hb] at hQ; exact hQ) | (have hb : rndB (mI M a 3) v = false := (by clear hQ; simp_all [rndB, bi_0, bi_1]); rw [rndL, hb] at hQ; exact hQ)
    · refine w_lload_n (pc := 38) dX3_rounded_38 rfl ?_
      refine w_lload (pc := 39) dX3_rounded_39 rfl ?_
      refine w_ldc2 (pc := 41) kl_X3_36 dX3_rounded_41 ?_
      refine w_callN3 (pc := 44) (c_X5_carriesToEven hG) cn_X3_38 hT (by omega) (Nat.le_of_ble_eq_true rfl) dX3_rounded_44 ?_
      refine ⟨_, _, _, rfl, ?_⟩
      dsimp only [psh]
      refine w_if_eq 54 (pc := 47) dX3_rounded_47 (by decide) (fun h47 => ?_) (fun h47 => ?_)
      · refine w_iconst (v := 0) (pc := 54) dX3_rounded_54 rfl ?_
        refine w_istore 7 (pc := 55) dX3_rounded_55 (by decide) ?_
        refine w_iload (pc := 57) dX3_rounded_57 rfl ?_
        refine w_if_eq 68 (pc := 59) dX3_rounded_59 (by decide) (fun h59 => ?_) (fun h59 => ?_)
        · refine w_lload_n (pc := 68) dX3_rounded_68 rfl ?_
          refine w_lreturn (pc := 69) dX3_rounded_69 ?_
          first | exact absurd rfl h59 | exact absurd h59 (by decide) | (have hb : rndB (mI M a 3) v = true := (by clear hQ; simp_all [rndB, bi_0, bi_1]); rw [rndL, if_pos hb] at hQ; exact hQ) | (have hb : rndB (mI M a 3) v = false := (by clear hQ; simp_all [rndB, bi_0, bi_1]); rw [rndL, hb] at hQ; exact hQ)
        · refine w_lload_n (pc := 62) dX3_rounded_62 rfl ?_
          refine w_lconst (v := 1) (pc := 63) dX3_rounded_63 rfl ?_
          refine w_ladd (pc := 64) dX3_rounded_64 ?_
          refine w_goto 69 (pc := 65) dX3_rounded_65 (by decide) ?_
          refine w_lreturn (pc := 69) dX3_rounded_69 ?_
          first | exact absurd rfl h59 | exact absurd h59 (by decide) | (have hb : rndB (mI M a 3) v = true := (by clear hQ; simp_all [rndB, bi_0, bi_1]); rw [rndL, if_pos hb] at hQ; exact hQ) | (have hb : rndB (mI M a 3) v = false := (by clear hQ; simp_all [rndB, bi_0, bi_1]); rw [rndL, hb] at hQ; exact hQ)
      · refine w_iconst (v := 1) (pc := 50) dX3_rounded_50 rfl ?_
        refine w_goto 55 (pc := 51) dX3_rounded_51 (by decide) ?_
        refine w_istore 7 (pc := 55) dX3_rounded_55 (by decide) ?_
        refine w_iload (pc := 57) dX3_rounded_57 rfl ?_
        refine w_if_eq 68 (pc := 59) dX3_rounded_59 (by decide) (fun h59 => ?_) (fun h59 => ?_)
        · refine w_lload_n (pc := 68) dX3_rounded_68 rfl ?_
          refine w_lreturn (pc := 69) dX3_rounded_69 ?_
          first | exact absurd rfl h59 | exact absurd h59 (by decide) | (have hb : rndB (mI M a 3) v = true := (by clear hQ; simp_all [rndB, bi_0, bi_1]); rw [rndL, if_pos hb] at hQ; exact hQ) | (have hb : rndB (mI M a 3) v = false := (by clear hQ; simp_all [rndB, bi_0, bi_1]); rw [rndL, hb] at hQ; exact hQ)
        · refine w_lload_n (pc := 62) dX3_rounded_62 rfl ?_
          refine w_lconst (v := 1) (pc := 63) dX3_rounded_63 rfl ?_
          refine w_ladd (pc := 64) dX3_rounded_64 ?_
          refine w_goto 69 (pc := 65) dX3_rounded_65 (by decide) ?_
          refine w_lreturn (pc := 69) dX3_rounded_69 ?_
          first | exact absurd rfl h59 | exact absurd h59 (by decide) | (have hb : rndB (mI M a 3) v = true := (by clear hQ; simp_all [rndB, bi_0, bi_1]); rw [rndL, if_pos hb] at hQ; exact hQ) | (have hb : rndB (mI M a 3) v = false := (by clear hQ; simp_all [rndB, bi_0, bi_1]); rw [rndL, hb] at hQ; exact hQ)
  · refine w_lload (pc := 21) dX3_rounded_21 rfl ?_
    refine w_ldc2 (pc := 23) kl_X3_36 dX3_rounded_23 ?_
    refine w_lcmp_ge 50 (pc := 26) dX3_rounded_26 dX3_rounded_27 (by decide) (fun h26 => ?_) (fun h26 => ?_)
    · refine w_iconst (v := 1) (pc := 50) dX3_rounded_50 rfl ?_
      refine w_goto 55 (pc := 51) dX3_rounded_51 (by decide) ?_
      refine w_istore 7 (pc := 55) dX3_rounded_55 (by decide) ?_
      refine w_iload (pc := 57) dX3_rounded_57 rfl ?_
      refine w_if_eq 68 (pc := 59) dX3_rounded_59 (by decide) (fun h59 => ?_) (fun h59 => ?_)
      · refine w_lload_n (pc := 68) dX3_rounded_68 rfl ?_
        refine w_lreturn (pc := 69) dX3_rounded_69 ?_
        first | exact absurd rfl h59 | exact absurd h59 (by decide) | (have hb : rndB (mI M a 3) v = true := (by clear hQ; simp_all [rndB, bi_0, bi_1]); rw [rndL, if_pos hb] at hQ; exact hQ) | (have hb : rndB (mI M a 3) v = false := (by clear hQ; simp_all [rndB, bi_0, bi_1]); rw [rndL, hb] at hQ; exact hQ)
      · refine w_lload_n (pc := 62) dX3_rounded_62 rfl ?_
        refine w_lconst (v := 1) (pc := 63) dX3_rounded_63 rfl ?_
        refine w_ladd (pc := 64) dX3_rounded_64 ?_
        refine w_goto 69 (pc := 65) dX3_rounded_65 (by decide) ?_
        refine w_lreturn (pc := 69) dX3_rounded_69 ?_
        first | exact absurd rfl h59 | exact absurd h59 (by decide) | (have hb : rndB (mI M a 3) v = true := (by clear hQ; simp_all [rndB, bi_0, bi_1]); rw [rndL, if_pos hb] at hQ; exact hQ) | (have hb : rndB (mI M a 3) v = false := (by clear hQ; simp_all [rndB, bi_0, bi_1]); rw [rndL, hb] at hQ; exact hQ)
    · refine w_aload_n (pc := 30) dX3_rounded_30 rfl ?_
      refine w_getI (pc := 31) fl_X3_20 hF (by first | assumption | exact ob rfl) rfl dX3_rounded_31 ?_
      refine w_iconst (v := 2) (pc := 34) dX3_rounded_34 rfl ?_
      refine w_icmp_ne 54 (pc := 35) dX3_rounded_35 (by decide) (fun h35 => ?_) (fun h35 => ?_)
      · refine w_iconst (v := 0) (pc := 54) dX3_rounded_54 rfl ?_
        refine w_istore 7 (pc := 55) dX3_rounded_55 (by decide) ?_
        refine w_iload (pc := 57) dX3_rounded_57 rfl ?_
        refine w_if_eq 68 (pc := 59) dX3_rounded_59 (by decide) (fun h59 => ?_) (fun h59 => ?_)
        · refine w_lload_n (pc := 68) dX3_rounded_68 rfl ?_
          refine w_lreturn (pc := 69) dX3_rounded_69 ?_
          first | exact absurd rfl h59 | exact absurd h59 (by decide) | (have hb : rndB (mI M a 3) v = true := (by clear hQ; simp_all [rndB, bi_0, bi_1]); rw [rndL, if_pos hb] at hQ; exact hQ) | (have hb : rndB (mI M a 3) v = false := (by clear hQ; simp_all [rndB, bi_0, bi_1]); rw [rndL, hb] at hQ; exact hQ)
        · refine w_lload_n (pc := 62) dX3_rounded_62 rfl ?_
          refine w_lconst (v := 1) (pc := 63) dX3_rounded_63 rfl ?_
          refine w_ladd (pc := 64) dX3_rounded_64 ?_
          refine w_goto 69 (pc := 65) dX3_rounded_65 (by decide) ?_
          refine w_lreturn (pc := 69) dX3_rounded_69 ?_
          first | exact absurd rfl h59 | exact absurd h59 (by decide) | (have hb : rndB (mI M a 3) v = true := (by clear hQ; simp_all [rndB, bi_0, bi_1]); rw [rndL, if_pos hb] at hQ; exact hQ) | (have hb : rndB (mI M a 3) v = false := (by clear hQ; simp_all [rndB, bi_0, bi_1]); rw [rndL, hb] at hQ; exact hQ)
      · refine w_lload_n (pc := 38) dX3_rounded_38 rfl ?_
        refine w_lload (pc := 39) dX3_rounded_39 rfl ?_
        refine w_ldc2 (pc := 41) kl_X3_36 dX3_rounded_41 ?_
        refine w_callN3 (pc := 44) (c_X5_carriesToEven hG) cn_X3_38 hT (by omega) (Nat.le_of_ble_eq_true rfl) dX3_rounded_44 ?_
        refine ⟨_, _, _, rfl, ?_⟩
        dsimp only [psh]
        refine w_if_eq 54 (pc := 47) dX3_rounded_47 (by decide) (fun h47 => ?_) (fun h47 => ?_)
        · refine w_iconst (v := 0) (pc := 54) dX3_rounded_54 rfl ?_
          refine w_istore 7 (pc := 55) dX3_rounded_55 (by decide) ?_
          refine w_iload (pc := 57) dX3_rounded_57 rfl ?_
          refine w_if_eq 68 (pc := 59) dX3_rounded_59 (by decide) (fun h59 => ?_) (fun h59 => ?_)
          · refine w_lload_n (pc := 68) dX3_rounded_68 rfl ?_
            refine w_lreturn (pc := 69) dX3_rounded_69 ?_
            first | exact absurd rfl h59 | exact absurd h59 (by decide) | (have hb : rndB (mI M a 3) v = true := (by clear hQ; simp_all [rndB, bi_0, bi_1]); rw [rndL, if_pos hb] at hQ; exact hQ) | (have hb : rndB (mI M a 3) v = false := (by clear hQ; simp_all [rndB, bi_0, bi_1]); rw [rndL, hb] at hQ; exact hQ)
          · refine w_lload_n (pc := 62) dX3_rounded_62 rfl ?_
            refine w_lconst (v := 1) (pc := 63) dX3_rounded_63 rfl ?_
            refine w_ladd (pc := 64) dX3_rounded_64 ?_
            refine w_goto 69 (pc := 65) dX3_rounded_65 (by decide) ?_
            refine w_lreturn (pc := 69) dX3_rounded_69 ?_
            first | exact absurd rfl h59 | exact absurd h59 (by decide) | (have hb : rndB (mI M a 3) v = true := (by clear hQ; simp_all [rndB, bi_0, bi_1]); rw [rndL, if_pos hb] at hQ; exact hQ) | (have hb : rndB (mI M a 3) v = false := (by clear hQ; simp_all [rndB, bi_0, bi_1]); rw [rndL, hb] at hQ; exact hQ)
        · refine w_iconst (v := 1) (pc := 50) dX3_rounded_50 rfl ?_
          refine w_goto 55 (pc := 51) dX3_rounded_51 (by decide) ?_
          refine w_istore 7 (pc := 55) dX3_rounded_55 (by decide) ?_
          refine w_iload (pc := 57) dX3_rounded_57 rfl ?_
          refine w_if_eq 68 (pc := 59) dX3_rounded_59 (by decide) (fun h59 => ?_) (fun h59 => ?_)
          · refine w_lload_n (pc := 68) dX3_rounded_68 rfl ?_
            refine w_lreturn (pc := 69) dX3_rounded_69 ?_
            first | exact absurd rfl h59 | exact absurd h59 (by decide) | (have hb : rndB (mI M a 3) v = true := (by clear hQ; simp_all [rndB, bi_0, bi_1]); rw [rndL, if_pos hb] at hQ; exact hQ) | (have hb : rndB (mI M a 3) v = false := (by clear hQ; simp_all [rndB, bi_0, bi_1]); rw [rndL, hb] at hQ; exact hQ)
          · refine w_lload_n (pc := 62) dX3_rounded_62 rfl ?_
            refine w_lconst (v := 1) (pc := 63) dX3_rounded_63 rfl ?_
            refine w_ladd (pc := 64) dX3_rounded_64 ?_
            refine w_goto 69 (pc := 65) dX3_rounded_65 (by decide) ?_
            refine w_lreturn (pc := 69) dX3_rounded_69 ?_
            first | exact absurd rfl h59 | exact absurd h59 (by decide) | (have hb : rndB (mI M a 3) v = true := (by clear hQ; simp_all [rndB, bi_0, bi_1]); rw [rndL, if_pos hb] at hQ; exact hQ) | (have hb : rndB (mI M a 3) v = false := (by clear hQ; simp_all [rndB, bi_0, bi_1]); rw [rndL, hb] at hQ; exact hQ)
def T_accFull : PT := fun as M Q X => ∃ a, as = [.ref a] ∧ Full M ∧ OB 0 a ∧ Q (some (.int (bi (decide (24 ≤ mI M a 3))))) M
theorem c_X0_isFull {l : Launch} (hl : l.stackTraces = false) : Con l yX0_isFull wX0_isFull 0 1 (T_accFull) := by
  refine con_of hl (by decide) ?_ ?_
  · intro as M Q X hpt
    obtain ⟨a, rfl, hF, ho, hQ⟩ := hpt
    exact Nat.le_of_ble_eq_true rfl
  intro G as M Q X hl' hT hd hpt
  obtain ⟨a, rfl, hF, ho, hQ⟩ := hpt
  have hG : (gl G).stackTraces = false := by rw [hl']; exact hl
  show PW G RX0 cX0_isFull 1 (some .boolean) Q X 0 0 [(0, .ref a)] [] M
  refine w_aload_n (pc := 0) dX0_isFull_0 rfl ?_
  refine w_getI (pc := 1) fl_X0_20 hF (by first | assumption | exact ob rfl) rfl dX0_isFull_1 ?_
  refine w_bipush (v := 24) (pc := 4) dX0_isFull_4 rfl ?_
  refine w_icmp_lt 13 (pc := 6) dX0_isFull_6 (by decide) (fun h6 => ?_) (fun h6 => ?_)
  · refine w_iconst (v := 0) (pc := 13) dX0_isFull_13 rfl ?_
    refine w_ireturn (pc := 14) dX0_isFull_14 rfl ?_
    first | (rw [bi_f (Int32.not_le.mpr h6)] at hQ; exact hQ) | (rw [bi_t (Int32.not_lt.mp h6)] at hQ; exact hQ)
  · refine w_iconst (v := 1) (pc := 9) dX0_isFull_9 rfl ?_
    refine w_goto 14 (pc := 10) dX0_isFull_10 (by decide) ?_
    refine w_ireturn (pc := 14) dX0_isFull_14 rfl ?_
    first | (rw [bi_f (Int32.not_le.mpr h6)] at hQ; exact hQ) | (rw [bi_t (Int32.not_lt.mp h6)] at hQ; exact hQ)
def posA (M : Mem) (a : Nat) (kd yr : Int32) (v : Int64) : Mem := sJ (sI (sJ (sI (sI M (a + 1) (mI M a 3).toNatClampNeg kd) (a + 2) (mI M a 3).toNatClampNeg yr) (a + 3) (mI M a 3).toNatClampNeg v) a 3 (mI M a 3 + 1)) a 4 (mJ M a 4 + v)
def T_accPost : PT := fun as M Q X => ∃ (a : Nat) (kd yr : Int32) (v : Int64), as = [.ref a, .int kd, .int yr, .long v] ∧ Full M ∧ OB 0 a ∧ (rf a 0 = a + 1 ∧ rf a 1 = a + 2 ∧ rf a 2 = a + 3) ∧ (AR 1 24 (a + 1) ∧ AR 1 24 (a + 2) ∧ AR 2 24 (a + 3)) ∧ vp_in (mI M a 3) 24 ∧ Q none (posA M a kd yr v)
theorem c_X0_post {l : Launch} (hl : l.stackTraces = false) : Con l yX0_post wX0_post 0 1 (T_accPost) := by
  refine con_of hl (by decide) ?_ ?_
  · intro as M Q X hpt
    obtain ⟨a, kd, yr, v, rfl, hF, ho, ⟨hr0, hr1, hr2⟩, ⟨har0, har1, har2⟩, hin, hQ⟩ := hpt
    exact Nat.le_of_ble_eq_true rfl
  intro G as M Q X hl' hT hd hpt
  obtain ⟨a, kd, yr, v, rfl, hF, ho, ⟨hr0, hr1, hr2⟩, ⟨har0, har1, har2⟩, hin, hQ⟩ := hpt
  have hG : (gl G).stackTraces = false := by rw [hl']; exact hl
  show PW G RX0 cX0_post 5 none Q X 0 0 [(0, .ref a), (1, .int kd), (2, .int yr), (3, .long v)] [] M
  refine w_aload_n (pc := 0) dX0_post_0 rfl ?_
  refine w_getR (b := a + 1) (pc := 1) fl_X0_9 hF (by first | assumption | exact ob rfl) rfl (by first | assumption | exact rf_x (by omega)) dX0_post_1 ?_
  refine w_aload_n (pc := 4) dX0_post_4 rfl ?_
  refine w_getI (pc := 5) fl_X0_20 hF (by first | assumption | exact ob rfl) rfl dX0_post_5 ?_
  refine w_iload_n (pc := 8) dX0_post_8 rfl ?_
  refine w_iast (m := 24) (pc := 9) hF (by first | assumption | exact ar rfl) (by assumption) dX0_post_9 ?_
  refine w_aload_n (pc := 10) dX0_post_10 rfl ?_
  refine w_getR (b := a + 2) (pc := 11) fl_X0_13 hF (by first | assumption | exact ob rfl) rfl (by first | assumption | exact rf_x (by omega)) dX0_post_11 ?_
  refine w_aload_n (pc := 14) dX0_post_14 rfl ?_
  refine w_getI (pc := 15) fl_X0_20 hF (by first | assumption | exact ob rfl) rfl dX0_post_15 ?_
  refine w_iload_n (pc := 18) dX0_post_18 rfl ?_
  refine w_iast (m := 24) (pc := 19) hF (by first | assumption | exact ar rfl) (by simp (disch := omega) only [mI_n]; exact hin) dX0_post_19 ?_
  refine w_aload_n (pc := 20) dX0_post_20 rfl ?_
  refine w_getR (b := a + 3) (pc := 21) fl_X0_16 hF (by first | assumption | exact ob rfl) rfl (by first | assumption | exact rf_x (by omega)) dX0_post_21 ?_
  refine w_aload_n (pc := 24) dX0_post_24 rfl ?_
  refine w_getI (pc := 25) fl_X0_20 hF (by first | assumption | exact ob rfl) rfl dX0_post_25 ?_
  refine w_lload_n (pc := 28) dX0_post_28 rfl ?_
  refine w_last (m := 24) (pc := 29) hF (by first | assumption | exact ar rfl) (by simp (disch := omega) only [mI_n]; exact hin) dX0_post_29 ?_
  refine w_aload_n (pc := 30) dX0_post_30 rfl ?_
  refine w_dup (pc := 31) dX0_post_31 rfl ?_
  refine w_getI (pc := 32) fl_X0_20 hF (by first | assumption | exact ob rfl) rfl dX0_post_32 ?_
  refine w_iconst (v := 1) (pc := 35) dX0_post_35 rfl ?_
  refine w_iadd (pc := 36) dX0_post_36 ?_
  refine w_putI (pc := 37) fp_X0_20 hF (by first | assumption | exact ob rfl) rfl dX0_post_37 ?_
  refine w_aload_n (pc := 40) dX0_post_40 rfl ?_
  refine w_dup (pc := 41) dX0_post_41 rfl ?_
  refine w_getJ (pc := 42) fl_X0_24 hF (by first | assumption | exact ob rfl) rfl dX0_post_42 ?_
  refine w_lload_n (pc := 45) dX0_post_45 rfl ?_
  refine w_ladd (pc := 46) dX0_post_46 ?_
  refine w_putJ (pc := 47) fp_X0_24 hF (by first | assumption | exact ob rfl) rfl dX0_post_47 ?_
  refine w_return (pc := 50) dX0_post_50 ?_
  simp (disch := omega) only [mI_n, mI_J, mJ_I, mJ_n] at *
  exact hQ
def intr (s : Int64) (t : Int32) : Int64 := if 0 < s then s / 36500 * t.toInt64 + (s - s / 36500 * 36500) * t.toInt64 / 36500 else 0
def T_interestFor : PT := fun as M Q X => ∃ (a : Nat) (t : Int32), as = [.ref a, .int t] ∧ Full M ∧ OB 0 a ∧ Q (some (.long (intr (mJ M a 4) t))) M
theorem c_X0_interestFor {l : Launch} (hl : l.stackTraces = false) : Con l yX0_interestFor wX0_interestFor 0 1 (T_interestFor) := by
  refine con_of hl (by decide) ?_ ?_
  · intro as M Q X hpt
    obtain ⟨a, t, rfl, hF, ho, hQ⟩ := hpt
    exact Nat.le_of_ble_eq_true rfl
  intro G as M Q X hl' hT hd hpt
  obtain ⟨a, t, rfl, hF, ho, hQ⟩ := hpt
  have hG : (gl G).stackTraces = false := by rw [hl']; exact hl
  show PW G RX0 cX0_interestFor 4 (some .long) Q X 0 0 [(0, .ref a), (1, .int t)] [] M
  refine w_aload_n (pc := 0) dX0_interestFor_0 rfl ?_
  refine w_getJ (pc := 1) fl_X0_24 hF (by first | assumption | exact ob rfl) rfl dX0_interestFor_1 ?_
  refine w_lconst (v := 0) (pc := 4) dX0_interestFor_4 rfl ?_
  refine w_lcmp_gt 11 (pc := 5) dX0_interestFor_5 dX0_interestFor_6 (by decide) (fun h5 => ?_) (fun h5 => ?_)
  · refine w_aload_n (pc := 11) dX0_interestFor_11 rfl ?_
    refine w_getJ (pc := 12) fl_X0_24 hF (by first | assumption | exact ob rfl) rfl dX0_interestFor_12 ?_
    refine w_ldc2 (pc := 15) kl_X0_28 dX0_interestFor_15 ?_
    refine w_lrem (pc := 18) dX0_interestFor_18 (by decide) ?_
    refine w_iload_n (pc := 19) dX0_interestFor_19 rfl ?_
    refine w_i2l (pc := 20) dX0_interestFor_20 ?_
    refine w_lmul (pc := 21) dX0_interestFor_21 ?_
    refine w_ldc2 (pc := 22) kl_X0_28 dX0_interestFor_22 ?_
    refine w_ldiv (pc := 25) dX0_interestFor_25 (by decide) ?_
    refine w_lstore_n 2 (pc := 26) rfl dX0_interestFor_26 (by decide) ?_
    refine w_aload_n (pc := 27) dX0_interestFor_27 rfl ?_
    refine w_getJ (pc := 28) fl_X0_24 hF (by first | assumption | exact ob rfl) rfl dX0_interestFor_28 ?_
    refine w_ldc2 (pc := 31) kl_X0_28 dX0_interestFor_31 ?_
    refine w_ldiv (pc := 34) dX0_interestFor_34 (by decide) ?_
    refine w_iload_n (pc := 35) dX0_interestFor_35 rfl ?_
    refine w_i2l (pc := 36) dX0_interestFor_36 ?_
    refine w_lmul (pc := 37) dX0_interestFor_37 ?_
    refine w_lload_n (pc := 38) dX0_interestFor_38 rfl ?_
    refine w_ladd (pc := 39) dX0_interestFor_39 ?_
    refine w_lreturn (pc := 40) dX0_interestFor_40 ?_
    simp only [intr, h5, if_true, if_false, decide_true, decide_false, Bool.or_false, Bool.or_true, Bool.and_true, Bool.and_false, Bool.true_or, Bool.true_and, Bool.false_and, Bool.false_or, not_true_eq_false, not_false_eq_true] at hQ
    exact hQ
  · refine w_lconst (v := 0) (pc := 9) dX0_interestFor_9 rfl ?_
    refine w_lreturn (pc := 10) dX0_interestFor_10 ?_
    simp only [intr, h5, if_true, if_false, decide_true, decide_false, Bool.or_false, Bool.or_true, Bool.and_true, Bool.and_false, Bool.true_or, Bool.true_and, Bool.false_and, Bool.false_or, not_true_eq_false, not_false_eq_true] at hQ
    exact hQ
def kepR (M : Mem) (a w : Nat) (v : Int64) : Mem := sI (sJ (rJ M (a + 2) (va_cpy (mJ M w) (mJ M (a + 2)) 0 0 12)) a 2 v) a 3 1
def T_keep : PT := fun as M Q X => ∃ (a w : Nat) (v : Int64), as = [.ref a, .ref w, .long v] ∧ Full M ∧ OB 2 a ∧ rf a 1 = a + 2 ∧ AR 2 12 (a + 2) ∧ AR 2 12 w ∧ Q none (kepR M a w v)
theorem c_X2_keep {l : Launch} (hl : l.stackTraces = false) : Con l yX2_keep wX2_keep 0 1 (T_keep) := by
  refine con_of hl (by decide) ?_ ?_
  · intro as M Q X hpt
    obtain ⟨a, w, v, rfl, hF, ho, hr, har, haw, hQ⟩ := hpt
    exact Nat.le_of_ble_eq_true rfl
  intro G as M Q X hl' hT hd hpt
  obtain ⟨a, w, v, rfl, hF, ho, hr, har, haw, hQ⟩ := hpt
  have hG : (gl G).stackTraces = false := by rw [hl']; exact hl
  show PW G RX2 cX2_keep 4 none Q X 0 0 [(0, .ref a), (1, .ref w), (2, .long v)] [] M
  refine w_aload_n (pc := 0) dX2_keep_0 rfl ?_
  refine w_iconst (v := 0) (pc := 1) dX2_keep_1 rfl ?_
  refine w_aload_n (pc := 2) dX2_keep_2 rfl ?_
  refine w_getR (b := a + 2) (pc := 3) fl_X2_15 hF (by first | assumption | exact ob rfl) rfl (by first | assumption | exact rf_x (by omega)) dX2_keep_3 ?_
  refine w_iconst (v := 0) (pc := 6) dX2_keep_6 rfl ?_
  refine w_bipush (v := 12) (pc := 7) dX2_keep_7 rfl ?_
  refine w_copyL (pc := 9) ac_X2_27 hF (by assumption) (by assumption) (by decide) (by decide) (by decide) (by decide) (by decide) (by omega) (Nat.le_of_ble_eq_true rfl) dX2_keep_9 ?_
  refine w_aload_n (pc := 12) dX2_keep_12 rfl ?_
  refine w_lload_n (pc := 13) dX2_keep_13 rfl ?_
  refine w_putJ (pc := 14) fp_X2_19 hF (by first | assumption | exact ob rfl) rfl dX2_keep_14 ?_
  refine w_aload_n (pc := 17) dX2_keep_17 rfl ?_
  refine w_iconst (v := 1) (pc := 18) dX2_keep_18 rfl ?_
  refine w_putZ (pc := 19) fp_X2_23 hF (by first | assumption | exact ob rfl) rfl (by first | exact Or.inl rfl | exact Or.inr rfl | assumption) dX2_keep_19 ?_
  refine w_return (pc := 22) dX2_keep_22 ?_
  exact hQ
def T_requireLine : PT := fun as M Q X => ∃ x : Int32, as = [.int x] ∧ (¬ ix x 12 → X "java/util/NoSuchElementException" M) ∧ (∀ i, i < 12 → x = nI i → Q none M)
theorem c_X5_requireLine {l : Launch} (hl : l.stackTraces = false) : Con l yX5_requireLine wX5_requireLine 1 8 (T_requireLine) := by
  refine con_of hl (by decide) ?_ ?_
  · intro as M Q X hpt
    obtain ⟨x, rfl, hX, hQ⟩ := hpt
    exact Nat.le_of_ble_eq_true rfl
  intro G as M Q X hl' hT hd hpt
  obtain ⟨x, rfl, hX, hQ⟩ := hpt
  have hG : (gl G).stackTraces = false := by rw [hl']; exact hl
  show PW G RX5 cX5_requireLine 1 none Q X 1 0 [(0, .int x)] [] M
  refine w_iload_n (pc := 0) dX5_requireLine_0 rfl ?_
  refine w_if_lt 10 (pc := 1) dX5_requireLine_1 (by decide) (fun h1 => ?_) (fun h1 => ?_)
  · refine w_throw (pc := 10) (ik := 227) (is := 229) (ic := 231) (cls := "java/util/NoSuchElementException") (ix := 13) (text := "no such line") (List.mem_of_getElem? (i := 0) rfl) (List.mem_of_getElem? (i := 0) rfl) hT (by omega) (by decide) (Nat.le_of_ble_eq_true rfl) dX5_requireLine_10 dX5_requireLine_13 dX5_requireLine_14 dX5_requireLine_16 dX5_requireLine_19 ?_
    exact hX (ix_no (N := 12) rfl (by decide) (by first | exact Or.inl h1 | exact Or.inr h7))
  · refine w_iload_n (pc := 4) dX5_requireLine_4 rfl ?_
    refine w_bipush (v := 12) (pc := 5) dX5_requireLine_5 rfl ?_
    refine w_icmp_lt 20 (pc := 7) dX5_requireLine_7 (by decide) (fun h7 => ?_) (fun h7 => ?_)
    · refine w_return (pc := 20) dX5_requireLine_20 ?_
      obtain ⟨i, hi, hx⟩ := lt_nat 12 rfl (by decide) h1 h7
      exact hQ i hi hx
    · refine w_throw (pc := 10) (ik := 227) (is := 229) (ic := 231) (cls := "java/util/NoSuchElementException") (ix := 13) (text := "no such line") (List.mem_of_getElem? (i := 0) rfl) (List.mem_of_getElem? (i := 0) rfl) hT (by omega) (by decide) (Nat.le_of_ble_eq_true rfl) dX5_requireLine_10 dX5_requireLine_13 dX5_requireLine_14 dX5_requireLine_16 dX5_requireLine_19 ?_
      exact hX (ix_no (N := 12) rfl (by decide) (by first | exact Or.inl h1 | exact Or.inr h7))
def T_requireTable : PT := fun as M Q X => ∃ x : Int32, as = [.int x] ∧ (¬ ix x 3 → X "java/util/NoSuchElementException" M) ∧ (∀ i, i < 3 → x = nI i → Q none M)
theorem c_X5_requireTable {l : Launch} (hl : l.stackTraces = false) : Con l yX5_requireTable wX5_requireTable 1 8 (T_requireTable) := by
  refine con_of hl (by decide) ?_ ?_
  · intro as M Q X hpt
    obtain ⟨x, rfl, hX, hQ⟩ := hpt
    exact Nat.le_of_ble_eq_true rfl
  intro G as M Q X hl' hT hd hpt
  obtain ⟨x, rfl, hX, hQ⟩ := hpt
  have hG : (gl G).stackTraces = false := by rw [hl']; exact hl
  show PW G RX5 cX5_requireTable 1 none Q X 1 0 [(0, .int x)] [] M
  refine w_iload_n (pc := 0) dX5_requireTable_0 rfl ?_
  refine w_if_lt 9 (pc := 1) dX5_requireTable_1 (by decide) (fun h1 => ?_) (fun h1 => ?_)
  · refine w_throw (pc := 9) (ik := 227) (is := 232) (ic := 231) (cls := "java/util/NoSuchElementException") (ix := 13) (text := "no such table") (List.mem_of_getElem? (i := 0) rfl) (List.mem_of_getElem? (i := 2) rfl) hT (by omega) (by decide) (Nat.le_of_ble_eq_true rfl) dX5_requireTable_9 dX5_requireTable_12 dX5_requireTable_13 dX5_requireTable_15 dX5_requireTable_18 ?_
    exact hX (ix_no (N := 3) rfl (by decide) (by first | exact Or.inl h1 | exact Or.inr h6))
  · refine w_iload_n (pc := 4) dX5_requireTable_4 rfl ?_
    refine w_iconst (v := 3) (pc := 5) dX5_requireTable_5 rfl ?_
    refine w_icmp_lt 19 (pc := 6) dX5_requireTable_6 (by decide) (fun h6 => ?_) (fun h6 => ?_)
    · refine w_return (pc := 19) dX5_requireTable_19 ?_
      obtain ⟨i, hi, hx⟩ := lt_nat 3 rfl (by decide) h1 h6
      exact hQ i hi hx
    · refine w_throw (pc := 9) (ik := 227) (is := 232) (ic := 231) (cls := "java/util/NoSuchElementException") (ix := 13) (text := "no such table") (List.mem_of_getElem? (i := 0) rfl) (List.mem_of_getElem? (i := 2) rfl) hT (by omega) (by decide) (Nat.le_of_ble_eq_true rfl) dX5_requireTable_9 dX5_requireTable_12 dX5_requireTable_13 dX5_requireTable_15 dX5_requireTable_18 ?_
      exact hX (ix_no (N := 3) rfl (by decide) (by first | exact Or.inl h1 | exact Or.inr h6))
def T_requireTaxpayer : PT := fun as M Q X => ∃ x : Int32, as = [.int x] ∧ (¬ ix x 3 → X "java/util/NoSuchElementException" M) ∧ (∀ i, i < 3 → x = nI i → Q none M)
theorem c_X5_requireTaxpayer {l : Launch} (hl : l.stackTraces = false) : Con l yX5_requireTaxpayer wX5_requireTaxpayer 1 8 (T_requireTaxpayer) := by
  refine con_of hl (by decide) ?_ ?_
  · intro as M Q X hpt
    obtain ⟨x, rfl, hX, hQ⟩ := hpt
    exact Nat.le_of_ble_eq_true rfl
  intro G as M Q X hl' hT hd hpt
  obtain ⟨x, rfl, hX, hQ⟩ := hpt
  have hG : (gl G).stackTraces = false := by rw [hl']; exact hl
  show PW G RX5 cX5_requireTaxpayer 1 none Q X 1 0 [(0, .int x)] [] M
  refine w_iload_n (pc := 0) dX5_requireTaxpayer_0 rfl ?_
  refine w_if_lt 9 (pc := 1) dX5_requireTaxpayer_1 (by decide) (fun h1 => ?_) (fun h1 => ?_)
  · refine w_throw (pc := 9) (ik := 227) (is := 234) (ic := 231) (cls := "java/util/NoSuchElementException") (ix := 13) (text := "no such taxpayer") (List.mem_of_getElem? (i := 0) rfl) (List.mem_of_getElem? (i := 8) rfl) hT (by omega) (by decide) (Nat.le_of_ble_eq_true rfl) dX5_requireTaxpayer_9 dX5_requireTaxpayer_12 dX5_requireTaxpayer_13 dX5_requireTaxpayer_15 dX5_requireTaxpayer_18 ?_
    exact hX (ix_no (N := 3) rfl (by decide) (by first | exact Or.inl h1 | exact Or.inr h6))
  · refine w_iload_n (pc := 4) dX5_requireTaxpayer_4 rfl ?_
    refine w_iconst (v := 3) (pc := 5) dX5_requireTaxpayer_5 rfl ?_
    refine w_icmp_lt 19 (pc := 6) dX5_requireTaxpayer_6 (by decide) (fun h6 => ?_) (fun h6 => ?_)
    · refine w_return (pc := 19) dX5_requireTaxpayer_19 ?_
      obtain ⟨i, hi, hx⟩ := lt_nat 3 rfl (by decide) h1 h6
      exact hQ i hi hx
    · refine w_throw (pc := 9) (ik := 227) (is := 234) (ic := 231) (cls := "java/util/NoSuchElementException") (ix := 13) (text := "no such taxpayer") (List.mem_of_getElem? (i := 0) rfl) (List.mem_of_getElem? (i := 8) rfl) hT (by omega) (by decide) (Nat.le_of_ble_eq_true rfl) dX5_requireTaxpayer_9 dX5_requireTaxpayer_12 dX5_requireTaxpayer_13 dX5_requireTaxpayer_15 dX5_requireTaxpayer_18 ?_
      exact hX (ix_no (N := 3) rfl (by decide) (by first | exact Or.inl h1 | exact Or.inr h6))
def T_requireReturn : PT := fun as M Q X => ∃ x y : Int32, as = [.int x, .int y] ∧ (¬ (ix x 3 ∧ ix y 4) → X "java/util/NoSuchElementException" M) ∧ (∀ i j, i < 3 → j < 4 → x = nI i → y = nI j → Q none M)
theorem c_X5_requireReturn {l : Launch} (hl : l.stackTraces = false) : Con l yX5_requireReturn wX5_requireReturn 2 9 (T_requireReturn) := by
  refine con_of hl (by decide) ?_ ?_
  · intro as M Q X hpt
    obtain ⟨x, y, rfl, hX, hQ⟩ := hpt
    exact Nat.le_of_ble_eq_true rfl
  intro G as M Q X hl' hT hd hpt
  obtain ⟨x, y, rfl, hX, hQ⟩ := hpt
  have hG : (gl G).stackTraces = false := by rw [hl']; exact hl
  show PW G RX5 cX5_requireReturn 2 none Q X 2 0 [(0, .int x), (1, .int y)] [] M
  refine w_iload_n (pc := 0) dX5_requireReturn_0 rfl ?_
  refine w_callS1 (n' := 1) (pc := 1) (c_X5_requireTaxpayer hG) cs_X5_195 hT (by omega) (by decide) (Nat.le_of_ble_eq_true rfl) dX5_requireReturn_1 ?_
  refine ⟨_, rfl, fun hx => ?_, fun i hi ei => ?_⟩
  · exact hX (fun q => hx q.1)
  dsimp only [psh]
  refine w_iload_n (pc := 4) dX5_requireReturn_4 rfl ?_
  refine w_if_lt 13 (pc := 5) dX5_requireReturn_5 (by decide) (fun h5 => ?_) (fun h5 => ?_)
  · refine w_throw (pc := 13) (ik := 227) (is := 236) (ic := 231) (cls := "java/util/NoSuchElementException") (ix := 13) (text := "no such year") (List.mem_of_getElem? (i := 0) rfl) (List.mem_of_getElem? (i := 9) rfl) hT (by omega) (by decide) (Nat.le_of_ble_eq_true rfl) dX5_requireReturn_13 dX5_requireReturn_16 dX5_requireReturn_17 dX5_requireReturn_19 dX5_requireReturn_22 ?_
    exact hX (fun q => ix_no (N := 4) rfl (by decide) (by first | exact Or.inl h5 | exact Or.inr h10) q.2)
  · refine w_iload_n (pc := 8) dX5_requireReturn_8 rfl ?_
    refine w_iconst (v := 4) (pc := 9) dX5_requireReturn_9 rfl ?_
    refine w_icmp_lt 23 (pc := 10) dX5_requireReturn_10 (by decide) (fun h10 => ?_) (fun h10 => ?_)
    · refine w_return (pc := 23) dX5_requireReturn_23 ?_
      obtain ⟨j, hj, ej⟩ := lt_nat 4 rfl (by decide) h5 h10
      exact hQ i j hi hj ei ej
    · refine w_throw (pc := 13) (ik := 227) (is := 236) (ic := 231) (cls := "java/util/NoSuchElementException") (ix := 13) (text := "no such year") (List.mem_of_getElem? (i := 0) rfl) (List.mem_of_getElem? (i := 9) rfl) hT (by omega) (by decide) (Nat.le_of_ble_eq_true rfl) dX5_requireReturn_13 dX5_requireReturn_16 dX5_requireReturn_17 dX5_requireReturn_19 dX5_requireReturn_22 ?_
      exact hX (fun q => ix_no (N := 4) rfl (by decide) (by first | exact Or.inl h5 | exact Or.inr h10) q.2)
def T_returnOf : PT := fun as M Q X => ∃ i j : Nat, i < 3 ∧ j < 4 ∧ as = [.ref 0, .int (nI i), .int (nI j)] ∧ Full M ∧ Q (some (.ref (48 + 3 * (4 * i + j)))) M
theorem ix_ret {i j : Nat} (hi : i < 3) (hj : j < 4) : nI i * 4 + nI j = nI (4 * i + j) := by
  rw [show (4 : Int32) = nI 4 from rfl, pk_mul, nI_add, Nat.mul_comm]
theorem in_ret {i j : Nat} (hi : i < 3) (hj : j < 4) : vp_in (nI i * 4 + nI j) 12 := by
  rw [ix_ret hi hj]
  exact vp_in_nI (by omega) (by decide)
theorem cl_ret {i j : Nat} (hi : i < 3) (hj : j < 4) : (nI i * 4 + nI j).toNatClampNeg = 4 * i + j := by
  rw [ix_ret hi hj]
  exact nI_clamp (by omega)
theorem c_X5_returnOf {l : Launch} (hl : l.stackTraces = false) : Con l yX5_returnOf wX5_returnOf 0 1 (T_returnOf) := by
  refine con_of hl (by decide) ?_ ?_
  · intro as M Q X hpt
    obtain ⟨i, j, hi, hj, rfl, hF, hQ⟩ := hpt
    exact Nat.le_of_ble_eq_true rfl
  intro G as M Q X hl' hT hd hpt
  obtain ⟨i, j, hi, hj, rfl, hF, hQ⟩ := hpt
  have hG : (gl G).stackTraces = false := by rw [hl']; exact hl
  show PW G RX5 cX5_returnOf 3 (some (.object "FormOffice$Return")) Q X 0 0 [(0, .ref 0), (1, .int (nI i)), (2, .int (nI j))] [] M
  refine w_aload_n (pc := 0) dX5_returnOf_0 rfl ?_
  refine w_getR (b := 5) (pc := 1) fl_X5_26 hF (by first | assumption | exact ob rfl) rfl rfl dX5_returnOf_1 ?_
  refine w_iload_n (pc := 4) dX5_returnOf_4 rfl ?_
  refine w_iconst (v := 4) (pc := 5) dX5_returnOf_5 rfl ?_
  refine w_imul (pc := 6) dX5_returnOf_6 ?_
  refine w_iload_n (pc := 7) dX5_returnOf_7 rfl ?_
  refine w_iadd (pc := 8) dX5_returnOf_8 ?_
  refine w_aald (m := 12) (b := 48 + 3 * (4 * i + j)) (pc := 9) (Or.inr (Or.inl rfl)) hF (by first | assumption | exact ar rfl) (in_ret hi hj) (by rw [cl_ret hi hj]; rfl) dX5_returnOf_9 ?_
  refine w_areturn (pc := 10) dX5_returnOf_10 ?_
  exact hQ
def hasF (M : Mem) (i : Nat) : Bool := decide (¬ mI M (24 + 2 * i) 1 ≤ 0)
def T_hasFormula : PT := fun as M Q X => ∃ i : Nat, i < 12 ∧ as = [.ref 0, .int (nI i)] ∧ Full M ∧ Q (some (.int (bi (hasF M i)))) M
theorem cl_n {i n : Nat} (hi : i < n) (hn : n < 2 ^ 31) : (nI i).toNatClampNeg = i := nI_clamp (by omega)
theorem c_X5_hasFormula {l : Launch} (hl : l.stackTraces = false) : Con l yX5_hasFormula wX5_hasFormula 0 1 (T_hasFormula) := by
  refine con_of hl (by decide) ?_ ?_
  · intro as M Q X hpt
    obtain ⟨i, hi, rfl, hF, hQ⟩ := hpt
    exact Nat.le_of_ble_eq_true rfl
  intro G as M Q X hl' hT hd hpt
  obtain ⟨i, hi, rfl, hF, hQ⟩ := hpt
  have hG : (gl G).stackTraces = false := by rw [hl']; exact hl
  show PW G RX5 cX5_hasFormula 2 (some .boolean) Q X 0 0 [(0, .ref 0), (1, .int (nI i))] [] M
  have hot := ob_text hi
  refine w_aload_n (pc := 0) dX5_hasFormula_0 rfl ?_
  refine w_getR (b := 3) (pc := 1) fl_X5_16 hF (by first | assumption | exact ob rfl) rfl rfl dX5_hasFormula_1 ?_
  refine w_iload_n (pc := 4) dX5_hasFormula_4 rfl ?_
  refine w_aald (m := 12) (b := 24 + 2 * i) (pc := 5) (Or.inr (Or.inr (Or.inr rfl))) hF (by first | assumption | exact ar rfl) (vp_in_nI hi (by decide)) (by rw [cl_n hi (by decide)]; rfl) dX5_hasFormula_5 ?_
  refine w_getI (pc := 6) fl_X5_78 hF (by first | assumption | exact ob rfl) rfl dX5_hasFormula_6 ?_
  refine w_if_le 16 (pc := 9) dX5_hasFormula_9 (by decide) (fun h9 => ?_) (fun h9 => ?_)
  · refine w_iconst (v := 0) (pc := 16) dX5_hasFormula_16 rfl ?_
    refine w_ireturn (pc := 17) dX5_hasFormula_17 rfl ?_
    simp only [hasF, bi, h9, if_true, if_false, decide_true, decide_false, Bool.or_false, Bool.or_true, Bool.and_true, Bool.and_false, Bool.true_or, Bool.true_and, Bool.false_and, Bool.false_or, not_true_eq_false, not_false_eq_true] at hQ
    exact hQ
  · refine w_iconst (v := 1) (pc := 12) dX5_hasFormula_12 rfl ?_
    refine w_goto 17 (pc := 13) dX5_hasFormula_13 (by decide) ?_
    refine w_ireturn (pc := 17) dX5_hasFormula_17 rfl ?_
    simp only [hasF, bi, h9, if_true, if_false, decide_true, decide_false, Bool.or_false, Bool.or_true, Bool.and_true, Bool.and_false, Bool.true_or, Bool.true_and, Bool.false_and, Bool.false_or, not_true_eq_false, not_false_eq_true] at hQ
    exact hQ
def T_requireAssessed : PT := fun as M Q X => ∃ i j : Nat, i < 3 ∧ j < 4 ∧ as = [.ref 0, .int (nI i), .int (nI j)] ∧ Full M ∧ (mI M (48 + 3 * (4 * i + j)) 3 = 0 → X "java/lang/IllegalStateException" M) ∧ (¬ mI M (48 + 3 * (4 * i + j)) 3 = 0 → Q none M)
theorem c_X5_requireAssessed {l : Launch} (hl : l.stackTraces = false) : Con l yX5_requireAssessed wX5_requireAssessed 1 8 (T_requireAssessed) := by
  refine con_of hl (by decide) ?_ ?_
  · intro as M Q X hpt
    obtain ⟨i, j, hi, hj, rfl, hF, hX, hQ⟩ := hpt
    exact Nat.le_of_ble_eq_true rfl
  intro G as M Q X hl' hT hd hpt
  obtain ⟨i, j, hi, hj, rfl, hF, hX, hQ⟩ := hpt
  have hG : (gl G).stackTraces = false := by rw [hl']; exact hl
  show PW G RX5 cX5_requireAssessed 3 none Q X 1 0 [(0, .ref 0), (1, .int (nI i)), (2, .int (nI j))] [] M
  have hor := ob_ret (i := 4 * i + j) (by omega)
  refine w_aload_n (pc := 0) dX5_requireAssessed_0 rfl ?_
  refine w_iload_n (pc := 1) dX5_requireAssessed_1 rfl ?_
  refine w_iload_n (pc := 2) dX5_requireAssessed_2 rfl ?_
  refine w_callV2 (n' := 1) (pc := 3) (c_X5_returnOf hG) cv_X5_158 (by first | assumption | exact ob rfl) hF hT (by omega) (by decide) (Nat.le_of_ble_eq_true rfl) dX5_requireAssessed_3 ?_
  refine ⟨_, _, hi, hj, rfl, hF, ?_⟩
  dsimp only [psh]
  refine w_getI (pc := 6) fl_X5_238 hF (by first | assumption | exact ob rfl) rfl dX5_requireAssessed_6 ?_
  refine w_if_ne 22 (pc := 9) dX5_requireAssessed_9 (by decide) (fun h9 => ?_) (fun h9 => ?_)
  · refine w_return (pc := 22) dX5_requireAssessed_22 ?_
    exact hQ h9
  · refine w_throw (pc := 12) (ik := 127) (is := 242) (ic := 131) (cls := "java/lang/IllegalStateException") (ix := 7) (text := "the return was not assessed") (List.mem_of_getElem? (i := 2) rfl) (List.mem_of_getElem? (i := 13) rfl) hT (by omega) (by decide) (Nat.le_of_ble_eq_true rfl) dX5_requireAssessed_12 dX5_requireAssessed_15 dX5_requireAssessed_16 dX5_requireAssessed_18 dX5_requireAssessed_21 ?_
    exact hX h9
