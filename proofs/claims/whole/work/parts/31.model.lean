/-! SMALL METHODS OF THE REFERENCE -/
def T_mThrown : PT := fun as M Q X => as = [.ref 96] ∧ Full M ∧ Q (some (.int (mI M 96 0))) M
theorem c_X6_thrown {l : Launch} (hl : l.stackTraces = false) : Con l yX6_thrown wX6_thrown 0 1 (T_mThrown) := by
  refine con_of hl (by decide) ?_ ?_
  · intro as M Q X hpt
    obtain ⟨rfl, hF, hQ⟩ := hpt
    exact Nat.le_of_ble_eq_true rfl
  intro G as M Q X hl' hT hd hpt
  obtain ⟨rfl, hF, hQ⟩ := hpt
  have hG : (gl G).stackTraces = false := by rw [hl']; exact hl
  show PW G RX6 cX6_thrown 1 (some .int) Q X 0 0 [(0, .ref 96)] [] M
  refine w_aload_n (pc := 0) dX6_thrown_0 rfl ?_
  refine w_getI (pc := 1) fl_X6_91 hF (by first | assumption | exact ob rfl) rfl dX6_thrown_1 ?_
  refine w_ireturn (pc := 4) dX6_thrown_4 rfl ?_
  exact hQ
def T_mRefuse : PT := fun as M Q X => ∃ c : Int32, as = [.ref 96, .int c] ∧ Full M ∧ Q (some (.int 0)) (sI M 96 0 c)
theorem c_X6_refuse {l : Launch} (hl : l.stackTraces = false) : Con l yX6_refuse wX6_refuse 0 1 (T_mRefuse) := by
  refine con_of hl (by decide) ?_ ?_
  · intro as M Q X hpt
    obtain ⟨c, rfl, hF, hQ⟩ := hpt
    exact Nat.le_of_ble_eq_true rfl
  intro G as M Q X hl' hT hd hpt
  obtain ⟨c, rfl, hF, hQ⟩ := hpt
  have hG : (gl G).stackTraces = false := by rw [hl']; exact hl
  show PW G RX6 cX6_refuse 2 (some .int) Q X 0 0 [(0, .ref 96), (1, .int c)] [] M
  refine w_aload_n (pc := 0) dX6_refuse_0 rfl ?_
  refine w_iload_n (pc := 1) dX6_refuse_1 rfl ?_
  refine w_putI (pc := 2) fp_X6_91 hF (by first | assumption | exact ob rfl) rfl dX6_refuse_2 ?_
  refine w_iconst (v := 0) (pc := 5) dX6_refuse_5 rfl ?_
  refine w_ireturn (pc := 6) dX6_refuse_6 rfl ?_
  exact hQ
def inB (x lo hi : Int64) : Bool := decide (¬ x < lo) && decide (¬ hi < x)
def T_in : PT := fun as M Q X => ∃ x lo hi : Int64, as = [.long x, .long lo, .long hi] ∧ Q (some (.int (bi (decide (¬ x < lo) && decide (¬ hi < x))))) M
theorem c_X6_in {l : Launch} (hl : l.stackTraces = false) : Con l yX6_in wX6_in 0 1 (T_in) := by
  refine con_of hl (by decide) ?_ ?_
  · intro as M Q X hpt
    obtain ⟨x, lo, hi, rfl, hQ⟩ := hpt
    exact Nat.le_of_ble_eq_true rfl
  intro G as M Q X hl' hT hd hpt
  obtain ⟨x, lo, hi, rfl, hQ⟩ := hpt
  have hG : (gl G).stackTraces = false := by rw [hl']; exact hl
  show PW G RX6 cX6_in 6 (some .boolean) Q X 0 0 [(0, .long x), (2, .long lo), (4, .long hi)] [] M
  refine w_lload_n (pc := 0) dX6_in_0 rfl ?_
  refine w_lload_n (pc := 1) dX6_in_1 rfl ?_
  refine w_lcmp_lt 17 (pc := 2) dX6_in_2 dX6_in_3 (by decide) (fun h2 => ?_) (fun h2 => ?_)
  · refine w_iconst (v := 0) (pc := 17) dX6_in_17 rfl ?_
    refine w_ireturn (pc := 18) dX6_in_18 rfl ?_
    first | (have hb : (decide (¬ x < lo) && decide (¬ hi < x)) = true := (by simp [bi, h2]); rw [hb] at hQ; exact hQ) | (have hb : (decide (¬ x < lo) && decide (¬ hi < x)) = false := (by simp [bi, h2]); rw [hb] at hQ; exact hQ)
  · refine w_lload_n (pc := 6) dX6_in_6 rfl ?_
    refine w_lload (pc := 7) dX6_in_7 rfl ?_
    refine w_lcmp_gt 17 (pc := 9) dX6_in_9 dX6_in_10 (by decide) (fun h9 => ?_) (fun h9 => ?_)
    · refine w_iconst (v := 0) (pc := 17) dX6_in_17 rfl ?_
      refine w_ireturn (pc := 18) dX6_in_18 rfl ?_
      first | (have hb : (decide (¬ x < lo) && decide (¬ hi < x)) = true := (by simp [bi, h2, h9]); rw [hb] at hQ; exact hQ) | (have hb : (decide (¬ x < lo) && decide (¬ hi < x)) = false := (by simp [bi, h2, h9]); rw [hb] at hQ; exact hQ)
    · refine w_iconst (v := 1) (pc := 13) dX6_in_13 rfl ?_
      refine w_goto 18 (pc := 14) dX6_in_14 (by decide) ?_
      refine w_ireturn (pc := 18) dX6_in_18 rfl ?_
      first | (have hb : (decide (¬ x < lo) && decide (¬ hi < x)) = true := (by simp [bi, h2, h9]); rw [hb] at hQ; exact hQ) | (have hb : (decide (¬ x < lo) && decide (¬ hi < x)) = false := (by simp [bi, h2, h9]); rw [hb] at hQ; exact hQ)
def isDg (c : Int32) : Bool := decide (¬ c < 48) && decide (¬ 57 < c)
def isNm (c : Int32) : Bool := decide (¬ c < 65) && decide (¬ 76 < c)
def T_isDg : PT := fun as M Q X => ∃ c : Int32, as = [.int c] ∧ Q (some (.int (bi (isDg c)))) M
def T_isNm : PT := fun as M Q X => ∃ c : Int32, as = [.int c] ∧ Q (some (.int (bi (isNm c)))) M
theorem c_X6_isDigit {l : Launch} (hl : l.stackTraces = false) : Con l yX6_isDigit wX6_isDigit 0 1 (T_isDg) := by
  refine con_of hl (by decide) ?_ ?_
  · intro as M Q X hpt
    obtain ⟨c, rfl, hQ⟩ := hpt
    exact Nat.le_of_ble_eq_true rfl
  intro G as M Q X hl' hT hd hpt
  obtain ⟨c, rfl, hQ⟩ := hpt
  have hG : (gl G).stackTraces = false := by rw [hl']; exact hl
  show PW G RX6 cX6_isDigit 1 (some .boolean) Q X 0 0 [(0, .int c)] [] M
  refine w_iload_n (pc := 0) dX6_isDigit_0 rfl ?_
  refine w_bipush (v := 48) (pc := 1) dX6_isDigit_1 rfl ?_
  refine w_icmp_lt 16 (pc := 3) dX6_isDigit_3 (by decide) (fun h3 => ?_) (fun h3 => ?_)
  · refine w_iconst (v := 0) (pc := 16) dX6_isDigit_16 rfl ?_
    refine w_ireturn (pc := 17) dX6_isDigit_17 rfl ?_
    first | (have hb : isDg c = true := (by simp [isDg, h3]); rw [hb] at hQ; exact hQ) | (have hb : isDg c = false := (by simp [isDg, h3]); rw [hb] at hQ; exact hQ)
  · refine w_iload_n (pc := 6) dX6_isDigit_6 rfl ?_
    refine w_bipush (v := 57) (pc := 7) dX6_isDigit_7 rfl ?_
    refine w_icmp_gt 16 (pc := 9) dX6_isDigit_9 (by decide) (fun h9 => ?_) (fun h9 => ?_)
    · refine w_iconst (v := 0) (pc := 16) dX6_isDigit_16 rfl ?_
      refine w_ireturn (pc := 17) dX6_isDigit_17 rfl ?_
      first | (have hb : isDg c = true := (by simp [isDg, h3, h9]); rw [hb] at hQ; exact hQ) | (have hb : isDg c = false := (by simp [isDg, h3, h9]); rw [hb] at hQ; exact hQ)
    · refine w_iconst (v := 1) (pc := 12) dX6_isDigit_12 rfl ?_
      refine w_goto 17 (pc := 13) dX6_isDigit_13 (by decide) ?_
      refine w_ireturn (pc := 17) dX6_isDigit_17 rfl ?_
      first | (have hb : isDg c = true := (by simp [isDg, h3, h9]); rw [hb] at hQ; exact hQ) | (have hb : isDg c = false := (by simp [isDg, h3, h9]); rw [hb] at hQ; exact hQ)
theorem c_X6_isName {l : Launch} (hl : l.stackTraces = false) : Con l yX6_isName wX6_isName 0 1 (T_isNm) := by
  refine con_of hl (by decide) ?_ ?_
  · intro as M Q X hpt
    obtain ⟨c, rfl, hQ⟩ := hpt
    exact Nat.le_of_ble_eq_true rfl
  intro G as M Q X hl' hT hd hpt
  obtain ⟨c, rfl, hQ⟩ := hpt
  have hG : (gl G).stackTraces = false := by rw [hl']; exact hl
  show PW G RX6 cX6_isName 1 (some .boolean) Q X 0 0 [(0, .int c)] [] M
  refine w_iload_n (pc := 0) dX6_isName_0 rfl ?_
  refine w_bipush (v := 65) (pc := 1) dX6_isName_1 rfl ?_
  refine w_icmp_lt 16 (pc := 3) dX6_isName_3 (by decide) (fun h3 => ?_) (fun h3 => ?_)
  · refine w_iconst (v := 0) (pc := 16) dX6_isName_16 rfl ?_
    refine w_ireturn (pc := 17) dX6_isName_17 rfl ?_
    first | (have hb : isNm c = true := (by simp [isNm, h3]); rw [hb] at hQ; exact hQ) | (have hb : isNm c = false := (by simp [isNm, h3]); rw [hb] at hQ; exact hQ)
  · refine w_iload_n (pc := 6) dX6_isName_6 rfl ?_
    refine w_bipush (v := 76) (pc := 7) dX6_isName_7 rfl ?_
    refine w_icmp_gt 16 (pc := 9) dX6_isName_9 (by decide) (fun h9 => ?_) (fun h9 => ?_)
    · refine w_iconst (v := 0) (pc := 16) dX6_isName_16 rfl ?_
      refine w_ireturn (pc := 17) dX6_isName_17 rfl ?_
      first | (have hb : isNm c = true := (by simp [isNm, h3, h9]); rw [hb] at hQ; exact hQ) | (have hb : isNm c = false := (by simp [isNm, h3, h9]); rw [hb] at hQ; exact hQ)
    · refine w_iconst (v := 1) (pc := 12) dX6_isName_12 rfl ?_
      refine w_goto 17 (pc := 13) dX6_isName_13 (by decide) ?_
      refine w_ireturn (pc := 17) dX6_isName_17 rfl ?_
      first | (have hb : isNm c = true := (by simp [isNm, h3, h9]); rw [hb] at hQ; exact hQ) | (have hb : isNm c = false := (by simp [isNm, h3, h9]); rw [hb] at hQ; exact hQ)
theorem c_X1_isDigit {l : Launch} (hl : l.stackTraces = false) : Con l yX1_isDigit wX1_isDigit 0 1 (T_isDg) := by
  refine con_of hl (by decide) ?_ ?_
  · intro as M Q X hpt
    obtain ⟨c, rfl, hQ⟩ := hpt
    exact Nat.le_of_ble_eq_true rfl
  intro G as M Q X hl' hT hd hpt
  obtain ⟨c, rfl, hQ⟩ := hpt
  have hG : (gl G).stackTraces = false := by rw [hl']; exact hl
  show PW G RX1 cX1_isDigit 1 (some .boolean) Q X 0 0 [(0, .int c)] [] M
  refine w_iload_n (pc := 0) dX1_isDigit_0 rfl ?_
  refine w_bipush (v := 48) (pc := 1) dX1_isDigit_1 rfl ?_
  refine w_icmp_lt 16 (pc := 3) dX1_isDigit_3 (by decide) (fun h3 => ?_) (fun h3 => ?_)
  · refine w_iconst (v := 0) (pc := 16) dX1_isDigit_16 rfl ?_
    refine w_ireturn (pc := 17) dX1_isDigit_17 rfl ?_
    first | (have hb : isDg c = true := (by simp [isDg, h3]); rw [hb] at hQ; exact hQ) | (have hb : isDg c = false := (by simp [isDg, h3]); rw [hb] at hQ; exact hQ)
  · refine w_iload_n (pc := 6) dX1_isDigit_6 rfl ?_
    refine w_bipush (v := 57) (pc := 7) dX1_isDigit_7 rfl ?_
    refine w_icmp_gt 16 (pc := 9) dX1_isDigit_9 (by decide) (fun h9 => ?_) (fun h9 => ?_)
    · refine w_iconst (v := 0) (pc := 16) dX1_isDigit_16 rfl ?_
      refine w_ireturn (pc := 17) dX1_isDigit_17 rfl ?_
      first | (have hb : isDg c = true := (by simp [isDg, h3, h9]); rw [hb] at hQ; exact hQ) | (have hb : isDg c = false := (by simp [isDg, h3, h9]); rw [hb] at hQ; exact hQ)
    · refine w_iconst (v := 1) (pc := 12) dX1_isDigit_12 rfl ?_
      refine w_goto 17 (pc := 13) dX1_isDigit_13 (by decide) ?_
      refine w_ireturn (pc := 17) dX1_isDigit_17 rfl ?_
      first | (have hb : isDg c = true := (by simp [isDg, h3, h9]); rw [hb] at hQ; exact hQ) | (have hb : isDg c = false := (by simp [isDg, h3, h9]); rw [hb] at hQ; exact hQ)
def T_mClear : PT := fun as M Q X => as = [.ref 96] ∧ Full M ∧ Q (some (.int (mI M 96 2))) (sI (sI M 96 0 0) 96 2 0)
theorem c_X6_clear {l : Launch} (hl : l.stackTraces = false) : Con l yX6_clear wX6_clear 0 1 (T_mClear) := by
  refine con_of hl (by decide) ?_ ?_
  · intro as M Q X hpt
    obtain ⟨rfl, hF, hQ⟩ := hpt
    exact Nat.le_of_ble_eq_true rfl
  intro G as M Q X hl' hT hd hpt
  obtain ⟨rfl, hF, hQ⟩ := hpt
  have hG : (gl G).stackTraces = false := by rw [hl']; exact hl
  show PW G RX6 cX6_clear 2 (some .int) Q X 0 0 [(0, .ref 96)] [] M
  refine w_aload_n (pc := 0) dX6_clear_0 rfl ?_
  refine w_iconst (v := 0) (pc := 1) dX6_clear_1 rfl ?_
  refine w_putI (pc := 2) fp_X6_91 hF (by first | assumption | exact ob rfl) rfl dX6_clear_2 ?_
  refine w_aload_n (pc := 5) dX6_clear_5 rfl ?_
  refine w_getI (pc := 6) fl_X6_101 hF (by first | assumption | exact ob rfl) rfl dX6_clear_6 ?_
  refine w_istore_n 1 (pc := 9) rfl dX6_clear_9 (by decide) ?_
  refine w_aload_n (pc := 10) dX6_clear_10 rfl ?_
  refine w_iconst (v := 0) (pc := 11) dX6_clear_11 rfl ?_
  refine w_putI (pc := 12) fp_X6_101 hF (by first | assumption | exact ob rfl) rfl dX6_clear_12 ?_
  refine w_iload_n (pc := 15) dX6_clear_15 rfl ?_
  refine w_ireturn (pc := 16) dX6_clear_16 rfl ?_
  exact hQ
def lookV (M : Mem) (i : Int32) : Int32 := if mI M 96 2 ≤ i then 0 else mI M 97 i.toNatClampNeg
def T_look : PT := fun as M Q X => ∃ i : Int32, as = [.ref 96, .int i] ∧ Full M ∧ (¬ mI M 96 2 ≤ i → vp_in i 40) ∧ Q (some (.int (lookV M i))) M
theorem c_X6_look {l : Launch} (hl : l.stackTraces = false) : Con l yX6_look wX6_look 0 1 (T_look) := by
  refine con_of hl (by decide) ?_ ?_
  · intro as M Q X hpt
    obtain ⟨i, rfl, hF, hin, hQ⟩ := hpt
    exact Nat.le_of_ble_eq_true rfl
  intro G as M Q X hl' hT hd hpt
  obtain ⟨i, rfl, hF, hin, hQ⟩ := hpt
  have hG : (gl G).stackTraces = false := by rw [hl']; exact hl
  show PW G RX6 cX6_look 2 (some .int) Q X 0 0 [(0, .ref 96), (1, .int i)] [] M
  refine w_iload_n (pc := 0) dX6_look_0 rfl ?_
  refine w_aload_n (pc := 1) dX6_look_1 rfl ?_
  refine w_getI (pc := 2) fl_X6_101 hF (by first | assumption | exact ob rfl) rfl dX6_look_2 ?_
  refine w_icmp_ge 17 (pc := 5) dX6_look_5 (by decide) (fun h5 => ?_) (fun h5 => ?_)
  · refine w_iconst (v := 0) (pc := 17) dX6_look_17 rfl ?_
    refine w_ireturn (pc := 18) dX6_look_18 rfl ?_
    unfold lookV at hQ
    (repeat (first | rw [if_pos (by assumption)] at hQ | rw [if_neg (by assumption)] at hQ))
    exact hQ
  · refine w_aload_n (pc := 8) dX6_look_8 rfl ?_
    refine w_getR (b := 97) (pc := 9) fl_X6_7 hF (by first | assumption | exact ob rfl) rfl rfl dX6_look_9 ?_
    refine w_iload_n (pc := 12) dX6_look_12 rfl ?_
    refine w_iald (m := 40) (pc := 13) hF (by first | assumption | exact ar rfl) (hin h5) dX6_look_13 ?_
    refine w_goto 18 (pc := 14) dX6_look_14 (by decide) ?_
    refine w_ireturn (pc := 18) dX6_look_18 rfl ?_
    unfold lookV at hQ
    (repeat (first | rw [if_pos (by assumption)] at hQ | rw [if_neg (by assumption)] at hQ))
    exact hQ
def makeV (M : Mem) (w n : Int32) : Mem := sI (sI (sI M 117 (mI M 96 26).toNatClampNeg w) 118 (mI M 96 26).toNatClampNeg n) 96 26 (mI M 96 26 + 1)
def putV (M : Mem) (w n : Int32) : Mem := sI (sI (sI M 115 (mI M 96 23).toNatClampNeg w) 116 (mI M 96 23).toNatClampNeg n) 96 23 (mI M 96 23 + 1)
def topV (M : Mem) : Int32 := if mI M 96 23 ≤ 0 then 0 else mI M 115 (mI M 96 23 - 1).toNatClampNeg
def T_make : PT := fun as M Q X => ∃ w n : Int32, as = [.ref 96, .int w, .int n] ∧ Full M ∧ vp_in (mI M 96 26) 48 ∧ Q none (makeV M w n)
def T_put : PT := fun as M Q X => ∃ w n : Int32, as = [.ref 96, .int w, .int n] ∧ Full M ∧ vp_in (mI M 96 23) 48 ∧ Q (some (.int 1)) (putV M w n)
def T_top : PT := fun as M Q X => as = [.ref 96] ∧ Full M ∧ (¬ mI M 96 23 ≤ 0 → vp_in (mI M 96 23 - 1) 48) ∧ Q (some (.int (topV M))) M
theorem c_X6_make {l : Launch} (hl : l.stackTraces = false) : Con l yX6_make wX6_make 0 1 (T_make) := by
  refine con_of hl (by decide) ?_ ?_
  · intro as M Q X hpt
    obtain ⟨w, n, rfl, hF, hin, hQ⟩ := hpt
    exact Nat.le_of_ble_eq_true rfl
  intro G as M Q X hl' hT hd hpt
  obtain ⟨w, n, rfl, hF, hin, hQ⟩ := hpt
  have hG : (gl G).stackTraces = false := by rw [hl']; exact hl
  show PW G RX6 cX6_make 3 none Q X 0 0 [(0, .ref 96), (1, .int w), (2, .int n)] [] M
  refine w_aload_n (pc := 0) dX6_make_0 rfl ?_
  refine w_getR (b := 117) (pc := 1) fl_X6_76 hF (by first | assumption | exact ob rfl) rfl rfl dX6_make_1 ?_
  refine w_aload_n (pc := 4) dX6_make_4 rfl ?_
  refine w_getI (pc := 5) fl_X6_104 hF (by first | assumption | exact ob rfl) rfl dX6_make_5 ?_
  refine w_iload_n (pc := 8) dX6_make_8 rfl ?_
  refine w_iast (m := 48) (pc := 9) hF (by first | assumption | exact ar rfl) hin dX6_make_9 ?_
  refine w_aload_n (pc := 10) dX6_make_10 rfl ?_
  refine w_getR (b := 118) (pc := 11) fl_X6_79 hF (by first | assumption | exact ob rfl) rfl rfl dX6_make_11 ?_
  refine w_aload_n (pc := 14) dX6_make_14 rfl ?_
  refine w_getI (pc := 15) fl_X6_104 hF (by first | assumption | exact ob rfl) rfl dX6_make_15 ?_
  refine w_iload_n (pc := 18) dX6_make_18 rfl ?_
  refine w_iast (m := 48) (pc := 19) hF (by first | assumption | exact ar rfl) hin dX6_make_19 ?_
  refine w_aload_n (pc := 20) dX6_make_20 rfl ?_
  refine w_dup (pc := 21) dX6_make_21 rfl ?_
  refine w_getI (pc := 22) fl_X6_104 hF (by first | assumption | exact ob rfl) rfl dX6_make_22 ?_
  refine w_iconst (v := 1) (pc := 25) dX6_make_25 rfl ?_
  refine w_iadd (pc := 26) dX6_make_26 ?_
  refine w_putI (pc := 27) fp_X6_104 hF (by first | assumption | exact ob rfl) rfl dX6_make_27 ?_
  refine w_return (pc := 30) dX6_make_30 ?_
  exact hQ
theorem c_X6_put {l : Launch} (hl : l.stackTraces = false) : Con l yX6_put wX6_put 0 1 (T_put) := by
  refine con_of hl (by decide) ?_ ?_
  · intro as M Q X hpt
    obtain ⟨w, n, rfl, hF, hin, hQ⟩ := hpt
    exact Nat.le_of_ble_eq_true rfl
  intro G as M Q X hl' hT hd hpt
  obtain ⟨w, n, rfl, hF, hin, hQ⟩ := hpt
  have hG : (gl G).stackTraces = false := by rw [hl']; exact hl
  show PW G RX6 cX6_put 3 (some .boolean) Q X 0 0 [(0, .ref 96), (1, .int w), (2, .int n)] [] M
  refine w_aload_n (pc := 0) dX6_put_0 rfl ?_
  refine w_getR (b := 115) (pc := 1) fl_X6_70 hF (by first | assumption | exact ob rfl) rfl rfl dX6_put_1 ?_
  refine w_aload_n (pc := 4) dX6_put_4 rfl ?_
  refine w_getI (pc := 5) fl_X6_107 hF (by first | assumption | exact ob rfl) rfl dX6_put_5 ?_
  refine w_iload_n (pc := 8) dX6_put_8 rfl ?_
  refine w_iast (m := 48) (pc := 9) hF (by first | assumption | exact ar rfl) hin dX6_put_9 ?_
  refine w_aload_n (pc := 10) dX6_put_10 rfl ?_
  refine w_getR (b := 116) (pc := 11) fl_X6_73 hF (by first | assumption | exact ob rfl) rfl rfl dX6_put_11 ?_
  refine w_aload_n (pc := 14) dX6_put_14 rfl ?_
  refine w_getI (pc := 15) fl_X6_107 hF (by first | assumption | exact ob rfl) rfl dX6_put_15 ?_
  refine w_iload_n (pc := 18) dX6_put_18 rfl ?_
  refine w_iast (m := 48) (pc := 19) hF (by first | assumption | exact ar rfl) hin dX6_put_19 ?_
  refine w_aload_n (pc := 20) dX6_put_20 rfl ?_
  refine w_dup (pc := 21) dX6_put_21 rfl ?_
  refine w_getI (pc := 22) fl_X6_107 hF (by first | assumption | exact ob rfl) rfl dX6_put_22 ?_
  refine w_iconst (v := 1) (pc := 25) dX6_put_25 rfl ?_
  refine w_iadd (pc := 26) dX6_put_26 ?_
  refine w_putI (pc := 27) fp_X6_107 hF (by first | assumption | exact ob rfl) rfl dX6_put_27 ?_
  refine w_iconst (v := 1) (pc := 30) dX6_put_30 rfl ?_
  refine w_ireturn (pc := 31) dX6_put_31 rfl ?_
  exact hQ
theorem c_X6_top {l : Launch} (hl : l.stackTraces = false) : Con l yX6_top wX6_top 0 1 (T_top) := by
  refine con_of hl (by decide) ?_ ?_
  · intro as M Q X hpt
    obtain ⟨rfl, hF, hin, hQ⟩ := hpt
    exact Nat.le_of_ble_eq_true rfl
  intro G as M Q X hl' hT hd hpt
  obtain ⟨rfl, hF, hin, hQ⟩ := hpt
  have hG : (gl G).stackTraces = false := by rw [hl']; exact hl
  show PW G RX6 cX6_top 1 (some .int) Q X 0 0 [(0, .ref 96)] [] M
  refine w_aload_n (pc := 0) dX6_top_0 rfl ?_
  refine w_getI (pc := 1) fl_X6_107 hF (by first | assumption | exact ob rfl) rfl dX6_top_1 ?_
  refine w_if_le 21 (pc := 4) dX6_top_4 (by decide) (fun h4 => ?_) (fun h4 => ?_)
  · refine w_iconst (v := 0) (pc := 21) dX6_top_21 rfl ?_
    refine w_ireturn (pc := 22) dX6_top_22 rfl ?_
    unfold topV at hQ
    (repeat (first | rw [if_pos (by assumption)] at hQ | rw [if_neg (by assumption)] at hQ))
    exact hQ
  · refine w_aload_n (pc := 7) dX6_top_7 rfl ?_
    refine w_getR (b := 115) (pc := 8) fl_X6_70 hF (by first | assumption | exact ob rfl) rfl rfl dX6_top_8 ?_
    refine w_aload_n (pc := 11) dX6_top_11 rfl ?_
    refine w_getI (pc := 12) fl_X6_107 hF (by first | assumption | exact ob rfl) rfl dX6_top_12 ?_
    refine w_iconst (v := 1) (pc := 15) dX6_top_15 rfl ?_
    refine w_isub (pc := 16) dX6_top_16 ?_
    refine w_iald (m := 48) (pc := 17) hF (by first | assumption | exact ar rfl) (hin h4) dX6_top_17 ?_
    refine w_goto 22 (pc := 18) dX6_top_18 (by decide) ?_
    refine w_ireturn (pc := 22) dX6_top_22 rfl ?_
    unfold topV at hQ
    (repeat (first | rw [if_pos (by assumption)] at hQ | rw [if_neg (by assumption)] at hQ))
    exact hQ
/-- refused: thrown is c -/
def thr (M : Mem) (c : Int32) : Mem := sI (sI M 96 0 0) 96 0 c
def T_mTotal : PT := fun as M Q X => ∃ x : Int32, as = [.ref 96, .int x] ∧ Full M ∧ (¬ ix x 12 → Q (some (.int 0)) (thr M 1)) ∧ (∀ i, i < 12 → x = nI i → Q (some (.int (mI M 96 8))) (sI (sI M 96 0 0) 96 8 (nI i)))
def T_mInterest : PT := fun as M Q X => ∃ x : Int32, as = [.ref 96, .int x] ∧ Full M ∧ (¬ ix x 31 → Q (some (.int 0)) (thr M 1)) ∧ (∀ i, i < 31 → x = nI i → Q (some (.int (mI M 96 17))) (sI (sI M 96 0 0) 96 17 (nI i)))
theorem c_X6_total {l : Launch} (hl : l.stackTraces = false) : Con l yX6_total wX6_total 0 2 (T_mTotal) := by
  refine con_of hl (by decide) ?_ ?_
  · intro as M Q X hpt
    obtain ⟨x, rfl, hF, hX, hQ⟩ := hpt
    exact Nat.le_of_ble_eq_true rfl
  intro G as M Q X hl' hT hd hpt
  obtain ⟨x, rfl, hF, hX, hQ⟩ := hpt
  have hG : (gl G).stackTraces = false := by rw [hl']; exact hl
  show PW G RX6 cX6_total 3 (some .int) Q X 0 0 [(0, .ref 96), (1, .int x)] [] M
  refine w_aload_n (pc := 0) dX6_total_0 rfl ?_
  refine w_iconst (v := 0) (pc := 1) dX6_total_1 rfl ?_
  refine w_putI (pc := 2) fp_X6_91 hF (by first | assumption | exact ob rfl) rfl dX6_total_2 ?_
  refine w_iload_n (pc := 5) dX6_total_5 rfl ?_
  refine w_i2l (pc := 6) dX6_total_6 ?_
  refine w_lconst (v := 0) (pc := 7) dX6_total_7 rfl ?_
  refine w_ldc2 (pc := 8) kl_X6_161 dX6_total_8 ?_
  refine w_callS3 (n' := 0) (pc := 11) (c_X6_in hG) cs_X6_137 hT (by omega) (by decide) (Nat.le_of_ble_eq_true rfl) dX6_total_11 ?_
  refine ⟨_, _, _, rfl, ?_⟩
  dsimp only [psh]
  refine w_if_ne 23 (pc := 14) dX6_total_14 (by decide) (fun h14 => ?_) (fun h14 => ?_)
  · obtain ⟨i, hi, rfl⟩ := ix_in (n := 11) (N := 11) rfl (by decide) (in_t (lo := 0) (hi := 11) rfl rfl h14)
    refine w_aload_n (pc := 23) dX6_total_23 rfl ?_
    refine w_getI (pc := 24) fl_X6_29 hF (by first | assumption | exact ob rfl) rfl dX6_total_24 ?_
    refine w_istore_n 2 (pc := 27) rfl dX6_total_27 (by decide) ?_
    refine w_aload_n (pc := 28) dX6_total_28 rfl ?_
    refine w_iload_n (pc := 29) dX6_total_29 rfl ?_
    refine w_putI (pc := 30) fp_X6_29 hF (by first | assumption | exact ob rfl) rfl dX6_total_30 ?_
    refine w_iload_n (pc := 33) dX6_total_33 rfl ?_
    refine w_ireturn (pc := 34) dX6_total_34 rfl ?_
    exact hQ i hi rfl
  · have hx14 := ix_out (n := 11) (N := 11) rfl (by decide) (in_f (lo := 0) (hi := 11) rfl rfl h14)
    refine w_aload_n (pc := 17) dX6_total_17 rfl ?_
    refine w_iconst (v := 1) (pc := 18) dX6_total_18 rfl ?_
    refine w_callV1 (n' := 0) (pc := 19) (c_X6_refuse hG) cv_X6_163 (by first | assumption | exact ob rfl) hF hT (by omega) (by decide) (Nat.le_of_ble_eq_true rfl) dX6_total_19 ?_
    refine ⟨_, rfl, hF, ?_⟩
    dsimp only [psh]
    refine w_ireturn (pc := 22) dX6_total_22 rfl ?_
    exact hX hx14
theorem c_X6_interest {l : Launch} (hl : l.stackTraces = false) : Con l yX6_interest wX6_interest 0 2 (T_mInterest) := by
  refine con_of hl (by decide) ?_ ?_
  · intro as M Q X hpt
    obtain ⟨x, rfl, hF, hX, hQ⟩ := hpt
    exact Nat.le_of_ble_eq_true rfl
  intro G as M Q X hl' hT hd hpt
  obtain ⟨x, rfl, hF, hX, hQ⟩ := hpt
  have hG : (gl G).stackTraces = false := by rw [hl']; exact hl
  show PW G RX6 cX6_interest 3 (some .int) Q X 0 0 [(0, .ref 96), (1, .int x)] [] M
  refine w_aload_n (pc := 0) dX6_interest_0 rfl ?_
  refine w_iconst (v := 0) (pc := 1) dX6_interest_1 rfl ?_
  refine w_putI (pc := 2) fp_X6_91 hF (by first | assumption | exact ob rfl) rfl dX6_interest_2 ?_
  refine w_iload_n (pc := 5) dX6_interest_5 rfl ?_
  refine w_i2l (pc := 6) dX6_interest_6 ?_
  refine w_lconst (v := 0) (pc := 7) dX6_interest_7 rfl ?_
  refine w_ldc2 (pc := 8) kl_X6_219 dX6_interest_8 ?_
  refine w_callS3 (n' := 0) (pc := 11) (c_X6_in hG) cs_X6_137 hT (by omega) (by decide) (Nat.le_of_ble_eq_true rfl) dX6_interest_11 ?_
  refine ⟨_, _, _, rfl, ?_⟩
  dsimp only [psh]
  refine w_if_ne 23 (pc := 14) dX6_interest_14 (by decide) (fun h14 => ?_) (fun h14 => ?_)
  · obtain ⟨i, hi, rfl⟩ := ix_in (n := 30) (N := 30) rfl (by decide) (in_t (lo := 0) (hi := 30) rfl rfl h14)
    refine w_aload_n (pc := 23) dX6_interest_23 rfl ?_
    refine w_getI (pc := 24) fl_X6_221 hF (by first | assumption | exact ob rfl) rfl dX6_interest_24 ?_
    refine w_istore_n 2 (pc := 27) rfl dX6_interest_27 (by decide) ?_
    refine w_aload_n (pc := 28) dX6_interest_28 rfl ?_
    refine w_iload_n (pc := 29) dX6_interest_29 rfl ?_
    refine w_putI (pc := 30) fp_X6_221 hF (by first | assumption | exact ob rfl) rfl dX6_interest_30 ?_
    refine w_iload_n (pc := 33) dX6_interest_33 rfl ?_
    refine w_ireturn (pc := 34) dX6_interest_34 rfl ?_
    exact hQ i hi rfl
  · have hx14 := ix_out (n := 30) (N := 30) rfl (by decide) (in_f (lo := 0) (hi := 30) rfl rfl h14)
    refine w_aload_n (pc := 17) dX6_interest_17 rfl ?_
    refine w_iconst (v := 1) (pc := 18) dX6_interest_18 rfl ?_
    refine w_callV1 (n' := 0) (pc := 19) (c_X6_refuse hG) cv_X6_163 (by first | assumption | exact ob rfl) hF hT (by omega) (by decide) (Nat.le_of_ble_eq_true rfl) dX6_interest_19 ?_
    refine ⟨_, rfl, hF, ?_⟩
    dsimp only [psh]
    refine w_ireturn (pc := 22) dX6_interest_22 rfl ?_
    exact hX hx14
def T_mInput : PT := fun as M Q X => ∃ x : Int32, as = [.ref 96, .int x] ∧ Full M ∧ (∀ i, i < 12 → mI M 98 i = 0 ∨ mI M 98 i = 1) ∧ (¬ ix x 12 → Q (some (.int 0)) (thr M 1)) ∧ (∀ i, i < 12 → x = nI i → Q (some (.int (mI M 98 i))) (sI (sI M 96 0 0) 98 i 0))
theorem c_X6_input {l : Launch} (hl : l.stackTraces = false) : Con l yX6_input wX6_input 0 2 (T_mInput) := by
  refine con_of hl (by decide) ?_ ?_
  · intro as M Q X hpt
    obtain ⟨x, rfl, hF, h01, hX, hQ⟩ := hpt
    exact Nat.le_of_ble_eq_true rfl
  intro G as M Q X hl' hT hd hpt
  obtain ⟨x, rfl, hF, h01, hX, hQ⟩ := hpt
  have hG : (gl G).stackTraces = false := by rw [hl']; exact hl
  show PW G RX6 cX6_input 3 (some .boolean) Q X 0 0 [(0, .ref 96), (1, .int x)] [] M
  refine w_aload_n (pc := 0) dX6_input_0 rfl ?_
  refine w_iconst (v := 0) (pc := 1) dX6_input_1 rfl ?_
  refine w_putI (pc := 2) fp_X6_91 hF (by first | assumption | exact ob rfl) rfl dX6_input_2 ?_
  refine w_iload_n (pc := 5) dX6_input_5 rfl ?_
  refine w_i2l (pc := 6) dX6_input_6 ?_
  refine w_lconst (v := 0) (pc := 7) dX6_input_7 rfl ?_
  refine w_ldc2 (pc := 8) kl_X6_161 dX6_input_8 ?_
  refine w_callS3 (n' := 0) (pc := 11) (c_X6_in hG) cs_X6_137 hT (by omega) (by decide) (Nat.le_of_ble_eq_true rfl) dX6_input_11 ?_
  refine ⟨_, _, _, rfl, ?_⟩
  dsimp only [psh]
  refine w_if_ne 31 (pc := 14) dX6_input_14 (by decide) (fun h14 => ?_) (fun h14 => ?_)
  · obtain ⟨i, hi, rfl⟩ := ix_in (n := 11) (N := 11) rfl (by decide) (in_t (lo := 0) (hi := 11) rfl rfl h14)
    refine w_aload_n (pc := 31) dX6_input_31 rfl ?_
    refine w_getR (b := 98) (pc := 32) fl_X6_13 hF (by first | assumption | exact ob rfl) rfl rfl dX6_input_32 ?_
    refine w_iload_n (pc := 35) dX6_input_35 rfl ?_
    refine w_zald (m := 12) (pc := 36) hF (by first | assumption | exact ar rfl) (vin hi (by decide)) dX6_input_36 ?_
    refine w_istore_n 2 (pc := 37) rfl dX6_input_37 (by decide) ?_
    refine w_aload_n (pc := 38) dX6_input_38 rfl ?_
    refine w_getR (b := 98) (pc := 39) fl_X6_13 hF (by first | assumption | exact ob rfl) rfl rfl dX6_input_39 ?_
    refine w_iload_n (pc := 42) dX6_input_42 rfl ?_
    refine w_iconst (v := 0) (pc := 43) dX6_input_43 rfl ?_
    refine w_zast (m := 12) (pc := 44) hF (by first | assumption | exact ar rfl) (vin hi (by decide)) (by first | exact Or.inl rfl | exact Or.inr rfl | assumption) dX6_input_44 ?_
    refine w_iload_n (pc := 45) dX6_input_45 rfl ?_
    refine w_ireturn (pc := 46) dX6_input_46 (by have e := clN (i := i) (by omega); rw [e]; rcases h01 i hi with h | h <;> (show narrow .boolean (.int (mI M 98 i)) = .int (mI M 98 i); rw [h]; rfl)) ?_
    have e := clN (i := i) (by omega)
    rw [e]
    exact hQ i hi rfl
  · have hx14 := ix_out (n := 11) (N := 11) rfl (by decide) (in_f (lo := 0) (hi := 11) rfl rfl h14)
    refine w_aload_n (pc := 17) dX6_input_17 rfl ?_
    refine w_iconst (v := 1) (pc := 18) dX6_input_18 rfl ?_
    refine w_callV1 (n' := 0) (pc := 19) (c_X6_refuse hG) cv_X6_163 (by first | assumption | exact ob rfl) hF hT (by omega) (by decide) (Nat.le_of_ble_eq_true rfl) dX6_input_19 ?_
    refine ⟨_, rfl, hF, ?_⟩
    dsimp only [psh]
    refine w_if_le 29 (pc := 22) dX6_input_22 (by decide) (fun h22 => ?_) (fun h22 => ?_)
    · refine w_iconst (v := 0) (pc := 29) dX6_input_29 rfl ?_
      refine w_ireturn (pc := 30) dX6_input_30 rfl ?_
      exact hX hx14
    · exact absurd h22 (by decide)
def T_mReset : PT := fun as M Q X => ∃ x y : Int32, as = [.ref 96, .int x, .int y] ∧ Full M ∧ (¬ ix x 3 → Q (some (.int 0)) (thr M 1)) ∧ (ix x 3 → ¬ ix y 3 → Q (some (.int 0)) (thr M 2)) ∧ (∀ i j, i < 3 → j < 3 → x = nI i → y = nI j → Q (some (.int (mI M 103 i))) (sI (sI (sI M 96 0 0) 103 i 0) 106 i (nI j)))
theorem c_X6_reset {l : Launch} (hl : l.stackTraces = false) : Con l yX6_reset wX6_reset 0 2 (T_mReset) := by
  refine con_of hl (by decide) ?_ ?_
  · intro as M Q X hpt
    obtain ⟨x, y, rfl, hF, hX1, hX2, hQ⟩ := hpt
    exact Nat.le_of_ble_eq_true rfl
  intro G as M Q X hl' hT hd hpt
  obtain ⟨x, y, rfl, hF, hX1, hX2, hQ⟩ := hpt
  have hG : (gl G).stackTraces = false := by rw [hl']; exact hl
  show PW G RX6 cX6_reset 4 (some .int) Q X 0 0 [(0, .ref 96), (1, .int x), (2, .int y)] [] M
  refine w_aload_n (pc := 0) dX6_reset_0 rfl ?_
  refine w_iconst (v := 0) (pc := 1) dX6_reset_1 rfl ?_
  refine w_putI (pc := 2) fp_X6_91 hF (by first | assumption | exact ob rfl) rfl dX6_reset_2 ?_
  refine w_iload_n (pc := 5) dX6_reset_5 rfl ?_
  refine w_i2l (pc := 6) dX6_reset_6 ?_
  refine w_lconst (v := 0) (pc := 7) dX6_reset_7 rfl ?_
  refine w_ldc2 (pc := 8) kl_X6_135 dX6_reset_8 ?_
  refine w_callS3 (n' := 0) (pc := 11) (c_X6_in hG) cs_X6_137 hT (by omega) (by decide) (Nat.le_of_ble_eq_true rfl) dX6_reset_11 ?_
  refine ⟨_, _, _, rfl, ?_⟩
  dsimp only [psh]
  refine w_if_ne 23 (pc := 14) dX6_reset_14 (by decide) (fun h14 => ?_) (fun h14 => ?_)
  · obtain ⟨i, hi, rfl⟩ := ix_in (n := 2) (N := 2) rfl (by decide) (in_t (lo := 0) (hi := 2) rfl rfl h14)
    refine w_iload_n (pc := 23) dX6_reset_23 rfl ?_
    refine w_i2l (pc := 24) dX6_reset_24 ?_
    refine w_lconst (v := 0) (pc := 25) dX6_reset_25 rfl ?_
    refine w_ldc2 (pc := 26) kl_X6_135 dX6_reset_26 ?_
    refine w_callS3 (n' := 0) (pc := 29) (c_X6_in hG) cs_X6_137 hT (by omega) (by decide) (Nat.le_of_ble_eq_true rfl) dX6_reset_29 ?_
    refine ⟨_, _, _, rfl, ?_⟩
    dsimp only [psh]
    refine w_if_ne 41 (pc := 32) dX6_reset_32 (by decide) (fun h32 => ?_) (fun h32 => ?_)
    · obtain ⟨j, hj, rfl⟩ := ix_in (n := 2) (N := 2) rfl (by decide) (in_t (lo := 0) (hi := 2) rfl rfl h32)
      refine w_aload_n (pc := 41) dX6_reset_41 rfl ?_
      refine w_getR (b := 103) (pc := 42) fl_X6_33 hF (by first | assumption | exact ob rfl) rfl rfl dX6_reset_42 ?_
      refine w_iload_n (pc := 45) dX6_reset_45 rfl ?_
      refine w_iald (m := 3) (pc := 46) hF (by first | assumption | exact ar rfl) (vin hi (by decide)) dX6_reset_46 ?_
      refine w_istore_n 3 (pc := 47) rfl dX6_reset_47 (by decide) ?_
      refine w_aload_n (pc := 48) dX6_reset_48 rfl ?_
      refine w_getR (b := 103) (pc := 49) fl_X6_33 hF (by first | assumption | exact ob rfl) rfl rfl dX6_reset_49 ?_
      refine w_iload_n (pc := 52) dX6_reset_52 rfl ?_
      refine w_iconst (v := 0) (pc := 53) dX6_reset_53 rfl ?_
      refine w_iast (m := 3) (pc := 54) hF (by first | assumption | exact ar rfl) (vin hi (by decide)) dX6_reset_54 ?_
      refine w_aload_n (pc := 55) dX6_reset_55 rfl ?_
      refine w_getR (b := 106) (pc := 56) fl_X6_42 hF (by first | assumption | exact ob rfl) rfl rfl dX6_reset_56 ?_
      refine w_iload_n (pc := 59) dX6_reset_59 rfl ?_
      refine w_iload_n (pc := 60) dX6_reset_60 rfl ?_
      refine w_iast (m := 3) (pc := 61) hF (by first | assumption | exact ar rfl) (vin hi (by decide)) dX6_reset_61 ?_
      refine w_iload_n (pc := 62) dX6_reset_62 rfl ?_
      refine w_ireturn (pc := 63) dX6_reset_63 rfl ?_
      have e := clN (i := i) (by omega)
      rw [e]
      exact hQ i j hi hj rfl rfl
    · have hx32 := ix_out (n := 2) (N := 2) rfl (by decide) (in_f (lo := 0) (hi := 2) rfl rfl h32)
      refine w_aload_n (pc := 35) dX6_reset_35 rfl ?_
      refine w_iconst (v := 2) (pc := 36) dX6_reset_36 rfl ?_
      refine w_callV1 (n' := 0) (pc := 37) (c_X6_refuse hG) cv_X6_163 (by first | assumption | exact ob rfl) hF hT (by omega) (by decide) (Nat.le_of_ble_eq_true rfl) dX6_reset_37 ?_
      refine ⟨_, rfl, hF, ?_⟩
      dsimp only [psh]
      refine w_ireturn (pc := 40) dX6_reset_40 rfl ?_
      exact hX2 ⟨i, hi, rfl⟩ hx32
  · have hx14 := ix_out (n := 2) (N := 2) rfl (by decide) (in_f (lo := 0) (hi := 2) rfl rfl h14)
    refine w_aload_n (pc := 17) dX6_reset_17 rfl ?_
    refine w_iconst (v := 1) (pc := 18) dX6_reset_18 rfl ?_
    refine w_callV1 (n' := 0) (pc := 19) (c_X6_refuse hG) cv_X6_163 (by first | assumption | exact ob rfl) hF hT (by omega) (by decide) (Nat.le_of_ble_eq_true rfl) dX6_reset_19 ?_
    refine ⟨_, rfl, hF, ?_⟩
    dsimp only [psh]
    refine w_ireturn (pc := 22) dX6_reset_22 rfl ?_
    exact hX1 hx14
def brOk (M : Mem) (i k : Nat) (b r : Int32) : Prop := (¬ b < 0 ∧ ¬ 1000000000 < b) ∧ (k = 0 ∨ mI M 104 (4 * i + k - 1) < b) ∧ (¬ r < 0 ∧ ¬ 1000 < r)
def T_mBracket : PT := fun as M Q X => ∃ x b r : Int32, as = [.ref 96, .int x, .int b, .int r] ∧ Full M ∧ (¬ ix x 3 → Q (some (.int 0)) (thr M 1)) ∧ (∀ i, i < 3 → x = nI i → ∃ k, k ≤ 4 ∧ mI M 103 i = nI k ∧ (¬ brOk M i k b r → Q (some (.int 0)) (thr M 2)) ∧ (brOk M i k b r → k = 4 → Q (some (.int 0)) (thr M 3)) ∧ (brOk M i k b r → k < 4 → Q (some (.int (nI (k + 1)))) (sI (sI (sI (sI M 96 0 0) 104 (4 * i + k) b) 105 (4 * i + k) r) 103 i (nI (k + 1)))))
theorem c_X6_bracket {l : Launch} (hl : l.stackTraces = false) : Con l yX6_bracket wX6_bracket 0 2 (T_mBracket) := by
  refine con_of hl (by decide) ?_ ?_
  · intro as M Q X hpt
    obtain ⟨x, b, r, rfl, hF, hX1, hQ0⟩ := hpt
    exact Nat.le_of_ble_eq_true rfl
  intro G as M Q X hl' hT hd hpt
  obtain ⟨x, b, r, rfl, hF, hX1, hQ0⟩ := hpt
  have hG : (gl G).stackTraces = false := by rw [hl']; exact hl
  show PW G RX6 cX6_bracket 6 (some .int) Q X 0 0 [(0, .ref 96), (1, .int x), (2, .int b), (3, .int r)] [] M
  refine w_aload_n (pc := 0) dX6_bracket_0 rfl ?_
  refine w_iconst (v := 0) (pc := 1) dX6_bracket_1 rfl ?_
  refine w_putI (pc := 2) fp_X6_91 hF (by first | assumption | exact ob rfl) rfl dX6_bracket_2 ?_
  refine w_iload_n (pc := 5) dX6_bracket_5 rfl ?_
  refine w_i2l (pc := 6) dX6_bracket_6 ?_
  refine w_lconst (v := 0) (pc := 7) dX6_bracket_7 rfl ?_
  refine w_ldc2 (pc := 8) kl_X6_135 dX6_bracket_8 ?_
  refine w_callS3 (n' := 0) (pc := 11) (c_X6_in hG) cs_X6_137 hT (by omega) (by decide) (Nat.le_of_ble_eq_true rfl) dX6_bracket_11 ?_
  refine ⟨_, _, _, rfl, ?_⟩
  dsimp only [psh]
  refine w_if_ne 23 (pc := 14) dX6_bracket_14 (by decide) (fun h14 => ?_) (fun h14 => ?_)
  · obtain ⟨i, hi, rfl⟩ := ix_in (n := 2) (N := 2) rfl (by decide) (in_t (lo := 0) (hi := 2) rfl rfl h14)
    obtain ⟨k, hk, ek, hX2, hX3, hQ⟩ := hQ0 i hi rfl
    have e := clN (i := i) (by omega)
    have ek2 : mI (sI M 96 0 0) 103 (nI i).toNatClampNeg = nI k := by rw [e]; exact ek
    refine w_aload_n (pc := 23) dX6_bracket_23 rfl ?_
    refine w_getR (b := 103) (pc := 24) fl_X6_33 hF (by first | assumption | exact ob rfl) rfl rfl dX6_bracket_24 ?_
    refine w_iload_n (pc := 27) dX6_bracket_27 rfl ?_
    refine w_iald (m := 3) (pc := 28) hF (by first | assumption | exact ar rfl) (vin hi (by decide)) dX6_bracket_28 ?_
    refine w_istore 4 (pc := 29) dX6_bracket_29 (by decide) ?_
    refine w_iload (pc := 31) dX6_bracket_31 rfl ?_
    refine w_if_eq 53 (pc := 33) dX6_bracket_33 (by decide) (fun h33 => ?_) (fun h33 => ?_)
    · have k0 : k = 0 := by rw [ek2, show (0 : Int32) = nI 0 from rfl, nI_eq (by omega) (by omega)] at h33; exact h33
      refine w_iconst (v := 1) (pc := 53) dX6_bracket_53 rfl ?_
      refine w_goto 58 (pc := 54) dX6_bracket_54 (by decide) ?_
      refine w_istore 5 (pc := 58) dX6_bracket_58 (by decide) ?_
      refine w_iload_n (pc := 60) dX6_bracket_60 rfl ?_
      refine w_i2l (pc := 61) dX6_bracket_61 ?_
      refine w_lconst (v := 0) (pc := 62) dX6_bracket_62 rfl ?_
      refine w_ldc2 (pc := 63) kl_X6_169 dX6_bracket_63 ?_
      refine w_callS3 (n' := 0) (pc := 66) (c_X6_in hG) cs_X6_137 hT (by omega) (by decide) (Nat.le_of_ble_eq_true rfl) dX6_bracket_66 ?_
      refine ⟨_, _, _, rfl, ?_⟩
      dsimp only [psh]
      refine w_if_eq 89 (pc := 69) dX6_bracket_69 (by decide) (fun h69 => ?_) (fun h69 => ?_)
      · have hb := in_f (lo := 0) (hi := 1000000000) rfl rfl h69
        refine w_aload_n (pc := 89) dX6_bracket_89 rfl ?_
        refine w_iconst (v := 2) (pc := 90) dX6_bracket_90 rfl ?_
        refine w_callV1 (n' := 0) (pc := 91) (c_X6_refuse hG) cv_X6_163 (by first | assumption | exact ob rfl) hF hT (by omega) (by decide) (Nat.le_of_ble_eq_true rfl) dX6_bracket_91 ?_
        refine ⟨_, rfl, hF, ?_⟩
        dsimp only [psh]
        refine w_ireturn (pc := 94) dX6_bracket_94 rfl ?_
        exact hX2 (fun q => by first | (rcases hb with h | h; exact q.1.1 h; exact q.1.2 h) | (rcases hr with h | h; exact q.2.2.1 h; exact q.2.2.2 h) | (rcases q.2.1 with h | h; exact absurd h (by omega); exact absurd h (Int32.not_lt.mpr h50)) | exact absurd rfl h74 | exact absurd h74 (by decide))
      · have hb := in_t (lo := 0) (hi := 1000000000) rfl rfl h69
        refine w_iload (pc := 72) dX6_bracket_72 rfl ?_
        refine w_if_eq 89 (pc := 74) dX6_bracket_74 (by decide) (fun h74 => ?_) (fun h74 => ?_)
        · refine w_aload_n (pc := 89) dX6_bracket_89 rfl ?_
          refine w_iconst (v := 2) (pc := 90) dX6_bracket_90 rfl ?_
          refine w_callV1 (n' := 0) (pc := 91) (c_X6_refuse hG) cv_X6_163 (by first | assumption | exact ob rfl) hF hT (by omega) (by decide) (Nat.le_of_ble_eq_true rfl) dX6_bracket_91 ?_
          refine ⟨_, rfl, hF, ?_⟩
          dsimp only [psh]
          refine w_ireturn (pc := 94) dX6_bracket_94 rfl ?_
          exact hX2 (fun q => by first | (rcases hb with h | h; exact q.1.1 h; exact q.1.2 h) | (rcases hr with h | h; exact q.2.2.1 h; exact q.2.2.2 h) | (rcases q.2.1 with h | h; exact absurd h (by omega); exact absurd h (Int32.not_lt.mpr h50)) | exact absurd rfl h74 | exact absurd h74 (by decide))
        · refine w_iload_n (pc := 77) dX6_bracket_77 rfl ?_
          refine w_i2l (pc := 78) dX6_bracket_78 ?_
          refine w_lconst (v := 0) (pc := 79) dX6_bracket_79 rfl ?_
          refine w_ldc2 (pc := 80) kl_X6_171 dX6_bracket_80 ?_
          refine w_callS3 (n' := 0) (pc := 83) (c_X6_in hG) cs_X6_137 hT (by omega) (by decide) (Nat.le_of_ble_eq_true rfl) dX6_bracket_83 ?_
          refine ⟨_, _, _, rfl, ?_⟩
          dsimp only [psh]
          refine w_if_ne 95 (pc := 86) dX6_bracket_86 (by decide) (fun h86 => ?_) (fun h86 => ?_)
          · have hr := in_t (lo := 0) (hi := 1000) rfl rfl h86
            refine w_iload (pc := 95) dX6_bracket_95 rfl ?_
            refine w_iconst (v := 4) (pc := 97) dX6_bracket_97 rfl ?_
            refine w_icmp_ne 107 (pc := 98) dX6_bracket_98 (by decide) (fun h98 => ?_) (fun h98 => ?_)
            · have k4 : k < 4 := by rw [ek2, show (4 : Int32) = nI 4 from rfl, nI_eq (by omega) (by omega)] at h98; omega
              have ei : (4 : Int32) * nI i + mI (sI M 96 0 0) 103 (nI i).toNatClampNeg = nI (4 * i + k) := by rw [ek2, cm4]
              refine w_aload_n (pc := 107) dX6_bracket_107 rfl ?_
              refine w_getR (b := 104) (pc := 108) fl_X6_36 hF (by first | assumption | exact ob rfl) rfl rfl dX6_bracket_108 ?_
              refine w_iconst (v := 4) (pc := 111) dX6_bracket_111 rfl ?_
              refine w_iload_n (pc := 112) dX6_bracket_112 rfl ?_
              refine w_imul (pc := 113) dX6_bracket_113 ?_
              refine w_iload (pc := 114) dX6_bracket_114 rfl ?_
              refine w_iadd (pc := 116) dX6_bracket_116 ?_
              refine w_iload_n (pc := 117) dX6_bracket_117 rfl ?_
              refine w_iast (m := 12) (pc := 118) hF (by first | assumption | exact ar rfl) (by rw [ei]; exact vin (by omega) (by decide)) dX6_bracket_118 ?_
              refine w_aload_n (pc := 119) dX6_bracket_119 rfl ?_
              refine w_getR (b := 105) (pc := 120) fl_X6_39 hF (by first | assumption | exact ob rfl) rfl rfl dX6_bracket_120 ?_
              refine w_iconst (v := 4) (pc := 123) dX6_bracket_123 rfl ?_
              refine w_iload_n (pc := 124) dX6_bracket_124 rfl ?_
              refine w_imul (pc := 125) dX6_bracket_125 ?_
              refine w_iload (pc := 126) dX6_bracket_126 rfl ?_
              refine w_iadd (pc := 128) dX6_bracket_128 ?_
              refine w_iload_n (pc := 129) dX6_bracket_129 rfl ?_
              refine w_iast (m := 12) (pc := 130) hF (by first | assumption | exact ar rfl) (by rw [ei]; exact vin (by omega) (by decide)) dX6_bracket_130 ?_
              refine w_aload_n (pc := 131) dX6_bracket_131 rfl ?_
              refine w_getR (b := 103) (pc := 132) fl_X6_33 hF (by first | assumption | exact ob rfl) rfl rfl dX6_bracket_132 ?_
              refine w_iload_n (pc := 135) dX6_bracket_135 rfl ?_
              refine w_dup2_11 (pc := 136) dX6_bracket_136 rfl rfl ?_
              refine w_iald (m := 3) (pc := 137) hF (by first | assumption | exact ar rfl) (vin hi (by decide)) dX6_bracket_137 ?_
              refine w_iconst (v := 1) (pc := 138) dX6_bracket_138 rfl ?_
              refine w_iadd (pc := 139) dX6_bracket_139 ?_
              refine w_iast (m := 3) (pc := 140) hF (by first | assumption | exact ar rfl) (vin hi (by decide)) dX6_bracket_140 ?_
              refine w_iload (pc := 141) dX6_bracket_141 rfl ?_
              refine w_iconst (v := 1) (pc := 143) dX6_bracket_143 rfl ?_
              refine w_iadd (pc := 144) dX6_bracket_144 ?_
              refine w_ireturn (pc := 145) dX6_bracket_145 rfl ?_
              first | exact absurd rfl h74 | exact absurd h74 (by decide) | (have e2 : (nI (4 * i + k)).toNatClampNeg = 4 * i + k := clN (by omega); have hq := hQ ⟨hb, (by first | exact Or.inl k0 | exact Or.inr (Int32.not_le.mp h50)), hr⟩ k4; have e3 : mI (sI (sI (sI M 96 0 0) 104 (4 * i + k) b) 105 (4 * i + k) r) 103 i = nI k := ek; rw [ei, e2, ek2, nI_1, e, e3, nI_1]; exact hq)
            · have k4 : k = 4 := by rw [ek2, show (4 : Int32) = nI 4 from rfl, nI_eq (by omega) (by omega)] at h98; exact h98
              refine w_aload_n (pc := 101) dX6_bracket_101 rfl ?_
              refine w_iconst (v := 3) (pc := 102) dX6_bracket_102 rfl ?_
              refine w_callV1 (n' := 0) (pc := 103) (c_X6_refuse hG) cv_X6_163 (by first | assumption | exact ob rfl) hF hT (by omega) (by decide) (Nat.le_of_ble_eq_true rfl) dX6_bracket_103 ?_
              refine ⟨_, rfl, hF, ?_⟩
              dsimp only [psh]
              refine w_ireturn (pc := 106) dX6_bracket_106 rfl ?_
              first | exact absurd rfl h74 | exact absurd h74 (by decide) | exact hX3 ⟨hb, (by first | exact Or.inl k0 | exact Or.inr (Int32.not_le.mp h50)), hr⟩ k4
          · have hr := in_f (lo := 0) (hi := 1000) rfl rfl h86
            refine w_aload_n (pc := 89) dX6_bracket_89 rfl ?_
            refine w_iconst (v := 2) (pc := 90) dX6_bracket_90 rfl ?_
            refine w_callV1 (n' := 0) (pc := 91) (c_X6_refuse hG) cv_X6_163 (by first | assumption | exact ob rfl) hF hT (by omega) (by decide) (Nat.le_of_ble_eq_true rfl) dX6_bracket_91 ?_
            refine ⟨_, rfl, hF, ?_⟩
            dsimp only [psh]
            refine w_ireturn (pc := 94) dX6_bracket_94 rfl ?_
            exact hX2 (fun q => by first | (rcases hb with h | h; exact q.1.1 h; exact q.1.2 h) | (rcases hr with h | h; exact q.2.2.1 h; exact q.2.2.2 h) | (rcases q.2.1 with h | h; exact absurd h (by omega); exact absurd h (Int32.not_lt.mpr h50)) | exact absurd rfl h74 | exact absurd h74 (by decide))
    · have k1 : 1 ≤ k := by rw [ek2, show (0 : Int32) = nI 0 from rfl, nI_eq (by omega) (by omega)] at h33; omega
      have eb : ((4 : Int32) * nI i + mI (sI M 96 0 0) 103 (nI i).toNatClampNeg - 1).toNatClampNeg = 4 * i + k - 1 := by rw [ek2, cm4, sb1 (by omega), clN (by omega)]
      refine w_iload_n (pc := 36) dX6_bracket_36 rfl ?_
      refine w_aload_n (pc := 37) dX6_bracket_37 rfl ?_
      refine w_getR (b := 104) (pc := 38) fl_X6_36 hF (by first | assumption | exact ob rfl) rfl rfl dX6_bracket_38 ?_
      refine w_iconst (v := 4) (pc := 41) dX6_bracket_41 rfl ?_
      refine w_iload_n (pc := 42) dX6_bracket_42 rfl ?_
      refine w_imul (pc := 43) dX6_bracket_43 ?_
      refine w_iload (pc := 44) dX6_bracket_44 rfl ?_
      refine w_iadd (pc := 46) dX6_bracket_46 ?_
      refine w_iconst (v := 1) (pc := 47) dX6_bracket_47 rfl ?_
      refine w_isub (pc := 48) dX6_bracket_48 ?_
      refine w_iald (m := 12) (pc := 49) hF (by first | assumption | exact ar rfl) (by rw [ek2, cm4, sb1 (by omega)]; exact vin (by omega) (by decide)) dX6_bracket_49 ?_
      refine w_icmp_le 57 (pc := 50) dX6_bracket_50 (by decide) (fun h50 => ?_) (fun h50 => ?_)
      · rw [eb] at h50
        refine w_iconst (v := 0) (pc := 57) dX6_bracket_57 rfl ?_
        refine w_istore 5 (pc := 58) dX6_bracket_58 (by decide) ?_
        refine w_iload_n (pc := 60) dX6_bracket_60 rfl ?_
        refine w_i2l (pc := 61) dX6_bracket_61 ?_
        refine w_lconst (v := 0) (pc := 62) dX6_bracket_62 rfl ?_
        refine w_ldc2 (pc := 63) kl_X6_169 dX6_bracket_63 ?_
        refine w_callS3 (n' := 0) (pc := 66) (c_X6_in hG) cs_X6_137 hT (by omega) (by decide) (Nat.le_of_ble_eq_true rfl) dX6_bracket_66 ?_
        refine ⟨_, _, _, rfl, ?_⟩
        dsimp only [psh]
        refine w_if_eq 89 (pc := 69) dX6_bracket_69 (by decide) (fun h69 => ?_) (fun h69 => ?_)
        · have hb := in_f (lo := 0) (hi := 1000000000) rfl rfl h69
          refine w_aload_n (pc := 89) dX6_bracket_89 rfl ?_
          refine w_iconst (v := 2) (pc := 90) dX6_bracket_90 rfl ?_
          refine w_callV1 (n' := 0) (pc := 91) (c_X6_refuse hG) cv_X6_163 (by first | assumption | exact ob rfl) hF hT (by omega) (by decide) (Nat.le_of_ble_eq_true rfl) dX6_bracket_91 ?_
          refine ⟨_, rfl, hF, ?_⟩
          dsimp only [psh]
          refine w_ireturn (pc := 94) dX6_bracket_94 rfl ?_
          exact hX2 (fun q => by first | (rcases hb with h | h; exact q.1.1 h; exact q.1.2 h) | (rcases hr with h | h; exact q.2.2.1 h; exact q.2.2.2 h) | (rcases q.2.1 with h | h; exact absurd h (by omega); exact absurd h (Int32.not_lt.mpr h50)) | exact absurd rfl h74 | exact absurd h74 (by decide))
        · have hb := in_t (lo := 0) (hi := 1000000000) rfl rfl h69
          refine w_iload (pc := 72) dX6_bracket_72 rfl ?_
          refine w_if_eq 89 (pc := 74) dX6_bracket_74 (by decide) (fun h74 => ?_) (fun h74 => ?_)
          · refine w_aload_n (pc := 89) dX6_bracket_89 rfl ?_
            refine w_iconst (v := 2) (pc := 90) dX6_bracket_90 rfl ?_
            refine w_callV1 (n' := 0) (pc := 91) (c_X6_refuse hG) cv_X6_163 (by first | assumption | exact ob rfl) hF hT (by omega) (by decide) (Nat.le_of_ble_eq_true rfl) dX6_bracket_91 ?_
            refine ⟨_, rfl, hF, ?_⟩
            dsimp only [psh]
            refine w_ireturn (pc := 94) dX6_bracket_94 rfl ?_
            exact hX2 (fun q => by first | (rcases hb with h | h; exact q.1.1 h; exact q.1.2 h) | (rcases hr with h | h; exact q.2.2.1 h; exact q.2.2.2 h) | (rcases q.2.1 with h | h; exact absurd h (by omega); exact absurd h (Int32.not_lt.mpr h50)) | exact absurd rfl h74 | exact absurd h74 (by decide))
          · refine w_iload_n (pc := 77) dX6_bracket_77 rfl ?_
            refine w_i2l (pc := 78) dX6_bracket_78 ?_
            refine w_lconst (v := 0) (pc := 79) dX6_bracket_79 rfl ?_
            refine w_ldc2 (pc := 80) kl_X6_171 dX6_bracket_80 ?_
            refine w_callS3 (n' := 0) (pc := 83) (c_X6_in hG) cs_X6_137 hT (by omega) (by decide) (Nat.le_of_ble_eq_true rfl) dX6_bracket_83 ?_
            refine ⟨_, _, _, rfl, ?_⟩
            dsimp only [psh]
            refine w_if_ne 95 (pc := 86) dX6_bracket_86 (by decide) (fun h86 => ?_) (fun h86 => ?_)
            · have hr := in_t (lo := 0) (hi := 1000) rfl rfl h86
              refine w_iload (pc := 95) dX6_bracket_95 rfl ?_
              refine w_iconst (v := 4) (pc := 97) dX6_bracket_97 rfl ?_
              refine w_icmp_ne 107 (pc := 98) dX6_bracket_98 (by decide) (fun h98 => ?_) (fun h98 => ?_)
              · have k4 : k < 4 := by rw [ek2, show (4 : Int32) = nI 4 from rfl, nI_eq (by omega) (by omega)] at h98; omega
                have ei : (4 : Int32) * nI i + mI (sI M 96 0 0) 103 (nI i).toNatClampNeg = nI (4 * i + k) := by rw [ek2, cm4]
                refine w_aload_n (pc := 107) dX6_bracket_107 rfl ?_
                refine w_getR (b := 104) (pc := 108) fl_X6_36 hF (by first | assumption | exact ob rfl) rfl rfl dX6_bracket_108 ?_
                refine w_iconst (v := 4) (pc := 111) dX6_bracket_111 rfl ?_
                refine w_iload_n (pc := 112) dX6_bracket_112 rfl ?_
                refine w_imul (pc := 113) dX6_bracket_113 ?_
                refine w_iload (pc := 114) dX6_bracket_114 rfl ?_
                refine w_iadd (pc := 116) dX6_bracket_116 ?_
                refine w_iload_n (pc := 117) dX6_bracket_117 rfl ?_
                refine w_iast (m := 12) (pc := 118) hF (by first | assumption | exact ar rfl) (by rw [ei]; exact vin (by omega) (by decide)) dX6_bracket_118 ?_
                refine w_aload_n (pc := 119) dX6_bracket_119 rfl ?_
                refine w_getR (b := 105) (pc := 120) fl_X6_39 hF (by first | assumption | exact ob rfl) rfl rfl dX6_bracket_120 ?_
                refine w_iconst (v := 4) (pc := 123) dX6_bracket_123 rfl ?_
                refine w_iload_n (pc := 124) dX6_bracket_124 rfl ?_
                refine w_imul (pc := 125) dX6_bracket_125 ?_
                refine w_iload (pc := 126) dX6_bracket_126 rfl ?_
                refine w_iadd (pc := 128) dX6_bracket_128 ?_
                refine w_iload_n (pc := 129) dX6_bracket_129 rfl ?_
                refine w_iast (m := 12) (pc := 130) hF (by first | assumption | exact ar rfl) (by rw [ei]; exact vin (by omega) (by decide)) dX6_bracket_130 ?_
                refine w_aload_n (pc := 131) dX6_bracket_131 rfl ?_
                refine w_getR (b := 103) (pc := 132) fl_X6_33 hF (by first | assumption | exact ob rfl) rfl rfl dX6_bracket_132 ?_
                refine w_iload_n (pc := 135) dX6_bracket_135 rfl ?_
                refine w_dup2_11 (pc := 136) dX6_bracket_136 rfl rfl ?_
                refine w_iald (m := 3) (pc := 137) hF (by first | assumption | exact ar rfl) (vin hi (by decide)) dX6_bracket_137 ?_
                refine w_iconst (v := 1) (pc := 138) dX6_bracket_138 rfl ?_
                refine w_iadd (pc := 139) dX6_bracket_139 ?_
                refine w_iast (m := 3) (pc := 140) hF (by first | assumption | exact ar rfl) (vin hi (by decide)) dX6_bracket_140 ?_
                refine w_iload (pc := 141) dX6_bracket_141 rfl ?_
                refine w_iconst (v := 1) (pc := 143) dX6_bracket_143 rfl ?_
                refine w_iadd (pc := 144) dX6_bracket_144 ?_
                refine w_ireturn (pc := 145) dX6_bracket_145 rfl ?_
                first | exact absurd rfl h74 | exact absurd h74 (by decide) | (have e2 : (nI (4 * i + k)).toNatClampNeg = 4 * i + k := clN (by omega); have hq := hQ ⟨hb, (by first | exact Or.inl k0 | exact Or.inr (Int32.not_le.mp h50)), hr⟩ k4; have e3 : mI (sI (sI (sI M 96 0 0) 104 (4 * i + k) b) 105 (4 * i + k) r) 103 i = nI k := ek; rw [ei, e2, ek2, nI_1, e, e3, nI_1]; exact hq)
              · have k4 : k = 4 := by rw [ek2, show (4 : Int32) = nI 4 from rfl, nI_eq (by omega) (by omega)] at h98; exact h98
                refine w_aload_n (pc := 101) dX6_bracket_101 rfl ?_
                refine w_iconst (v := 3) (pc := 102) dX6_bracket_102 rfl ?_
                refine w_callV1 (n' := 0) (pc := 103) (c_X6_refuse hG) cv_X6_163 (by first | assumption | exact ob rfl) hF hT (by omega) (by decide) (Nat.le_of_ble_eq_true rfl) dX6_bracket_103 ?_
                refine ⟨_, rfl, hF, ?_⟩
                dsimp only [psh]
                refine w_ireturn (pc := 106) dX6_bracket_106 rfl ?_
                first | exact absurd rfl h74 | exact absurd h74 (by decide) | exact hX3 ⟨hb, (by first | exact Or.inl k0 | exact Or.inr (Int32.not_le.mp h50)), hr⟩ k4
            · have hr := in_f (lo := 0) (hi := 1000) rfl rfl h86
              refine w_aload_n (pc := 89) dX6_bracket_89 rfl ?_
              refine w_iconst (v := 2) (pc := 90) dX6_bracket_90 rfl ?_
              refine w_callV1 (n' := 0) (pc := 91) (c_X6_refuse hG) cv_X6_163 (by first | assumption | exact ob rfl) hF hT (by omega) (by decide) (Nat.le_of_ble_eq_true rfl) dX6_bracket_91 ?_
              refine ⟨_, rfl, hF, ?_⟩
              dsimp only [psh]
              refine w_ireturn (pc := 94) dX6_bracket_94 rfl ?_
              exact hX2 (fun q => by first | (rcases hb with h | h; exact q.1.1 h; exact q.1.2 h) | (rcases hr with h | h; exact q.2.2.1 h; exact q.2.2.2 h) | (rcases q.2.1 with h | h; exact absurd h (by omega); exact absurd h (Int32.not_lt.mpr h50)) | exact absurd rfl h74 | exact absurd h74 (by decide))
      · rw [eb] at h50
        refine w_iconst (v := 1) (pc := 53) dX6_bracket_53 rfl ?_
        refine w_goto 58 (pc := 54) dX6_bracket_54 (by decide) ?_
        refine w_istore 5 (pc := 58) dX6_bracket_58 (by decide) ?_
        refine w_iload_n (pc := 60) dX6_bracket_60 rfl ?_
        refine w_i2l (pc := 61) dX6_bracket_61 ?_
        refine w_lconst (v := 0) (pc := 62) dX6_bracket_62 rfl ?_
        refine w_ldc2 (pc := 63) kl_X6_169 dX6_bracket_63 ?_
        refine w_callS3 (n' := 0) (pc := 66) (c_X6_in hG) cs_X6_137 hT (by omega) (by decide) (Nat.le_of_ble_eq_true rfl) dX6_bracket_66 ?_
        refine ⟨_, _, _, rfl, ?_⟩
        dsimp only [psh]
        refine w_if_eq 89 (pc := 69) dX6_bracket_69 (by decide) (fun h69 => ?_) (fun h69 => ?_)
        · have hb := in_f (lo := 0) (hi := 1000000000) rfl rfl h69
          refine w_aload_n (pc := 89) dX6_bracket_89 rfl ?_
          refine w_iconst (v := 2) (pc := 90) dX6_bracket_90 rfl ?_
          refine w_callV1 (n' := 0) (pc := 91) (c_X6_refuse hG) cv_X6_163 (by first | assumption | exact ob rfl) hF hT (by omega) (by decide) (Nat.le_of_ble_eq_true rfl) dX6_bracket_91 ?_
          refine ⟨_, rfl, hF, ?_⟩
          dsimp only [psh]
          refine w_ireturn (pc := 94) dX6_bracket_94 rfl ?_
          exact hX2 (fun q => by first | (rcases hb with h | h; exact q.1.1 h; exact q.1.2 h) | (rcases hr with h | h; exact q.2.2.1 h; exact q.2.2.2 h) | (rcases q.2.1 with h | h; exact absurd h (by omega); exact absurd h (Int32.not_lt.mpr h50)) | exact absurd rfl h74 | exact absurd h74 (by decide))
        · have hb := in_t (lo := 0) (hi := 1000000000) rfl rfl h69
          refine w_iload (pc := 72) dX6_bracket_72 rfl ?_
          refine w_if_eq 89 (pc := 74) dX6_bracket_74 (by decide) (fun h74 => ?_) (fun h74 => ?_)
          · refine w_aload_n (pc := 89) dX6_bracket_89 rfl ?_
            refine w_iconst (v := 2) (pc := 90) dX6_bracket_90 rfl ?_
            refine w_callV1 (n' := 0) (pc := 91) (c_X6_refuse hG) cv_X6_163 (by first | assumption | exact ob rfl) hF hT (by omega) (by decide) (Nat.le_of_ble_eq_true rfl) dX6_bracket_91 ?_
            refine ⟨_, rfl, hF, ?_⟩
            dsimp only [psh]
            refine w_ireturn (pc := 94) dX6_bracket_94 rfl ?_
            exact hX2 (fun q => by first | (rcases hb with h | h; exact q.1.1 h; exact q.1.2 h) | (rcases hr with h | h; exact q.2.2.1 h; exact q.2.2.2 h) | (rcases q.2.1 with h | h; exact absurd h (by omega); exact absurd h (Int32.not_lt.mpr h50)) | exact absurd rfl h74 | exact absurd h74 (by decide))
          · refine w_iload_n (pc := 77) dX6_bracket_77 rfl ?_
            refine w_i2l (pc := 78) dX6_bracket_78 ?_
            refine w_lconst (v := 0) (pc := 79) dX6_bracket_79 rfl ?_
            refine w_ldc2 (pc := 80) kl_X6_171 dX6_bracket_80 ?_
            refine w_callS3 (n' := 0) (pc := 83) (c_X6_in hG) cs_X6_137 hT (by omega) (by decide) (Nat.le_of_ble_eq_true rfl) dX6_bracket_83 ?_
            refine ⟨_, _, _, rfl, ?_⟩
            dsimp only [psh]
            refine w_if_ne 95 (pc := 86) dX6_bracket_86 (by decide) (fun h86 => ?_) (fun h86 => ?_)
            · have hr := in_t (lo := 0) (hi := 1000) rfl rfl h86
              refine w_iload (pc := 95) dX6_bracket_95 rfl ?_
              refine w_iconst (v := 4) (pc := 97) dX6_bracket_97 rfl ?_
              refine w_icmp_ne 107 (pc := 98) dX6_bracket_98 (by decide) (fun h98 => ?_) (fun h98 => ?_)
              · have k4 : k < 4 := by rw [ek2, show (4 : Int32) = nI 4 from rfl, nI_eq (by omega) (by omega)] at h98; omega
                have ei : (4 : Int32) * nI i + mI (sI M 96 0 0) 103 (nI i).toNatClampNeg = nI (4 * i + k) := by rw [ek2, cm4]
                refine w_aload_n (pc := 107) dX6_bracket_107 rfl ?_
                refine w_getR (b := 104) (pc := 108) fl_X6_36 hF (by first | assumption | exact ob rfl) rfl rfl dX6_bracket_108 ?_
                refine w_iconst (v := 4) (pc := 111) dX6_bracket_111 rfl ?_
                refine w_iload_n (pc := 112) dX6_bracket_112 rfl ?_
                refine w_imul (pc := 113) dX6_bracket_113 ?_
                refine w_iload (pc := 114) dX6_bracket_114 rfl ?_
                refine w_iadd (pc := 116) dX6_bracket_116 ?_
                refine w_iload_n (pc := 117) dX6_bracket_117 rfl ?_
                refine w_iast (m := 12) (pc := 118) hF (by first | assumption | exact ar rfl) (by rw [ei]; exact vin (by omega) (by decide)) dX6_bracket_118 ?_
                refine w_aload_n (pc := 119) dX6_bracket_119 rfl ?_
                refine w_getR (b := 105) (pc := 120) fl_X6_39 hF (by first | assumption | exact ob rfl) rfl rfl dX6_bracket_120 ?_
                refine w_iconst (v := 4) (pc := 123) dX6_bracket_123 rfl ?_
                refine w_iload_n (pc := 124) dX6_bracket_124 rfl ?_
                refine w_imul (pc := 125) dX6_bracket_125 ?_
                refine w_iload (pc := 126) dX6_bracket_126 rfl ?_
                refine w_iadd (pc := 128) dX6_bracket_128 ?_
                refine w_iload_n (pc := 129) dX6_bracket_129 rfl ?_
                refine w_iast (m := 12) (pc := 130) hF (by first | assumption | exact ar rfl) (by rw [ei]; exact vin (by omega) (by decide)) dX6_bracket_130 ?_
                refine w_aload_n (pc := 131) dX6_bracket_131 rfl ?_
                refine w_getR (b := 103) (pc := 132) fl_X6_33 hF (by first | assumption | exact ob rfl) rfl rfl dX6_bracket_132 ?_
                refine w_iload_n (pc := 135) dX6_bracket_135 rfl ?_
                refine w_dup2_11 (pc := 136) dX6_bracket_136 rfl rfl ?_
                refine w_iald (m := 3) (pc := 137) hF (by first | assumption | exact ar rfl) (vin hi (by decide)) dX6_bracket_137 ?_
                refine w_iconst (v := 1) (pc := 138) dX6_bracket_138 rfl ?_
                refine w_iadd (pc := 139) dX6_bracket_139 ?_
                refine w_iast (m := 3) (pc := 140) hF (by first | assumption | exact ar rfl) (vin hi (by decide)) dX6_bracket_140 ?_
                refine w_iload (pc := 141) dX6_bracket_141 rfl ?_
                refine w_iconst (v := 1) (pc := 143) dX6_bracket_143 rfl ?_
                refine w_iadd (pc := 144) dX6_bracket_144 ?_
                refine w_ireturn (pc := 145) dX6_bracket_145 rfl ?_
                first | exact absurd rfl h74 | exact absurd h74 (by decide) | (have e2 : (nI (4 * i + k)).toNatClampNeg = 4 * i + k := clN (by omega); have hq := hQ ⟨hb, (by first | exact Or.inl k0 | exact Or.inr (Int32.not_le.mp h50)), hr⟩ k4; have e3 : mI (sI (sI (sI M 96 0 0) 104 (4 * i + k) b) 105 (4 * i + k) r) 103 i = nI k := ek; rw [ei, e2, ek2, nI_1, e, e3, nI_1]; exact hq)
              · have k4 : k = 4 := by rw [ek2, show (4 : Int32) = nI 4 from rfl, nI_eq (by omega) (by omega)] at h98; exact h98
                refine w_aload_n (pc := 101) dX6_bracket_101 rfl ?_
                refine w_iconst (v := 3) (pc := 102) dX6_bracket_102 rfl ?_
                refine w_callV1 (n' := 0) (pc := 103) (c_X6_refuse hG) cv_X6_163 (by first | assumption | exact ob rfl) hF hT (by omega) (by decide) (Nat.le_of_ble_eq_true rfl) dX6_bracket_103 ?_
                refine ⟨_, rfl, hF, ?_⟩
                dsimp only [psh]
                refine w_ireturn (pc := 106) dX6_bracket_106 rfl ?_
                first | exact absurd rfl h74 | exact absurd h74 (by decide) | exact hX3 ⟨hb, (by first | exact Or.inl k0 | exact Or.inr (Int32.not_le.mp h50)), hr⟩ k4
            · have hr := in_f (lo := 0) (hi := 1000) rfl rfl h86
              refine w_aload_n (pc := 89) dX6_bracket_89 rfl ?_
              refine w_iconst (v := 2) (pc := 90) dX6_bracket_90 rfl ?_
              refine w_callV1 (n' := 0) (pc := 91) (c_X6_refuse hG) cv_X6_163 (by first | assumption | exact ob rfl) hF hT (by omega) (by decide) (Nat.le_of_ble_eq_true rfl) dX6_bracket_91 ?_
              refine ⟨_, rfl, hF, ?_⟩
              dsimp only [psh]
              refine w_ireturn (pc := 94) dX6_bracket_94 rfl ?_
              exact hX2 (fun q => by first | (rcases hb with h | h; exact q.1.1 h; exact q.1.2 h) | (rcases hr with h | h; exact q.2.2.1 h; exact q.2.2.2 h) | (rcases q.2.1 with h | h; exact absurd h (by omega); exact absurd h (Int32.not_lt.mpr h50)) | exact absurd rfl h74 | exact absurd h74 (by decide))
  · have hx14 := ix_out (n := 2) (N := 2) rfl (by decide) (in_f (lo := 0) (hi := 2) rfl rfl h14)
    refine w_aload_n (pc := 17) dX6_bracket_17 rfl ?_
    refine w_iconst (v := 1) (pc := 18) dX6_bracket_18 rfl ?_
    refine w_callV1 (n' := 0) (pc := 19) (c_X6_refuse hG) cv_X6_163 (by first | assumption | exact ob rfl) hF hT (by omega) (by decide) (Nat.le_of_ble_eq_true rfl) dX6_bracket_19 ?_
    refine ⟨_, rfl, hF, ?_⟩
    dsimp only [psh]
    refine w_ireturn (pc := 22) dX6_bracket_22 rfl ?_
    exact hX1 hx14
