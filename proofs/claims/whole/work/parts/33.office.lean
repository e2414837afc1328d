/-! PUBLIC METHODS OF THE CLASS, WITHOUT LOOPS -/
def T_clear : PT := fun as M Q X => as = [.ref 0] ∧ Full M ∧ Q (some (.int (mI M 1 1))) (sI M 1 1 0)
theorem c_X5_clear {l : Launch} (hl : l.stackTraces = false) : Con l yX5_clear wX5_clear 0 1 (T_clear) := by
  refine con_of hl (by decide) ?_ ?_
  · intro as M Q X hpt
    obtain ⟨rfl, hF, hQ⟩ := hpt
    exact Nat.le_of_ble_eq_true rfl
  intro G as M Q X hl' hT hd hpt
  obtain ⟨rfl, hF, hQ⟩ := hpt
  have hG : (gl G).stackTraces = false := by rw [hl']; exact hl
  show PW G RX5 cX5_clear 2 (some .int) Q X 0 0 [(0, .ref 0)] [] M
  refine w_aload_n (pc := 0) dX5_clear_0 rfl ?_
  refine w_getR (b := 1) (pc := 1) fl_X5_10 hF (by first | assumption | exact ob rfl) rfl rfl dX5_clear_1 ?_
  refine w_getI (pc := 4) fl_X5_78 hF (by first | assumption | exact ob rfl) rfl dX5_clear_4 ?_
  refine w_istore_n 1 (pc := 7) rfl dX5_clear_7 (by decide) ?_
  refine w_aload_n (pc := 8) dX5_clear_8 rfl ?_
  refine w_getR (b := 1) (pc := 9) fl_X5_10 hF (by first | assumption | exact ob rfl) rfl rfl dX5_clear_9 ?_
  refine w_iconst (v := 0) (pc := 12) dX5_clear_12 rfl ?_
  refine w_putI (pc := 13) fp_X5_78 hF (by first | assumption | exact ob rfl) rfl dX5_clear_13 ?_
  refine w_iload_n (pc := 16) dX5_clear_16 rfl ?_
  refine w_ireturn (pc := 17) dX5_clear_17 rfl ?_
  exact hQ
def T_total : PT := fun as M Q X => ∃ x : Int32, as = [.ref 0, .int x] ∧ Full M ∧ (¬ ix x 12 → X "java/util/NoSuchElementException" M) ∧ (∀ i, i < 12 → x = nI i → Q (some (.int (mI M 0 9))) (sI M 0 9 (nI i)))
theorem c_X5_total {l : Launch} (hl : l.stackTraces = false) : Con l yX5_total wX5_total 1 10 (T_total) := by
  refine con_of hl (by decide) ?_ ?_
  · intro as M Q X hpt
    obtain ⟨x, rfl, hF, hX, hQ⟩ := hpt
    exact Nat.le_of_ble_eq_true rfl
  intro G as M Q X hl' hT hd hpt
  obtain ⟨x, rfl, hF, hX, hQ⟩ := hpt
  have hG : (gl G).stackTraces = false := by rw [hl']; exact hl
  show PW G RX5 cX5_total 3 (some .int) Q X 1 0 [(0, .ref 0), (1, .int x)] [] M
  refine w_iload_n (pc := 0) dX5_total_0 rfl ?_
  refine w_callS1 (n' := 0) (pc := 1) (c_X5_requireLine hG) cs_X5_81 hT (by omega) (by decide) (Nat.le_of_ble_eq_true rfl) dX5_total_1 ?_
  refine ⟨_, rfl, fun hx => ?_, fun i hi ei => ?_⟩
  · exact hX hx
  subst ei
  dsimp only [psh]
  refine w_aload_n (pc := 4) dX5_total_4 rfl ?_
  refine w_getI (pc := 5) fl_X5_53 hF (by first | assumption | exact ob rfl) rfl dX5_total_5 ?_
  refine w_istore_n 2 (pc := 8) rfl dX5_total_8 (by decide) ?_
  refine w_aload_n (pc := 9) dX5_total_9 rfl ?_
  refine w_iload_n (pc := 10) dX5_total_10 rfl ?_
  refine w_putI (pc := 11) fp_X5_53 hF (by first | assumption | exact ob rfl) rfl dX5_total_11 ?_
  refine w_iload_n (pc := 14) dX5_total_14 rfl ?_
  refine w_ireturn (pc := 15) dX5_total_15 rfl ?_
  exact hQ i hi rfl
def T_interest : PT := fun as M Q X => ∃ x : Int32, as = [.ref 0, .int x] ∧ Full M ∧ (¬ ix x 31 → X "java/lang/IllegalArgumentException" M) ∧ (∀ i, i < 31 → x = nI i → Q (some (.int (mI M 0 10))) (sI M 0 10 (nI i)))
theorem c_X5_interest {l : Launch} (hl : l.stackTraces = false) : Con l yX5_interest wX5_interest 1 10 (T_interest) := by
  refine con_of hl (by decide) ?_ ?_
  · intro as M Q X hpt
    obtain ⟨x, rfl, hF, hX, hQ⟩ := hpt
    exact Nat.le_of_ble_eq_true rfl
  intro G as M Q X hl' hT hd hpt
  obtain ⟨x, rfl, hF, hX, hQ⟩ := hpt
  have hG : (gl G).stackTraces = false := by rw [hl']; exact hl
  show PW G RX5 cX5_interest 3 (some .int) Q X 1 0 [(0, .ref 0), (1, .int x)] [] M
  refine w_iload_n (pc := 0) dX5_interest_0 rfl ?_
  refine w_if_lt 10 (pc := 1) dX5_interest_1 (by decide) (fun h1 => ?_) (fun h1 => ?_)
  · refine w_throw (pc := 10) (ik := 89) (is := 205) (ic := 93) (cls := "java/lang/IllegalArgumentException") (ix := 7) (text := "no such rate") (List.mem_of_getElem? (i := 1) rfl) (List.mem_of_getElem? (i := 16) rfl) hT (by omega) (by decide) (Nat.le_of_ble_eq_true rfl) dX5_interest_10 dX5_interest_13 dX5_interest_14 dX5_interest_16 dX5_interest_19 ?_
    exact hX (ix_out (n := 30) (N := 30) rfl (by decide) (by first | exact Or.inl h1 | exact Or.inr (Int32.not_le.mp h7)))
  · refine w_iload_n (pc := 4) dX5_interest_4 rfl ?_
    refine w_bipush (v := 30) (pc := 5) dX5_interest_5 rfl ?_
    refine w_icmp_le 20 (pc := 7) dX5_interest_7 (by decide) (fun h7 => ?_) (fun h7 => ?_)
    · refine w_aload_n (pc := 20) dX5_interest_20 rfl ?_
      refine w_getI (pc := 21) fl_X5_57 hF (by first | assumption | exact ob rfl) rfl dX5_interest_21 ?_
      refine w_istore_n 2 (pc := 24) rfl dX5_interest_24 (by decide) ?_
      refine w_aload_n (pc := 25) dX5_interest_25 rfl ?_
      refine w_iload_n (pc := 26) dX5_interest_26 rfl ?_
      refine w_putI (pc := 27) fp_X5_57 hF (by first | assumption | exact ob rfl) rfl dX5_interest_27 ?_
      refine w_iload_n (pc := 30) dX5_interest_30 rfl ?_
      refine w_ireturn (pc := 31) dX5_interest_31 rfl ?_
      obtain ⟨i, hi, rfl⟩ := ix_in (n := 30) (N := 30) rfl (by decide) ⟨h1, Int32.not_lt.mpr h7⟩
      exact hQ i hi rfl
    · refine w_throw (pc := 10) (ik := 89) (is := 205) (ic := 93) (cls := "java/lang/IllegalArgumentException") (ix := 7) (text := "no such rate") (List.mem_of_getElem? (i := 1) rfl) (List.mem_of_getElem? (i := 16) rfl) hT (by omega) (by decide) (Nat.le_of_ble_eq_true rfl) dX5_interest_10 dX5_interest_13 dX5_interest_14 dX5_interest_16 dX5_interest_19 ?_
      exact hX (ix_out (n := 30) (N := 30) rfl (by decide) (by first | exact Or.inl h1 | exact Or.inr (Int32.not_le.mp h7)))
def T_input : PT := fun as M Q X => ∃ x : Int32, as = [.ref 0, .int x] ∧ Full M ∧ (¬ ix x 12 → X "java/util/NoSuchElementException" M) ∧ (∀ i, i < 12 → x = nI i → Q (some (.int (bi (hasF M i)))) (sI (sI M (24 + 2 * i) 1 0) 4 i 0))
theorem c_X5_input {l : Launch} (hl : l.stackTraces = false) : Con l yX5_input wX5_input 1 10 (T_input) := by
  refine con_of hl (by decide) ?_ ?_
  · intro as M Q X hpt
    obtain ⟨x, rfl, hF, hX, hQ⟩ := hpt
    exact Nat.le_of_ble_eq_true rfl
  intro G as M Q X hl' hT hd hpt
  obtain ⟨x, rfl, hF, hX, hQ⟩ := hpt
  have hG : (gl G).stackTraces = false := by rw [hl']; exact hl
  show PW G RX5 cX5_input 3 (some .boolean) Q X 1 0 [(0, .ref 0), (1, .int x)] [] M
  refine w_iload_n (pc := 0) dX5_input_0 rfl ?_
  refine w_callS1 (n' := 0) (pc := 1) (c_X5_requireLine hG) cs_X5_81 hT (by omega) (by decide) (Nat.le_of_ble_eq_true rfl) dX5_input_1 ?_
  refine ⟨_, rfl, fun hx => ?_, fun i hi ei => ?_⟩
  · exact hX hx
  subst ei
  have hot := ob_text hi
  have e := clN (i := i) (by omega)
  dsimp only [psh]
  refine w_aload_n (pc := 4) dX5_input_4 rfl ?_
  refine w_iload_n (pc := 5) dX5_input_5 rfl ?_
  refine w_callV1 (n' := 0) (pc := 6) (c_X5_hasFormula hG) cv_X5_108 (by first | assumption | exact ob rfl) hF hT (by omega) (by decide) (Nat.le_of_ble_eq_true rfl) dX5_input_6 ?_
  refine ⟨_, hi, rfl, hF, ?_⟩
  dsimp only [psh]
  refine w_istore_n 2 (pc := 9) rfl dX5_input_9 (by decide) ?_
  refine w_aload_n (pc := 10) dX5_input_10 rfl ?_
  refine w_getR (b := 3) (pc := 11) fl_X5_16 hF (by first | assumption | exact ob rfl) rfl rfl dX5_input_11 ?_
  refine w_iload_n (pc := 14) dX5_input_14 rfl ?_
  refine w_aald (m := 12) (b := 24 + 2 * i) (pc := 15) (Or.inr (Or.inr (Or.inr rfl))) hF (by first | assumption | exact ar rfl) (vin hi (by decide)) (by rw [e]; rfl) dX5_input_15 ?_
  refine w_iconst (v := 0) (pc := 16) dX5_input_16 rfl ?_
  refine w_putI (pc := 17) fp_X5_78 hF (by first | assumption | exact ob rfl) rfl dX5_input_17 ?_
  refine w_aload_n (pc := 20) dX5_input_20 rfl ?_
  refine w_getR (b := 4) (pc := 21) fl_X5_20 hF (by first | assumption | exact ob rfl) rfl rfl dX5_input_21 ?_
  refine w_iload_n (pc := 24) dX5_input_24 rfl ?_
  refine w_iconst (v := 0) (pc := 25) dX5_input_25 rfl ?_
  refine w_iast (m := 12) (pc := 26) hF (by first | assumption | exact ar rfl) (vin hi (by decide)) dX5_input_26 ?_
  refine w_iload_n (pc := 27) dX5_input_27 rfl ?_
  refine w_ireturn (pc := 28) dX5_input_28 (bi_nar _) ?_
  rw [e]
  exact hQ i hi rfl
def bOk (M : Mem) (i : Nat) (b r : Int32) : Prop := alwB M (12 + 3 * i) b = true ∧ ¬ r < 0 ∧ r ≤ 1000
def T_bracket : PT := fun as M Q X => ∃ x b r : Int32, as = [.ref 0, .int x, .int b, .int r] ∧ Full M ∧ (¬ ix x 3 → X "java/util/NoSuchElementException" M) ∧ (∀ i, i < 3 → x = nI i → ∃ k, k ≤ 4 ∧ mI M (12 + 3 * i) 2 = nI k ∧ (¬ bOk M i b r → X "java/lang/IllegalArgumentException" M) ∧ (bOk M i b r → k = 4 → X "java/lang/IllegalStateException" M) ∧ (bOk M i b r → k < 4 → Q (some (.int (nI (k + 1)))) (appB M (12 + 3 * i) b r)))
theorem c_X5_bracket {l : Launch} (hl : l.stackTraces = false) : Con l yX5_bracket wX5_bracket 3 10 (T_bracket) := by
  refine con_of hl (by decide) ?_ ?_
  · intro as M Q X hpt
    obtain ⟨x, b, r, rfl, hF, hX, hQ0⟩ := hpt
    exact Nat.le_of_ble_eq_true rfl
  intro G as M Q X hl' hT hd hpt
  obtain ⟨x, b, r, rfl, hF, hX, hQ0⟩ := hpt
  have hG : (gl G).stackTraces = false := by rw [hl']; exact hl
  show PW G RX5 cX5_bracket 5 (some .int) Q X 3 0 [(0, .ref 0), (1, .int x), (2, .int b), (3, .int r)] [] M
  refine w_iload_n (pc := 0) dX5_bracket_0 rfl ?_
  refine w_callS1 (n' := 2) (pc := 1) (c_X5_requireTable hG) cs_X5_112 hT (by omega) (by decide) (Nat.le_of_ble_eq_true rfl) dX5_bracket_1 ?_
  refine ⟨_, rfl, fun hx => ?_, fun i hi ei => ?_⟩
  · exact hX hx
  subst ei
  obtain ⟨k, hk, ek, hX1, hX2, hQ⟩ := hQ0 i hi rfl
  have hot := ob_tab hi
  have e := clN (i := i) (by omega)
  have hr0 : rf (12 + 3 * i) 0 = 12 + 3 * i + 1 := rf_x (by omega)
  have hr1 : rf (12 + 3 * i) 1 = 12 + 3 * i + 2 := rf_x (by omega)
  have ha0 := ar_tabB hi
  have ha1 := ar_tabR hi
  dsimp only [psh]
  refine w_aload_n (pc := 4) dX5_bracket_4 rfl ?_
  refine w_getR (b := 7) (pc := 5) fl_X5_39 hF (by first | assumption | exact ob rfl) rfl rfl dX5_bracket_5 ?_
  refine w_getR (b := 8) (pc := 8) fl_X5_115 hF (by first | assumption | exact ob rfl) rfl rfl dX5_bracket_8 ?_
  refine w_iload_n (pc := 11) dX5_bracket_11 rfl ?_
  refine w_aald (m := 3) (b := 12 + 3 * i) (pc := 12) (Or.inr (Or.inr (Or.inl rfl))) hF (by first | assumption | exact ar rfl) (vin hi (by decide)) (by rw [e]; rfl) dX5_bracket_12 ?_
  refine w_astore 4 (pc := 13) dX5_bracket_13 (by decide) ?_
  refine w_aload (pc := 15) dX5_bracket_15 rfl ?_
  refine w_iload_n (pc := 17) dX5_bracket_17 rfl ?_
  refine w_callV1 (n' := 2) (pc := 18) (c_X3_allowsBeginning hG) cv_X5_119 (by first | assumption | exact ob rfl) hF hT (by omega) (by decide) (Nat.le_of_ble_eq_true rfl) dX5_bracket_18 ?_
  refine ⟨_, _, rfl, hF, hot, hr0, ha0, (fun h => by rw [ek] at h ⊢; rw [show (0 : Int32) = nI 0 from rfl, nI_eq (by omega) (by omega)] at h; rw [sb1 (by omega)]; exact vin (by omega) (by decide)), ?_⟩
  dsimp only [psh]
  refine w_if_eq 35 (pc := 21) dX5_bracket_21 (by decide) (fun h21 => ?_) (fun h21 => ?_)
  · rw [bi_0] at h21
    refine w_throw (pc := 35) (ik := 89) (is := 124) (ic := 93) (cls := "java/lang/IllegalArgumentException") (ix := 7) (text := "no such beginning or rate") (List.mem_of_getElem? (i := 1) rfl) (List.mem_of_getElem? (i := 3) rfl) hT (by omega) (by decide) (Nat.le_of_ble_eq_true rfl) dX5_bracket_35 dX5_bracket_38 dX5_bracket_39 dX5_bracket_41 dX5_bracket_44 ?_
    exact hX1 (fun q => by first | exact absurd q.1 (by rw [h21]; decide) | exact q.2.1 h25 | exact h32 q.2.2)
  · rw [bi_1] at h21
    refine w_iload_n (pc := 24) dX5_bracket_24 rfl ?_
    refine w_if_lt 35 (pc := 25) dX5_bracket_25 (by decide) (fun h25 => ?_) (fun h25 => ?_)
    · refine w_throw (pc := 35) (ik := 89) (is := 124) (ic := 93) (cls := "java/lang/IllegalArgumentException") (ix := 7) (text := "no such beginning or rate") (List.mem_of_getElem? (i := 1) rfl) (List.mem_of_getElem? (i := 3) rfl) hT (by omega) (by decide) (Nat.le_of_ble_eq_true rfl) dX5_bracket_35 dX5_bracket_38 dX5_bracket_39 dX5_bracket_41 dX5_bracket_44 ?_
      exact hX1 (fun q => by first | exact absurd q.1 (by rw [h21]; decide) | exact q.2.1 h25 | exact h32 q.2.2)
    · refine w_iload_n (pc := 28) dX5_bracket_28 rfl ?_
      refine w_sipush (v := 1000) (pc := 29) dX5_bracket_29 rfl ?_
      refine w_icmp_le 45 (pc := 32) dX5_bracket_32 (by decide) (fun h32 => ?_) (fun h32 => ?_)
      · refine w_aload (pc := 45) dX5_bracket_45 rfl ?_
        refine w_callV0 (n' := 2) (pc := 47) (c_X3_isFull hG) cv_X5_126 (by first | assumption | exact ob rfl) hF hT (by omega) (by decide) (Nat.le_of_ble_eq_true rfl) dX5_bracket_47 ?_
        refine ⟨_, rfl, hF, by assumption, ?_⟩
        dsimp only [psh]
        refine w_if_eq 63 (pc := 50) dX5_bracket_50 (by decide) (fun h50 => ?_) (fun h50 => ?_)
        · have k4 : k < 4 := by rw [bi_0, ek, show (4 : Int32) = nI 4 from rfl, decide_eq_false_iff_not, nI_leI (by omega) (by omega)] at h50; omega
          refine w_aload (pc := 63) dX5_bracket_63 rfl ?_
          refine w_iload_n (pc := 65) dX5_bracket_65 rfl ?_
          refine w_iload_n (pc := 66) dX5_bracket_66 rfl ?_
          refine w_callV2 (n' := 2) (pc := 67) (c_X3_append hG) cv_X5_132 (by first | assumption | exact ob rfl) hF hT (by omega) (by decide) (Nat.le_of_ble_eq_true rfl) dX5_bracket_67 ?_
          refine ⟨_, _, _, rfl, hF, hot, ⟨hr0, hr1⟩, ⟨ha0, ha1⟩, (by rw [ek]; exact vin (by omega) (by decide)), ?_⟩
          dsimp only [psh]
          refine w_aload (pc := 70) dX5_bracket_70 rfl ?_
          refine w_getI (pc := 72) fl_X5_135 hF (by first | assumption | exact ob rfl) rfl dX5_bracket_72 ?_
          refine w_ireturn (pc := 75) dX5_bracket_75 rfl ?_
          have e2 : mI (appB M (12 + 3 * i) b r) (12 + 3 * i) 2 = nI (k + 1) := by unfold appB; rw [mI_s, ek, nI_1]
          rw [e2]
          exact hQ ⟨h21, h25, h32⟩ k4
        · have k4 : k = 4 := by rw [bi_1, ek, show (4 : Int32) = nI 4 from rfl, decide_eq_true_eq, nI_leI (by omega) (by omega)] at h50; omega
          refine w_throw (pc := 53) (ik := 127) (is := 129) (ic := 131) (cls := "java/lang/IllegalStateException") (ix := 7) (text := "the table is full") (List.mem_of_getElem? (i := 2) rfl) (List.mem_of_getElem? (i := 4) rfl) hT (by omega) (by decide) (Nat.le_of_ble_eq_true rfl) dX5_bracket_53 dX5_bracket_56 dX5_bracket_57 dX5_bracket_59 dX5_bracket_62 ?_
          exact hX2 ⟨h21, h25, h32⟩ k4
      · refine w_throw (pc := 35) (ik := 89) (is := 124) (ic := 93) (cls := "java/lang/IllegalArgumentException") (ix := 7) (text := "no such beginning or rate") (List.mem_of_getElem? (i := 1) rfl) (List.mem_of_getElem? (i := 3) rfl) hT (by omega) (by decide) (Nat.le_of_ble_eq_true rfl) dX5_bracket_35 dX5_bracket_38 dX5_bracket_39 dX5_bracket_41 dX5_bracket_44 ?_
        exact hX1 (fun q => by first | exact absurd q.1 (by rw [h21]; decide) | exact q.2.1 h25 | exact h32 q.2.2)
def T_reset : PT := fun as M Q X => ∃ x y : Int32, as = [.ref 0, .int x, .int y] ∧ Full M ∧ (¬ ix x 3 → X "java/util/NoSuchElementException" M) ∧ (ix x 3 → ¬ ix y 3 → X "java/lang/IllegalArgumentException" M) ∧ (∀ i j, i < 3 → j < 3 → x = nI i → y = nI j → Q (some (.int (mI M (12 + 3 * i) 2))) (sI (sI M (12 + 3 * i) 2 0) (12 + 3 * i) 3 (nI j)))
theorem c_X5_reset {l : Launch} (hl : l.stackTraces = false) : Con l yX5_reset wX5_reset 2 10 (T_reset) := by
  refine con_of hl (by decide) ?_ ?_
  · intro as M Q X hpt
    obtain ⟨x, y, rfl, hF, hX, hX1, hQ⟩ := hpt
    exact Nat.le_of_ble_eq_true rfl
  intro G as M Q X hl' hT hd hpt
  obtain ⟨x, y, rfl, hF, hX, hX1, hQ⟩ := hpt
  have hG : (gl G).stackTraces = false := by rw [hl']; exact hl
  show PW G RX5 cX5_reset 5 (some .int) Q X 2 0 [(0, .ref 0), (1, .int x), (2, .int y)] [] M
  refine w_iload_n (pc := 0) dX5_reset_0 rfl ?_
  refine w_callS1 (n' := 1) (pc := 1) (c_X5_requireTable hG) cs_X5_112 hT (by omega) (by decide) (Nat.le_of_ble_eq_true rfl) dX5_reset_1 ?_
  refine ⟨_, rfl, fun hx => ?_, fun i hi ei => ?_⟩
  · exact hX hx
  subst ei
  have hot := ob_tab hi
  have e := clN (i := i) (by omega)
  dsimp only [psh]
  refine w_iload_n (pc := 4) dX5_reset_4 rfl ?_
  refine w_if_lt 13 (pc := 5) dX5_reset_5 (by decide) (fun h5 => ?_) (fun h5 => ?_)
  · refine w_throw (pc := 13) (ik := 89) (is := 138) (ic := 93) (cls := "java/lang/IllegalArgumentException") (ix := 7) (text := "no such rounding") (List.mem_of_getElem? (i := 1) rfl) (List.mem_of_getElem? (i := 5) rfl) hT (by omega) (by decide) (Nat.le_of_ble_eq_true rfl) dX5_reset_13 dX5_reset_16 dX5_reset_17 dX5_reset_19 dX5_reset_22 ?_
    exact hX1 ⟨i, hi, rfl⟩ (ix_out (n := 2) (N := 2) rfl (by decide) (by first | exact Or.inl h5 | exact Or.inr (Int32.not_le.mp h10)))
  · refine w_iload_n (pc := 8) dX5_reset_8 rfl ?_
    refine w_iconst (v := 2) (pc := 9) dX5_reset_9 rfl ?_
    refine w_icmp_le 23 (pc := 10) dX5_reset_10 (by decide) (fun h10 => ?_) (fun h10 => ?_)
    · refine w_aload_n (pc := 23) dX5_reset_23 rfl ?_
      refine w_getR (b := 7) (pc := 24) fl_X5_39 hF (by first | assumption | exact ob rfl) rfl rfl dX5_reset_24 ?_
      refine w_getR (b := 8) (pc := 27) fl_X5_115 hF (by first | assumption | exact ob rfl) rfl rfl dX5_reset_27 ?_
      refine w_iload_n (pc := 30) dX5_reset_30 rfl ?_
      refine w_aald (m := 3) (b := 12 + 3 * i) (pc := 31) (Or.inr (Or.inr (Or.inl rfl))) hF (by first | assumption | exact ar rfl) (vin hi (by decide)) (by rw [e]; rfl) dX5_reset_31 ?_
      refine w_astore_n 3 (pc := 32) rfl dX5_reset_32 (by decide) ?_
      refine w_aload_n (pc := 33) dX5_reset_33 rfl ?_
      refine w_getI (pc := 34) fl_X5_135 hF (by first | assumption | exact ob rfl) rfl dX5_reset_34 ?_
      refine w_istore 4 (pc := 37) dX5_reset_37 (by decide) ?_
      refine w_aload_n (pc := 39) dX5_reset_39 rfl ?_
      refine w_iconst (v := 0) (pc := 40) dX5_reset_40 rfl ?_
      refine w_putI (pc := 41) fp_X5_135 hF (by first | assumption | exact ob rfl) rfl dX5_reset_41 ?_
      refine w_aload_n (pc := 44) dX5_reset_44 rfl ?_
      refine w_iload_n (pc := 45) dX5_reset_45 rfl ?_
      refine w_putI (pc := 46) fp_X5_140 hF (by first | assumption | exact ob rfl) rfl dX5_reset_46 ?_
      refine w_iload (pc := 49) dX5_reset_49 rfl ?_
      refine w_ireturn (pc := 51) dX5_reset_51 rfl ?_
      obtain ⟨j, hj, rfl⟩ := ix_in (n := 2) (N := 2) rfl (by decide) ⟨h5, Int32.not_lt.mpr h10⟩
      exact hQ i j hi hj rfl rfl
    · refine w_throw (pc := 13) (ik := 89) (is := 138) (ic := 93) (cls := "java/lang/IllegalArgumentException") (ix := 7) (text := "no such rounding") (List.mem_of_getElem? (i := 1) rfl) (List.mem_of_getElem? (i := 5) rfl) hT (by omega) (by decide) (Nat.le_of_ble_eq_true rfl) dX5_reset_13 dX5_reset_16 dX5_reset_17 dX5_reset_19 dX5_reset_22 ?_
      exact hX1 ⟨i, hi, rfl⟩ (ix_out (n := 2) (N := 2) rfl (by decide) (by first | exact Or.inl h5 | exact Or.inr (Int32.not_le.mp h10)))
def T_file : PT := fun as M Q X => ∃ t y z v : Int32, as = [.ref 0, .int t, .int y, .int z, .int v] ∧ Full M ∧ (¬ (ix t 3 ∧ ix y 4 ∧ ix z 12) → X "java/util/NoSuchElementException" M) ∧ (∀ i j k, i < 3 → j < 4 → k < 12 → t = nI i → y = nI j → z = nI k → ((hasF M k = true ∨ v < -1000000000 ∨ 1000000000 < v) → X "java/lang/IllegalArgumentException" M) ∧ (hasF M k = false → ¬ v < -1000000000 → ¬ 1000000000 < v → Q (some (.int (mI M (48 + 3 * (4 * i + j) + 1) k))) (sI M (48 + 3 * (4 * i + j) + 1) k v)))
theorem c_X5_file {l : Launch} (hl : l.stackTraces = false) : Con l yX5_file wX5_file 4 12 (T_file) := by
  refine con_of hl (by decide) ?_ ?_
  · intro as M Q X hpt
    obtain ⟨t, y, z, v, rfl, hF, hX1, hQ0⟩ := hpt
    exact Nat.le_of_ble_eq_true rfl
  intro G as M Q X hl' hT hd hpt
  obtain ⟨t, y, z, v, rfl, hF, hX1, hQ0⟩ := hpt
  have hG : (gl G).stackTraces = false := by rw [hl']; exact hl
  show PW G RX5 cX5_file 7 (some .int) Q X 4 0 [(0, .ref 0), (1, .int t), (2, .int y), (3, .int z), (4, .int v)] [] M
  refine w_iload_n (pc := 0) dX5_file_0 rfl ?_
  refine w_iload_n (pc := 1) dX5_file_1 rfl ?_
  refine w_callS2 (n' := 2) (pc := 2) (c_X5_requireReturn hG) cs_X5_151 hT (by omega) (by decide) (Nat.le_of_ble_eq_true rfl) dX5_file_2 ?_
  refine ⟨_, _, rfl, fun hx => ?_, fun i j hi hj ei ej => ?_⟩
  · exact hX1 (fun q => hx ⟨q.1, q.2.1⟩)
  subst ei; subst ej
  dsimp only [psh]
  refine w_iload_n (pc := 5) dX5_file_5 rfl ?_
  refine w_callS1 (n' := 1) (pc := 6) (c_X5_requireLine hG) cs_X5_81 hT (by omega) (by decide) (Nat.le_of_ble_eq_true rfl) dX5_file_6 ?_
  refine ⟨_, rfl, fun hx => ?_, fun k hk ek => ?_⟩
  · exact hX1 (fun q => hx q.2.2)
  subst ek
  have hor := ob_ret (i := 4 * i + j) (by omega)
  have harn := ar_retN (i := 4 * i + j) (by omega)
  have harv := ar_retV (i := 4 * i + j) (by omega)
  have hr0 : rf (48 + 3 * (4 * i + j)) 0 = 48 + 3 * (4 * i + j) + 1 := rf_x (by omega)
  have hr1 : rf (48 + 3 * (4 * i + j)) 1 = 48 + 3 * (4 * i + j) + 2 := rf_x (by omega)
  have e := clN (i := k) (by omega)
  obtain ⟨hX2, hQ⟩ := hQ0 i j k hi hj hk rfl rfl rfl
  dsimp only [psh]
  refine w_aload_n (pc := 9) dX5_file_9 rfl ?_
  refine w_iload_n (pc := 10) dX5_file_10 rfl ?_
  refine w_callV1 (n' := 1) (pc := 11) (c_X5_hasFormula hG) cv_X5_108 (by first | assumption | exact ob rfl) hF hT (by omega) (by decide) (Nat.le_of_ble_eq_true rfl) dX5_file_11 ?_
  refine ⟨_, hk, rfl, hF, ?_⟩
  dsimp only [psh]
  refine w_if_ne 31 (pc := 14) dX5_file_14 (by decide) (fun h14 => ?_) (fun h14 => ?_)
  · rw [bi_1] at h14
    refine w_throw (pc := 31) (ik := 89) (is := 156) (ic := 93) (cls := "java/lang/IllegalArgumentException") (ix := 7) (text := "the line has a formula, or the number is too large") (List.mem_of_getElem? (i := 1) rfl) (List.mem_of_getElem? (i := 10) rfl) hT (by omega) (by decide) (Nat.le_of_ble_eq_true rfl) dX5_file_31 dX5_file_34 dX5_file_35 dX5_file_37 dX5_file_40 ?_
    exact hX2 (by first | exact Or.inl h14 | exact Or.inr (Or.inl h21) | exact Or.inr (Or.inr (Int32.not_le.mp h28)))
  · rw [bi_0] at h14
    refine w_iload (pc := 17) dX5_file_17 rfl ?_
    refine w_ldc (pc := 19) ki_X5_154 dX5_file_19 ?_
    refine w_icmp_lt 31 (pc := 21) dX5_file_21 (by decide) (fun h21 => ?_) (fun h21 => ?_)
    · refine w_throw (pc := 31) (ik := 89) (is := 156) (ic := 93) (cls := "java/lang/IllegalArgumentException") (ix := 7) (text := "the line has a formula, or the number is too large") (List.mem_of_getElem? (i := 1) rfl) (List.mem_of_getElem? (i := 10) rfl) hT (by omega) (by decide) (Nat.le_of_ble_eq_true rfl) dX5_file_31 dX5_file_34 dX5_file_35 dX5_file_37 dX5_file_40 ?_
      exact hX2 (by first | exact Or.inl h14 | exact Or.inr (Or.inl h21) | exact Or.inr (Or.inr (Int32.not_le.mp h28)))
    · refine w_iload (pc := 24) dX5_file_24 rfl ?_
      refine w_ldc (pc := 26) ki_X5_155 dX5_file_26 ?_
      refine w_icmp_le 41 (pc := 28) dX5_file_28 (by decide) (fun h28 => ?_) (fun h28 => ?_)
      · refine w_aload_n (pc := 41) dX5_file_41 rfl ?_
        refine w_iload_n (pc := 42) dX5_file_42 rfl ?_
        refine w_iload_n (pc := 43) dX5_file_43 rfl ?_
        refine w_callV2 (n' := 1) (pc := 44) (c_X5_returnOf hG) cv_X5_158 (by first | assumption | exact ob rfl) hF hT (by omega) (by decide) (Nat.le_of_ble_eq_true rfl) dX5_file_44 ?_
        refine ⟨_, _, hi, hj, rfl, hF, ?_⟩
        dsimp only [psh]
        refine w_astore 5 (pc := 47) dX5_file_47 (by decide) ?_
        refine w_aload (pc := 49) dX5_file_49 rfl ?_
        refine w_getR (b := 48 + 3 * (4 * i + j) + 1) (pc := 51) fl_X5_162 hF (by first | assumption | exact ob rfl) rfl (by first | assumption | exact rf_x (by omega)) dX5_file_51 ?_
        refine w_iload_n (pc := 54) dX5_file_54 rfl ?_
        refine w_iald (m := 12) (pc := 55) hF (by first | assumption | exact ar rfl) (vin hk (by decide)) dX5_file_55 ?_
        refine w_istore 6 (pc := 56) dX5_file_56 (by decide) ?_
        refine w_aload (pc := 58) dX5_file_58 rfl ?_
        refine w_getR (b := 48 + 3 * (4 * i + j) + 1) (pc := 60) fl_X5_162 hF (by first | assumption | exact ob rfl) rfl (by first | assumption | exact rf_x (by omega)) dX5_file_60 ?_
        refine w_iload_n (pc := 63) dX5_file_63 rfl ?_
        refine w_iload (pc := 64) dX5_file_64 rfl ?_
        refine w_iast (m := 12) (pc := 66) hF (by first | assumption | exact ar rfl) (vin hk (by decide)) dX5_file_66 ?_
        refine w_iload (pc := 67) dX5_file_67 rfl ?_
        refine w_ireturn (pc := 69) dX5_file_69 rfl ?_
        rw [e]
        exact hQ h14 h21 (Int32.not_lt.mpr h28)
      · refine w_throw (pc := 31) (ik := 89) (is := 156) (ic := 93) (cls := "java/lang/IllegalArgumentException") (ix := 7) (text := "the line has a formula, or the number is too large") (List.mem_of_getElem? (i := 1) rfl) (List.mem_of_getElem? (i := 10) rfl) hT (by omega) (by decide) (Nat.le_of_ble_eq_true rfl) dX5_file_31 dX5_file_34 dX5_file_35 dX5_file_37 dX5_file_40 ?_
        exact hX2 (by first | exact Or.inl h14 | exact Or.inr (Or.inl h21) | exact Or.inr (Or.inr (Int32.not_le.mp h28)))
def T_value : PT := fun as M Q X => ∃ t y z : Int32, as = [.ref 0, .int t, .int y, .int z] ∧ Full M ∧ (¬ (ix t 3 ∧ ix y 4 ∧ ix z 12) → X "java/util/NoSuchElementException" M) ∧ (∀ i j k, i < 3 → j < 4 → k < 12 → t = nI i → y = nI j → z = nI k → (mI M (48 + 3 * (4 * i + j)) 3 = 0 → X "java/lang/IllegalStateException" M) ∧ (¬ mI M (48 + 3 * (4 * i + j)) 3 = 0 → Q (some (.long (mJ M (48 + 3 * (4 * i + j) + 2) k))) M))
def T_share : PT := fun as M Q X => ∃ t y z : Int32, as = [.ref 0, .int t, .int y, .int z] ∧ Full M ∧ (¬ (ix t 3 ∧ ix y 4 ∧ ix z 12) → X "java/util/NoSuchElementException" M) ∧ (∀ i j k, i < 3 → j < 4 → k < 12 → t = nI i → y = nI j → z = nI k → (mI M (48 + 3 * (4 * i + j)) 3 = 0 → X "java/lang/IllegalStateException" M) ∧ (¬ mI M (48 + 3 * (4 * i + j)) 3 = 0 → mJ M (48 + 3 * (4 * i + j)) 2 = 0 → Q (some (.double FP.dconst0)) M) ∧ (¬ mI M (48 + 3 * (4 * i + j)) 3 = 0 → ¬ mJ M (48 + 3 * (4 * i + j)) 2 = 0 → vf_n64 (FP.ddiv (FP.l2d (mJ M (48 + 3 * (4 * i + j) + 2) k)) (FP.l2d (mJ M (48 + 3 * (4 * i + j)) 2))) ∧ Q (some (.double (FP.ddiv (FP.l2d (mJ M (48 + 3 * (4 * i + j) + 2) k)) (FP.l2d (mJ M (48 + 3 * (4 * i + j)) 2))))) M))
theorem c_X5_value {l : Launch} (hl : l.stackTraces = false) : Con l yX5_value wX5_value 4 12 (T_value) := by
  refine con_of hl (by decide) ?_ ?_
  · intro as M Q X hpt
    obtain ⟨t, y, z, rfl, hF, hX1, hQ0⟩ := hpt
    exact Nat.le_of_ble_eq_true rfl
  intro G as M Q X hl' hT hd hpt
  obtain ⟨t, y, z, rfl, hF, hX1, hQ0⟩ := hpt
  have hG : (gl G).stackTraces = false := by rw [hl']; exact hl
  show PW G RX5 cX5_value 4 (some .long) Q X 4 0 [(0, .ref 0), (1, .int t), (2, .int y), (3, .int z)] [] M
  refine w_iload_n (pc := 0) dX5_value_0 rfl ?_
  refine w_iload_n (pc := 1) dX5_value_1 rfl ?_
  refine w_callS2 (n' := 2) (pc := 2) (c_X5_requireReturn hG) cs_X5_151 hT (by omega) (by decide) (Nat.le_of_ble_eq_true rfl) dX5_value_2 ?_
  refine ⟨_, _, rfl, fun hx => ?_, fun i j hi hj ei ej => ?_⟩
  · exact hX1 (fun q => hx ⟨q.1, q.2.1⟩)
  subst ei; subst ej
  dsimp only [psh]
  refine w_iload_n (pc := 5) dX5_value_5 rfl ?_
  refine w_callS1 (n' := 1) (pc := 6) (c_X5_requireLine hG) cs_X5_81 hT (by omega) (by decide) (Nat.le_of_ble_eq_true rfl) dX5_value_6 ?_
  refine ⟨_, rfl, fun hx => ?_, fun k hk ek => ?_⟩
  · exact hX1 (fun q => hx q.2.2)
  subst ek
  have hor := ob_ret (i := 4 * i + j) (by omega)
  have harn := ar_retN (i := 4 * i + j) (by omega)
  have harv := ar_retV (i := 4 * i + j) (by omega)
  have hr0 : rf (48 + 3 * (4 * i + j)) 0 = 48 + 3 * (4 * i + j) + 1 := rf_x (by omega)
  have hr1 : rf (48 + 3 * (4 * i + j)) 1 = 48 + 3 * (4 * i + j) + 2 := rf_x (by omega)
  have e := clN (i := k) (by omega)
  obtain ⟨hX2, hQ⟩ := hQ0 i j k hi hj hk rfl rfl rfl
  dsimp only [psh]
  refine w_aload_n (pc := 9) dX5_value_9 rfl ?_
  refine w_iload_n (pc := 10) dX5_value_10 rfl ?_
  refine w_iload_n (pc := 11) dX5_value_11 rfl ?_
  refine w_callV2 (n' := 0) (pc := 12) (c_X5_requireAssessed hG) cv_X5_192 (by first | assumption | exact ob rfl) hF hT (by omega) (by decide) (Nat.le_of_ble_eq_true rfl) dX5_value_12 ?_
  refine ⟨i, j, hi, hj, rfl, hF, fun ha => ?_, fun ha => ?_⟩
  · exact hX2 ha
  dsimp only [psh]
  refine w_aload_n (pc := 15) dX5_value_15 rfl ?_
  refine w_iload_n (pc := 16) dX5_value_16 rfl ?_
  refine w_iload_n (pc := 17) dX5_value_17 rfl ?_
  refine w_callV2 (n' := 0) (pc := 18) (c_X5_returnOf hG) cv_X5_158 (by first | assumption | exact ob rfl) hF hT (by omega) (by decide) (Nat.le_of_ble_eq_true rfl) dX5_value_18 ?_
  refine ⟨_, _, hi, hj, rfl, hF, ?_⟩
  dsimp only [psh]
  refine w_getR (b := 48 + 3 * (4 * i + j) + 2) (pc := 21) fl_X5_168 hF (by first | assumption | exact ob rfl) rfl (by first | assumption | exact rf_x (by omega)) dX5_value_21 ?_
  refine w_iload_n (pc := 24) dX5_value_24 rfl ?_
  refine w_lald (m := 12) (pc := 25) hF (by first | assumption | exact ar rfl) (vin hk (by decide)) dX5_value_25 ?_
  refine w_lreturn (pc := 26) dX5_value_26 ?_
  rw [e]
  exact hQ ha
theorem c_X5_share {l : Launch} (hl : l.stackTraces = false) : Con l yX5_share wX5_share 4 12 (T_share) := by
  refine con_of hl (by decide) ?_ ?_
  · intro as M Q X hpt
    obtain ⟨t, y, z, rfl, hF, hX1, hQ0⟩ := hpt
    exact Nat.le_of_ble_eq_true rfl
  intro G as M Q X hl' hT hd hpt
  obtain ⟨t, y, z, rfl, hF, hX1, hQ0⟩ := hpt
  have hG : (gl G).stackTraces = false := by rw [hl']; exact hl
  show PW G RX5 cX5_share 5 (some .double) Q X 4 0 [(0, .ref 0), (1, .int t), (2, .int y), (3, .int z)] [] M
  refine w_iload_n (pc := 0) dX5_share_0 rfl ?_
  refine w_iload_n (pc := 1) dX5_share_1 rfl ?_
  refine w_callS2 (n' := 2) (pc := 2) (c_X5_requireReturn hG) cs_X5_151 hT (by omega) (by decide) (Nat.le_of_ble_eq_true rfl) dX5_share_2 ?_
  refine ⟨_, _, rfl, fun hx => ?_, fun i j hi hj ei ej => ?_⟩
  · exact hX1 (fun q => hx ⟨q.1, q.2.1⟩)
  subst ei; subst ej
  dsimp only [psh]
  refine w_iload_n (pc := 5) dX5_share_5 rfl ?_
  refine w_callS1 (n' := 1) (pc := 6) (c_X5_requireLine hG) cs_X5_81 hT (by omega) (by decide) (Nat.le_of_ble_eq_true rfl) dX5_share_6 ?_
  refine ⟨_, rfl, fun hx => ?_, fun k hk ek => ?_⟩
  · exact hX1 (fun q => hx q.2.2)
  subst ek
  have hor := ob_ret (i := 4 * i + j) (by omega)
  have harn := ar_retN (i := 4 * i + j) (by omega)
  have harv := ar_retV (i := 4 * i + j) (by omega)
  have hr0 : rf (48 + 3 * (4 * i + j)) 0 = 48 + 3 * (4 * i + j) + 1 := rf_x (by omega)
  have hr1 : rf (48 + 3 * (4 * i + j)) 1 = 48 + 3 * (4 * i + j) + 2 := rf_x (by omega)
  have e := clN (i := k) (by omega)
  obtain ⟨hX2, hQ1, hQ2⟩ := hQ0 i j k hi hj hk rfl rfl rfl
  dsimp only [psh]
  refine w_aload_n (pc := 9) dX5_share_9 rfl ?_
  refine w_iload_n (pc := 10) dX5_share_10 rfl ?_
  refine w_iload_n (pc := 11) dX5_share_11 rfl ?_
  refine w_callV2 (n' := 0) (pc := 12) (c_X5_requireAssessed hG) cv_X5_192 (by first | assumption | exact ob rfl) hF hT (by omega) (by decide) (Nat.le_of_ble_eq_true rfl) dX5_share_12 ?_
  refine ⟨i, j, hi, hj, rfl, hF, fun ha => ?_, fun ha => ?_⟩
  · exact hX2 ha
  dsimp only [psh]
  refine w_aload_n (pc := 15) dX5_share_15 rfl ?_
  refine w_iload_n (pc := 16) dX5_share_16 rfl ?_
  refine w_iload_n (pc := 17) dX5_share_17 rfl ?_
  refine w_callV2 (n' := 0) (pc := 18) (c_X5_returnOf hG) cv_X5_158 (by first | assumption | exact ob rfl) hF hT (by omega) (by decide) (Nat.le_of_ble_eq_true rfl) dX5_share_18 ?_
  refine ⟨_, _, hi, hj, rfl, hF, ?_⟩
  dsimp only [psh]
  refine w_astore 4 (pc := 21) dX5_share_21 (by decide) ?_
  refine w_aload (pc := 23) dX5_share_23 rfl ?_
  refine w_getJ (pc := 25) fl_X5_180 hF (by first | assumption | exact ob rfl) rfl dX5_share_25 ?_
  refine w_lconst (v := 0) (pc := 28) dX5_share_28 rfl ?_
  refine w_lcmp_ne 35 (pc := 29) dX5_share_29 dX5_share_30 (by decide) (fun h29 => ?_) (fun h29 => ?_)
  · refine w_aload (pc := 35) dX5_share_35 rfl ?_
    refine w_getR (b := 48 + 3 * (4 * i + j) + 2) (pc := 37) fl_X5_168 hF (by first | assumption | exact ob rfl) rfl (by first | assumption | exact rf_x (by omega)) dX5_share_37 ?_
    refine w_iload_n (pc := 40) dX5_share_40 rfl ?_
    refine w_lald (m := 12) (pc := 41) hF (by first | assumption | exact ar rfl) (vin hk (by decide)) dX5_share_41 ?_
    refine w_l2d (pc := 42) dX5_share_42 ?_
    refine w_aload (pc := 43) dX5_share_43 rfl ?_
    refine w_getJ (pc := 45) fl_X5_180 hF (by first | assumption | exact ob rfl) rfl dX5_share_45 ?_
    refine w_l2d (pc := 48) dX5_share_48 ?_
    refine w_ddiv (pc := 49) dX5_share_49 (by rw [e]; exact (hQ2 ha h29).1) ?_
    refine w_dreturn (pc := 50) dX5_share_50 ?_
    rw [e]
    exact (hQ2 ha h29).2
  · refine w_dconst0 (pc := 33) dX5_share_33 ?_
    refine w_dreturn (pc := 34) dX5_share_34 ?_
    exact hQ1 ha h29
def T_pay : PT := fun as M Q X => ∃ x v : Int32, as = [.ref 0, .int x, .int v] ∧ Full M ∧ (¬ ix x 3 → X "java/util/NoSuchElementException" M) ∧ (∀ i, i < 3 → x = nI i → ∃ p, p ≤ 24 ∧ mI M (84 + 4 * i) 3 = nI p ∧ ((v < 1 ∨ 1000000000 < v) → X "java/lang/IllegalArgumentException" M) ∧ (¬ v < 1 → ¬ 1000000000 < v → p = 24 → X "java/lang/IllegalStateException" M) ∧ (¬ v < 1 → ¬ 1000000000 < v → p < 24 → Q (some (.long (mJ M (84 + 4 * i) 4 + (-v).toInt64))) (posA M (84 + 4 * i) 1 (-1) (-v).toInt64)))
theorem c_X5_pay {l : Launch} (hl : l.stackTraces = false) : Con l yX5_pay wX5_pay 3 10 (T_pay) := by
  refine con_of hl (by decide) ?_ ?_
  · intro as M Q X hpt
    obtain ⟨x, v, rfl, hF, hX, hQ0⟩ := hpt
    exact Nat.le_of_ble_eq_true rfl
  intro G as M Q X hl' hT hd hpt
  obtain ⟨x, v, rfl, hF, hX, hQ0⟩ := hpt
  have hG : (gl G).stackTraces = false := by rw [hl']; exact hl
  show PW G RX5 cX5_pay 4 (some .long) Q X 3 0 [(0, .ref 0), (1, .int x), (2, .int v)] [] M
  refine w_iload_n (pc := 0) dX5_pay_0 rfl ?_
  refine w_callS1 (n' := 2) (pc := 1) (c_X5_requireTaxpayer hG) cs_X5_195 hT (by omega) (by decide) (Nat.le_of_ble_eq_true rfl) dX5_pay_1 ?_
  refine ⟨_, rfl, fun hx => ?_, fun i hi ei => ?_⟩
  · exact hX hx
  subst ei
  obtain ⟨p, hp, ep, hX1, hX2, hQ⟩ := hQ0 i hi rfl
  have hoa := ob_acc hi
  have e := clN (i := i) (by omega)
  have hr0 : rf (84 + 4 * i) 0 = 84 + 4 * i + 1 := rf_x (by omega)
  have hr1 : rf (84 + 4 * i) 1 = 84 + 4 * i + 2 := rf_x (by omega)
  have hr2 : rf (84 + 4 * i) 2 = 84 + 4 * i + 3 := rf_x (by omega)
  have ha0 := ar_accK hi
  have ha1 := ar_accY hi
  have ha2 := ar_accA hi
  dsimp only [psh]
  refine w_iload_n (pc := 4) dX5_pay_4 rfl ?_
  refine w_iconst (v := 1) (pc := 5) dX5_pay_5 rfl ?_
  refine w_icmp_lt 15 (pc := 6) dX5_pay_6 (by decide) (fun h6 => ?_) (fun h6 => ?_)
  · refine w_throw (pc := 15) (ik := 89) (is := 198) (ic := 93) (cls := "java/lang/IllegalArgumentException") (ix := 7) (text := "no such amount") (List.mem_of_getElem? (i := 1) rfl) (List.mem_of_getElem? (i := 14) rfl) hT (by omega) (by decide) (Nat.le_of_ble_eq_true rfl) dX5_pay_15 dX5_pay_18 dX5_pay_19 dX5_pay_21 dX5_pay_24 ?_
    exact hX1 (by first | exact Or.inl h6 | exact Or.inr (Int32.not_le.mp h12))
  · refine w_iload_n (pc := 9) dX5_pay_9 rfl ?_
    refine w_ldc (pc := 10) ki_X5_155 dX5_pay_10 ?_
    refine w_icmp_le 25 (pc := 12) dX5_pay_12 (by decide) (fun h12 => ?_) (fun h12 => ?_)
    · refine w_aload_n (pc := 25) dX5_pay_25 rfl ?_
      refine w_getR (b := 6) (pc := 26) fl_X5_32 hF (by first | assumption | exact ob rfl) rfl rfl dX5_pay_26 ?_
      refine w_iload_n (pc := 29) dX5_pay_29 rfl ?_
      refine w_aald (m := 3) (b := 84 + 4 * i) (pc := 30) (Or.inl rfl) hF (by first | assumption | exact ar rfl) (vin hi (by decide)) (by rw [e]; rfl) dX5_pay_30 ?_
      refine w_astore_n 3 (pc := 31) rfl dX5_pay_31 (by decide) ?_
      refine w_aload_n (pc := 32) dX5_pay_32 rfl ?_
      refine w_callV0 (n' := 2) (pc := 33) (c_X0_isFull hG) cv_X5_165 (by first | assumption | exact ob rfl) hF hT (by omega) (by decide) (Nat.le_of_ble_eq_true rfl) dX5_pay_33 ?_
      refine ⟨_, rfl, hF, by assumption, ?_⟩
      dsimp only [psh]
      refine w_if_eq 49 (pc := 36) dX5_pay_36 (by decide) (fun h36 => ?_) (fun h36 => ?_)
      · have p24 : p < 24 := by rw [bi_0, ep, show (24 : Int32) = nI 24 from rfl, decide_eq_false_iff_not, nI_leI (by omega) (by omega)] at h36; omega
        refine w_aload_n (pc := 49) dX5_pay_49 rfl ?_
        refine w_iconst (v := 1) (pc := 50) dX5_pay_50 rfl ?_
        refine w_iconst (v := -1) (pc := 51) dX5_pay_51 rfl ?_
        refine w_iload_n (pc := 52) dX5_pay_52 rfl ?_
        refine w_ineg (pc := 53) dX5_pay_53 ?_
        refine w_i2l (pc := 54) dX5_pay_54 ?_
        refine w_callV3 (n' := 2) (pc := 55) (c_X0_post hG) cv_X5_184 (by first | assumption | exact ob rfl) hF hT (by omega) (by decide) (Nat.le_of_ble_eq_true rfl) dX5_pay_55 ?_
        refine ⟨_, _, _, _, rfl, hF, hoa, ⟨hr0, hr1, hr2⟩, ⟨ha0, ha1, ha2⟩, (by rw [ep]; exact vin (by omega) (by decide)), ?_⟩
        dsimp only [psh]
        refine w_aload_n (pc := 58) dX5_pay_58 rfl ?_
        refine w_getJ (pc := 59) fl_X5_202 hF (by first | assumption | exact ob rfl) rfl dX5_pay_59 ?_
        refine w_lreturn (pc := 62) dX5_pay_62 ?_
        have e2 : mJ (posA M (84 + 4 * i) 1 (-1) (-v).toInt64) (84 + 4 * i) 4 = mJ M (84 + 4 * i) 4 + (-v).toInt64 := by unfold posA; rw [mJ_s]
        rw [e2]
        exact hQ h6 (Int32.not_lt.mpr h12) p24
      · have p24 : p = 24 := by rw [bi_1, ep, show (24 : Int32) = nI 24 from rfl, decide_eq_true_eq, nI_leI (by omega) (by omega)] at h36; omega
        refine w_throw (pc := 39) (ik := 127) (is := 200) (ic := 131) (cls := "java/lang/IllegalStateException") (ix := 7) (text := "the account is full") (List.mem_of_getElem? (i := 2) rfl) (List.mem_of_getElem? (i := 15) rfl) hT (by omega) (by decide) (Nat.le_of_ble_eq_true rfl) dX5_pay_39 dX5_pay_42 dX5_pay_43 dX5_pay_45 dX5_pay_48 ?_
        exact hX2 h6 (Int32.not_lt.mpr h12) p24
    · refine w_throw (pc := 15) (ik := 89) (is := 198) (ic := 93) (cls := "java/lang/IllegalArgumentException") (ix := 7) (text := "no such amount") (List.mem_of_getElem? (i := 1) rfl) (List.mem_of_getElem? (i := 14) rfl) hT (by omega) (by decide) (Nat.le_of_ble_eq_true rfl) dX5_pay_15 dX5_pay_18 dX5_pay_19 dX5_pay_21 dX5_pay_24 ?_
      exact hX1 (by first | exact Or.inl h6 | exact Or.inr (Int32.not_le.mp h12))
def T_balance : PT := fun as M Q X => ∃ x : Int32, as = [.ref 0, .int x] ∧ Full M ∧ (¬ ix x 3 → X "java/util/NoSuchElementException" M) ∧ (∀ i, i < 3 → x = nI i → Q (some (.long (mJ M (84 + 4 * i) 4))) M)
theorem c_X5_balance {l : Launch} (hl : l.stackTraces = false) : Con l yX5_balance wX5_balance 1 10 (T_balance) := by
  refine con_of hl (by decide) ?_ ?_
  · intro as M Q X hpt
    obtain ⟨x, rfl, hF, hX, hQ⟩ := hpt
    exact Nat.le_of_ble_eq_true rfl
  intro G as M Q X hl' hT hd hpt
  obtain ⟨x, rfl, hF, hX, hQ⟩ := hpt
  have hG : (gl G).stackTraces = false := by rw [hl']; exact hl
  show PW G RX5 cX5_balance 2 (some .long) Q X 1 0 [(0, .ref 0), (1, .int x)] [] M
  refine w_iload_n (pc := 0) dX5_balance_0 rfl ?_
  refine w_callS1 (n' := 0) (pc := 1) (c_X5_requireTaxpayer hG) cs_X5_195 hT (by omega) (by decide) (Nat.le_of_ble_eq_true rfl) dX5_balance_1 ?_
  refine ⟨_, rfl, fun hx => ?_, fun i hi ei => ?_⟩
  · exact hX hx
  subst ei
  have hoa := ob_acc hi
  have e := clN (i := i) (by omega)
  have hr0 : rf (84 + 4 * i) 0 = 84 + 4 * i + 1 := rf_x (by omega)
  have hr1 : rf (84 + 4 * i) 1 = 84 + 4 * i + 2 := rf_x (by omega)
  have hr2 : rf (84 + 4 * i) 2 = 84 + 4 * i + 3 := rf_x (by omega)
  have ha0 := ar_accK hi
  have ha1 := ar_accY hi
  have ha2 := ar_accA hi
  dsimp only [psh]
  refine w_aload_n (pc := 4) dX5_balance_4 rfl ?_
  refine w_getR (b := 6) (pc := 5) fl_X5_32 hF (by first | assumption | exact ob rfl) rfl rfl dX5_balance_5 ?_
  refine w_iload_n (pc := 8) dX5_balance_8 rfl ?_
  refine w_aald (m := 3) (b := 84 + 4 * i) (pc := 9) (Or.inl rfl) hF (by first | assumption | exact ar rfl) (vin hi (by decide)) (by rw [e]; rfl) dX5_balance_9 ?_
  refine w_getJ (pc := 10) fl_X5_202 hF (by first | assumption | exact ob rfl) rfl dX5_balance_10 ?_
  refine w_lreturn (pc := 13) dX5_balance_13 ?_
  exact hQ i hi rfl
def T_posting : PT := fun as M Q X => ∃ x z w : Int32, as = [.ref 0, .int x, .int z, .int w] ∧ Full M ∧ (¬ ix x 3 → X "java/util/NoSuchElementException" M) ∧ (∀ i, i < 3 → x = nI i → ∃ p, p ≤ 24 ∧ mI M (84 + 4 * i) 3 = nI p ∧ (¬ (ix z p ∧ ix w 3) → X "java/lang/IllegalArgumentException" M) ∧ (∀ j, j < p → z = nI j → (w = 0 → Q (some (.long (mI M (84 + 4 * i + 1) j).toInt64)) M) ∧ (w = 1 → Q (some (.long (mI M (84 + 4 * i + 2) j).toInt64)) M) ∧ (w = 2 → Q (some (.long (mJ M (84 + 4 * i + 3) j))) M)))
theorem c_X5_posting {l : Launch} (hl : l.stackTraces = false) : Con l yX5_posting wX5_posting 2 10 (T_posting) := by
  refine con_of hl (by decide) ?_ ?_
  · intro as M Q X hpt
    obtain ⟨x, z, w, rfl, hF, hX, hQ0⟩ := hpt
    exact Nat.le_of_ble_eq_true rfl
  intro G as M Q X hl' hT hd hpt
  obtain ⟨x, z, w, rfl, hF, hX, hQ0⟩ := hpt
  have hG : (gl G).stackTraces = false := by rw [hl']; exact hl
  show PW G RX5 cX5_posting 5 (some .long) Q X 2 0 [(0, .ref 0), (1, .int x), (2, .int z), (3, .int w)] [] M
  refine w_iload_n (pc := 0) dX5_posting_0 rfl ?_
  refine w_callS1 (n' := 1) (pc := 1) (c_X5_requireTaxpayer hG) cs_X5_195 hT (by omega) (by decide) (Nat.le_of_ble_eq_true rfl) dX5_posting_1 ?_
  refine ⟨_, rfl, fun hx => ?_, fun i hi ei => ?_⟩
  · exact hX hx
  subst ei
  obtain ⟨p, hp, ep, hX1, hQ1⟩ := hQ0 i hi rfl
  have hoa := ob_acc hi
  have e := clN (i := i) (by omega)
  have hr0 : rf (84 + 4 * i) 0 = 84 + 4 * i + 1 := rf_x (by omega)
  have hr1 : rf (84 + 4 * i) 1 = 84 + 4 * i + 2 := rf_x (by omega)
  have hr2 : rf (84 + 4 * i) 2 = 84 + 4 * i + 3 := rf_x (by omega)
  have ha0 := ar_accK hi
  have ha1 := ar_accY hi
  have ha2 := ar_accA hi
  dsimp only [psh]
  refine w_aload_n (pc := 4) dX5_posting_4 rfl ?_
  refine w_getR (b := 6) (pc := 5) fl_X5_32 hF (by first | assumption | exact ob rfl) rfl rfl dX5_posting_5 ?_
  refine w_iload_n (pc := 8) dX5_posting_8 rfl ?_
  refine w_aald (m := 3) (b := 84 + 4 * i) (pc := 9) (Or.inl rfl) hF (by first | assumption | exact ar rfl) (vin hi (by decide)) (by rw [e]; rfl) dX5_posting_9 ?_
  refine w_astore 4 (pc := 10) dX5_posting_10 (by decide) ?_
  refine w_iload_n (pc := 12) dX5_posting_12 rfl ?_
  refine w_if_lt 34 (pc := 13) dX5_posting_13 (by decide) (fun h13 => ?_) (fun h13 => ?_)
  · refine w_throw (pc := 34) (ik := 89) (is := 216) (ic := 93) (cls := "java/lang/IllegalArgumentException") (ix := 7) (text := "no such posting or what") (List.mem_of_getElem? (i := 1) rfl) (List.mem_of_getElem? (i := 19) rfl) hT (by omega) (by decide) (Nat.le_of_ble_eq_true rfl) dX5_posting_34 dX5_posting_37 dX5_posting_38 dX5_posting_40 dX5_posting_43 ?_
    exact hX1 (fun q => by first | exact ix_no (n := 24) (N := 24) rfl (by decide) (Or.inl h13) (by obtain ⟨j, hj, ej⟩ := q.1; exact ⟨j, by omega, ej⟩) | (obtain ⟨j2, hj2, ej⟩ := q.1; rw [nI_eq hj0 (by omega)] at ej; omega) | exact ix_out (n := 2) (N := 2) rfl (by decide) (Or.inl h26) q.2 | exact ix_out (n := 2) (N := 2) rfl (by decide) (Or.inr (Int32.not_le.mp h31)) q.2)
  · obtain ⟨j, hj0, rfl⟩ := nI_of h13
    refine w_iload_n (pc := 16) dX5_posting_16 rfl ?_
    refine w_aload (pc := 17) dX5_posting_17 rfl ?_
    refine w_getI (pc := 19) fl_X5_215 hF (by first | assumption | exact ob rfl) rfl dX5_posting_19 ?_
    refine w_icmp_ge 34 (pc := 22) dX5_posting_22 (by decide) (fun h22 => ?_) (fun h22 => ?_)
    · rw [ep, nI_leI (by omega) hj0] at h22
      refine w_throw (pc := 34) (ik := 89) (is := 216) (ic := 93) (cls := "java/lang/IllegalArgumentException") (ix := 7) (text := "no such posting or what") (List.mem_of_getElem? (i := 1) rfl) (List.mem_of_getElem? (i := 19) rfl) hT (by omega) (by decide) (Nat.le_of_ble_eq_true rfl) dX5_posting_34 dX5_posting_37 dX5_posting_38 dX5_posting_40 dX5_posting_43 ?_
      exact hX1 (fun q => by first | exact ix_no (n := 24) (N := 24) rfl (by decide) (Or.inl h13) (by obtain ⟨j, hj, ej⟩ := q.1; exact ⟨j, by omega, ej⟩) | (obtain ⟨j2, hj2, ej⟩ := q.1; rw [nI_eq hj0 (by omega)] at ej; omega) | exact ix_out (n := 2) (N := 2) rfl (by decide) (Or.inl h26) q.2 | exact ix_out (n := 2) (N := 2) rfl (by decide) (Or.inr (Int32.not_le.mp h31)) q.2)
    · rw [ep, nI_leI (by omega) hj0] at h22
      have hj : j < p := by omega
      obtain ⟨q0, q1, q2⟩ := hQ1 j hj rfl
      have e2 := clN (i := j) (by omega)
      refine w_iload_n (pc := 25) dX5_posting_25 rfl ?_
      refine w_if_lt 34 (pc := 26) dX5_posting_26 (by decide) (fun h26 => ?_) (fun h26 => ?_)
      · refine w_throw (pc := 34) (ik := 89) (is := 216) (ic := 93) (cls := "java/lang/IllegalArgumentException") (ix := 7) (text := "no such posting or what") (List.mem_of_getElem? (i := 1) rfl) (List.mem_of_getElem? (i := 19) rfl) hT (by omega) (by decide) (Nat.le_of_ble_eq_true rfl) dX5_posting_34 dX5_posting_37 dX5_posting_38 dX5_posting_40 dX5_posting_43 ?_
        exact hX1 (fun q => by first | exact ix_no (n := 24) (N := 24) rfl (by decide) (Or.inl h13) (by obtain ⟨j, hj, ej⟩ := q.1; exact ⟨j, by omega, ej⟩) | (obtain ⟨j2, hj2, ej⟩ := q.1; rw [nI_eq hj0 (by omega)] at ej; omega) | exact ix_out (n := 2) (N := 2) rfl (by decide) (Or.inl h26) q.2 | exact ix_out (n := 2) (N := 2) rfl (by decide) (Or.inr (Int32.not_le.mp h31)) q.2)
      · refine w_iload_n (pc := 29) dX5_posting_29 rfl ?_
        refine w_iconst (v := 2) (pc := 30) dX5_posting_30 rfl ?_
        refine w_icmp_le 44 (pc := 31) dX5_posting_31 (by decide) (fun h31 => ?_) (fun h31 => ?_)
        · refine w_iload_n (pc := 44) dX5_posting_44 rfl ?_
          refine w_if_ne 57 (pc := 45) dX5_posting_45 (by decide) (fun h45 => ?_) (fun h45 => ?_)
          · refine w_iload_n (pc := 57) dX5_posting_57 rfl ?_
            refine w_iconst (v := 1) (pc := 58) dX5_posting_58 rfl ?_
            refine w_icmp_ne 73 (pc := 59) dX5_posting_59 (by decide) (fun h59 => ?_) (fun h59 => ?_)
            · refine w_aload (pc := 73) dX5_posting_73 rfl ?_
              refine w_getR (b := 84 + 4 * i + 3) (pc := 75) fl_X5_224 hF (by first | assumption | exact ob rfl) rfl (by first | assumption | exact rf_x (by omega)) dX5_posting_75 ?_
              refine w_iload_n (pc := 78) dX5_posting_78 rfl ?_
              refine w_lald (m := 24) (pc := 79) hF (by first | assumption | exact ar rfl) (vin (by omega) (by decide)) dX5_posting_79 ?_
              refine w_lreturn (pc := 80) dX5_posting_80 ?_
              rw [e2]
              first | exact q1 h59 | (obtain ⟨k, hk, rfl⟩ := ix_in (n := 2) (N := 2) rfl (by decide) ⟨h26, Int32.not_lt.mpr h31⟩; exact q2 (by rcases (show k = 0 ∨ k = 1 ∨ k = 2 by omega) with rfl | rfl | rfl; exact absurd rfl h45; exact absurd rfl h59; rfl))
            · refine w_aload (pc := 62) dX5_posting_62 rfl ?_
              refine w_getR (b := 84 + 4 * i + 2) (pc := 64) fl_X5_221 hF (by first | assumption | exact ob rfl) rfl (by first | assumption | exact rf_x (by omega)) dX5_posting_64 ?_
              refine w_iload_n (pc := 67) dX5_posting_67 rfl ?_
              refine w_iald (m := 24) (pc := 68) hF (by first | assumption | exact ar rfl) (vin (by omega) (by decide)) dX5_posting_68 ?_
              refine w_i2l (pc := 69) dX5_posting_69 ?_
              refine w_goto 80 (pc := 70) dX5_posting_70 (by decide) ?_
              refine w_lreturn (pc := 80) dX5_posting_80 ?_
              rw [e2]
              first | exact q1 h59 | (obtain ⟨k, hk, rfl⟩ := ix_in (n := 2) (N := 2) rfl (by decide) ⟨h26, Int32.not_lt.mpr h31⟩; exact q2 (by rcases (show k = 0 ∨ k = 1 ∨ k = 2 by omega) with rfl | rfl | rfl; exact absurd rfl h45; exact absurd rfl h59; rfl))
          · refine w_aload (pc := 48) dX5_posting_48 rfl ?_
            refine w_getR (b := 84 + 4 * i + 1) (pc := 50) fl_X5_218 hF (by first | assumption | exact ob rfl) rfl (by first | assumption | exact rf_x (by omega)) dX5_posting_50 ?_
            refine w_iload_n (pc := 53) dX5_posting_53 rfl ?_
            refine w_iald (m := 24) (pc := 54) hF (by first | assumption | exact ar rfl) (vin (by omega) (by decide)) dX5_posting_54 ?_
            refine w_i2l (pc := 55) dX5_posting_55 ?_
            refine w_lreturn (pc := 56) dX5_posting_56 ?_
            rw [e2]
            exact q0 h45
        · refine w_throw (pc := 34) (ik := 89) (is := 216) (ic := 93) (cls := "java/lang/IllegalArgumentException") (ix := 7) (text := "no such posting or what") (List.mem_of_getElem? (i := 1) rfl) (List.mem_of_getElem? (i := 19) rfl) hT (by omega) (by decide) (Nat.le_of_ble_eq_true rfl) dX5_posting_34 dX5_posting_37 dX5_posting_38 dX5_posting_40 dX5_posting_43 ?_
          exact hX1 (fun q => by first | exact ix_no (n := 24) (N := 24) rfl (by decide) (Or.inl h13) (by obtain ⟨j, hj, ej⟩ := q.1; exact ⟨j, by omega, ej⟩) | (obtain ⟨j2, hj2, ej⟩ := q.1; rw [nI_eq hj0 (by omega)] at ej; omega) | exact ix_out (n := 2) (N := 2) rfl (by decide) (Or.inl h26) q.2 | exact ix_out (n := 2) (N := 2) rfl (by decide) (Or.inr (Int32.not_le.mp h31)) q.2)
