/-! THE LAW'S WRAPPERS -/
theorem ll_13 : Cond.classLink RL 13 "java/util/NoSuchElementException" ∈ WW := (inW 350 (by decide +kernel) (by decide +kernel))
theorem ll_15 : Cond.classLink RL 15 "java/lang/IllegalArgumentException" ∈ WW := (inW 351 (by decide +kernel) (by decide +kernel))
theorem ll_28 : Cond.classLink RL 28 "java/lang/IllegalStateException" ∈ WW := (inW 576 (by decide +kernel) (by decide +kernel))
theorem ll_45 : Cond.classLink RL 45 "java/lang/ArithmeticException" ∈ WW := (inW 665 (by decide +kernel) (by decide +kernel))
abbrev wL_define : Cond := Cond.codeWith yL_define cL_define 4 (some .int) [(0, 9, 12, 13), (0, 9, 15, 15)]
theorem csw_85 : CSW RL 85 yL_define wL_define 3 := ⟨cL_define, 4, some .int, [(0, 9, 12, 13), (0, 9, 15, 15)], rfl, by decide, ⟨by decide +kernel, by decide +kernel, by decide +kernel⟩, (inW 347 (by decide +kernel) (by decide +kernel)), (inW 348 (by decide +kernel) (by decide +kernel)), (inW 45 (by decide +kernel) (by decide +kernel)), (inW 349 (by decide +kernel) (by decide +kernel))⟩
def T_wdefine : PT := fun as M Q X => ∃ p0 : Int32, as = [.ref 0, .int p0, .ref 122] ∧ Full M ∧ T_define [.ref 0, .int p0] M (fun r M1 => Full M1 ∧ ∃ n : Int32, r = some (.int n) ∧ Q (some (.int 0)) (sJ M1 122 0 n.toInt64)) (fun E M1 => ∃ c, (E, c) ∈ [("java/util/NoSuchElementException", (1 : Int32)), ("java/lang/IllegalArgumentException", (2 : Int32))] ∧ Q (some (.int c)) M1)
theorem cw_define {l : Launch} (hl : l.stackTraces = false) : ConW l yL_define wL_define 2 253 T_wdefine := by
  refine con_ofW hl (by decide) ?_ ?_
  · intro as M Q X hpt
    obtain ⟨p0, rfl, hF, hpt⟩ := hpt
    exact Nat.le_of_ble_eq_true rfl
  intro G as M Q X hl' hT hd hNc hpt
  obtain ⟨p0, rfl, hF, hpt⟩ := hpt
  have hG : (gl G).stackTraces = false := by rw [hl']; exact hl
  show PW G RL cL_define 4 (some .int) Q X 2 0 [(0, .ref 0), (1, .int p0), (2, .ref 122)] [] M
  refine w_aload_n (pc := 0) dL_define_0 rfl ?_
  refine w_iconst (v := 0) (pc := 1) dL_define_1 rfl ?_
  refine w_aload_n (pc := 2) dL_define_2 rfl ?_
  refine w_iload_n (pc := 3) dL_define_3 rfl ?_
  refine w_callVC (n' := 0) (As := [.int p0]) (st := [.int 0, .ref 122]) (pc := 4) (c_X5_define hG) cv_L_7 (ob rfl) hF hNc (by omega) rfl (by decide) rfl (Nat.le_of_ble_eq_true rfl) dL_define_4 hpt (fun r M1 h => ?_) (fun E M1 h => ?_)
  · obtain ⟨hF1, n, rfl, hQ⟩ := h
    show PW G RL cL_define 4 (some .int) Q X 0 7 [(0, .ref 0), (1, .int p0), (2, .ref 122)] [.int n, .int 0, .ref 122] M1
    refine w_i2l (pc := 7) dL_define_7 ?_
    refine w_last (m := 1) (pc := 8) hF1 (by first | assumption | exact ar rfl) (vin (i := 0) (n := 1) (by decide) (by decide)) dL_define_8 ?_
    refine w_goto 18 (pc := 9) dL_define_9 (by decide) ?_
    refine w_iconst (v := 0) (pc := 18) dL_define_18 rfl ?_
    refine w_ireturn (pc := 19) dL_define_19 rfl ?_
    exact hQ
  · obtain ⟨c, hc, hQ⟩ := h
    simp only [List.mem_cons, Prod.mk.injEq, List.not_mem_nil, or_false] at hc
    rcases hc with ⟨rfl, rfl⟩ | ⟨rfl, rfl⟩
    · refine ⟨[], [(⟨0, 9, 15, 15⟩ : ExceptionTableEntry)], (⟨0, 9, 12, 13⟩ : ExceptionTableEntry), by rw [hT]; rfl, (fun z hz => by cases hz), by decide, by decide, ll_13, List.mem_of_getElem? (i := 0) rfl, ?_⟩
      show PWx G RL cL_define 4 (some .int) Q X 0 12 [(0, .ref 0), (1, .int p0), (2, .ref 122)] M1
      refine wx_astore_n 3 (pc := 12) rfl dL_define_12 (by decide) ?_
      refine w_iconst (v := 1) (pc := 13) dL_define_13 rfl ?_
      refine w_ireturn (pc := 14) dL_define_14 rfl ?_
      exact hQ
    · refine ⟨[(⟨0, 9, 12, 13⟩ : ExceptionTableEntry)], [], (⟨0, 9, 15, 15⟩ : ExceptionTableEntry), by rw [hT]; rfl, (fun z hz => by
      simp only [List.mem_cons, List.not_mem_nil, or_false] at hz
      subst hz
      exact ⟨by decide, _, ll_13, List.mem_of_getElem? (i := 3) rfl⟩), by decide, by decide, ll_15, List.mem_of_getElem? (i := 1) rfl, ?_⟩
      show PWx G RL cL_define 4 (some .int) Q X 0 15 [(0, .ref 0), (1, .int p0), (2, .ref 122)] M1
      refine wx_astore_n 3 (pc := 15) rfl dL_define_15 (by decide) ?_
      refine w_iconst (v := 2) (pc := 16) dL_define_16 rfl ?_
      refine w_ireturn (pc := 17) dL_define_17 rfl ?_
      exact hQ
abbrev wL_input : Cond := Cond.codeWith yL_input cL_input 4 (some .int) [(0, 16, 19, 13)]
theorem csw_94 : CSW RL 94 yL_input wL_input 3 := ⟨cL_input, 4, some .int, [(0, 16, 19, 13)], rfl, by decide, ⟨by decide +kernel, by decide +kernel, by decide +kernel⟩, (inW 555 (by decide +kernel) (by decide +kernel)), (inW 556 (by decide +kernel) (by decide +kernel)), (inW 45 (by decide +kernel) (by decide +kernel)), (inW 557 (by decide +kernel) (by decide +kernel))⟩
def T_winput : PT := fun as M Q X => ∃ p0 : Int32, as = [.ref 0, .int p0, .ref 122] ∧ Full M ∧ T_input [.ref 0, .int p0] M (fun r M1 => Full M1 ∧ ∃ b : Bool, r = some (.int (bi b)) ∧ Q (some (.int 0)) (sJ M1 122 0 (if b = true then 1 else 0))) (fun E M1 => ∃ c, (E, c) ∈ [("java/util/NoSuchElementException", (1 : Int32))] ∧ Q (some (.int c)) M1)
theorem cw_input {l : Launch} (hl : l.stackTraces = false) : ConW l yL_input wL_input 1 11 T_winput := by
  refine con_ofW hl (by decide) ?_ ?_
  · intro as M Q X hpt
    obtain ⟨p0, rfl, hF, hpt⟩ := hpt
    exact Nat.le_of_ble_eq_true rfl
  intro G as M Q X hl' hT hd hNc hpt
  obtain ⟨p0, rfl, hF, hpt⟩ := hpt
  have hG : (gl G).stackTraces = false := by rw [hl']; exact hl
  show PW G RL cL_input 4 (some .int) Q X 1 0 [(0, .ref 0), (1, .int p0), (2, .ref 122)] [] M
  refine w_aload_n (pc := 0) dL_input_0 rfl ?_
  refine w_iconst (v := 0) (pc := 1) dL_input_1 rfl ?_
  refine w_aload_n (pc := 2) dL_input_2 rfl ?_
  refine w_iload_n (pc := 3) dL_input_3 rfl ?_
  refine w_callVC (n' := 0) (As := [.int p0]) (st := [.int 0, .ref 122]) (pc := 4) (c_X5_input hG) cv_L_17 (ob rfl) hF hNc (by omega) rfl (by decide) rfl (Nat.le_of_ble_eq_true rfl) dL_input_4 hpt (fun r M1 h => ?_) (fun E M1 h => ?_)
  · obtain ⟨hF1, b, rfl, hQ⟩ := h
    show PW G RL cL_input 4 (some .int) Q X 0 7 [(0, .ref 0), (1, .int p0), (2, .ref 122)] [.int (bi b), .int 0, .ref 122] M1
    refine w_if_eq 14 (pc := 7) dL_input_7 (by decide) (fun h7 => ?_) (fun h7 => ?_)
    · have hb : b = false := bi_0.mp h7
      subst hb
      refine w_lconst (v := 0) (pc := 14) dL_input_14 rfl ?_
      refine w_last (m := 1) (pc := 15) hF1 (by first | assumption | exact ar rfl) (vin (i := 0) (n := 1) (by decide) (by decide)) dL_input_15 ?_
      refine w_goto 22 (pc := 16) dL_input_16 (by decide) ?_
      refine w_iconst (v := 0) (pc := 22) dL_input_22 rfl ?_
      refine w_ireturn (pc := 23) dL_input_23 rfl ?_
      exact hQ
    · have hb : b = true := bi_1.mp h7
      subst hb
      refine w_lconst (v := 1) (pc := 10) dL_input_10 rfl ?_
      refine w_goto 15 (pc := 11) dL_input_11 (by decide) ?_
      refine w_last (m := 1) (pc := 15) hF1 (by first | assumption | exact ar rfl) (vin (i := 0) (n := 1) (by decide) (by decide)) dL_input_15 ?_
      refine w_goto 22 (pc := 16) dL_input_16 (by decide) ?_
      refine w_iconst (v := 0) (pc := 22) dL_input_22 rfl ?_
      refine w_ireturn (pc := 23) dL_input_23 rfl ?_
      exact hQ
  · obtain ⟨c, hc, hQ⟩ := h
    simp only [List.mem_cons, Prod.mk.injEq, List.not_mem_nil, or_false] at hc
    rcases hc with ⟨rfl, rfl⟩
    · refine ⟨[], [], (⟨0, 16, 19, 13⟩ : ExceptionTableEntry), by rw [hT]; rfl, (fun z hz => by cases hz), by decide, by decide, ll_13, List.mem_of_getElem? (i := 0) rfl, ?_⟩
      show PWx G RL cL_input 4 (some .int) Q X 0 19 [(0, .ref 0), (1, .int p0), (2, .ref 122)] M1
      refine wx_astore_n 3 (pc := 19) rfl dL_input_19 (by decide) ?_
      refine w_iconst (v := 1) (pc := 20) dL_input_20 rfl ?_
      refine w_ireturn (pc := 21) dL_input_21 rfl ?_
      exact hQ
abbrev wL_total : Cond := Cond.codeWith yL_total cL_total 4 (some .int) [(0, 9, 12, 13)]
theorem csw_97 : CSW RL 97 yL_total wL_total 3 := ⟨cL_total, 4, some .int, [(0, 9, 12, 13)], rfl, by decide, ⟨by decide +kernel, by decide +kernel, by decide +kernel⟩, (inW 566 (by decide +kernel) (by decide +kernel)), (inW 567 (by decide +kernel) (by decide +kernel)), (inW 45 (by decide +kernel) (by decide +kernel)), (inW 568 (by decide +kernel) (by decide +kernel))⟩
def T_wtotal : PT := fun as M Q X => ∃ p0 : Int32, as = [.ref 0, .int p0, .ref 122] ∧ Full M ∧ T_total [.ref 0, .int p0] M (fun r M1 => Full M1 ∧ ∃ n : Int32, r = some (.int n) ∧ Q (some (.int 0)) (sJ M1 122 0 n.toInt64)) (fun E M1 => ∃ c, (E, c) ∈ [("java/util/NoSuchElementException", (1 : Int32))] ∧ Q (some (.int c)) M1)
theorem cw_total {l : Launch} (hl : l.stackTraces = false) : ConW l yL_total wL_total 1 11 T_wtotal := by
  refine con_ofW hl (by decide) ?_ ?_
  · intro as M Q X hpt
    obtain ⟨p0, rfl, hF, hpt⟩ := hpt
    exact Nat.le_of_ble_eq_true rfl
  intro G as M Q X hl' hT hd hNc hpt
  obtain ⟨p0, rfl, hF, hpt⟩ := hpt
  have hG : (gl G).stackTraces = false := by rw [hl']; exact hl
  show PW G RL cL_total 4 (some .int) Q X 1 0 [(0, .ref 0), (1, .int p0), (2, .ref 122)] [] M
  refine w_aload_n (pc := 0) dL_total_0 rfl ?_
  refine w_iconst (v := 0) (pc := 1) dL_total_1 rfl ?_
  refine w_aload_n (pc := 2) dL_total_2 rfl ?_
  refine w_iload_n (pc := 3) dL_total_3 rfl ?_
  refine w_callVC (n' := 0) (As := [.int p0]) (st := [.int 0, .ref 122]) (pc := 4) (c_X5_total hG) cv_L_21 (ob rfl) hF hNc (by omega) rfl (by decide) rfl (Nat.le_of_ble_eq_true rfl) dL_total_4 hpt (fun r M1 h => ?_) (fun E M1 h => ?_)
  · obtain ⟨hF1, n, rfl, hQ⟩ := h
    show PW G RL cL_total 4 (some .int) Q X 0 7 [(0, .ref 0), (1, .int p0), (2, .ref 122)] [.int n, .int 0, .ref 122] M1
    refine w_i2l (pc := 7) dL_total_7 ?_
    refine w_last (m := 1) (pc := 8) hF1 (by first | assumption | exact ar rfl) (vin (i := 0) (n := 1) (by decide) (by decide)) dL_total_8 ?_
    refine w_goto 15 (pc := 9) dL_total_9 (by decide) ?_
    refine w_iconst (v := 0) (pc := 15) dL_total_15 rfl ?_
    refine w_ireturn (pc := 16) dL_total_16 rfl ?_
    exact hQ
  · obtain ⟨c, hc, hQ⟩ := h
    simp only [List.mem_cons, Prod.mk.injEq, List.not_mem_nil, or_false] at hc
    rcases hc with ⟨rfl, rfl⟩
    · refine ⟨[], [], (⟨0, 9, 12, 13⟩ : ExceptionTableEntry), by rw [hT]; rfl, (fun z hz => by cases hz), by decide, by decide, ll_13, List.mem_of_getElem? (i := 0) rfl, ?_⟩
      show PWx G RL cL_total 4 (some .int) Q X 0 12 [(0, .ref 0), (1, .int p0), (2, .ref 122)] M1
      refine wx_astore_n 3 (pc := 12) rfl dL_total_12 (by decide) ?_
      refine w_iconst (v := 1) (pc := 13) dL_total_13 rfl ?_
      refine w_ireturn (pc := 14) dL_total_14 rfl ?_
      exact hQ
abbrev wL_bracket : Cond := Cond.codeWith yL_bracket cL_bracket 6 (some .int) [(0, 12, 15, 13), (0, 12, 19, 15), (0, 12, 23, 28)]
theorem csw_100 : CSW RL 100 yL_bracket wL_bracket 5 := ⟨cL_bracket, 6, some .int, [(0, 12, 15, 13), (0, 12, 19, 15), (0, 12, 23, 28)], rfl, by decide, ⟨by decide +kernel, by decide +kernel, by decide +kernel⟩, (inW 573 (by decide +kernel) (by decide +kernel)), (inW 574 (by decide +kernel) (by decide +kernel)), (inW 45 (by decide +kernel) (by decide +kernel)), (inW 575 (by decide +kernel) (by decide +kernel))⟩
def T_wbracket : PT := fun as M Q X => ∃ p0 p1 p2 : Int32, as = [.ref 0, .int p0, .int p1, .int p2, .ref 122] ∧ Full M ∧ T_bracket [.ref 0, .int p0, .int p1, .int p2] M (fun r M1 => Full M1 ∧ ∃ n : Int32, r = some (.int n) ∧ Q (some (.int 0)) (sJ M1 122 0 n.toInt64)) (fun E M1 => ∃ c, (E, c) ∈ [("java/util/NoSuchElementException", (1 : Int32)), ("java/lang/IllegalArgumentException", (2 : Int32)), ("java/lang/IllegalStateException", (3 : Int32))] ∧ Q (some (.int c)) M1)
theorem cw_bracket {l : Launch} (hl : l.stackTraces = false) : ConW l yL_bracket wL_bracket 3 11 T_wbracket := by
  refine con_ofW hl (by decide) ?_ ?_
  · intro as M Q X hpt
    obtain ⟨p0, p1, p2, rfl, hF, hpt⟩ := hpt
    exact Nat.le_of_ble_eq_true rfl
  intro G as M Q X hl' hT hd hNc hpt
  obtain ⟨p0, p1, p2, rfl, hF, hpt⟩ := hpt
  have hG : (gl G).stackTraces = false := by rw [hl']; exact hl
  show PW G RL cL_bracket 6 (some .int) Q X 3 0 [(0, .ref 0), (1, .int p0), (2, .int p1), (3, .int p2), (4, .ref 122)] [] M
  refine w_aload (pc := 0) dL_bracket_0 rfl ?_
  refine w_iconst (v := 0) (pc := 2) dL_bracket_2 rfl ?_
  refine w_aload_n (pc := 3) dL_bracket_3 rfl ?_
  refine w_iload_n (pc := 4) dL_bracket_4 rfl ?_
  refine w_iload_n (pc := 5) dL_bracket_5 rfl ?_
  refine w_iload_n (pc := 6) dL_bracket_6 rfl ?_
  refine w_callVC (n' := 0) (As := [.int p0, .int p1, .int p2]) (st := [.int 0, .ref 122]) (pc := 7) (c_X5_bracket hG) cv_L_24 (ob rfl) hF hNc (by omega) rfl (by decide) rfl (Nat.le_of_ble_eq_true rfl) dL_bracket_7 hpt (fun r M1 h => ?_) (fun E M1 h => ?_)
  · obtain ⟨hF1, n, rfl, hQ⟩ := h
    show PW G RL cL_bracket 6 (some .int) Q X 0 10 [(0, .ref 0), (1, .int p0), (2, .int p1), (3, .int p2), (4, .ref 122)] [.int n, .int 0, .ref 122] M1
    refine w_i2l (pc := 10) dL_bracket_10 ?_
    refine w_last (m := 1) (pc := 11) hF1 (by first | assumption | exact ar rfl) (vin (i := 0) (n := 1) (by decide) (by decide)) dL_bracket_11 ?_
    refine w_goto 27 (pc := 12) dL_bracket_12 (by decide) ?_
    refine w_iconst (v := 0) (pc := 27) dL_bracket_27 rfl ?_
    refine w_ireturn (pc := 28) dL_bracket_28 rfl ?_
    exact hQ
  · obtain ⟨c, hc, hQ⟩ := h
    simp only [List.mem_cons, Prod.mk.injEq, List.not_mem_nil, or_false] at hc
    rcases hc with ⟨rfl, rfl⟩ | ⟨rfl, rfl⟩ | ⟨rfl, rfl⟩
    · refine ⟨[], [(⟨0, 12, 19, 15⟩ : ExceptionTableEntry), (⟨0, 12, 23, 28⟩ : ExceptionTableEntry)], (⟨0, 12, 15, 13⟩ : ExceptionTableEntry), by rw [hT]; rfl, (fun z hz => by cases hz), by decide, by decide, ll_13, List.mem_of_getElem? (i := 0) rfl, ?_⟩
      show PWx G RL cL_bracket 6 (some .int) Q X 0 15 [(0, .ref 0), (1, .int p0), (2, .int p1), (3, .int p2), (4, .ref 122)] M1
      refine wx_astore 5 (pc := 15) dL_bracket_15 (by decide) ?_
      refine w_iconst (v := 1) (pc := 17) dL_bracket_17 rfl ?_
      refine w_ireturn (pc := 18) dL_bracket_18 rfl ?_
      exact hQ
    · refine ⟨[(⟨0, 12, 15, 13⟩ : ExceptionTableEntry)], [(⟨0, 12, 23, 28⟩ : ExceptionTableEntry)], (⟨0, 12, 19, 15⟩ : ExceptionTableEntry), by rw [hT]; rfl, (fun z hz => by
      simp only [List.mem_cons, List.not_mem_nil, or_false] at hz
      subst hz
      exact ⟨by decide, _, ll_13, List.mem_of_getElem? (i := 3) rfl⟩), by decide, by decide, ll_15, List.mem_of_getElem? (i := 1) rfl, ?_⟩
      show PWx G RL cL_bracket 6 (some .int) Q X 0 19 [(0, .ref 0), (1, .int p0), (2, .int p1), (3, .int p2), (4, .ref 122)] M1
      refine wx_astore 5 (pc := 19) dL_bracket_19 (by decide) ?_
      refine w_iconst (v := 2) (pc := 21) dL_bracket_21 rfl ?_
      refine w_ireturn (pc := 22) dL_bracket_22 rfl ?_
      exact hQ
    · refine ⟨[(⟨0, 12, 15, 13⟩ : ExceptionTableEntry), (⟨0, 12, 19, 15⟩ : ExceptionTableEntry)], [], (⟨0, 12, 23, 28⟩ : ExceptionTableEntry), by rw [hT]; rfl, (fun z hz => by
      simp only [List.mem_cons, List.not_mem_nil, or_false] at hz
      rcases hz with rfl | rfl
      · exact ⟨by decide, _, ll_13, List.mem_of_getElem? (i := 6) rfl⟩
      · exact ⟨by decide, _, ll_15, List.mem_of_getElem? (i := 7) rfl⟩), by decide, by decide, ll_28, List.mem_of_getElem? (i := 2) rfl, ?_⟩
      show PWx G RL cL_bracket 6 (some .int) Q X 0 23 [(0, .ref 0), (1, .int p0), (2, .int p1), (3, .int p2), (4, .ref 122)] M1
      refine wx_astore 5 (pc := 23) dL_bracket_23 (by decide) ?_
      refine w_iconst (v := 3) (pc := 25) dL_bracket_25 rfl ?_
      refine w_ireturn (pc := 26) dL_bracket_26 rfl ?_
      exact hQ
abbrev wL_reset : Cond := Cond.codeWith yL_reset cL_reset 5 (some .int) [(0, 10, 13, 13), (0, 10, 17, 15)]
theorem csw_104 : CSW RL 104 yL_reset wL_reset 4 := ⟨cL_reset, 5, some .int, [(0, 10, 13, 13), (0, 10, 17, 15)], rfl, by decide, ⟨by decide +kernel, by decide +kernel, by decide +kernel⟩, (inW 615 (by decide +kernel) (by decide +kernel)), (inW 616 (by decide +kernel) (by decide +kernel)), (inW 45 (by decide +kernel) (by decide +kernel)), (inW 617 (by decide +kernel) (by decide +kernel))⟩
def T_wreset : PT := fun as M Q X => ∃ p0 p1 : Int32, as = [.ref 0, .int p0, .int p1, .ref 122] ∧ Full M ∧ T_reset [.ref 0, .int p0, .int p1] M (fun r M1 => Full M1 ∧ ∃ n : Int32, r = some (.int n) ∧ Q (some (.int 0)) (sJ M1 122 0 n.toInt64)) (fun E M1 => ∃ c, (E, c) ∈ [("java/util/NoSuchElementException", (1 : Int32)), ("java/lang/IllegalArgumentException", (2 : Int32))] ∧ Q (some (.int c)) M1)
theorem cw_reset {l : Launch} (hl : l.stackTraces = false) : ConW l yL_reset wL_reset 2 11 T_wreset := by
  refine con_ofW hl (by decide) ?_ ?_
  · intro as M Q X hpt
    obtain ⟨p0, p1, rfl, hF, hpt⟩ := hpt
    exact Nat.le_of_ble_eq_true rfl
  intro G as M Q X hl' hT hd hNc hpt
  obtain ⟨p0, p1, rfl, hF, hpt⟩ := hpt
  have hG : (gl G).stackTraces = false := by rw [hl']; exact hl
  show PW G RL cL_reset 5 (some .int) Q X 2 0 [(0, .ref 0), (1, .int p0), (2, .int p1), (3, .ref 122)] [] M
  refine w_aload_n (pc := 0) dL_reset_0 rfl ?_
  refine w_iconst (v := 0) (pc := 1) dL_reset_1 rfl ?_
  refine w_aload_n (pc := 2) dL_reset_2 rfl ?_
  refine w_iload_n (pc := 3) dL_reset_3 rfl ?_
  refine w_iload_n (pc := 4) dL_reset_4 rfl ?_
  refine w_callVC (n' := 0) (As := [.int p0, .int p1]) (st := [.int 0, .ref 122]) (pc := 5) (c_X5_reset hG) cv_L_30 (ob rfl) hF hNc (by omega) rfl (by decide) rfl (Nat.le_of_ble_eq_true rfl) dL_reset_5 hpt (fun r M1 h => ?_) (fun E M1 h => ?_)
  · obtain ⟨hF1, n, rfl, hQ⟩ := h
    show PW G RL cL_reset 5 (some .int) Q X 0 8 [(0, .ref 0), (1, .int p0), (2, .int p1), (3, .ref 122)] [.int n, .int 0, .ref 122] M1
    refine w_i2l (pc := 8) dL_reset_8 ?_
    refine w_last (m := 1) (pc := 9) hF1 (by first | assumption | exact ar rfl) (vin (i := 0) (n := 1) (by decide) (by decide)) dL_reset_9 ?_
    refine w_goto 21 (pc := 10) dL_reset_10 (by decide) ?_
    refine w_iconst (v := 0) (pc := 21) dL_reset_21 rfl ?_
    refine w_ireturn (pc := 22) dL_reset_22 rfl ?_
    exact hQ
  · obtain ⟨c, hc, hQ⟩ := h
    simp only [List.mem_cons, Prod.mk.injEq, List.not_mem_nil, or_false] at hc
    rcases hc with ⟨rfl, rfl⟩ | ⟨rfl, rfl⟩
    · refine ⟨[], [(⟨0, 10, 17, 15⟩ : ExceptionTableEntry)], (⟨0, 10, 13, 13⟩ : ExceptionTableEntry), by rw [hT]; rfl, (fun z hz => by cases hz), by decide, by decide, ll_13, List.mem_of_getElem? (i := 0) rfl, ?_⟩
      show PWx G RL cL_reset 5 (some .int) Q X 0 13 [(0, .ref 0), (1, .int p0), (2, .int p1), (3, .ref 122)] M1
      refine wx_astore 4 (pc := 13) dL_reset_13 (by decide) ?_
      refine w_iconst (v := 1) (pc := 15) dL_reset_15 rfl ?_
      refine w_ireturn (pc := 16) dL_reset_16 rfl ?_
      exact hQ
    · refine ⟨[(⟨0, 10, 13, 13⟩ : ExceptionTableEntry)], [], (⟨0, 10, 17, 15⟩ : ExceptionTableEntry), by rw [hT]; rfl, (fun z hz => by
      simp only [List.mem_cons, List.not_mem_nil, or_false] at hz
      subst hz
      exact ⟨by decide, _, ll_13, List.mem_of_getElem? (i := 3) rfl⟩), by decide, by decide, ll_15, List.mem_of_getElem? (i := 1) rfl, ?_⟩
      show PWx G RL cL_reset 5 (some .int) Q X 0 17 [(0, .ref 0), (1, .int p0), (2, .int p1), (3, .ref 122)] M1
      refine wx_astore 4 (pc := 17) dL_reset_17 (by decide) ?_
      refine w_iconst (v := 2) (pc := 19) dL_reset_19 rfl ?_
      refine w_ireturn (pc := 20) dL_reset_20 rfl ?_
      exact hQ
abbrev wL_order : Cond := Cond.codeWith yL_order cL_order 4 (some .int) [(0, 9, 12, 15), (0, 9, 15, 28)]
theorem csw_108 : CSW RL 108 yL_order wL_order 3 := ⟨cL_order, 4, some .int, [(0, 9, 12, 15), (0, 9, 15, 28)], rfl, by decide, ⟨by decide +kernel, by decide +kernel, by decide +kernel⟩, (inW 623 (by decide +kernel) (by decide +kernel)), (inW 624 (by decide +kernel) (by decide +kernel)), (inW 45 (by decide +kernel) (by decide +kernel)), (inW 625 (by decide +kernel) (by decide +kernel))⟩
def T_worder : PT := fun as M Q X => ∃ p0 : Int32, as = [.ref 0, .int p0, .ref 122] ∧ Full M ∧ T_order [.ref 0, .int p0] M (fun r M1 => Full M1 ∧ ∃ n : Int32, r = some (.int n) ∧ Q (some (.int 0)) (sJ M1 122 0 n.toInt64)) (fun E M1 => ∃ c, (E, c) ∈ [("java/lang/IllegalArgumentException", (1 : Int32)), ("java/lang/IllegalStateException", (2 : Int32))] ∧ Q (some (.int c)) M1)
theorem cw_order {l : Launch} (hl : l.stackTraces = false) : ConW l yL_order wL_order 1 11 T_worder := by
  refine con_ofW hl (by decide) ?_ ?_
  · intro as M Q X hpt
    obtain ⟨p0, rfl, hF, hpt⟩ := hpt
    exact Nat.le_of_ble_eq_true rfl
  intro G as M Q X hl' hT hd hNc hpt
  obtain ⟨p0, rfl, hF, hpt⟩ := hpt
  have hG : (gl G).stackTraces = false := by rw [hl']; exact hl
  show PW G RL cL_order 4 (some .int) Q X 1 0 [(0, .ref 0), (1, .int p0), (2, .ref 122)] [] M
  refine w_aload_n (pc := 0) dL_order_0 rfl ?_
  refine w_iconst (v := 0) (pc := 1) dL_order_1 rfl ?_
  refine w_aload_n (pc := 2) dL_order_2 rfl ?_
  refine w_iload_n (pc := 3) dL_order_3 rfl ?_
  refine w_callVC (n' := 0) (As := [.int p0]) (st := [.int 0, .ref 122]) (pc := 4) (c_X5_order hG) cv_L_34 (ob rfl) hF hNc (by omega) rfl (by decide) rfl (Nat.le_of_ble_eq_true rfl) dL_order_4 hpt (fun r M1 h => ?_) (fun E M1 h => ?_)
  · obtain ⟨hF1, n, rfl, hQ⟩ := h
    show PW G RL cL_order 4 (some .int) Q X 0 7 [(0, .ref 0), (1, .int p0), (2, .ref 122)] [.int n, .int 0, .ref 122] M1
    refine w_i2l (pc := 7) dL_order_7 ?_
    refine w_last (m := 1) (pc := 8) hF1 (by first | assumption | exact ar rfl) (vin (i := 0) (n := 1) (by decide) (by decide)) dL_order_8 ?_
    refine w_goto 18 (pc := 9) dL_order_9 (by decide) ?_
    refine w_iconst (v := 0) (pc := 18) dL_order_18 rfl ?_
    refine w_ireturn (pc := 19) dL_order_19 rfl ?_
    exact hQ
  · obtain ⟨c, hc, hQ⟩ := h
    simp only [List.mem_cons, Prod.mk.injEq, List.not_mem_nil, or_false] at hc
    rcases hc with ⟨rfl, rfl⟩ | ⟨rfl, rfl⟩
    · refine ⟨[], [(⟨0, 9, 15, 28⟩ : ExceptionTableEntry)], (⟨0, 9, 12, 15⟩ : ExceptionTableEntry), by rw [hT]; rfl, (fun z hz => by cases hz), by decide, by decide, ll_15, List.mem_of_getElem? (i := 1) rfl, ?_⟩
      show PWx G RL cL_order 4 (some .int) Q X 0 12 [(0, .ref 0), (1, .int p0), (2, .ref 122)] M1
      refine wx_astore_n 3 (pc := 12) rfl dL_order_12 (by decide) ?_
      refine w_iconst (v := 1) (pc := 13) dL_order_13 rfl ?_
      refine w_ireturn (pc := 14) dL_order_14 rfl ?_
      exact hQ
    · refine ⟨[(⟨0, 9, 12, 15⟩ : ExceptionTableEntry)], [], (⟨0, 9, 15, 28⟩ : ExceptionTableEntry), by rw [hT]; rfl, (fun z hz => by
      simp only [List.mem_cons, List.not_mem_nil, or_false] at hz
      subst hz
      exact ⟨by decide, _, ll_15, List.mem_of_getElem? (i := 7) rfl⟩), by decide, by decide, ll_28, List.mem_of_getElem? (i := 2) rfl, ?_⟩
      show PWx G RL cL_order 4 (some .int) Q X 0 15 [(0, .ref 0), (1, .int p0), (2, .ref 122)] M1
      refine wx_astore_n 3 (pc := 15) rfl dL_order_15 (by decide) ?_
      refine w_iconst (v := 2) (pc := 16) dL_order_16 rfl ?_
      refine w_ireturn (pc := 17) dL_order_17 rfl ?_
      exact hQ
abbrev wL_file : Cond := Cond.codeWith yL_file cL_file 7 (some .int) [(0, 14, 17, 13), (0, 14, 21, 15)]
theorem csw_111 : CSW RL 111 yL_file wL_file 6 := ⟨cL_file, 7, some .int, [(0, 14, 17, 13), (0, 14, 21, 15)], rfl, by decide, ⟨by decide +kernel, by decide +kernel, by decide +kernel⟩, (inW 640 (by decide +kernel) (by decide +kernel)), (inW 641 (by decide +kernel) (by decide +kernel)), (inW 45 (by decide +kernel) (by decide +kernel)), (inW 642 (by decide +kernel) (by decide +kernel))⟩
def T_wfile : PT := fun as M Q X => ∃ p0 p1 p2 p3 : Int32, as = [.ref 0, .int p0, .int p1, .int p2, .int p3, .ref 122] ∧ Full M ∧ T_file [.ref 0, .int p0, .int p1, .int p2, .int p3] M (fun r M1 => Full M1 ∧ ∃ n : Int32, r = some (.int n) ∧ Q (some (.int 0)) (sJ M1 122 0 n.toInt64)) (fun E M1 => ∃ c, (E, c) ∈ [("java/util/NoSuchElementException", (1 : Int32)), ("java/lang/IllegalArgumentException", (2 : Int32))] ∧ Q (some (.int c)) M1)
theorem cw_file {l : Launch} (hl : l.stackTraces = false) : ConW l yL_file wL_file 4 13 T_wfile := by
  refine con_ofW hl (by decide) ?_ ?_
  · intro as M Q X hpt
    obtain ⟨p0, p1, p2, p3, rfl, hF, hpt⟩ := hpt
    exact Nat.le_of_ble_eq_true rfl
  intro G as M Q X hl' hT hd hNc hpt
  obtain ⟨p0, p1, p2, p3, rfl, hF, hpt⟩ := hpt
  have hG : (gl G).stackTraces = false := by rw [hl']; exact hl
  show PW G RL cL_file 7 (some .int) Q X 4 0 [(0, .ref 0), (1, .int p0), (2, .int p1), (3, .int p2), (4, .int p3), (5, .ref 122)] [] M
  refine w_aload (pc := 0) dL_file_0 rfl ?_
  refine w_iconst (v := 0) (pc := 2) dL_file_2 rfl ?_
  refine w_aload_n (pc := 3) dL_file_3 rfl ?_
  refine w_iload_n (pc := 4) dL_file_4 rfl ?_
  refine w_iload_n (pc := 5) dL_file_5 rfl ?_
  refine w_iload_n (pc := 6) dL_file_6 rfl ?_
  refine w_iload (pc := 7) dL_file_7 rfl ?_
  refine w_callVC (n' := 0) (As := [.int p0, .int p1, .int p2, .int p3]) (st := [.int 0, .ref 122]) (pc := 9) (c_X5_file hG) cv_L_37 (ob rfl) hF hNc (by omega) rfl (by decide) rfl (Nat.le_of_ble_eq_true rfl) dL_file_9 hpt (fun r M1 h => ?_) (fun E M1 h => ?_)
  · obtain ⟨hF1, n, rfl, hQ⟩ := h
    show PW G RL cL_file 7 (some .int) Q X 0 12 [(0, .ref 0), (1, .int p0), (2, .int p1), (3, .int p2), (4, .int p3), (5, .ref 122)] [.int n, .int 0, .ref 122] M1
    refine w_i2l (pc := 12) dL_file_12 ?_
    refine w_last (m := 1) (pc := 13) hF1 (by first | assumption | exact ar rfl) (vin (i := 0) (n := 1) (by decide) (by decide)) dL_file_13 ?_
    refine w_goto 25 (pc := 14) dL_file_14 (by decide) ?_
    refine w_iconst (v := 0) (pc := 25) dL_file_25 rfl ?_
    refine w_ireturn (pc := 26) dL_file_26 rfl ?_
    exact hQ
  · obtain ⟨c, hc, hQ⟩ := h
    simp only [List.mem_cons, Prod.mk.injEq, List.not_mem_nil, or_false] at hc
    rcases hc with ⟨rfl, rfl⟩ | ⟨rfl, rfl⟩
    · refine ⟨[], [(⟨0, 14, 21, 15⟩ : ExceptionTableEntry)], (⟨0, 14, 17, 13⟩ : ExceptionTableEntry), by rw [hT]; rfl, (fun z hz => by cases hz), by decide, by decide, ll_13, List.mem_of_getElem? (i := 0) rfl, ?_⟩
      show PWx G RL cL_file 7 (some .int) Q X 0 17 [(0, .ref 0), (1, .int p0), (2, .int p1), (3, .int p2), (4, .int p3), (5, .ref 122)] M1
      refine wx_astore 6 (pc := 17) dL_file_17 (by decide) ?_
      refine w_iconst (v := 1) (pc := 19) dL_file_19 rfl ?_
      refine w_ireturn (pc := 20) dL_file_20 rfl ?_
      exact hQ
    · refine ⟨[(⟨0, 14, 17, 13⟩ : ExceptionTableEntry)], [], (⟨0, 14, 21, 15⟩ : ExceptionTableEntry), by rw [hT]; rfl, (fun z hz => by
      simp only [List.mem_cons, List.not_mem_nil, or_false] at hz
      subst hz
      exact ⟨by decide, _, ll_13, List.mem_of_getElem? (i := 3) rfl⟩), by decide, by decide, ll_15, List.mem_of_getElem? (i := 1) rfl, ?_⟩
      show PWx G RL cL_file 7 (some .int) Q X 0 21 [(0, .ref 0), (1, .int p0), (2, .int p1), (3, .int p2), (4, .int p3), (5, .ref 122)] M1
      refine wx_astore 6 (pc := 21) dL_file_21 (by decide) ?_
      refine w_iconst (v := 2) (pc := 23) dL_file_23 rfl ?_
      refine w_ireturn (pc := 24) dL_file_24 rfl ?_
      exact hQ
abbrev wL_assess : Cond := Cond.codeWith yL_assess cL_assess 5 (some .int) [(0, 9, 12, 13), (0, 9, 16, 28), (0, 9, 20, 45)]
theorem csw_115 : CSW RL 115 yL_assess wL_assess 4 := ⟨cL_assess, 5, some .int, [(0, 9, 12, 13), (0, 9, 16, 28), (0, 9, 20, 45)], rfl, by decide, ⟨by decide +kernel, by decide +kernel, by decide +kernel⟩, (inW 662 (by decide +kernel) (by decide +kernel)), (inW 663 (by decide +kernel) (by decide +kernel)), (inW 45 (by decide +kernel) (by decide +kernel)), (inW 664 (by decide +kernel) (by decide +kernel))⟩
def T_wassess : PT := fun as M Q X => ∃ p0 p1 : Int32, as = [.ref 0, .int p0, .int p1, .ref 122] ∧ Full M ∧ T_assess [.ref 0, .int p0, .int p1] M (fun r M1 => Full M1 ∧ ∃ n : Int64, r = some (.long n) ∧ Q (some (.int 0)) (sJ M1 122 0 n)) (fun E M1 => ∃ c, (E, c) ∈ [("java/util/NoSuchElementException", (1 : Int32)), ("java/lang/IllegalStateException", (2 : Int32)), ("java/lang/ArithmeticException", (3 : Int32))] ∧ Q (some (.int c)) M1)
theorem cw_assess {l : Launch} (hl : l.stackTraces = false) : ConW l yL_assess wL_assess 3 254 T_wassess := by
  refine con_ofW hl (by decide) ?_ ?_
  · intro as M Q X hpt
    obtain ⟨p0, p1, rfl, hF, hpt⟩ := hpt
    exact Nat.le_of_ble_eq_true rfl
  intro G as M Q X hl' hT hd hNc hpt
  obtain ⟨p0, p1, rfl, hF, hpt⟩ := hpt
  have hG : (gl G).stackTraces = false := by rw [hl']; exact hl
  show PW G RL cL_assess 5 (some .int) Q X 3 0 [(0, .ref 0), (1, .int p0), (2, .int p1), (3, .ref 122)] [] M
  refine w_aload_n (pc := 0) dL_assess_0 rfl ?_
  refine w_iconst (v := 0) (pc := 1) dL_assess_1 rfl ?_
  refine w_aload_n (pc := 2) dL_assess_2 rfl ?_
  refine w_iload_n (pc := 3) dL_assess_3 rfl ?_
  refine w_iload_n (pc := 4) dL_assess_4 rfl ?_
  refine w_callVC (n' := 0) (As := [.int p0, .int p1]) (st := [.int 0, .ref 122]) (pc := 5) (c_X5_assess hG) cv_L_41 (ob rfl) hF hNc (by omega) rfl (by decide) rfl (Nat.le_of_ble_eq_true rfl) dL_assess_5 hpt (fun r M1 h => ?_) (fun E M1 h => ?_)
  · obtain ⟨hF1, n, rfl, hQ⟩ := h
    show PW G RL cL_assess 5 (some .int) Q X 0 8 [(0, .ref 0), (1, .int p0), (2, .int p1), (3, .ref 122)] [.long n, .int 0, .ref 122] M1
    refine w_last (m := 1) (pc := 8) hF1 (by first | assumption | exact ar rfl) (vin (i := 0) (n := 1) (by decide) (by decide)) dL_assess_8 ?_
    refine w_goto 24 (pc := 9) dL_assess_9 (by decide) ?_
    refine w_iconst (v := 0) (pc := 24) dL_assess_24 rfl ?_
    refine w_ireturn (pc := 25) dL_assess_25 rfl ?_
    exact hQ
  · obtain ⟨c, hc, hQ⟩ := h
    simp only [List.mem_cons, Prod.mk.injEq, List.not_mem_nil, or_false] at hc
    rcases hc with ⟨rfl, rfl⟩ | ⟨rfl, rfl⟩ | ⟨rfl, rfl⟩
    · refine ⟨[], [(⟨0, 9, 16, 28⟩ : ExceptionTableEntry), (⟨0, 9, 20, 45⟩ : ExceptionTableEntry)], (⟨0, 9, 12, 13⟩ : ExceptionTableEntry), by rw [hT]; rfl, (fun z hz => by cases hz), by decide, by decide, ll_13, List.mem_of_getElem? (i := 0) rfl, ?_⟩
      show PWx G RL cL_assess 5 (some .int) Q X 0 12 [(0, .ref 0), (1, .int p0), (2, .int p1), (3, .ref 122)] M1
      refine wx_astore 4 (pc := 12) dL_assess_12 (by decide) ?_
      refine w_iconst (v := 1) (pc := 14) dL_assess_14 rfl ?_
      refine w_ireturn (pc := 15) dL_assess_15 rfl ?_
      exact hQ
    · refine ⟨[(⟨0, 9, 12, 13⟩ : ExceptionTableEntry)], [(⟨0, 9, 20, 45⟩ : ExceptionTableEntry)], (⟨0, 9, 16, 28⟩ : ExceptionTableEntry), by rw [hT]; rfl, (fun z hz => by
      simp only [List.mem_cons, List.not_mem_nil, or_false] at hz
      subst hz
      exact ⟨by decide, _, ll_13, List.mem_of_getElem? (i := 6) rfl⟩), by decide, by decide, ll_28, List.mem_of_getElem? (i := 2) rfl, ?_⟩
      show PWx G RL cL_assess 5 (some .int) Q X 0 16 [(0, .ref 0), (1, .int p0), (2, .int p1), (3, .ref 122)] M1
      refine wx_astore 4 (pc := 16) dL_assess_16 (by decide) ?_
      refine w_iconst (v := 2) (pc := 18) dL_assess_18 rfl ?_
      refine w_ireturn (pc := 19) dL_assess_19 rfl ?_
      exact hQ
    · refine ⟨[(⟨0, 9, 12, 13⟩ : ExceptionTableEntry), (⟨0, 9, 16, 28⟩ : ExceptionTableEntry)], [], (⟨0, 9, 20, 45⟩ : ExceptionTableEntry), by rw [hT]; rfl, (fun z hz => by
      simp only [List.mem_cons, List.not_mem_nil, or_false] at hz
      rcases hz with rfl | rfl
      · exact ⟨by decide, _, ll_13, List.mem_of_getElem? (i := 9) rfl⟩
      · exact ⟨by decide, _, ll_28, List.mem_of_getElem? (i := 11) rfl⟩), by decide, by decide, ll_45, List.mem_of_getElem? (i := 3) rfl, ?_⟩
      show PWx G RL cL_assess 5 (some .int) Q X 0 20 [(0, .ref 0), (1, .int p0), (2, .int p1), (3, .ref 122)] M1
      refine wx_astore 4 (pc := 20) dL_assess_20 (by decide) ?_
      refine w_iconst (v := 3) (pc := 22) dL_assess_22 rfl ?_
      refine w_ireturn (pc := 23) dL_assess_23 rfl ?_
      exact hQ
abbrev wL_value : Cond := Cond.codeWith yL_value cL_value 6 (some .int) [(0, 11, 14, 13), (0, 11, 18, 28)]
theorem csw_118 : CSW RL 118 yL_value wL_value 5 := ⟨cL_value, 6, some .int, [(0, 11, 14, 13), (0, 11, 18, 28)], rfl, by decide, ⟨by decide +kernel, by decide +kernel, by decide +kernel⟩, (inW 708 (by decide +kernel) (by decide +kernel)), (inW 709 (by decide +kernel) (by decide +kernel)), (inW 45 (by decide +kernel) (by decide +kernel)), (inW 710 (by decide +kernel) (by decide +kernel))⟩
def T_wvalue : PT := fun as M Q X => ∃ p0 p1 p2 : Int32, as = [.ref 0, .int p0, .int p1, .int p2, .ref 122] ∧ Full M ∧ T_value [.ref 0, .int p0, .int p1, .int p2] M (fun r M1 => Full M1 ∧ ∃ n : Int64, r = some (.long n) ∧ Q (some (.int 0)) (sJ M1 122 0 n)) (fun E M1 => ∃ c, (E, c) ∈ [("java/util/NoSuchElementException", (1 : Int32)), ("java/lang/IllegalStateException", (2 : Int32))] ∧ Q (some (.int c)) M1)
theorem cw_value {l : Launch} (hl : l.stackTraces = false) : ConW l yL_value wL_value 4 13 T_wvalue := by
  refine con_ofW hl (by decide) ?_ ?_
  · intro as M Q X hpt
    obtain ⟨p0, p1, p2, rfl, hF, hpt⟩ := hpt
    exact Nat.le_of_ble_eq_true rfl
  intro G as M Q X hl' hT hd hNc hpt
  obtain ⟨p0, p1, p2, rfl, hF, hpt⟩ := hpt
  have hG : (gl G).stackTraces = false := by rw [hl']; exact hl
  show PW G RL cL_value 6 (some .int) Q X 4 0 [(0, .ref 0), (1, .int p0), (2, .int p1), (3, .int p2), (4, .ref 122)] [] M
  refine w_aload (pc := 0) dL_value_0 rfl ?_
  refine w_iconst (v := 0) (pc := 2) dL_value_2 rfl ?_
  refine w_aload_n (pc := 3) dL_value_3 rfl ?_
  refine w_iload_n (pc := 4) dL_value_4 rfl ?_
  refine w_iload_n (pc := 5) dL_value_5 rfl ?_
  refine w_iload_n (pc := 6) dL_value_6 rfl ?_
  refine w_callVC (n' := 0) (As := [.int p0, .int p1, .int p2]) (st := [.int 0, .ref 122]) (pc := 7) (c_X5_value hG) cv_L_47 (ob rfl) hF hNc (by omega) rfl (by decide) rfl (Nat.le_of_ble_eq_true rfl) dL_value_7 hpt (fun r M1 h => ?_) (fun E M1 h => ?_)
  · obtain ⟨hF1, n, rfl, hQ⟩ := h
    show PW G RL cL_value 6 (some .int) Q X 0 10 [(0, .ref 0), (1, .int p0), (2, .int p1), (3, .int p2), (4, .ref 122)] [.long n, .int 0, .ref 122] M1
    refine w_last (m := 1) (pc := 10) hF1 (by first | assumption | exact ar rfl) (vin (i := 0) (n := 1) (by decide) (by decide)) dL_value_10 ?_
    refine w_goto 22 (pc := 11) dL_value_11 (by decide) ?_
    refine w_iconst (v := 0) (pc := 22) dL_value_22 rfl ?_
    refine w_ireturn (pc := 23) dL_value_23 rfl ?_
    exact hQ
  · obtain ⟨c, hc, hQ⟩ := h
    simp only [List.mem_cons, Prod.mk.injEq, List.not_mem_nil, or_false] at hc
    rcases hc with ⟨rfl, rfl⟩ | ⟨rfl, rfl⟩
    · refine ⟨[], [(⟨0, 11, 18, 28⟩ : ExceptionTableEntry)], (⟨0, 11, 14, 13⟩ : ExceptionTableEntry), by rw [hT]; rfl, (fun z hz => by cases hz), by decide, by decide, ll_13, List.mem_of_getElem? (i := 0) rfl, ?_⟩
      show PWx G RL cL_value 6 (some .int) Q X 0 14 [(0, .ref 0), (1, .int p0), (2, .int p1), (3, .int p2), (4, .ref 122)] M1
      refine wx_astore 5 (pc := 14) dL_value_14 (by decide) ?_
      refine w_iconst (v := 1) (pc := 16) dL_value_16 rfl ?_
      refine w_ireturn (pc := 17) dL_value_17 rfl ?_
      exact hQ
    · refine ⟨[(⟨0, 11, 14, 13⟩ : ExceptionTableEntry)], [], (⟨0, 11, 18, 28⟩ : ExceptionTableEntry), by rw [hT]; rfl, (fun z hz => by
      simp only [List.mem_cons, List.not_mem_nil, or_false] at hz
      subst hz
      exact ⟨by decide, _, ll_13, List.mem_of_getElem? (i := 6) rfl⟩), by decide, by decide, ll_28, List.mem_of_getElem? (i := 2) rfl, ?_⟩
      show PWx G RL cL_value 6 (some .int) Q X 0 18 [(0, .ref 0), (1, .int p0), (2, .int p1), (3, .int p2), (4, .ref 122)] M1
      refine wx_astore 5 (pc := 18) dL_value_18 (by decide) ?_
      refine w_iconst (v := 2) (pc := 20) dL_value_20 rfl ?_
      refine w_ireturn (pc := 21) dL_value_21 rfl ?_
      exact hQ
abbrev wL_share : Cond := Cond.codeWith yL_share cL_share 6 (some .int) [(0, 11, 14, 13), (0, 11, 18, 28)]
theorem csw_121 : CSW RL 121 yL_share wL_share 5 := ⟨cL_share, 6, some .int, [(0, 11, 14, 13), (0, 11, 18, 28)], rfl, by decide, ⟨by decide +kernel, by decide +kernel, by decide +kernel⟩, (inW 720 (by decide +kernel) (by decide +kernel)), (inW 721 (by decide +kernel) (by decide +kernel)), (inW 45 (by decide +kernel) (by decide +kernel)), (inW 722 (by decide +kernel) (by decide +kernel))⟩
def T_wshare : PT := fun as M Q X => ∃ p0 p1 p2 : Int32, as = [.ref 0, .int p0, .int p1, .int p2, .ref 123] ∧ Full M ∧ T_share [.ref 0, .int p0, .int p1, .int p2] M (fun r M1 => Full M1 ∧ ∃ n : UInt64, r = some (.double n) ∧ Q (some (.int 0)) (sD M1 123 0 n)) (fun E M1 => ∃ c, (E, c) ∈ [("java/util/NoSuchElementException", (1 : Int32)), ("java/lang/IllegalStateException", (2 : Int32))] ∧ Q (some (.int c)) M1)
theorem cw_share {l : Launch} (hl : l.stackTraces = false) : ConW l yL_share wL_share 4 13 T_wshare := by
  refine con_ofW hl (by decide) ?_ ?_
  · intro as M Q X hpt
    obtain ⟨p0, p1, p2, rfl, hF, hpt⟩ := hpt
    exact Nat.le_of_ble_eq_true rfl
  intro G as M Q X hl' hT hd hNc hpt
  obtain ⟨p0, p1, p2, rfl, hF, hpt⟩ := hpt
  have hG : (gl G).stackTraces = false := by rw [hl']; exact hl
  show PW G RL cL_share 6 (some .int) Q X 4 0 [(0, .ref 0), (1, .int p0), (2, .int p1), (3, .int p2), (4, .ref 123)] [] M
  refine w_aload (pc := 0) dL_share_0 rfl ?_
  refine w_iconst (v := 0) (pc := 2) dL_share_2 rfl ?_
  refine w_aload_n (pc := 3) dL_share_3 rfl ?_
  refine w_iload_n (pc := 4) dL_share_4 rfl ?_
  refine w_iload_n (pc := 5) dL_share_5 rfl ?_
  refine w_iload_n (pc := 6) dL_share_6 rfl ?_
  refine w_callVC (n' := 0) (As := [.int p0, .int p1, .int p2]) (st := [.int 0, .ref 123]) (pc := 7) (c_X5_share hG) cv_L_51 (ob rfl) hF hNc (by omega) rfl (by decide) rfl (Nat.le_of_ble_eq_true rfl) dL_share_7 hpt (fun r M1 h => ?_) (fun E M1 h => ?_)
  · obtain ⟨hF1, n, rfl, hQ⟩ := h
    show PW G RL cL_share 6 (some .int) Q X 0 10 [(0, .ref 0), (1, .int p0), (2, .int p1), (3, .int p2), (4, .ref 123)] [.double n, .int 0, .ref 123] M1
    refine w_dast (m := 1) (pc := 10) hF1 (by first | assumption | exact ar rfl) (vin (i := 0) (n := 1) (by decide) (by decide)) dL_share_10 ?_
    refine w_goto 22 (pc := 11) dL_share_11 (by decide) ?_
    refine w_iconst (v := 0) (pc := 22) dL_share_22 rfl ?_
    refine w_ireturn (pc := 23) dL_share_23 rfl ?_
    exact hQ
  · obtain ⟨c, hc, hQ⟩ := h
    simp only [List.mem_cons, Prod.mk.injEq, List.not_mem_nil, or_false] at hc
    rcases hc with ⟨rfl, rfl⟩ | ⟨rfl, rfl⟩
    · refine ⟨[], [(⟨0, 11, 18, 28⟩ : ExceptionTableEntry)], (⟨0, 11, 14, 13⟩ : ExceptionTableEntry), by rw [hT]; rfl, (fun z hz => by cases hz), by decide, by decide, ll_13, List.mem_of_getElem? (i := 0) rfl, ?_⟩
      show PWx G RL cL_share 6 (some .int) Q X 0 14 [(0, .ref 0), (1, .int p0), (2, .int p1), (3, .int p2), (4, .ref 123)] M1
      refine wx_astore 5 (pc := 14) dL_share_14 (by decide) ?_
      refine w_iconst (v := 1) (pc := 16) dL_share_16 rfl ?_
      refine w_ireturn (pc := 17) dL_share_17 rfl ?_
      exact hQ
    · refine ⟨[(⟨0, 11, 14, 13⟩ : ExceptionTableEntry)], [], (⟨0, 11, 18, 28⟩ : ExceptionTableEntry), by rw [hT]; rfl, (fun z hz => by
      simp only [List.mem_cons, List.not_mem_nil, or_false] at hz
      subst hz
      exact ⟨by decide, _, ll_13, List.mem_of_getElem? (i := 6) rfl⟩), by decide, by decide, ll_28, List.mem_of_getElem? (i := 2) rfl, ?_⟩
      show PWx G RL cL_share 6 (some .int) Q X 0 18 [(0, .ref 0), (1, .int p0), (2, .int p1), (3, .int p2), (4, .ref 123)] M1
      refine wx_astore 5 (pc := 18) dL_share_18 (by decide) ?_
      refine w_iconst (v := 2) (pc := 20) dL_share_20 rfl ?_
      refine w_ireturn (pc := 21) dL_share_21 rfl ?_
      exact hQ
abbrev wL_pay : Cond := Cond.codeWith yL_pay cL_pay 5 (some .int) [(0, 9, 12, 13), (0, 9, 16, 15), (0, 9, 20, 28)]
theorem csw_125 : CSW RL 125 yL_pay wL_pay 4 := ⟨cL_pay, 5, some .int, [(0, 9, 12, 13), (0, 9, 16, 15), (0, 9, 20, 28)], rfl, by decide, ⟨by decide +kernel, by decide +kernel, by decide +kernel⟩, (inW 727 (by decide +kernel) (by decide +kernel)), (inW 728 (by decide +kernel) (by decide +kernel)), (inW 45 (by decide +kernel) (by decide +kernel)), (inW 729 (by decide +kernel) (by decide +kernel))⟩
def T_wpay : PT := fun as M Q X => ∃ p0 p1 : Int32, as = [.ref 0, .int p0, .int p1, .ref 122] ∧ Full M ∧ T_pay [.ref 0, .int p0, .int p1] M (fun r M1 => Full M1 ∧ ∃ n : Int64, r = some (.long n) ∧ Q (some (.int 0)) (sJ M1 122 0 n)) (fun E M1 => ∃ c, (E, c) ∈ [("java/util/NoSuchElementException", (1 : Int32)), ("java/lang/IllegalArgumentException", (2 : Int32)), ("java/lang/IllegalStateException", (3 : Int32))] ∧ Q (some (.int c)) M1)
theorem cw_pay {l : Launch} (hl : l.stackTraces = false) : ConW l yL_pay wL_pay 3 11 T_wpay := by
  refine con_ofW hl (by decide) ?_ ?_
  · intro as M Q X hpt
    obtain ⟨p0, p1, rfl, hF, hpt⟩ := hpt
    exact Nat.le_of_ble_eq_true rfl
  intro G as M Q X hl' hT hd hNc hpt
  obtain ⟨p0, p1, rfl, hF, hpt⟩ := hpt
  have hG : (gl G).stackTraces = false := by rw [hl']; exact hl
  show PW G RL cL_pay 5 (some .int) Q X 3 0 [(0, .ref 0), (1, .int p0), (2, .int p1), (3, .ref 122)] [] M
  refine w_aload_n (pc := 0) dL_pay_0 rfl ?_
  refine w_iconst (v := 0) (pc := 1) dL_pay_1 rfl ?_
  refine w_aload_n (pc := 2) dL_pay_2 rfl ?_
  refine w_iload_n (pc := 3) dL_pay_3 rfl ?_
  refine w_iload_n (pc := 4) dL_pay_4 rfl ?_
  refine w_callVC (n' := 0) (As := [.int p0, .int p1]) (st := [.int 0, .ref 122]) (pc := 5) (c_X5_pay hG) cv_L_55 (ob rfl) hF hNc (by omega) rfl (by decide) rfl (Nat.le_of_ble_eq_true rfl) dL_pay_5 hpt (fun r M1 h => ?_) (fun E M1 h => ?_)
  · obtain ⟨hF1, n, rfl, hQ⟩ := h
    show PW G RL cL_pay 5 (some .int) Q X 0 8 [(0, .ref 0), (1, .int p0), (2, .int p1), (3, .ref 122)] [.long n, .int 0, .ref 122] M1
    refine w_last (m := 1) (pc := 8) hF1 (by first | assumption | exact ar rfl) (vin (i := 0) (n := 1) (by decide) (by decide)) dL_pay_8 ?_
    refine w_goto 24 (pc := 9) dL_pay_9 (by decide) ?_
    refine w_iconst (v := 0) (pc := 24) dL_pay_24 rfl ?_
    refine w_ireturn (pc := 25) dL_pay_25 rfl ?_
    exact hQ
  · obtain ⟨c, hc, hQ⟩ := h
    simp only [List.mem_cons, Prod.mk.injEq, List.not_mem_nil, or_false] at hc
    rcases hc with ⟨rfl, rfl⟩ | ⟨rfl, rfl⟩ | ⟨rfl, rfl⟩
    · refine ⟨[], [(⟨0, 9, 16, 15⟩ : ExceptionTableEntry), (⟨0, 9, 20, 28⟩ : ExceptionTableEntry)], (⟨0, 9, 12, 13⟩ : ExceptionTableEntry), by rw [hT]; rfl, (fun z hz => by cases hz), by decide, by decide, ll_13, List.mem_of_getElem? (i := 0) rfl, ?_⟩
      show PWx G RL cL_pay 5 (some .int) Q X 0 12 [(0, .ref 0), (1, .int p0), (2, .int p1), (3, .ref 122)] M1
      refine wx_astore 4 (pc := 12) dL_pay_12 (by decide) ?_
      refine w_iconst (v := 1) (pc := 14) dL_pay_14 rfl ?_
      refine w_ireturn (pc := 15) dL_pay_15 rfl ?_
      exact hQ
    · refine ⟨[(⟨0, 9, 12, 13⟩ : ExceptionTableEntry)], [(⟨0, 9, 20, 28⟩ : ExceptionTableEntry)], (⟨0, 9, 16, 15⟩ : ExceptionTableEntry), by rw [hT]; rfl, (fun z hz => by
      simp only [List.mem_cons, List.not_mem_nil, or_false] at hz
      subst hz
      exact ⟨by decide, _, ll_13, List.mem_of_getElem? (i := 3) rfl⟩), by decide, by decide, ll_15, List.mem_of_getElem? (i := 1) rfl, ?_⟩
      show PWx G RL cL_pay 5 (some .int) Q X 0 16 [(0, .ref 0), (1, .int p0), (2, .int p1), (3, .ref 122)] M1
      refine wx_astore 4 (pc := 16) dL_pay_16 (by decide) ?_
      refine w_iconst (v := 2) (pc := 18) dL_pay_18 rfl ?_
      refine w_ireturn (pc := 19) dL_pay_19 rfl ?_
      exact hQ
    · refine ⟨[(⟨0, 9, 12, 13⟩ : ExceptionTableEntry), (⟨0, 9, 16, 15⟩ : ExceptionTableEntry)], [], (⟨0, 9, 20, 28⟩ : ExceptionTableEntry), by rw [hT]; rfl, (fun z hz => by
      simp only [List.mem_cons, List.not_mem_nil, or_false] at hz
      rcases hz with rfl | rfl
      · exact ⟨by decide, _, ll_13, List.mem_of_getElem? (i := 6) rfl⟩
      · exact ⟨by decide, _, ll_15, List.mem_of_getElem? (i := 7) rfl⟩), by decide, by decide, ll_28, List.mem_of_getElem? (i := 2) rfl, ?_⟩
      show PWx G RL cL_pay 5 (some .int) Q X 0 20 [(0, .ref 0), (1, .int p0), (2, .int p1), (3, .ref 122)] M1
      refine wx_astore 4 (pc := 20) dL_pay_20 (by decide) ?_
      refine w_iconst (v := 3) (pc := 22) dL_pay_22 rfl ?_
      refine w_ireturn (pc := 23) dL_pay_23 rfl ?_
      exact hQ
abbrev wL_interest : Cond := Cond.codeWith yL_interest cL_interest 4 (some .int) [(0, 9, 12, 15)]
theorem csw_128 : CSW RL 128 yL_interest wL_interest 3 := ⟨cL_interest, 4, some .int, [(0, 9, 12, 15)], rfl, by decide, ⟨by decide +kernel, by decide +kernel, by decide +kernel⟩, (inW 736 (by decide +kernel) (by decide +kernel)), (inW 737 (by decide +kernel) (by decide +kernel)), (inW 45 (by decide +kernel) (by decide +kernel)), (inW 738 (by decide +kernel) (by decide +kernel))⟩
def T_winterest : PT := fun as M Q X => ∃ p0 : Int32, as = [.ref 0, .int p0, .ref 122] ∧ Full M ∧ T_interest [.ref 0, .int p0] M (fun r M1 => Full M1 ∧ ∃ n : Int32, r = some (.int n) ∧ Q (some (.int 0)) (sJ M1 122 0 n.toInt64)) (fun E M1 => ∃ c, (E, c) ∈ [("java/lang/IllegalArgumentException", (1 : Int32))] ∧ Q (some (.int c)) M1)
theorem cw_interest {l : Launch} (hl : l.stackTraces = false) : ConW l yL_interest wL_interest 1 11 T_winterest := by
  refine con_ofW hl (by decide) ?_ ?_
  · intro as M Q X hpt
    obtain ⟨p0, rfl, hF, hpt⟩ := hpt
    exact Nat.le_of_ble_eq_true rfl
  intro G as M Q X hl' hT hd hNc hpt
  obtain ⟨p0, rfl, hF, hpt⟩ := hpt
  have hG : (gl G).stackTraces = false := by rw [hl']; exact hl
  show PW G RL cL_interest 4 (some .int) Q X 1 0 [(0, .ref 0), (1, .int p0), (2, .ref 122)] [] M
  refine w_aload_n (pc := 0) dL_interest_0 rfl ?_
  refine w_iconst (v := 0) (pc := 1) dL_interest_1 rfl ?_
  refine w_aload_n (pc := 2) dL_interest_2 rfl ?_
  refine w_iload_n (pc := 3) dL_interest_3 rfl ?_
  refine w_callVC (n' := 0) (As := [.int p0]) (st := [.int 0, .ref 122]) (pc := 4) (c_X5_interest hG) cv_L_58 (ob rfl) hF hNc (by omega) rfl (by decide) rfl (Nat.le_of_ble_eq_true rfl) dL_interest_4 hpt (fun r M1 h => ?_) (fun E M1 h => ?_)
  · obtain ⟨hF1, n, rfl, hQ⟩ := h
    show PW G RL cL_interest 4 (some .int) Q X 0 7 [(0, .ref 0), (1, .int p0), (2, .ref 122)] [.int n, .int 0, .ref 122] M1
    refine w_i2l (pc := 7) dL_interest_7 ?_
    refine w_last (m := 1) (pc := 8) hF1 (by first | assumption | exact ar rfl) (vin (i := 0) (n := 1) (by decide) (by decide)) dL_interest_8 ?_
    refine w_goto 15 (pc := 9) dL_interest_9 (by decide) ?_
    refine w_iconst (v := 0) (pc := 15) dL_interest_15 rfl ?_
    refine w_ireturn (pc := 16) dL_interest_16 rfl ?_
    exact hQ
  · obtain ⟨c, hc, hQ⟩ := h
    simp only [List.mem_cons, Prod.mk.injEq, List.not_mem_nil, or_false] at hc
    rcases hc with ⟨rfl, rfl⟩
    · refine ⟨[], [], (⟨0, 9, 12, 15⟩ : ExceptionTableEntry), by rw [hT]; rfl, (fun z hz => by cases hz), by decide, by decide, ll_15, List.mem_of_getElem? (i := 1) rfl, ?_⟩
      show PWx G RL cL_interest 4 (some .int) Q X 0 12 [(0, .ref 0), (1, .int p0), (2, .ref 122)] M1
      refine wx_astore_n 3 (pc := 12) rfl dL_interest_12 (by decide) ?_
      refine w_iconst (v := 1) (pc := 13) dL_interest_13 rfl ?_
      refine w_ireturn (pc := 14) dL_interest_14 rfl ?_
      exact hQ
abbrev wL_pass : Cond := Cond.codeWith yL_pass cL_pass 4 (some .int) [(0, 9, 12, 15), (0, 9, 15, 28)]
theorem csw_131 : CSW RL 131 yL_pass wL_pass 3 := ⟨cL_pass, 4, some .int, [(0, 9, 12, 15), (0, 9, 15, 28)], rfl, by decide, ⟨by decide +kernel, by decide +kernel, by decide +kernel⟩, (inW 744 (by decide +kernel) (by decide +kernel)), (inW 745 (by decide +kernel) (by decide +kernel)), (inW 45 (by decide +kernel) (by decide +kernel)), (inW 746 (by decide +kernel) (by decide +kernel))⟩
def T_wpass : PT := fun as M Q X => ∃ p0 : Int32, as = [.ref 0, .int p0, .ref 122] ∧ Full M ∧ T_pass [.ref 0, .int p0] M (fun r M1 => Full M1 ∧ ∃ n : Int32, r = some (.int n) ∧ Q (some (.int 0)) (sJ M1 122 0 n.toInt64)) (fun E M1 => ∃ c, (E, c) ∈ [("java/lang/IllegalArgumentException", (1 : Int32)), ("java/lang/IllegalStateException", (2 : Int32))] ∧ Q (some (.int c)) M1)
theorem cw_pass {l : Launch} (hl : l.stackTraces = false) : ConW l yL_pass wL_pass 1 11 T_wpass := by
  refine con_ofW hl (by decide) ?_ ?_
  · intro as M Q X hpt
    obtain ⟨p0, rfl, hF, hpt⟩ := hpt
    exact Nat.le_of_ble_eq_true rfl
  intro G as M Q X hl' hT hd hNc hpt
  obtain ⟨p0, rfl, hF, hpt⟩ := hpt
  have hG : (gl G).stackTraces = false := by rw [hl']; exact hl
  show PW G RL cL_pass 4 (some .int) Q X 1 0 [(0, .ref 0), (1, .int p0), (2, .ref 122)] [] M
  refine w_aload_n (pc := 0) dL_pass_0 rfl ?_
  refine w_iconst (v := 0) (pc := 1) dL_pass_1 rfl ?_
  refine w_aload_n (pc := 2) dL_pass_2 rfl ?_
  refine w_iload_n (pc := 3) dL_pass_3 rfl ?_
  refine w_callVC (n' := 0) (As := [.int p0]) (st := [.int 0, .ref 122]) (pc := 4) (c_X5_pass hG) cv_L_61 (ob rfl) hF hNc (by omega) rfl (by decide) rfl (Nat.le_of_ble_eq_true rfl) dL_pass_4 hpt (fun r M1 h => ?_) (fun E M1 h => ?_)
  · obtain ⟨hF1, n, rfl, hQ⟩ := h
    show PW G RL cL_pass 4 (some .int) Q X 0 7 [(0, .ref 0), (1, .int p0), (2, .ref 122)] [.int n, .int 0, .ref 122] M1
    refine w_i2l (pc := 7) dL_pass_7 ?_
    refine w_last (m := 1) (pc := 8) hF1 (by first | assumption | exact ar rfl) (vin (i := 0) (n := 1) (by decide) (by decide)) dL_pass_8 ?_
    refine w_goto 18 (pc := 9) dL_pass_9 (by decide) ?_
    refine w_iconst (v := 0) (pc := 18) dL_pass_18 rfl ?_
    refine w_ireturn (pc := 19) dL_pass_19 rfl ?_
    exact hQ
  · obtain ⟨c, hc, hQ⟩ := h
    simp only [List.mem_cons, Prod.mk.injEq, List.not_mem_nil, or_false] at hc
    rcases hc with ⟨rfl, rfl⟩ | ⟨rfl, rfl⟩
    · refine ⟨[], [(⟨0, 9, 15, 28⟩ : ExceptionTableEntry)], (⟨0, 9, 12, 15⟩ : ExceptionTableEntry), by rw [hT]; rfl, (fun z hz => by cases hz), by decide, by decide, ll_15, List.mem_of_getElem? (i := 1) rfl, ?_⟩
      show PWx G RL cL_pass 4 (some .int) Q X 0 12 [(0, .ref 0), (1, .int p0), (2, .ref 122)] M1
      refine wx_astore_n 3 (pc := 12) rfl dL_pass_12 (by decide) ?_
      refine w_iconst (v := 1) (pc := 13) dL_pass_13 rfl ?_
      refine w_ireturn (pc := 14) dL_pass_14 rfl ?_
      exact hQ
    · refine ⟨[(⟨0, 9, 12, 15⟩ : ExceptionTableEntry)], [], (⟨0, 9, 15, 28⟩ : ExceptionTableEntry), by rw [hT]; rfl, (fun z hz => by
      simp only [List.mem_cons, List.not_mem_nil, or_false] at hz
      subst hz
      exact ⟨by decide, _, ll_15, List.mem_of_getElem? (i := 7) rfl⟩), by decide, by decide, ll_28, List.mem_of_getElem? (i := 2) rfl, ?_⟩
      show PWx G RL cL_pass 4 (some .int) Q X 0 15 [(0, .ref 0), (1, .int p0), (2, .ref 122)] M1
      refine wx_astore_n 3 (pc := 15) rfl dL_pass_15 (by decide) ?_
      refine w_iconst (v := 2) (pc := 16) dL_pass_16 rfl ?_
      refine w_ireturn (pc := 17) dL_pass_17 rfl ?_
      exact hQ
abbrev wL_balance : Cond := Cond.codeWith yL_balance cL_balance 4 (some .int) [(0, 8, 11, 13)]
theorem csw_134 : CSW RL 134 yL_balance wL_balance 3 := ⟨cL_balance, 4, some .int, [(0, 8, 11, 13)], rfl, by decide, ⟨by decide +kernel, by decide +kernel, by decide +kernel⟩, (inW 758 (by decide +kernel) (by decide +kernel)), (inW 759 (by decide +kernel) (by decide +kernel)), (inW 45 (by decide +kernel) (by decide +kernel)), (inW 760 (by decide +kernel) (by decide +kernel))⟩
def T_wbalance : PT := fun as M Q X => ∃ p0 : Int32, as = [.ref 0, .int p0, .ref 122] ∧ Full M ∧ T_balance [.ref 0, .int p0] M (fun r M1 => Full M1 ∧ ∃ n : Int64, r = some (.long n) ∧ Q (some (.int 0)) (sJ M1 122 0 n)) (fun E M1 => ∃ c, (E, c) ∈ [("java/util/NoSuchElementException", (1 : Int32))] ∧ Q (some (.int c)) M1)
theorem cw_balance {l : Launch} (hl : l.stackTraces = false) : ConW l yL_balance wL_balance 1 11 T_wbalance := by
  refine con_ofW hl (by decide) ?_ ?_
  · intro as M Q X hpt
    obtain ⟨p0, rfl, hF, hpt⟩ := hpt
    exact Nat.le_of_ble_eq_true rfl
  intro G as M Q X hl' hT hd hNc hpt
  obtain ⟨p0, rfl, hF, hpt⟩ := hpt
  have hG : (gl G).stackTraces = false := by rw [hl']; exact hl
  show PW G RL cL_balance 4 (some .int) Q X 1 0 [(0, .ref 0), (1, .int p0), (2, .ref 122)] [] M
  refine w_aload_n (pc := 0) dL_balance_0 rfl ?_
  refine w_iconst (v := 0) (pc := 1) dL_balance_1 rfl ?_
  refine w_aload_n (pc := 2) dL_balance_2 rfl ?_
  refine w_iload_n (pc := 3) dL_balance_3 rfl ?_
  refine w_callVC (n' := 0) (As := [.int p0]) (st := [.int 0, .ref 122]) (pc := 4) (c_X5_balance hG) cv_L_64 (ob rfl) hF hNc (by omega) rfl (by decide) rfl (Nat.le_of_ble_eq_true rfl) dL_balance_4 hpt (fun r M1 h => ?_) (fun E M1 h => ?_)
  · obtain ⟨hF1, n, rfl, hQ⟩ := h
    show PW G RL cL_balance 4 (some .int) Q X 0 7 [(0, .ref 0), (1, .int p0), (2, .ref 122)] [.long n, .int 0, .ref 122] M1
    refine w_last (m := 1) (pc := 7) hF1 (by first | assumption | exact ar rfl) (vin (i := 0) (n := 1) (by decide) (by decide)) dL_balance_7 ?_
    refine w_goto 14 (pc := 8) dL_balance_8 (by decide) ?_
    refine w_iconst (v := 0) (pc := 14) dL_balance_14 rfl ?_
    refine w_ireturn (pc := 15) dL_balance_15 rfl ?_
    exact hQ
  · obtain ⟨c, hc, hQ⟩ := h
    simp only [List.mem_cons, Prod.mk.injEq, List.not_mem_nil, or_false] at hc
    rcases hc with ⟨rfl, rfl⟩
    · refine ⟨[], [], (⟨0, 8, 11, 13⟩ : ExceptionTableEntry), by rw [hT]; rfl, (fun z hz => by cases hz), by decide, by decide, ll_13, List.mem_of_getElem? (i := 0) rfl, ?_⟩
      show PWx G RL cL_balance 4 (some .int) Q X 0 11 [(0, .ref 0), (1, .int p0), (2, .ref 122)] M1
      refine wx_astore_n 3 (pc := 11) rfl dL_balance_11 (by decide) ?_
      refine w_iconst (v := 1) (pc := 12) dL_balance_12 rfl ?_
      refine w_ireturn (pc := 13) dL_balance_13 rfl ?_
      exact hQ
abbrev wL_posting : Cond := Cond.codeWith yL_posting cL_posting 6 (some .int) [(0, 11, 14, 13), (0, 11, 18, 15)]
theorem csw_137 : CSW RL 137 yL_posting wL_posting 5 := ⟨cL_posting, 6, some .int, [(0, 11, 14, 13), (0, 11, 18, 15)], rfl, by decide, ⟨by decide +kernel, by decide +kernel, by decide +kernel⟩, (inW 765 (by decide +kernel) (by decide +kernel)), (inW 766 (by decide +kernel) (by decide +kernel)), (inW 45 (by decide +kernel) (by decide +kernel)), (inW 767 (by decide +kernel) (by decide +kernel))⟩
def T_wposting : PT := fun as M Q X => ∃ p0 p1 p2 : Int32, as = [.ref 0, .int p0, .int p1, .int p2, .ref 122] ∧ Full M ∧ T_posting [.ref 0, .int p0, .int p1, .int p2] M (fun r M1 => Full M1 ∧ ∃ n : Int64, r = some (.long n) ∧ Q (some (.int 0)) (sJ M1 122 0 n)) (fun E M1 => ∃ c, (E, c) ∈ [("java/util/NoSuchElementException", (1 : Int32)), ("java/lang/IllegalArgumentException", (2 : Int32))] ∧ Q (some (.int c)) M1)
theorem cw_posting {l : Launch} (hl : l.stackTraces = false) : ConW l yL_posting wL_posting 2 11 T_wposting := by
  refine con_ofW hl (by decide) ?_ ?_
  · intro as M Q X hpt
    obtain ⟨p0, p1, p2, rfl, hF, hpt⟩ := hpt
    exact Nat.le_of_ble_eq_true rfl
  intro G as M Q X hl' hT hd hNc hpt
  obtain ⟨p0, p1, p2, rfl, hF, hpt⟩ := hpt
  have hG : (gl G).stackTraces = false := by rw [hl']; exact hl
  show PW G RL cL_posting 6 (some .int) Q X 2 0 [(0, .ref 0), (1, .int p0), (2, .int p1), (3, .int p2), (4, .ref 122)] [] M
  refine w_aload (pc := 0) dL_posting_0 rfl ?_
  refine w_iconst (v := 0) (pc := 2) dL_posting_2 rfl ?_
  refine w_aload_n (pc := 3) dL_posting_3 rfl ?_
  refine w_iload_n (pc := 4) dL_posting_4 rfl ?_
  refine w_iload_n (pc := 5) dL_posting_5 rfl ?_
  refine w_iload_n (pc := 6) dL_posting_6 rfl ?_
  refine w_callVC (n' := 0) (As := [.int p0, .int p1, .int p2]) (st := [.int 0, .ref 122]) (pc := 7) (c_X5_posting hG) cv_L_68 (ob rfl) hF hNc (by omega) rfl (by decide) rfl (Nat.le_of_ble_eq_true rfl) dL_posting_7 hpt (fun r M1 h => ?_) (fun E M1 h => ?_)
  · obtain ⟨hF1, n, rfl, hQ⟩ := h
    show PW G RL cL_posting 6 (some .int) Q X 0 10 [(0, .ref 0), (1, .int p0), (2, .int p1), (3, .int p2), (4, .ref 122)] [.long n, .int 0, .ref 122] M1
    refine w_last (m := 1) (pc := 10) hF1 (by first | assumption | exact ar rfl) (vin (i := 0) (n := 1) (by decide) (by decide)) dL_posting_10 ?_
    refine w_goto 22 (pc := 11) dL_posting_11 (by decide) ?_
    refine w_iconst (v := 0) (pc := 22) dL_posting_22 rfl ?_
    refine w_ireturn (pc := 23) dL_posting_23 rfl ?_
    exact hQ
  · obtain ⟨c, hc, hQ⟩ := h
    simp only [List.mem_cons, Prod.mk.injEq, List.not_mem_nil, or_false] at hc
    rcases hc with ⟨rfl, rfl⟩ | ⟨rfl, rfl⟩
    · refine ⟨[], [(⟨0, 11, 18, 15⟩ : ExceptionTableEntry)], (⟨0, 11, 14, 13⟩ : ExceptionTableEntry), by rw [hT]; rfl, (fun z hz => by cases hz), by decide, by decide, ll_13, List.mem_of_getElem? (i := 0) rfl, ?_⟩
      show PWx G RL cL_posting 6 (some .int) Q X 0 14 [(0, .ref 0), (1, .int p0), (2, .int p1), (3, .int p2), (4, .ref 122)] M1
      refine wx_astore 5 (pc := 14) dL_posting_14 (by decide) ?_
      refine w_iconst (v := 1) (pc := 16) dL_posting_16 rfl ?_
      refine w_ireturn (pc := 17) dL_posting_17 rfl ?_
      exact hQ
    · refine ⟨[(⟨0, 11, 14, 13⟩ : ExceptionTableEntry)], [], (⟨0, 11, 18, 15⟩ : ExceptionTableEntry), by rw [hT]; rfl, (fun z hz => by
      simp only [List.mem_cons, List.not_mem_nil, or_false] at hz
      subst hz
      exact ⟨by decide, _, ll_13, List.mem_of_getElem? (i := 3) rfl⟩), by decide, by decide, ll_15, List.mem_of_getElem? (i := 1) rfl, ?_⟩
      show PWx G RL cL_posting 6 (some .int) Q X 0 18 [(0, .ref 0), (1, .int p0), (2, .int p1), (3, .int p2), (4, .ref 122)] M1
      refine wx_astore 5 (pc := 18) dL_posting_18 (by decide) ?_
      refine w_iconst (v := 2) (pc := 20) dL_posting_20 rfl ?_
      refine w_ireturn (pc := 21) dL_posting_21 rfl ?_
      exact hQ
