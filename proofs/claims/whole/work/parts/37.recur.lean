/-! THE CALCULATOR'S RECURSION -/
def T_form (n : Nat) : PT := fun as M' Q X => ∃ (E : CE) (M : Mem) (s : St) (d lvl : Nat) (lv : Bool), as = [.ref 7, .int (nI d), .int (nI lvl), .int (bi lv)] ∧ M' = calS M s ∧ CalOk E M ∧ s.1 ≤ E.2.1 ∧ d ≤ 4 ∧ lvl + n = 41 ∧ ((rForm E n d lv s).2.1 ≤ E.2.1 → Q (some (.long (rForm E n d lv s).1)) (calS M (rForm E n d lv s).2))
def T_br (n : Nat) : PT := fun as M' Q X => ∃ (E : CE) (M : Mem) (s : St) (d lvl : Nat) (lv : Bool), as = [.ref 7, .int (nI d), .int (nI lvl), .int (bi lv)] ∧ M' = calS M s ∧ CalOk E M ∧ s.1 ≤ E.2.1 ∧ d ≤ 4 ∧ lvl + n = 41 ∧ ((rBr E (rForm E n) d lv s).2.1 ≤ E.2.1 → Q (some (.long (rBr E (rForm E n) d lv s).1)) (calS M (rBr E (rForm E n) d lv s).2))
theorem c_X1_readInBrackets {l : Launch} {n dd : Nat} (hdd : 4 ≤ dd) (hrec : ∀ {l : Launch}, l.stackTraces = false → Con l yX1_readFormula wX1_readFormula 0 dd (T_form n)) (hl : l.stackTraces = false) : Con l yX1_readInBrackets wX1_readInBrackets 0 (dd + 1) (T_br n) := by
  refine con_of hl (by decide) ?_ ?_
  · intro as M Q X hpt
    obtain ⟨E, M, s, d, lvl, lv, rfl, rfl, hE, hs, hd4, hlv, hQ⟩ := hpt
    exact Nat.le_of_ble_eq_true rfl
  intro G as M Q X hl' hT hd hpt
  obtain ⟨E, M, s, d, lvl, lv, rfl, rfl, hE, hs, hd4, hlv, hQ⟩ := hpt
  have hG : (gl G).stackTraces = false := by rw [hl']; exact hl
  show PW G RX1 cX1_readInBrackets 6 (some .long) Q X 0 0 [(0, .ref 7), (1, .int (nI d)), (2, .int (nI lvl)), (3, .int (bi lv))] [] (calS M s)
  have hF := hE.1
  refine w_aload_n (pc := 0) dX1_readInBrackets_0 rfl ?_
  refine w_bipush (v := 40) (pc := 1) dX1_readInBrackets_1 rfl ?_
  refine w_callV1 (n' := 0) (pc := 3) (c_X1_expect hG) cv_X1_71 (by first | assumption | exact ob rfl) hF hT (by omega) (by decide) (Nat.le_of_ble_eq_true rfl) dX1_readInBrackets_3 ?_
  refine ⟨E, M, _, _, rfl, rfl, hE, hs, (by decide), fun hb1 => ?_⟩
  dsimp only [psh]
  refine w_aload_n (pc := 6) dX1_readInBrackets_6 rfl ?_
  refine w_iload_n (pc := 7) dX1_readInBrackets_7 rfl ?_
  refine w_iload_n (pc := 8) dX1_readInBrackets_8 rfl ?_
  refine w_iload_n (pc := 9) dX1_readInBrackets_9 rfl ?_
  refine w_callV3 (n' := 0) (pc := 10) (hrec hG) cv_X1_53 (by first | assumption | exact ob rfl) hF hT (by omega) (by decide) (Nat.le_of_ble_eq_true rfl) dX1_readInBrackets_10 ?_
  refine ⟨E, M, _, d, lvl, lv, rfl, rfl, hE, hb1, hd4, hlv, fun hb2 => ?_⟩
  dsimp only [psh]
  refine w_lstore 4 (pc := 13) dX1_readInBrackets_13 (by decide) ?_
  refine w_aload_n (pc := 15) dX1_readInBrackets_15 rfl ?_
  refine w_bipush (v := 41) (pc := 16) dX1_readInBrackets_16 rfl ?_
  refine w_callV1 (n' := 0) (pc := 18) (c_X1_expect hG) cv_X1_71 (by first | assumption | exact ob rfl) hF hT (by omega) (by decide) (Nat.le_of_ble_eq_true rfl) dX1_readInBrackets_18 ?_
  refine ⟨E, M, _, _, rfl, rfl, hE, hb2, (by decide), fun hb3 => ?_⟩
  dsimp only [psh]
  refine w_lload (pc := 21) dX1_readInBrackets_21 rfl ?_
  refine w_lreturn (pc := 23) dX1_readInBrackets_23 ?_
  exact hQ hb3
def T_two (n : Nat) : PT := fun as M' Q X => ∃ (E : CE) (M : Mem) (s : St) (d lvl : Nat) (lv : Bool), as = [.ref 7, .int (nI d), .int (nI lvl), .int (bi lv)] ∧ M' = calS M s ∧ CalOk E M ∧ s.1 ≤ E.2.1 ∧ d ≤ 4 ∧ lvl + n = 41 ∧ nx E s ≠ 0 ∧ ((rTwo E (rForm E n) d lv s).2.1 ≤ E.2.1 → Q (some (.long (rTwo E (rForm E n) d lv s).1)) (calS M (rTwo E (rForm E n) d lv s).2))
theorem c_X1_readOneOfTwo {l : Launch} {n dd : Nat} (hdd : 4 ≤ dd) (hrec : ∀ {l : Launch}, l.stackTraces = false → Con l yX1_readFormula wX1_readFormula 0 dd (T_form n)) (hl : l.stackTraces = false) : Con l yX1_readOneOfTwo wX1_readOneOfTwo 0 (dd + 1) (T_two n) := by
  refine con_of hl (by decide) ?_ ?_
  · intro as M Q X hpt
    obtain ⟨E, M, s, d, lvl, lv, rfl, rfl, hE, hs, hd4, hlv, hn, hQ⟩ := hpt
    exact Nat.le_of_ble_eq_true rfl
  intro G as M Q X hl' hT hd hpt
  obtain ⟨E, M, s, d, lvl, lv, rfl, rfl, hE, hs, hd4, hlv, hn, hQ⟩ := hpt
  have hG : (gl G).stackTraces = false := by rw [hl']; exact hl
  show PW G RX1 cX1_readOneOfTwo 9 (some .long) Q X 0 0 [(0, .ref 7), (1, .int (nI d)), (2, .int (nI lvl)), (3, .int (bi lv))] [] (calS M s)
  have hF := hE.1
  have tail : ∀ q : Bool, q = decide (nx E s = 109) → PW G RX1 cX1_readOneOfTwo 9 (some .long) Q X 0 14 [(0, .ref 7), (1, .int (nI d)), (2, .int (nI lvl)), (3, .int (bi lv))] [.int (bi q)] (calS M s) := by
    intro q eq
    refine w_istore 4 (pc := 14) dX1_readOneOfTwo_14 (by decide) ?_
    refine w_aload_n (pc := 16) dX1_readOneOfTwo_16 rfl ?_
    refine w_dup (pc := 17) dX1_readOneOfTwo_17 rfl ?_
    refine w_getI (pc := 18) fl_X1_28 hF (by first | assumption | exact ob rfl) rfl dX1_readOneOfTwo_18 ?_
    refine w_iconst (v := 1) (pc := 21) dX1_readOneOfTwo_21 rfl ?_
    refine w_iadd (pc := 22) dX1_readOneOfTwo_22 ?_
    refine w_putI (pc := 23) fp_X1_28 hF (by first | assumption | exact ob rfl) rfl dX1_readOneOfTwo_23 ?_
    rw [cs_inc]
    refine w_aload_n (pc := 26) dX1_readOneOfTwo_26 rfl ?_
    refine w_bipush (v := 40) (pc := 27) dX1_readOneOfTwo_27 rfl ?_
    refine w_callV1 (n' := 0) (pc := 29) (c_X1_expect hG) cv_X1_71 (by first | assumption | exact ob rfl) hF hT (by omega) (by decide) (Nat.le_of_ble_eq_true rfl) dX1_readOneOfTwo_29 ?_
    refine ⟨E, M, _, _, rfl, rfl, hE, (at_lt hn), (by decide), fun hb1 => ?_⟩
    dsimp only [psh]
    refine w_aload_n (pc := 32) dX1_readOneOfTwo_32 rfl ?_
    refine w_iload_n (pc := 33) dX1_readOneOfTwo_33 rfl ?_
    refine w_iload_n (pc := 34) dX1_readOneOfTwo_34 rfl ?_
    refine w_iload_n (pc := 35) dX1_readOneOfTwo_35 rfl ?_
    refine w_callV3 (n' := 0) (pc := 36) (hrec hG) cv_X1_53 (by first | assumption | exact ob rfl) hF hT (by omega) (by decide) (Nat.le_of_ble_eq_true rfl) dX1_readOneOfTwo_36 ?_
    refine ⟨E, M, _, d, lvl, lv, rfl, rfl, hE, hb1, hd4, hlv, fun hb2 => ?_⟩
    dsimp only [psh]
    refine w_lstore 5 (pc := 39) dX1_readOneOfTwo_39 (by decide) ?_
    refine w_aload_n (pc := 41) dX1_readOneOfTwo_41 rfl ?_
    refine w_bipush (v := 44) (pc := 42) dX1_readOneOfTwo_42 rfl ?_
    refine w_callV1 (n' := 0) (pc := 44) (c_X1_expect hG) cv_X1_71 (by first | assumption | exact ob rfl) hF hT (by omega) (by decide) (Nat.le_of_ble_eq_true rfl) dX1_readOneOfTwo_44 ?_
    refine ⟨E, M, _, _, rfl, rfl, hE, hb2, (by decide), fun hb3 => ?_⟩
    dsimp only [psh]
    refine w_aload_n (pc := 47) dX1_readOneOfTwo_47 rfl ?_
    refine w_iload_n (pc := 48) dX1_readOneOfTwo_48 rfl ?_
    refine w_iload_n (pc := 49) dX1_readOneOfTwo_49 rfl ?_
    refine w_iload_n (pc := 50) dX1_readOneOfTwo_50 rfl ?_
    refine w_callV3 (n' := 0) (pc := 51) (hrec hG) cv_X1_53 (by first | assumption | exact ob rfl) hF hT (by omega) (by decide) (Nat.le_of_ble_eq_true rfl) dX1_readOneOfTwo_51 ?_
    refine ⟨E, M, _, d, lvl, lv, rfl, rfl, hE, hb3, hd4, hlv, fun hb4 => ?_⟩
    dsimp only [psh]
    refine w_lstore 7 (pc := 54) dX1_readOneOfTwo_54 (by decide) ?_
    refine w_aload_n (pc := 56) dX1_readOneOfTwo_56 rfl ?_
    refine w_bipush (v := 41) (pc := 57) dX1_readOneOfTwo_57 rfl ?_
    refine w_callV1 (n' := 0) (pc := 59) (c_X1_expect hG) cv_X1_71 (by first | assumption | exact ob rfl) hF hT (by omega) (by decide) (Nat.le_of_ble_eq_true rfl) dX1_readOneOfTwo_59 ?_
    refine ⟨E, M, _, _, rfl, rfl, hE, hb4, (by decide), fun hb5 => ?_⟩
    dsimp only [psh]
    refine w_iload (pc := 62) dX1_readOneOfTwo_62 rfl ?_
    refine w_if_eq 77 (pc := 64) dX1_readOneOfTwo_64 (by decide) (fun h64 => ?_) (fun h64 => ?_)
    · rw [bi_0, eq, decide_eq_false_iff_not] at h64
      dsimp only [rTwo] at hQ
      rw [if_neg h64] at hQ
      refine w_lload (pc := 77) dX1_readOneOfTwo_77 rfl ?_
      refine w_lload (pc := 79) dX1_readOneOfTwo_79 rfl ?_
      refine w_callS2 (n' := 0) (pc := 81) (c_J9_max_f86c9 hG) cs_X1_130 hT (by omega) (by decide) (Nat.le_of_ble_eq_true rfl) dX1_readOneOfTwo_81 ?_
      refine ⟨_, _, rfl, ?_⟩
      dsimp only [psh]
      refine w_lreturn (pc := 84) dX1_readOneOfTwo_84 ?_
      exact hQ hb5
    · rw [bi_1, eq, decide_eq_true_eq] at h64
      dsimp only [rTwo] at hQ
      rw [if_pos h64] at hQ
      refine w_lload (pc := 67) dX1_readOneOfTwo_67 rfl ?_
      refine w_lload (pc := 69) dX1_readOneOfTwo_69 rfl ?_
      refine w_callS2 (n' := 0) (pc := 71) (c_J9_min_f86c9 hG) cs_X1_127 hT (by omega) (by decide) (Nat.le_of_ble_eq_true rfl) dX1_readOneOfTwo_71 ?_
      refine ⟨_, _, rfl, ?_⟩
      dsimp only [psh]
      refine w_goto 84 (pc := 74) dX1_readOneOfTwo_74 (by decide) ?_
      refine w_lreturn (pc := 84) dX1_readOneOfTwo_84 ?_
      exact hQ hb5
  refine w_aload_n (pc := 0) dX1_readOneOfTwo_0 rfl ?_
  refine w_callV0 (n' := 0) (pc := 1) (c_X1_next hG) cv_X1_106 (by first | assumption | exact ob rfl) hF hT (by omega) (by decide) (Nat.le_of_ble_eq_true rfl) dX1_readOneOfTwo_1 ?_
  refine ⟨E, M, _, rfl, rfl, hE, hs, fun _ => ?_⟩
  dsimp only [psh]
  refine w_bipush (v := 109) (pc := 4) dX1_readOneOfTwo_4 rfl ?_
  refine w_icmp_ne 13 (pc := 6) dX1_readOneOfTwo_6 (by decide) (fun h6 => ?_) (fun h6 => ?_)
  · refine w_iconst (v := 0) (pc := 13) dX1_readOneOfTwo_13 rfl ?_
    first | exact w_lk (tail true (decide_eq_true h6).symm) (lkc rfl (lkc rfl (lkc rfl (lkc rfl lkn)))) | exact w_lk (tail false (decide_eq_false h6).symm) (lkc rfl (lkc rfl (lkc rfl (lkc rfl lkn))))
  · refine w_iconst (v := 1) (pc := 9) dX1_readOneOfTwo_9 rfl ?_
    refine w_goto 14 (pc := 10) dX1_readOneOfTwo_10 (by decide) ?_
    first | exact w_lk (tail true (decide_eq_true h6).symm) (lkc rfl (lkc rfl (lkc rfl (lkc rfl lkn)))) | exact w_lk (tail false (decide_eq_false h6).symm) (lkc rfl (lkc rfl (lkc rfl (lkc rfl lkn))))
def T_tab (n : Nat) : PT := fun as M' Q X => ∃ (E : CE) (M : Mem) (s : St) (d lvl : Nat) (lv : Bool), as = [.ref 7, .int (nI d), .int (nI lvl), .int (bi lv)] ∧ M' = calS M s ∧ CalOk E M ∧ s.1 ≤ E.2.1 ∧ d ≤ 4 ∧ lvl + n = 41 ∧ nx E s ≠ 0 ∧ ((rTab E (rForm E n) d lv s).2.1 ≤ E.2.1 → Q (some (.long (rTab E (rForm E n) d lv s).1)) (calS M (rTab E (rForm E n) d lv s).2))
theorem c_X1_readTable {l : Launch} {n dd : Nat} (hdd : 4 ≤ dd) (hrec : ∀ {l : Launch}, l.stackTraces = false → Con l yX1_readFormula wX1_readFormula 0 dd (T_form n)) (hl : l.stackTraces = false) : Con l yX1_readTable wX1_readTable 0 (dd + 2) (T_tab n) := by
  refine con_of hl (by decide) ?_ ?_
  · intro as M Q X hpt
    obtain ⟨E, M, s, d, lvl, lv, rfl, rfl, hE, hs, hd4, hlv, hn, hQ⟩ := hpt
    exact Nat.le_of_ble_eq_true rfl
  intro G as M Q X hl' hT hd hpt
  obtain ⟨E, M, s, d, lvl, lv, rfl, rfl, hE, hs, hd4, hlv, hn, hQ⟩ := hpt
  have hG : (gl G).stackTraces = false := by rw [hl']; exact hl
  show PW G RX1 cX1_readTable 5 (some .long) Q X 0 0 [(0, .ref 7), (1, .int (nI d)), (2, .int (nI lvl)), (3, .int (bi lv))] [] (calS M s)
  have hF := hE.1
  refine w_aload_n (pc := 0) dX1_readTable_0 rfl ?_
  refine w_dup (pc := 1) dX1_readTable_1 rfl ?_
  refine w_getI (pc := 2) fl_X1_28 hF (by first | assumption | exact ob rfl) rfl dX1_readTable_2 ?_
  refine w_iconst (v := 1) (pc := 5) dX1_readTable_5 rfl ?_
  refine w_iadd (pc := 6) dX1_readTable_6 ?_
  refine w_putI (pc := 7) fp_X1_28 hF (by first | assumption | exact ob rfl) rfl dX1_readTable_7 ?_
  rw [cs_inc]
  refine w_aload_n (pc := 10) dX1_readTable_10 rfl ?_
  refine w_callV0 (n' := 0) (pc := 11) (c_X1_next hG) cv_X1_106 (by first | assumption | exact ob rfl) hF hT (by omega) (by decide) (Nat.le_of_ble_eq_true rfl) dX1_readTable_11 ?_
  refine ⟨E, M, _, rfl, rfl, hE, (at_lt hn), fun _ => ?_⟩
  dsimp only [psh]
  refine w_bipush (v := 48) (pc := 14) dX1_readTable_14 rfl ?_
  refine w_isub (pc := 16) dX1_readTable_16 ?_
  refine w_istore 4 (pc := 17) dX1_readTable_17 (by decide) ?_
  refine w_iload (pc := 19) dX1_readTable_19 rfl ?_
  refine w_if_lt 30 (pc := 21) dX1_readTable_21 (by decide) (fun h21 => ?_) (fun h21 => ?_)
  · dsimp only [rTab] at hQ
    rw [if_pos (Or.inl h21)] at hQ
    refine w_aload_n (pc := 30) dX1_readTable_30 rfl ?_
    refine w_callV0 (n' := 0) (pc := 31) (c_X1_refuse hG) cv_X1_60 (by first | assumption | exact ob rfl) hF hT (by omega) (by decide) (Nat.le_of_ble_eq_true rfl) dX1_readTable_31 ?_
    refine ⟨E, M, _, rfl, rfl, hE, (at_lt hn), fun _ => ?_⟩
    dsimp only [psh]
    refine w_lreturn (pc := 34) dX1_readTable_34 ?_
    exact hQ (at_lt hn)
  · refine w_iload (pc := 24) dX1_readTable_24 rfl ?_
    refine w_iconst (v := 3) (pc := 26) dX1_readTable_26 rfl ?_
    refine w_icmp_lt 35 (pc := 27) dX1_readTable_27 (by decide) (fun h27 => ?_) (fun h27 => ?_)
    · obtain ⟨t, ht, et⟩ := lt_nat 3 (N := 3) rfl (by decide) h21 h27
      have hot := ob_tab (i := t) ht
      obtain ⟨sz, hsz, esz, etab⟩ := hE.2.2.2.2.2 t ht
      have hb2 : (inc1 (inc1 s)).1 ≤ E.2.1 := at_lt (fun q => h21 (by rw [q]; decide))
      refine w_aload_n (pc := 35) dX1_readTable_35 rfl ?_
      refine w_dup (pc := 36) dX1_readTable_36 rfl ?_
      refine w_getI (pc := 37) fl_X1_28 hF (by first | assumption | exact ob rfl) rfl dX1_readTable_37 ?_
      refine w_iconst (v := 1) (pc := 40) dX1_readTable_40 rfl ?_
      refine w_iadd (pc := 41) dX1_readTable_41 ?_
      refine w_putI (pc := 42) fp_X1_28 hF (by first | assumption | exact ob rfl) rfl dX1_readTable_42 ?_
      rw [cs_inc]
      refine w_aload_n (pc := 45) dX1_readTable_45 rfl ?_
      refine w_getR (b := 8) (pc := 46) fl_X1_11 hF (by first | assumption | exact ob rfl) rfl rfl dX1_readTable_46 ?_
      refine w_iload (pc := 49) dX1_readTable_49 rfl ?_
      refine w_aald (m := 3) (b := 12 + 3 * t) (pc := 51) (Or.inr (Or.inr (Or.inl rfl))) hF (by first | assumption | exact ar rfl) (by rw [et]; exact vin ht (by decide)) (by rw [et, clN (by omega)]; rfl) dX1_readTable_51 ?_
      refine w_aload_n (pc := 52) dX1_readTable_52 rfl ?_
      refine w_iload_n (pc := 53) dX1_readTable_53 rfl ?_
      refine w_iload_n (pc := 54) dX1_readTable_54 rfl ?_
      refine w_iload_n (pc := 55) dX1_readTable_55 rfl ?_
      refine w_callV3 (n' := 0) (pc := 56) (c_X1_readInBrackets hdd hrec hG) cv_X1_116 (by first | assumption | exact ob rfl) hF hT (by omega) (by decide) (Nat.le_of_ble_eq_true rfl) dX1_readTable_56 ?_
      refine ⟨E, M, _, d, lvl, lv, rfl, rfl, hE, hb2, hd4, hlv, fun hb3 => ?_⟩
      dsimp only [psh]
      refine w_callV1 (n' := 0) (pc := 59) (c_X3_makeOf hG) cv_X1_133 (by first | assumption | exact ob rfl) hF hT (by omega) (by decide) (Nat.le_of_ble_eq_true rfl) dX1_readTable_59 ?_
      refine ⟨_, sz, _, rfl, hF, hot, ⟨rf_x (by omega), rf_x (by omega)⟩, ⟨ar_tabB ht, ar_tabR ht⟩, hsz, (by rw [cs_o (by omega)]; exact esz), ?_⟩
      dsimp only [psh]
      refine w_lreturn (pc := 62) dX1_readTable_62 ?_
      dsimp only [rTab] at hQ
      rw [if_neg (by rintro (q | q); exact h21 q; exact q h27), et, clN (by omega), etab] at hQ
      rw [cs_o (by omega), cs_o (by omega), cs_o (by omega)]
      exact hQ hb3
    · dsimp only [rTab] at hQ
      rw [if_pos (Or.inr h27)] at hQ
      refine w_aload_n (pc := 30) dX1_readTable_30 rfl ?_
      refine w_callV0 (n' := 0) (pc := 31) (c_X1_refuse hG) cv_X1_60 (by first | assumption | exact ob rfl) hF hT (by omega) (by decide) (Nat.le_of_ble_eq_true rfl) dX1_readTable_31 ?_
      refine ⟨E, M, _, rfl, rfl, hE, (at_lt hn), fun _ => ?_⟩
      dsimp only [psh]
      refine w_lreturn (pc := 34) dX1_readTable_34 ?_
      exact hQ (at_lt hn)
theorem c65 {c : Int32} (h1 : ¬ c < 65) (h2 : ¬ 76 < c) : ∃ i, i < 12 ∧ c - 65 = nI i := by
  obtain ⟨j, hj, rfl⟩ := nI_of (x := c) (fun q => h1 (Int32.lt_trans q (by decide)))
  rw [show (65 : Int32) = nI 65 from rfl, nI_ltI hj (by decide)] at h1
  rw [show (76 : Int32) = nI 76 from rfl, nI_ltI (by decide) hj] at h2
  exact ⟨j - 65, by omega, by rw [show (65 : Int32) = nI 65 from rfl, pk_sub (by omega)]⟩
def T_unit (n : Nat) : PT := fun as M' Q X => ∃ (E : CE) (M : Mem) (s : St) (d lvl : Nat) (lv : Bool), as = [.ref 7, .int (nI d), .int (nI lvl), .int (bi lv)] ∧ M' = calS M s ∧ CalOk E M ∧ s.1 ≤ E.2.1 ∧ d ≤ 4 ∧ lvl + n = 40 ∧ ((rUnit E (rForm E n) d lv s).2.1 ≤ E.2.1 → Q (some (.long (rUnit E (rForm E n) d lv s).1)) (calS M (rUnit E (rForm E n) d lv s).2))
theorem c_X1_readUnit {l : Launch} {n dd : Nat} (hdd : 4 ≤ dd) (hrec : ∀ {l : Launch}, l.stackTraces = false → Con l yX1_readFormula wX1_readFormula 0 dd (T_form n)) (hl : l.stackTraces = false) : Con l yX1_readUnit wX1_readUnit 0 (dd + 3) (T_unit n) := by
  refine con_of hl (by decide) ?_ ?_
  · intro as M Q X hpt
    obtain ⟨E, M, s, d, lvl, lv, rfl, rfl, hE, hs, hd4, hlv, hQ⟩ := hpt
    exact Nat.le_of_ble_eq_true rfl
  intro G as M Q X hl' hT hd hpt
  obtain ⟨E, M, s, d, lvl, lv, rfl, rfl, hE, hs, hd4, hlv, hQ⟩ := hpt
  have hG : (gl G).stackTraces = false := by rw [hl']; exact hl
  show PW G RX1 cX1_readUnit 5 (some .long) Q X 0 0 [(0, .ref 7), (1, .int (nI d)), (2, .int (nI lvl)), (3, .int (bi lv))] [] (calS M s)
  have hF := hE.1
  refine w_aload_n (pc := 0) dX1_readUnit_0 rfl ?_
  refine w_callV0 (n' := 0) (pc := 1) (c_X1_next hG) cv_X1_106 (by first | assumption | exact ob rfl) hF hT (by omega) (by decide) (Nat.le_of_ble_eq_true rfl) dX1_readUnit_1 ?_
  refine ⟨E, M, _, rfl, rfl, hE, hs, fun _ => ?_⟩
  dsimp only [psh]
  refine w_istore 4 (pc := 4) dX1_readUnit_4 (by decide) ?_
  refine w_iload (pc := 6) dX1_readUnit_6 rfl ?_
  refine w_bipush (v := 65) (pc := 8) dX1_readUnit_8 rfl ?_
  refine w_icmp_lt 30 (pc := 10) dX1_readUnit_10 (by decide) (fun h10 => ?_) (fun h10 => ?_)
  · have hnn : ¬ (¬ nx E s < 65 ∧ ¬ 76 < nx E s) := fun q => q.1 h10
    refine w_iload (pc := 30) dX1_readUnit_30 rfl ?_
    refine w_callS1 (n' := 0) (pc := 32) (c_X1_isDigit hG) cs_X1_113 hT (by omega) (by decide) (Nat.le_of_ble_eq_true rfl) dX1_readUnit_32 ?_
    refine ⟨_, rfl, ?_⟩
    dsimp only [psh]
    refine w_if_eq 45 (pc := 35) dX1_readUnit_35 (by decide) (fun h35 => ?_) (fun h35 => ?_)
    · rw [bi_0] at h35
      replace h35 : ¬ isDg (nx E s) = true := by rw [h35]; decide
      refine w_iload_n (pc := 45) dX1_readUnit_45 rfl ?_
      refine w_iconst (v := 4) (pc := 46) dX1_readUnit_46 rfl ?_
      refine w_icmp_lt 55 (pc := 47) dX1_readUnit_47 (by decide) (fun h47 => ?_) (fun h47 => ?_)
      · replace h47 : ¬ 4 ≤ d := by rw [show (4 : Int32) = nI 4 from rfl, nI_ltI (by omega) (by omega)] at h47; omega
        refine w_iload (pc := 55) dX1_readUnit_55 rfl ?_
        refine w_bipush (v := 40) (pc := 57) dX1_readUnit_57 rfl ?_
        refine w_icmp_ne 74 (pc := 59) dX1_readUnit_59 (by decide) (fun h59 => ?_) (fun h59 => ?_)
        · refine w_iload (pc := 74) dX1_readUnit_74 rfl ?_
          refine w_bipush (v := 109) (pc := 76) dX1_readUnit_76 rfl ?_
          refine w_icmp_eq 88 (pc := 78) dX1_readUnit_78 (by decide) (fun h78 => ?_) (fun h78 => ?_)
          · refine w_aload_n (pc := 88) dX1_readUnit_88 rfl ?_
            refine w_iload_n (pc := 89) dX1_readUnit_89 rfl ?_
            refine w_iconst (v := 1) (pc := 90) dX1_readUnit_90 rfl ?_
            refine w_iadd (pc := 91) dX1_readUnit_91 ?_
            refine w_iload_n (pc := 92) dX1_readUnit_92 rfl ?_
            refine w_iconst (v := 1) (pc := 93) dX1_readUnit_93 rfl ?_
            refine w_iadd (pc := 94) dX1_readUnit_94 ?_
            refine w_iload_n (pc := 95) dX1_readUnit_95 rfl ?_
            refine w_callV3 (n' := 0) (pc := 96) (c_X1_readOneOfTwo hdd hrec hG) cv_X1_119 (by first | assumption | exact ob rfl) hF hT (by omega) (by decide) (Nat.le_of_ble_eq_true rfl) dX1_readUnit_96 ?_
            refine ⟨E, M, _, d + 1, lvl + 1, lv, (by rw [nI_1, nI_1]), rfl, hE, hs, (by omega), (by omega), (by first | (rw [h78]; decide) | (rw [h85]; decide)), fun hb => ?_⟩
            dsimp only [psh]
            refine w_lreturn (pc := 99) dX1_readUnit_99 ?_
            dsimp only [rUnit] at hQ
            rw [if_neg hnn, if_neg h35, if_neg h47, if_neg h59, if_pos (by first | exact Or.inl h78 | exact Or.inr h85)] at hQ
            exact hQ hb
          · refine w_iload (pc := 81) dX1_readUnit_81 rfl ?_
            refine w_bipush (v := 120) (pc := 83) dX1_readUnit_83 rfl ?_
            refine w_icmp_ne 100 (pc := 85) dX1_readUnit_85 (by decide) (fun h85 => ?_) (fun h85 => ?_)
            · refine w_iload (pc := 100) dX1_readUnit_100 rfl ?_
              refine w_bipush (v := 116) (pc := 102) dX1_readUnit_102 rfl ?_
              refine w_icmp_ne 121 (pc := 104) dX1_readUnit_104 (by decide) (fun h104 => ?_) (fun h104 => ?_)
              · refine w_aload_n (pc := 121) dX1_readUnit_121 rfl ?_
                refine w_callV0 (n' := 0) (pc := 122) (c_X1_refuse hG) cv_X1_60 (by first | assumption | exact ob rfl) hF hT (by omega) (by decide) (Nat.le_of_ble_eq_true rfl) dX1_readUnit_122 ?_
                refine ⟨E, M, _, rfl, rfl, hE, hs, fun _ => ?_⟩
                dsimp only [psh]
                refine w_lreturn (pc := 125) dX1_readUnit_125 ?_
                dsimp only [rUnit] at hQ
                rw [if_neg hnn, if_neg h35, if_neg h47, if_neg h59, if_neg (by rintro (q | q); exact h78 q; exact h85 q)] at hQ
                first | (rw [if_pos h104] at hQ; exact hQ hb) | (rw [if_neg h104] at hQ; exact hQ hs)
              · refine w_aload_n (pc := 107) dX1_readUnit_107 rfl ?_
                refine w_iload_n (pc := 108) dX1_readUnit_108 rfl ?_
                refine w_iconst (v := 1) (pc := 109) dX1_readUnit_109 rfl ?_
                refine w_iadd (pc := 110) dX1_readUnit_110 ?_
                refine w_iload_n (pc := 111) dX1_readUnit_111 rfl ?_
                refine w_iconst (v := 1) (pc := 112) dX1_readUnit_112 rfl ?_
                refine w_iadd (pc := 113) dX1_readUnit_113 ?_
                refine w_iload_n (pc := 114) dX1_readUnit_114 rfl ?_
                refine w_callV3 (n' := 0) (pc := 115) (c_X1_readTable hdd hrec hG) cv_X1_122 (by first | assumption | exact ob rfl) hF hT (by omega) (by decide) (Nat.le_of_ble_eq_true rfl) dX1_readUnit_115 ?_
                refine ⟨E, M, _, d + 1, lvl + 1, lv, (by rw [nI_1, nI_1]), rfl, hE, hs, (by omega), (by omega), (by rw [h104]; decide), fun hb => ?_⟩
                dsimp only [psh]
                refine w_goto 125 (pc := 118) dX1_readUnit_118 (by decide) ?_
                refine w_lreturn (pc := 125) dX1_readUnit_125 ?_
                dsimp only [rUnit] at hQ
                rw [if_neg hnn, if_neg h35, if_neg h47, if_neg h59, if_neg (by rintro (q | q); exact h78 q; exact h85 q)] at hQ
                first | (rw [if_pos h104] at hQ; exact hQ hb) | (rw [if_neg h104] at hQ; exact hQ hs)
            · refine w_aload_n (pc := 88) dX1_readUnit_88 rfl ?_
              refine w_iload_n (pc := 89) dX1_readUnit_89 rfl ?_
              refine w_iconst (v := 1) (pc := 90) dX1_readUnit_90 rfl ?_
              refine w_iadd (pc := 91) dX1_readUnit_91 ?_
              refine w_iload_n (pc := 92) dX1_readUnit_92 rfl ?_
              refine w_iconst (v := 1) (pc := 93) dX1_readUnit_93 rfl ?_
              refine w_iadd (pc := 94) dX1_readUnit_94 ?_
              refine w_iload_n (pc := 95) dX1_readUnit_95 rfl ?_
              refine w_callV3 (n' := 0) (pc := 96) (c_X1_readOneOfTwo hdd hrec hG) cv_X1_119 (by first | assumption | exact ob rfl) hF hT (by omega) (by decide) (Nat.le_of_ble_eq_true rfl) dX1_readUnit_96 ?_
              refine ⟨E, M, _, d + 1, lvl + 1, lv, (by rw [nI_1, nI_1]), rfl, hE, hs, (by omega), (by omega), (by first | (rw [h78]; decide) | (rw [h85]; decide)), fun hb => ?_⟩
              dsimp only [psh]
              refine w_lreturn (pc := 99) dX1_readUnit_99 ?_
              dsimp only [rUnit] at hQ
              rw [if_neg hnn, if_neg h35, if_neg h47, if_neg h59, if_pos (by first | exact Or.inl h78 | exact Or.inr h85)] at hQ
              exact hQ hb
        · refine w_aload_n (pc := 62) dX1_readUnit_62 rfl ?_
          refine w_iload_n (pc := 63) dX1_readUnit_63 rfl ?_
          refine w_iconst (v := 1) (pc := 64) dX1_readUnit_64 rfl ?_
          refine w_iadd (pc := 65) dX1_readUnit_65 ?_
          refine w_iload_n (pc := 66) dX1_readUnit_66 rfl ?_
          refine w_iconst (v := 1) (pc := 67) dX1_readUnit_67 rfl ?_
          refine w_iadd (pc := 68) dX1_readUnit_68 ?_
          refine w_iload_n (pc := 69) dX1_readUnit_69 rfl ?_
          refine w_callV3 (n' := 0) (pc := 70) (c_X1_readInBrackets hdd hrec hG) cv_X1_116 (by first | assumption | exact ob rfl) hF hT (by omega) (by decide) (Nat.le_of_ble_eq_true rfl) dX1_readUnit_70 ?_
          refine ⟨E, M, _, d + 1, lvl + 1, lv, (by rw [nI_1, nI_1]), rfl, hE, hs, (by omega), (by omega), fun hb => ?_⟩
          dsimp only [psh]
          refine w_lreturn (pc := 73) dX1_readUnit_73 ?_
          dsimp only [rUnit] at hQ
          rw [if_neg hnn, if_neg h35, if_neg h47, if_pos h59] at hQ
          exact hQ hb
      · replace h47 : 4 ≤ d := by rw [show (4 : Int32) = nI 4 from rfl, nI_ltI (by omega) (by omega)] at h47; omega
        refine w_aload_n (pc := 50) dX1_readUnit_50 rfl ?_
        refine w_callV0 (n' := 0) (pc := 51) (c_X1_refuse hG) cv_X1_60 (by first | assumption | exact ob rfl) hF hT (by omega) (by decide) (Nat.le_of_ble_eq_true rfl) dX1_readUnit_51 ?_
        refine ⟨E, M, _, rfl, rfl, hE, hs, fun _ => ?_⟩
        dsimp only [psh]
        refine w_lreturn (pc := 54) dX1_readUnit_54 ?_
        dsimp only [rUnit] at hQ
        rw [if_neg hnn, if_neg h35, if_pos h47] at hQ
        exact hQ hs
    · rw [bi_1] at h35
      refine w_aload_n (pc := 38) dX1_readUnit_38 rfl ?_
      refine w_bipush (v := 6) (pc := 39) dX1_readUnit_39 rfl ?_
      refine w_callV1 (n' := 0) (pc := 41) (c_X1_readNumber hG) cv_X1_85 (by first | assumption | exact ob rfl) hF hT (by omega) (by decide) (Nat.le_of_ble_eq_true rfl) dX1_readUnit_41 ?_
      refine ⟨E, M, _, 6, rfl, rfl, hE, hs, (by decide), fun hb => ?_⟩
      dsimp only [psh]
      refine w_lreturn (pc := 44) dX1_readUnit_44 ?_
      dsimp only [rUnit] at hQ
      rw [if_neg hnn, if_pos h35] at hQ
      exact hQ hb
  · refine w_iload (pc := 13) dX1_readUnit_13 rfl ?_
    refine w_bipush (v := 76) (pc := 15) dX1_readUnit_15 rfl ?_
    refine w_icmp_gt 30 (pc := 17) dX1_readUnit_17 (by decide) (fun h17 => ?_) (fun h17 => ?_)
    · have hnn : ¬ (¬ nx E s < 65 ∧ ¬ 76 < nx E s) := fun q => q.2 h17
      refine w_iload (pc := 30) dX1_readUnit_30 rfl ?_
      refine w_callS1 (n' := 0) (pc := 32) (c_X1_isDigit hG) cs_X1_113 hT (by omega) (by decide) (Nat.le_of_ble_eq_true rfl) dX1_readUnit_32 ?_
      refine ⟨_, rfl, ?_⟩
      dsimp only [psh]
      refine w_if_eq 45 (pc := 35) dX1_readUnit_35 (by decide) (fun h35 => ?_) (fun h35 => ?_)
      · rw [bi_0] at h35
        replace h35 : ¬ isDg (nx E s) = true := by rw [h35]; decide
        refine w_iload_n (pc := 45) dX1_readUnit_45 rfl ?_
        refine w_iconst (v := 4) (pc := 46) dX1_readUnit_46 rfl ?_
        refine w_icmp_lt 55 (pc := 47) dX1_readUnit_47 (by decide) (fun h47 => ?_) (fun h47 => ?_)
        · replace h47 : ¬ 4 ≤ d := by rw [show (4 : Int32) = nI 4 from rfl, nI_ltI (by omega) (by omega)] at h47; omega
          refine w_iload (pc := 55) dX1_readUnit_55 rfl ?_
          refine w_bipush (v := 40) (pc := 57) dX1_readUnit_57 rfl ?_
          refine w_icmp_ne 74 (pc := 59) dX1_readUnit_59 (by decide) (fun h59 => ?_) (fun h59 => ?_)
          · refine w_iload (pc := 74) dX1_readUnit_74 rfl ?_
            refine w_bipush (v := 109) (pc := 76) dX1_readUnit_76 rfl ?_
            refine w_icmp_eq 88 (pc := 78) dX1_readUnit_78 (by decide) (fun h78 => ?_) (fun h78 => ?_)
            · refine w_aload_n (pc := 88) dX1_readUnit_88 rfl ?_
              refine w_iload_n (pc := 89) dX1_readUnit_89 rfl ?_
              refine w_iconst (v := 1) (pc := 90) dX1_readUnit_90 rfl ?_
              refine w_iadd (pc := 91) dX1_readUnit_91 ?_
              refine w_iload_n (pc := 92) dX1_readUnit_92 rfl ?_
              refine w_iconst (v := 1) (pc := 93) dX1_readUnit_93 rfl ?_
              refine w_iadd (pc := 94) dX1_readUnit_94 ?_
              refine w_iload_n (pc := 95) dX1_readUnit_95 rfl ?_
              refine w_callV3 (n' := 0) (pc := 96) (c_X1_readOneOfTwo hdd hrec hG) cv_X1_119 (by first | assumption | exact ob rfl) hF hT (by omega) (by decide) (Nat.le_of_ble_eq_true rfl) dX1_readUnit_96 ?_
              refine ⟨E, M, _, d + 1, lvl + 1, lv, (by rw [nI_1, nI_1]), rfl, hE, hs, (by omega), (by omega), (by first | (rw [h78]; decide) | (rw [h85]; decide)), fun hb => ?_⟩
              dsimp only [psh]
              refine w_lreturn (pc := 99) dX1_readUnit_99 ?_
              dsimp only [rUnit] at hQ
              rw [if_neg hnn, if_neg h35, if_neg h47, if_neg h59, if_pos (by first | exact Or.inl h78 | exact Or.inr h85)] at hQ
              exact hQ hb
            · refine w_iload (pc := 81) dX1_readUnit_81 rfl ?_
              refine w_bipush (v := 120) (pc := 83) dX1_readUnit_83 rfl ?_
              refine w_icmp_ne 100 (pc := 85) dX1_readUnit_85 (by decide) (fun h85 => ?_) (fun h85 => ?_)
              · refine w_iload (pc := 100) dX1_readUnit_100 rfl ?_
                refine w_bipush (v := 116) (pc := 102) dX1_readUnit_102 rfl ?_
                refine w_icmp_ne 121 (pc := 104) dX1_readUnit_104 (by decide) (fun h104 => ?_) (fun h104 => ?_)
                · refine w_aload_n (pc := 121) dX1_readUnit_121 rfl ?_
                  refine w_callV0 (n' := 0) (pc := 122) (c_X1_refuse hG) cv_X1_60 (by first | assumption | exact ob rfl) hF hT (by omega) (by decide) (Nat.le_of_ble_eq_true rfl) dX1_readUnit_122 ?_
                  refine ⟨E, M, _, rfl, rfl, hE, hs, fun _ => ?_⟩
                  dsimp only [psh]
                  refine w_lreturn (pc := 125) dX1_readUnit_125 ?_
                  dsimp only [rUnit] at hQ
                  rw [if_neg hnn, if_neg h35, if_neg h47, if_neg h59, if_neg (by rintro (q | q); exact h78 q; exact h85 q)] at hQ
                  first | (rw [if_pos h104] at hQ; exact hQ hb) | (rw [if_neg h104] at hQ; exact hQ hs)
                · refine w_aload_n (pc := 107) dX1_readUnit_107 rfl ?_
                  refine w_iload_n (pc := 108) dX1_readUnit_108 rfl ?_
                  refine w_iconst (v := 1) (pc := 109) dX1_readUnit_109 rfl ?_
                  refine w_iadd (pc := 110) dX1_readUnit_110 ?_
                  refine w_iload_n (pc := 111) dX1_readUnit_111 rfl ?_
                  refine w_iconst (v := 1) (pc := 112) dX1_readUnit_112 rfl ?_
                  refine w_iadd (pc := 113) dX1_readUnit_113 ?_
                  refine w_iload_n (pc := 114) dX1_readUnit_114 rfl ?_
                  refine w_callV3 (n' := 0) (pc := 115) (c_X1_readTable hdd hrec hG) cv_X1_122 (by first | assumption | exact ob rfl) hF hT (by omega) (by decide) (Nat.le_of_ble_eq_true rfl) dX1_readUnit_115 ?_
                  refine ⟨E, M, _, d + 1, lvl + 1, lv, (by rw [nI_1, nI_1]), rfl, hE, hs, (by omega), (by omega), (by rw [h104]; decide), fun hb => ?_⟩
                  dsimp only [psh]
                  refine w_goto 125 (pc := 118) dX1_readUnit_118 (by decide) ?_
                  refine w_lreturn (pc := 125) dX1_readUnit_125 ?_
                  dsimp only [rUnit] at hQ
                  rw [if_neg hnn, if_neg h35, if_neg h47, if_neg h59, if_neg (by rintro (q | q); exact h78 q; exact h85 q)] at hQ
                  first | (rw [if_pos h104] at hQ; exact hQ hb) | (rw [if_neg h104] at hQ; exact hQ hs)
              · refine w_aload_n (pc := 88) dX1_readUnit_88 rfl ?_
                refine w_iload_n (pc := 89) dX1_readUnit_89 rfl ?_
                refine w_iconst (v := 1) (pc := 90) dX1_readUnit_90 rfl ?_
                refine w_iadd (pc := 91) dX1_readUnit_91 ?_
                refine w_iload_n (pc := 92) dX1_readUnit_92 rfl ?_
                refine w_iconst (v := 1) (pc := 93) dX1_readUnit_93 rfl ?_
                refine w_iadd (pc := 94) dX1_readUnit_94 ?_
                refine w_iload_n (pc := 95) dX1_readUnit_95 rfl ?_
                refine w_callV3 (n' := 0) (pc := 96) (c_X1_readOneOfTwo hdd hrec hG) cv_X1_119 (by first | assumption | exact ob rfl) hF hT (by omega) (by decide) (Nat.le_of_ble_eq_true rfl) dX1_readUnit_96 ?_
                refine ⟨E, M, _, d + 1, lvl + 1, lv, (by rw [nI_1, nI_1]), rfl, hE, hs, (by omega), (by omega), (by first | (rw [h78]; decide) | (rw [h85]; decide)), fun hb => ?_⟩
                dsimp only [psh]
                refine w_lreturn (pc := 99) dX1_readUnit_99 ?_
                dsimp only [rUnit] at hQ
                rw [if_neg hnn, if_neg h35, if_neg h47, if_neg h59, if_pos (by first | exact Or.inl h78 | exact Or.inr h85)] at hQ
                exact hQ hb
          · refine w_aload_n (pc := 62) dX1_readUnit_62 rfl ?_
            refine w_iload_n (pc := 63) dX1_readUnit_63 rfl ?_
            refine w_iconst (v := 1) (pc := 64) dX1_readUnit_64 rfl ?_
            refine w_iadd (pc := 65) dX1_readUnit_65 ?_
            refine w_iload_n (pc := 66) dX1_readUnit_66 rfl ?_
            refine w_iconst (v := 1) (pc := 67) dX1_readUnit_67 rfl ?_
            refine w_iadd (pc := 68) dX1_readUnit_68 ?_
            refine w_iload_n (pc := 69) dX1_readUnit_69 rfl ?_
            refine w_callV3 (n' := 0) (pc := 70) (c_X1_readInBrackets hdd hrec hG) cv_X1_116 (by first | assumption | exact ob rfl) hF hT (by omega) (by decide) (Nat.le_of_ble_eq_true rfl) dX1_readUnit_70 ?_
            refine ⟨E, M, _, d + 1, lvl + 1, lv, (by rw [nI_1, nI_1]), rfl, hE, hs, (by omega), (by omega), fun hb => ?_⟩
            dsimp only [psh]
            refine w_lreturn (pc := 73) dX1_readUnit_73 ?_
            dsimp only [rUnit] at hQ
            rw [if_neg hnn, if_neg h35, if_neg h47, if_pos h59] at hQ
            exact hQ hb
        · replace h47 : 4 ≤ d := by rw [show (4 : Int32) = nI 4 from rfl, nI_ltI (by omega) (by omega)] at h47; omega
          refine w_aload_n (pc := 50) dX1_readUnit_50 rfl ?_
          refine w_callV0 (n' := 0) (pc := 51) (c_X1_refuse hG) cv_X1_60 (by first | assumption | exact ob rfl) hF hT (by omega) (by decide) (Nat.le_of_ble_eq_true rfl) dX1_readUnit_51 ?_
          refine ⟨E, M, _, rfl, rfl, hE, hs, fun _ => ?_⟩
          dsimp only [psh]
          refine w_lreturn (pc := 54) dX1_readUnit_54 ?_
          dsimp only [rUnit] at hQ
          rw [if_neg hnn, if_neg h35, if_pos h47] at hQ
          exact hQ hs
      · rw [bi_1] at h35
        refine w_aload_n (pc := 38) dX1_readUnit_38 rfl ?_
        refine w_bipush (v := 6) (pc := 39) dX1_readUnit_39 rfl ?_
        refine w_callV1 (n' := 0) (pc := 41) (c_X1_readNumber hG) cv_X1_85 (by first | assumption | exact ob rfl) hF hT (by omega) (by decide) (Nat.le_of_ble_eq_true rfl) dX1_readUnit_41 ?_
        refine ⟨E, M, _, 6, rfl, rfl, hE, hs, (by decide), fun hb => ?_⟩
        dsimp only [psh]
        refine w_lreturn (pc := 44) dX1_readUnit_44 ?_
        dsimp only [rUnit] at hQ
        rw [if_neg hnn, if_pos h35] at hQ
        exact hQ hb
    · obtain ⟨i, hi, ei⟩ := c65 h10 h17
      have hn0 : nx E s ≠ 0 := fun q => h10 (by rw [q]; decide)
      refine w_aload_n (pc := 20) dX1_readUnit_20 rfl ?_
      refine w_iload (pc := 21) dX1_readUnit_21 rfl ?_
      refine w_bipush (v := 65) (pc := 23) dX1_readUnit_23 rfl ?_
      refine w_isub (pc := 25) dX1_readUnit_25 ?_
      refine w_callV1 (n' := 0) (pc := 26) (c_X1_readName hG) cv_X1_110 (by first | assumption | exact ob rfl) hF hT (by omega) (by decide) (Nat.le_of_ble_eq_true rfl) dX1_readUnit_26 ?_
      refine ⟨E, M, _, i, (by rw [ei]), rfl, hE, hs, hi, hn0, fun hb => ?_⟩
      dsimp only [psh]
      refine w_lreturn (pc := 29) dX1_readUnit_29 ?_
      dsimp only [rUnit] at hQ
      rw [if_pos ⟨h10, h17⟩, ei, clN (by omega)] at hQ
      exact hQ hb
def T_part (n : Nat) : PT := fun as M' Q X => ∃ (E : CE) (M : Mem) (s : St) (d lvl : Nat) (lv : Bool), as = [.ref 7, .int (nI d), .int (nI lvl), .int (bi lv)] ∧ M' = calS M s ∧ CalOk E M ∧ s.1 ≤ E.2.1 ∧ d ≤ 4 ∧ lvl + n = 40 ∧ ((rPart E (rForm E n) d lv s).2.1 ≤ E.2.1 → Q (some (.long (rPart E (rForm E n) d lv s).1)) (calS M (rPart E (rForm E n) d lv s).2))
theorem c_X1_readPart {l : Launch} {n dd : Nat} (hdd : 4 ≤ dd) (hrec : ∀ {l : Launch}, l.stackTraces = false → Con l yX1_readFormula wX1_readFormula 0 dd (T_form n)) (hl : l.stackTraces = false) : Con l yX1_readPart wX1_readPart 0 (dd + 4) (T_part n) := by
  refine con_of hl (by decide) ?_ ?_
  · intro as M Q X hpt
    obtain ⟨E, M, s, d, lvl, lv, rfl, rfl, hE, hs, hd4, hlv, hQ⟩ := hpt
    exact Nat.le_of_ble_eq_true rfl
  intro G as M Q X hl' hT hd hpt
  obtain ⟨E, M, s, d, lvl, lv, rfl, rfl, hE, hs, hd4, hlv, hQ⟩ := hpt
  have hG : (gl G).stackTraces = false := by rw [hl']; exact hl
  show PW G RX1 cX1_readPart 12 (some .long) Q X 0 0 [(0, .ref 7), (1, .int (nI d)), (2, .int (nI lvl)), (3, .int (bi lv))] [] (calS M s)
  have hF := hE.1
  refine w_aload_n (pc := 0) dX1_readPart_0 rfl ?_
  refine w_iload_n (pc := 1) dX1_readPart_1 rfl ?_
  refine w_iload_n (pc := 2) dX1_readPart_2 rfl ?_
  refine w_iload_n (pc := 3) dX1_readPart_3 rfl ?_
  refine w_callV3 (n' := 0) (pc := 4) (c_X1_readUnit hdd hrec hG) cv_X1_82 (by first | assumption | exact ob rfl) hF hT (by omega) (by decide) (Nat.le_of_ble_eq_true rfl) dX1_readPart_4 ?_
  refine ⟨E, M, _, d, lvl, lv, rfl, rfl, hE, hs, hd4, hlv, fun hb1 => ?_⟩
  dsimp only [psh]
  refine w_lstore 4 (pc := 7) dX1_readPart_7 (by decide) ?_
  refine w_aload_n (pc := 9) dX1_readPart_9 rfl ?_
  refine w_bipush (v := 42) (pc := 10) dX1_readPart_10 rfl ?_
  refine w_callV1 (n' := 0) (pc := 12) (c_X1_take hG) cv_X1_67 (by first | assumption | exact ob rfl) hF hT (by omega) (by decide) (Nat.le_of_ble_eq_true rfl) dX1_readPart_12 ?_
  refine ⟨E, M, _, _, rfl, rfl, hE, hb1, (by decide), fun hb2 => ?_⟩
  dsimp only [psh]
  refine w_if_ne 21 (pc := 15) dX1_readPart_15 (by decide) (fun h15 => ?_) (fun h15 => ?_)
  · rw [bi_1, decide_eq_true_eq] at h15
    rw [tkS, if_pos h15]
    dsimp only [rPart] at hQ
    rw [if_pos h15] at hQ
    refine w_lload (pc := 21) dX1_readPart_21 rfl ?_
    refine w_aload_n (pc := 23) dX1_readPart_23 rfl ?_
    refine w_iconst (v := 3) (pc := 24) dX1_readPart_24 rfl ?_
    refine w_callV1 (n' := 0) (pc := 25) (c_X1_readNumber hG) cv_X1_85 (by first | assumption | exact ob rfl) hF hT (by omega) (by decide) (Nat.le_of_ble_eq_true rfl) dX1_readPart_25 ?_
    refine ⟨E, M, _, 3, rfl, rfl, hE, (inc_le h15 (by decide)), (by decide), fun hb3 => ?_⟩
    dsimp only [psh]
    refine w_lmul (pc := 28) dX1_readPart_28 ?_
    refine w_lstore 6 (pc := 29) dX1_readPart_29 (by decide) ?_
    refine w_aload_n (pc := 31) dX1_readPart_31 rfl ?_
    refine w_bipush (v := 37) (pc := 32) dX1_readPart_32 rfl ?_
    refine w_callV1 (n' := 0) (pc := 34) (c_X1_expect hG) cv_X1_71 (by first | assumption | exact ob rfl) hF hT (by omega) (by decide) (Nat.le_of_ble_eq_true rfl) dX1_readPart_34 ?_
    refine ⟨E, M, _, _, rfl, rfl, hE, hb3, (by decide), fun hb4 => ?_⟩
    dsimp only [psh]
    refine w_lload (pc := 37) dX1_readPart_37 rfl ?_
    refine w_ldc2 (pc := 39) kl_X1_89 dX1_readPart_39 ?_
    refine w_callS2 (n' := 0) (pc := 42) (c_J9_floorDiv_f86c9 hG) cs_X1_91 hT (by omega) (by decide) (Nat.le_of_ble_eq_true rfl) dX1_readPart_42 ?_
    refine ⟨_, _, rfl, by decide, ?_⟩
    dsimp only [psh]
    refine w_lstore 8 (pc := 45) dX1_readPart_45 (by decide) ?_
    refine w_lload (pc := 47) dX1_readPart_47 rfl ?_
    refine w_ldc2 (pc := 49) kl_X1_89 dX1_readPart_49 ?_
    refine w_callS2 (n' := 0) (pc := 52) (c_J9_floorMod_f86c9 hG) cs_X1_97 hT (by omega) (by decide) (Nat.le_of_ble_eq_true rfl) dX1_readPart_52 ?_
    refine ⟨_, _, rfl, by decide, ?_⟩
    dsimp only [psh]
    refine w_lstore 10 (pc := 55) dX1_readPart_55 (by decide) ?_
    refine w_aload_n (pc := 57) dX1_readPart_57 rfl ?_
    refine w_lload (pc := 58) dX1_readPart_58 rfl ?_
    refine w_lload (pc := 60) dX1_readPart_60 rfl ?_
    refine w_ldc2 (pc := 62) kl_X1_100 dX1_readPart_62 ?_
    refine w_callN3 (pc := 65) (c_X5_carriesToEven hG) cn_X1_102 hT (by omega) (Nat.le_of_ble_eq_true rfl) dX1_readPart_65 ?_
    refine ⟨_, _, _, rfl, ?_⟩
    dsimp only [psh]
    refine w_if_eq 78 (pc := 68) dX1_readPart_68 (by decide) (fun h68 => ?_) (fun h68 => ?_)
    · rw [bi_0] at h68
      replace h68 := Bool.eq_false_iff.mp h68
      refine w_lload (pc := 78) dX1_readPart_78 rfl ?_
      refine w_iload_n (pc := 80) dX1_readPart_80 rfl ?_
      refine w_callV2 (n' := 0) (pc := 81) (c_X1_checked hG) cv_X1_78 (by first | assumption | exact ob rfl) hF hT (by omega) (by decide) (Nat.le_of_ble_eq_true rfl) dX1_readPart_81 ?_
      refine ⟨E, M, _, _, lv, rfl, rfl, hE, hb4, fun hb5 => ?_⟩
      dsimp only [psh]
      refine w_lreturn (pc := 84) dX1_readPart_84 ?_
      unfold rPartN hdT at hQ
      first | (rw [if_pos h68] at hQ; exact hQ hb5) | (rw [if_neg h68] at hQ; exact hQ hb5)
    · rw [bi_1] at h68
      refine w_lload (pc := 71) dX1_readPart_71 rfl ?_
      refine w_lconst (v := 1) (pc := 73) dX1_readPart_73 rfl ?_
      refine w_ladd (pc := 74) dX1_readPart_74 ?_
      refine w_goto 80 (pc := 75) dX1_readPart_75 (by decide) ?_
      refine w_iload_n (pc := 80) dX1_readPart_80 rfl ?_
      refine w_callV2 (n' := 0) (pc := 81) (c_X1_checked hG) cv_X1_78 (by first | assumption | exact ob rfl) hF hT (by omega) (by decide) (Nat.le_of_ble_eq_true rfl) dX1_readPart_81 ?_
      refine ⟨E, M, _, _, lv, rfl, rfl, hE, hb4, fun hb5 => ?_⟩
      dsimp only [psh]
      refine w_lreturn (pc := 84) dX1_readPart_84 ?_
      unfold rPartN hdT at hQ
      first | (rw [if_pos h68] at hQ; exact hQ hb5) | (rw [if_neg h68] at hQ; exact hQ hb5)
  · rw [bi_0, decide_eq_false_iff_not] at h15
    rw [tkS, if_neg h15]
    dsimp only [rPart] at hQ
    rw [if_neg h15] at hQ
    refine w_lload (pc := 18) dX1_readPart_18 rfl ?_
    refine w_lreturn (pc := 20) dX1_readPart_20 ?_
    exact hQ hb1
def T_rsum (n : Nat) : PT := fun as M' Q X => ∃ (E : CE) (M : Mem) (s : St) (d lvl : Nat) (lv : Bool), as = [.ref 7, .int (nI d), .int (nI lvl), .int (bi lv)] ∧ M' = calS M s ∧ CalOk E M ∧ s.1 ≤ E.2.1 ∧ d ≤ 4 ∧ lvl + n = 40 ∧ ((rSum E (rForm E n) d lv s).2.1 ≤ E.2.1 → Q (some (.long (rSum E (rForm E n) d lv s).1)) (calS M (rSum E (rForm E n) d lv s).2))
theorem c_X1_readSum {l : Launch} {n dd : Nat} (hdd : 4 ≤ dd) (hrec : ∀ {l : Launch}, l.stackTraces = false → Con l yX1_readFormula wX1_readFormula 0 dd (T_form n)) (hl : l.stackTraces = false) : Con l yX1_readSum wX1_readSum 0 (dd + 5) (T_rsum n) := by
  refine con_of hl (by decide) ?_ ?_
  · intro as M Q X hpt
    obtain ⟨E, M, s, d, lvl, lv, rfl, rfl, hE, hs, hd4, hlv, hQ⟩ := hpt
    exact Nat.le_of_ble_eq_true rfl
  intro G as M Q X hl' hT hd hpt
  obtain ⟨E, M, s, d, lvl, lv, rfl, rfl, hE, hs, hd4, hlv, hQ⟩ := hpt
  have hG : (gl G).stackTraces = false := by rw [hl']; exact hl
  show PW G RX1 cX1_readSum 7 (some .long) Q X 0 0 [(0, .ref 7), (1, .int (nI d)), (2, .int (nI lvl)), (3, .int (bi lv))] [] (calS M s)
  have hF := hE.1
  have loop : ∀ (k i : Nat) (x : Int64) (s : St), i + k = 40 → s.1 ≤ E.2.1 → ((rSumL E (rForm E n) d lv k x s).2.1 ≤ E.2.1 → Q (some (.long (rSumL E (rForm E n) d lv k x s).1)) (calS M (rSumL E (rForm E n) d lv k x s).2)) → PW G RX1 cX1_readSum 7 (some .long) Q X 0 12 [(0, .ref 7), (1, .int (nI d)), (2, .int (nI lvl)), (3, .int (bi lv)), (4, .long x), (6, .int (nI i))] [] (calS M s) := by
    intro k
    induction k with
    | zero =>
      intro i x s hi hs hq
      refine w_iload (pc := 12) dX1_readSum_12 rfl ?_
      refine w_bipush (v := 40) (pc := 14) dX1_readSum_14 rfl ?_
      refine w_icmp_ge 80 (pc := 16) dX1_readSum_16 (by decide) (fun h16 => ?_) (fun h16 => ?_)
      · refine w_lload (pc := 80) dX1_readSum_80 rfl ?_
        refine w_lreturn (pc := 82) dX1_readSum_82 ?_
        exact hq hs
      · exact absurd (by rw [show (40 : Int32) = nI 40 from rfl, nI_leI (by omega) (by omega)]; omega) h16
    | succ k ih =>
      intro i x s hi hs hq
      refine w_iload (pc := 12) dX1_readSum_12 rfl ?_
      refine w_bipush (v := 40) (pc := 14) dX1_readSum_14 rfl ?_
      refine w_icmp_ge 80 (pc := 16) dX1_readSum_16 (by decide) (fun h16 => ?_) (fun h16 => ?_)
      · exact absurd h16 (by rw [show (40 : Int32) = nI 40 from rfl, nI_leI (by omega) (by omega)]; omega)
      · refine w_aload_n (pc := 19) dX1_readSum_19 rfl ?_
        refine w_bipush (v := 43) (pc := 20) dX1_readSum_20 rfl ?_
        refine w_callV1 (n' := 0) (pc := 22) (c_X1_take hG) cv_X1_67 (by first | assumption | exact ob rfl) hF hT (by omega) (by decide) (Nat.le_of_ble_eq_true rfl) dX1_readSum_22 ?_
        refine ⟨E, M, _, _, rfl, rfl, hE, hs, (by decide), fun hb1 => ?_⟩
        dsimp only [psh]
        refine w_if_eq 48 (pc := 25) dX1_readSum_25 (by decide) (fun h25 => ?_) (fun h25 => ?_)
        · rw [bi_0, decide_eq_false_iff_not] at h25
          rw [tkS, if_neg h25]
          rw [rSumL, if_neg h25] at hq
          refine w_aload_n (pc := 48) dX1_readSum_48 rfl ?_
          refine w_bipush (v := 45) (pc := 49) dX1_readSum_49 rfl ?_
          refine w_callV1 (n' := 0) (pc := 51) (c_X1_take hG) cv_X1_67 (by first | assumption | exact ob rfl) hF hT (by omega) (by decide) (Nat.le_of_ble_eq_true rfl) dX1_readSum_51 ?_
          refine ⟨E, M, _, _, rfl, rfl, hE, hs, (by decide), fun hb4 => ?_⟩
          dsimp only [psh]
          refine w_if_eq 80 (pc := 54) dX1_readSum_54 (by decide) (fun h54 => ?_) (fun h54 => ?_)
          · rw [bi_0, decide_eq_false_iff_not] at h54
            rw [tkS, if_neg h54]
            rw [if_neg h54] at hq
            refine w_lload (pc := 80) dX1_readSum_80 rfl ?_
            refine w_lreturn (pc := 82) dX1_readSum_82 ?_
            exact hq hs
          · rw [bi_1, decide_eq_true_eq] at h54
            rw [tkS, if_pos h54]
            rw [if_pos h54] at hq
            refine w_aload_n (pc := 57) dX1_readSum_57 rfl ?_
            refine w_lload (pc := 58) dX1_readSum_58 rfl ?_
            refine w_aload_n (pc := 60) dX1_readSum_60 rfl ?_
            refine w_iload_n (pc := 61) dX1_readSum_61 rfl ?_
            refine w_iload_n (pc := 62) dX1_readSum_62 rfl ?_
            refine w_iload_n (pc := 63) dX1_readSum_63 rfl ?_
            refine w_callV3 (n' := 0) (pc := 64) (c_X1_readPart hdd hrec hG) cv_X1_75 (by first | assumption | exact ob rfl) hF hT (by omega) (by decide) (Nat.le_of_ble_eq_true rfl) dX1_readSum_64 ?_
            refine ⟨E, M, _, d, lvl, lv, rfl, rfl, hE, (inc_le h54 (by decide)), hd4, hlv, fun hb2 => ?_⟩
            dsimp only [psh]
            refine w_lsub (pc := 67) dX1_readSum_67 ?_
            refine w_iload_n (pc := 68) dX1_readSum_68 rfl ?_
            refine w_callV2 (n' := 0) (pc := 69) (c_X1_checked hG) cv_X1_78 (by first | assumption | exact ob rfl) hF hT (by omega) (by decide) (Nat.le_of_ble_eq_true rfl) dX1_readSum_69 ?_
            refine ⟨E, M, _, _, lv, rfl, rfl, hE, hb2, fun hb3 => ?_⟩
            dsimp only [psh]
            refine w_lstore 4 (pc := 72) dX1_readSum_72 (by decide) ?_
            refine w_iinc (v := nI (i + 1)) (pc := 74) dX1_readSum_74 rfl (nI_1 i) (by decide) ?_
            refine w_goto 12 (pc := 77) dX1_readSum_77 (by decide) ?_
            exact w_lk (ih (i + 1) _ _ (by omega) hb3 hq) (lkc rfl (lkc rfl (lkc rfl (lkc rfl (lkc rfl (lkc rfl lkn))))))
        · rw [bi_1, decide_eq_true_eq] at h25
          rw [tkS, if_pos h25]
          rw [rSumL, if_pos h25] at hq
          refine w_aload_n (pc := 28) dX1_readSum_28 rfl ?_
          refine w_lload (pc := 29) dX1_readSum_29 rfl ?_
          refine w_aload_n (pc := 31) dX1_readSum_31 rfl ?_
          refine w_iload_n (pc := 32) dX1_readSum_32 rfl ?_
          refine w_iload_n (pc := 33) dX1_readSum_33 rfl ?_
          refine w_iload_n (pc := 34) dX1_readSum_34 rfl ?_
          refine w_callV3 (n' := 0) (pc := 35) (c_X1_readPart hdd hrec hG) cv_X1_75 (by first | assumption | exact ob rfl) hF hT (by omega) (by decide) (Nat.le_of_ble_eq_true rfl) dX1_readSum_35 ?_
          refine ⟨E, M, _, d, lvl, lv, rfl, rfl, hE, (inc_le h25 (by decide)), hd4, hlv, fun hb2 => ?_⟩
          dsimp only [psh]
          refine w_ladd (pc := 38) dX1_readSum_38 ?_
          refine w_iload_n (pc := 39) dX1_readSum_39 rfl ?_
          refine w_callV2 (n' := 0) (pc := 40) (c_X1_checked hG) cv_X1_78 (by first | assumption | exact ob rfl) hF hT (by omega) (by decide) (Nat.le_of_ble_eq_true rfl) dX1_readSum_40 ?_
          refine ⟨E, M, _, _, lv, rfl, rfl, hE, hb2, fun hb3 => ?_⟩
          dsimp only [psh]
          refine w_lstore 4 (pc := 43) dX1_readSum_43 (by decide) ?_
          refine w_goto 74 (pc := 45) dX1_readSum_45 (by decide) ?_
          refine w_iinc (v := nI (i + 1)) (pc := 74) dX1_readSum_74 rfl (nI_1 i) (by decide) ?_
          refine w_goto 12 (pc := 77) dX1_readSum_77 (by decide) ?_
          exact w_lk (ih (i + 1) _ _ (by omega) hb3 hq) (lkc rfl (lkc rfl (lkc rfl (lkc rfl (lkc rfl (lkc rfl lkn))))))
  refine w_aload_n (pc := 0) dX1_readSum_0 rfl ?_
  refine w_iload_n (pc := 1) dX1_readSum_1 rfl ?_
  refine w_iload_n (pc := 2) dX1_readSum_2 rfl ?_
  refine w_iload_n (pc := 3) dX1_readSum_3 rfl ?_
  refine w_callV3 (n' := 0) (pc := 4) (c_X1_readPart hdd hrec hG) cv_X1_75 (by first | assumption | exact ob rfl) hF hT (by omega) (by decide) (Nat.le_of_ble_eq_true rfl) dX1_readSum_4 ?_
  refine ⟨E, M, _, d, lvl, lv, rfl, rfl, hE, hs, hd4, hlv, fun hb0 => ?_⟩
  dsimp only [psh]
  refine w_lstore 4 (pc := 7) dX1_readSum_7 (by decide) ?_
  refine w_iconst (v := 0) (pc := 9) dX1_readSum_9 rfl ?_
  refine w_istore 6 (pc := 10) dX1_readSum_10 (by decide) ?_
  exact w_lk (loop 40 0 _ _ (by omega) hb0 hQ) (lkc rfl (lkc rfl (lkc rfl (lkc rfl (lkc rfl (lkc rfl lkn))))))
theorem c_X1_form1 {l : Launch} {n dd : Nat} (hdd : 4 ≤ dd) (hrec : ∀ {l : Launch}, l.stackTraces = false → Con l yX1_readFormula wX1_readFormula 0 dd (T_form n)) (hl : l.stackTraces = false) : Con l yX1_readFormula wX1_readFormula 0 (dd + 6) (T_form (n + 1)) := by
  refine con_of hl (by decide) ?_ ?_
  · intro as M Q X hpt
    obtain ⟨E, M, s, d, lvl, lv, rfl, rfl, hE, hs, hd4, hlv, hQ⟩ := hpt
    exact Nat.le_of_ble_eq_true rfl
  intro G as M Q X hl' hT hd hpt
  obtain ⟨E, M, s, d, lvl, lv, rfl, rfl, hE, hs, hd4, hlv, hQ⟩ := hpt
  have hG : (gl G).stackTraces = false := by rw [hl']; exact hl
  show PW G RX1 cX1_readFormula 14 (some .long) Q X 0 0 [(0, .ref 7), (1, .int (nI d)), (2, .int (nI lvl)), (3, .int (bi lv))] [] (calS M s)
  have hF := hE.1
  have t88 : ∀ (hold : Bool) (s : St), s.1 ≤ E.2.1 → ((rCon E (rForm E n) d lv hold s).2.1 ≤ E.2.1 → Q (some (.long (rCon E (rForm E n) d lv hold s).1)) (calS M (rCon E (rForm E n) d lv hold s).2)) → PW G RX1 cX1_readFormula 14 (some .long) Q X 0 88 [(0, .ref 7), (1, .int (nI d)), (2, .int (nI lvl)), (3, .int (bi lv))] [.int (bi hold)] (calS M s) := by
    intro hold s hs hq
    have t145 : (ex E 58 (rCon1 E (rForm E n) d lv hold s).2).1 ≤ E.2.1 → ∀ q : Bool, q = (lv && !hold) → PW G RX1 cX1_readFormula 14 (some .long) Q X 0 145 [(0, .ref 7), (1, .int (nI d)), (2, .int (nI lvl)), (3, .int (bi lv)), (9, .int (bi hold)), (10, .long (rCon1 E (rForm E n) d lv hold s).1)] [.int (bi q), .int (nI lvl + 1), .int (nI d), .ref 7] (calS M (ex E 58 (rCon1 E (rForm E n) d lv hold s).2)) := by
      intro hb3 q eq
      subst eq
      refine w_callV3 (n' := 0) (pc := 145) (hrec hG) cv_X1_53 (by first | assumption | exact ob rfl) hF hT (by omega) (by decide) (Nat.le_of_ble_eq_true rfl) dX1_readFormula_145 ?_
      refine ⟨E, M, _, d, (lvl + 1), (lv && !hold), (by rw [nI_1]), rfl, hE, hb3, hd4, (by omega), fun hb4 => ?_⟩
      dsimp only [psh]
      refine w_lstore 12 (pc := 148) dX1_readFormula_148 (by decide) ?_
      refine w_iload (pc := 150) dX1_readFormula_150 rfl ?_
      refine w_if_eq 160 (pc := 152) dX1_readFormula_152 (by decide) (fun h152 => ?_) (fun h152 => ?_)
      · rw [bi_0] at h152
        unfold rCon at hq
        rw [if_neg (by rw [h152]; decide)] at hq
        refine w_lload (pc := 160) dX1_readFormula_160 rfl ?_
        refine w_lreturn (pc := 162) dX1_readFormula_162 ?_
        exact hq hb4
      · rw [bi_1] at h152
        unfold rCon at hq
        rw [if_pos h152] at hq
        refine w_lload (pc := 155) dX1_readFormula_155 rfl ?_
        refine w_goto 162 (pc := 157) dX1_readFormula_157 (by decide) ?_
        refine w_lreturn (pc := 162) dX1_readFormula_162 ?_
        exact hq hb4
    have t115 : (ex E 63 s).1 ≤ E.2.1 → ∀ q : Bool, q = (lv && hold) → PW G RX1 cX1_readFormula 14 (some .long) Q X 0 115 [(0, .ref 7), (1, .int (nI d)), (2, .int (nI lvl)), (3, .int (bi lv)), (9, .int (bi hold))] [.int (bi q), .int (nI lvl + 1), .int (nI d), .ref 7] (calS M (ex E 63 s)) := by
      intro hb1 q eq
      subst eq
      refine w_callV3 (n' := 0) (pc := 115) (hrec hG) cv_X1_53 (by first | assumption | exact ob rfl) hF hT (by omega) (by decide) (Nat.le_of_ble_eq_true rfl) dX1_readFormula_115 ?_
      refine ⟨E, M, _, d, (lvl + 1), (lv && hold), (by rw [nI_1]), rfl, hE, hb1, hd4, (by omega), fun hb2 => ?_⟩
      dsimp only [psh]
      refine w_lstore 10 (pc := 118) dX1_readFormula_118 (by decide) ?_
      refine w_aload_n (pc := 120) dX1_readFormula_120 rfl ?_
      refine w_bipush (v := 58) (pc := 121) dX1_readFormula_121 rfl ?_
      refine w_callV1 (n' := 0) (pc := 123) (c_X1_expect hG) cv_X1_71 (by first | assumption | exact ob rfl) hF hT (by omega) (by decide) (Nat.le_of_ble_eq_true rfl) dX1_readFormula_123 ?_
      refine ⟨E, M, _, _, rfl, rfl, hE, hb2, (by decide), fun hb3 => ?_⟩
      dsimp only [psh]
      refine w_aload_n (pc := 126) dX1_readFormula_126 rfl ?_
      refine w_iload_n (pc := 127) dX1_readFormula_127 rfl ?_
      refine w_iload_n (pc := 128) dX1_readFormula_128 rfl ?_
      refine w_iconst (v := 1) (pc := 129) dX1_readFormula_129 rfl ?_
      refine w_iadd (pc := 130) dX1_readFormula_130 ?_
      refine w_iload_n (pc := 131) dX1_readFormula_131 rfl ?_
      refine w_if_eq 144 (pc := 132) dX1_readFormula_132 (by decide) (fun h132 => ?_) (fun h132 => ?_)
      · rw [bi_0] at h132
        have hq9 : false = (lv && !hold) := by rw [h132]; rfl
        refine w_iconst (v := 0) (pc := 144) dX1_readFormula_144 rfl ?_
        exact w_lk (t145 hb3 _ hq9) (lkc rfl (lkc rfl (lkc rfl (lkc rfl (lkc rfl (lkc rfl lkn))))))
      · rw [bi_1] at h132
        refine w_iload (pc := 135) dX1_readFormula_135 rfl ?_
        refine w_if_ne 144 (pc := 137) dX1_readFormula_137 (by decide) (fun h137 => ?_) (fun h137 => ?_)
        · rw [bi_1] at h137
          have hq9 : false = (lv && !hold) := by rw [h132, h137]; rfl
          refine w_iconst (v := 0) (pc := 144) dX1_readFormula_144 rfl ?_
          exact w_lk (t145 hb3 _ hq9) (lkc rfl (lkc rfl (lkc rfl (lkc rfl (lkc rfl (lkc rfl lkn))))))
        · rw [bi_0] at h137
          have hq9 : true = (lv && !hold) := by rw [h132, h137]; rfl
          refine w_iconst (v := 1) (pc := 140) dX1_readFormula_140 rfl ?_
          refine w_goto 145 (pc := 141) dX1_readFormula_141 (by decide) ?_
          exact w_lk (t145 hb3 _ hq9) (lkc rfl (lkc rfl (lkc rfl (lkc rfl (lkc rfl (lkc rfl lkn))))))
    refine w_istore 9 (pc := 88) dX1_readFormula_88 (by decide) ?_
    refine w_aload_n (pc := 90) dX1_readFormula_90 rfl ?_
    refine w_bipush (v := 63) (pc := 91) dX1_readFormula_91 rfl ?_
    refine w_callV1 (n' := 0) (pc := 93) (c_X1_expect hG) cv_X1_71 (by first | assumption | exact ob rfl) hF hT (by omega) (by decide) (Nat.le_of_ble_eq_true rfl) dX1_readFormula_93 ?_
    refine ⟨E, M, _, _, rfl, rfl, hE, hs, (by decide), fun hb1 => ?_⟩
    dsimp only [psh]
    refine w_aload_n (pc := 96) dX1_readFormula_96 rfl ?_
    refine w_iload_n (pc := 97) dX1_readFormula_97 rfl ?_
    refine w_iload_n (pc := 98) dX1_readFormula_98 rfl ?_
    refine w_iconst (v := 1) (pc := 99) dX1_readFormula_99 rfl ?_
    refine w_iadd (pc := 100) dX1_readFormula_100 ?_
    refine w_iload_n (pc := 101) dX1_readFormula_101 rfl ?_
    refine w_if_eq 114 (pc := 102) dX1_readFormula_102 (by decide) (fun h102 => ?_) (fun h102 => ?_)
    · rw [bi_0] at h102
      have hq9 : false = (lv && hold) := by rw [h102]; rfl
      refine w_iconst (v := 0) (pc := 114) dX1_readFormula_114 rfl ?_
      exact w_lk (t115 hb1 _ hq9) (lkc rfl (lkc rfl (lkc rfl (lkc rfl (lkc rfl lkn)))))
    · rw [bi_1] at h102
      refine w_iload (pc := 105) dX1_readFormula_105 rfl ?_
      refine w_if_eq 114 (pc := 107) dX1_readFormula_107 (by decide) (fun h107 => ?_) (fun h107 => ?_)
      · rw [bi_0] at h107
        have hq9 : false = (lv && hold) := by rw [h102, h107]; rfl
        refine w_iconst (v := 0) (pc := 114) dX1_readFormula_114 rfl ?_
        exact w_lk (t115 hb1 _ hq9) (lkc rfl (lkc rfl (lkc rfl (lkc rfl (lkc rfl lkn)))))
      · rw [bi_1] at h107
        have hq9 : true = (lv && hold) := by rw [h102, h107]; rfl
        refine w_iconst (v := 1) (pc := 110) dX1_readFormula_110 rfl ?_
        refine w_goto 115 (pc := 111) dX1_readFormula_111 (by decide) ?_
        exact w_lk (t115 hb1 _ hq9) (lkc rfl (lkc rfl (lkc rfl (lkc rfl (lkc rfl lkn)))))
  have t45 : ∀ less : Bool, (inc1 (rSum E (rForm E n) d lv s).2).1 ≤ E.2.1 → ((rCon E (rForm E n) d lv (if less = true then decide ((rSum E (rForm E n) d lv s).1 < (rSum E (rForm E n) d lv (inc1 (rSum E (rForm E n) d lv s).2)).1) else decide ((rSum E (rForm E n) d lv (inc1 (rSum E (rForm E n) d lv s).2)).1 < (rSum E (rForm E n) d lv s).1)) (rSum E (rForm E n) d lv (inc1 (rSum E (rForm E n) d lv s).2)).2).2.1 ≤ E.2.1 → Q (some (.long (rCon E (rForm E n) d lv (if less = true then decide ((rSum E (rForm E n) d lv s).1 < (rSum E (rForm E n) d lv (inc1 (rSum E (rForm E n) d lv s).2)).1) else decide ((rSum E (rForm E n) d lv (inc1 (rSum E (rForm E n) d lv s).2)).1 < (rSum E (rForm E n) d lv s).1)) (rSum E (rForm E n) d lv (inc1 (rSum E (rForm E n) d lv s).2)).2).1)) (calS M (rCon E (rForm E n) d lv (if less = true then decide ((rSum E (rForm E n) d lv s).1 < (rSum E (rForm E n) d lv (inc1 (rSum E (rForm E n) d lv s).2)).1) else decide ((rSum E (rForm E n) d lv (inc1 (rSum E (rForm E n) d lv s).2)).1 < (rSum E (rForm E n) d lv s).1)) (rSum E (rForm E n) d lv (inc1 (rSum E (rForm E n) d lv s).2)).2).2)) → PW G RX1 cX1_readFormula 14 (some .long) Q X 0 45 [(0, .ref 7), (1, .int (nI d)), (2, .int (nI lvl)), (3, .int (bi lv)), (4, .long (rSum E (rForm E n) d lv s).1), (6, .int (bi less))] [] (calS M (inc1 (rSum E (rForm E n) d lv s).2)) := by
    intro less hb3 hq
    refine w_aload_n (pc := 45) dX1_readFormula_45 rfl ?_
    refine w_iload_n (pc := 46) dX1_readFormula_46 rfl ?_
    refine w_iload_n (pc := 47) dX1_readFormula_47 rfl ?_
    refine w_iload_n (pc := 48) dX1_readFormula_48 rfl ?_
    refine w_callV3 (n' := 0) (pc := 49) (c_X1_readSum hdd hrec hG) cv_X1_64 (by first | assumption | exact ob rfl) hF hT (by omega) (by decide) (Nat.le_of_ble_eq_true rfl) dX1_readFormula_49 ?_
    refine ⟨E, M, _, d, lvl, lv, rfl, rfl, hE, hb3, hd4, (by omega), fun hb4 => ?_⟩
    dsimp only [psh]
    refine w_lstore 7 (pc := 52) dX1_readFormula_52 (by decide) ?_
    refine w_iload (pc := 54) dX1_readFormula_54 rfl ?_
    refine w_if_eq 75 (pc := 56) dX1_readFormula_56 (by decide) (fun h56 => ?_) (fun h56 => ?_)
    · rw [bi_0] at h56
      subst h56
      refine w_lload (pc := 75) dX1_readFormula_75 rfl ?_
      refine w_lload (pc := 77) dX1_readFormula_77 rfl ?_
      refine w_lcmp_le 87 (pc := 79) dX1_readFormula_79 dX1_readFormula_80 (by decide) (fun h79 => ?_) (fun h79 => ?_)
      · refine w_iconst (v := 0) (pc := 87) dX1_readFormula_87 rfl ?_
        first | exact w_lk (t88 true _ hb4 (by have e := hq; rw [if_pos rfl, decide_eq_true h63] at e; exact e)) (lkc rfl (lkc rfl (lkc rfl (lkc rfl lkn)))) | exact w_lk (t88 false _ hb4 (by have e := hq; rw [if_pos rfl, decide_eq_false (fun q => h63 q)] at e; exact e)) (lkc rfl (lkc rfl (lkc rfl (lkc rfl lkn)))) | exact w_lk (t88 false _ hb4 (by have e := hq; rw [if_pos rfl, decide_eq_false (Int64.not_lt.mpr h63)] at e; exact e)) (lkc rfl (lkc rfl (lkc rfl (lkc rfl lkn)))) | exact w_lk (t88 true _ hb4 (by have e := hq; rw [if_neg (by decide), decide_eq_true h63] at e; exact e)) (lkc rfl (lkc rfl (lkc rfl (lkc rfl lkn)))) | exact w_lk (t88 true _ hb4 (by have e := hq; rw [if_neg (by decide), decide_eq_true (Int64.not_le.mp h79)] at e; exact e)) (lkc rfl (lkc rfl (lkc rfl (lkc rfl lkn)))) | exact w_lk (t88 false _ hb4 (by have e := hq; rw [if_neg (by decide), decide_eq_false (Int64.not_lt.mpr h79)] at e; exact e)) (lkc rfl (lkc rfl (lkc rfl (lkc rfl lkn)))) | exact w_lk (t88 true _ hb4 (by have e := hq; rw [if_pos rfl, decide_eq_true (Int64.not_le.mp h63)] at e; exact e)) (lkc rfl (lkc rfl (lkc rfl (lkc rfl lkn)))) | exact w_lk (t88 true _ hb4 (by have e := hq; rw [if_neg (by decide), decide_eq_true h79] at e; exact e)) (lkc rfl (lkc rfl (lkc rfl (lkc rfl lkn)))) | exact w_lk (t88 false _ hb4 (by have e := hq; rw [if_neg (by decide), decide_eq_false h79] at e; exact e)) (lkc rfl (lkc rfl (lkc rfl (lkc rfl lkn))))
      · refine w_iconst (v := 1) (pc := 83) dX1_readFormula_83 rfl ?_
        refine w_goto 88 (pc := 84) dX1_readFormula_84 (by decide) ?_
        first | exact w_lk (t88 true _ hb4 (by have e := hq; rw [if_pos rfl, decide_eq_true h63] at e; exact e)) (lkc rfl (lkc rfl (lkc rfl (lkc rfl lkn)))) | exact w_lk (t88 false _ hb4 (by have e := hq; rw [if_pos rfl, decide_eq_false (fun q => h63 q)] at e; exact e)) (lkc rfl (lkc rfl (lkc rfl (lkc rfl lkn)))) | exact w_lk (t88 false _ hb4 (by have e := hq; rw [if_pos rfl, decide_eq_false (Int64.not_lt.mpr h63)] at e; exact e)) (lkc rfl (lkc rfl (lkc rfl (lkc rfl lkn)))) | exact w_lk (t88 true _ hb4 (by have e := hq; rw [if_neg (by decide), decide_eq_true h63] at e; exact e)) (lkc rfl (lkc rfl (lkc rfl (lkc rfl lkn)))) | exact w_lk (t88 true _ hb4 (by have e := hq; rw [if_neg (by decide), decide_eq_true (Int64.not_le.mp h79)] at e; exact e)) (lkc rfl (lkc rfl (lkc rfl (lkc rfl lkn)))) | exact w_lk (t88 false _ hb4 (by have e := hq; rw [if_neg (by decide), decide_eq_false (Int64.not_lt.mpr h79)] at e; exact e)) (lkc rfl (lkc rfl (lkc rfl (lkc rfl lkn)))) | exact w_lk (t88 true _ hb4 (by have e := hq; rw [if_pos rfl, decide_eq_true (Int64.not_le.mp h63)] at e; exact e)) (lkc rfl (lkc rfl (lkc rfl (lkc rfl lkn)))) | exact w_lk (t88 true _ hb4 (by have e := hq; rw [if_neg (by decide), decide_eq_true h79] at e; exact e)) (lkc rfl (lkc rfl (lkc rfl (lkc rfl lkn)))) | exact w_lk (t88 false _ hb4 (by have e := hq; rw [if_neg (by decide), decide_eq_false h79] at e; exact e)) (lkc rfl (lkc rfl (lkc rfl (lkc rfl lkn))))
    · rw [bi_1] at h56
      subst h56
      refine w_lload (pc := 59) dX1_readFormula_59 rfl ?_
      refine w_lload (pc := 61) dX1_readFormula_61 rfl ?_
      refine w_lcmp_ge 71 (pc := 63) dX1_readFormula_63 dX1_readFormula_64 (by decide) (fun h63 => ?_) (fun h63 => ?_)
      · refine w_iconst (v := 0) (pc := 71) dX1_readFormula_71 rfl ?_
        refine w_goto 88 (pc := 72) dX1_readFormula_72 (by decide) ?_
        first | exact w_lk (t88 true _ hb4 (by have e := hq; rw [if_pos rfl, decide_eq_true h63] at e; exact e)) (lkc rfl (lkc rfl (lkc rfl (lkc rfl lkn)))) | exact w_lk (t88 false _ hb4 (by have e := hq; rw [if_pos rfl, decide_eq_false (fun q => h63 q)] at e; exact e)) (lkc rfl (lkc rfl (lkc rfl (lkc rfl lkn)))) | exact w_lk (t88 false _ hb4 (by have e := hq; rw [if_pos rfl, decide_eq_false (Int64.not_lt.mpr h63)] at e; exact e)) (lkc rfl (lkc rfl (lkc rfl (lkc rfl lkn)))) | exact w_lk (t88 true _ hb4 (by have e := hq; rw [if_neg (by decide), decide_eq_true h63] at e; exact e)) (lkc rfl (lkc rfl (lkc rfl (lkc rfl lkn)))) | exact w_lk (t88 true _ hb4 (by have e := hq; rw [if_neg (by decide), decide_eq_true (Int64.not_le.mp h79)] at e; exact e)) (lkc rfl (lkc rfl (lkc rfl (lkc rfl lkn)))) | exact w_lk (t88 false _ hb4 (by have e := hq; rw [if_neg (by decide), decide_eq_false (Int64.not_lt.mpr h79)] at e; exact e)) (lkc rfl (lkc rfl (lkc rfl (lkc rfl lkn)))) | exact w_lk (t88 true _ hb4 (by have e := hq; rw [if_pos rfl, decide_eq_true (Int64.not_le.mp h63)] at e; exact e)) (lkc rfl (lkc rfl (lkc rfl (lkc rfl lkn)))) | exact w_lk (t88 true _ hb4 (by have e := hq; rw [if_neg (by decide), decide_eq_true h79] at e; exact e)) (lkc rfl (lkc rfl (lkc rfl (lkc rfl lkn)))) | exact w_lk (t88 false _ hb4 (by have e := hq; rw [if_neg (by decide), decide_eq_false h79] at e; exact e)) (lkc rfl (lkc rfl (lkc rfl (lkc rfl lkn))))
      · refine w_iconst (v := 1) (pc := 67) dX1_readFormula_67 rfl ?_
        refine w_goto 88 (pc := 68) dX1_readFormula_68 (by decide) ?_
        first | exact w_lk (t88 true _ hb4 (by have e := hq; rw [if_pos rfl, decide_eq_true h63] at e; exact e)) (lkc rfl (lkc rfl (lkc rfl (lkc rfl lkn)))) | exact w_lk (t88 false _ hb4 (by have e := hq; rw [if_pos rfl, decide_eq_false (fun q => h63 q)] at e; exact e)) (lkc rfl (lkc rfl (lkc rfl (lkc rfl lkn)))) | exact w_lk (t88 false _ hb4 (by have e := hq; rw [if_pos rfl, decide_eq_false (Int64.not_lt.mpr h63)] at e; exact e)) (lkc rfl (lkc rfl (lkc rfl (lkc rfl lkn)))) | exact w_lk (t88 true _ hb4 (by have e := hq; rw [if_neg (by decide), decide_eq_true h63] at e; exact e)) (lkc rfl (lkc rfl (lkc rfl (lkc rfl lkn)))) | exact w_lk (t88 true _ hb4 (by have e := hq; rw [if_neg (by decide), decide_eq_true (Int64.not_le.mp h79)] at e; exact e)) (lkc rfl (lkc rfl (lkc rfl (lkc rfl lkn)))) | exact w_lk (t88 false _ hb4 (by have e := hq; rw [if_neg (by decide), decide_eq_false (Int64.not_lt.mpr h79)] at e; exact e)) (lkc rfl (lkc rfl (lkc rfl (lkc rfl lkn)))) | exact w_lk (t88 true _ hb4 (by have e := hq; rw [if_pos rfl, decide_eq_true (Int64.not_le.mp h63)] at e; exact e)) (lkc rfl (lkc rfl (lkc rfl (lkc rfl lkn)))) | exact w_lk (t88 true _ hb4 (by have e := hq; rw [if_neg (by decide), decide_eq_true h79] at e; exact e)) (lkc rfl (lkc rfl (lkc rfl (lkc rfl lkn)))) | exact w_lk (t88 false _ hb4 (by have e := hq; rw [if_neg (by decide), decide_eq_false h79] at e; exact e)) (lkc rfl (lkc rfl (lkc rfl (lkc rfl lkn))))
  replace hQ : ((rForm1 E (rForm E n) d lv s).2.1 ≤ E.2.1 → Q (some (.long (rForm1 E (rForm E n) d lv s).1)) (calS M (rForm1 E (rForm E n) d lv s).2)) := hQ
  unfold rForm1 at hQ
  refine w_iload_n (pc := 0) dX1_readFormula_0 rfl ?_
  refine w_bipush (v := 40) (pc := 1) dX1_readFormula_1 rfl ?_
  refine w_icmp_le 11 (pc := 3) dX1_readFormula_3 (by decide) (fun h3 => ?_) (fun h3 => ?_)
  · refine w_aload_n (pc := 11) dX1_readFormula_11 rfl ?_
    refine w_iload_n (pc := 12) dX1_readFormula_12 rfl ?_
    refine w_iload_n (pc := 13) dX1_readFormula_13 rfl ?_
    refine w_iload_n (pc := 14) dX1_readFormula_14 rfl ?_
    refine w_callV3 (n' := 0) (pc := 15) (c_X1_readSum hdd hrec hG) cv_X1_64 (by first | assumption | exact ob rfl) hF hT (by omega) (by decide) (Nat.le_of_ble_eq_true rfl) dX1_readFormula_15 ?_
    refine ⟨E, M, _, d, lvl, lv, rfl, rfl, hE, hs, hd4, (by omega), fun hb1 => ?_⟩
    dsimp only [psh]
    refine w_lstore 4 (pc := 18) dX1_readFormula_18 (by decide) ?_
    refine w_aload_n (pc := 20) dX1_readFormula_20 rfl ?_
    refine w_bipush (v := 60) (pc := 21) dX1_readFormula_21 rfl ?_
    refine w_callV1 (n' := 0) (pc := 23) (c_X1_take hG) cv_X1_67 (by first | assumption | exact ob rfl) hF hT (by omega) (by decide) (Nat.le_of_ble_eq_true rfl) dX1_readFormula_23 ?_
    refine ⟨E, M, _, _, rfl, rfl, hE, hb1, (by decide), fun hb2 => ?_⟩
    dsimp only [psh]
    refine w_istore 6 (pc := 26) dX1_readFormula_26 (by decide) ?_
    refine w_iload (pc := 28) dX1_readFormula_28 rfl ?_
    refine w_if_ne 45 (pc := 30) dX1_readFormula_30 (by decide) (fun h30 => ?_) (fun h30 => ?_)
    · have h9 := bi_1.mp h30
      rw [decide_eq_true_eq] at h9
      rw [tkS, if_pos h9]
      rw [if_pos h9] at hQ
      first | exact w_lk (t45 true (inc_le h9 (by decide)) (by rw [if_pos rfl]; exact hQ)) (lkc rfl (lkc rfl (lkc rfl (lkc rfl (lkc rfl (lkc (by show some _ = some _; rw [decide_eq_true h9]) lkn)))))) | exact w_lk (t45 false (inc_le h39 (by decide)) (by rw [if_neg (by decide)]; exact hQ)) (lkc rfl (lkc rfl (lkc rfl (lkc rfl (lkc rfl (lkc (by show some _ = some _; rw [decide_eq_false h9]) lkn))))))
    · have h9 := bi_0.mp h30
      rw [decide_eq_false_iff_not] at h9
      rw [tkS, if_neg h9]
      rw [if_neg h9] at hQ
      refine w_aload_n (pc := 33) dX1_readFormula_33 rfl ?_
      refine w_bipush (v := 62) (pc := 34) dX1_readFormula_34 rfl ?_
      refine w_callV1 (n' := 0) (pc := 36) (c_X1_take hG) cv_X1_67 (by first | assumption | exact ob rfl) hF hT (by omega) (by decide) (Nat.le_of_ble_eq_true rfl) dX1_readFormula_36 ?_
      refine ⟨E, M, _, _, rfl, rfl, hE, hb1, (by decide), fun hb3 => ?_⟩
      dsimp only [psh]
      refine w_if_ne 45 (pc := 39) dX1_readFormula_39 (by decide) (fun h39 => ?_) (fun h39 => ?_)
      · rw [bi_1, decide_eq_true_eq] at h39
        rw [tkS, if_pos h39]
        rw [if_pos h39] at hQ
        first | exact w_lk (t45 true (inc_le h9 (by decide)) (by rw [if_pos rfl]; exact hQ)) (lkc rfl (lkc rfl (lkc rfl (lkc rfl (lkc rfl (lkc (by show some _ = some _; rw [decide_eq_true h9]) lkn)))))) | exact w_lk (t45 false (inc_le h39 (by decide)) (by rw [if_neg (by decide)]; exact hQ)) (lkc rfl (lkc rfl (lkc rfl (lkc rfl (lkc rfl (lkc (by show some _ = some _; rw [decide_eq_false h9]) lkn))))))
      · rw [bi_0, decide_eq_false_iff_not] at h39
        rw [tkS, if_neg h39]
        rw [if_neg h39] at hQ
        refine w_lload (pc := 42) dX1_readFormula_42 rfl ?_
        refine w_lreturn (pc := 44) dX1_readFormula_44 ?_
        exact hQ hb1
  · exact absurd (by rw [show (40 : Int32) = nI 40 from rfl, nI_leI (by omega) (by omega)]; omega) h3
theorem c_X1_form0 {l : Launch} (hl : l.stackTraces = false) : Con l yX1_readFormula wX1_readFormula 0 4 (T_form 0) := by
  refine con_of hl (by decide) ?_ ?_
  · intro as M Q X hpt
    obtain ⟨E, M, s, d, lvl, lv, rfl, rfl, hE, hs, hd4, hlv, hQ⟩ := hpt
    exact Nat.le_of_ble_eq_true rfl
  intro G as M Q X hl' hT hd hpt
  obtain ⟨E, M, s, d, lvl, lv, rfl, rfl, hE, hs, hd4, hlv, hQ⟩ := hpt
  have hG : (gl G).stackTraces = false := by rw [hl']; exact hl
  show PW G RX1 cX1_readFormula 14 (some .long) Q X 0 0 [(0, .ref 7), (1, .int (nI d)), (2, .int (nI lvl)), (3, .int (bi lv))] [] (calS M s)
  have hF := hE.1
  refine w_iload_n (pc := 0) dX1_readFormula_0 rfl ?_
  refine w_bipush (v := 40) (pc := 1) dX1_readFormula_1 rfl ?_
  refine w_icmp_le 11 (pc := 3) dX1_readFormula_3 (by decide) (fun h3 => ?_) (fun h3 => ?_)
  · exact absurd h3 (by rw [show (40 : Int32) = nI 40 from rfl, nI_leI (by omega) (by omega)]; omega)
  · refine w_aload_n (pc := 6) dX1_readFormula_6 rfl ?_
    refine w_callV0 (n' := 0) (pc := 7) (c_X1_refuse hG) cv_X1_60 (by first | assumption | exact ob rfl) hF hT (by omega) (by decide) (Nat.le_of_ble_eq_true rfl) dX1_readFormula_7 ?_
    refine ⟨E, M, _, rfl, rfl, hE, hs, fun _ => ?_⟩
    dsimp only [psh]
    refine w_lreturn (pc := 10) dX1_readFormula_10 ?_
    exact hQ hs
theorem c_X1_formN : ∀ (n : Nat) {l : Launch}, l.stackTraces = false → Con l yX1_readFormula wX1_readFormula 0 (4 + 6 * n) (T_form n)
  | 0, _, hl => c_X1_form0 hl
  | n + 1, _, hl => c_X1_form1 (n := n) (dd := 4 + 6 * n) (by omega) (fun hl => c_X1_formN n hl) hl
theorem c_X1_readFormula {l : Launch} (hl : l.stackTraces = false) : Con l yX1_readFormula wX1_readFormula 0 250 (T_form 41) := c_X1_formN 41 hl
