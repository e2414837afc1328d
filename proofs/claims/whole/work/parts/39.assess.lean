/-! ASSESSMENTS OF THE CLASS -/
def bA (i j : Nat) : Nat := if j = 0 then 23 else 48 + 3 * (4 * i + (j - 1)) + 2
theorem bA_ok {i j : Nat} (hi : i < 3) (hj : j < 4) : AR 2 12 (bA i j) ∧ bA i j ≠ 22 := by
  unfold bA
  split
  · exact ⟨ar rfl, by decide⟩
  · exact ⟨ar_retV (i := 4 * i + (j - 1)) (by omega), by omega⟩
/-- what the class works out for a return: the values, and whether there was no overflow -/
def wkA (M : Mem) (i j : Nat) : (Nat → Int64) × Bool := wkC (arrM M) (bA i j) (48 + 3 * (4 * i + j)) 12 0 (mJ M 22)
def assM (M : Mem) (i j : Nat) (w : Nat → Int64) (v : Int64) (f : Nat → Int32) (F : Nat → Nat) : Mem := kepR (posA (c7 (rJ (arrM M) 22 w) f F) (84 + 4 * i) 0 (nI j) (v - mJ M (48 + 3 * (4 * i + j)) 2)) (48 + 3 * (4 * i + j)) 22 v
def T_assess : PT := fun as M Q X => ∃ t y : Int32, as = [.ref 0, .int t, .int y] ∧ Full M ∧ TabOk M ∧ TxtsOk M ∧ (¬ (ix t 3 ∧ ix y 4) → X "java/util/NoSuchElementException" M) ∧ (∀ i j, i < 3 → j < 4 → t = nI i → y = nI j → ∃ p tl, p ≤ 24 ∧ tl < 12 ∧ mI M (84 + 4 * i) 3 = nI p ∧ mI M 0 9 = nI tl ∧ (((ordC M).length < 12 ∨ p = 24) → X "java/lang/IllegalStateException" (arrM M)) ∧ ((ordC M).length = 12 → p < 24 → ((wkA M i j).2 = false → ∀ f F, X "java/lang/ArithmeticException" (c7 (rJ (arrM M) 22 (wkA M i j).1) f F)) ∧ ((wkA M i j).2 = true → ∀ f F, Q (some (.long ((wkA M i j).1 tl))) (assM M i j (wkA M i j).1 ((wkA M i j).1 tl) f F))))
theorem ord_len (M : Mem) : (ordC M).length ≤ 12 := by
  have := ordL_len (mI M 4) 12 0
  unfold ordC
  omega
theorem arr_ln {M : Mem} (h : (ordC M).length = 12) : ∀ k, k < 12 → ∃ i, i < 12 ∧ mI (arrM M) 21 k = nI i := by
  intro k hk
  refine ⟨(ordC M).getD k 0, ?_, ?_⟩
  · have hk2 : k < (ordC M).length := by omega
    rw [List.getD_eq_getElem?_getD, List.getElem?_eq_getElem hk2]
    exact ordL_lt (mI M 4) 12 0 _ (List.getElem_mem hk2)
  · have h8 := rowA_in (ordC M) 0 (mI M 21) k (by omega)
    rw [Nat.zero_add] at h8
    unfold arrM
    rw [mI_rs]
    exact h8
theorem c_X5_assess {l : Launch} (hl : l.stackTraces = false) : Con l yX5_assess wX5_assess 3 253 (T_assess) := by
  refine con_of hl (by decide) ?_ ?_
  · intro as M Q X hpt
    obtain ⟨t, y, rfl, hF, htab, htx, hX1, hQ0⟩ := hpt
    exact Nat.le_of_ble_eq_true rfl
  intro G as M Q X hl' hT hd hpt
  obtain ⟨t, y, rfl, hF, htab, htx, hX1, hQ0⟩ := hpt
  have hG : (gl G).stackTraces = false := by rw [hl']; exact hl
  show PW G RX5 cX5_assess 7 (some .long) Q X 3 0 [(0, .ref 0), (1, .int t), (2, .int y)] [] M
  refine w_iload_n (pc := 0) dX5_assess_0 rfl ?_
  refine w_iload_n (pc := 1) dX5_assess_1 rfl ?_
  refine w_callS2 (n' := 1) (pc := 2) (c_X5_requireReturn hG) cs_X5_151 hT (by omega) (by decide) (Nat.le_of_ble_eq_true rfl) dX5_assess_2 ?_
  refine ⟨_, _, rfl, fun hx => ?_, fun i j hi hj ei ej => ?_⟩
  · exact hX1 hx
  subst ei; subst ej
  have hor := ob_ret (i := 4 * i + j) (by omega)
  have harn := ar_retN (i := 4 * i + j) (by omega)
  have harv := ar_retV (i := 4 * i + j) (by omega)
  have hr0 : rf (48 + 3 * (4 * i + j)) 0 = 48 + 3 * (4 * i + j) + 1 := rf_x (by omega)
  have hr1 : rf (48 + 3 * (4 * i + j)) 1 = 48 + 3 * (4 * i + j) + 2 := rf_x (by omega)
  have hoa := ob_acc hi
  have e := clN (i := i) (by omega)
  have hs0 : rf (84 + 4 * i) 0 = 84 + 4 * i + 1 := rf_x (by omega)
  have hs1 : rf (84 + 4 * i) 1 = 84 + 4 * i + 2 := rf_x (by omega)
  have hs2 : rf (84 + 4 * i) 2 = 84 + 4 * i + 3 := rf_x (by omega)
  have ha0 := ar_accK hi
  have ha1 := ar_accY hi
  have ha2 := ar_accA hi
  obtain ⟨p, tl, hp, htl, ep, etl, hX2, hQ1⟩ := hQ0 i j hi hj rfl rfl
  have ep2 : mI (arrM M) (84 + 4 * i) 3 = nI p := by unfold arrM; rw [mI_rn (by omega)]; exact ep
  have tail : (ordC M).length = 12 → p < 24 → PW G RX5 cX5_assess 7 (some .long) Q X 1 71 [(0, .ref 0), (1, .int (nI i)), (2, .int (nI j)), (3, .ref (84 + 4 * i)), (4, .ref (48 + 3 * (4 * i + j)))] [.ref (bA i j), .ref (48 + 3 * (4 * i + j)), .ref 0] (arrM M) := by
    intro hlen hp24
    refine w_callV2 (n' := 1) (pc := 71) (c_X5_workOut hG) cv_X5_171 (by first | assumption | exact ob rfl) hF hT (by omega) (by decide) (Nat.le_of_ble_eq_true rfl) dX5_assess_71 ?_
    refine ⟨48 + 3 * (4 * i + j), bA i j, rfl, hF, (fun t ht => by unfold arrM; rw [mI_rn (by omega)]; exact htab t ht), (fun k hk => by obtain ⟨len, q1, q2, q3, q4, q5⟩ := htx k hk; exact ⟨len, q1, q2, (by unfold arrM; rw [mI_rn (by omega)]; exact q3), q4, (fun m hm => by unfold arrM; rw [mI_rn (by omega)]; exact q5 m hm)⟩), ⟨hor, hr0, harn, by omega⟩, bA_ok hi hj, arr_ln hlen, fun f F => ?_⟩
    rw [show wkC (arrM M) (bA i j) (48 + 3 * (4 * i + j)) 12 0 (mJ (arrM M) 22) = wkA M i j from rfl]
    dsimp only [psh]
    refine w_if_ne 87 (pc := 74) dX5_assess_74 (by decide) (fun h74 => ?_) (fun h74 => ?_)
    · rw [bi_1] at h74
      refine w_aload_n (pc := 87) dX5_assess_87 rfl ?_
      refine w_getR (b := 22) (pc := 88) fl_X5_46 hF (by first | assumption | exact ob rfl) rfl rfl dX5_assess_88 ?_
      refine w_aload_n (pc := 91) dX5_assess_91 rfl ?_
      refine w_getI (pc := 92) fl_X5_53 hF (by first | assumption | exact ob rfl) rfl dX5_assess_92 ?_
      rw [show mI (c7 (rJ (arrM M) 22 (wkA M i j).1) f F) 0 9 = nI tl from by rw [c7_I (by decide), mI_rJ]; unfold arrM; rw [mI_rn (by decide)]; exact etl]
      refine w_lald (m := 12) (pc := 95) hF (by first | assumption | exact ar rfl) (vin htl (by decide)) dX5_assess_95 ?_
      rw [clN (by omega), c7_J, mJ_rs]
      refine w_lstore 5 (pc := 96) dX5_assess_96 (by decide) ?_
      refine w_aload_n (pc := 98) dX5_assess_98 rfl ?_
      refine w_iconst (v := 0) (pc := 99) dX5_assess_99 rfl ?_
      refine w_iload_n (pc := 100) dX5_assess_100 rfl ?_
      refine w_lload (pc := 101) dX5_assess_101 rfl ?_
      refine w_aload (pc := 103) dX5_assess_103 rfl ?_
      refine w_getJ (pc := 105) fl_X5_180 hF (by first | assumption | exact ob rfl) rfl dX5_assess_105 ?_
      rw [c7_J, mJ_rn (by omega), show mJ (arrM M) = mJ M from rfl]
      refine w_lsub (pc := 108) dX5_assess_108 ?_
      refine w_callV3 (n' := 1) (pc := 109) (c_X0_post hG) cv_X5_184 (by first | assumption | exact ob rfl) hF hT (by omega) (by decide) (Nat.le_of_ble_eq_true rfl) dX5_assess_109 ?_
      refine ⟨84 + 4 * i, _, _, _, rfl, hF, hoa, ⟨hs0, hs1, hs2⟩, ⟨ha0, ha1, ha2⟩, (by rw [c7_I (by omega), mI_rJ, ep2]; exact vin hp24 (by decide)), ?_⟩
      dsimp only [psh]
      refine w_aload (pc := 112) dX5_assess_112 rfl ?_
      refine w_aload_n (pc := 114) dX5_assess_114 rfl ?_
      refine w_getR (b := 22) (pc := 115) fl_X5_46 hF (by first | assumption | exact ob rfl) rfl rfl dX5_assess_115 ?_
      refine w_lload (pc := 118) dX5_assess_118 rfl ?_
      refine w_callV2 (n' := 1) (pc := 120) (c_X2_keep hG) cv_X5_188 (by first | assumption | exact ob rfl) hF hT (by omega) (by decide) (Nat.le_of_ble_eq_true rfl) dX5_assess_120 ?_
      refine ⟨48 + 3 * (4 * i + j), 22, _, rfl, hF, hor, hr1, harv, ar rfl, ?_⟩
      dsimp only [psh]
      refine w_lload (pc := 123) dX5_assess_123 rfl ?_
      refine w_lreturn (pc := 125) dX5_assess_125 ?_
      exact (hQ1 hlen hp24).2 h74 f F
    · rw [bi_0] at h74
      refine w_throw (pc := 77) (ik := 175) (is := 177) (ic := 179) (cls := "java/lang/ArithmeticException") (ix := 7) (text := "overflow") (List.mem_of_getElem? (i := 3) rfl) (List.mem_of_getElem? (i := 12) rfl) hT (by omega) (by decide) (Nat.le_of_ble_eq_true rfl) dX5_assess_77 dX5_assess_80 dX5_assess_81 dX5_assess_83 dX5_assess_86 ?_
      exact (hQ1 hlen hp24).1 h74 f F
  dsimp only [psh]
  refine w_aload_n (pc := 5) dX5_assess_5 rfl ?_
  refine w_getR (b := 6) (pc := 6) fl_X5_32 hF (by first | assumption | exact ob rfl) rfl rfl dX5_assess_6 ?_
  refine w_iload_n (pc := 9) dX5_assess_9 rfl ?_
  refine w_aald (m := 3) (b := 84 + 4 * i) (pc := 10) (Or.inl rfl) hF (by first | assumption | exact ar rfl) (vin hi (by decide)) (by rw [e]; rfl) dX5_assess_10 ?_
  refine w_astore_n 3 (pc := 11) rfl dX5_assess_11 (by decide) ?_
  refine w_aload_n (pc := 12) dX5_assess_12 rfl ?_
  refine w_callV0 (n' := 1) (pc := 13) (c_X5_arrangeLines hG) cv_X5_145 (by first | assumption | exact ob rfl) hF hT (by omega) (by decide) (Nat.le_of_ble_eq_true rfl) dX5_assess_13 ?_
  refine ⟨rfl, hF, ?_⟩
  rw [show rI M 21 (rowA 0 (ordL (mI M 4) 12 0) (mI M 21)) = arrM M from rfl, show ordL (mI M 4) 12 0 = ordC M from rfl]
  have hol := ord_len M
  dsimp only [psh]
  refine w_bipush (v := 12) (pc := 16) dX5_assess_16 rfl ?_
  refine w_icmp_lt 28 (pc := 18) dX5_assess_18 (by decide) (fun h18 => ?_) (fun h18 => ?_)
  · have h9 : (ordC M).length < 12 := by rw [show (12 : Int32) = nI 12 from rfl, nI_ltI (by omega) (by omega)] at h18; exact h18
    refine w_throw (pc := 28) (ik := 127) (is := 166) (ic := 131) (cls := "java/lang/IllegalStateException") (ix := 7) (text := "the form is a ring, or the account is full") (List.mem_of_getElem? (i := 2) rfl) (List.mem_of_getElem? (i := 11) rfl) hT (by omega) (by decide) (Nat.le_of_ble_eq_true rfl) dX5_assess_28 dX5_assess_31 dX5_assess_32 dX5_assess_34 dX5_assess_37 ?_
    exact hX2 (by first | exact Or.inl h9 | exact Or.inr h8)
  · have h9 : (ordC M).length = 12 := by rw [show (12 : Int32) = nI 12 from rfl, nI_ltI (by omega) (by omega)] at h18; omega
    refine w_aload_n (pc := 21) dX5_assess_21 rfl ?_
    refine w_callV0 (n' := 1) (pc := 22) (c_X0_isFull hG) cv_X5_165 (by first | assumption | exact ob rfl) hF hT (by omega) (by decide) (Nat.le_of_ble_eq_true rfl) dX5_assess_22 ?_
    refine ⟨_, rfl, hF, by assumption, ?_⟩
    dsimp only [psh]
    refine w_if_eq 38 (pc := 25) dX5_assess_25 (by decide) (fun h25 => ?_) (fun h25 => ?_)
    · have h8 : p < 24 := by rw [bi_0, ep2, show (24 : Int32) = nI 24 from rfl, decide_eq_false_iff_not, nI_leI (by omega) (by omega)] at h25; omega
      refine w_aload_n (pc := 38) dX5_assess_38 rfl ?_
      refine w_iload_n (pc := 39) dX5_assess_39 rfl ?_
      refine w_iload_n (pc := 40) dX5_assess_40 rfl ?_
      refine w_callV2 (n' := 1) (pc := 41) (c_X5_returnOf hG) cv_X5_158 (by first | assumption | exact ob rfl) hF hT (by omega) (by decide) (Nat.le_of_ble_eq_true rfl) dX5_assess_41 ?_
      refine ⟨_, _, hi, hj, rfl, hF, ?_⟩
      dsimp only [psh]
      refine w_astore 4 (pc := 44) dX5_assess_44 (by decide) ?_
      refine w_aload_n (pc := 46) dX5_assess_46 rfl ?_
      refine w_aload (pc := 47) dX5_assess_47 rfl ?_
      refine w_iload_n (pc := 49) dX5_assess_49 rfl ?_
      refine w_if_ne 60 (pc := 50) dX5_assess_50 (by decide) (fun h50 => ?_) (fun h50 => ?_)
      · have h7 : ¬ j = 0 := fun q => h50 (by rw [q]; rfl)
        have h6 : bA i j = 48 + 3 * (4 * i + (j - 1)) + 2 := if_neg h7
        have hoq := ob_ret (i := 4 * i + (j - 1)) (by omega)
        have hq1 : rf (48 + 3 * (4 * i + (j - 1))) 1 = 48 + 3 * (4 * i + (j - 1)) + 2 := rf_x (by omega)
        refine w_aload_n (pc := 60) dX5_assess_60 rfl ?_
        refine w_iload_n (pc := 61) dX5_assess_61 rfl ?_
        refine w_iload_n (pc := 62) dX5_assess_62 rfl ?_
        refine w_iconst (v := 1) (pc := 63) dX5_assess_63 rfl ?_
        refine w_isub (pc := 64) dX5_assess_64 ?_
        refine w_callV2 (n' := 1) (pc := 65) (c_X5_returnOf hG) cv_X5_158 (by first | assumption | exact ob rfl) hF hT (by omega) (by decide) (Nat.le_of_ble_eq_true rfl) dX5_assess_65 ?_
        refine ⟨i, j - 1, hi, (by omega), (by rw [sb1 (by omega)]), hF, ?_⟩
        dsimp only [psh]
        refine w_getR (b := 48 + 3 * (4 * i + (j - 1)) + 2) (pc := 68) fl_X5_168 hF (by first | assumption | exact ob rfl) rfl (by first | assumption | exact rf_x (by omega)) dX5_assess_68 ?_
        rw [← h6]
        exact w_lk (tail h9 h8) (lkc rfl (lkc rfl (lkc rfl (lkc rfl (lkc rfl lkn)))))
      · have h7 : j = 0 := by rw [show (0 : Int32) = nI 0 from rfl, nI_eq (by omega) (by omega)] at h50; exact h50
        have h6 : bA i j = 23 := if_pos h7
        refine w_aload_n (pc := 53) dX5_assess_53 rfl ?_
        refine w_getR (b := 23) (pc := 54) fl_X5_50 hF (by first | assumption | exact ob rfl) rfl rfl dX5_assess_54 ?_
        refine w_goto 71 (pc := 57) dX5_assess_57 (by decide) ?_
        rw [← h6]
        exact w_lk (tail h9 h8) (lkc rfl (lkc rfl (lkc rfl (lkc rfl (lkc rfl lkn)))))
    · have h8 : p = 24 := by rw [bi_1, ep2, show (24 : Int32) = nI 24 from rfl, decide_eq_true_eq, nI_leI (by omega) (by omega)] at h25; omega
      refine w_throw (pc := 28) (ik := 127) (is := 166) (ic := 131) (cls := "java/lang/IllegalStateException") (ix := 7) (text := "the form is a ring, or the account is full") (List.mem_of_getElem? (i := 2) rfl) (List.mem_of_getElem? (i := 11) rfl) hT (by omega) (by decide) (Nat.le_of_ble_eq_true rfl) dX5_assess_28 dX5_assess_31 dX5_assess_32 dX5_assess_34 dX5_assess_37 ?_
      exact hX2 (by first | exact Or.inl h9 | exact Or.inr h8)
