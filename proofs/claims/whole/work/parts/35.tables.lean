/-! TABLES OF RATES, DAYS THAT GO BY -/
def brkE (sz : Nat) (b : Nat → Int32) (v : Int64) (j : Nat) : Int64 := if j + 1 < sz then minL v (b (j + 1)).toInt64 else v
def brkS (sz : Nat) (b r : Nat → Int32) (v : Int64) : Nat → Int64
  | 0 => 0
  | j + 1 => if brkE sz b v j ≤ (b j).toInt64 then brkS sz b r v j else brkS sz b r v j + (r j).toInt64 * (brkE sz b v j - (b j).toInt64)
def T_makeOf : PT := fun as M Q X => ∃ (a sz : Nat) (v : Int64), as = [.ref a, .long v] ∧ Full M ∧ OB 3 a ∧ (rf a 0 = a + 1 ∧ rf a 1 = a + 2) ∧ (AR 1 4 (a + 1) ∧ AR 1 4 (a + 2)) ∧ sz ≤ 4 ∧ mI M a 2 = nI sz ∧ Q (some (.long (rndL (mI M a 3) (brkS sz (mI M (a + 1)) (mI M (a + 2)) v sz)))) M
theorem c_X3_makeOf {l : Launch} (hl : l.stackTraces = false) : Con l yX3_makeOf wX3_makeOf 0 5 (T_makeOf) := by
  refine con_of hl (by decide) ?_ ?_
  · intro as M Q X hpt
    obtain ⟨a, sz, v, rfl, hF, ho, ⟨hr0, hr1⟩, ⟨ha0, ha1⟩, hsz, esz, hQ⟩ := hpt
    exact Nat.le_of_ble_eq_true rfl
  intro G as M Q X hl' hT hd hpt
  obtain ⟨a, sz, v, rfl, hF, ho, ⟨hr0, hr1⟩, ⟨ha0, ha1⟩, hsz, esz, hQ⟩ := hpt
  have hG : (gl G).stackTraces = false := by rw [hl']; exact hl
  show PW G RX3 cX3_makeOf 8 (some .long) Q X 0 0 [(0, .ref a), (1, .long v)] [] M
  have loop : ∀ (n i : Nat) (acc : Int64), i + n = sz → acc = brkS sz (mI M (a + 1)) (mI M (a + 2)) v i → PW G RX3 cX3_makeOf 8 (some .long) Q X 0 5 [(0, .ref a), (1, .long v), (3, .long acc), (5, .int (nI i))] [] M := by
    intro n
    induction n with
    | zero =>
      intro i acc hi ea
      refine w_iload (pc := 5) dX3_makeOf_5 rfl ?_
      refine w_aload_n (pc := 7) dX3_makeOf_7 rfl ?_
      refine w_getI (pc := 8) fl_X3_16 hF (by first | assumption | exact ob rfl) rfl dX3_makeOf_8 ?_
      refine w_icmp_ge 88 (pc := 11) dX3_makeOf_11 (by decide) (fun h11 => ?_) (fun h11 => ?_)
      · refine w_aload_n (pc := 88) dX3_makeOf_88 rfl ?_
        refine w_lload_n (pc := 89) dX3_makeOf_89 rfl ?_
        refine w_callV1 (n' := 0) (pc := 90) (c_X3_rounded hG) cv_X3_30 (by first | assumption | exact ob rfl) hF hT (by omega) (by decide) (Nat.le_of_ble_eq_true rfl) dX3_makeOf_90 ?_
        refine ⟨_, _, rfl, hF, by assumption, ?_⟩
        dsimp only [psh]
        refine w_lreturn (pc := 93) dX3_makeOf_93 ?_
        rw [ea, show i = sz by omega]
        exact hQ
      · exact absurd (by rw [esz, nI_leI (by omega) (by omega)]; omega) h11
    | succ n ih =>
      intro i acc hi ea
      have tail : ∀ en : Int64, en = brkE sz (mI M (a + 1)) v i → PW G RX3 cX3_makeOf 8 (some .long) Q X 0 43 [(0, .ref a), (1, .long v), (3, .long acc), (5, .int (nI i))] [.long en] M := by
        intro en een
        subst een
        refine w_lstore 6 (pc := 43) dX3_makeOf_43 (by decide) ?_
        refine w_lload (pc := 45) dX3_makeOf_45 rfl ?_
        refine w_aload_n (pc := 47) dX3_makeOf_47 rfl ?_
        refine w_getR (b := a + 1) (pc := 48) fl_X3_9 hF (by first | assumption | exact ob rfl) rfl (by first | assumption | exact rf_x (by omega)) dX3_makeOf_48 ?_
        refine w_iload (pc := 51) dX3_makeOf_51 rfl ?_
        refine w_iald (m := 4) (pc := 53) hF (by first | assumption | exact ar rfl) (vin (by omega) (by decide)) dX3_makeOf_53 ?_
        refine w_i2l (pc := 54) dX3_makeOf_54 ?_
        refine w_lcmp_le 82 (pc := 55) dX3_makeOf_55 dX3_makeOf_56 (by decide) (fun h55 => ?_) (fun h55 => ?_)
        · rw [clN (by omega)] at h55
          refine w_iinc (v := nI (i + 1)) (pc := 82) dX3_makeOf_82 rfl (nI_1 i) (by decide) ?_
          refine w_goto 5 (pc := 85) dX3_makeOf_85 (by decide) ?_
          exact w_lk (ih (i + 1) _ (by omega) (by first | (rw [ea]; show _ = brkS _ _ _ _ (i + 1); rw [brkS, if_pos h55]) | (rw [ea, clN (by omega)]; show _ = brkS _ _ _ _ (i + 1); rw [brkS, if_neg h55]))) (lkc rfl (lkc rfl (lkc rfl (lkc rfl lkn))))
        · rw [clN (by omega)] at h55
          refine w_lload_n (pc := 59) dX3_makeOf_59 rfl ?_
          refine w_aload_n (pc := 60) dX3_makeOf_60 rfl ?_
          refine w_getR (b := a + 2) (pc := 61) fl_X3_13 hF (by first | assumption | exact ob rfl) rfl (by first | assumption | exact rf_x (by omega)) dX3_makeOf_61 ?_
          refine w_iload (pc := 64) dX3_makeOf_64 rfl ?_
          refine w_iald (m := 4) (pc := 66) hF (by first | assumption | exact ar rfl) (vin (by omega) (by decide)) dX3_makeOf_66 ?_
          refine w_i2l (pc := 67) dX3_makeOf_67 ?_
          refine w_lload (pc := 68) dX3_makeOf_68 rfl ?_
          refine w_aload_n (pc := 70) dX3_makeOf_70 rfl ?_
          refine w_getR (b := a + 1) (pc := 71) fl_X3_9 hF (by first | assumption | exact ob rfl) rfl (by first | assumption | exact rf_x (by omega)) dX3_makeOf_71 ?_
          refine w_iload (pc := 74) dX3_makeOf_74 rfl ?_
          refine w_iald (m := 4) (pc := 76) hF (by first | assumption | exact ar rfl) (vin (by omega) (by decide)) dX3_makeOf_76 ?_
          refine w_i2l (pc := 77) dX3_makeOf_77 ?_
          refine w_lsub (pc := 78) dX3_makeOf_78 ?_
          refine w_lmul (pc := 79) dX3_makeOf_79 ?_
          refine w_ladd (pc := 80) dX3_makeOf_80 ?_
          refine w_lstore_n 3 (pc := 81) rfl dX3_makeOf_81 (by decide) ?_
          refine w_iinc (v := nI (i + 1)) (pc := 82) dX3_makeOf_82 rfl (nI_1 i) (by decide) ?_
          refine w_goto 5 (pc := 85) dX3_makeOf_85 (by decide) ?_
          exact w_lk (ih (i + 1) _ (by omega) (by first | (rw [ea]; show _ = brkS _ _ _ _ (i + 1); rw [brkS, if_pos h55]) | (rw [ea, clN (by omega)]; show _ = brkS _ _ _ _ (i + 1); rw [brkS, if_neg h55]))) (lkc rfl (lkc rfl (lkc rfl (lkc rfl lkn))))
      refine w_iload (pc := 5) dX3_makeOf_5 rfl ?_
      refine w_aload_n (pc := 7) dX3_makeOf_7 rfl ?_
      refine w_getI (pc := 8) fl_X3_16 hF (by first | assumption | exact ob rfl) rfl dX3_makeOf_8 ?_
      refine w_icmp_ge 88 (pc := 11) dX3_makeOf_11 (by decide) (fun h11 => ?_) (fun h11 => ?_)
      · rw [esz, nI_leI (by omega) (by omega)] at h11
        omega
      · refine w_iload (pc := 14) dX3_makeOf_14 rfl ?_
        refine w_iconst (v := 1) (pc := 16) dX3_makeOf_16 rfl ?_
        refine w_iadd (pc := 17) dX3_makeOf_17 ?_
        refine w_aload_n (pc := 18) dX3_makeOf_18 rfl ?_
        refine w_getI (pc := 19) fl_X3_16 hF (by first | assumption | exact ob rfl) rfl dX3_makeOf_19 ?_
        refine w_icmp_ge 42 (pc := 22) dX3_makeOf_22 (by decide) (fun h22 => ?_) (fun h22 => ?_)
        · have h9 : ¬ i + 1 < sz := by rw [esz, nI_1, nI_leI (by omega) (by omega)] at h22; omega
          refine w_lload_n (pc := 42) dX3_makeOf_42 rfl ?_
          exact w_lk (tail _ (by unfold brkE; first | (rw [if_neg h9]; done) | (rw [if_pos h9, nI_1, clN (by omega)]; done))) (lkc rfl (lkc rfl (lkc rfl (lkc rfl lkn))))
        · have h9 : i + 1 < sz := by rw [esz, nI_1, nI_leI (by omega) (by omega)] at h22; omega
          refine w_lload_n (pc := 25) dX3_makeOf_25 rfl ?_
          refine w_aload_n (pc := 26) dX3_makeOf_26 rfl ?_
          refine w_getR (b := a + 1) (pc := 27) fl_X3_9 hF (by first | assumption | exact ob rfl) rfl (by first | assumption | exact rf_x (by omega)) dX3_makeOf_27 ?_
          refine w_iload (pc := 30) dX3_makeOf_30 rfl ?_
          refine w_iconst (v := 1) (pc := 32) dX3_makeOf_32 rfl ?_
          refine w_iadd (pc := 33) dX3_makeOf_33 ?_
          refine w_iald (m := 4) (pc := 34) hF (by first | assumption | exact ar rfl) (by rw [nI_1]; exact vin (by omega) (by decide)) dX3_makeOf_34 ?_
          refine w_i2l (pc := 35) dX3_makeOf_35 ?_
          refine w_callS2 (n' := 0) (pc := 36) (c_J9_min_f86c9 hG) cs_X3_24 hT (by omega) (by decide) (Nat.le_of_ble_eq_true rfl) dX3_makeOf_36 ?_
          refine ⟨_, _, rfl, ?_⟩
          dsimp only [psh]
          refine w_goto 43 (pc := 39) dX3_makeOf_39 (by decide) ?_
          exact w_lk (tail _ (by unfold brkE; first | (rw [if_neg h9]; done) | (rw [if_pos h9, nI_1, clN (by omega)]; done))) (lkc rfl (lkc rfl (lkc rfl (lkc rfl lkn))))
  refine w_lconst (v := 0) (pc := 0) dX3_makeOf_0 rfl ?_
  refine w_lstore_n 3 (pc := 1) rfl dX3_makeOf_1 (by decide) ?_
  refine w_iconst (v := 0) (pc := 2) dX3_makeOf_2 rfl ?_
  refine w_istore 5 (pc := 3) dX3_makeOf_3 (by decide) ?_
  exact w_lk (loop sz 0 0 (by omega) rfl) (lkc rfl (lkc rfl (lkc rfl (lkc rfl lkn))))
def brkEM (sz : Nat) (b : Nat → Int32) (v : Int64) (j : Nat) : Int64 := if j + 1 = sz then v else if (b (j + 1)).toInt64 ≤ v then (b (j + 1)).toInt64 else v
def brkSM (sz : Nat) (b r : Nat → Int32) (v : Int64) : Nat → Int64
  | 0 => 0
  | j + 1 => brkSM sz b r v j + (if brkEM sz b v j ≤ (b j).toInt64 then 0 else (r j).toInt64 * (brkEM sz b v j - (b j).toInt64))
def tabM (M : Mem) (i sz : Nat) (v : Int64) : Int64 := divV (brkSM sz (fun j => mI M 104 (4 * i + j)) (fun j => mI M 105 (4 * i + j)) v sz) 1000 (mI M 106 i)
def T_tabled : PT := fun as M Q X => ∃ (i sz : Nat) (v : Int64), as = [.ref 96, .int (nI i), .long v] ∧ Full M ∧ i < 3 ∧ sz ≤ 4 ∧ mI M 103 i = nI sz ∧ Q (some (.long (tabM M i sz v))) M
theorem c_X6_tabled {l : Launch} (hl : l.stackTraces = false) : Con l yX6_tabled wX6_tabled 0 2 (T_tabled) := by
  refine con_of hl (by decide) ?_ ?_
  · intro as M Q X hpt
    obtain ⟨i, sz, v, rfl, hF, hi, hsz, esz, hQ⟩ := hpt
    exact Nat.le_of_ble_eq_true rfl
  intro G as M Q X hl' hT hd hpt
  obtain ⟨i, sz, v, rfl, hF, hi, hsz, esz, hQ⟩ := hpt
  have hG : (gl G).stackTraces = false := by rw [hl']; exact hl
  show PW G RX6 cX6_tabled 10 (some .long) Q X 0 0 [(0, .ref 96), (1, .int (nI i)), (2, .long v)] [] M
  have ei := clN (i := i) (by omega)
  have esz2 : mI M 103 i = nI sz := esz
  have loop : ∀ (n j : Nat) (acc : Int64), j + n = sz → acc = brkSM sz (fun j => mI M 104 (4 * i + j)) (fun j => mI M 105 (4 * i + j)) v j → PW G RX6 cX6_tabled 10 (some .long) Q X 0 8 [(0, .ref 96), (1, .int (nI i)), (2, .long v), (4, .long acc), (6, .int (nI (4 * i + j)))] [] M := by
    intro n
    induction n with
    | zero =>
      intro j acc hj ea
      refine w_iload (pc := 8) dX6_tabled_8 rfl ?_
      refine w_iconst (v := 4) (pc := 10) dX6_tabled_10 rfl ?_
      refine w_iload_n (pc := 11) dX6_tabled_11 rfl ?_
      refine w_imul (pc := 12) dX6_tabled_12 ?_
      refine w_aload_n (pc := 13) dX6_tabled_13 rfl ?_
      refine w_getR (b := 103) (pc := 14) fl_X6_33 hF (by first | assumption | exact ob rfl) rfl rfl dX6_tabled_14 ?_
      refine w_iload_n (pc := 17) dX6_tabled_17 rfl ?_
      refine w_iald (m := 3) (pc := 18) hF (by first | assumption | exact ar rfl) (vin hi (by decide)) dX6_tabled_18 ?_
      refine w_iadd (pc := 19) dX6_tabled_19 ?_
      refine w_icmp_ge 132 (pc := 20) dX6_tabled_20 (by decide) (fun h20 => ?_) (fun h20 => ?_)
      · refine w_lload (pc := 132) dX6_tabled_132 rfl ?_
        refine w_ldc2 (pc := 134) kl_X6_171 dX6_tabled_134 ?_
        refine w_aload_n (pc := 137) dX6_tabled_137 rfl ?_
        refine w_getR (b := 106) (pc := 138) fl_X6_42 hF (by first | assumption | exact ob rfl) rfl rfl dX6_tabled_138 ?_
        refine w_iload_n (pc := 141) dX6_tabled_141 rfl ?_
        refine w_iald (m := 3) (pc := 142) hF (by first | assumption | exact ar rfl) (vin hi (by decide)) dX6_tabled_142 ?_
        refine w_callS3 (n' := 0) (pc := 143) (c_X6_divide hG) cs_X6_173 hT (by omega) (by decide) (Nat.le_of_ble_eq_true rfl) dX6_tabled_143 ?_
        refine ⟨_, _, _, rfl, by decide, ?_⟩
        dsimp only [psh]
        refine w_lreturn (pc := 146) dX6_tabled_146 ?_
        rw [ea, show j = sz by omega, ei]
        exact hQ
      · exact absurd (by rw [ei, esz2, c4, nI_add, nI_leI (by omega) (by omega)]; omega) h20
    | succ n ih =>
      intro j acc hj ea
      have tail2 : ∀ q : Int64, q = (if brkEM sz (fun j => mI M 104 (4 * i + j)) v j ≤ (mI M 104 (4 * i + j)).toInt64 then 0 else (mI M 105 (4 * i + j)).toInt64 * (brkEM sz (fun j => mI M 104 (4 * i + j)) v j - (mI M 104 (4 * i + j)).toInt64)) → PW G RX6 cX6_tabled 10 (some .long) Q X 0 123 [(0, .ref 96), (1, .int (nI i)), (2, .long v), (4, .long acc), (6, .int (nI (4 * i + j)))] [.long q, .long acc] M := by
        intro q eq
        refine w_ladd (pc := 123) dX6_tabled_123 ?_
        refine w_lstore 4 (pc := 124) dX6_tabled_124 (by decide) ?_
        refine w_iinc (v := nI (4 * i + (j + 1))) (pc := 126) dX6_tabled_126 rfl (nI_1 (4 * i + j)) (by decide) ?_
        refine w_goto 8 (pc := 129) dX6_tabled_129 (by decide) ?_
        exact w_lk (ih (j + 1) _ (by omega) (by rw [ea, eq]; rfl)) (lkc rfl (lkc rfl (lkc rfl (lkc rfl (lkc rfl lkn)))))
      have tail1 : ∀ en : Int64, en = brkEM sz (fun j => mI M 104 (4 * i + j)) v j → PW G RX6 cX6_tabled 10 (some .long) Q X 0 83 [(0, .ref 96), (1, .int (nI i)), (2, .long v), (4, .long acc), (6, .int (nI (4 * i + j))), (8, .long en)] [] M := by
        intro en een
        subst een
        refine w_lload (pc := 83) dX6_tabled_83 rfl ?_
        refine w_lload (pc := 85) dX6_tabled_85 rfl ?_
        refine w_aload_n (pc := 87) dX6_tabled_87 rfl ?_
        refine w_getR (b := 104) (pc := 88) fl_X6_36 hF (by first | assumption | exact ob rfl) rfl rfl dX6_tabled_88 ?_
        refine w_iload (pc := 91) dX6_tabled_91 rfl ?_
        refine w_iald (m := 12) (pc := 93) hF (by first | assumption | exact ar rfl) (vin (by omega) (by decide)) dX6_tabled_93 ?_
        refine w_i2l (pc := 94) dX6_tabled_94 ?_
        refine w_lcmp_le 122 (pc := 95) dX6_tabled_95 dX6_tabled_96 (by decide) (fun h95 => ?_) (fun h95 => ?_)
        · rw [clN (by omega)] at h95
          refine w_lconst (v := 0) (pc := 122) dX6_tabled_122 rfl ?_
          exact w_lk (tail2 _ (by first | (rw [if_pos h95]; done) | (rw [if_neg h95, clN (by omega)]; done))) (lkc rfl (lkc rfl (lkc rfl (lkc rfl (lkc rfl lkn)))))
        · rw [clN (by omega)] at h95
          refine w_aload_n (pc := 99) dX6_tabled_99 rfl ?_
          refine w_getR (b := 105) (pc := 100) fl_X6_39 hF (by first | assumption | exact ob rfl) rfl rfl dX6_tabled_100 ?_
          refine w_iload (pc := 103) dX6_tabled_103 rfl ?_
          refine w_iald (m := 12) (pc := 105) hF (by first | assumption | exact ar rfl) (vin (by omega) (by decide)) dX6_tabled_105 ?_
          refine w_i2l (pc := 106) dX6_tabled_106 ?_
          refine w_lload (pc := 107) dX6_tabled_107 rfl ?_
          refine w_aload_n (pc := 109) dX6_tabled_109 rfl ?_
          refine w_getR (b := 104) (pc := 110) fl_X6_36 hF (by first | assumption | exact ob rfl) rfl rfl dX6_tabled_110 ?_
          refine w_iload (pc := 113) dX6_tabled_113 rfl ?_
          refine w_iald (m := 12) (pc := 115) hF (by first | assumption | exact ar rfl) (vin (by omega) (by decide)) dX6_tabled_115 ?_
          refine w_i2l (pc := 116) dX6_tabled_116 ?_
          refine w_lsub (pc := 117) dX6_tabled_117 ?_
          refine w_lmul (pc := 118) dX6_tabled_118 ?_
          refine w_goto 123 (pc := 119) dX6_tabled_119 (by decide) ?_
          exact w_lk (tail2 _ (by first | (rw [if_pos h95]; done) | (rw [if_neg h95, clN (by omega)]; done))) (lkc rfl (lkc rfl (lkc rfl (lkc rfl (lkc rfl lkn)))))
      refine w_iload (pc := 8) dX6_tabled_8 rfl ?_
      refine w_iconst (v := 4) (pc := 10) dX6_tabled_10 rfl ?_
      refine w_iload_n (pc := 11) dX6_tabled_11 rfl ?_
      refine w_imul (pc := 12) dX6_tabled_12 ?_
      refine w_aload_n (pc := 13) dX6_tabled_13 rfl ?_
      refine w_getR (b := 103) (pc := 14) fl_X6_33 hF (by first | assumption | exact ob rfl) rfl rfl dX6_tabled_14 ?_
      refine w_iload_n (pc := 17) dX6_tabled_17 rfl ?_
      refine w_iald (m := 3) (pc := 18) hF (by first | assumption | exact ar rfl) (vin hi (by decide)) dX6_tabled_18 ?_
      refine w_iadd (pc := 19) dX6_tabled_19 ?_
      refine w_icmp_ge 132 (pc := 20) dX6_tabled_20 (by decide) (fun h20 => ?_) (fun h20 => ?_)
      · rw [ei, esz2, c4, nI_add, nI_leI (by omega) (by omega)] at h20
        omega
      · refine w_iload (pc := 23) dX6_tabled_23 rfl ?_
        refine w_iconst (v := 4) (pc := 25) dX6_tabled_25 rfl ?_
        refine w_iload_n (pc := 26) dX6_tabled_26 rfl ?_
        refine w_imul (pc := 27) dX6_tabled_27 ?_
        refine w_aload_n (pc := 28) dX6_tabled_28 rfl ?_
        refine w_getR (b := 103) (pc := 29) fl_X6_33 hF (by first | assumption | exact ob rfl) rfl rfl dX6_tabled_29 ?_
        refine w_iload_n (pc := 32) dX6_tabled_32 rfl ?_
        refine w_iald (m := 3) (pc := 33) hF (by first | assumption | exact ar rfl) (vin hi (by decide)) dX6_tabled_33 ?_
        refine w_iadd (pc := 34) dX6_tabled_34 ?_
        refine w_iconst (v := 1) (pc := 35) dX6_tabled_35 rfl ?_
        refine w_isub (pc := 36) dX6_tabled_36 ?_
        refine w_icmp_ne 44 (pc := 37) dX6_tabled_37 (by decide) (fun h37 => ?_) (fun h37 => ?_)
        · have h9 : ¬ j + 1 = sz := fun q => h37 (by rw [ei, esz2, c4, nI_add, sb1 (by omega)]; exact congrArg nI (by omega))
          refine w_iconst (v := 0) (pc := 44) dX6_tabled_44 rfl ?_
          refine w_istore 7 (pc := 45) dX6_tabled_45 (by decide) ?_
          refine w_iload (pc := 47) dX6_tabled_47 rfl ?_
          refine w_if_ne 67 (pc := 49) dX6_tabled_49 (by decide) (fun h49 => ?_) (fun h49 => ?_)
          · exact absurd rfl h49
          · refine w_lload_n (pc := 52) dX6_tabled_52 rfl ?_
            refine w_aload_n (pc := 53) dX6_tabled_53 rfl ?_
            refine w_getR (b := 104) (pc := 54) fl_X6_36 hF (by first | assumption | exact ob rfl) rfl rfl dX6_tabled_54 ?_
            refine w_iload (pc := 57) dX6_tabled_57 rfl ?_
            refine w_iconst (v := 1) (pc := 59) dX6_tabled_59 rfl ?_
            refine w_iadd (pc := 60) dX6_tabled_60 ?_
            refine w_iald (m := 12) (pc := 61) hF (by first | assumption | exact ar rfl) (by rw [nI_1]; exact vin (by omega) (by decide)) dX6_tabled_61 ?_
            refine w_i2l (pc := 62) dX6_tabled_62 ?_
            refine w_lcmp_ge 71 (pc := 63) dX6_tabled_63 dX6_tabled_64 (by decide) (fun h63 => ?_) (fun h63 => ?_)
            · rw [nI_1, clN (by omega)] at h63
              refine w_aload_n (pc := 71) dX6_tabled_71 rfl ?_
              refine w_getR (b := 104) (pc := 72) fl_X6_36 hF (by first | assumption | exact ob rfl) rfl rfl dX6_tabled_72 ?_
              refine w_iload (pc := 75) dX6_tabled_75 rfl ?_
              refine w_iconst (v := 1) (pc := 77) dX6_tabled_77 rfl ?_
              refine w_iadd (pc := 78) dX6_tabled_78 ?_
              refine w_iald (m := 12) (pc := 79) hF (by first | assumption | exact ar rfl) (by rw [nI_1]; exact vin (by omega) (by decide)) dX6_tabled_79 ?_
              refine w_i2l (pc := 80) dX6_tabled_80 ?_
              refine w_lstore 8 (pc := 81) dX6_tabled_81 (by decide) ?_
              exact w_lk (tail1 _ (by unfold brkEM; dsimp only; first | (rw [if_pos h9]; done) | (rw [if_neg h9, nI_1, clN (by omega)]; exact (if_pos h63).symm) | (rw [if_neg h9]; exact (if_neg h63).symm))) (lkc rfl (lkc rfl (lkc rfl (lkc rfl (lkc rfl (lkc rfl lkn))))))
            · rw [nI_1, clN (by omega)] at h63
              refine w_lload_n (pc := 67) dX6_tabled_67 rfl ?_
              refine w_goto 81 (pc := 68) dX6_tabled_68 (by decide) ?_
              refine w_lstore 8 (pc := 81) dX6_tabled_81 (by decide) ?_
              exact w_lk (tail1 _ (by unfold brkEM; dsimp only; first | (rw [if_pos h9]; done) | (rw [if_neg h9, nI_1, clN (by omega)]; exact (if_pos h63).symm) | (rw [if_neg h9]; exact (if_neg h63).symm))) (lkc rfl (lkc rfl (lkc rfl (lkc rfl (lkc rfl (lkc rfl lkn))))))
        · have h9 : j + 1 = sz := by rw [ei, esz2, c4, nI_add, sb1 (by omega), nI_eq (by omega) (by omega)] at h37; omega
          refine w_iconst (v := 1) (pc := 40) dX6_tabled_40 rfl ?_
          refine w_goto 45 (pc := 41) dX6_tabled_41 (by decide) ?_
          refine w_istore 7 (pc := 45) dX6_tabled_45 (by decide) ?_
          refine w_iload (pc := 47) dX6_tabled_47 rfl ?_
          refine w_if_ne 67 (pc := 49) dX6_tabled_49 (by decide) (fun h49 => ?_) (fun h49 => ?_)
          · refine w_lload_n (pc := 67) dX6_tabled_67 rfl ?_
            refine w_goto 81 (pc := 68) dX6_tabled_68 (by decide) ?_
            refine w_lstore 8 (pc := 81) dX6_tabled_81 (by decide) ?_
            exact w_lk (tail1 _ (by unfold brkEM; dsimp only; first | (rw [if_pos h9]; done) | (rw [if_neg h9, nI_1, clN (by omega)]; exact (if_pos h63).symm) | (rw [if_neg h9]; exact (if_neg h63).symm))) (lkc rfl (lkc rfl (lkc rfl (lkc rfl (lkc rfl (lkc rfl lkn))))))
          · exact absurd h49 (by decide)
  refine w_lconst (v := 0) (pc := 0) dX6_tabled_0 rfl ?_
  refine w_lstore 4 (pc := 1) dX6_tabled_1 (by decide) ?_
  refine w_iconst (v := 4) (pc := 3) dX6_tabled_3 rfl ?_
  refine w_iload_n (pc := 4) dX6_tabled_4 rfl ?_
  refine w_imul (pc := 5) dX6_tabled_5 ?_
  refine w_istore 6 (pc := 6) dX6_tabled_6 (by decide) ?_
  rw [c4]
  exact w_lk (loop sz 0 0 (by omega) rfl) (lkc rfl (lkc rfl (lkc rfl (lkc rfl (lkc rfl lkn)))))
def badC (M : Mem) (r : Int32) (t : Nat) : Prop := 24 ≤ mI M (84 + 4 * t) 3 ∧ ¬ intr (mJ M (84 + 4 * t) 4) r = 0
def pasC (r : Int32) : Nat → Nat → Mem → Nat → Mem × Nat
  | 0, _, M, c => (M, c)
  | n + 1, t, M, c => if intr (mJ M (84 + 4 * t) 4) r = 0 then pasC r n (t + 1) M c else pasC r n (t + 1) (posA M (84 + 4 * t) 2 (-1) (intr (mJ M (84 + 4 * t) 4) r)) (c + 1)
def T_pass : PT := fun as M Q X => ∃ x : Int32, as = [.ref 0, .int x] ∧ Full M ∧ (∀ t, t < 3 → ∃ p, p ≤ 24 ∧ mI M (84 + 4 * t) 3 = nI p) ∧ ((x < 1 ∨ 1000 < x) → X "java/lang/IllegalArgumentException" M) ∧ (¬ x < 1 → ¬ 1000 < x → ((∃ t, t < 3 ∧ badC M (mI M 0 10 * x) t) → X "java/lang/IllegalStateException" M) ∧ ((∀ t, t < 3 → ¬ badC M (mI M 0 10 * x) t) → Q (some (.int (nI (pasC (mI M 0 10 * x) 3 0 M 0).2))) (pasC (mI M 0 10 * x) 3 0 M 0).1))
theorem posA_far {M : Mem} {t u : Nat} (h : t < u) (kd yr : Int32) (v : Int64) : mI (posA M (84 + 4 * t) kd yr v) (84 + 4 * u) 3 = mI M (84 + 4 * u) 3 ∧ mJ (posA M (84 + 4 * t) kd yr v) (84 + 4 * u) 4 = mJ M (84 + 4 * u) 4 := by
  unfold posA
  constructor
  · simp (disch := omega) only [mI_n, mI_J]
  · simp (disch := omega) only [mJ_n, mJ_I]
theorem c_X5_pass {l : Launch} (hl : l.stackTraces = false) : Con l yX5_pass wX5_pass 1 10 (T_pass) := by
  refine con_of hl (by decide) ?_ ?_
  · intro as M Q X hpt
    obtain ⟨x, rfl, hF, hsz, hX1, hQ0⟩ := hpt
    exact Nat.le_of_ble_eq_true rfl
  intro G as M Q X hl' hT hd hpt
  obtain ⟨x, rfl, hF, hsz, hX1, hQ0⟩ := hpt
  have hG : (gl G).stackTraces = false := by rw [hl']; exact hl
  show PW G RX5 cX5_pass 10 (some .int) Q X 1 0 [(0, .ref 0), (1, .int x)] [] M
  have loop2 : (∀ t, t < 3 → ¬ badC M (mI M 0 10 * x) t) → ∀ (n t : Nat) (M2 : Mem) (c : Nat), t + n = 3 → Full M2 → (∀ u, t ≤ u → u < 3 → mI M2 (84 + 4 * u) 3 = mI M (84 + 4 * u) 3 ∧ mJ M2 (84 + 4 * u) 4 = mJ M (84 + 4 * u) 4) → Q (some (.int (nI (pasC (mI M 0 10 * x) n t M2 c).2))) (pasC (mI M 0 10 * x) n t M2 c).1 → PW G RX5 cX5_pass 10 (some .int) Q X 1 105 [(0, .ref 0), (2, .int (mI M 0 10 * x)), (3, .int (nI c)), (4, .ref 6), (5, .int 3), (6, .int (nI t))] [] M2 := by
    intro hnb n
    induction n with
    | zero =>
      intro t M2 c ht hF hsame hq
      refine w_iload (pc := 105) dX5_pass_105 rfl ?_
      refine w_iload (pc := 107) dX5_pass_107 rfl ?_
      refine w_icmp_ge 152 (pc := 109) dX5_pass_109 (by decide) (fun h109 => ?_) (fun h109 => ?_)
      · refine w_iload_n (pc := 152) dX5_pass_152 rfl ?_
        refine w_ireturn (pc := 153) dX5_pass_153 rfl ?_
        exact hq
      · exact absurd (by rw [show t = 3 by omega]; decide) h109
    | succ n ih =>
      intro t M2 c ht hF hsame hq
      have hoa := ob_acc (i := t) (by omega)
      have hr0 : rf (84 + 4 * t) 0 = 84 + 4 * t + 1 := rf_x (by omega)
      have hr1 : rf (84 + 4 * t) 1 = 84 + 4 * t + 2 := rf_x (by omega)
      have hr2 : rf (84 + 4 * t) 2 = 84 + 4 * t + 3 := rf_x (by omega)
      have ha0 := ar_accK (i := t) (by omega)
      have ha1 := ar_accY (i := t) (by omega)
      have ha2 := ar_accA (i := t) (by omega)
      have et := clN (i := t) (by omega)
      refine w_iload (pc := 105) dX5_pass_105 rfl ?_
      refine w_iload (pc := 107) dX5_pass_107 rfl ?_
      refine w_icmp_ge 152 (pc := 109) dX5_pass_109 (by decide) (fun h109 => ?_) (fun h109 => ?_)
      · exact absurd h109 (by rw [show (3 : Int32) = nI 3 from rfl, nI_leI (by omega) (by omega)]; omega)
      · refine w_aload (pc := 112) dX5_pass_112 rfl ?_
        refine w_iload (pc := 114) dX5_pass_114 rfl ?_
        refine w_aald (m := 3) (b := 84 + 4 * t) (pc := 116) (Or.inl rfl) hF (by first | assumption | exact ar rfl) (vin (by omega) (by decide)) (by rw [et]; rfl) dX5_pass_116 ?_
        refine w_astore 7 (pc := 117) dX5_pass_117 (by decide) ?_
        refine w_aload (pc := 119) dX5_pass_119 rfl ?_
        refine w_iload_n (pc := 121) dX5_pass_121 rfl ?_
        refine w_callV1 (n' := 1) (pc := 122) (c_X0_interestFor hG) cv_X5_209 (by first | assumption | exact ob rfl) hF hT (by omega) (by decide) (Nat.le_of_ble_eq_true rfl) dX5_pass_122 ?_
        refine ⟨_, _, rfl, hF, hoa, ?_⟩
        dsimp only [psh]
        refine w_lstore 8 (pc := 125) dX5_pass_125 (by decide) ?_
        refine w_lload (pc := 127) dX5_pass_127 rfl ?_
        refine w_lconst (v := 0) (pc := 129) dX5_pass_129 rfl ?_
        refine w_lcmp_eq 146 (pc := 130) dX5_pass_130 dX5_pass_131 (by decide) (fun h130 => ?_) (fun h130 => ?_)
        · refine w_iinc (v := nI (t + 1)) (pc := 146) dX5_pass_146 rfl (nI_1 t) (by decide) ?_
          refine w_goto 105 (pc := 149) dX5_pass_149 (by decide) ?_
          first | (rw [pasC, if_pos h130] at hq; exact w_lk (ih (t + 1) M2 c (by omega) hF (fun u h1 h2 => hsame u (by omega) h2) hq) (lkc rfl (lkc rfl (lkc rfl (lkc rfl (lkc rfl (lkc rfl lkn))))))) | (rw [pasC, if_neg h130] at hq; exact w_lk (ih (t + 1) _ (c + 1) (by omega) hF (fun u h1 h2 => by have hf := posA_far (M := M2) (t := t) (u := u) (by omega) 2 (-1) (intr (mJ M2 (84 + 4 * t) 4) (mI M 0 10 * x)); rw [hf.1, hf.2]; exact hsame u (by omega) h2) hq) (lkc rfl (lkc rfl (lkc rfl (lkc rfl (lkc rfl (lkc rfl lkn)))))))
        · refine w_aload (pc := 134) dX5_pass_134 rfl ?_
          refine w_iconst (v := 2) (pc := 136) dX5_pass_136 rfl ?_
          refine w_iconst (v := -1) (pc := 137) dX5_pass_137 rfl ?_
          refine w_lload (pc := 138) dX5_pass_138 rfl ?_
          refine w_callV3 (n' := 1) (pc := 140) (c_X0_post hG) cv_X5_184 (by first | assumption | exact ob rfl) hF hT (by omega) (by decide) (Nat.le_of_ble_eq_true rfl) dX5_pass_140 ?_
          refine ⟨_, _, _, _, rfl, hF, hoa, ⟨hr0, hr1, hr2⟩, ⟨ha0, ha1, ha2⟩, (by obtain ⟨p, hp, ep⟩ := hsz t (by omega); have hnb := hnb t (by omega); rw [(hsame t (Nat.le_refl t) (by omega)).1, ep]; exact vin (Nat.lt_of_not_le (fun q => hnb ⟨by rw [ep, show (24 : Int32) = nI 24 from rfl]; exact nI_le q (by omega), by rw [← (hsame t (Nat.le_refl t) (by omega)).2]; exact h130⟩)) (by decide)), ?_⟩
          dsimp only [psh]
          refine w_iinc (v := nI (c + 1)) (pc := 143) dX5_pass_143 rfl (nI_1 c) (by decide) ?_
          refine w_iinc (v := nI (t + 1)) (pc := 146) dX5_pass_146 rfl (nI_1 t) (by decide) ?_
          refine w_goto 105 (pc := 149) dX5_pass_149 (by decide) ?_
          first | (rw [pasC, if_pos h130] at hq; exact w_lk (ih (t + 1) M2 c (by omega) hF (fun u h1 h2 => hsame u (by omega) h2) hq) (lkc rfl (lkc rfl (lkc rfl (lkc rfl (lkc rfl (lkc rfl lkn))))))) | (rw [pasC, if_neg h130] at hq; exact w_lk (ih (t + 1) _ (c + 1) (by omega) hF (fun u h1 h2 => by have hf := posA_far (M := M2) (t := t) (u := u) (by omega) 2 (-1) (intr (mJ M2 (84 + 4 * t) 4) (mI M 0 10 * x)); rw [hf.1, hf.2]; exact hsame u (by omega) h2) hq) (lkc rfl (lkc rfl (lkc rfl (lkc rfl (lkc rfl (lkc rfl lkn)))))))
  have loop1 : ¬ x < 1 → ¬ 1000 < x → ∀ (n t : Nat), t + n = 3 → (∀ u, u < t → ¬ badC M (mI M 0 10 * x) u) → PW G RX5 cX5_pass 10 (some .int) Q X 1 41 [(0, .ref 0), (1, .int x), (2, .int (mI M 0 10 * x)), (3, .ref 6), (4, .int 3), (5, .int (nI t))] [] M := by
    intro h2 h9 n
    induction n with
    | zero =>
      intro t ht hall
      refine w_iload (pc := 41) dX5_pass_41 rfl ?_
      refine w_iload (pc := 43) dX5_pass_43 rfl ?_
      refine w_icmp_ge 89 (pc := 45) dX5_pass_45 (by decide) (fun h45 => ?_) (fun h45 => ?_)
      · refine w_iconst (v := 0) (pc := 89) dX5_pass_89 rfl ?_
        refine w_istore_n 3 (pc := 90) rfl dX5_pass_90 (by decide) ?_
        refine w_aload_n (pc := 91) dX5_pass_91 rfl ?_
        refine w_getR (b := 6) (pc := 92) fl_X5_32 hF (by first | assumption | exact ob rfl) rfl rfl dX5_pass_92 ?_
        refine w_astore 4 (pc := 95) dX5_pass_95 (by decide) ?_
        refine w_aload (pc := 97) dX5_pass_97 rfl ?_
        refine w_alen (t := 5) (m := 3) (v := 3) (pc := 99) hF (by first | assumption | exact ar rfl) (by decide) rfl dX5_pass_99 ?_
        refine w_istore 5 (pc := 100) dX5_pass_100 (by decide) ?_
        refine w_iconst (v := 0) (pc := 102) dX5_pass_102 rfl ?_
        refine w_istore 6 (pc := 103) dX5_pass_103 (by decide) ?_
        exact w_lk (loop2 (fun u hu => hall u (by omega)) 3 0 M 0 rfl hF (fun u _ _ => ⟨rfl, rfl⟩) ((hQ0 h2 h9).2 (fun u hu => hall u (by omega)))) (lkc rfl (lkc rfl (lkc rfl (lkc rfl (lkc rfl (lkc rfl lkn))))))
      · exact absurd (by rw [show t = 3 by omega]; decide) h45
    | succ n ih =>
      intro t ht hall
      have hoa := ob_acc (i := t) (by omega)
      have hr0 : rf (84 + 4 * t) 0 = 84 + 4 * t + 1 := rf_x (by omega)
      have hr1 : rf (84 + 4 * t) 1 = 84 + 4 * t + 2 := rf_x (by omega)
      have hr2 : rf (84 + 4 * t) 2 = 84 + 4 * t + 3 := rf_x (by omega)
      have ha0 := ar_accK (i := t) (by omega)
      have ha1 := ar_accY (i := t) (by omega)
      have ha2 := ar_accA (i := t) (by omega)
      have et := clN (i := t) (by omega)
      refine w_iload (pc := 41) dX5_pass_41 rfl ?_
      refine w_iload (pc := 43) dX5_pass_43 rfl ?_
      refine w_icmp_ge 89 (pc := 45) dX5_pass_45 (by decide) (fun h45 => ?_) (fun h45 => ?_)
      · exact absurd h45 (by rw [show (3 : Int32) = nI 3 from rfl, nI_leI (by omega) (by omega)]; omega)
      · refine w_aload_n (pc := 48) dX5_pass_48 rfl ?_
        refine w_iload (pc := 49) dX5_pass_49 rfl ?_
        refine w_aald (m := 3) (b := 84 + 4 * t) (pc := 51) (Or.inl rfl) hF (by first | assumption | exact ar rfl) (vin (by omega) (by decide)) (by rw [et]; rfl) dX5_pass_51 ?_
        refine w_astore 6 (pc := 52) dX5_pass_52 (by decide) ?_
        refine w_aload (pc := 54) dX5_pass_54 rfl ?_
        refine w_callV0 (n' := 1) (pc := 56) (c_X0_isFull hG) cv_X5_165 (by first | assumption | exact ob rfl) hF hT (by omega) (by decide) (Nat.le_of_ble_eq_true rfl) dX5_pass_56 ?_
        refine ⟨_, rfl, hF, hoa, ?_⟩
        dsimp only [psh]
        refine w_if_eq 83 (pc := 59) dX5_pass_59 (by decide) (fun h59 => ?_) (fun h59 => ?_)
        · rw [bi_0, decide_eq_false_iff_not] at h59
          refine w_iinc (v := nI (t + 1)) (pc := 83) dX5_pass_83 rfl (nI_1 t) (by decide) ?_
          refine w_goto 41 (pc := 86) dX5_pass_86 (by decide) ?_
          exact w_lk (ih (t + 1) (by omega) (fun u hu => by rcases Nat.lt_succ_iff_lt_or_eq.mp hu with q | q; exact hall u q; subst q; exact fun b => by first | exact h59 b.1 | exact b.2 h69)) (lkc rfl (lkc rfl (lkc rfl (lkc rfl (lkc rfl (lkc rfl lkn))))))
        · rw [bi_1, decide_eq_true_eq] at h59
          refine w_aload (pc := 62) dX5_pass_62 rfl ?_
          refine w_iload_n (pc := 64) dX5_pass_64 rfl ?_
          refine w_callV1 (n' := 1) (pc := 65) (c_X0_interestFor hG) cv_X5_209 (by first | assumption | exact ob rfl) hF hT (by omega) (by decide) (Nat.le_of_ble_eq_true rfl) dX5_pass_65 ?_
          refine ⟨_, _, rfl, hF, hoa, ?_⟩
          dsimp only [psh]
          refine w_lconst (v := 0) (pc := 68) dX5_pass_68 rfl ?_
          refine w_lcmp_eq 83 (pc := 69) dX5_pass_69 dX5_pass_70 (by decide) (fun h69 => ?_) (fun h69 => ?_)
          · refine w_iinc (v := nI (t + 1)) (pc := 83) dX5_pass_83 rfl (nI_1 t) (by decide) ?_
            refine w_goto 41 (pc := 86) dX5_pass_86 (by decide) ?_
            exact w_lk (ih (t + 1) (by omega) (fun u hu => by rcases Nat.lt_succ_iff_lt_or_eq.mp hu with q | q; exact hall u q; subst q; exact fun b => by first | exact h59 b.1 | exact b.2 h69)) (lkc rfl (lkc rfl (lkc rfl (lkc rfl (lkc rfl (lkc rfl lkn))))))
          · refine w_throw (pc := 73) (ik := 127) (is := 213) (ic := 131) (cls := "java/lang/IllegalStateException") (ix := 7) (text := "an account is full") (List.mem_of_getElem? (i := 2) rfl) (List.mem_of_getElem? (i := 18) rfl) hT (by omega) (by decide) (Nat.le_of_ble_eq_true rfl) dX5_pass_73 dX5_pass_76 dX5_pass_77 dX5_pass_79 dX5_pass_82 ?_
            exact (hQ0 h2 h9).1 ⟨t, by omega, h59, h69⟩
  refine w_iload_n (pc := 0) dX5_pass_0 rfl ?_
  refine w_iconst (v := 1) (pc := 1) dX5_pass_1 rfl ?_
  refine w_icmp_lt 12 (pc := 2) dX5_pass_2 (by decide) (fun h2 => ?_) (fun h2 => ?_)
  · refine w_throw (pc := 12) (ik := 89) (is := 207) (ic := 93) (cls := "java/lang/IllegalArgumentException") (ix := 7) (text := "no such number of days") (List.mem_of_getElem? (i := 1) rfl) (List.mem_of_getElem? (i := 17) rfl) hT (by omega) (by decide) (Nat.le_of_ble_eq_true rfl) dX5_pass_12 dX5_pass_15 dX5_pass_16 dX5_pass_18 dX5_pass_21 ?_
    exact hX1 (by first | exact Or.inl h2 | exact Or.inr (Int32.not_le.mp h9))
  · refine w_iload_n (pc := 5) dX5_pass_5 rfl ?_
    refine w_sipush (v := 1000) (pc := 6) dX5_pass_6 rfl ?_
    refine w_icmp_le 22 (pc := 9) dX5_pass_9 (by decide) (fun h9 => ?_) (fun h9 => ?_)
    · refine w_aload_n (pc := 22) dX5_pass_22 rfl ?_
      refine w_getI (pc := 23) fl_X5_57 hF (by first | assumption | exact ob rfl) rfl dX5_pass_23 ?_
      refine w_iload_n (pc := 26) dX5_pass_26 rfl ?_
      refine w_imul (pc := 27) dX5_pass_27 ?_
      refine w_istore_n 2 (pc := 28) rfl dX5_pass_28 (by decide) ?_
      refine w_aload_n (pc := 29) dX5_pass_29 rfl ?_
      refine w_getR (b := 6) (pc := 30) fl_X5_32 hF (by first | assumption | exact ob rfl) rfl rfl dX5_pass_30 ?_
      refine w_astore_n 3 (pc := 33) rfl dX5_pass_33 (by decide) ?_
      refine w_aload_n (pc := 34) dX5_pass_34 rfl ?_
      refine w_alen (t := 5) (m := 3) (v := 3) (pc := 35) hF (by first | assumption | exact ar rfl) (by decide) rfl dX5_pass_35 ?_
      refine w_istore 4 (pc := 36) dX5_pass_36 (by decide) ?_
      refine w_iconst (v := 0) (pc := 38) dX5_pass_38 rfl ?_
      refine w_istore 5 (pc := 39) dX5_pass_39 (by decide) ?_
      exact w_lk (loop1 h2 (Int32.not_lt.mpr h9) 3 0 rfl (fun u hu => absurd hu (by omega))) (lkc rfl (lkc rfl (lkc rfl (lkc rfl (lkc rfl (lkc rfl lkn))))))
    · refine w_throw (pc := 12) (ik := 89) (is := 207) (ic := 93) (cls := "java/lang/IllegalArgumentException") (ix := 7) (text := "no such number of days") (List.mem_of_getElem? (i := 1) rfl) (List.mem_of_getElem? (i := 17) rfl) hT (by omega) (by decide) (Nat.le_of_ble_eq_true rfl) dX5_pass_12 dX5_pass_15 dX5_pass_16 dX5_pass_18 dX5_pass_21 ?_
      exact hX1 (by first | exact Or.inl h2 | exact Or.inr (Int32.not_le.mp h9))
def chgM (M : Mem) (t : Nat) (x : Int32) : Int64 := intrM (sumV (fun k => mJ M 114 (24 * t + k)) (mI M 111 t).toNatClampNeg) ((mI M 96 17).toInt64 * x.toInt64)
def badM (M : Mem) (x : Int32) (t : Nat) : Prop := mI M 111 t = 24 ∧ ¬ chgM M t x = 0
def pasM (x : Int32) : Nat → Nat → Mem → Nat → Mem × Nat
  | 0, _, M, c => (M, c)
  | n + 1, t, M, c => if chgM M t x = 0 then pasM x n (t + 1) M c else pasM x n (t + 1) (mPost M t (mI M 111 t).toNatClampNeg 2 (-1) (chgM M t x)) (c + 1)
def T_mPass : PT := fun as M Q X => ∃ x : Int32, as = [.ref 96, .int x] ∧ Full M ∧ (∀ t, t < 3 → ∃ p, p ≤ 24 ∧ mI M 111 t = nI p) ∧ ((x < 1 ∨ 1000 < x) → Q (some (.int 0)) (thr M 1)) ∧ (¬ x < 1 → ¬ 1000 < x → ((∃ t, t < 3 ∧ badM M x t) → Q (some (.int 0)) (thr M 2)) ∧ ((∀ t, t < 3 → ¬ badM M x t) → Q (some (.int (nI (pasM x 3 0 (sI M 96 0 0) 0).2))) (pasM x 3 0 (sI M 96 0 0) 0).1))
theorem mPost_far {M : Mem} {t u p : Nat} (ht : t < u) (hp : p < 24) (kd yr : Int32) (v : Int64) (x : Int32) : mI (mPost M t p kd yr v) 111 u = mI M 111 u ∧ ((mI M 111 u).toNatClampNeg ≤ 24 → chgM (mPost M t p kd yr v) u x = chgM M u x) := by
  have e1 : mI (mPost M t p kd yr v) 111 u = mI M 111 u := by
    unfold mPost
    rw [mI_k (by omega)]
    rfl
  refine ⟨e1, fun hu => ?_⟩
  unfold chgM
  rw [e1]
  have e2 : ∀ n, n ≤ 24 → sumV (fun k => mJ (mPost M t p kd yr v) 114 (24 * u + k)) n = sumV (fun k => mJ M 114 (24 * u + k)) n := by
    intro n
    induction n with
    | zero => intro _; rfl
    | succ n ih =>
      intro hn
      rw [sumV, sumV, ih (by omega)]
      have : mJ (mPost M t p kd yr v) 114 (24 * u + n) = mJ M 114 (24 * u + n) := by
        unfold mPost
        rw [mJ_I, mJ_k (by omega)]
        rfl
      rw [this]
  rw [e2 _ hu]
  rfl
theorem c_X6_pass {l : Launch} (hl : l.stackTraces = false) : Con l yX6_pass wX6_pass 0 4 (T_mPass) := by
  refine con_of hl (by decide) ?_ ?_
  · intro as M Q X hpt
    obtain ⟨x, rfl, hF, hsz, hX1, hQ0⟩ := hpt
    exact Nat.le_of_ble_eq_true rfl
  intro G as M Q X hl' hT hd hpt
  obtain ⟨x, rfl, hF, hsz, hX1, hQ0⟩ := hpt
  have hG : (gl G).stackTraces = false := by rw [hl']; exact hl
  show PW G RX6 cX6_pass 6 (some .int) Q X 0 0 [(0, .ref 96), (1, .int x)] [] M
  have loop2 : (∀ t, t < 3 → ¬ badM M x t) → ∀ (n t : Nat) (M2 : Mem) (c : Nat), t + n = 3 → Full M2 → (∀ u, t ≤ u → u < 3 → mI M2 111 u = mI M 111 u ∧ chgM M2 u x = chgM M u x) → Q (some (.int (nI (pasM x n t M2 c).2))) (pasM x n t M2 c).1 → PW G RX6 cX6_pass 6 (some .int) Q X 0 68 [(0, .ref 96), (1, .int x), (2, .int (nI c)), (3, .int (nI t))] [] M2 := by
    intro hnb n
    induction n with
    | zero =>
      intro t M2 c ht hF hsame hq
      refine w_iload_n (pc := 68) dX6_pass_68 rfl ?_
      refine w_iconst (v := 3) (pc := 69) dX6_pass_69 rfl ?_
      refine w_icmp_ge 106 (pc := 70) dX6_pass_70 (by decide) (fun h70 => ?_) (fun h70 => ?_)
      · refine w_iload_n (pc := 106) dX6_pass_106 rfl ?_
        refine w_ireturn (pc := 107) dX6_pass_107 rfl ?_
        exact hq
      · exact absurd (by rw [show t = 3 by omega]; decide) h70
    | succ n ih =>
      intro t M2 c ht hF hsame hq
      obtain ⟨p, hp, ep0⟩ := hsz t (by omega)
      have ep : mI M2 111 t = nI p := by rw [(hsame t (Nat.le_refl t) (by omega)).1]; exact ep0
      have hlt : ¬ chgM M2 t x = 0 → (mI M2 111 t).toNatClampNeg < 24 := fun h => by rw [ep, clN (by omega)]; exact Nat.lt_of_le_of_ne hp (fun q => hnb t (by omega) ⟨by rw [ep0, q]; rfl, by rw [← (hsame t (Nat.le_refl t) (by omega)).2]; exact h⟩)
      refine w_iload_n (pc := 68) dX6_pass_68 rfl ?_
      refine w_iconst (v := 3) (pc := 69) dX6_pass_69 rfl ?_
      refine w_icmp_ge 106 (pc := 70) dX6_pass_70 (by decide) (fun h70 => ?_) (fun h70 => ?_)
      · exact absurd h70 (by rw [show (3 : Int32) = nI 3 from rfl, nI_leI (by omega) (by omega)]; omega)
      · refine w_aload_n (pc := 73) dX6_pass_73 rfl ?_
        refine w_iload_n (pc := 74) dX6_pass_74 rfl ?_
        refine w_iload_n (pc := 75) dX6_pass_75 rfl ?_
        refine w_callV2 (n' := 0) (pc := 76) (c_X6_charge hG) cv_X6_226 (by first | assumption | exact ob rfl) hF hT (by omega) (by decide) (Nat.le_of_ble_eq_true rfl) dX6_pass_76 ?_
        refine ⟨t, (mI M2 111 t).toNatClampNeg, _, rfl, hF, by omega, (by rw [ep, clN (by omega)]; exact hp), (by rw [ep, clN (by omega)]), ?_⟩
        dsimp only [psh]
        refine w_lstore 4 (pc := 79) dX6_pass_79 (by decide) ?_
        refine w_lload (pc := 81) dX6_pass_81 rfl ?_
        refine w_lconst (v := 0) (pc := 83) dX6_pass_83 rfl ?_
        refine w_lcmp_eq 100 (pc := 84) dX6_pass_84 dX6_pass_85 (by decide) (fun h84 => ?_) (fun h84 => ?_)
        · refine w_iinc (v := nI (t + 1)) (pc := 100) dX6_pass_100 rfl (nI_1 t) (by decide) ?_
          refine w_goto 68 (pc := 103) dX6_pass_103 (by decide) ?_
          first | (have h9 : chgM M2 t x = 0 := h84; rw [pasM, if_pos h9] at hq; exact w_lk (ih (t + 1) M2 c (by omega) hF (fun u h1 h2 => hsame u (by omega) h2) hq) (lkc rfl (lkc rfl (lkc rfl (lkc rfl lkn))))) | (have h9 : ¬ chgM M2 t x = 0 := h84; rw [pasM, if_neg h9] at hq; exact w_lk (ih (t + 1) _ (c + 1) (by omega) hF (fun u h1 h2 => by have hf := mPost_far (M := M2) (t := t) (u := u) (by omega) (hlt h84) 2 (-1) (chgM M2 t x) x; have hu := hsame u (by omega) h2; obtain ⟨p9, hp9, ep9⟩ := hsz u h2; show mI (mPost M2 t (mI M2 111 t).toNatClampNeg 2 (-1) (chgM M2 t x)) 111 u = _ ∧ chgM (mPost M2 t (mI M2 111 t).toNatClampNeg 2 (-1) (chgM M2 t x)) u x = _; rw [hf.1, hf.2 (by rw [hu.1, ep9, clN (by omega)]; exact hp9)]; exact hu) hq) (lkc rfl (lkc rfl (lkc rfl (lkc rfl lkn)))))
        · refine w_aload_n (pc := 88) dX6_pass_88 rfl ?_
          refine w_iload_n (pc := 89) dX6_pass_89 rfl ?_
          refine w_iconst (v := 2) (pc := 90) dX6_pass_90 rfl ?_
          refine w_iconst (v := -1) (pc := 91) dX6_pass_91 rfl ?_
          refine w_lload (pc := 92) dX6_pass_92 rfl ?_
          refine w_callV4 (n' := 0) (pc := 94) (c_X6_post hG) cv_X6_208 (by first | assumption | exact ob rfl) hF hT (by omega) (by decide) (Nat.le_of_ble_eq_true rfl) dX6_pass_94 ?_
          refine ⟨t, (mI M2 111 t).toNatClampNeg, _, _, _, rfl, hF, by omega, hlt h84, (by rw [ep, clN (by omega)]), ?_⟩
          dsimp only [psh]
          refine w_iinc (v := nI (c + 1)) (pc := 97) dX6_pass_97 rfl (nI_1 c) (by decide) ?_
          refine w_iinc (v := nI (t + 1)) (pc := 100) dX6_pass_100 rfl (nI_1 t) (by decide) ?_
          refine w_goto 68 (pc := 103) dX6_pass_103 (by decide) ?_
          first | (have h9 : chgM M2 t x = 0 := h84; rw [pasM, if_pos h9] at hq; exact w_lk (ih (t + 1) M2 c (by omega) hF (fun u h1 h2 => hsame u (by omega) h2) hq) (lkc rfl (lkc rfl (lkc rfl (lkc rfl lkn))))) | (have h9 : ¬ chgM M2 t x = 0 := h84; rw [pasM, if_neg h9] at hq; exact w_lk (ih (t + 1) _ (c + 1) (by omega) hF (fun u h1 h2 => by have hf := mPost_far (M := M2) (t := t) (u := u) (by omega) (hlt h84) 2 (-1) (chgM M2 t x) x; have hu := hsame u (by omega) h2; obtain ⟨p9, hp9, ep9⟩ := hsz u h2; show mI (mPost M2 t (mI M2 111 t).toNatClampNeg 2 (-1) (chgM M2 t x)) 111 u = _ ∧ chgM (mPost M2 t (mI M2 111 t).toNatClampNeg 2 (-1) (chgM M2 t x)) u x = _; rw [hf.1, hf.2 (by rw [hu.1, ep9, clN (by omega)]; exact hp9)]; exact hu) hq) (lkc rfl (lkc rfl (lkc rfl (lkc rfl lkn)))))
  have loop1 : ¬ x < 1 → ¬ 1000 < x → ∀ (n t : Nat), t + n = 3 → (∀ u, u < t → ¬ badM M x u) → PW G RX6 cX6_pass 6 (some .int) Q X 0 25 [(0, .ref 96), (1, .int x), (2, .int (nI t))] [] (sI M 96 0 0) := by
    intro h2 h9 n
    induction n with
    | zero =>
      intro t ht hall
      refine w_iload_n (pc := 25) dX6_pass_25 rfl ?_
      refine w_iconst (v := 3) (pc := 26) dX6_pass_26 rfl ?_
      refine w_icmp_ge 64 (pc := 27) dX6_pass_27 (by decide) (fun h27 => ?_) (fun h27 => ?_)
      · refine w_iconst (v := 0) (pc := 64) dX6_pass_64 rfl ?_
        refine w_istore_n 2 (pc := 65) rfl dX6_pass_65 (by decide) ?_
        refine w_iconst (v := 0) (pc := 66) dX6_pass_66 rfl ?_
        refine w_istore_n 3 (pc := 67) rfl dX6_pass_67 (by decide) ?_
        exact w_lk (loop2 (fun u hu => hall u (by omega)) 3 0 (sI M 96 0 0) 0 rfl hF (fun u _ _ => ⟨rfl, rfl⟩) ((hQ0 h2 h9).2 (fun u hu => hall u (by omega)))) (lkc rfl (lkc rfl (lkc rfl (lkc rfl lkn))))
      · exact absurd (by rw [show t = 3 by omega]; decide) h27
    | succ n ih =>
      intro t ht hall
      obtain ⟨p, hp, ep⟩ := hsz t (by omega)
      refine w_iload_n (pc := 25) dX6_pass_25 rfl ?_
      refine w_iconst (v := 3) (pc := 26) dX6_pass_26 rfl ?_
      refine w_icmp_ge 64 (pc := 27) dX6_pass_27 (by decide) (fun h27 => ?_) (fun h27 => ?_)
      · exact absurd h27 (by rw [show (3 : Int32) = nI 3 from rfl, nI_leI (by omega) (by omega)]; omega)
      · refine w_aload_n (pc := 30) dX6_pass_30 rfl ?_
        refine w_iload_n (pc := 31) dX6_pass_31 rfl ?_
        refine w_iload_n (pc := 32) dX6_pass_32 rfl ?_
        refine w_callV2 (n' := 0) (pc := 33) (c_X6_charge hG) cv_X6_226 (by first | assumption | exact ob rfl) hF hT (by omega) (by decide) (Nat.le_of_ble_eq_true rfl) dX6_pass_33 ?_
        refine ⟨t, (mI M 111 t).toNatClampNeg, _, rfl, hF, by omega, (by rw [ep, clN (by omega)]; exact hp), (by show mI M 111 t = _; rw [ep, clN (by omega)]), ?_⟩
        dsimp only [psh]
        refine w_lconst (v := 0) (pc := 36) dX6_pass_36 rfl ?_
        refine w_lcmp_eq 58 (pc := 37) dX6_pass_37 dX6_pass_38 (by decide) (fun h37 => ?_) (fun h37 => ?_)
        · refine w_iinc (v := nI (t + 1)) (pc := 58) dX6_pass_58 rfl (nI_1 t) (by decide) ?_
          refine w_goto 25 (pc := 61) dX6_pass_61 (by decide) ?_
          exact w_lk (ih (t + 1) (by omega) (fun u hu => by rcases Nat.lt_succ_iff_lt_or_eq.mp hu with q | q; exact hall u q; subst q; exact fun b => by first | exact b.2 h37 | exact h49 b.1)) (lkc rfl (lkc rfl (lkc rfl lkn)))
        · refine w_aload_n (pc := 41) dX6_pass_41 rfl ?_
          refine w_getR (b := 111) (pc := 42) fl_X6_58 hF (by first | assumption | exact ob rfl) rfl rfl dX6_pass_42 ?_
          refine w_iload_n (pc := 45) dX6_pass_45 rfl ?_
          refine w_iald (m := 3) (pc := 46) hF (by first | assumption | exact ar rfl) (vin (by omega) (by decide)) dX6_pass_46 ?_
          refine w_bipush (v := 24) (pc := 47) dX6_pass_47 rfl ?_
          refine w_icmp_ne 58 (pc := 49) dX6_pass_49 (by decide) (fun h49 => ?_) (fun h49 => ?_)
          · rw [clN (by omega)] at h49
            refine w_iinc (v := nI (t + 1)) (pc := 58) dX6_pass_58 rfl (nI_1 t) (by decide) ?_
            refine w_goto 25 (pc := 61) dX6_pass_61 (by decide) ?_
            exact w_lk (ih (t + 1) (by omega) (fun u hu => by rcases Nat.lt_succ_iff_lt_or_eq.mp hu with q | q; exact hall u q; subst q; exact fun b => by first | exact b.2 h37 | exact h49 b.1)) (lkc rfl (lkc rfl (lkc rfl lkn)))
          · rw [clN (by omega)] at h49
            refine w_aload_n (pc := 52) dX6_pass_52 rfl ?_
            refine w_iconst (v := 2) (pc := 53) dX6_pass_53 rfl ?_
            refine w_callV1 (n' := 0) (pc := 54) (c_X6_refuse hG) cv_X6_163 (by first | assumption | exact ob rfl) hF hT (by omega) (by decide) (Nat.le_of_ble_eq_true rfl) dX6_pass_54 ?_
            refine ⟨_, rfl, hF, ?_⟩
            dsimp only [psh]
            refine w_ireturn (pc := 57) dX6_pass_57 rfl ?_
            exact (hQ0 h2 h9).1 ⟨t, by omega, h49, h37⟩
  refine w_aload_n (pc := 0) dX6_pass_0 rfl ?_
  refine w_iconst (v := 0) (pc := 1) dX6_pass_1 rfl ?_
  refine w_putI (pc := 2) fp_X6_91 hF (by first | assumption | exact ob rfl) rfl dX6_pass_2 ?_
  refine w_iload_n (pc := 5) dX6_pass_5 rfl ?_
  refine w_i2l (pc := 6) dX6_pass_6 ?_
  refine w_lconst (v := 1) (pc := 7) dX6_pass_7 rfl ?_
  refine w_ldc2 (pc := 8) kl_X6_171 dX6_pass_8 ?_
  refine w_callS3 (n' := 0) (pc := 11) (c_X6_in hG) cs_X6_137 hT (by omega) (by decide) (Nat.le_of_ble_eq_true rfl) dX6_pass_11 ?_
  refine ⟨_, _, _, rfl, ?_⟩
  dsimp only [psh]
  refine w_if_ne 23 (pc := 14) dX6_pass_14 (by decide) (fun h14 => ?_) (fun h14 => ?_)
  · have hv := in_t (lo := 1) (hi := 1000) rfl rfl h14
    refine w_iconst (v := 0) (pc := 23) dX6_pass_23 rfl ?_
    refine w_istore_n 2 (pc := 24) rfl dX6_pass_24 (by decide) ?_
    exact w_lk (loop1 hv.1 hv.2 3 0 rfl (fun u hu => absurd hu (by omega))) (lkc rfl (lkc rfl (lkc rfl lkn)))
  · have hv := in_f (lo := 1) (hi := 1000) rfl rfl h14
    refine w_aload_n (pc := 17) dX6_pass_17 rfl ?_
    refine w_iconst (v := 1) (pc := 18) dX6_pass_18 rfl ?_
    refine w_callV1 (n' := 0) (pc := 19) (c_X6_refuse hG) cv_X6_163 (by first | assumption | exact ob rfl) hF hT (by omega) (by decide) (Nat.le_of_ble_eq_true rfl) dX6_pass_19 ?_
    refine ⟨_, rfl, hF, ?_⟩
    dsimp only [psh]
    refine w_ireturn (pc := 22) dX6_pass_22 rfl ?_
    exact hX1 hv
