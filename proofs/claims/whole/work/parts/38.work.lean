/-! THE CALCULATOR AT WORK -/
def c7 (M : Mem) (f : Nat → Int32) (F : Nat → Nat) : Mem := (va_up M.1 7 f, M.2.1, M.2.2.1, F, M.2.2.2.2)
def s0 : St := (0, false, 0, false)
def bgN (M : Mem) (x v b : Nat) : Mem := sF (sF (sF M 2 x) 5 v) 6 b
theorem va_upup {α : Type} (f : Nat → α) (k : Nat) (v w : α) : va_up (va_up f k v) k w = va_up f k w := by
  funext j
  unfold va_up
  split <;> rfl
theorem bg_eq {M : Mem} {x v b : Nat} : sI (sI (sF (sF (sI (sI (sF M 2 x) 7 3 0) 7 4 0) 5 v) 6 b) 7 7 0) 7 8 0 = calS (bgN M x v b) s0 := by
  have e : up2 (up2 (up2 (up2 M.1 7 3 0) 7 4 0) 7 7 0) 7 8 0 = va_up M.1 7 (calF (M.1 7) s0) := by
    funext a j
    unfold up2 va_up calF s0
    by_cases ha : a = 7
    · subst ha
      by_cases h8 : j = 8
      · subst h8; rfl
      by_cases h7 : j = 7
      · subst h7; rfl
      by_cases h4 : j = 4
      · subst h4; rfl
      by_cases h3 : j = 3
      · subst h3; rfl
      simp [h8, h7, h4, h3]
    · simp [ha]
  show (up2 (up2 (up2 (up2 M.1 7 3 0) 7 4 0) 7 7 0) 7 8 0, (bgN M x v b).2) = (va_up M.1 7 (calF (M.1 7) s0), (bgN M x v b).2)
  rw [e]
def TabOk (M : Mem) : Prop := ∀ t, t < 3 → ∃ sz, sz ≤ 4 ∧ mI M (12 + 3 * t) 2 = nI sz
def tabC (M : Mem) (t : Nat) (v : Int64) : Int64 := rndL (mI M (12 + 3 * t) 3) (brkS (mI M (12 + 3 * t) 2).toNatClampNeg (mI M (12 + 3 * t + 1)) (mI M (12 + 3 * t + 2)) v (mI M (12 + 3 * t) 2).toNatClampNeg)
def TxtOk (M : Mem) (x len : Nat) : Prop := (OB 4 x ∧ rf x 0 = x + 1 ∧ AR 0 40 (x + 1)) ∧ (x ≠ 7 ∧ x + 1 ≠ 7) ∧ mI M x 1 = nI len ∧ len ≤ 40 ∧ ∀ i, i < len → narrow .char (.int (mI M (x + 1) i)) = .int (mI M (x + 1) i) ∧ fits .char (.int (mI M (x + 1) i)) = true
def CEof (M : Mem) (x len v b : Nat) : CE := (mI M (x + 1), len, mJ M v, mJ M b, tabC M)
theorem cal_ok {M : Mem} {x len v b : Nat} (hF : Full M) (ht : TabOk M) (hx : TxtOk M x len) (hv : AR 2 12 v) (hb : AR 2 12 b) : CalOk (CEof M x len v b) (bgN M x v b) := by
  have e2 : mF (bgN M x v b) 2 = x := by unfold bgN; rw [mF_n (by decide), mF_n (by decide), mF_s]
  have e5 : mF (bgN M x v b) 5 = v := by unfold bgN; rw [mF_n (by decide), mF_s]
  have e6 : mF (bgN M x v b) 6 = b := by unfold bgN; rw [mF_s]
  obtain ⟨⟨h1, h2, h3⟩, ⟨h4, h5⟩, h6, h7, h8⟩ := hx
  refine ⟨hF, ?_, ?_, ?_, ?_, ?_⟩
  · rw [e2]; exact ⟨h1, h2, h3, h4, h5⟩
  · rw [e2]; exact ⟨rfl, h6, h7, fun i hi => (h8 i hi).1⟩
  · rw [e5]; exact ⟨hv, rfl⟩
  · rw [e6]; exact ⟨hb, rfl⟩
  · intro t h
    obtain ⟨sz, hs, es⟩ := ht t h
    refine ⟨sz, hs, es, fun w => ?_⟩
    show tabC M t w = _
    unfold tabC
    rw [es, clN (by omega)]
    rfl
def T_begin : PT := fun as M Q X => ∃ x v b : Nat, as = [.ref 7, .ref x, .ref v, .ref b] ∧ Full M ∧ Q none (calS (bgN M x v b) s0)
theorem c_X1_begin {l : Launch} (hl : l.stackTraces = false) : Con l yX1_begin wX1_begin 0 1 (T_begin) := by
  refine con_of hl (by decide) ?_ ?_
  · intro as M Q X hpt
    obtain ⟨x, v, b, rfl, hF, hQ⟩ := hpt
    exact Nat.le_of_ble_eq_true rfl
  intro G as M Q X hl' hT hd hpt
  obtain ⟨x, v, b, rfl, hF, hQ⟩ := hpt
  have hG : (gl G).stackTraces = false := by rw [hl']; exact hl
  show PW G RX1 cX1_begin 4 none Q X 0 0 [(0, .ref 7), (1, .ref x), (2, .ref v), (3, .ref b)] [] M
  refine w_aload_n (pc := 0) dX1_begin_0 rfl ?_
  refine w_aload_n (pc := 1) dX1_begin_1 rfl ?_
  refine w_putF (pc := 2) fp_X1_24 hF rfl rfl rfl dX1_begin_2 ?_
  refine w_aload_n (pc := 5) dX1_begin_5 rfl ?_
  refine w_iconst (v := 0) (pc := 6) dX1_begin_6 rfl ?_
  refine w_putI (pc := 7) fp_X1_28 hF (by first | assumption | exact ob rfl) rfl dX1_begin_7 ?_
  refine w_aload_n (pc := 10) dX1_begin_10 rfl ?_
  refine w_iconst (v := 0) (pc := 11) dX1_begin_11 rfl ?_
  refine w_putZ (pc := 12) fp_X1_32 hF (by first | assumption | exact ob rfl) rfl (by first | exact Or.inl rfl | exact Or.inr rfl | assumption) dX1_begin_12 ?_
  refine w_aload_n (pc := 15) dX1_begin_15 rfl ?_
  refine w_aload_n (pc := 16) dX1_begin_16 rfl ?_
  refine w_putF (pc := 17) fp_X1_36 hF rfl rfl rfl dX1_begin_17 ?_
  refine w_aload_n (pc := 20) dX1_begin_20 rfl ?_
  refine w_aload_n (pc := 21) dX1_begin_21 rfl ?_
  refine w_putF (pc := 22) fp_X1_39 hF rfl rfl rfl dX1_begin_22 ?_
  refine w_aload_n (pc := 25) dX1_begin_25 rfl ?_
  refine w_iconst (v := 0) (pc := 26) dX1_begin_26 rfl ?_
  refine w_putI (pc := 27) fp_X1_42 hF (by first | assumption | exact ob rfl) rfl dX1_begin_27 ?_
  refine w_aload_n (pc := 30) dX1_begin_30 rfl ?_
  refine w_iconst (v := 0) (pc := 31) dX1_begin_31 rfl ?_
  refine w_putZ (pc := 32) fp_X1_45 hF (by first | assumption | exact ob rfl) rfl (by first | exact Or.inl rfl | exact Or.inr rfl | assumption) dX1_begin_32 ?_
  refine w_return (pc := 35) dX1_begin_35 ?_
  rw [bg_eq]
  exact hQ
def rdT (M : Mem) (x len : Nat) : Int64 × St := rForm (CEof M x len 9 9) 41 0 false s0
def fOk (M : Mem) (x len : Nat) : Bool := !(rdT M x len).2.2.1 && decide ((rdT M x len).2.1 = len)
def T_isFormula : PT := fun as M Q X => ∃ x len : Nat, as = [.ref 7, .ref x] ∧ Full M ∧ TabOk M ∧ TxtOk M x len ∧ Q (some (.int (bi (fOk M x len)))) (calS (bgN M x 9 9) (rdT M x len).2)
def T_work : PT := fun as M Q X => ∃ x len v b : Nat, as = [.ref 7, .ref x, .ref v, .ref b] ∧ Full M ∧ TabOk M ∧ TxtOk M x len ∧ AR 2 12 v ∧ AR 2 12 b ∧ Q (some (.long (rForm (CEof M x len v b) 41 0 true s0).1)) (calS (bgN M x v b) (rForm (CEof M x len v b) 41 0 true s0).2)
theorem c_X1_isFormula {l : Launch} (hl : l.stackTraces = false) : Con l yX1_isFormula wX1_isFormula 0 251 (T_isFormula) := by
  refine con_of hl (by decide) ?_ ?_
  · intro as M Q X hpt
    obtain ⟨x, len, rfl, hF, ht, hx, hQ⟩ := hpt
    exact Nat.le_of_ble_eq_true rfl
  intro G as M Q X hl' hT hd hpt
  obtain ⟨x, len, rfl, hF, ht, hx, hQ⟩ := hpt
  have hG : (gl G).stackTraces = false := by rw [hl']; exact hl
  show PW G RX1 cX1_isFormula 2 (some .boolean) Q X 0 0 [(0, .ref 7), (1, .ref x)] [] M
  have hox := hx.1.1
  have hx7 := hx.2.1.1
  have el := hx.2.2.1
  have h40 := hx.2.2.2.1
  refine w_aload_n (pc := 0) dX1_isFormula_0 rfl ?_
  refine w_aload_n (pc := 1) dX1_isFormula_1 rfl ?_
  refine w_aload_n (pc := 2) dX1_isFormula_2 rfl ?_
  refine w_getR (b := 9) (pc := 3) fl_X1_17 hF (by first | assumption | exact ob rfl) rfl rfl dX1_isFormula_3 ?_
  refine w_aload_n (pc := 6) dX1_isFormula_6 rfl ?_
  refine w_getR (b := 9) (pc := 7) fl_X1_17 hF (by first | assumption | exact ob rfl) rfl rfl dX1_isFormula_7 ?_
  refine w_callV3 (n' := 0) (pc := 10) (c_X1_begin hG) cv_X1_49 (by first | assumption | exact ob rfl) hF hT (by omega) (by decide) (Nat.le_of_ble_eq_true rfl) dX1_isFormula_10 ?_
  refine ⟨x, 9, 9, rfl, hF, ?_⟩
  dsimp only [psh]
  refine w_aload_n (pc := 13) dX1_isFormula_13 rfl ?_
  refine w_iconst (v := 0) (pc := 14) dX1_isFormula_14 rfl ?_
  refine w_iconst (v := 0) (pc := 15) dX1_isFormula_15 rfl ?_
  refine w_iconst (v := 0) (pc := 16) dX1_isFormula_16 rfl ?_
  refine w_callV3 (n' := 0) (pc := 17) (c_X1_readFormula hG) cv_X1_53 (by first | assumption | exact ob rfl) hF hT (by omega) (by decide) (Nat.le_of_ble_eq_true rfl) dX1_isFormula_17 ?_
  refine ⟨CEof M x len 9 9, bgN M x 9 9, s0, 0, 0, false, rfl, rfl, cal_ok hF ht hx (ar rfl) (ar rfl), Nat.zero_le _, (by decide), (by decide), fun hb => ?_⟩
  have hb1 : (rdT M x len).2.1 ≤ len := hb
  rw [show rForm (CEof M x len 9 9) 41 0 false s0 = rdT M x len from rfl]
  dsimp only [psh]
  refine w_pop2_2 (pc := 20) dX1_isFormula_20 rfl ?_
  refine w_aload_n (pc := 21) dX1_isFormula_21 rfl ?_
  refine w_getI (pc := 22) fl_X1_32 hF (by first | assumption | exact ob rfl) rfl dX1_isFormula_22 ?_
  rw [cs_wr]
  refine w_if_ne 43 (pc := 25) dX1_isFormula_25 (by decide) (fun h25 => ?_) (fun h25 => ?_)
  · rw [bi_1] at h25
    have h9 : fOk M x len = false := by unfold fOk; rw [h25]; rfl
    refine w_iconst (v := 0) (pc := 43) dX1_isFormula_43 rfl ?_
    refine w_ireturn (pc := 44) dX1_isFormula_44 rfl ?_
    rw [h9] at hQ
    exact hQ
  · rw [bi_0] at h25
    refine w_aload_n (pc := 28) dX1_isFormula_28 rfl ?_
    refine w_getI (pc := 29) fl_X1_28 hF (by first | assumption | exact ob rfl) rfl dX1_isFormula_29 ?_
    rw [cs_at]
    refine w_aload_n (pc := 32) dX1_isFormula_32 rfl ?_
    refine w_getI (pc := 33) fl_X1_57 hF (by first | assumption | exact ob rfl) rfl dX1_isFormula_33 ?_
    rw [cs_o hx7, show mI (bgN M x 9 9) = mI M from rfl, el]
    refine w_icmp_ne 43 (pc := 36) dX1_isFormula_36 (by decide) (fun h36 => ?_) (fun h36 => ?_)
    · have h9 : fOk M x len = false := by unfold fOk; rw [h25, decide_eq_false (fun q => h36 (by rw [q]))]; rfl
      refine w_iconst (v := 0) (pc := 43) dX1_isFormula_43 rfl ?_
      refine w_ireturn (pc := 44) dX1_isFormula_44 rfl ?_
      rw [h9] at hQ
      exact hQ
    · have h9 : fOk M x len = true := by unfold fOk; rw [nI_eq (by omega) (by omega)] at h36; rw [h25, decide_eq_true h36]; rfl
      refine w_iconst (v := 1) (pc := 39) dX1_isFormula_39 rfl ?_
      refine w_goto 44 (pc := 40) dX1_isFormula_40 (by decide) ?_
      refine w_ireturn (pc := 44) dX1_isFormula_44 rfl ?_
      rw [h9] at hQ
      exact hQ
theorem c_X1_work {l : Launch} (hl : l.stackTraces = false) : Con l yX1_work wX1_work 0 251 (T_work) := by
  refine con_of hl (by decide) ?_ ?_
  · intro as M Q X hpt
    obtain ⟨x, len, v, b, rfl, hF, ht, hx, hv, hb, hQ⟩ := hpt
    exact Nat.le_of_ble_eq_true rfl
  intro G as M Q X hl' hT hd hpt
  obtain ⟨x, len, v, b, rfl, hF, ht, hx, hv, hb, hQ⟩ := hpt
  have hG : (gl G).stackTraces = false := by rw [hl']; exact hl
  show PW G RX1 cX1_work 4 (some .long) Q X 0 0 [(0, .ref 7), (1, .ref x), (2, .ref v), (3, .ref b)] [] M
  refine w_aload_n (pc := 0) dX1_work_0 rfl ?_
  refine w_aload_n (pc := 1) dX1_work_1 rfl ?_
  refine w_aload_n (pc := 2) dX1_work_2 rfl ?_
  refine w_aload_n (pc := 3) dX1_work_3 rfl ?_
  refine w_callV3 (n' := 0) (pc := 4) (c_X1_begin hG) cv_X1_49 (by first | assumption | exact ob rfl) hF hT (by omega) (by decide) (Nat.le_of_ble_eq_true rfl) dX1_work_4 ?_
  refine ⟨x, v, b, rfl, hF, ?_⟩
  dsimp only [psh]
  refine w_aload_n (pc := 7) dX1_work_7 rfl ?_
  refine w_iconst (v := 0) (pc := 8) dX1_work_8 rfl ?_
  refine w_iconst (v := 0) (pc := 9) dX1_work_9 rfl ?_
  refine w_iconst (v := 1) (pc := 10) dX1_work_10 rfl ?_
  refine w_callV3 (n' := 0) (pc := 11) (c_X1_readFormula hG) cv_X1_53 (by first | assumption | exact ob rfl) hF hT (by omega) (by decide) (Nat.le_of_ble_eq_true rfl) dX1_work_11 ?_
  refine ⟨CEof M x len v b, bgN M x v b, s0, 0, 0, true, rfl, rfl, cal_ok hF ht hx hv hb, Nat.zero_le _, (by decide), (by decide), fun hb => ?_⟩
  dsimp only [psh]
  refine w_lreturn (pc := 14) dX1_work_14 ?_
  exact hQ
def defM (M : Mem) (i : Nat) (nm : Int32) : Mem := sI (sI (copT M (24 + 2 * i) 1) 4 i nm) 1 1 0
def T_define : PT := fun as M Q X => ∃ (x : Int32) (len : Nat), as = [.ref 0, .int x] ∧ Full M ∧ TabOk M ∧ TxtOk M 1 len ∧ (¬ ix x 12 → X "java/util/NoSuchElementException" M) ∧ (ix x 12 → fOk M 1 len = false → ∀ f F, X "java/lang/IllegalArgumentException" (c7 M f F)) ∧ (∀ i, i < 12 → x = nI i → fOk M 1 len = true → ∀ f F, Q (some (.int (bitC (rdT M 1 len).2.2.2.1))) (defM (c7 M f F) i (rdT M 1 len).2.2.2.1))
theorem c_X5_define {l : Launch} (hl : l.stackTraces = false) : Con l yX5_define wX5_define 2 252 (T_define) := by
  refine con_of hl (by decide) ?_ ?_
  · intro as M Q X hpt
    obtain ⟨x, len, rfl, hF, ht, hx, hX, hX1, hQ⟩ := hpt
    exact Nat.le_of_ble_eq_true rfl
  intro G as M Q X hl' hT hd hpt
  obtain ⟨x, len, rfl, hF, ht, hx, hX, hX1, hQ⟩ := hpt
  have hG : (gl G).stackTraces = false := by rw [hl']; exact hl
  show PW G RX5 cX5_define 2 (some .int) Q X 2 0 [(0, .ref 0), (1, .int x)] [] M
  have el := hx.2.2.1
  have h40 := hx.2.2.2.1
  refine w_iload_n (pc := 0) dX5_define_0 rfl ?_
  refine w_callS1 (n' := 1) (pc := 1) (c_X5_requireLine hG) cs_X5_81 hT (by omega) (by decide) (Nat.le_of_ble_eq_true rfl) dX5_define_1 ?_
  refine ⟨_, rfl, fun hx => ?_, fun i hi ei => ?_⟩
  · exact hX hx
  subst ei
  have hot := ob_text hi
  have e := clN (i := i) (by omega)
  dsimp only [psh]
  refine w_aload_n (pc := 4) dX5_define_4 rfl ?_
  refine w_getR (b := 7) (pc := 5) fl_X5_39 hF (by first | assumption | exact ob rfl) rfl rfl dX5_define_5 ?_
  refine w_aload_n (pc := 8) dX5_define_8 rfl ?_
  refine w_getR (b := 1) (pc := 9) fl_X5_10 hF (by first | assumption | exact ob rfl) rfl rfl dX5_define_9 ?_
  refine w_callV1 (n' := 1) (pc := 12) (c_X1_isFormula hG) cv_X5_85 (by first | assumption | exact ob rfl) hF hT (by omega) (by decide) (Nat.le_of_ble_eq_true rfl) dX5_define_12 ?_
  refine ⟨1, len, rfl, hF, ht, hx, ?_⟩
  dsimp only [psh]
  refine w_if_ne 28 (pc := 15) dX5_define_15 (by decide) (fun h15 => ?_) (fun h15 => ?_)
  · rw [bi_1] at h15
    refine w_aload_n (pc := 28) dX5_define_28 rfl ?_
    refine w_getR (b := 3) (pc := 29) fl_X5_16 hF (by first | assumption | exact ob rfl) rfl rfl dX5_define_29 ?_
    refine w_iload_n (pc := 32) dX5_define_32 rfl ?_
    refine w_aald (m := 12) (b := 24 + 2 * i) (pc := 33) (Or.inr (Or.inr (Or.inr rfl))) hF (by first | assumption | exact ar rfl) (vin hi (by decide)) (by rw [e]; rfl) dX5_define_33 ?_
    refine w_aload_n (pc := 34) dX5_define_34 rfl ?_
    refine w_getR (b := 1) (pc := 35) fl_X5_10 hF (by first | assumption | exact ob rfl) rfl rfl dX5_define_35 ?_
    refine w_callV1 (n' := 1) (pc := 38) (c_X4_copy hG) cv_X5_96 (by first | assumption | exact ob rfl) hF hT (by omega) (by decide) (Nat.le_of_ble_eq_true rfl) dX5_define_38 ?_
    have el2 : mI (calS (bgN M 1 9 9) (rdT M 1 len).2) 1 1 = nI len := by rw [cs_o (by decide)]; exact el
    refine ⟨24 + 2 * i, 1, rfl, hF, ⟨hot, rf_x (by omega), ar_text hi⟩, ⟨ob rfl, rfl, ar rfl⟩, (by rw [el2]; exact nI_pos (by omega)), (by rw [el2, clN (by omega)]; exact h40), (by rw [el2, clN (by omega)]; intro j hj; rw [cs_o (by decide)]; exact (hx.2.2.2.2 j hj).2), ?_⟩
    dsimp only [psh]
    refine w_aload_n (pc := 41) dX5_define_41 rfl ?_
    refine w_getR (b := 4) (pc := 42) fl_X5_20 hF (by first | assumption | exact ob rfl) rfl rfl dX5_define_42 ?_
    refine w_iload_n (pc := 45) dX5_define_45 rfl ?_
    refine w_aload_n (pc := 46) dX5_define_46 rfl ?_
    refine w_getR (b := 7) (pc := 47) fl_X5_39 hF (by first | assumption | exact ob rfl) rfl rfl dX5_define_47 ?_
    refine w_getI (pc := 50) fl_X5_100 hF (by first | assumption | exact ob rfl) rfl dX5_define_50 ?_
    rw [show mI (copT (calS (bgN M 1 9 9) (rdT M 1 len).2) (24 + 2 * i) 1) 7 7 = (rdT M 1 len).2.2.2.1 from by unfold copT; rw [mI_n (by omega), mI_rn (by omega)]; exact cs_nm]
    refine w_iast (m := 12) (pc := 53) hF (by first | assumption | exact ar rfl) (vin hi (by decide)) dX5_define_53 ?_
    rw [e]
    refine w_aload_n (pc := 54) dX5_define_54 rfl ?_
    refine w_getR (b := 1) (pc := 55) fl_X5_10 hF (by first | assumption | exact ob rfl) rfl rfl dX5_define_55 ?_
    refine w_iconst (v := 0) (pc := 58) dX5_define_58 rfl ?_
    refine w_putI (pc := 59) fp_X5_78 hF (by first | assumption | exact ob rfl) rfl dX5_define_59 ?_
    refine w_aload_n (pc := 62) dX5_define_62 rfl ?_
    refine w_getR (b := 4) (pc := 63) fl_X5_20 hF (by first | assumption | exact ob rfl) rfl rfl dX5_define_63 ?_
    refine w_iload_n (pc := 66) dX5_define_66 rfl ?_
    refine w_iald (m := 12) (pc := 67) hF (by first | assumption | exact ar rfl) (vin hi (by decide)) dX5_define_67 ?_
    rw [e, mI_n (by decide), mI_s]
    refine w_callS1 (n' := 1) (pc := 68) (c_J6_bitCount_0f7a4 hG) cs_X5_103 hT (by omega) (by decide) (Nat.le_of_ble_eq_true rfl) dX5_define_68 ?_
    refine ⟨_, rfl, ?_⟩
    dsimp only [psh]
    refine w_ireturn (pc := 71) dX5_define_71 rfl ?_
    exact hQ i hi rfl h15 (calF (mI M 7) (rdT M 1 len).2) (mF (bgN M 1 9 9))
  · rw [bi_0] at h15
    refine w_throw (pc := 18) (ik := 89) (is := 91) (ic := 93) (cls := "java/lang/IllegalArgumentException") (ix := 7) (text := "the text is no formula") (List.mem_of_getElem? (i := 1) rfl) (List.mem_of_getElem? (i := 1) rfl) hT (by omega) (by decide) (Nat.le_of_ble_eq_true rfl) dX5_define_18 dX5_define_21 dX5_define_22 dX5_define_24 dX5_define_27 ?_
    exact hX1 ⟨i, hi, rfl⟩ h15 (calF (mI M 7) (rdT M 1 len).2) (mF (bgN M 1 9 9))
theorem c7_I {M : Mem} {f : Nat → Int32} {F : Nat → Nat} {a : Nat} (h : a ≠ 7) : mI (c7 M f F) a = mI M a := va_up_ne _ _ h
theorem c7_J {M : Mem} {f : Nat → Int32} {F : Nat → Nat} : mJ (c7 M f F) = mJ M := rfl
theorem sJ_rw {M : Mem} {a k : Nat} {f : Nat → Int64} {v : Int64} : sJ (rJ M a f) a k v = rJ M a (va_up f k v) := by
  show (M.1, up2 (va_up M.2.1 a f) a k v, M.2.2) = (M.1, va_up M.2.1 a (va_up f k v), M.2.2)
  congr 2
  funext b j
  unfold up2
  by_cases hb : b = a
  · subst hb
    rw [va_up_self, va_up_self]
    by_cases hj : j = k
    · subst hj; rw [if_pos ⟨rfl, rfl⟩, va_up_self]
    · rw [if_neg (fun q => hj q.2), va_up_ne _ _ hj]
  · rw [if_neg (fun q => hb q.1), va_up_ne _ _ hb, va_up_ne _ _ hb]
theorem c7_sJ {M : Mem} {f : Nat → Int32} {F : Nat → Nat} {w : Nat → Int64} {i : Nat} {v : Int64} : sJ (c7 (rJ M 22 w) f F) 22 i v = c7 (rJ M 22 (va_up w i v)) f F := by
  have h := congrArg (fun q : Mem => c7 q f F) (sJ_rw (M := M) (a := 22) (k := i) (f := w) (v := v))
  exact h
theorem c7_cal {M : Mem} {f : Nat → Int32} {F : Nat → Nat} {x v b : Nat} {s : St} : calS (bgN (c7 M f F) x v b) s = c7 M (calF f s) (mF (bgN (c7 M f F) x v b)) := by
  show (va_up (va_up M.1 7 f) 7 (calF (va_up M.1 7 f 7) s), _) = (va_up M.1 7 (calF f s), _)
  rw [va_upup, va_up_self]
  rfl
theorem tabC_c7 {M : Mem} {f : Nat → Int32} {F : Nat → Nat} : tabC (c7 M f F) = tabC M := by
  funext t v
  unfold tabC
  rw [c7_I (by omega), c7_I (by omega), c7_I (by omega)]
theorem tabC_rJ {M : Mem} {a : Nat} {w : Nat → Int64} : tabC (rJ M a w) = tabC M := rfl
def lnC (M : Mem) (k : Nat) : Nat := (mI M 21 k).toNatClampNeg
def wkR (M : Mem) (b i : Nat) (w : Nat → Int64) : Int64 × St := rForm (mI M (24 + 2 * i + 1), (mI M (24 + 2 * i) 1).toNatClampNeg, w, mJ M b, tabC M) 41 0 true s0
def wkC (M : Mem) (b r : Nat) : Nat → Nat → (Nat → Int64) → (Nat → Int64) × Bool
  | 0, _, w => (w, true)
  | n + 1, k, w => if hasF M (lnC M k) = true then (if (wkR M b (lnC M k) w).2.2.2.2 = true then (va_up w (lnC M k) (wkR M b (lnC M k) w).1, false) else wkC M b r n (k + 1) (va_up w (lnC M k) (wkR M b (lnC M k) w).1)) else wkC M b r n (k + 1) (va_up w (lnC M k) (mI M (r + 1) (lnC M k)).toInt64)
def TxtsOk (M : Mem) : Prop := ∀ i, i < 12 → ∃ len, TxtOk M (24 + 2 * i) len
def T_workOut : PT := fun as M Q X => ∃ r b : Nat, as = [.ref 0, .ref r, .ref b] ∧ Full M ∧ TabOk M ∧ TxtsOk M ∧ (OB 2 r ∧ rf r 0 = r + 1 ∧ AR 1 12 (r + 1) ∧ r + 1 ≠ 7) ∧ (AR 2 12 b ∧ b ≠ 22) ∧ (∀ k, k < 12 → ∃ i, i < 12 ∧ mI M 21 k = nI i) ∧ ∀ f F, Q (some (.int (bi (wkC M b r 12 0 (mJ M 22)).2))) (c7 (rJ M 22 (wkC M b r 12 0 (mJ M 22)).1) f F)
theorem hasF_c7 {M : Mem} {f : Nat → Int32} {F : Nat → Nat} {i : Nat} : hasF (c7 M f F) i = hasF M i := by
  unfold hasF
  rw [c7_I (by omega)]
theorem c7_self {M : Mem} : c7 (rJ M 22 (mJ M 22)) (mI M 7) (mF M) = M := by
  have e1 : va_up M.1 7 (M.1 7) = M.1 := by funext b; unfold va_up; by_cases h : b = 7 <;> simp [h]
  have e2 : va_up M.2.1 22 (M.2.1 22) = M.2.1 := by funext b; unfold va_up; by_cases h : b = 22 <;> simp [h]
  show (va_up M.1 7 (M.1 7), va_up M.2.1 22 (M.2.1 22), M.2.2.1, M.2.2.2.1, M.2.2.2.2) = M
  rw [e1, e2]
theorem c_X5_workOut {l : Launch} (hl : l.stackTraces = false) : Con l yX5_workOut wX5_workOut 0 252 (T_workOut) := by
  refine con_of hl (by decide) ?_ ?_
  · intro as M Q X hpt
    obtain ⟨r, b, rfl, hF, htab, htx, ⟨hor, hrr, hra, hr7⟩, ⟨hb, hb22⟩, hln, hQ⟩ := hpt
    exact Nat.le_of_ble_eq_true rfl
  intro G as M Q X hl' hT hd hpt
  obtain ⟨r, b, rfl, hF, htab, htx, ⟨hor, hrr, hra, hr7⟩, ⟨hb, hb22⟩, hln, hQ⟩ := hpt
  have hG : (gl G).stackTraces = false := by rw [hl']; exact hl
  show PW G RX5 cX5_workOut 7 (some .boolean) Q X 0 0 [(0, .ref 0), (1, .ref r), (2, .ref b)] [] M
  have loop : ∀ (n k : Nat) (w : Nat → Int64) (f : Nat → Int32) (F : Nat → Nat), k + n = 12 → (∀ f F, Q (some (.int (bi (wkC M b r n k w).2))) (c7 (rJ M 22 (wkC M b r n k w).1) f F)) → PW G RX5 cX5_workOut 7 (some .boolean) Q X 0 12 [(0, .ref 0), (1, .ref r), (2, .ref b), (3, .ref 21), (4, .int 12), (5, .int (nI k))] [] (c7 (rJ M 22 w) f F) := by
    intro n
    induction n with
    | zero =>
      intro k w f F hk hq
      refine w_iload (pc := 12) dX5_workOut_12 rfl ?_
      refine w_iload (pc := 14) dX5_workOut_14 rfl ?_
      refine w_icmp_ge 96 (pc := 16) dX5_workOut_16 (by decide) (fun h16 => ?_) (fun h16 => ?_)
      · refine w_iconst (v := 1) (pc := 96) dX5_workOut_96 rfl ?_
        refine w_ireturn (pc := 97) dX5_workOut_97 rfl ?_
        exact hq f F
      · exact absurd (by rw [show k = 12 by omega]; decide) h16
    | succ n ih =>
      intro k w f F hk hq
      obtain ⟨i, hi, ei⟩ := hln k (by omega)
      have e := clN (i := i) (by omega)
      have eln : lnC M k = i := by unfold lnC; rw [ei, e]
      obtain ⟨len, hlen⟩ := htx i hi
      have hot := ob_text hi
      refine w_iload (pc := 12) dX5_workOut_12 rfl ?_
      refine w_iload (pc := 14) dX5_workOut_14 rfl ?_
      refine w_icmp_ge 96 (pc := 16) dX5_workOut_16 (by decide) (fun h16 => ?_) (fun h16 => ?_)
      · exact absurd h16 (by rw [show (12 : Int32) = nI 12 from rfl, nI_leI (by omega) (by omega)]; omega)
      · refine w_aload_n (pc := 19) dX5_workOut_19 rfl ?_
        refine w_iload (pc := 20) dX5_workOut_20 rfl ?_
        refine w_iald (m := 12) (pc := 22) hF (by first | assumption | exact ar rfl) (vin (by omega) (by decide)) dX5_workOut_22 ?_
        rw [clN (by omega), show mI (c7 (rJ M 22 w) f F) 21 k = nI i from by rw [c7_I (by decide)]; exact ei]
        refine w_istore 6 (pc := 23) dX5_workOut_23 (by decide) ?_
        refine w_aload_n (pc := 25) dX5_workOut_25 rfl ?_
        refine w_iload (pc := 26) dX5_workOut_26 rfl ?_
        refine w_callV1 (n' := 0) (pc := 28) (c_X5_hasFormula hG) cv_X5_108 (by first | assumption | exact ob rfl) hF hT (by omega) (by decide) (Nat.le_of_ble_eq_true rfl) dX5_workOut_28 ?_
        refine ⟨i, hi, rfl, hF, ?_⟩
        rw [hasF_c7, show hasF (rJ M 22 w) i = hasF M i from rfl]
        dsimp only [psh]
        refine w_if_ne 52 (pc := 31) dX5_workOut_31 (by decide) (fun h31 => ?_) (fun h31 => ?_)
        · rw [bi_1] at h31
          rw [wkC, eln, if_pos h31] at hq
          refine w_aload_n (pc := 52) dX5_workOut_52 rfl ?_
          refine w_getR (b := 22) (pc := 53) fl_X5_46 hF (by first | assumption | exact ob rfl) rfl rfl dX5_workOut_53 ?_
          refine w_iload (pc := 56) dX5_workOut_56 rfl ?_
          refine w_aload_n (pc := 58) dX5_workOut_58 rfl ?_
          refine w_getR (b := 7) (pc := 59) fl_X5_39 hF (by first | assumption | exact ob rfl) rfl rfl dX5_workOut_59 ?_
          refine w_aload_n (pc := 62) dX5_workOut_62 rfl ?_
          refine w_getR (b := 3) (pc := 63) fl_X5_16 hF (by first | assumption | exact ob rfl) rfl rfl dX5_workOut_63 ?_
          refine w_iload (pc := 66) dX5_workOut_66 rfl ?_
          refine w_aald (m := 12) (b := 24 + 2 * i) (pc := 68) (Or.inr (Or.inr (Or.inr rfl))) hF (by first | assumption | exact ar rfl) (vin hi (by decide)) (by rw [e]; rfl) dX5_workOut_68 ?_
          refine w_aload_n (pc := 69) dX5_workOut_69 rfl ?_
          refine w_getR (b := 22) (pc := 70) fl_X5_46 hF (by first | assumption | exact ob rfl) rfl rfl dX5_workOut_70 ?_
          refine w_aload_n (pc := 73) dX5_workOut_73 rfl ?_
          refine w_callV3 (n' := 0) (pc := 74) (c_X1_work hG) cv_X5_247 (by first | assumption | exact ob rfl) hF hT (by omega) (by decide) (Nat.le_of_ble_eq_true rfl) dX5_workOut_74 ?_
          refine ⟨24 + 2 * i, len, 22, b, rfl, hF, (fun t ht => by rw [c7_I (by omega)]; exact htab t ht), (by obtain ⟨q1, q2, q3, q4, q5⟩ := hlen; exact ⟨q1, q2, (by rw [c7_I q2.1]; exact q3), q4, fun j hj => by rw [c7_I q2.2]; exact q5 j hj⟩), ar rfl, hb, ?_⟩
          rw [c7_cal, show CEof (c7 (rJ M 22 w) f F) (24 + 2 * i) len 22 b = (mI M (24 + 2 * i + 1), (mI M (24 + 2 * i) 1).toNatClampNeg, w, mJ M b, tabC M) from (by unfold CEof; rw [c7_I hlen.2.1.2, tabC_c7, tabC_rJ, c7_J, mJ_rs, mJ_rn hb22, hlen.2.2.1, clN (by have := hlen.2.2.2.1; omega)]; rfl), show rForm (mI M (24 + 2 * i + 1), (mI M (24 + 2 * i) 1).toNatClampNeg, w, mJ M b, tabC M) 41 0 true s0 = wkR M b i w from rfl]
          dsimp only [psh]
          refine w_last (m := 12) (pc := 77) hF (by first | assumption | exact ar rfl) (vin hi (by decide)) dX5_workOut_77 ?_
          rw [e, c7_sJ]
          refine w_aload_n (pc := 78) dX5_workOut_78 rfl ?_
          refine w_getR (b := 7) (pc := 79) fl_X5_39 hF (by first | assumption | exact ob rfl) rfl rfl dX5_workOut_79 ?_
          refine w_getI (pc := 82) fl_X5_251 hF (by first | assumption | exact ob rfl) rfl dX5_workOut_82 ?_
          rw [show ∀ M9 : Mem, ∀ f9 F9, mI (c7 M9 f9 F9) 7 8 = f9 8 from fun M9 f9 F9 => by show va_up M9.1 7 f9 7 8 = _; rw [va_up_self], show ∀ f9 s9, calF f9 s9 8 = bi s9.2.2.2 from fun _ _ => rfl]
          refine w_if_eq 90 (pc := 85) dX5_workOut_85 (by decide) (fun h85 => ?_) (fun h85 => ?_)
          · rw [bi_0] at h85
            rw [if_neg (by rw [h85]; decide)] at hq
            refine w_iinc (v := nI (k + 1)) (pc := 90) dX5_workOut_90 rfl (nI_1 k) (by decide) ?_
            refine w_goto 12 (pc := 93) dX5_workOut_93 (by decide) ?_
            exact w_lk (ih (k + 1) _ _ _ (by omega) hq) (lkc rfl (lkc rfl (lkc rfl (lkc rfl (lkc rfl (lkc rfl lkn))))))
          · rw [bi_1] at h85
            rw [if_pos h85] at hq
            refine w_iconst (v := 0) (pc := 88) dX5_workOut_88 rfl ?_
            refine w_ireturn (pc := 89) dX5_workOut_89 rfl ?_
            exact hq _ _
        · rw [bi_0] at h31
          rw [wkC, eln, if_neg (by rw [h31]; decide)] at hq
          refine w_aload_n (pc := 34) dX5_workOut_34 rfl ?_
          refine w_getR (b := 22) (pc := 35) fl_X5_46 hF (by first | assumption | exact ob rfl) rfl rfl dX5_workOut_35 ?_
          refine w_iload (pc := 38) dX5_workOut_38 rfl ?_
          refine w_aload_n (pc := 40) dX5_workOut_40 rfl ?_
          refine w_getR (b := r + 1) (pc := 41) fl_X5_162 hF (by first | assumption | exact ob rfl) rfl (by first | assumption | exact rf_x (by omega)) dX5_workOut_41 ?_
          refine w_iload (pc := 44) dX5_workOut_44 rfl ?_
          refine w_iald (m := 12) (pc := 46) hF (by first | assumption | exact ar rfl) (vin hi (by decide)) dX5_workOut_46 ?_
          rw [e, c7_I hr7]
          refine w_i2l (pc := 47) dX5_workOut_47 ?_
          refine w_last (m := 12) (pc := 48) hF (by first | assumption | exact ar rfl) (vin hi (by decide)) dX5_workOut_48 ?_
          rw [e, c7_sJ]
          refine w_goto 90 (pc := 49) dX5_workOut_49 (by decide) ?_
          refine w_iinc (v := nI (k + 1)) (pc := 90) dX5_workOut_90 rfl (nI_1 k) (by decide) ?_
          refine w_goto 12 (pc := 93) dX5_workOut_93 (by decide) ?_
          exact w_lk (ih (k + 1) _ _ _ (by omega) hq) (lkc rfl (lkc rfl (lkc rfl (lkc rfl (lkc rfl (lkc rfl lkn))))))
  have h0 := loop 12 0 (mJ M 22) (mI M 7) (mF M) rfl hQ
  rw [c7_self] at h0
  refine w_aload_n (pc := 0) dX5_workOut_0 rfl ?_
  refine w_getR (b := 21) (pc := 1) fl_X5_43 hF (by first | assumption | exact ob rfl) rfl rfl dX5_workOut_1 ?_
  refine w_astore_n 3 (pc := 4) rfl dX5_workOut_4 (by decide) ?_
  refine w_aload_n (pc := 5) dX5_workOut_5 rfl ?_
  refine w_alen (t := 1) (m := 12) (v := 12) (pc := 6) hF (by first | assumption | exact ar rfl) (by decide) rfl dX5_workOut_6 ?_
  refine w_istore 4 (pc := 7) dX5_workOut_7 (by decide) ?_
  refine w_iconst (v := 0) (pc := 9) dX5_workOut_9 rfl ?_
  refine w_istore 5 (pc := 10) dX5_workOut_10 (by decide) ?_
  exact w_lk h0 (lkc rfl (lkc rfl (lkc rfl (lkc rfl (lkc rfl (lkc rfl lkn))))))
