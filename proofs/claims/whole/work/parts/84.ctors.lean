/-! THE CONSTRUCTORS -/
def T_iText : PT := fun as M Q X => ∃ (a : Nat) (Z : Nat → Nat → Bool) (F : Nat → Nat) (t : Nat), as = [.ref a] ∧ M = KM (a + 1) Z F t ∧ CK (a + 1) Z F ∧ a + 1 < 124 ∧ a ≠ 7 ∧ sh a = .inr 4 ∧ (sh (a + 1) = .inl (0, 40)) ∧ (rf a 0 = a + 1) ∧ (∀ j k, a ≤ j → tI t j k = 0) ∧ Q none (KM (a + 1 + 1) (up2 Z a 0 true) F t)
theorem c_X4_init {l : Launch} (hl : l.stackTraces = false) : ConI l yX4_init wX4_init 7 2 T_iText := by
  refine con_ofI hl (by decide) ?_ ?_
  · intro as M Q X hpt
    obtain ⟨a, Z, F, t, rfl, rfl, hC, h124, h7, s0, s1, r0, hz, hQ⟩ := hpt
    exact Nat.le_of_ble_eq_true rfl
  intro G as M Q hl' hd hnm hAo hcl hpt
  obtain ⟨a, Z, F, t, rfl, rfl, hC, h124, h7, s0, s1, r0, hz, hQ⟩ := hpt
  have hcl : ∀ a2 b2, gE G a2 → Ext a2 (a + 1) b2 → gE G b2 := hcl
  show PW G RX4 cX4_init 1 none Q (fun _ _ => False) 7 0 [(0, .ref a)] [] (KM (a + 1) Z F t)
  refine w_aload_n (pc := 0) dX4_init_0 rfl ?_
  refine k_obj (pc := 1) ol_X4 (by omega) (Nat.le_of_ble_eq_true rfl) dX4_init_1 ?_
  refine w_aload_n (pc := 4) dX4_init_4 rfl ?_
  refine w_bipush (v := 40) (pc := 5) dX4_init_5 rfl ?_
  refine k_newa (tt := 0) (m := 40) (m0 := a + 1) (n' := 0) (u := 7) (pc := 7) ac_char rfl List.mem_cons_self hC s1 (fun k => hz _ k (by omega)) (by omega) hcl (by omega) (by simp only [okL, okS, okV, okN, and_true, true_and]; try omega) (by simp only [okL, okS, okV, okN, and_true, true_and]; try omega) rfl (by decide) (by decide) (by omega) dX4_init_7 (fun b1 => ?_)
  have hC1_1 := CK.up hC
  refine k_putR (pc := 9) fpf_X4_9 hnm (by omega) s0 rfl r0 rfl rfl dX4_init_9 ?_
  have hC2_1 := CK.set (a := a) (k := 0) hC1_1 (by omega) (by omega) (Nat.lt_of_le_of_lt (Nat.le_of_eq r0) (by omega))
  refine w_aload_n (pc := 12) dX4_init_12 rfl ?_
  refine w_iconst (v := 0) (pc := 13) dX4_init_13 rfl ?_
  refine k_put0 (pc := 14) fp_X4_15 (by omega) s0 rfl (hz _ _ (by omega)) rfl rfl dX4_init_14 ?_
  refine w_return (pc := 17) dX4_init_17 ?_
  exact hQ
def T_iTable : PT := fun as M Q X => ∃ (a : Nat) (Z : Nat → Nat → Bool) (F : Nat → Nat) (t : Nat), as = [.ref a] ∧ M = KM (a + 1) Z F t ∧ CK (a + 1) Z F ∧ a + 2 < 124 ∧ a ≠ 7 ∧ sh a = .inr 3 ∧ (sh (a + 1) = .inl (1, 4) ∧ sh (a + 1 + 1) = .inl (1, 4)) ∧ (rf a 0 = a + 1 ∧ rf a 1 = a + 1 + 1) ∧ (∀ j k, a ≤ j → tI t j k = 0) ∧ Q none (KM (a + 1 + 1 + 1) (up2 (up2 Z a 0 true) a 1 true) F t)
theorem c_X3_init {l : Launch} (hl : l.stackTraces = false) : ConI l yX3_init wX3_init 2 2 T_iTable := by
  refine con_ofI hl (by decide) ?_ ?_
  · intro as M Q X hpt
    obtain ⟨a, Z, F, t, rfl, rfl, hC, h124, h7, s0, ⟨s1, s2⟩, ⟨r0, r1⟩, hz, hQ⟩ := hpt
    exact Nat.le_of_ble_eq_true rfl
  intro G as M Q hl' hd hnm hAo hcl hpt
  obtain ⟨a, Z, F, t, rfl, rfl, hC, h124, h7, s0, ⟨s1, s2⟩, ⟨r0, r1⟩, hz, hQ⟩ := hpt
  have hcl : ∀ a2 b2, gE G a2 → Ext a2 (a + 1) b2 → gE G b2 := hcl
  show PW G RX3 cX3_init 1 none Q (fun _ _ => False) 2 0 [(0, .ref a)] [] (KM (a + 1) Z F t)
  refine w_aload_n (pc := 0) dX3_init_0 rfl ?_
  refine k_obj (pc := 1) ol_X3 (by omega) (Nat.le_of_ble_eq_true rfl) dX3_init_1 ?_
  refine w_aload_n (pc := 4) dX3_init_4 rfl ?_
  refine w_iconst (v := 4) (pc := 5) dX3_init_5 rfl ?_
  refine k_newa (tt := 1) (m := 4) (m0 := a + 1) (n' := 1) (u := 1) (pc := 6) ac_int rfl (List.mem_of_getElem? (i := 1) rfl) hC s1 (fun k => hz _ k (by omega)) (by omega) hcl (by omega) (by simp only [okL, okS, okV, okN, and_true, true_and]; try omega) (by simp only [okL, okS, okV, okN, and_true, true_and]; try omega) rfl (by decide) (by decide) (by omega) dX3_init_6 (fun b1 => ?_)
  have hC1_1 := CK.up hC
  refine k_putR (pc := 8) fpf_X3_9 hnm (by omega) s0 rfl r0 rfl rfl dX3_init_8 ?_
  have hC2_1 := CK.set (a := a) (k := 0) hC1_1 (by omega) (by omega) (Nat.lt_of_le_of_lt (Nat.le_of_eq r0) (by omega))
  refine w_aload_n (pc := 11) dX3_init_11 rfl ?_
  refine w_iconst (v := 4) (pc := 12) dX3_init_12 rfl ?_
  refine k_newa (tt := 1) (m := 4) (m0 := a + 1) (n' := 0) (u := 1) (pc := 13) ac_int rfl (List.mem_of_getElem? (i := 1) rfl) hC2_1 s2 (fun k => hz _ k (by omega)) (by omega) hcl (by omega) (by simp only [okL, okS, okV, okN, and_true, true_and]; try omega) (by simp only [okL, okS, okV, okN, and_true, true_and]; try omega) rfl (by decide) (by decide) (by omega) dX3_init_13 (fun b2 => ?_)
  have hC3_1 := CK.up hC2_1
  refine k_putR (pc := 15) fpf_X3_13 hnm (by omega) s0 rfl r1 rfl rfl dX3_init_15 ?_
  have hC4_1 := CK.set (a := a) (k := 1) hC3_1 (by omega) (by omega) (Nat.lt_of_le_of_lt (Nat.le_of_eq r1) (by omega))
  refine w_aload_n (pc := 18) dX3_init_18 rfl ?_
  refine w_iconst (v := 0) (pc := 19) dX3_init_19 rfl ?_
  refine k_put0 (pc := 20) fp_X3_16 (by omega) s0 rfl (hz _ _ (by omega)) rfl rfl dX3_init_20 ?_
  refine w_aload_n (pc := 23) dX3_init_23 rfl ?_
  refine w_iconst (v := 0) (pc := 24) dX3_init_24 rfl ?_
  refine k_put0 (pc := 25) fp_X3_20 (by omega) s0 rfl (hz _ _ (by omega)) rfl rfl dX3_init_25 ?_
  refine w_return (pc := 28) dX3_init_28 ?_
  exact hQ
def T_iReturn : PT := fun as M Q X => ∃ (a : Nat) (Z : Nat → Nat → Bool) (F : Nat → Nat) (t : Nat), as = [.ref a] ∧ M = KM (a + 1) Z F t ∧ CK (a + 1) Z F ∧ a + 2 < 124 ∧ a ≠ 7 ∧ sh a = .inr 2 ∧ (sh (a + 1) = .inl (1, 12) ∧ sh (a + 1 + 1) = .inl (2, 12)) ∧ (rf a 0 = a + 1 ∧ rf a 1 = a + 1 + 1) ∧ (∀ j k, a ≤ j → tI t j k = 0) ∧ Q none (KM (a + 1 + 1 + 1) (up2 (up2 Z a 0 true) a 1 true) F t)
theorem c_X2_init {l : Launch} (hl : l.stackTraces = false) : ConI l yX2_init wX2_init 4 2 T_iReturn := by
  refine con_ofI hl (by decide) ?_ ?_
  · intro as M Q X hpt
    obtain ⟨a, Z, F, t, rfl, rfl, hC, h124, h7, s0, ⟨s1, s2⟩, ⟨r0, r1⟩, hz, hQ⟩ := hpt
    exact Nat.le_of_ble_eq_true rfl
  intro G as M Q hl' hd hnm hAo hcl hpt
  obtain ⟨a, Z, F, t, rfl, rfl, hC, h124, h7, s0, ⟨s1, s2⟩, ⟨r0, r1⟩, hz, hQ⟩ := hpt
  have hcl : ∀ a2 b2, gE G a2 → Ext a2 (a + 1) b2 → gE G b2 := hcl
  show PW G RX2 cX2_init 1 none Q (fun _ _ => False) 4 0 [(0, .ref a)] [] (KM (a + 1) Z F t)
  refine w_aload_n (pc := 0) dX2_init_0 rfl ?_
  refine k_obj (pc := 1) ol_X2 (by omega) (Nat.le_of_ble_eq_true rfl) dX2_init_1 ?_
  refine w_aload_n (pc := 4) dX2_init_4 rfl ?_
  refine w_bipush (v := 12) (pc := 5) dX2_init_5 rfl ?_
  refine k_newa (tt := 1) (m := 12) (m0 := a + 1) (n' := 2) (u := 2) (pc := 7) ac_int rfl (List.mem_of_getElem? (i := 1) rfl) hC s1 (fun k => hz _ k (by omega)) (by omega) hcl (by omega) (by simp only [okL, okS, okV, okN, and_true, true_and]; try omega) (by simp only [okL, okS, okV, okN, and_true, true_and]; try omega) rfl (by decide) (by decide) (by omega) dX2_init_7 (fun b1 => ?_)
  have hC1_1 := CK.up hC
  refine k_putR (pc := 9) fpf_X2_9 hnm (by omega) s0 rfl r0 rfl rfl dX2_init_9 ?_
  have hC2_1 := CK.set (a := a) (k := 0) hC1_1 (by omega) (by omega) (Nat.lt_of_le_of_lt (Nat.le_of_eq r0) (by omega))
  refine w_aload_n (pc := 12) dX2_init_12 rfl ?_
  refine w_bipush (v := 12) (pc := 13) dX2_init_13 rfl ?_
  refine k_newa (tt := 2) (m := 12) (m0 := a + 1) (n' := 0) (u := 2) (pc := 15) ac_long rfl (List.mem_of_getElem? (i := 2) rfl) hC2_1 s2 (fun k => hz _ k (by omega)) (by omega) hcl (by omega) (by simp only [okL, okS, okV, okN, and_true, true_and]; try omega) (by simp only [okL, okS, okV, okN, and_true, true_and]; try omega) rfl (by decide) (by decide) (by omega) dX2_init_15 (fun b2 => ?_)
  have hC3_1 := CK.up hC2_1
  refine k_putR (pc := 17) fpf_X2_15 hnm (by omega) s0 rfl r1 rfl rfl dX2_init_17 ?_
  have hC4_1 := CK.set (a := a) (k := 1) hC3_1 (by omega) (by omega) (Nat.lt_of_le_of_lt (Nat.le_of_eq r1) (by omega))
  refine w_aload_n (pc := 20) dX2_init_20 rfl ?_
  refine w_lconst (v := 0) (pc := 21) dX2_init_21 rfl ?_
  refine k_put0J (pc := 22) fp_X2_19 (by omega) s0 rfl dX2_init_22 ?_
  refine w_aload_n (pc := 25) dX2_init_25 rfl ?_
  refine w_iconst (v := 0) (pc := 26) dX2_init_26 rfl ?_
  refine k_put0 (pc := 27) fp_X2_23 (by omega) s0 rfl (hz _ _ (by omega)) rfl rfl dX2_init_27 ?_
  refine w_return (pc := 30) dX2_init_30 ?_
  exact hQ
def T_iAccount : PT := fun as M Q X => ∃ (a : Nat) (Z : Nat → Nat → Bool) (F : Nat → Nat) (t : Nat), as = [.ref a] ∧ M = KM (a + 1) Z F t ∧ CK (a + 1) Z F ∧ a + 3 < 124 ∧ a ≠ 7 ∧ sh a = .inr 0 ∧ (sh (a + 1) = .inl (1, 24) ∧ sh (a + 1 + 1) = .inl (1, 24) ∧ sh (a + 1 + 1 + 1) = .inl (2, 24)) ∧ (rf a 0 = a + 1 ∧ rf a 1 = a + 1 + 1 ∧ rf a 2 = a + 1 + 1 + 1) ∧ (∀ j k, a ≤ j → tI t j k = 0) ∧ Q none (KM (a + 1 + 1 + 1 + 1) (up2 (up2 (up2 Z a 0 true) a 1 true) a 2 true) F t)
theorem c_X0_init {l : Launch} (hl : l.stackTraces = false) : ConI l yX0_init wX0_init 12 2 T_iAccount := by
  refine con_ofI hl (by decide) ?_ ?_
  · intro as M Q X hpt
    obtain ⟨a, Z, F, t, rfl, rfl, hC, h124, h7, s0, ⟨s1, s2, s3⟩, ⟨r0, r1, r2⟩, hz, hQ⟩ := hpt
    exact Nat.le_of_ble_eq_true rfl
  intro G as M Q hl' hd hnm hAo hcl hpt
  obtain ⟨a, Z, F, t, rfl, rfl, hC, h124, h7, s0, ⟨s1, s2, s3⟩, ⟨r0, r1, r2⟩, hz, hQ⟩ := hpt
  have hcl : ∀ a2 b2, gE G a2 → Ext a2 (a + 1) b2 → gE G b2 := hcl
  show PW G RX0 cX0_init 1 none Q (fun _ _ => False) 12 0 [(0, .ref a)] [] (KM (a + 1) Z F t)
  refine w_aload_n (pc := 0) dX0_init_0 rfl ?_
  refine k_obj (pc := 1) ol_X0 (by omega) (Nat.le_of_ble_eq_true rfl) dX0_init_1 ?_
  refine w_aload_n (pc := 4) dX0_init_4 rfl ?_
  refine w_bipush (v := 24) (pc := 5) dX0_init_5 rfl ?_
  refine k_newa (tt := 1) (m := 24) (m0 := a + 1) (n' := 8) (u := 4) (pc := 7) ac_int rfl (List.mem_of_getElem? (i := 1) rfl) hC s1 (fun k => hz _ k (by omega)) (by omega) hcl (by omega) (by simp only [okL, okS, okV, okN, and_true, true_and]; try omega) (by simp only [okL, okS, okV, okN, and_true, true_and]; try omega) rfl (by decide) (by decide) (by omega) dX0_init_7 (fun b1 => ?_)
  have hC1_1 := CK.up hC
  refine k_putR (pc := 9) fpf_X0_9 hnm (by omega) s0 rfl r0 rfl rfl dX0_init_9 ?_
  have hC2_1 := CK.set (a := a) (k := 0) hC1_1 (by omega) (by omega) (Nat.lt_of_le_of_lt (Nat.le_of_eq r0) (by omega))
  refine w_aload_n (pc := 12) dX0_init_12 rfl ?_
  refine w_bipush (v := 24) (pc := 13) dX0_init_13 rfl ?_
  refine k_newa (tt := 1) (m := 24) (m0 := a + 1) (n' := 4) (u := 4) (pc := 15) ac_int rfl (List.mem_of_getElem? (i := 1) rfl) hC2_1 s2 (fun k => hz _ k (by omega)) (by omega) hcl (by omega) (by simp only [okL, okS, okV, okN, and_true, true_and]; try omega) (by simp only [okL, okS, okV, okN, and_true, true_and]; try omega) rfl (by decide) (by decide) (by omega) dX0_init_15 (fun b2 => ?_)
  have hC3_1 := CK.up hC2_1
  refine k_putR (pc := 17) fpf_X0_13 hnm (by omega) s0 rfl r1 rfl rfl dX0_init_17 ?_
  have hC4_1 := CK.set (a := a) (k := 1) hC3_1 (by omega) (by omega) (Nat.lt_of_le_of_lt (Nat.le_of_eq r1) (by omega))
  refine w_aload_n (pc := 20) dX0_init_20 rfl ?_
  refine w_bipush (v := 24) (pc := 21) dX0_init_21 rfl ?_
  refine k_newa (tt := 2) (m := 24) (m0 := a + 1) (n' := 0) (u := 4) (pc := 23) ac_long rfl (List.mem_of_getElem? (i := 2) rfl) hC4_1 s3 (fun k => hz _ k (by omega)) (by omega) hcl (by omega) (by simp only [okL, okS, okV, okN, and_true, true_and]; try omega) (by simp only [okL, okS, okV, okN, and_true, true_and]; try omega) rfl (by decide) (by decide) (by omega) dX0_init_23 (fun b3 => ?_)
  have hC5_1 := CK.up hC4_1
  refine k_putR (pc := 25) fpf_X0_16 hnm (by omega) s0 rfl r2 rfl rfl dX0_init_25 ?_
  have hC6_1 := CK.set (a := a) (k := 2) hC5_1 (by omega) (by omega) (Nat.lt_of_le_of_lt (Nat.le_of_eq r2) (by omega))
  refine w_aload_n (pc := 28) dX0_init_28 rfl ?_
  refine w_iconst (v := 0) (pc := 29) dX0_init_29 rfl ?_
  refine k_put0 (pc := 30) fp_X0_20 (by omega) s0 rfl (hz _ _ (by omega)) rfl rfl dX0_init_30 ?_
  refine w_aload_n (pc := 33) dX0_init_33 rfl ?_
  refine w_lconst (v := 0) (pc := 34) dX0_init_34 rfl ?_
  refine k_put0J (pc := 35) fp_X0_24 (by omega) s0 rfl dX0_init_35 ?_
  refine w_return (pc := 38) dX0_init_38 ?_
  exact hQ
/-- the tables of a calculator, i of them made -/
def lpB (Z : Nat → Nat → Bool) : Nat → Nat → Nat → Bool
  | 0 => Z
  | i + 1 => up2 (up2 (up2 (lpB Z i) (12 + 3 * i) 0 true) (12 + 3 * i) 1 true) 8 i true
def lpT (Z : Nat → Nat → Bool) : Nat → Nat → Nat → Bool
  | 0 => Z
  | i + 1 => up2 (up2 (lpT Z i) (24 + 2 * i) 0 true) 3 i true
def lpR (Z : Nat → Nat → Bool) : Nat → Nat → Nat → Bool
  | 0 => Z
  | i + 1 => up2 (up2 (up2 (lpR Z i) (48 + 3 * i) 0 true) (48 + 3 * i) 1 true) 5 i true
def lpA (Z : Nat → Nat → Bool) : Nat → Nat → Nat → Bool
  | 0 => Z
  | i + 1 => up2 (up2 (up2 (up2 (lpA Z i) (84 + 4 * i) 0 true) (84 + 4 * i) 1 true) (84 + 4 * i) 2 true) 6 i true
/-- what was set stays set -/
theorem lpB_ge {Z : Nat → Nat → Bool} {a k : Nat} (h : Z a k = true) : ∀ i, lpB Z i a k = true
  | 0 => h
  | i + 1 => by
    have ih := lpB_ge h i
    unfold lpB up2
    simp only [ih]
    split <;> (try rfl)
    split <;> (try rfl)
    split <;> rfl
theorem lpT_ge {Z : Nat → Nat → Bool} {a k : Nat} (h : Z a k = true) : ∀ i, lpT Z i a k = true
  | 0 => h
  | i + 1 => by
    have ih := lpT_ge h i
    unfold lpT up2
    simp only [ih]
    split <;> (try rfl)
    split <;> rfl
theorem lpR_ge {Z : Nat → Nat → Bool} {a k : Nat} (h : Z a k = true) : ∀ i, lpR Z i a k = true
  | 0 => h
  | i + 1 => by
    have ih := lpR_ge h i
    unfold lpR up2
    simp only [ih]
    split <;> (try rfl)
    split <;> (try rfl)
    split <;> rfl
theorem lpA_ge {Z : Nat → Nat → Bool} {a k : Nat} (h : Z a k = true) : ∀ i, lpA Z i a k = true
  | 0 => h
  | i + 1 => by
    have ih := lpA_ge h i
    unfold lpA up2
    simp only [ih]
    split <;> (try rfl)
    split <;> (try rfl)
    split <;> (try rfl)
    split <;> rfl
theorem Z_B7 {Z : Nat → Nat → Bool} {i : Nat} (h : Z 7 0 = true) : lpB Z i 7 0 = true := lpB_ge h i
def T_iCalc : PT := fun as M Q X => ∃ (Z : Nat → Nat → Bool) (F : Nat → Nat), as = [.ref 7] ∧ M = KM (7 + 1) Z F 0 ∧ CK (7 + 1) Z F ∧ (CK (12 + 3 * 3) (lpB (up2 (up2 (up2 (up2 (up2 (up2 Z 7 0 true) 7 1 true) (7 + 1 + 1 + 1) 0 true) 7 2 true) 7 5 true) 7 6 true) 3) (va_up (va_up (va_up F 2 (7 + 1 + 1 + 1)) 5 9) 6 9) → Q none (KM (12 + 3 * 3) (lpB (up2 (up2 (up2 (up2 (up2 (up2 Z 7 0 true) 7 1 true) (7 + 1 + 1 + 1) 0 true) 7 2 true) 7 5 true) 7 6 true) 3) (va_up (va_up (va_up F 2 (7 + 1 + 1 + 1)) 5 9) 6 9) 0))
theorem c_X1_init {l : Launch} (hl : l.stackTraces = false) : ConI l yX1_init wX1_init 20 4 T_iCalc := by
  refine con_ofI hl (by decide) ?_ ?_
  · intro as M Q X hpt
    obtain ⟨Z, F, rfl, rfl, hC, hQ⟩ := hpt
    exact Nat.le_of_ble_eq_true rfl
  intro G as M Q hl' hd hnm hAo hcl hpt
  obtain ⟨Z, F, rfl, rfl, hC, hQ⟩ := hpt
  have hG : (gl G).stackTraces = false := by rw [hl']; exact hl
  have hcl : ∀ a2 b2, gE G a2 → Ext a2 (7 + 1) b2 → gE G b2 := hcl
  have mm : 7 + 1 = 7 + 1 := rfl
  have loop : ∀ (f i : Nat) (b : Nat → Nat), f + i = 3 → CK (12 + 3 * i) (lpB (up2 (up2 (up2 (up2 (up2 (up2 Z 7 0 true) 7 1 true) (7 + 1 + 1 + 1) 0 true) 7 2 true) 7 5 true) 7 6 true) i) (va_up (va_up (va_up F 2 (7 + 1 + 1 + 1)) 5 9) 6 9) → PW (setr G b) RX1 cX1_init 2 none Q (fun _ _ => False) (3 * f + 0) 69 [(0, .ref 7), (1, .int (nI i))] [] (KM (12 + 3 * i) (lpB (up2 (up2 (up2 (up2 (up2 (up2 Z 7 0 true) 7 1 true) (7 + 1 + 1 + 1) 0 true) 7 2 true) 7 5 true) 7 6 true) i) (va_up (va_up (va_up F 2 (7 + 1 + 1 + 1)) 5 9) 6 9) 0) := by
    intro f
    induction f with
    | zero =>
      intro i b hi hC
      have hi : i = 3 := by omega
      subst hi
      refine w_iload_n (pc := 69) dX1_init_69 rfl ?_
      refine w_iconst (v := 3) (pc := 70) dX1_init_70 rfl ?_
      refine w_icmp_ge 93 (pc := 71) dX1_init_71 (by decide) (fun h => ?_) (fun h => absurd (by decide) h)
      refine w_return (pc := 93) dX1_init_93 ?_
      exact hQ hC
    | succ f ih =>
      intro i b hi hC
      have hi2 : i < 3 := by omega
      refine w_iload_n (pc := 69) dX1_init_69 rfl ?_
      refine w_iconst (v := 3) (pc := 70) dX1_init_70 rfl ?_
      refine w_icmp_ge 93 (pc := 71) dX1_init_71 (by decide) (fun h => ?_) (fun h => ?_)
      · exfalso
        rw [show (3 : Int32) = nI 3 from rfl, nI_leI (by omega) (by omega)] at h
        omega
      refine w_aload_n (pc := 74) dX1_init_74 rfl ?_
      refine k_getR (b := 8) (pc := 75) fl_X1_11 (by omega) rfl rfl (Z_B7 rfl) rfl dX1_init_75 ?_
      refine w_iload_n (pc := 78) dX1_init_78 rfl ?_
      refine k_new (m0 := 7 + 1) (n' := 3 * f + 0 + 2) (u := 1) (N := 4) (pc := 79) nw_X1_9 hC (ob_tab hi2).2 rfl (fun k => tI_0) (by omega) hcl (by omega) (by simp only [okL, okS, okV, okN, and_true, true_and]; try omega) (by simp only [okL, okS, okV, okN, and_true, true_and]; try omega) (by decide) (by omega) dX1_init_79 (fun b1 => ?_)
      have hC1_3 := CK.up hC
      refine w_dup (pc := 82) dX1_init_82 rfl ?_
      refine k_callIN (n' := 3 * f + 0 + 0) (m0 := 7 + 1) (pc := 83) (c_X3_init hG) cin_X1_48 hAo (by show 2 + 1 ≤ gd G; omega) (by omega) (Nat.le_of_ble_eq_true rfl) hcl (by show 7 + 1 ≤ 12 + 3 * i + 1; omega) (by show okL (12 + 3 * i + 1) _; simp only [okL, okS, okV, okN, and_true, true_and]; try omega) (by show okS (12 + 3 * i + 1) _; simp only [okL, okS, okV, okN, and_true, true_and]; try omega) dX1_init_83 (Q := fun r M1 => r = none ∧ M1 = KM (12 + 3 * i + 1 + 1 + 1) (up2 (up2 (lpB (up2 (up2 (up2 (up2 (up2 (up2 Z 7 0 true) 7 1 true) (7 + 1 + 1 + 1) 0 true) 7 2 true) 7 5 true) 7 6 true) i) (12 + 3 * i) 0 true) (12 + 3 * i) 1 true) (va_up (va_up (va_up F 2 (7 + 1 + 1 + 1)) 5 9) 6 9) 0) ⟨12 + 3 * i, (lpB (up2 (up2 (up2 (up2 (up2 (up2 Z 7 0 true) 7 1 true) (7 + 1 + 1 + 1) 0 true) 7 2 true) 7 5 true) 7 6 true) i), (va_up (va_up (va_up F 2 (7 + 1 + 1 + 1)) 5 9) 6 9), 0, rfl, rfl, hC1_3, by omega, by omega, (ob_tab hi2).2, ⟨(ar_tabB hi2).2, (ar_tabR hi2).2⟩, ⟨(rf_x (by omega)), (rf_x (by omega))⟩, (fun j k hj => tI_0), rfl, rfl⟩ (fun b2 r M1 h => ?_)
      obtain ⟨rfl, rfl⟩ := h
      dsimp only [Option.toList, List.nil_append]
      have hC2_3 := CK.up hC1_3
      have hC3_3 := CK.up hC2_3
      have hC4_3 := CK.set (a := 12 + 3 * i) (k := 0) hC3_3 (by omega) (by omega) (Nat.lt_of_le_of_lt (Nat.le_of_eq (rf_x (by omega))) (by omega))
      have hC5_3 := CK.set (a := 12 + 3 * i) (k := 1) hC4_3 (by omega) (by omega) (Nat.lt_of_le_of_lt (Nat.le_of_eq (rf_x (by omega))) (by omega))
      refine k_aast (tt := 7) (ci := 3) (m := 3) (j := i) (pc := 86) ⟨(RX3, TX3, 4), rfl, List.mem_of_getElem? (i := 2) rfl⟩ (by omega) (by omega) rfl (ob_tab hi2).2 rfl hi2 (by decide) rfl dX1_init_86 ?_
      have hCz := CK.set (a := 8) (k := i) hC5_3 (by omega) (by omega) (show 12 + 3 * i < 12 + 3 * i + 1 + 1 + 1 by omega)
      refine w_iinc (v := nI (i + 1)) (pc := 87) dX1_init_87 rfl (by rw [show Int32.ofInt 1 = nI 1 from rfl, nI_add]) (by decide) ?_
      refine w_goto 69 (pc := 90) dX1_init_90 (by decide) ?_
      have e : 12 + 3 * (i + 1) = 12 + 3 * i + 1 + 1 + 1 := by omega
      have z := fun b => ih (i + 1) b (by omega) (by rw [e]; exact hCz)
      rw [e] at z
      exact w_n (by omega) (w_lk (z _) (lkc rfl (lkc rfl lkn)))
  show PW G RX1 cX1_init 2 none Q (fun _ _ => False) 20 0 [(0, .ref 7)] [] (KM (7 + 1) Z F 0)
  refine w_aload_n (pc := 0) dX1_init_0 rfl ?_
  refine k_obj (pc := 1) ol_X1 (by omega) (Nat.le_of_ble_eq_true rfl) dX1_init_1 ?_
  refine w_aload_n (pc := 4) dX1_init_4 rfl ?_
  refine w_iconst (v := 3) (pc := 5) dX1_init_5 rfl ?_
  refine k_newq (tt := 7) (m := 3) (m0 := 7 + 1) (n' := 19) (u := 1) (pc := 6) cl_X1_9 hAo (List.mem_of_getElem? (i := 3) rfl) (List.mem_of_getElem? (i := 2) rfl) hC rfl (by omega) hcl (by omega) (by simp only [okL, okS, okV, okN, and_true, true_and]; try omega) (by simp only [okL, okS, okV, okN, and_true, true_and]; try omega) rfl (by decide) (by decide) (by omega) dX1_init_6 (fun b1 => ?_)
  have hC1_1 := CK.up hC
  refine k_putR (pc := 9) fpf_X1_11 hnm (by omega) rfl rfl (show rf 7 0 = 8 from rfl) rfl rfl dX1_init_9 ?_
  have hC2_1 := CK.set (a := 7) (k := 0) hC1_1 (by omega) (by omega) (Nat.lt_of_le_of_lt (Nat.le_of_eq (show rf 7 0 = 8 from rfl)) (by omega))
  refine w_aload_n (pc := 12) dX1_init_12 rfl ?_
  refine w_bipush (v := 12) (pc := 13) dX1_init_13 rfl ?_
  refine k_newa (tt := 2) (m := 12) (m0 := 7 + 1) (n' := 17) (u := 2) (pc := 15) ac_long rfl (List.mem_of_getElem? (i := 2) rfl) hC2_1 rfl (fun k => tI_0) (by omega) hcl (by omega) (by simp only [okL, okS, okV, okN, and_true, true_and]; try omega) (by simp only [okL, okS, okV, okN, and_true, true_and]; try omega) rfl (by decide) (by decide) (by omega) dX1_init_15 (fun b2 => ?_)
  have hC3_1 := CK.up hC2_1
  refine k_putR (pc := 17) fpf_X1_17 hnm (by omega) rfl rfl (show rf 7 1 = 9 from rfl) rfl rfl dX1_init_17 ?_
  have hC4_1 := CK.set (a := 7) (k := 1) hC3_1 (by omega) (by omega) (Nat.lt_of_le_of_lt (Nat.le_of_eq (show rf 7 1 = 9 from rfl)) (by omega))
  refine w_aload_n (pc := 20) dX1_init_20 rfl ?_
  refine k_new (m0 := 7 + 1) (n' := 16) (u := 1) (N := 2) (pc := 21) nw_X1_21 hC4_1 rfl rfl (fun k => tI_0) (by omega) hcl (by omega) (by simp only [okL, okS, okV, okN, and_true, true_and]; try omega) (by simp only [okL, okS, okV, okN, and_true, true_and]; try omega) (by decide) (by omega) dX1_init_21 (fun b3 => ?_)
  have hC5_1 := CK.up hC4_1
  refine w_dup (pc := 24) dX1_init_24 rfl ?_
  refine k_callIN (n' := 9) (m0 := 7 + 1) (pc := 25) (c_X4_init hG) cin_X1_23 hAo (by show 2 + 1 ≤ gd G; omega) (by omega) (Nat.le_of_ble_eq_true rfl) hcl (by show 7 + 1 ≤ 7 + 1 + 1 + 1 + 1; omega) (by show okL (7 + 1 + 1 + 1 + 1) _; simp only [okL, okS, okV, okN, and_true, true_and]; try omega) (by show okS (7 + 1 + 1 + 1 + 1) _; simp only [okL, okS, okV, okN, and_true, true_and]; try omega) dX1_init_25 (Q := fun r M1 => r = none ∧ M1 = KM (7 + 1 + 1 + 1 + 1 + 1) (up2 (up2 (up2 Z (7) 0 true) (7) 1 true) (7 + 1 + 1 + 1) 0 true) F 0) ⟨7 + 1 + 1 + 1, (up2 (up2 Z (7) 0 true) (7) 1 true), F, 0, rfl, rfl, hC5_1, by omega, by omega, rfl, rfl, rfl, (fun j k hj => tI_0), rfl, rfl⟩ (fun b4 r M1 h => ?_)
  obtain ⟨rfl, rfl⟩ := h
  dsimp only [Option.toList, List.nil_append]
  have hC6_1 := CK.up hC5_1
  have hC7_1 := CK.set (a := 7 + 1 + 1 + 1) (k := 0) hC6_1 (by omega) (by omega) (Nat.lt_of_le_of_lt (Nat.le_of_eq (show rf (7 + 1 + 1 + 1) 0 = 7 + 1 + 1 + 1 + 1 from rfl)) (by omega))
  refine k_putF (pc := 28) fp_X1_24 (by omega) rfl rfl rfl dX1_init_28 ?_
  have hC8_1 := CK.setF (k := 2) (v := 7 + 1 + 1 + 1) hC7_1 (by omega) (by decide) (by omega)
  refine w_aload_n (pc := 31) dX1_init_31 rfl ?_
  refine w_iconst (v := 0) (pc := 32) dX1_init_32 rfl ?_
  refine k_put0 (pc := 33) fp_X1_28 (by omega) rfl rfl tI_0 rfl rfl dX1_init_33 ?_
  refine w_aload_n (pc := 36) dX1_init_36 rfl ?_
  refine w_iconst (v := 0) (pc := 37) dX1_init_37 rfl ?_
  refine k_put0 (pc := 38) fp_X1_32 (by omega) rfl rfl tI_0 rfl rfl dX1_init_38 ?_
  refine w_aload_n (pc := 41) dX1_init_41 rfl ?_
  refine w_aload_n (pc := 42) dX1_init_42 rfl ?_
  refine k_getR (b := 9) (pc := 43) fl_X1_17 (by omega) rfl rfl rfl rfl dX1_init_43 ?_
  refine k_putF (pc := 46) fp_X1_36 (by omega) rfl rfl rfl dX1_init_46 ?_
  have hC9_1 := CK.setF (k := 5) (v := 9) hC8_1 (by omega) (by decide) (by omega)
  refine w_aload_n (pc := 49) dX1_init_49 rfl ?_
  refine w_aload_n (pc := 50) dX1_init_50 rfl ?_
  refine k_getR (b := 9) (pc := 51) fl_X1_17 (by omega) rfl rfl rfl rfl dX1_init_51 ?_
  refine k_putF (pc := 54) fp_X1_39 (by omega) rfl rfl rfl dX1_init_54 ?_
  have hC10_1 := CK.setF (k := 6) (v := 9) hC9_1 (by omega) (by decide) (by omega)
  refine w_aload_n (pc := 57) dX1_init_57 rfl ?_
  refine w_iconst (v := 0) (pc := 58) dX1_init_58 rfl ?_
  refine k_put0 (pc := 59) fp_X1_42 (by omega) rfl rfl tI_0 rfl rfl dX1_init_59 ?_
  refine w_aload_n (pc := 62) dX1_init_62 rfl ?_
  refine w_iconst (v := 0) (pc := 63) dX1_init_63 rfl ?_
  refine k_put0 (pc := 64) fp_X1_45 (by omega) rfl rfl tI_0 rfl rfl dX1_init_64 ?_
  refine w_iconst (v := 0) (pc := 67) dX1_init_67 rfl ?_
  refine w_istore_n 1 (pc := 68) rfl dX1_init_68 (by decide) ?_
  exact w_n (by omega) (w_lk (loop 3 0 _ rfl hC10_1) (lkc rfl (lkc rfl lkn)))
