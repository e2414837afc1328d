/-! THE CONSTRUCTORS OF THE CLASS AND OF THE REFERENCE -/
def zO (Z : Nat → Nat → Bool) : Nat → Nat → Bool := (up2 (up2 (up2 (up2 (lpB (up2 (up2 (up2 (up2 (up2 (up2 (up2 (up2 (up2 (up2 (up2 (up2 Z (1) 0 true) (0) 0 true) (0) 1 true) (0) 2 true) (0) 3 true) (0) 4 true) 7 0 true) 7 1 true) (7 + 1 + 1 + 1) 0 true) 7 2 true) 7 5 true) 7 6 true) 3) (0) 5 true) (0) 6 true) (0) 7 true) (0) 8 true)
def fO (F : Nat → Nat) : Nat → Nat := (va_up (va_up (va_up F 2 (7 + 1 + 1 + 1)) 5 9) 6 9)
def T_iOffice : PT := fun as M Q X => ∃ (Z : Nat → Nat → Bool) (F : Nat → Nat), as = [.ref 0] ∧ M = KM (0 + 1) Z F 0 ∧ CK (0 + 1) Z F ∧ (CK (84 + 4 * 3) (lpA (lpR (lpT (zO Z) 12) 12) 3) (fO F) → Q none (KM (84 + 4 * 3) (lpA (lpR (lpT (zO Z) 12) 12) 3) (fO F) 1))
set_option maxHeartbeats 8000000 in
theorem c_X5_init {l : Launch} (hl : l.stackTraces = false) : ConI l yX5_init wX5_init 238 6 T_iOffice := by
  refine con_ofI hl (by decide) ?_ ?_
  · intro as M Q X hpt
    obtain ⟨Z, F, rfl, rfl, hC, hQ⟩ := hpt
    exact Nat.le_of_ble_eq_true rfl
  intro G as M Q hl' hd hnm hAo hcl hpt
  obtain ⟨Z, F, rfl, rfl, hC, hQ⟩ := hpt
  have hG : (gl G).stackTraces = false := by rw [hl']; exact hl
  have hcl : ∀ a2 b2, gE G a2 → Ext a2 1 b2 → gE G b2 := hcl
  have hC : CK 1 Z F := hC
  have loop3 : ∀ (f i : Nat) (b : Nat → Nat), f + i = 3 → CK (84 + 4 * i) (lpA (lpR (lpT (zO Z) 12) 12) i) (fO F) → PW (setr G b) RX5 cX5_init 2 none Q (fun _ _ => False) (13 * f + 0) 151 [(0, .ref 0), (1, .int (nI i))] [] (KM (84 + 4 * i) (lpA (lpR (lpT (zO Z) 12) 12) i) (fO F) 1) := by
    intro f
    induction f with
    | zero =>
      intro i b hi hC
      have hi : i = 3 := by omega
      subst hi
      refine w_iload_n (pc := 151) dX5_init_151 rfl ?_
      refine w_iconst (v := 3) (pc := 152) dX5_init_152 rfl ?_
      refine w_icmp_ge 175 (pc := 153) dX5_init_153 (by decide) (fun h => ?_) (fun h => absurd (by decide) h)
      refine w_return (pc := 175) dX5_init_175 ?_
      exact hQ hC
    | succ f ih =>
      intro i b hi hC
      have hi2 : i < 3 := by omega
      refine w_iload_n (pc := 151) dX5_init_151 rfl ?_
      refine w_iconst (v := 3) (pc := 152) dX5_init_152 rfl ?_
      refine w_icmp_ge 175 (pc := 153) dX5_init_153 (by decide) (fun h => ?_) (fun h => ?_)
      · exfalso
        rw [show (3 : Int32) = nI 3 from rfl, nI_leI (by omega) (by omega)] at h
        omega
      refine w_aload_n (pc := 156) dX5_init_156 rfl ?_
      refine k_getR (b := 6) (pc := 157) fl_X5_32 (by omega) rfl rfl (lpA_ge (lpR_ge (lpT_ge rfl 12) 12) i) rfl dX5_init_157 ?_
      refine w_iload_n (pc := 160) dX5_init_160 rfl ?_
      refine k_new (m0 := 1) (n' := 13 * f + 0 + 12) (u := 1) (N := 5) (pc := 161) nw_X5_30 hC (ob_acc hi2).2 rfl (fun k => tI_1 (by omega)) (by omega) hcl (by omega) (by simp only [okL, okS, okV, okN, and_true, true_and]; try omega) (by simp only [okL, okS, okV, okN, and_true, true_and]; try omega) (by decide) (by omega) dX5_init_161 (fun b1 => ?_)
      have hC1_3 := CK.up hC
      refine w_dup (pc := 164) dX5_init_164 rfl ?_
      refine k_callIN (n' := 13 * f + 0 + 0) (m0 := 1) (pc := 165) (c_X0_init hG) cin_X5_61 hAo (by show 2 + 1 ≤ gd G; omega) (by omega) (Nat.le_of_ble_eq_true rfl) hcl (by show 1 ≤ 84 + 4 * i + 1; omega) (by show okL (84 + 4 * i + 1) _; simp only [okL, okS, okV, okN, and_true, true_and]; try omega) (by show okS (84 + 4 * i + 1) _; simp only [okL, okS, okV, okN, and_true, true_and]; try omega) dX5_init_165 (Q := fun r M1 => r = none ∧ M1 = KM (84 + 4 * i + 1 + 1 + 1 + 1) (up2 (up2 (up2 (lpA (lpR (lpT (zO Z) 12) 12) i) (84 + 4 * i) 0 true) (84 + 4 * i) 1 true) (84 + 4 * i) 2 true) (fO F) 1) ⟨84 + 4 * i, (lpA (lpR (lpT (zO Z) 12) 12) i), (fO F), 1, rfl, rfl, hC1_3, by omega, by omega, (ob_acc hi2).2, ⟨(ar_accK hi2).2, (ar_accY hi2).2, (ar_accA hi2).2⟩, ⟨(rf_x (by omega)), (rf_x (by omega)), (rf_x (by omega))⟩, (fun j k hj => tI_1 (by omega)), rfl, rfl⟩ (fun b2 r M1 h => ?_)
      obtain ⟨rfl, rfl⟩ := h
      dsimp only [Option.toList, List.nil_append]
      have hC2_3 := CK.up hC1_3
      have hC3_3 := CK.up hC2_3
      have hC4_3 := CK.up hC3_3
      have hC5_3 := CK.set (a := 84 + 4 * i) (k := 0) hC4_3 (by omega) (by omega) (Nat.lt_of_le_of_lt (Nat.le_of_eq (rf_x (by omega))) (by omega))
      have hC6_3 := CK.set (a := 84 + 4 * i) (k := 1) hC5_3 (by omega) (by omega) (Nat.lt_of_le_of_lt (Nat.le_of_eq (rf_x (by omega))) (by omega))
      have hC7_3 := CK.set (a := 84 + 4 * i) (k := 2) hC6_3 (by omega) (by omega) (Nat.lt_of_le_of_lt (Nat.le_of_eq (rf_x (by omega))) (by omega))
      refine k_aast (tt := 5) (ci := 0) (m := 3) (j := i) (pc := 168) ⟨(RX0, TX0, 5), rfl, List.mem_of_getElem? (i := 0) rfl⟩ (by omega) (by omega) rfl (ob_acc hi2).2 rfl hi2 (by decide) rfl dX5_init_168 ?_
      have hCz := CK.set (a := 6) (k := i) hC7_3 (by omega) (by omega) (show 84 + 4 * i < 84 + 4 * i + 1 + 1 + 1 + 1 by omega)
      refine w_iinc (v := nI (i + 1)) (pc := 169) dX5_init_169 rfl (by rw [show Int32.ofInt 1 = nI 1 from rfl, nI_add]) (by decide) ?_
      refine w_goto 151 (pc := 172) dX5_init_172 (by decide) ?_
      have e : 84 + 4 * (i + 1) = 84 + 4 * i + 1 + 1 + 1 + 1 := by omega
      have z := fun b => ih (i + 1) b (by omega) (by rw [e]; exact hCz)
      rw [e] at z
      exact w_n (by omega) (w_lk (z _) (lkc rfl (lkc rfl lkn)))
  have loop2 : ∀ (f i : Nat) (b : Nat → Nat), f + i = 12 → CK (48 + 3 * i) (lpR (lpT (zO Z) 12) i) (fO F) → PW (setr G b) RX5 cX5_init 2 none Q (fun _ _ => False) (5 * f + 39) 124 [(0, .ref 0), (1, .int (nI i))] [] (KM (48 + 3 * i) (lpR (lpT (zO Z) 12) i) (fO F) 1) := by
    intro f
    induction f with
    | zero =>
      intro i b hi hC
      have hi : i = 12 := by omega
      subst hi
      refine w_iload_n (pc := 124) dX5_init_124 rfl ?_
      refine w_bipush (v := 12) (pc := 125) dX5_init_125 rfl ?_
      refine w_icmp_ge 149 (pc := 127) dX5_init_127 (by decide) (fun h => ?_) (fun h => absurd (by decide) h)
      refine w_iconst (v := 0) (pc := 149) dX5_init_149 rfl ?_
      refine w_istore_n 1 (pc := 150) rfl dX5_init_150 (by decide) ?_
      exact w_n (by omega) (w_lk (loop3 3 0 b rfl hC) (lkc rfl (lkc rfl lkn)))
    | succ f ih =>
      intro i b hi hC
      have hi2 : i < 12 := by omega
      refine w_iload_n (pc := 124) dX5_init_124 rfl ?_
      refine w_bipush (v := 12) (pc := 125) dX5_init_125 rfl ?_
      refine w_icmp_ge 149 (pc := 127) dX5_init_127 (by decide) (fun h => ?_) (fun h => ?_)
      · exfalso
        rw [show (12 : Int32) = nI 12 from rfl, nI_leI (by omega) (by omega)] at h
        omega
      refine w_aload_n (pc := 130) dX5_init_130 rfl ?_
      refine k_getR (b := 5) (pc := 131) fl_X5_26 (by omega) rfl rfl (lpR_ge (lpT_ge rfl 12) i) rfl dX5_init_131 ?_
      refine w_iload_n (pc := 134) dX5_init_134 rfl ?_
      refine k_new (m0 := 1) (n' := 5 * f + 39 + 4) (u := 1) (N := 4) (pc := 135) nw_X5_24 hC (ob_ret hi2).2 rfl (fun k => tI_1 (by omega)) (by omega) hcl (by omega) (by simp only [okL, okS, okV, okN, and_true, true_and]; try omega) (by simp only [okL, okS, okV, okN, and_true, true_and]; try omega) (by decide) (by omega) dX5_init_135 (fun b1 => ?_)
      have hC1_3 := CK.up hC
      refine w_dup (pc := 138) dX5_init_138 rfl ?_
      refine k_callIN (n' := 5 * f + 39 + 0) (m0 := 1) (pc := 139) (c_X2_init hG) cin_X5_60 hAo (by show 2 + 1 ≤ gd G; omega) (by omega) (Nat.le_of_ble_eq_true rfl) hcl (by show 1 ≤ 48 + 3 * i + 1; omega) (by show okL (48 + 3 * i + 1) _; simp only [okL, okS, okV, okN, and_true, true_and]; try omega) (by show okS (48 + 3 * i + 1) _; simp only [okL, okS, okV, okN, and_true, true_and]; try omega) dX5_init_139 (Q := fun r M1 => r = none ∧ M1 = KM (48 + 3 * i + 1 + 1 + 1) (up2 (up2 (lpR (lpT (zO Z) 12) i) (48 + 3 * i) 0 true) (48 + 3 * i) 1 true) (fO F) 1) ⟨48 + 3 * i, (lpR (lpT (zO Z) 12) i), (fO F), 1, rfl, rfl, hC1_3, by omega, by omega, (ob_ret hi2).2, ⟨(ar_retN hi2).2, (ar_retV hi2).2⟩, ⟨(rf_x (by omega)), (rf_x (by omega))⟩, (fun j k hj => tI_1 (by omega)), rfl, rfl⟩ (fun b2 r M1 h => ?_)
      obtain ⟨rfl, rfl⟩ := h
      dsimp only [Option.toList, List.nil_append]
      have hC2_3 := CK.up hC1_3
      have hC3_3 := CK.up hC2_3
      have hC4_3 := CK.set (a := 48 + 3 * i) (k := 0) hC3_3 (by omega) (by omega) (Nat.lt_of_le_of_lt (Nat.le_of_eq (rf_x (by omega))) (by omega))
      have hC5_3 := CK.set (a := 48 + 3 * i) (k := 1) hC4_3 (by omega) (by omega) (Nat.lt_of_le_of_lt (Nat.le_of_eq (rf_x (by omega))) (by omega))
      refine k_aast (tt := 6) (ci := 2) (m := 12) (j := i) (pc := 142) ⟨(RX2, TX2, 4), rfl, List.mem_of_getElem? (i := 1) rfl⟩ (by omega) (by omega) rfl (ob_ret hi2).2 rfl hi2 (by decide) rfl dX5_init_142 ?_
      have hCz := CK.set (a := 5) (k := i) hC5_3 (by omega) (by omega) (show 48 + 3 * i < 48 + 3 * i + 1 + 1 + 1 by omega)
      refine w_iinc (v := nI (i + 1)) (pc := 143) dX5_init_143 rfl (by rw [show Int32.ofInt 1 = nI 1 from rfl, nI_add]) (by decide) ?_
      refine w_goto 124 (pc := 146) dX5_init_146 (by decide) ?_
      have e : 48 + 3 * (i + 1) = 48 + 3 * i + 1 + 1 + 1 := by omega
      have z := fun b => ih (i + 1) b (by omega) (by rw [e]; exact hCz)
      rw [e] at z
      exact w_n (by omega) (w_lk (z _) (lkc rfl (lkc rfl lkn)))
  have loop1 : ∀ (f i : Nat) (b : Nat → Nat), f + i = 12 → CK (24 + 2 * i) (lpT (zO Z) i) (fO F) → PW (setr G b) RX5 cX5_init 2 none Q (fun _ _ => False) (8 * f + 99) 97 [(0, .ref 0), (1, .int (nI i))] [] (KM (24 + 2 * i) (lpT (zO Z) i) (fO F) 1) := by
    intro f
    induction f with
    | zero =>
      intro i b hi hC
      have hi : i = 12 := by omega
      subst hi
      refine w_iload_n (pc := 97) dX5_init_97 rfl ?_
      refine w_bipush (v := 12) (pc := 98) dX5_init_98 rfl ?_
      refine w_icmp_ge 122 (pc := 100) dX5_init_100 (by decide) (fun h => ?_) (fun h => absurd (by decide) h)
      refine w_iconst (v := 0) (pc := 122) dX5_init_122 rfl ?_
      refine w_istore_n 1 (pc := 123) rfl dX5_init_123 (by decide) ?_
      exact w_n (by omega) (w_lk (loop2 12 0 b rfl hC) (lkc rfl (lkc rfl lkn)))
    | succ f ih =>
      intro i b hi hC
      have hi2 : i < 12 := by omega
      refine w_iload_n (pc := 97) dX5_init_97 rfl ?_
      refine w_bipush (v := 12) (pc := 98) dX5_init_98 rfl ?_
      refine w_icmp_ge 122 (pc := 100) dX5_init_100 (by decide) (fun h => ?_) (fun h => ?_)
      · exfalso
        rw [show (12 : Int32) = nI 12 from rfl, nI_leI (by omega) (by omega)] at h
        omega
      refine w_aload_n (pc := 103) dX5_init_103 rfl ?_
      refine k_getR (b := 3) (pc := 104) fl_X5_16 (by omega) rfl rfl (lpT_ge rfl i) rfl dX5_init_104 ?_
      refine w_iload_n (pc := 107) dX5_init_107 rfl ?_
      refine k_new (m0 := 1) (n' := 8 * f + 99 + 7) (u := 1) (N := 2) (pc := 108) nw_X5_7 hC (ob_text hi2).2 rfl (fun k => tI_1 (by omega)) (by omega) hcl (by omega) (by simp only [okL, okS, okV, okN, and_true, true_and]; try omega) (by simp only [okL, okS, okV, okN, and_true, true_and]; try omega) (by decide) (by omega) dX5_init_108 (fun b1 => ?_)
      have hC1_3 := CK.up hC
      refine w_dup (pc := 111) dX5_init_111 rfl ?_
      refine k_callIN (n' := 8 * f + 99 + 0) (m0 := 1) (pc := 112) (c_X4_init hG) cin_X5_9 hAo (by show 2 + 1 ≤ gd G; omega) (by omega) (Nat.le_of_ble_eq_true rfl) hcl (by show 1 ≤ 24 + 2 * i + 1; omega) (by show okL (24 + 2 * i + 1) _; simp only [okL, okS, okV, okN, and_true, true_and]; try omega) (by show okS (24 + 2 * i + 1) _; simp only [okL, okS, okV, okN, and_true, true_and]; try omega) dX5_init_112 (Q := fun r M1 => r = none ∧ M1 = KM (24 + 2 * i + 1 + 1) (up2 (lpT (zO Z) i) (24 + 2 * i) 0 true) (fO F) 1) ⟨24 + 2 * i, (lpT (zO Z) i), (fO F), 1, rfl, rfl, hC1_3, by omega, by omega, (ob_text hi2).2, (ar_text hi2).2, (rf_x (by omega)), (fun j k hj => tI_1 (by omega)), rfl, rfl⟩ (fun b2 r M1 h => ?_)
      obtain ⟨rfl, rfl⟩ := h
      dsimp only [Option.toList, List.nil_append]
      have hC2_3 := CK.up hC1_3
      have hC3_3 := CK.set (a := 24 + 2 * i) (k := 0) hC2_3 (by omega) (by omega) (Nat.lt_of_le_of_lt (Nat.le_of_eq (rf_x (by omega))) (by omega))
      refine k_aast (tt := 8) (ci := 4) (m := 12) (j := i) (pc := 115) ⟨(RX4, TX4, 2), rfl, List.mem_of_getElem? (i := 3) rfl⟩ (by omega) (by omega) rfl (ob_text hi2).2 rfl hi2 (by decide) rfl dX5_init_115 ?_
      have hCz := CK.set (a := 3) (k := i) hC3_3 (by omega) (by omega) (show 24 + 2 * i < 24 + 2 * i + 1 + 1 by omega)
      refine w_iinc (v := nI (i + 1)) (pc := 116) dX5_init_116 rfl (by rw [show Int32.ofInt 1 = nI 1 from rfl, nI_add]) (by decide) ?_
      refine w_goto 97 (pc := 119) dX5_init_119 (by decide) ?_
      have e : 24 + 2 * (i + 1) = 24 + 2 * i + 1 + 1 := by omega
      have z := fun b => ih (i + 1) b (by omega) (by rw [e]; exact hCz)
      rw [e] at z
      exact w_n (by omega) (w_lk (z _) (lkc rfl (lkc rfl lkn)))
  show PW G RX5 cX5_init 2 none Q (fun _ _ => False) 238 0 [(0, .ref 0)] [] (KM 1 Z F 0)
  refine w_aload_n (pc := 0) dX5_init_0 rfl ?_
  refine k_obj (pc := 1) ol_X5 (by omega) (Nat.le_of_ble_eq_true rfl) dX5_init_1 ?_
  refine w_aload_n (pc := 4) dX5_init_4 rfl ?_
  refine k_new (m0 := 1) (n' := 237) (u := 1) (N := 2) (pc := 5) nw_X5_7 hC rfl rfl (fun k => tI_0) (by omega) hcl (by omega) (by simp only [okL, okS, okV, okN, and_true, true_and]; try omega) (by simp only [okL, okS, okV, okN, and_true, true_and]; try omega) (by decide) (by omega) dX5_init_5 (fun b1 => ?_)
  show PW (setr G b1) RX5 cX5_init 2 none Q (fun _ _ => False) 237 8 [(0, .ref (0))] [.ref (1), .ref (0)] (KM (2) Z F 0)
  have hC1_1 := CK.up hC
  refine w_dup (pc := 8) dX5_init_8 rfl ?_
  refine k_callIN (n' := 230) (m0 := 1) (pc := 9) (c_X4_init hG) cin_X5_9 hAo (by show 2 + 1 ≤ gd G; omega) (by omega) (Nat.le_of_ble_eq_true rfl) hcl (by show 1 ≤ 2; omega) (by show okL (2) _; simp only [okL, okS, okV, okN, and_true, true_and]; try omega) (by show okS (2) _; simp only [okL, okS, okV, okN, and_true, true_and]; try omega) dX5_init_9 (Q := fun r M1 => r = none ∧ M1 = KM (1 + 1 + 1) (up2 Z (1) 0 true) F 0) ⟨1, Z, F, 0, rfl, rfl, hC1_1, by omega, by omega, rfl, rfl, rfl, (fun j k hj => tI_0), rfl, rfl⟩ (fun b2 r M1 h => ?_)
  obtain ⟨rfl, rfl⟩ := h
  have hC2_1 := CK.up hC1_1
  have hC3_1 := CK.set (a := 1) (k := 0) hC2_1 (by omega) (by omega) (Nat.lt_of_le_of_lt (Nat.le_of_eq (show rf (1) 0 = 1 + 1 from rfl)) (by omega))
  show PW (setr G b2) RX5 cX5_init 2 none Q (fun _ _ => False) 230 12 [(0, .ref (0))] [.ref (1), .ref (0)] (KM (3) (up2 Z (1) 0 true) F 0)
  refine k_putR (pc := 12) fpf_X5_10 hnm (by omega) rfl rfl (show rf 0 0 = 1 from rfl) rfl rfl dX5_init_12 ?_
  have hC4_1 := CK.set (a := 0) (k := 0) hC3_1 (by omega) (by omega) (Nat.lt_of_le_of_lt (Nat.le_of_eq (show rf 0 0 = 1 from rfl)) (by omega))
  refine w_aload_n (pc := 15) dX5_init_15 rfl ?_
  refine w_bipush (v := 12) (pc := 16) dX5_init_16 rfl ?_
  refine k_newq (tt := 8) (m := 12) (m0 := 1) (n' := 228) (u := 2) (pc := 18) cl_X5_7 hAo (List.mem_of_getElem? (i := 0) rfl) (List.mem_of_getElem? (i := 3) rfl) hC4_1 rfl (by omega) hcl (by omega) (by simp only [okL, okS, okV, okN, and_true, true_and]; try omega) (by simp only [okL, okS, okV, okN, and_true, true_and]; try omega) rfl (by decide) (by decide) (by omega) dX5_init_18 (fun b3 => ?_)
  show PW (setr G b3) RX5 cX5_init 2 none Q (fun _ _ => False) 228 21 [(0, .ref (0))] [.ref (3), .ref (0)] (KM (4) (up2 (up2 Z (1) 0 true) (0) 0 true) F 0)
  have hC5_1 := CK.up hC4_1
  refine k_putR (pc := 21) fpf_X5_16 hnm (by omega) rfl rfl (show rf 0 1 = 3 from rfl) rfl rfl dX5_init_21 ?_
  have hC6_1 := CK.set (a := 0) (k := 1) hC5_1 (by omega) (by omega) (Nat.lt_of_le_of_lt (Nat.le_of_eq (show rf 0 1 = 3 from rfl)) (by omega))
  refine w_aload_n (pc := 24) dX5_init_24 rfl ?_
  refine w_bipush (v := 12) (pc := 25) dX5_init_25 rfl ?_
  refine k_newa (tt := 1) (m := 12) (m0 := 1) (n' := 226) (u := 2) (pc := 27) ac_int rfl (List.mem_of_getElem? (i := 1) rfl) hC6_1 rfl (fun k => tI_0) (by omega) hcl (by omega) (by simp only [okL, okS, okV, okN, and_true, true_and]; try omega) (by simp only [okL, okS, okV, okN, and_true, true_and]; try omega) rfl (by decide) (by decide) (by omega) dX5_init_27 (fun b4 => ?_)
  show PW (setr G b4) RX5 cX5_init 2 none Q (fun _ _ => False) 226 29 [(0, .ref (0))] [.ref (4), .ref (0)] (KM (5) (up2 (up2 (up2 Z (1) 0 true) (0) 0 true) (0) 1 true) F 0)
  have hC7_1 := CK.up hC6_1
  refine k_putR (pc := 29) fpf_X5_20 hnm (by omega) rfl rfl (show rf 0 2 = 4 from rfl) rfl rfl dX5_init_29 ?_
  have hC8_1 := CK.set (a := 0) (k := 2) hC7_1 (by omega) (by omega) (Nat.lt_of_le_of_lt (Nat.le_of_eq (show rf 0 2 = 4 from rfl)) (by omega))
  refine w_aload_n (pc := 32) dX5_init_32 rfl ?_
  refine w_bipush (v := 12) (pc := 33) dX5_init_33 rfl ?_
  refine k_newq (tt := 6) (m := 12) (m0 := 1) (n' := 224) (u := 2) (pc := 35) cl_X5_24 hAo (List.mem_of_getElem? (i := 1) rfl) (List.mem_of_getElem? (i := 1) rfl) hC8_1 rfl (by omega) hcl (by omega) (by simp only [okL, okS, okV, okN, and_true, true_and]; try omega) (by simp only [okL, okS, okV, okN, and_true, true_and]; try omega) rfl (by decide) (by decide) (by omega) dX5_init_35 (fun b5 => ?_)
  show PW (setr G b5) RX5 cX5_init 2 none Q (fun _ _ => False) 224 38 [(0, .ref (0))] [.ref (5), .ref (0)] (KM (6) (up2 (up2 (up2 (up2 Z (1) 0 true) (0) 0 true) (0) 1 true) (0) 2 true) F 0)
  have hC9_1 := CK.up hC8_1
  refine k_putR (pc := 38) fpf_X5_26 hnm (by omega) rfl rfl (show rf 0 3 = 5 from rfl) rfl rfl dX5_init_38 ?_
  have hC10_1 := CK.set (a := 0) (k := 3) hC9_1 (by omega) (by omega) (Nat.lt_of_le_of_lt (Nat.le_of_eq (show rf 0 3 = 5 from rfl)) (by omega))
  refine w_aload_n (pc := 41) dX5_init_41 rfl ?_
  refine w_iconst (v := 3) (pc := 42) dX5_init_42 rfl ?_
  refine k_newq (tt := 5) (m := 3) (m0 := 1) (n' := 223) (u := 1) (pc := 43) cl_X5_30 hAo (List.mem_of_getElem? (i := 2) rfl) (List.mem_of_getElem? (i := 0) rfl) hC10_1 rfl (by omega) hcl (by omega) (by simp only [okL, okS, okV, okN, and_true, true_and]; try omega) (by simp only [okL, okS, okV, okN, and_true, true_and]; try omega) rfl (by decide) (by decide) (by omega) dX5_init_43 (fun b6 => ?_)
  show PW (setr G b6) RX5 cX5_init 2 none Q (fun _ _ => False) 223 46 [(0, .ref (0))] [.ref (6), .ref (0)] (KM (7) (up2 (up2 (up2 (up2 (up2 Z (1) 0 true) (0) 0 true) (0) 1 true) (0) 2 true) (0) 3 true) F 0)
  have hC11_1 := CK.up hC10_1
  refine k_putR (pc := 46) fpf_X5_32 hnm (by omega) rfl rfl (show rf 0 4 = 6 from rfl) rfl rfl dX5_init_46 ?_
  have hC12_1 := CK.set (a := 0) (k := 4) hC11_1 (by omega) (by omega) (Nat.lt_of_le_of_lt (Nat.le_of_eq (show rf 0 4 = 6 from rfl)) (by omega))
  refine w_aload_n (pc := 49) dX5_init_49 rfl ?_
  refine k_new (m0 := 1) (n' := 221) (u := 2) (N := 9) (pc := 50) nw_X5_36 hC12_1 rfl rfl (fun k => tI_0) (by omega) hcl (by omega) (by simp only [okL, okS, okV, okN, and_true, true_and]; try omega) (by simp only [okL, okS, okV, okN, and_true, true_and]; try omega) (by decide) (by omega) dX5_init_50 (fun b7 => ?_)
  show PW (setr G b7) RX5 cX5_init 2 none Q (fun _ _ => False) 221 53 [(0, .ref (0))] [.ref (7), .ref (0)] (KM (8) (up2 (up2 (up2 (up2 (up2 (up2 Z (1) 0 true) (0) 0 true) (0) 1 true) (0) 2 true) (0) 3 true) (0) 4 true) F 0)
  have hC13_1 := CK.up hC12_1
  refine w_dup (pc := 53) dX5_init_53 rfl ?_
  refine k_callI (n' := 201) (m0 := 1) (pc := 54) (c_X1_init hG) civ_X5_38 hAo (by show 4 + 1 ≤ gd G; omega) (by omega) (Nat.le_of_ble_eq_true rfl) hcl (by show 1 ≤ 8; omega) (by show okL (8) _; simp only [okL, okS, okV, okN, and_true, true_and]; try omega) (by show okS (8) _; simp only [okL, okS, okV, okN, and_true, true_and]; try omega) dX5_init_54 (Q := fun r M1 => r = none ∧ M1 = KM (12 + 3 * 3) (lpB (up2 (up2 (up2 (up2 (up2 (up2 (up2 (up2 (up2 (up2 (up2 (up2 Z (1) 0 true) (0) 0 true) (0) 1 true) (0) 2 true) (0) 3 true) (0) 4 true) 7 0 true) 7 1 true) (7 + 1 + 1 + 1) 0 true) 7 2 true) 7 5 true) 7 6 true) 3) (va_up (va_up (va_up F 2 (7 + 1 + 1 + 1)) 5 9) 6 9) 0 ∧ CK (12 + 3 * 3) (lpB (up2 (up2 (up2 (up2 (up2 (up2 (up2 (up2 (up2 (up2 (up2 (up2 Z (1) 0 true) (0) 0 true) (0) 1 true) (0) 2 true) (0) 3 true) (0) 4 true) 7 0 true) 7 1 true) (7 + 1 + 1 + 1) 0 true) 7 2 true) 7 5 true) 7 6 true) 3) (va_up (va_up (va_up F 2 (7 + 1 + 1 + 1)) 5 9) 6 9)) ⟨(up2 (up2 (up2 (up2 (up2 (up2 Z (1) 0 true) (0) 0 true) (0) 1 true) (0) 2 true) (0) 3 true) (0) 4 true), F, rfl, rfl, hC13_1, fun h => ⟨rfl, rfl, h⟩⟩ (fun b8 r M1 h => ?_)
  obtain ⟨rfl, rfl, hcalc⟩ := h
  show PW (setr G b8) RX5 cX5_init 2 none Q (fun _ _ => False) 201 57 [(0, .ref (0))] [.ref (7), .ref (0)] (KM (21) (lpB (up2 (up2 (up2 (up2 (up2 (up2 (up2 (up2 (up2 (up2 (up2 (up2 Z (1) 0 true) (0) 0 true) (0) 1 true) (0) 2 true) (0) 3 true) (0) 4 true) 7 0 true) 7 1 true) (7 + 1 + 1 + 1) 0 true) 7 2 true) 7 5 true) 7 6 true) 3) (va_up (va_up (va_up F 2 (7 + 1 + 1 + 1)) 5 9) 6 9) 0)
  refine k_putR (pc := 57) fpf_X5_39 hnm (by omega) rfl rfl (show rf 0 5 = 7 from rfl) rfl rfl dX5_init_57 ?_
  have hC14_1 := CK.set (a := 0) (k := 5) hcalc (by omega) (by omega) (Nat.lt_of_le_of_lt (Nat.le_of_eq (show rf 0 5 = 7 from rfl)) (by omega))
  refine w_aload_n (pc := 60) dX5_init_60 rfl ?_
  refine w_bipush (v := 12) (pc := 61) dX5_init_61 rfl ?_
  refine k_newa (tt := 1) (m := 12) (m0 := 1) (n' := 199) (u := 2) (pc := 63) ac_int rfl (List.mem_of_getElem? (i := 1) rfl) hC14_1 rfl (fun k => tI_0) (by omega) hcl (by omega) (by simp only [okL, okS, okV, okN, and_true, true_and]; try omega) (by simp only [okL, okS, okV, okN, and_true, true_and]; try omega) rfl (by decide) (by decide) (by omega) dX5_init_63 (fun b9 => ?_)
  show PW (setr G b9) RX5 cX5_init 2 none Q (fun _ _ => False) 199 65 [(0, .ref (0))] [.ref (21), .ref (0)] (KM (22) (up2 (lpB (up2 (up2 (up2 (up2 (up2 (up2 (up2 (up2 (up2 (up2 (up2 (up2 Z (1) 0 true) (0) 0 true) (0) 1 true) (0) 2 true) (0) 3 true) (0) 4 true) 7 0 true) 7 1 true) (7 + 1 + 1 + 1) 0 true) 7 2 true) 7 5 true) 7 6 true) 3) (0) 5 true) (va_up (va_up (va_up F 2 (7 + 1 + 1 + 1)) 5 9) 6 9) 0)
  have hC15_1 := CK.up hC14_1
  refine k_putR (pc := 65) fpf_X5_43 hnm (by omega) rfl rfl (show rf 0 6 = 21 from rfl) rfl rfl dX5_init_65 ?_
  have hC16_1 := CK.set (a := 0) (k := 6) hC15_1 (by omega) (by omega) (Nat.lt_of_le_of_lt (Nat.le_of_eq (show rf 0 6 = 21 from rfl)) (by omega))
  refine w_aload_n (pc := 68) dX5_init_68 rfl ?_
  refine w_bipush (v := 12) (pc := 69) dX5_init_69 rfl ?_
  refine k_newa (tt := 2) (m := 12) (m0 := 1) (n' := 197) (u := 2) (pc := 71) ac_long rfl (List.mem_of_getElem? (i := 2) rfl) hC16_1 rfl (fun k => tI_0) (by omega) hcl (by omega) (by simp only [okL, okS, okV, okN, and_true, true_and]; try omega) (by simp only [okL, okS, okV, okN, and_true, true_and]; try omega) rfl (by decide) (by decide) (by omega) dX5_init_71 (fun b10 => ?_)
  show PW (setr G b10) RX5 cX5_init 2 none Q (fun _ _ => False) 197 73 [(0, .ref (0))] [.ref (22), .ref (0)] (KM (23) (up2 (up2 (lpB (up2 (up2 (up2 (up2 (up2 (up2 (up2 (up2 (up2 (up2 (up2 (up2 Z (1) 0 true) (0) 0 true) (0) 1 true) (0) 2 true) (0) 3 true) (0) 4 true) 7 0 true) 7 1 true) (7 + 1 + 1 + 1) 0 true) 7 2 true) 7 5 true) 7 6 true) 3) (0) 5 true) (0) 6 true) (va_up (va_up (va_up F 2 (7 + 1 + 1 + 1)) 5 9) 6 9) 0)
  have hC17_1 := CK.up hC16_1
  refine k_putR (pc := 73) fpf_X5_46 hnm (by omega) rfl rfl (show rf 0 7 = 22 from rfl) rfl rfl dX5_init_73 ?_
  have hC18_1 := CK.set (a := 0) (k := 7) hC17_1 (by omega) (by omega) (Nat.lt_of_le_of_lt (Nat.le_of_eq (show rf 0 7 = 22 from rfl)) (by omega))
  refine w_aload_n (pc := 76) dX5_init_76 rfl ?_
  refine w_bipush (v := 12) (pc := 77) dX5_init_77 rfl ?_
  refine k_newa (tt := 2) (m := 12) (m0 := 1) (n' := 195) (u := 2) (pc := 79) ac_long rfl (List.mem_of_getElem? (i := 2) rfl) hC18_1 rfl (fun k => tI_0) (by omega) hcl (by omega) (by simp only [okL, okS, okV, okN, and_true, true_and]; try omega) (by simp only [okL, okS, okV, okN, and_true, true_and]; try omega) rfl (by decide) (by decide) (by omega) dX5_init_79 (fun b11 => ?_)
  show PW (setr G b11) RX5 cX5_init 2 none Q (fun _ _ => False) 195 81 [(0, .ref (0))] [.ref (23), .ref (0)] (KM (24) (up2 (up2 (up2 (lpB (up2 (up2 (up2 (up2 (up2 (up2 (up2 (up2 (up2 (up2 (up2 (up2 Z (1) 0 true) (0) 0 true) (0) 1 true) (0) 2 true) (0) 3 true) (0) 4 true) 7 0 true) 7 1 true) (7 + 1 + 1 + 1) 0 true) 7 2 true) 7 5 true) 7 6 true) 3) (0) 5 true) (0) 6 true) (0) 7 true) (va_up (va_up (va_up F 2 (7 + 1 + 1 + 1)) 5 9) 6 9) 0)
  have hC19_1 := CK.up hC18_1
  refine k_putR (pc := 81) fpf_X5_50 hnm (by omega) rfl rfl (show rf 0 8 = 23 from rfl) rfl rfl dX5_init_81 ?_
  have hC20_1 := CK.set (a := 0) (k := 8) hC19_1 (by omega) (by omega) (Nat.lt_of_le_of_lt (Nat.le_of_eq (show rf 0 8 = 23 from rfl)) (by omega))
  refine w_aload_n (pc := 84) dX5_init_84 rfl ?_
  refine w_bipush (v := 11) (pc := 85) dX5_init_85 rfl ?_
  refine k_tot0 (pc := 87) fp_X5_53 (by omega) dX5_init_87 ?_
  refine w_aload_n (pc := 90) dX5_init_90 rfl ?_
  refine w_iconst (v := 0) (pc := 91) dX5_init_91 rfl ?_
  refine k_put0 (pc := 92) fp_X5_57 (by omega) rfl rfl (by decide) rfl rfl dX5_init_92 ?_
  refine w_iconst (v := 0) (pc := 95) dX5_init_95 rfl ?_
  refine w_istore_n 1 (pc := 96) rfl dX5_init_96 (by decide) ?_
  exact w_n (by omega) (w_lk (loop1 12 0 _ rfl hC20_1) (lkc rfl (lkc rfl lkn)))
def zM (Z : Nat → Nat → Bool) : Nat → Nat → Bool := (up2 (up2 (up2 (up2 (up2 (up2 (up2 (up2 (up2 (up2 (up2 (up2 (up2 (up2 (up2 (up2 (up2 (up2 (up2 (up2 (up2 (up2 (up2 (up2 (up2 Z (96) 1 true) (96) 3 true) (96) 4 true) (96) 5 true) (96) 6 true) (96) 7 true) (96) 9 true) (96) 10 true) (96) 11 true) (96) 12 true) (96) 13 true) (96) 14 true) (96) 15 true) (96) 16 true) (96) 18 true) (96) 19 true) (96) 20 true) (96) 21 true) (96) 24 true) (96) 25 true) (96) 28 true) (96) 29 true) (96) 30 true) (96) 31 true) (96) 33 true)
def T_iModel : PT := fun as M Q X => ∃ (Z : Nat → Nat → Bool) (F : Nat → Nat), as = [.ref 96] ∧ M = KM (96 + 1) Z F 1 ∧ CK (96 + 1) Z F ∧ (CK 122 (zM Z) F → Q none (KM 122 (zM Z) F 2))
set_option maxHeartbeats 8000000 in
theorem c_X6_init {l : Launch} (hl : l.stackTraces = false) : ConI l yX6_init wX6_init 344 2 T_iModel := by
  refine con_ofI hl (by decide) ?_ ?_
  · intro as M Q X hpt
    obtain ⟨Z, F, rfl, rfl, hC, hQ⟩ := hpt
    exact Nat.le_of_ble_eq_true rfl
  intro G as M Q hl' hd hnm hAo hcl hpt
  obtain ⟨Z, F, rfl, rfl, hC, hQ⟩ := hpt
  have hcl : ∀ a2 b2, gE G a2 → Ext a2 97 b2 → gE G b2 := hcl
  have hC : CK 97 Z F := hC
  show PW G RX6 cX6_init 1 none Q (fun _ _ => False) 344 0 [(0, .ref 96)] [] (KM 97 Z F 1)
  refine w_aload_n (pc := 0) dX6_init_0 rfl ?_
  refine k_obj (pc := 1) ol_X6 (by omega) (Nat.le_of_ble_eq_true rfl) dX6_init_1 ?_
  refine w_aload_n (pc := 4) dX6_init_4 rfl ?_
  refine w_bipush (v := 40) (pc := 5) dX6_init_5 rfl ?_
  refine k_newa (tt := 1) (m := 40) (m0 := 97) (n' := 337) (u := 7) (pc := 7) ac_int rfl (List.mem_of_getElem? (i := 1) rfl) hC rfl (fun k => tI_1 (by omega)) (by omega) hcl (by omega) (by simp only [okL, okS, okV, okN, and_true, true_and]; try omega) (by simp only [okL, okS, okV, okN, and_true, true_and]; try omega) rfl (by decide) (by decide) (by omega) dX6_init_7 (fun b1 => ?_)
  show PW (setr G b1) RX6 cX6_init 1 none Q (fun _ _ => False) 337 9 [(0, .ref (96))] [.ref (97), .ref (96)] (KM (98) Z F 1)
  have hC1_1 := CK.up hC
  refine k_putR (pc := 9) fpf_X6_7 hnm (by omega) rfl rfl (show rf 96 1 = 97 from rfl) rfl rfl dX6_init_9 ?_
  have hC2_1 := CK.set (a := 96) (k := 1) hC1_1 (by omega) (by omega) (Nat.lt_of_le_of_lt (Nat.le_of_eq (show rf 96 1 = 97 from rfl)) (by omega))
  refine w_aload_n (pc := 12) dX6_init_12 rfl ?_
  refine w_bipush (v := 12) (pc := 13) dX6_init_13 rfl ?_
  refine k_newa (tt := 3) (m := 12) (m0 := 97) (n' := 335) (u := 2) (pc := 15) ac_boolean rfl (List.mem_of_getElem? (i := 3) rfl) hC2_1 rfl (fun k => tI_1 (by omega)) (by omega) hcl (by omega) (by simp only [okL, okS, okV, okN, and_true, true_and]; try omega) (by simp only [okL, okS, okV, okN, and_true, true_and]; try omega) rfl (by decide) (by decide) (by omega) dX6_init_15 (fun b2 => ?_)
  show PW (setr G b2) RX6 cX6_init 1 none Q (fun _ _ => False) 335 17 [(0, .ref (96))] [.ref (98), .ref (96)] (KM (99) (up2 Z (96) 1 true) F 1)
  have hC3_1 := CK.up hC2_1
  refine k_putR (pc := 17) fpf_X6_13 hnm (by omega) rfl rfl (show rf 96 3 = 98 from rfl) rfl rfl dX6_init_17 ?_
  have hC4_1 := CK.set (a := 96) (k := 3) hC3_1 (by omega) (by omega) (Nat.lt_of_le_of_lt (Nat.le_of_eq (show rf 96 3 = 98 from rfl)) (by omega))
  refine w_aload_n (pc := 20) dX6_init_20 rfl ?_
  refine w_bipush (v := 12) (pc := 21) dX6_init_21 rfl ?_
  refine k_newa (tt := 1) (m := 12) (m0 := 97) (n' := 333) (u := 2) (pc := 23) ac_int rfl (List.mem_of_getElem? (i := 1) rfl) hC4_1 rfl (fun k => tI_1 (by omega)) (by omega) hcl (by omega) (by simp only [okL, okS, okV, okN, and_true, true_and]; try omega) (by simp only [okL, okS, okV, okN, and_true, true_and]; try omega) rfl (by decide) (by decide) (by omega) dX6_init_23 (fun b3 => ?_)
  show PW (setr G b3) RX6 cX6_init 1 none Q (fun _ _ => False) 333 25 [(0, .ref (96))] [.ref (99), .ref (96)] (KM (100) (up2 (up2 Z (96) 1 true) (96) 3 true) F 1)
  have hC5_1 := CK.up hC4_1
  refine k_putR (pc := 25) fpf_X6_17 hnm (by omega) rfl rfl (show rf 96 4 = 99 from rfl) rfl rfl dX6_init_25 ?_
  have hC6_1 := CK.set (a := 96) (k := 4) hC5_1 (by omega) (by omega) (Nat.lt_of_le_of_lt (Nat.le_of_eq (show rf 96 4 = 99 from rfl)) (by omega))
  refine w_aload_n (pc := 28) dX6_init_28 rfl ?_
  refine w_bipush (v := 12) (pc := 29) dX6_init_29 rfl ?_
  refine k_newa (tt := 1) (m := 12) (m0 := 97) (n' := 331) (u := 2) (pc := 31) ac_int rfl (List.mem_of_getElem? (i := 1) rfl) hC6_1 rfl (fun k => tI_1 (by omega)) (by omega) hcl (by omega) (by simp only [okL, okS, okV, okN, and_true, true_and]; try omega) (by simp only [okL, okS, okV, okN, and_true, true_and]; try omega) rfl (by decide) (by decide) (by omega) dX6_init_31 (fun b4 => ?_)
  show PW (setr G b4) RX6 cX6_init 1 none Q (fun _ _ => False) 331 33 [(0, .ref (96))] [.ref (100), .ref (96)] (KM (101) (up2 (up2 (up2 Z (96) 1 true) (96) 3 true) (96) 4 true) F 1)
  have hC7_1 := CK.up hC6_1
  refine k_putR (pc := 33) fpf_X6_20 hnm (by omega) rfl rfl (show rf 96 5 = 100 from rfl) rfl rfl dX6_init_33 ?_
  have hC8_1 := CK.set (a := 96) (k := 5) hC7_1 (by omega) (by omega) (Nat.lt_of_le_of_lt (Nat.le_of_eq (show rf 96 5 = 100 from rfl)) (by omega))
  refine w_aload_n (pc := 36) dX6_init_36 rfl ?_
  refine w_sipush (v := 576) (pc := 37) dX6_init_37 rfl ?_
  refine k_newa (tt := 1) (m := 576) (m0 := 97) (n' := 235) (u := 96) (pc := 40) ac_int rfl (List.mem_of_getElem? (i := 1) rfl) hC8_1 rfl (fun k => tI_1 (by omega)) (by omega) hcl (by omega) (by simp only [okL, okS, okV, okN, and_true, true_and]; try omega) (by simp only [okL, okS, okV, okN, and_true, true_and]; try omega) rfl (by decide) (by decide) (by omega) dX6_init_40 (fun b5 => ?_)
  show PW (setr G b5) RX6 cX6_init 1 none Q (fun _ _ => False) 235 42 [(0, .ref (96))] [.ref (101), .ref (96)] (KM (102) (up2 (up2 (up2 (up2 Z (96) 1 true) (96) 3 true) (96) 4 true) (96) 5 true) F 1)
  have hC9_1 := CK.up hC8_1
  refine k_putR (pc := 42) fpf_X6_23 hnm (by omega) rfl rfl (show rf 96 6 = 101 from rfl) rfl rfl dX6_init_42 ?_
  have hC10_1 := CK.set (a := 96) (k := 6) hC9_1 (by omega) (by omega) (Nat.lt_of_le_of_lt (Nat.le_of_eq (show rf 96 6 = 101 from rfl)) (by omega))
  refine w_aload_n (pc := 45) dX6_init_45 rfl ?_
  refine w_sipush (v := 576) (pc := 46) dX6_init_46 rfl ?_
  refine k_newa (tt := 1) (m := 576) (m0 := 97) (n' := 139) (u := 96) (pc := 49) ac_int rfl (List.mem_of_getElem? (i := 1) rfl) hC10_1 rfl (fun k => tI_1 (by omega)) (by omega) hcl (by omega) (by simp only [okL, okS, okV, okN, and_true, true_and]; try omega) (by simp only [okL, okS, okV, okN, and_true, true_and]; try omega) rfl (by decide) (by decide) (by omega) dX6_init_49 (fun b6 => ?_)
  show PW (setr G b6) RX6 cX6_init 1 none Q (fun _ _ => False) 139 51 [(0, .ref (96))] [.ref (102), .ref (96)] (KM (103) (up2 (up2 (up2 (up2 (up2 Z (96) 1 true) (96) 3 true) (96) 4 true) (96) 5 true) (96) 6 true) F 1)
  have hC11_1 := CK.up hC10_1
  refine k_putR (pc := 51) fpf_X6_26 hnm (by omega) rfl rfl (show rf 96 7 = 102 from rfl) rfl rfl dX6_init_51 ?_
  have hC12_1 := CK.set (a := 96) (k := 7) hC11_1 (by omega) (by omega) (Nat.lt_of_le_of_lt (Nat.le_of_eq (show rf 96 7 = 102 from rfl)) (by omega))
  refine w_aload_n (pc := 54) dX6_init_54 rfl ?_
  refine w_bipush (v := 11) (pc := 55) dX6_init_55 rfl ?_
  refine k_tot1 (pc := 57) fp_X6_29 (by omega) dX6_init_57 ?_
  refine w_aload_n (pc := 60) dX6_init_60 rfl ?_
  refine w_iconst (v := 3) (pc := 61) dX6_init_61 rfl ?_
  refine k_newa (tt := 1) (m := 3) (m0 := 97) (n' := 138) (u := 1) (pc := 62) ac_int rfl (List.mem_of_getElem? (i := 1) rfl) hC12_1 rfl (fun k => tI_2 (by omega) (by omega)) (by omega) hcl (by omega) (by simp only [okL, okS, okV, okN, and_true, true_and]; try omega) (by simp only [okL, okS, okV, okN, and_true, true_and]; try omega) rfl (by decide) (by decide) (by omega) dX6_init_62 (fun b7 => ?_)
  show PW (setr G b7) RX6 cX6_init 1 none Q (fun _ _ => False) 138 64 [(0, .ref (96))] [.ref (103), .ref (96)] (KM (104) (up2 (up2 (up2 (up2 (up2 (up2 Z (96) 1 true) (96) 3 true) (96) 4 true) (96) 5 true) (96) 6 true) (96) 7 true) F 2)
  have hC13_1 := CK.up hC12_1
  refine k_putR (pc := 64) fpf_X6_33 hnm (by omega) rfl rfl (show rf 96 9 = 103 from rfl) rfl rfl dX6_init_64 ?_
  have hC14_1 := CK.set (a := 96) (k := 9) hC13_1 (by omega) (by omega) (Nat.lt_of_le_of_lt (Nat.le_of_eq (show rf 96 9 = 103 from rfl)) (by omega))
  refine w_aload_n (pc := 67) dX6_init_67 rfl ?_
  refine w_bipush (v := 12) (pc := 68) dX6_init_68 rfl ?_
  refine k_newa (tt := 1) (m := 12) (m0 := 97) (n' := 136) (u := 2) (pc := 70) ac_int rfl (List.mem_of_getElem? (i := 1) rfl) hC14_1 rfl (fun k => tI_2 (by omega) (by omega)) (by omega) hcl (by omega) (by simp only [okL, okS, okV, okN, and_true, true_and]; try omega) (by simp only [okL, okS, okV, okN, and_true, true_and]; try omega) rfl (by decide) (by decide) (by omega) dX6_init_70 (fun b8 => ?_)
  show PW (setr G b8) RX6 cX6_init 1 none Q (fun _ _ => False) 136 72 [(0, .ref (96))] [.ref (104), .ref (96)] (KM (105) (up2 (up2 (up2 (up2 (up2 (up2 (up2 Z (96) 1 true) (96) 3 true) (96) 4 true) (96) 5 true) (96) 6 true) (96) 7 true) (96) 9 true) F 2)
  have hC15_1 := CK.up hC14_1
  refine k_putR (pc := 72) fpf_X6_36 hnm (by omega) rfl rfl (show rf 96 10 = 104 from rfl) rfl rfl dX6_init_72 ?_
  have hC16_1 := CK.set (a := 96) (k := 10) hC15_1 (by omega) (by omega) (Nat.lt_of_le_of_lt (Nat.le_of_eq (show rf 96 10 = 104 from rfl)) (by omega))
  refine w_aload_n (pc := 75) dX6_init_75 rfl ?_
  refine w_bipush (v := 12) (pc := 76) dX6_init_76 rfl ?_
  refine k_newa (tt := 1) (m := 12) (m0 := 97) (n' := 134) (u := 2) (pc := 78) ac_int rfl (List.mem_of_getElem? (i := 1) rfl) hC16_1 rfl (fun k => tI_2 (by omega) (by omega)) (by omega) hcl (by omega) (by simp only [okL, okS, okV, okN, and_true, true_and]; try omega) (by simp only [okL, okS, okV, okN, and_true, true_and]; try omega) rfl (by decide) (by decide) (by omega) dX6_init_78 (fun b9 => ?_)
  show PW (setr G b9) RX6 cX6_init 1 none Q (fun _ _ => False) 134 80 [(0, .ref (96))] [.ref (105), .ref (96)] (KM (106) (up2 (up2 (up2 (up2 (up2 (up2 (up2 (up2 Z (96) 1 true) (96) 3 true) (96) 4 true) (96) 5 true) (96) 6 true) (96) 7 true) (96) 9 true) (96) 10 true) F 2)
  have hC17_1 := CK.up hC16_1
  refine k_putR (pc := 80) fpf_X6_39 hnm (by omega) rfl rfl (show rf 96 11 = 105 from rfl) rfl rfl dX6_init_80 ?_
  have hC18_1 := CK.set (a := 96) (k := 11) hC17_1 (by omega) (by omega) (Nat.lt_of_le_of_lt (Nat.le_of_eq (show rf 96 11 = 105 from rfl)) (by omega))
  refine w_aload_n (pc := 83) dX6_init_83 rfl ?_
  refine w_iconst (v := 3) (pc := 84) dX6_init_84 rfl ?_
  refine k_newa (tt := 1) (m := 3) (m0 := 97) (n' := 133) (u := 1) (pc := 85) ac_int rfl (List.mem_of_getElem? (i := 1) rfl) hC18_1 rfl (fun k => tI_2 (by omega) (by omega)) (by omega) hcl (by omega) (by simp only [okL, okS, okV, okN, and_true, true_and]; try omega) (by simp only [okL, okS, okV, okN, and_true, true_and]; try omega) rfl (by decide) (by decide) (by omega) dX6_init_85 (fun b10 => ?_)
  show PW (setr G b10) RX6 cX6_init 1 none Q (fun _ _ => False) 133 87 [(0, .ref (96))] [.ref (106), .ref (96)] (KM (107) (up2 (up2 (up2 (up2 (up2 (up2 (up2 (up2 (up2 Z (96) 1 true) (96) 3 true) (96) 4 true) (96) 5 true) (96) 6 true) (96) 7 true) (96) 9 true) (96) 10 true) (96) 11 true) F 2)
  have hC19_1 := CK.up hC18_1
  refine k_putR (pc := 87) fpf_X6_42 hnm (by omega) rfl rfl (show rf 96 12 = 106 from rfl) rfl rfl dX6_init_87 ?_
  have hC20_1 := CK.set (a := 96) (k := 12) hC19_1 (by omega) (by omega) (Nat.lt_of_le_of_lt (Nat.le_of_eq (show rf 96 12 = 106 from rfl)) (by omega))
  refine w_aload_n (pc := 90) dX6_init_90 rfl ?_
  refine w_sipush (v := 144) (pc := 91) dX6_init_91 rfl ?_
  refine k_newa (tt := 1) (m := 144) (m0 := 97) (n' := 109) (u := 24) (pc := 94) ac_int rfl (List.mem_of_getElem? (i := 1) rfl) hC20_1 rfl (fun k => tI_2 (by omega) (by omega)) (by omega) hcl (by omega) (by simp only [okL, okS, okV, okN, and_true, true_and]; try omega) (by simp only [okL, okS, okV, okN, and_true, true_and]; try omega) rfl (by decide) (by decide) (by omega) dX6_init_94 (fun b11 => ?_)
  show PW (setr G b11) RX6 cX6_init 1 none Q (fun _ _ => False) 109 96 [(0, .ref (96))] [.ref (107), .ref (96)] (KM (108) (up2 (up2 (up2 (up2 (up2 (up2 (up2 (up2 (up2 (up2 Z (96) 1 true) (96) 3 true) (96) 4 true) (96) 5 true) (96) 6 true) (96) 7 true) (96) 9 true) (96) 10 true) (96) 11 true) (96) 12 true) F 2)
  have hC21_1 := CK.up hC20_1
  refine k_putR (pc := 96) fpf_X6_45 hnm (by omega) rfl rfl (show rf 96 13 = 107 from rfl) rfl rfl dX6_init_96 ?_
  have hC22_1 := CK.set (a := 96) (k := 13) hC21_1 (by omega) (by omega) (Nat.lt_of_le_of_lt (Nat.le_of_eq (show rf 96 13 = 107 from rfl)) (by omega))
  refine w_aload_n (pc := 99) dX6_init_99 rfl ?_
  refine w_bipush (v := 12) (pc := 100) dX6_init_100 rfl ?_
  refine k_newa (tt := 3) (m := 12) (m0 := 97) (n' := 107) (u := 2) (pc := 102) ac_boolean rfl (List.mem_of_getElem? (i := 3) rfl) hC22_1 rfl (fun k => tI_2 (by omega) (by omega)) (by omega) hcl (by omega) (by simp only [okL, okS, okV, okN, and_true, true_and]; try omega) (by simp only [okL, okS, okV, okN, and_true, true_and]; try omega) rfl (by decide) (by decide) (by omega) dX6_init_102 (fun b12 => ?_)
  show PW (setr G b12) RX6 cX6_init 1 none Q (fun _ _ => False) 107 104 [(0, .ref (96))] [.ref (108), .ref (96)] (KM (109) (up2 (up2 (up2 (up2 (up2 (up2 (up2 (up2 (up2 (up2 (up2 Z (96) 1 true) (96) 3 true) (96) 4 true) (96) 5 true) (96) 6 true) (96) 7 true) (96) 9 true) (96) 10 true) (96) 11 true) (96) 12 true) (96) 13 true) F 2)
  have hC23_1 := CK.up hC22_1
  refine k_putR (pc := 104) fpf_X6_48 hnm (by omega) rfl rfl (show rf 96 14 = 108 from rfl) rfl rfl dX6_init_104 ?_
  have hC24_1 := CK.set (a := 96) (k := 14) hC23_1 (by omega) (by omega) (Nat.lt_of_le_of_lt (Nat.le_of_eq (show rf 96 14 = 108 from rfl)) (by omega))
  refine w_aload_n (pc := 107) dX6_init_107 rfl ?_
  refine w_sipush (v := 144) (pc := 108) dX6_init_108 rfl ?_
  refine k_newa (tt := 2) (m := 144) (m0 := 97) (n' := 83) (u := 24) (pc := 111) ac_long rfl (List.mem_of_getElem? (i := 2) rfl) hC24_1 rfl (fun k => tI_2 (by omega) (by omega)) (by omega) hcl (by omega) (by simp only [okL, okS, okV, okN, and_true, true_and]; try omega) (by simp only [okL, okS, okV, okN, and_true, true_and]; try omega) rfl (by decide) (by decide) (by omega) dX6_init_111 (fun b13 => ?_)
  show PW (setr G b13) RX6 cX6_init 1 none Q (fun _ _ => False) 83 113 [(0, .ref (96))] [.ref (109), .ref (96)] (KM (110) (up2 (up2 (up2 (up2 (up2 (up2 (up2 (up2 (up2 (up2 (up2 (up2 Z (96) 1 true) (96) 3 true) (96) 4 true) (96) 5 true) (96) 6 true) (96) 7 true) (96) 9 true) (96) 10 true) (96) 11 true) (96) 12 true) (96) 13 true) (96) 14 true) F 2)
  have hC25_1 := CK.up hC24_1
  refine k_putR (pc := 113) fpf_X6_51 hnm (by omega) rfl rfl (show rf 96 15 = 109 from rfl) rfl rfl dX6_init_113 ?_
  have hC26_1 := CK.set (a := 96) (k := 15) hC25_1 (by omega) (by omega) (Nat.lt_of_le_of_lt (Nat.le_of_eq (show rf 96 15 = 109 from rfl)) (by omega))
  refine w_aload_n (pc := 116) dX6_init_116 rfl ?_
  refine w_bipush (v := 12) (pc := 117) dX6_init_117 rfl ?_
  refine k_newa (tt := 2) (m := 12) (m0 := 97) (n' := 81) (u := 2) (pc := 119) ac_long rfl (List.mem_of_getElem? (i := 2) rfl) hC26_1 rfl (fun k => tI_2 (by omega) (by omega)) (by omega) hcl (by omega) (by simp only [okL, okS, okV, okN, and_true, true_and]; try omega) (by simp only [okL, okS, okV, okN, and_true, true_and]; try omega) rfl (by decide) (by decide) (by omega) dX6_init_119 (fun b14 => ?_)
  show PW (setr G b14) RX6 cX6_init 1 none Q (fun _ _ => False) 81 121 [(0, .ref (96))] [.ref (110), .ref (96)] (KM (111) (up2 (up2 (up2 (up2 (up2 (up2 (up2 (up2 (up2 (up2 (up2 (up2 (up2 Z (96) 1 true) (96) 3 true) (96) 4 true) (96) 5 true) (96) 6 true) (96) 7 true) (96) 9 true) (96) 10 true) (96) 11 true) (96) 12 true) (96) 13 true) (96) 14 true) (96) 15 true) F 2)
  have hC27_1 := CK.up hC26_1
  refine k_putR (pc := 121) fpf_X6_55 hnm (by omega) rfl rfl (show rf 96 16 = 110 from rfl) rfl rfl dX6_init_121 ?_
  have hC28_1 := CK.set (a := 96) (k := 16) hC27_1 (by omega) (by omega) (Nat.lt_of_le_of_lt (Nat.le_of_eq (show rf 96 16 = 110 from rfl)) (by omega))
  refine w_aload_n (pc := 124) dX6_init_124 rfl ?_
  refine w_iconst (v := 3) (pc := 125) dX6_init_125 rfl ?_
  refine k_newa (tt := 1) (m := 3) (m0 := 97) (n' := 80) (u := 1) (pc := 126) ac_int rfl (List.mem_of_getElem? (i := 1) rfl) hC28_1 rfl (fun k => tI_2 (by omega) (by omega)) (by omega) hcl (by omega) (by simp only [okL, okS, okV, okN, and_true, true_and]; try omega) (by simp only [okL, okS, okV, okN, and_true, true_and]; try omega) rfl (by decide) (by decide) (by omega) dX6_init_126 (fun b15 => ?_)
  show PW (setr G b15) RX6 cX6_init 1 none Q (fun _ _ => False) 80 128 [(0, .ref (96))] [.ref (111), .ref (96)] (KM (112) (up2 (up2 (up2 (up2 (up2 (up2 (up2 (up2 (up2 (up2 (up2 (up2 (up2 (up2 Z (96) 1 true) (96) 3 true) (96) 4 true) (96) 5 true) (96) 6 true) (96) 7 true) (96) 9 true) (96) 10 true) (96) 11 true) (96) 12 true) (96) 13 true) (96) 14 true) (96) 15 true) (96) 16 true) F 2)
  have hC29_1 := CK.up hC28_1
  refine k_putR (pc := 128) fpf_X6_58 hnm (by omega) rfl rfl (show rf 96 18 = 111 from rfl) rfl rfl dX6_init_128 ?_
  have hC30_1 := CK.set (a := 96) (k := 18) hC29_1 (by omega) (by omega) (Nat.lt_of_le_of_lt (Nat.le_of_eq (show rf 96 18 = 111 from rfl)) (by omega))
  refine w_aload_n (pc := 131) dX6_init_131 rfl ?_
  refine w_bipush (v := 72) (pc := 132) dX6_init_132 rfl ?_
  refine k_newa (tt := 1) (m := 72) (m0 := 97) (n' := 68) (u := 12) (pc := 134) ac_int rfl (List.mem_of_getElem? (i := 1) rfl) hC30_1 rfl (fun k => tI_2 (by omega) (by omega)) (by omega) hcl (by omega) (by simp only [okL, okS, okV, okN, and_true, true_and]; try omega) (by simp only [okL, okS, okV, okN, and_true, true_and]; try omega) rfl (by decide) (by decide) (by omega) dX6_init_134 (fun b16 => ?_)
  show PW (setr G b16) RX6 cX6_init 1 none Q (fun _ _ => False) 68 136 [(0, .ref (96))] [.ref (112), .ref (96)] (KM (113) (up2 (up2 (up2 (up2 (up2 (up2 (up2 (up2 (up2 (up2 (up2 (up2 (up2 (up2 (up2 Z (96) 1 true) (96) 3 true) (96) 4 true) (96) 5 true) (96) 6 true) (96) 7 true) (96) 9 true) (96) 10 true) (96) 11 true) (96) 12 true) (96) 13 true) (96) 14 true) (96) 15 true) (96) 16 true) (96) 18 true) F 2)
  have hC31_1 := CK.up hC30_1
  refine k_putR (pc := 136) fpf_X6_61 hnm (by omega) rfl rfl (show rf 96 19 = 112 from rfl) rfl rfl dX6_init_136 ?_
  have hC32_1 := CK.set (a := 96) (k := 19) hC31_1 (by omega) (by omega) (Nat.lt_of_le_of_lt (Nat.le_of_eq (show rf 96 19 = 112 from rfl)) (by omega))
  refine w_aload_n (pc := 139) dX6_init_139 rfl ?_
  refine w_bipush (v := 72) (pc := 140) dX6_init_140 rfl ?_
  refine k_newa (tt := 1) (m := 72) (m0 := 97) (n' := 56) (u := 12) (pc := 142) ac_int rfl (List.mem_of_getElem? (i := 1) rfl) hC32_1 rfl (fun k => tI_2 (by omega) (by omega)) (by omega) hcl (by omega) (by simp only [okL, okS, okV, okN, and_true, true_and]; try omega) (by simp only [okL, okS, okV, okN, and_true, true_and]; try omega) rfl (by decide) (by decide) (by omega) dX6_init_142 (fun b17 => ?_)
  show PW (setr G b17) RX6 cX6_init 1 none Q (fun _ _ => False) 56 144 [(0, .ref (96))] [.ref (113), .ref (96)] (KM (114) (up2 (up2 (up2 (up2 (up2 (up2 (up2 (up2 (up2 (up2 (up2 (up2 (up2 (up2 (up2 (up2 Z (96) 1 true) (96) 3 true) (96) 4 true) (96) 5 true) (96) 6 true) (96) 7 true) (96) 9 true) (96) 10 true) (96) 11 true) (96) 12 true) (96) 13 true) (96) 14 true) (96) 15 true) (96) 16 true) (96) 18 true) (96) 19 true) F 2)
  have hC33_1 := CK.up hC32_1
  refine k_putR (pc := 144) fpf_X6_64 hnm (by omega) rfl rfl (show rf 96 20 = 113 from rfl) rfl rfl dX6_init_144 ?_
  have hC34_1 := CK.set (a := 96) (k := 20) hC33_1 (by omega) (by omega) (Nat.lt_of_le_of_lt (Nat.le_of_eq (show rf 96 20 = 113 from rfl)) (by omega))
  refine w_aload_n (pc := 147) dX6_init_147 rfl ?_
  refine w_bipush (v := 72) (pc := 148) dX6_init_148 rfl ?_
  refine k_newa (tt := 2) (m := 72) (m0 := 97) (n' := 44) (u := 12) (pc := 150) ac_long rfl (List.mem_of_getElem? (i := 2) rfl) hC34_1 rfl (fun k => tI_2 (by omega) (by omega)) (by omega) hcl (by omega) (by simp only [okL, okS, okV, okN, and_true, true_and]; try omega) (by simp only [okL, okS, okV, okN, and_true, true_and]; try omega) rfl (by decide) (by decide) (by omega) dX6_init_150 (fun b18 => ?_)
  show PW (setr G b18) RX6 cX6_init 1 none Q (fun _ _ => False) 44 152 [(0, .ref (96))] [.ref (114), .ref (96)] (KM (115) (up2 (up2 (up2 (up2 (up2 (up2 (up2 (up2 (up2 (up2 (up2 (up2 (up2 (up2 (up2 (up2 (up2 Z (96) 1 true) (96) 3 true) (96) 4 true) (96) 5 true) (96) 6 true) (96) 7 true) (96) 9 true) (96) 10 true) (96) 11 true) (96) 12 true) (96) 13 true) (96) 14 true) (96) 15 true) (96) 16 true) (96) 18 true) (96) 19 true) (96) 20 true) F 2)
  have hC35_1 := CK.up hC34_1
  refine k_putR (pc := 152) fpf_X6_67 hnm (by omega) rfl rfl (show rf 96 21 = 114 from rfl) rfl rfl dX6_init_152 ?_
  have hC36_1 := CK.set (a := 96) (k := 21) hC35_1 (by omega) (by omega) (Nat.lt_of_le_of_lt (Nat.le_of_eq (show rf 96 21 = 114 from rfl)) (by omega))
  refine w_aload_n (pc := 155) dX6_init_155 rfl ?_
  refine w_bipush (v := 48) (pc := 156) dX6_init_156 rfl ?_
  refine k_newa (tt := 1) (m := 48) (m0 := 97) (n' := 36) (u := 8) (pc := 158) ac_int rfl (List.mem_of_getElem? (i := 1) rfl) hC36_1 rfl (fun k => tI_2 (by omega) (by omega)) (by omega) hcl (by omega) (by simp only [okL, okS, okV, okN, and_true, true_and]; try omega) (by simp only [okL, okS, okV, okN, and_true, true_and]; try omega) rfl (by decide) (by decide) (by omega) dX6_init_158 (fun b19 => ?_)
  show PW (setr G b19) RX6 cX6_init 1 none Q (fun _ _ => False) 36 160 [(0, .ref (96))] [.ref (115), .ref (96)] (KM (116) (up2 (up2 (up2 (up2 (up2 (up2 (up2 (up2 (up2 (up2 (up2 (up2 (up2 (up2 (up2 (up2 (up2 (up2 Z (96) 1 true) (96) 3 true) (96) 4 true) (96) 5 true) (96) 6 true) (96) 7 true) (96) 9 true) (96) 10 true) (96) 11 true) (96) 12 true) (96) 13 true) (96) 14 true) (96) 15 true) (96) 16 true) (96) 18 true) (96) 19 true) (96) 20 true) (96) 21 true) F 2)
  have hC37_1 := CK.up hC36_1
  refine k_putR (pc := 160) fpf_X6_70 hnm (by omega) rfl rfl (show rf 96 24 = 115 from rfl) rfl rfl dX6_init_160 ?_
  have hC38_1 := CK.set (a := 96) (k := 24) hC37_1 (by omega) (by omega) (Nat.lt_of_le_of_lt (Nat.le_of_eq (show rf 96 24 = 115 from rfl)) (by omega))
  refine w_aload_n (pc := 163) dX6_init_163 rfl ?_
  refine w_bipush (v := 48) (pc := 164) dX6_init_164 rfl ?_
  refine k_newa (tt := 1) (m := 48) (m0 := 97) (n' := 28) (u := 8) (pc := 166) ac_int rfl (List.mem_of_getElem? (i := 1) rfl) hC38_1 rfl (fun k => tI_2 (by omega) (by omega)) (by omega) hcl (by omega) (by simp only [okL, okS, okV, okN, and_true, true_and]; try omega) (by simp only [okL, okS, okV, okN, and_true, true_and]; try omega) rfl (by decide) (by decide) (by omega) dX6_init_166 (fun b20 => ?_)
  show PW (setr G b20) RX6 cX6_init 1 none Q (fun _ _ => False) 28 168 [(0, .ref (96))] [.ref (116), .ref (96)] (KM (117) (up2 (up2 (up2 (up2 (up2 (up2 (up2 (up2 (up2 (up2 (up2 (up2 (up2 (up2 (up2 (up2 (up2 (up2 (up2 Z (96) 1 true) (96) 3 true) (96) 4 true) (96) 5 true) (96) 6 true) (96) 7 true) (96) 9 true) (96) 10 true) (96) 11 true) (96) 12 true) (96) 13 true) (96) 14 true) (96) 15 true) (96) 16 true) (96) 18 true) (96) 19 true) (96) 20 true) (96) 21 true) (96) 24 true) F 2)
  have hC39_1 := CK.up hC38_1
  refine k_putR (pc := 168) fpf_X6_73 hnm (by omega) rfl rfl (show rf 96 25 = 116 from rfl) rfl rfl dX6_init_168 ?_
  have hC40_1 := CK.set (a := 96) (k := 25) hC39_1 (by omega) (by omega) (Nat.lt_of_le_of_lt (Nat.le_of_eq (show rf 96 25 = 116 from rfl)) (by omega))
  refine w_aload_n (pc := 171) dX6_init_171 rfl ?_
  refine w_bipush (v := 48) (pc := 172) dX6_init_172 rfl ?_
  refine k_newa (tt := 1) (m := 48) (m0 := 97) (n' := 20) (u := 8) (pc := 174) ac_int rfl (List.mem_of_getElem? (i := 1) rfl) hC40_1 rfl (fun k => tI_2 (by omega) (by omega)) (by omega) hcl (by omega) (by simp only [okL, okS, okV, okN, and_true, true_and]; try omega) (by simp only [okL, okS, okV, okN, and_true, true_and]; try omega) rfl (by decide) (by decide) (by omega) dX6_init_174 (fun b21 => ?_)
  show PW (setr G b21) RX6 cX6_init 1 none Q (fun _ _ => False) 20 176 [(0, .ref (96))] [.ref (117), .ref (96)] (KM (118) (up2 (up2 (up2 (up2 (up2 (up2 (up2 (up2 (up2 (up2 (up2 (up2 (up2 (up2 (up2 (up2 (up2 (up2 (up2 (up2 Z (96) 1 true) (96) 3 true) (96) 4 true) (96) 5 true) (96) 6 true) (96) 7 true) (96) 9 true) (96) 10 true) (96) 11 true) (96) 12 true) (96) 13 true) (96) 14 true) (96) 15 true) (96) 16 true) (96) 18 true) (96) 19 true) (96) 20 true) (96) 21 true) (96) 24 true) (96) 25 true) F 2)
  have hC41_1 := CK.up hC40_1
  refine k_putR (pc := 176) fpf_X6_76 hnm (by omega) rfl rfl (show rf 96 28 = 117 from rfl) rfl rfl dX6_init_176 ?_
  have hC42_1 := CK.set (a := 96) (k := 28) hC41_1 (by omega) (by omega) (Nat.lt_of_le_of_lt (Nat.le_of_eq (show rf 96 28 = 117 from rfl)) (by omega))
  refine w_aload_n (pc := 179) dX6_init_179 rfl ?_
  refine w_bipush (v := 48) (pc := 180) dX6_init_180 rfl ?_
  refine k_newa (tt := 1) (m := 48) (m0 := 97) (n' := 12) (u := 8) (pc := 182) ac_int rfl (List.mem_of_getElem? (i := 1) rfl) hC42_1 rfl (fun k => tI_2 (by omega) (by omega)) (by omega) hcl (by omega) (by simp only [okL, okS, okV, okN, and_true, true_and]; try omega) (by simp only [okL, okS, okV, okN, and_true, true_and]; try omega) rfl (by decide) (by decide) (by omega) dX6_init_182 (fun b22 => ?_)
  show PW (setr G b22) RX6 cX6_init 1 none Q (fun _ _ => False) 12 184 [(0, .ref (96))] [.ref (118), .ref (96)] (KM (119) (up2 (up2 (up2 (up2 (up2 (up2 (up2 (up2 (up2 (up2 (up2 (up2 (up2 (up2 (up2 (up2 (up2 (up2 (up2 (up2 (up2 Z (96) 1 true) (96) 3 true) (96) 4 true) (96) 5 true) (96) 6 true) (96) 7 true) (96) 9 true) (96) 10 true) (96) 11 true) (96) 12 true) (96) 13 true) (96) 14 true) (96) 15 true) (96) 16 true) (96) 18 true) (96) 19 true) (96) 20 true) (96) 21 true) (96) 24 true) (96) 25 true) (96) 28 true) F 2)
  have hC43_1 := CK.up hC42_1
  refine k_putR (pc := 184) fpf_X6_79 hnm (by omega) rfl rfl (show rf 96 29 = 118 from rfl) rfl rfl dX6_init_184 ?_
  have hC44_1 := CK.set (a := 96) (k := 29) hC43_1 (by omega) (by omega) (Nat.lt_of_le_of_lt (Nat.le_of_eq (show rf 96 29 = 118 from rfl)) (by omega))
  refine w_aload_n (pc := 187) dX6_init_187 rfl ?_
  refine w_bipush (v := 12) (pc := 188) dX6_init_188 rfl ?_
  refine k_newa (tt := 1) (m := 12) (m0 := 97) (n' := 10) (u := 2) (pc := 190) ac_int rfl (List.mem_of_getElem? (i := 1) rfl) hC44_1 rfl (fun k => tI_2 (by omega) (by omega)) (by omega) hcl (by omega) (by simp only [okL, okS, okV, okN, and_true, true_and]; try omega) (by simp only [okL, okS, okV, okN, and_true, true_and]; try omega) rfl (by decide) (by decide) (by omega) dX6_init_190 (fun b23 => ?_)
  show PW (setr G b23) RX6 cX6_init 1 none Q (fun _ _ => False) 10 192 [(0, .ref (96))] [.ref (119), .ref (96)] (KM (120) (up2 (up2 (up2 (up2 (up2 (up2 (up2 (up2 (up2 (up2 (up2 (up2 (up2 (up2 (up2 (up2 (up2 (up2 (up2 (up2 (up2 (up2 Z (96) 1 true) (96) 3 true) (96) 4 true) (96) 5 true) (96) 6 true) (96) 7 true) (96) 9 true) (96) 10 true) (96) 11 true) (96) 12 true) (96) 13 true) (96) 14 true) (96) 15 true) (96) 16 true) (96) 18 true) (96) 19 true) (96) 20 true) (96) 21 true) (96) 24 true) (96) 25 true) (96) 28 true) (96) 29 true) F 2)
  have hC45_1 := CK.up hC44_1
  refine k_putR (pc := 192) fpf_X6_82 hnm (by omega) rfl rfl (show rf 96 30 = 119 from rfl) rfl rfl dX6_init_192 ?_
  have hC46_1 := CK.set (a := 96) (k := 30) hC45_1 (by omega) (by omega) (Nat.lt_of_le_of_lt (Nat.le_of_eq (show rf 96 30 = 119 from rfl)) (by omega))
  refine w_aload_n (pc := 195) dX6_init_195 rfl ?_
  refine w_bipush (v := 12) (pc := 196) dX6_init_196 rfl ?_
  refine k_newa (tt := 2) (m := 12) (m0 := 97) (n' := 8) (u := 2) (pc := 198) ac_long rfl (List.mem_of_getElem? (i := 2) rfl) hC46_1 rfl (fun k => tI_2 (by omega) (by omega)) (by omega) hcl (by omega) (by simp only [okL, okS, okV, okN, and_true, true_and]; try omega) (by simp only [okL, okS, okV, okN, and_true, true_and]; try omega) rfl (by decide) (by decide) (by omega) dX6_init_198 (fun b24 => ?_)
  show PW (setr G b24) RX6 cX6_init 1 none Q (fun _ _ => False) 8 200 [(0, .ref (96))] [.ref (120), .ref (96)] (KM (121) (up2 (up2 (up2 (up2 (up2 (up2 (up2 (up2 (up2 (up2 (up2 (up2 (up2 (up2 (up2 (up2 (up2 (up2 (up2 (up2 (up2 (up2 (up2 Z (96) 1 true) (96) 3 true) (96) 4 true) (96) 5 true) (96) 6 true) (96) 7 true) (96) 9 true) (96) 10 true) (96) 11 true) (96) 12 true) (96) 13 true) (96) 14 true) (96) 15 true) (96) 16 true) (96) 18 true) (96) 19 true) (96) 20 true) (96) 21 true) (96) 24 true) (96) 25 true) (96) 28 true) (96) 29 true) (96) 30 true) F 2)
  have hC47_1 := CK.up hC46_1
  refine k_putR (pc := 200) fpf_X6_85 hnm (by omega) rfl rfl (show rf 96 31 = 120 from rfl) rfl rfl dX6_init_200 ?_
  have hC48_1 := CK.set (a := 96) (k := 31) hC47_1 (by omega) (by omega) (Nat.lt_of_le_of_lt (Nat.le_of_eq (show rf 96 31 = 120 from rfl)) (by omega))
  refine w_aload_n (pc := 203) dX6_init_203 rfl ?_
  refine w_bipush (v := 48) (pc := 204) dX6_init_204 rfl ?_
  refine k_newa (tt := 2) (m := 48) (m0 := 97) (n' := 0) (u := 8) (pc := 206) ac_long rfl (List.mem_of_getElem? (i := 2) rfl) hC48_1 rfl (fun k => tI_2 (by omega) (by omega)) (by omega) hcl (by omega) (by simp only [okL, okS, okV, okN, and_true, true_and]; try omega) (by simp only [okL, okS, okV, okN, and_true, true_and]; try omega) rfl (by decide) (by decide) (by omega) dX6_init_206 (fun b25 => ?_)
  show PW (setr G b25) RX6 cX6_init 1 none Q (fun _ _ => False) 0 208 [(0, .ref (96))] [.ref (121), .ref (96)] (KM (122) (up2 (up2 (up2 (up2 (up2 (up2 (up2 (up2 (up2 (up2 (up2 (up2 (up2 (up2 (up2 (up2 (up2 (up2 (up2 (up2 (up2 (up2 (up2 (up2 Z (96) 1 true) (96) 3 true) (96) 4 true) (96) 5 true) (96) 6 true) (96) 7 true) (96) 9 true) (96) 10 true) (96) 11 true) (96) 12 true) (96) 13 true) (96) 14 true) (96) 15 true) (96) 16 true) (96) 18 true) (96) 19 true) (96) 20 true) (96) 21 true) (96) 24 true) (96) 25 true) (96) 28 true) (96) 29 true) (96) 30 true) (96) 31 true) F 2)
  have hC49_1 := CK.up hC48_1
  refine k_putR (pc := 208) fpf_X6_88 hnm (by omega) rfl rfl (show rf 96 33 = 121 from rfl) rfl rfl dX6_init_208 ?_
  have hC50_1 := CK.set (a := 96) (k := 33) hC49_1 (by omega) (by omega) (Nat.lt_of_le_of_lt (Nat.le_of_eq (show rf 96 33 = 121 from rfl)) (by omega))
  refine w_return (pc := 211) dX6_init_211 ?_
  exact hQ hC50_1
