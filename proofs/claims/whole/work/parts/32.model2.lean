/-! ACCOUNTS AND RETURNS OF THE REFERENCE -/
theorem cm412 (i j k : Nat) : (12 : Int32) * ((4 : Int32) * nI i + nI j) + nI k = nI (12 * (4 * i + j) + k) := by rw [cm4, cm12]
def T_mFile : PT := fun as M Q X => ∃ t y z v : Int32, as = [.ref 96, .int t, .int y, .int z, .int v] ∧ Full M ∧ (¬ (ix t 3 ∧ ix y 4 ∧ ix z 12) → Q (some (.int 0)) (thr M 1)) ∧ (∀ i j k, i < 3 → j < 4 → k < 12 → t = nI i → y = nI j → z = nI k → ((¬ mI M 98 k = 0 ∨ v < -1000000000 ∨ 1000000000 < v) → Q (some (.int 0)) (thr M 2)) ∧ (mI M 98 k = 0 → ¬ v < -1000000000 → ¬ 1000000000 < v → Q (some (.int (mI M 107 (12 * (4 * i + j) + k)))) (sI (sI M 96 0 0) 107 (12 * (4 * i + j) + k) v)))
theorem c_X6_file {l : Launch} (hl : l.stackTraces = false) : Con l yX6_file wX6_file 0 2 (T_mFile) := by
  refine con_of hl (by decide) ?_ ?_
  · intro as M Q X hpt
    obtain ⟨t, y, z, v, rfl, hF, hX1, hQ0⟩ := hpt
    exact Nat.le_of_ble_eq_true rfl
  intro G as M Q X hl' hT hd hpt
  obtain ⟨t, y, z, v, rfl, hF, hX1, hQ0⟩ := hpt
  have hG : (gl G).stackTraces = false := by rw [hl']; exact hl
  show PW G RX6 cX6_file 7 (some .int) Q X 0 0 [(0, .ref 96), (1, .int t), (2, .int y), (3, .int z), (4, .int v)] [] M
  refine w_aload_n (pc := 0) dX6_file_0 rfl ?_
  refine w_iconst (v := 0) (pc := 1) dX6_file_1 rfl ?_
  refine w_putI (pc := 2) fp_X6_91 hF (by first | assumption | exact ob rfl) rfl dX6_file_2 ?_
  refine w_iload_n (pc := 5) dX6_file_5 rfl ?_
  refine w_i2l (pc := 6) dX6_file_6 ?_
  refine w_lconst (v := 0) (pc := 7) dX6_file_7 rfl ?_
  refine w_ldc2 (pc := 8) kl_X6_135 dX6_file_8 ?_
  refine w_callS3 (n' := 0) (pc := 11) (c_X6_in hG) cs_X6_137 hT (by omega) (by decide) (Nat.le_of_ble_eq_true rfl) dX6_file_11 ?_
  refine ⟨_, _, _, rfl, ?_⟩
  dsimp only [psh]
  refine w_if_eq 41 (pc := 14) dX6_file_14 (by decide) (fun h14 => ?_) (fun h14 => ?_)
  · have hx14 := ix_out (n := 2) (N := 2) rfl (by decide) (in_f (lo := 0) (hi := 2) rfl rfl h14)
    refine w_aload_n (pc := 41) dX6_file_41 rfl ?_
    refine w_iconst (v := 1) (pc := 42) dX6_file_42 rfl ?_
    refine w_callV1 (n' := 0) (pc := 43) (c_X6_refuse hG) cv_X6_163 (by first | assumption | exact ob rfl) hF hT (by omega) (by decide) (Nat.le_of_ble_eq_true rfl) dX6_file_43 ?_
    refine ⟨_, rfl, hF, ?_⟩
    dsimp only [psh]
    refine w_ireturn (pc := 46) dX6_file_46 rfl ?_
    exact hX1 (fun q => by first | exact hx14 q.1 | exact hx26 q.2.1 | exact hx38 q.2.2)
  · obtain ⟨i, hi, rfl⟩ := ix_in (n := 2) (N := 2) rfl (by decide) (in_t (lo := 0) (hi := 2) rfl rfl h14)
    refine w_iload_n (pc := 17) dX6_file_17 rfl ?_
    refine w_i2l (pc := 18) dX6_file_18 ?_
    refine w_lconst (v := 0) (pc := 19) dX6_file_19 rfl ?_
    refine w_ldc2 (pc := 20) kl_X6_180 dX6_file_20 ?_
    refine w_callS3 (n' := 0) (pc := 23) (c_X6_in hG) cs_X6_137 hT (by omega) (by decide) (Nat.le_of_ble_eq_true rfl) dX6_file_23 ?_
    refine ⟨_, _, _, rfl, ?_⟩
    dsimp only [psh]
    refine w_if_eq 41 (pc := 26) dX6_file_26 (by decide) (fun h26 => ?_) (fun h26 => ?_)
    · have hx26 := ix_out (n := 3) (N := 3) rfl (by decide) (in_f (lo := 0) (hi := 3) rfl rfl h26)
      refine w_aload_n (pc := 41) dX6_file_41 rfl ?_
      refine w_iconst (v := 1) (pc := 42) dX6_file_42 rfl ?_
      refine w_callV1 (n' := 0) (pc := 43) (c_X6_refuse hG) cv_X6_163 (by first | assumption | exact ob rfl) hF hT (by omega) (by decide) (Nat.le_of_ble_eq_true rfl) dX6_file_43 ?_
      refine ⟨_, rfl, hF, ?_⟩
      dsimp only [psh]
      refine w_ireturn (pc := 46) dX6_file_46 rfl ?_
      exact hX1 (fun q => by first | exact hx14 q.1 | exact hx26 q.2.1 | exact hx38 q.2.2)
    · obtain ⟨j, hj, rfl⟩ := ix_in (n := 3) (N := 3) rfl (by decide) (in_t (lo := 0) (hi := 3) rfl rfl h26)
      refine w_iload_n (pc := 29) dX6_file_29 rfl ?_
      refine w_i2l (pc := 30) dX6_file_30 ?_
      refine w_lconst (v := 0) (pc := 31) dX6_file_31 rfl ?_
      refine w_ldc2 (pc := 32) kl_X6_161 dX6_file_32 ?_
      refine w_callS3 (n' := 0) (pc := 35) (c_X6_in hG) cs_X6_137 hT (by omega) (by decide) (Nat.le_of_ble_eq_true rfl) dX6_file_35 ?_
      refine ⟨_, _, _, rfl, ?_⟩
      dsimp only [psh]
      refine w_if_ne 47 (pc := 38) dX6_file_38 (by decide) (fun h38 => ?_) (fun h38 => ?_)
      · obtain ⟨k, hk, rfl⟩ := ix_in (n := 11) (N := 11) rfl (by decide) (in_t (lo := 0) (hi := 11) rfl rfl h38)
        obtain ⟨hX2, hQ⟩ := hQ0 i j k hi hj hk rfl rfl rfl
        have ek := clN (i := k) (by omega)
        refine w_aload_n (pc := 47) dX6_file_47 rfl ?_
        refine w_getR (b := 98) (pc := 48) fl_X6_13 hF (by first | assumption | exact ob rfl) rfl rfl dX6_file_48 ?_
        refine w_iload_n (pc := 51) dX6_file_51 rfl ?_
        refine w_zald (m := 12) (pc := 52) hF (by first | assumption | exact ar rfl) (vin hk (by decide)) dX6_file_52 ?_
        refine w_if_ne 71 (pc := 53) dX6_file_53 (by decide) (fun h53 => ?_) (fun h53 => ?_)
        · rw [ek] at h53
          refine w_aload_n (pc := 71) dX6_file_71 rfl ?_
          refine w_iconst (v := 2) (pc := 72) dX6_file_72 rfl ?_
          refine w_callV1 (n' := 0) (pc := 73) (c_X6_refuse hG) cv_X6_163 (by first | assumption | exact ob rfl) hF hT (by omega) (by decide) (Nat.le_of_ble_eq_true rfl) dX6_file_73 ?_
          refine ⟨_, rfl, hF, ?_⟩
          dsimp only [psh]
          refine w_ireturn (pc := 76) dX6_file_76 rfl ?_
          exact hX2 (by first | exact Or.inl h53 | exact Or.inr hv)
        · rw [ek] at h53
          refine w_iload (pc := 56) dX6_file_56 rfl ?_
          refine w_i2l (pc := 58) dX6_file_58 ?_
          refine w_ldc2 (pc := 59) kl_X6_182 dX6_file_59 ?_
          refine w_ldc2 (pc := 62) kl_X6_169 dX6_file_62 ?_
          refine w_callS3 (n' := 0) (pc := 65) (c_X6_in hG) cs_X6_137 hT (by omega) (by decide) (Nat.le_of_ble_eq_true rfl) dX6_file_65 ?_
          refine ⟨_, _, _, rfl, ?_⟩
          dsimp only [psh]
          refine w_if_ne 77 (pc := 68) dX6_file_68 (by decide) (fun h68 => ?_) (fun h68 => ?_)
          · have hv := in_t (lo := -1000000000) (hi := 1000000000) rfl rfl h68
            refine w_bipush (v := 12) (pc := 77) dX6_file_77 rfl ?_
            refine w_iconst (v := 4) (pc := 79) dX6_file_79 rfl ?_
            refine w_iload_n (pc := 80) dX6_file_80 rfl ?_
            refine w_imul (pc := 81) dX6_file_81 ?_
            refine w_iload_n (pc := 82) dX6_file_82 rfl ?_
            refine w_iadd (pc := 83) dX6_file_83 ?_
            refine w_imul (pc := 84) dX6_file_84 ?_
            refine w_iload_n (pc := 85) dX6_file_85 rfl ?_
            refine w_iadd (pc := 86) dX6_file_86 ?_
            refine w_istore 5 (pc := 87) dX6_file_87 (by decide) ?_
            refine w_aload_n (pc := 89) dX6_file_89 rfl ?_
            refine w_getR (b := 107) (pc := 90) fl_X6_45 hF (by first | assumption | exact ob rfl) rfl rfl dX6_file_90 ?_
            refine w_iload (pc := 93) dX6_file_93 rfl ?_
            refine w_iald (m := 144) (pc := 95) hF (by first | assumption | exact ar rfl) (by rw [cm412]; exact vin (by omega) (by decide)) dX6_file_95 ?_
            refine w_istore 6 (pc := 96) dX6_file_96 (by decide) ?_
            refine w_aload_n (pc := 98) dX6_file_98 rfl ?_
            refine w_getR (b := 107) (pc := 99) fl_X6_45 hF (by first | assumption | exact ob rfl) rfl rfl dX6_file_99 ?_
            refine w_iload (pc := 102) dX6_file_102 rfl ?_
            refine w_iload (pc := 104) dX6_file_104 rfl ?_
            refine w_iast (m := 144) (pc := 106) hF (by first | assumption | exact ar rfl) (by rw [cm412]; exact vin (by omega) (by decide)) dX6_file_106 ?_
            refine w_iload (pc := 107) dX6_file_107 rfl ?_
            refine w_ireturn (pc := 109) dX6_file_109 rfl ?_
            rw [cm412, clN (by omega)]
            exact hQ h53 hv.1 hv.2
          · have hv := in_f (lo := -1000000000) (hi := 1000000000) rfl rfl h68
            refine w_aload_n (pc := 71) dX6_file_71 rfl ?_
            refine w_iconst (v := 2) (pc := 72) dX6_file_72 rfl ?_
            refine w_callV1 (n' := 0) (pc := 73) (c_X6_refuse hG) cv_X6_163 (by first | assumption | exact ob rfl) hF hT (by omega) (by decide) (Nat.le_of_ble_eq_true rfl) dX6_file_73 ?_
            refine ⟨_, rfl, hF, ?_⟩
            dsimp only [psh]
            refine w_ireturn (pc := 76) dX6_file_76 rfl ?_
            exact hX2 (by first | exact Or.inl h53 | exact Or.inr hv)
      · have hx38 := ix_out (n := 11) (N := 11) rfl (by decide) (in_f (lo := 0) (hi := 11) rfl rfl h38)
        refine w_aload_n (pc := 41) dX6_file_41 rfl ?_
        refine w_iconst (v := 1) (pc := 42) dX6_file_42 rfl ?_
        refine w_callV1 (n' := 0) (pc := 43) (c_X6_refuse hG) cv_X6_163 (by first | assumption | exact ob rfl) hF hT (by omega) (by decide) (Nat.le_of_ble_eq_true rfl) dX6_file_43 ?_
        refine ⟨_, rfl, hF, ?_⟩
        dsimp only [psh]
        refine w_ireturn (pc := 46) dX6_file_46 rfl ?_
        exact hX1 (fun q => by first | exact hx14 q.1 | exact hx26 q.2.1 | exact hx38 q.2.2)
def divLo (v b : Int64) : Int64 := if 0 ≤ v - v / b * b then v / b else v / b - 1
def divV (v b : Int64) (how : Int32) : Int64 := if how = 0 then divLo v b else if ¬ b ≤ 2 * (v - divLo v b * b) then divLo v b else if b < 2 * (v - divLo v b * b) then divLo v b + 1 else if how = 1 then divLo v b + 1 else if divLo v b - divLo v b / 2 * 2 = 0 then divLo v b else divLo v b + 1
def T_divide : PT := fun as M Q X => ∃ (v b : Int64) (how : Int32), as = [.long v, .long b, .int how] ∧ ¬ b = 0 ∧ Q (some (.long (divV v b how))) M
theorem c_X6_divide {l : Launch} (hl : l.stackTraces = false) : Con l yX6_divide wX6_divide 0 1 (T_divide) := by
  refine con_of hl (by decide) ?_ ?_
  · intro as M Q X hpt
    obtain ⟨v, b, how, rfl, hb, hQ⟩ := hpt
    exact Nat.le_of_ble_eq_true rfl
  intro G as M Q X hl' hT hd hpt
  obtain ⟨v, b, how, rfl, hb, hQ⟩ := hpt
  have hG : (gl G).stackTraces = false := by rw [hl']; exact hl
  show PW G RX6 cX6_divide 9 (some .long) Q X 0 0 [(0, .long v), (2, .long b), (4, .int how)] [] M
  have tail : ∀ lo : Int64, lo = divLo v b → PW G RX6 cX6_divide 9 (some .long) Q X 0 19 [(0, .long v), (2, .long b), (4, .int how), (5, .long lo)] [] M := by
    intro lo elo
    subst elo
    refine w_lload_n (pc := 19) dX6_divide_19 rfl ?_
    refine w_lload (pc := 20) dX6_divide_20 rfl ?_
    refine w_lload_n (pc := 22) dX6_divide_22 rfl ?_
    refine w_lmul (pc := 23) dX6_divide_23 ?_
    refine w_lsub (pc := 24) dX6_divide_24 ?_
    refine w_lstore 7 (pc := 25) dX6_divide_25 (by decide) ?_
    refine w_iload (pc := 27) dX6_divide_27 rfl ?_
    refine w_if_eq 43 (pc := 29) dX6_divide_29 (by decide) (fun h29 => ?_) (fun h29 => ?_)
    · refine w_lload (pc := 43) dX6_divide_43 rfl ?_
      refine w_lreturn (pc := 45) dX6_divide_45 ?_
      unfold divV at hQ
      (repeat (first | rw [if_pos (by assumption)] at hQ | rw [if_neg (by assumption)] at hQ))
      exact hQ
    · refine w_ldc2 (pc := 32) kl_X6_135 dX6_divide_32 ?_
      refine w_lload (pc := 35) dX6_divide_35 rfl ?_
      refine w_lmul (pc := 37) dX6_divide_37 ?_
      refine w_lload_n (pc := 38) dX6_divide_38 rfl ?_
      refine w_lcmp_ge 46 (pc := 39) dX6_divide_39 dX6_divide_40 (by decide) (fun h39 => ?_) (fun h39 => ?_)
      · have h39p : ¬ ¬ b ≤ 2 * (v - divLo v b * b) := fun q => q h39
        refine w_ldc2 (pc := 46) kl_X6_135 dX6_divide_46 ?_
        refine w_lload (pc := 49) dX6_divide_49 rfl ?_
        refine w_lmul (pc := 51) dX6_divide_51 ?_
        refine w_lload_n (pc := 52) dX6_divide_52 rfl ?_
        refine w_lcmp_gt 74 (pc := 53) dX6_divide_53 dX6_divide_54 (by decide) (fun h53 => ?_) (fun h53 => ?_)
        · refine w_lload (pc := 74) dX6_divide_74 rfl ?_
          refine w_lconst (v := 1) (pc := 76) dX6_divide_76 rfl ?_
          refine w_ladd (pc := 77) dX6_divide_77 ?_
          refine w_goto 83 (pc := 78) dX6_divide_78 (by decide) ?_
          refine w_lreturn (pc := 83) dX6_divide_83 ?_
          unfold divV at hQ
          (repeat (first | rw [if_pos (by assumption)] at hQ | rw [if_neg (by assumption)] at hQ))
          exact hQ
        · refine w_iload (pc := 57) dX6_divide_57 rfl ?_
          refine w_iconst (v := 1) (pc := 59) dX6_divide_59 rfl ?_
          refine w_icmp_eq 74 (pc := 60) dX6_divide_60 (by decide) (fun h60 => ?_) (fun h60 => ?_)
          · refine w_lload (pc := 74) dX6_divide_74 rfl ?_
            refine w_lconst (v := 1) (pc := 76) dX6_divide_76 rfl ?_
            refine w_ladd (pc := 77) dX6_divide_77 ?_
            refine w_goto 83 (pc := 78) dX6_divide_78 (by decide) ?_
            refine w_lreturn (pc := 83) dX6_divide_83 ?_
            unfold divV at hQ
            (repeat (first | rw [if_pos (by assumption)] at hQ | rw [if_neg (by assumption)] at hQ))
            exact hQ
          · refine w_lload (pc := 63) dX6_divide_63 rfl ?_
            refine w_ldc2 (pc := 65) kl_X6_135 dX6_divide_65 ?_
            refine w_lrem (pc := 68) dX6_divide_68 (by decide) ?_
            refine w_lconst (v := 0) (pc := 69) dX6_divide_69 rfl ?_
            refine w_lcmp_eq 81 (pc := 70) dX6_divide_70 dX6_divide_71 (by decide) (fun h70 => ?_) (fun h70 => ?_)
            · refine w_lload (pc := 81) dX6_divide_81 rfl ?_
              refine w_lreturn (pc := 83) dX6_divide_83 ?_
              unfold divV at hQ
              (repeat (first | rw [if_pos (by assumption)] at hQ | rw [if_neg (by assumption)] at hQ))
              exact hQ
            · refine w_lload (pc := 74) dX6_divide_74 rfl ?_
              refine w_lconst (v := 1) (pc := 76) dX6_divide_76 rfl ?_
              refine w_ladd (pc := 77) dX6_divide_77 ?_
              refine w_goto 83 (pc := 78) dX6_divide_78 (by decide) ?_
              refine w_lreturn (pc := 83) dX6_divide_83 ?_
              unfold divV at hQ
              (repeat (first | rw [if_pos (by assumption)] at hQ | rw [if_neg (by assumption)] at hQ))
              exact hQ
      · refine w_lload (pc := 43) dX6_divide_43 rfl ?_
        refine w_lreturn (pc := 45) dX6_divide_45 ?_
        unfold divV at hQ
        (repeat (first | rw [if_pos (by assumption)] at hQ | rw [if_neg (by assumption)] at hQ))
        exact hQ
  refine w_lload_n (pc := 0) dX6_divide_0 rfl ?_
  refine w_lload_n (pc := 1) dX6_divide_1 rfl ?_
  refine w_ldiv (pc := 2) dX6_divide_2 hb ?_
  refine w_lstore 5 (pc := 3) dX6_divide_3 (by decide) ?_
  refine w_lload_n (pc := 5) dX6_divide_5 rfl ?_
  refine w_lload_n (pc := 6) dX6_divide_6 rfl ?_
  refine w_lrem (pc := 7) dX6_divide_7 hb ?_
  refine w_lconst (v := 0) (pc := 8) dX6_divide_8 rfl ?_
  refine w_lcmp_ge 19 (pc := 9) dX6_divide_9 dX6_divide_10 (by decide) (fun h9 => ?_) (fun h9 => ?_)
  · exact w_lk (tail _ (by unfold divLo; first | rw [if_pos h9] | rw [if_neg h9])) (lkc rfl (lkc rfl (lkc rfl (lkc rfl lkn))))
  · refine w_lload (pc := 13) dX6_divide_13 rfl ?_
    refine w_lconst (v := 1) (pc := 15) dX6_divide_15 rfl ?_
    refine w_lsub (pc := 16) dX6_divide_16 ?_
    refine w_lstore 5 (pc := 17) dX6_divide_17 (by decide) ?_
    exact w_lk (tail _ (by unfold divLo; first | rw [if_pos h9] | rw [if_neg h9])) (lkc rfl (lkc rfl (lkc rfl (lkc rfl lkn))))
def mPost (M : Mem) (i p : Nat) (kd yr : Int32) (v : Int64) : Mem := sI (sJ (sI (sI M 112 (24 * i + p) kd) 113 (24 * i + p) yr) 114 (24 * i + p) v) 111 i (nI (p + 1))
def T_mPost : PT := fun as M Q X => ∃ (i p : Nat) (kd yr : Int32) (v : Int64), as = [.ref 96, .int (nI i), .int kd, .int yr, .long v] ∧ Full M ∧ i < 3 ∧ p < 24 ∧ mI M 111 i = nI p ∧ Q none (mPost M i p kd yr v)
theorem c_X6_post {l : Launch} (hl : l.stackTraces = false) : Con l yX6_post wX6_post 0 1 (T_mPost) := by
  refine con_of hl (by decide) ?_ ?_
  · intro as M Q X hpt
    obtain ⟨i, p, kd, yr, v, rfl, hF, hi, hp, ep, hQ⟩ := hpt
    exact Nat.le_of_ble_eq_true rfl
  intro G as M Q X hl' hT hd hpt
  obtain ⟨i, p, kd, yr, v, rfl, hF, hi, hp, ep, hQ⟩ := hpt
  have hG : (gl G).stackTraces = false := by rw [hl']; exact hl
  show PW G RX6 cX6_post 7 none Q X 0 0 [(0, .ref 96), (1, .int (nI i)), (2, .int kd), (3, .int yr), (4, .long v)] [] M
  have e := clN (i := i) (by omega)
  have ep2 : mI M 111 (nI i).toNatClampNeg = nI p := by rw [e]; exact ep
  have ei : (24 : Int32) * nI i + mI M 111 (nI i).toNatClampNeg = nI (24 * i + p) := by rw [ep2, cm24]
  refine w_bipush (v := 24) (pc := 0) dX6_post_0 rfl ?_
  refine w_iload_n (pc := 2) dX6_post_2 rfl ?_
  refine w_imul (pc := 3) dX6_post_3 ?_
  refine w_aload_n (pc := 4) dX6_post_4 rfl ?_
  refine w_getR (b := 111) (pc := 5) fl_X6_58 hF (by first | assumption | exact ob rfl) rfl rfl dX6_post_5 ?_
  refine w_iload_n (pc := 8) dX6_post_8 rfl ?_
  refine w_iald (m := 3) (pc := 9) hF (by first | assumption | exact ar rfl) (vin hi (by decide)) dX6_post_9 ?_
  refine w_iadd (pc := 10) dX6_post_10 ?_
  refine w_istore 6 (pc := 11) dX6_post_11 (by decide) ?_
  refine w_aload_n (pc := 13) dX6_post_13 rfl ?_
  refine w_getR (b := 112) (pc := 14) fl_X6_61 hF (by first | assumption | exact ob rfl) rfl rfl dX6_post_14 ?_
  refine w_iload (pc := 17) dX6_post_17 rfl ?_
  refine w_iload_n (pc := 19) dX6_post_19 rfl ?_
  refine w_iast (m := 72) (pc := 20) hF (by first | assumption | exact ar rfl) (by rw [ei]; exact vin (by omega) (by decide)) dX6_post_20 ?_
  refine w_aload_n (pc := 21) dX6_post_21 rfl ?_
  refine w_getR (b := 113) (pc := 22) fl_X6_64 hF (by first | assumption | exact ob rfl) rfl rfl dX6_post_22 ?_
  refine w_iload (pc := 25) dX6_post_25 rfl ?_
  refine w_iload_n (pc := 27) dX6_post_27 rfl ?_
  refine w_iast (m := 72) (pc := 28) hF (by first | assumption | exact ar rfl) (by rw [ei]; exact vin (by omega) (by decide)) dX6_post_28 ?_
  refine w_aload_n (pc := 29) dX6_post_29 rfl ?_
  refine w_getR (b := 114) (pc := 30) fl_X6_67 hF (by first | assumption | exact ob rfl) rfl rfl dX6_post_30 ?_
  refine w_iload (pc := 33) dX6_post_33 rfl ?_
  refine w_lload (pc := 35) dX6_post_35 rfl ?_
  refine w_last (m := 72) (pc := 37) hF (by first | assumption | exact ar rfl) (by rw [ei]; exact vin (by omega) (by decide)) dX6_post_37 ?_
  refine w_aload_n (pc := 38) dX6_post_38 rfl ?_
  refine w_getR (b := 111) (pc := 39) fl_X6_58 hF (by first | assumption | exact ob rfl) rfl rfl dX6_post_39 ?_
  refine w_iload_n (pc := 42) dX6_post_42 rfl ?_
  refine w_dup2_11 (pc := 43) dX6_post_43 rfl rfl ?_
  refine w_iald (m := 3) (pc := 44) hF (by first | assumption | exact ar rfl) (vin hi (by decide)) dX6_post_44 ?_
  refine w_iconst (v := 1) (pc := 45) dX6_post_45 rfl ?_
  refine w_iadd (pc := 46) dX6_post_46 ?_
  refine w_iast (m := 3) (pc := 47) hF (by first | assumption | exact ar rfl) (vin hi (by decide)) dX6_post_47 ?_
  refine w_return (pc := 48) dX6_post_48 ?_
  rw [ei, clN (by omega), e]
  have e3 : mI (sJ (sI (sI M 112 (24 * i + p) kd) 113 (24 * i + p) yr) 114 (24 * i + p) v) 111 i = nI p := ep
  rw [e3, nI_1]
  exact hQ
def T_there : PT := fun as M Q X => ∃ t y z : Int32, as = [.ref 96, .int t, .int y, .int z] ∧ Full M ∧ (¬ (ix t 3 ∧ ix y 4 ∧ ix z 12) → Q (some (.int 0)) (thr M 1)) ∧ (∀ i j k, i < 3 → j < 4 → k < 12 → t = nI i → y = nI j → z = nI k → (mI M 108 (4 * i + j) = 0 → Q (some (.int 0)) (thr M 2)) ∧ (¬ mI M 108 (4 * i + j) = 0 → Q (some (.int 1)) (sI M 96 0 0)))
theorem c_X6_there {l : Launch} (hl : l.stackTraces = false) : Con l yX6_there wX6_there 0 2 (T_there) := by
  refine con_of hl (by decide) ?_ ?_
  · intro as M Q X hpt
    obtain ⟨t, y, z, rfl, hF, hX1, hQ0⟩ := hpt
    exact Nat.le_of_ble_eq_true rfl
  intro G as M Q X hl' hT hd hpt
  obtain ⟨t, y, z, rfl, hF, hX1, hQ0⟩ := hpt
  have hG : (gl G).stackTraces = false := by rw [hl']; exact hl
  show PW G RX6 cX6_there 4 (some .boolean) Q X 0 0 [(0, .ref 96), (1, .int t), (2, .int y), (3, .int z)] [] M
  refine w_aload_n (pc := 0) dX6_there_0 rfl ?_
  refine w_iconst (v := 0) (pc := 1) dX6_there_1 rfl ?_
  refine w_putI (pc := 2) fp_X6_91 hF (by first | assumption | exact ob rfl) rfl dX6_there_2 ?_
  refine w_iload_n (pc := 5) dX6_there_5 rfl ?_
  refine w_i2l (pc := 6) dX6_there_6 ?_
  refine w_lconst (v := 0) (pc := 7) dX6_there_7 rfl ?_
  refine w_ldc2 (pc := 8) kl_X6_135 dX6_there_8 ?_
  refine w_callS3 (n' := 0) (pc := 11) (c_X6_in hG) cs_X6_137 hT (by omega) (by decide) (Nat.le_of_ble_eq_true rfl) dX6_there_11 ?_
  refine ⟨_, _, _, rfl, ?_⟩
  dsimp only [psh]
  refine w_if_eq 41 (pc := 14) dX6_there_14 (by decide) (fun h14 => ?_) (fun h14 => ?_)
  · have hx14 := ix_out (n := 2) (N := 2) rfl (by decide) (in_f (lo := 0) (hi := 2) rfl rfl h14)
    refine w_aload_n (pc := 41) dX6_there_41 rfl ?_
    refine w_iconst (v := 1) (pc := 42) dX6_there_42 rfl ?_
    refine w_putI (pc := 43) fp_X6_91 hF (by first | assumption | exact ob rfl) rfl dX6_there_43 ?_
    refine w_goto 67 (pc := 46) dX6_there_46 (by decide) ?_
    refine w_aload_n (pc := 67) dX6_there_67 rfl ?_
    refine w_getI (pc := 68) fl_X6_91 hF (by first | assumption | exact ob rfl) rfl dX6_there_68 ?_
    refine w_if_ne 78 (pc := 71) dX6_there_71 (by decide) (fun h71 => ?_) (fun h71 => ?_)
    · refine w_iconst (v := 0) (pc := 78) dX6_there_78 rfl ?_
      refine w_ireturn (pc := 79) dX6_there_79 rfl ?_
      first | exact absurd (show (1 : Int32) = 0 from h71) (by decide) | exact absurd (show (2 : Int32) = 0 from h71) (by decide) | exact hX1 (fun q => by first | exact hx14 q.1 | exact hx26 q.2.1 | exact hx38 q.2.2) | exact hX2 h59 | exact hQ h59 | exact absurd rfl h71
    · refine w_iconst (v := 1) (pc := 74) dX6_there_74 rfl ?_
      refine w_goto 79 (pc := 75) dX6_there_75 (by decide) ?_
      refine w_ireturn (pc := 79) dX6_there_79 rfl ?_
      first | exact absurd (show (1 : Int32) = 0 from h71) (by decide) | exact absurd (show (2 : Int32) = 0 from h71) (by decide) | exact hX1 (fun q => by first | exact hx14 q.1 | exact hx26 q.2.1 | exact hx38 q.2.2) | exact hX2 h59 | exact hQ h59 | exact absurd rfl h71
  · obtain ⟨i, hi, rfl⟩ := ix_in (n := 2) (N := 2) rfl (by decide) (in_t (lo := 0) (hi := 2) rfl rfl h14)
    refine w_iload_n (pc := 17) dX6_there_17 rfl ?_
    refine w_i2l (pc := 18) dX6_there_18 ?_
    refine w_lconst (v := 0) (pc := 19) dX6_there_19 rfl ?_
    refine w_ldc2 (pc := 20) kl_X6_180 dX6_there_20 ?_
    refine w_callS3 (n' := 0) (pc := 23) (c_X6_in hG) cs_X6_137 hT (by omega) (by decide) (Nat.le_of_ble_eq_true rfl) dX6_there_23 ?_
    refine ⟨_, _, _, rfl, ?_⟩
    dsimp only [psh]
    refine w_if_eq 41 (pc := 26) dX6_there_26 (by decide) (fun h26 => ?_) (fun h26 => ?_)
    · have hx26 := ix_out (n := 3) (N := 3) rfl (by decide) (in_f (lo := 0) (hi := 3) rfl rfl h26)
      refine w_aload_n (pc := 41) dX6_there_41 rfl ?_
      refine w_iconst (v := 1) (pc := 42) dX6_there_42 rfl ?_
      refine w_putI (pc := 43) fp_X6_91 hF (by first | assumption | exact ob rfl) rfl dX6_there_43 ?_
      refine w_goto 67 (pc := 46) dX6_there_46 (by decide) ?_
      refine w_aload_n (pc := 67) dX6_there_67 rfl ?_
      refine w_getI (pc := 68) fl_X6_91 hF (by first | assumption | exact ob rfl) rfl dX6_there_68 ?_
      refine w_if_ne 78 (pc := 71) dX6_there_71 (by decide) (fun h71 => ?_) (fun h71 => ?_)
      · refine w_iconst (v := 0) (pc := 78) dX6_there_78 rfl ?_
        refine w_ireturn (pc := 79) dX6_there_79 rfl ?_
        first | exact absurd (show (1 : Int32) = 0 from h71) (by decide) | exact absurd (show (2 : Int32) = 0 from h71) (by decide) | exact hX1 (fun q => by first | exact hx14 q.1 | exact hx26 q.2.1 | exact hx38 q.2.2) | exact hX2 h59 | exact hQ h59 | exact absurd rfl h71
      · refine w_iconst (v := 1) (pc := 74) dX6_there_74 rfl ?_
        refine w_goto 79 (pc := 75) dX6_there_75 (by decide) ?_
        refine w_ireturn (pc := 79) dX6_there_79 rfl ?_
        first | exact absurd (show (1 : Int32) = 0 from h71) (by decide) | exact absurd (show (2 : Int32) = 0 from h71) (by decide) | exact hX1 (fun q => by first | exact hx14 q.1 | exact hx26 q.2.1 | exact hx38 q.2.2) | exact hX2 h59 | exact hQ h59 | exact absurd rfl h71
    · obtain ⟨j, hj, rfl⟩ := ix_in (n := 3) (N := 3) rfl (by decide) (in_t (lo := 0) (hi := 3) rfl rfl h26)
      refine w_iload_n (pc := 29) dX6_there_29 rfl ?_
      refine w_i2l (pc := 30) dX6_there_30 ?_
      refine w_lconst (v := 0) (pc := 31) dX6_there_31 rfl ?_
      refine w_ldc2 (pc := 32) kl_X6_161 dX6_there_32 ?_
      refine w_callS3 (n' := 0) (pc := 35) (c_X6_in hG) cs_X6_137 hT (by omega) (by decide) (Nat.le_of_ble_eq_true rfl) dX6_there_35 ?_
      refine ⟨_, _, _, rfl, ?_⟩
      dsimp only [psh]
      refine w_if_ne 49 (pc := 38) dX6_there_38 (by decide) (fun h38 => ?_) (fun h38 => ?_)
      · obtain ⟨k, hk, rfl⟩ := ix_in (n := 11) (N := 11) rfl (by decide) (in_t (lo := 0) (hi := 11) rfl rfl h38)
        obtain ⟨hX2, hQ⟩ := hQ0 i j k hi hj hk rfl rfl rfl
        have ei : ((4 : Int32) * nI i + nI j).toNatClampNeg = 4 * i + j := by rw [cm4, clN (by omega)]
        refine w_aload_n (pc := 49) dX6_there_49 rfl ?_
        refine w_getR (b := 108) (pc := 50) fl_X6_48 hF (by first | assumption | exact ob rfl) rfl rfl dX6_there_50 ?_
        refine w_iconst (v := 4) (pc := 53) dX6_there_53 rfl ?_
        refine w_iload_n (pc := 54) dX6_there_54 rfl ?_
        refine w_imul (pc := 55) dX6_there_55 ?_
        refine w_iload_n (pc := 56) dX6_there_56 rfl ?_
        refine w_iadd (pc := 57) dX6_there_57 ?_
        refine w_zald (m := 12) (pc := 58) hF (by first | assumption | exact ar rfl) (by rw [cm4]; exact vin (by omega) (by decide)) dX6_there_58 ?_
        refine w_if_ne 67 (pc := 59) dX6_there_59 (by decide) (fun h59 => ?_) (fun h59 => ?_)
        · rw [ei] at h59
          refine w_aload_n (pc := 67) dX6_there_67 rfl ?_
          refine w_getI (pc := 68) fl_X6_91 hF (by first | assumption | exact ob rfl) rfl dX6_there_68 ?_
          refine w_if_ne 78 (pc := 71) dX6_there_71 (by decide) (fun h71 => ?_) (fun h71 => ?_)
          · refine w_iconst (v := 0) (pc := 78) dX6_there_78 rfl ?_
            refine w_ireturn (pc := 79) dX6_there_79 rfl ?_
            first | exact absurd (show (1 : Int32) = 0 from h71) (by decide) | exact absurd (show (2 : Int32) = 0 from h71) (by decide) | exact hX1 (fun q => by first | exact hx14 q.1 | exact hx26 q.2.1 | exact hx38 q.2.2) | exact hX2 h59 | exact hQ h59 | exact absurd rfl h71
          · refine w_iconst (v := 1) (pc := 74) dX6_there_74 rfl ?_
            refine w_goto 79 (pc := 75) dX6_there_75 (by decide) ?_
            refine w_ireturn (pc := 79) dX6_there_79 rfl ?_
            first | exact absurd (show (1 : Int32) = 0 from h71) (by decide) | exact absurd (show (2 : Int32) = 0 from h71) (by decide) | exact hX1 (fun q => by first | exact hx14 q.1 | exact hx26 q.2.1 | exact hx38 q.2.2) | exact hX2 h59 | exact hQ h59 | exact absurd rfl h71
        · rw [ei] at h59
          refine w_aload_n (pc := 62) dX6_there_62 rfl ?_
          refine w_iconst (v := 2) (pc := 63) dX6_there_63 rfl ?_
          refine w_putI (pc := 64) fp_X6_91 hF (by first | assumption | exact ob rfl) rfl dX6_there_64 ?_
          refine w_aload_n (pc := 67) dX6_there_67 rfl ?_
          refine w_getI (pc := 68) fl_X6_91 hF (by first | assumption | exact ob rfl) rfl dX6_there_68 ?_
          refine w_if_ne 78 (pc := 71) dX6_there_71 (by decide) (fun h71 => ?_) (fun h71 => ?_)
          · refine w_iconst (v := 0) (pc := 78) dX6_there_78 rfl ?_
            refine w_ireturn (pc := 79) dX6_there_79 rfl ?_
            first | exact absurd (show (1 : Int32) = 0 from h71) (by decide) | exact absurd (show (2 : Int32) = 0 from h71) (by decide) | exact hX1 (fun q => by first | exact hx14 q.1 | exact hx26 q.2.1 | exact hx38 q.2.2) | exact hX2 h59 | exact hQ h59 | exact absurd rfl h71
          · refine w_iconst (v := 1) (pc := 74) dX6_there_74 rfl ?_
            refine w_goto 79 (pc := 75) dX6_there_75 (by decide) ?_
            refine w_ireturn (pc := 79) dX6_there_79 rfl ?_
            first | exact absurd (show (1 : Int32) = 0 from h71) (by decide) | exact absurd (show (2 : Int32) = 0 from h71) (by decide) | exact hX1 (fun q => by first | exact hx14 q.1 | exact hx26 q.2.1 | exact hx38 q.2.2) | exact hX2 h59 | exact hQ h59 | exact absurd rfl h71
      · have hx38 := ix_out (n := 11) (N := 11) rfl (by decide) (in_f (lo := 0) (hi := 11) rfl rfl h38)
        refine w_aload_n (pc := 41) dX6_there_41 rfl ?_
        refine w_iconst (v := 1) (pc := 42) dX6_there_42 rfl ?_
        refine w_putI (pc := 43) fp_X6_91 hF (by first | assumption | exact ob rfl) rfl dX6_there_43 ?_
        refine w_goto 67 (pc := 46) dX6_there_46 (by decide) ?_
        refine w_aload_n (pc := 67) dX6_there_67 rfl ?_
        refine w_getI (pc := 68) fl_X6_91 hF (by first | assumption | exact ob rfl) rfl dX6_there_68 ?_
        refine w_if_ne 78 (pc := 71) dX6_there_71 (by decide) (fun h71 => ?_) (fun h71 => ?_)
        · refine w_iconst (v := 0) (pc := 78) dX6_there_78 rfl ?_
          refine w_ireturn (pc := 79) dX6_there_79 rfl ?_
          first | exact absurd (show (1 : Int32) = 0 from h71) (by decide) | exact absurd (show (2 : Int32) = 0 from h71) (by decide) | exact hX1 (fun q => by first | exact hx14 q.1 | exact hx26 q.2.1 | exact hx38 q.2.2) | exact hX2 h59 | exact hQ h59 | exact absurd rfl h71
        · refine w_iconst (v := 1) (pc := 74) dX6_there_74 rfl ?_
          refine w_goto 79 (pc := 75) dX6_there_75 (by decide) ?_
          refine w_ireturn (pc := 79) dX6_there_79 rfl ?_
          first | exact absurd (show (1 : Int32) = 0 from h71) (by decide) | exact absurd (show (2 : Int32) = 0 from h71) (by decide) | exact hX1 (fun q => by first | exact hx14 q.1 | exact hx26 q.2.1 | exact hx38 q.2.2) | exact hX2 h59 | exact hQ h59 | exact absurd rfl h71
def T_mValue : PT := fun as M Q X => ∃ t y z : Int32, as = [.ref 96, .int t, .int y, .int z] ∧ Full M ∧ (¬ (ix t 3 ∧ ix y 4 ∧ ix z 12) → Q (some (.long 0)) (thr M 1)) ∧ (∀ i j k, i < 3 → j < 4 → k < 12 → t = nI i → y = nI j → z = nI k → (mI M 108 (4 * i + j) = 0 → Q (some (.long 0)) (thr M 2)) ∧ (¬ mI M 108 (4 * i + j) = 0 → Q (some (.long (mJ M 109 (12 * (4 * i + j) + k)))) (sI M 96 0 0)))
def T_mShare : PT := fun as M Q X => ∃ t y z : Int32, as = [.ref 96, .int t, .int y, .int z] ∧ Full M ∧ (¬ (ix t 3 ∧ ix y 4 ∧ ix z 12) → Q (some (.double FP.dconst0)) (thr M 1)) ∧ (∀ i j k, i < 3 → j < 4 → k < 12 → t = nI i → y = nI j → z = nI k → (mI M 108 (4 * i + j) = 0 → Q (some (.double FP.dconst0)) (thr M 2)) ∧ (¬ mI M 108 (4 * i + j) = 0 → mJ M 110 (4 * i + j) = 0 → Q (some (.double FP.dconst0)) (sI M 96 0 0)) ∧ (¬ mI M 108 (4 * i + j) = 0 → ¬ mJ M 110 (4 * i + j) = 0 → vf_n64 (FP.ddiv (FP.l2d (mJ M 109 (12 * (4 * i + j) + k))) (FP.l2d (mJ M 110 (4 * i + j)))) ∧ Q (some (.double (FP.ddiv (FP.l2d (mJ M 109 (12 * (4 * i + j) + k))) (FP.l2d (mJ M 110 (4 * i + j)))))) (sI M 96 0 0)))
theorem c_X6_value {l : Launch} (hl : l.stackTraces = false) : Con l yX6_value wX6_value 0 3 (T_mValue) := by
  refine con_of hl (by decide) ?_ ?_
  · intro as M Q X hpt
    obtain ⟨t, y, z, rfl, hF, hX1, hQ0⟩ := hpt
    exact Nat.le_of_ble_eq_true rfl
  intro G as M Q X hl' hT hd hpt
  obtain ⟨t, y, z, rfl, hF, hX1, hQ0⟩ := hpt
  have hG : (gl G).stackTraces = false := by rw [hl']; exact hl
  show PW G RX6 cX6_value 4 (some .long) Q X 0 0 [(0, .ref 96), (1, .int t), (2, .int y), (3, .int z)] [] M
  refine w_aload_n (pc := 0) dX6_value_0 rfl ?_
  refine w_iload_n (pc := 1) dX6_value_1 rfl ?_
  refine w_iload_n (pc := 2) dX6_value_2 rfl ?_
  refine w_iload_n (pc := 3) dX6_value_3 rfl ?_
  refine w_callV3 (n' := 0) (pc := 4) (c_X6_there hG) cv_X6_212 (ob rfl) hF hT (by omega) (by decide) (Nat.le_of_ble_eq_true rfl) dX6_value_4 ?_
  refine ⟨_, _, _, rfl, hF, fun hx => ?_, fun i j k hi hj hk e1 e2 e3 => ⟨fun ha => ?_, fun ha => ?_⟩⟩
  · dsimp only [psh]
    refine w_if_eq 28 (pc := 7) dX6_value_7 (by decide) (fun h7 => ?_) (fun h7 => ?_)
    · refine w_lconst (v := 0) (pc := 28) dX6_value_28 rfl ?_
      refine w_lreturn (pc := 29) dX6_value_29 ?_
      exact hX1 hx
    · exact absurd rfl h7
  · dsimp only [psh]
    refine w_if_eq 28 (pc := 7) dX6_value_7 (by decide) (fun h7 => ?_) (fun h7 => ?_)
    · refine w_lconst (v := 0) (pc := 28) dX6_value_28 rfl ?_
      refine w_lreturn (pc := 29) dX6_value_29 ?_
      exact (hQ0 i j k hi hj hk e1 e2 e3).1 ha
    · exact absurd rfl h7
  · dsimp only [psh]
    subst e1; subst e2; subst e3
    refine w_if_eq 28 (pc := 7) dX6_value_7 (by decide) (fun h7 => ?_) (fun h7 => ?_)
    · exact absurd h7 (by decide)
    · refine w_aload_n (pc := 10) dX6_value_10 rfl ?_
      refine w_getR (b := 109) (pc := 11) fl_X6_51 hF (by first | assumption | exact ob rfl) rfl rfl dX6_value_11 ?_
      refine w_bipush (v := 12) (pc := 14) dX6_value_14 rfl ?_
      refine w_iconst (v := 4) (pc := 16) dX6_value_16 rfl ?_
      refine w_iload_n (pc := 17) dX6_value_17 rfl ?_
      refine w_imul (pc := 18) dX6_value_18 ?_
      refine w_iload_n (pc := 19) dX6_value_19 rfl ?_
      refine w_iadd (pc := 20) dX6_value_20 ?_
      refine w_imul (pc := 21) dX6_value_21 ?_
      refine w_iload_n (pc := 22) dX6_value_22 rfl ?_
      refine w_iadd (pc := 23) dX6_value_23 ?_
      refine w_lald (m := 144) (pc := 24) hF (by first | assumption | exact ar rfl) (by rw [cm412]; exact vin (by omega) (by decide)) dX6_value_24 ?_
      refine w_goto 29 (pc := 25) dX6_value_25 (by decide) ?_
      refine w_lreturn (pc := 29) dX6_value_29 ?_
      rw [cm412, clN (by omega)]
      exact (hQ0 i j k hi hj hk rfl rfl rfl).2 ha
theorem c_X6_share {l : Launch} (hl : l.stackTraces = false) : Con l yX6_share wX6_share 0 3 (T_mShare) := by
  refine con_of hl (by decide) ?_ ?_
  · intro as M Q X hpt
    obtain ⟨t, y, z, rfl, hF, hX1, hQ0⟩ := hpt
    exact Nat.le_of_ble_eq_true rfl
  intro G as M Q X hl' hT hd hpt
  obtain ⟨t, y, z, rfl, hF, hX1, hQ0⟩ := hpt
  have hG : (gl G).stackTraces = false := by rw [hl']; exact hl
  show PW G RX6 cX6_share 5 (some .double) Q X 0 0 [(0, .ref 96), (1, .int t), (2, .int y), (3, .int z)] [] M
  refine w_aload_n (pc := 0) dX6_share_0 rfl ?_
  refine w_iload_n (pc := 1) dX6_share_1 rfl ?_
  refine w_iload_n (pc := 2) dX6_share_2 rfl ?_
  refine w_iload_n (pc := 3) dX6_share_3 rfl ?_
  refine w_callV3 (n' := 0) (pc := 4) (c_X6_there hG) cv_X6_212 (ob rfl) hF hT (by omega) (by decide) (Nat.le_of_ble_eq_true rfl) dX6_share_4 ?_
  refine ⟨_, _, _, rfl, hF, fun hx => ?_, fun i j k hi hj hk e1 e2 e3 => ⟨fun ha => ?_, fun ha => ?_⟩⟩
  · dsimp only [psh]
    refine w_if_ne 12 (pc := 7) dX6_share_7 (by decide) (fun h7 => ?_) (fun h7 => ?_)
    · exact absurd rfl h7
    · refine w_dconst0 (pc := 10) dX6_share_10 ?_
      refine w_dreturn (pc := 11) dX6_share_11 ?_
      exact hX1 hx
  · dsimp only [psh]
    refine w_if_ne 12 (pc := 7) dX6_share_7 (by decide) (fun h7 => ?_) (fun h7 => ?_)
    · exact absurd rfl h7
    · refine w_dconst0 (pc := 10) dX6_share_10 ?_
      refine w_dreturn (pc := 11) dX6_share_11 ?_
      exact (hQ0 i j k hi hj hk e1 e2 e3).1 ha
  · dsimp only [psh]
    subst e1; subst e2; subst e3
    obtain ⟨-, hQ1, hQ2⟩ := hQ0 i j k hi hj hk rfl rfl rfl
    have e4 : (4 : Int32) * nI i + nI j = nI (4 * i + j) := cm4 i j
    have e5 : ((4 : Int32) * nI i + nI j).toNatClampNeg = 4 * i + j := by rw [e4, clN (by omega)]
    have e6 : ((12 : Int32) * ((4 : Int32) * nI i + nI j) + nI k).toNatClampNeg = 12 * (4 * i + j) + k := by rw [cm412, clN (by omega)]
    refine w_if_ne 12 (pc := 7) dX6_share_7 (by decide) (fun h7 => ?_) (fun h7 => ?_)
    · refine w_iconst (v := 4) (pc := 12) dX6_share_12 rfl ?_
      refine w_iload_n (pc := 13) dX6_share_13 rfl ?_
      refine w_imul (pc := 14) dX6_share_14 ?_
      refine w_iload_n (pc := 15) dX6_share_15 rfl ?_
      refine w_iadd (pc := 16) dX6_share_16 ?_
      refine w_istore 4 (pc := 17) dX6_share_17 (by decide) ?_
      refine w_aload_n (pc := 19) dX6_share_19 rfl ?_
      refine w_getR (b := 110) (pc := 20) fl_X6_55 hF (by first | assumption | exact ob rfl) rfl rfl dX6_share_20 ?_
      refine w_iload (pc := 23) dX6_share_23 rfl ?_
      refine w_lald (m := 12) (pc := 25) hF (by first | assumption | exact ar rfl) (by rw [e4]; exact vin (by omega) (by decide)) dX6_share_25 ?_
      refine w_lconst (v := 0) (pc := 26) dX6_share_26 rfl ?_
      refine w_lcmp_ne 35 (pc := 27) dX6_share_27 dX6_share_28 (by decide) (fun h27 => ?_) (fun h27 => ?_)
      · refine w_aload_n (pc := 35) dX6_share_35 rfl ?_
        refine w_getR (b := 109) (pc := 36) fl_X6_51 hF (by first | assumption | exact ob rfl) rfl rfl dX6_share_36 ?_
        refine w_bipush (v := 12) (pc := 39) dX6_share_39 rfl ?_
        refine w_iload (pc := 41) dX6_share_41 rfl ?_
        refine w_imul (pc := 43) dX6_share_43 ?_
        refine w_iload_n (pc := 44) dX6_share_44 rfl ?_
        refine w_iadd (pc := 45) dX6_share_45 ?_
        refine w_lald (m := 144) (pc := 46) hF (by first | assumption | exact ar rfl) (by rw [cm412]; exact vin (by omega) (by decide)) dX6_share_46 ?_
        refine w_l2d (pc := 47) dX6_share_47 ?_
        refine w_aload_n (pc := 48) dX6_share_48 rfl ?_
        refine w_getR (b := 110) (pc := 49) fl_X6_55 hF (by first | assumption | exact ob rfl) rfl rfl dX6_share_49 ?_
        refine w_iload (pc := 52) dX6_share_52 rfl ?_
        refine w_lald (m := 12) (pc := 54) hF (by first | assumption | exact ar rfl) (by rw [e4]; exact vin (by omega) (by decide)) dX6_share_54 ?_
        refine w_l2d (pc := 55) dX6_share_55 ?_
        refine w_ddiv (pc := 56) dX6_share_56 (by rw [e5] at h27; rw [e5, e6]; exact (hQ2 ha h27).1) ?_
        refine w_dreturn (pc := 57) dX6_share_57 ?_
        first | (rw [e5] at h27; exact hQ1 ha h27) | (rw [e5] at h27; rw [e5, e6]; exact (hQ2 ha h27).2)
      · refine w_dconst0 (pc := 31) dX6_share_31 ?_
        refine w_goto 57 (pc := 32) dX6_share_32 (by decide) ?_
        refine w_dreturn (pc := 57) dX6_share_57 ?_
        first | (rw [e5] at h27; exact hQ1 ha h27) | (rw [e5] at h27; rw [e5, e6]; exact (hQ2 ha h27).2)
    · exact absurd h7 (by decide)
def sumV (f : Nat → Int64) : Nat → Int64
  | 0 => 0
  | k + 1 => sumV f k + f k
def T_sum : PT := fun as M Q X => ∃ i p : Nat, as = [.ref 96, .int (nI i)] ∧ Full M ∧ i < 3 ∧ p ≤ 24 ∧ mI M 111 i = nI p ∧ Q (some (.long (sumV (fun k => mJ M 114 (24 * i + k)) p))) M
theorem c_X6_sum {l : Launch} (hl : l.stackTraces = false) : Con l yX6_sum wX6_sum 0 1 (T_sum) := by
  refine con_of hl (by decide) ?_ ?_
  · intro as M Q X hpt
    obtain ⟨i, p, rfl, hF, hi, hp, ep, hQ⟩ := hpt
    exact Nat.le_of_ble_eq_true rfl
  intro G as M Q X hl' hT hd hpt
  obtain ⟨i, p, rfl, hF, hi, hp, ep, hQ⟩ := hpt
  have hG : (gl G).stackTraces = false := by rw [hl']; exact hl
  show PW G RX6 cX6_sum 5 (some .long) Q X 0 0 [(0, .ref 96), (1, .int (nI i))] [] M
  have e := clN (i := i) (by omega)
  have ep2 : mI M 111 (nI i).toNatClampNeg = nI p := by rw [e]; exact ep
  have loop : ∀ (n k : Nat) (acc : Int64), k + n = p → acc = sumV (fun k => mJ M 114 (24 * i + k)) k → PW G RX6 cX6_sum 5 (some .long) Q X 0 5 [(0, .ref 96), (1, .int (nI i)), (2, .long acc), (4, .int (nI k))] [] M := by
    intro n
    induction n with
    | zero =>
      intro k acc hk ea
      refine w_iload (pc := 5) dX6_sum_5 rfl ?_
      refine w_aload_n (pc := 7) dX6_sum_7 rfl ?_
      refine w_getR (b := 111) (pc := 8) fl_X6_58 hF (by first | assumption | exact ob rfl) rfl rfl dX6_sum_8 ?_
      refine w_iload_n (pc := 11) dX6_sum_11 rfl ?_
      refine w_iald (m := 3) (pc := 12) hF (by first | assumption | exact ar rfl) (vin hi (by decide)) dX6_sum_12 ?_
      refine w_icmp_ge 37 (pc := 13) dX6_sum_13 (by decide) (fun h13 => ?_) (fun h13 => ?_)
      · refine w_lload_n (pc := 37) dX6_sum_37 rfl ?_
        refine w_lreturn (pc := 38) dX6_sum_38 ?_
        rw [ea, show k = p by omega]
        exact hQ
      · exact absurd (by rw [ep2]; exact nI_le (by omega) (by omega)) h13
    | succ n ih =>
      intro k acc hk ea
      refine w_iload (pc := 5) dX6_sum_5 rfl ?_
      refine w_aload_n (pc := 7) dX6_sum_7 rfl ?_
      refine w_getR (b := 111) (pc := 8) fl_X6_58 hF (by first | assumption | exact ob rfl) rfl rfl dX6_sum_8 ?_
      refine w_iload_n (pc := 11) dX6_sum_11 rfl ?_
      refine w_iald (m := 3) (pc := 12) hF (by first | assumption | exact ar rfl) (vin hi (by decide)) dX6_sum_12 ?_
      refine w_icmp_ge 37 (pc := 13) dX6_sum_13 (by decide) (fun h13 => ?_) (fun h13 => ?_)
      · rw [ep2, nI_leI (by omega) (by omega)] at h13
        omega
      · refine w_lload_n (pc := 16) dX6_sum_16 rfl ?_
        refine w_aload_n (pc := 17) dX6_sum_17 rfl ?_
        refine w_getR (b := 114) (pc := 18) fl_X6_67 hF (by first | assumption | exact ob rfl) rfl rfl dX6_sum_18 ?_
        refine w_bipush (v := 24) (pc := 21) dX6_sum_21 rfl ?_
        refine w_iload_n (pc := 23) dX6_sum_23 rfl ?_
        refine w_imul (pc := 24) dX6_sum_24 ?_
        refine w_iload (pc := 25) dX6_sum_25 rfl ?_
        refine w_iadd (pc := 27) dX6_sum_27 ?_
        refine w_lald (m := 72) (pc := 28) hF (by first | assumption | exact ar rfl) (by rw [cm24]; exact vin (by omega) (by decide)) dX6_sum_28 ?_
        refine w_ladd (pc := 29) dX6_sum_29 ?_
        refine w_lstore_n 2 (pc := 30) rfl dX6_sum_30 (by decide) ?_
        refine w_iinc (v := nI (k + 1)) (pc := 31) dX6_sum_31 rfl (nI_1 k) (by decide) ?_
        refine w_goto 5 (pc := 34) dX6_sum_34 (by decide) ?_
        exact w_lk (ih (k + 1) _ (by omega) (by rw [ea, cm24, clN (by omega)]; rfl)) (lkc rfl (lkc rfl (lkc rfl (lkc rfl lkn))))
  refine w_lconst (v := 0) (pc := 0) dX6_sum_0 rfl ?_
  refine w_lstore_n 2 (pc := 1) rfl dX6_sum_1 (by decide) ?_
  refine w_iconst (v := 0) (pc := 2) dX6_sum_2 rfl ?_
  refine w_istore 4 (pc := 3) dX6_sum_3 (by decide) ?_
  exact w_lk (loop p 0 0 (by omega) rfl) (lkc rfl (lkc rfl (lkc rfl (lkc rfl lkn))))
def intrM (b t : Int64) : Int64 := if b ≤ 0 then 0 else b / 36500 * t + (b - b / 36500 * 36500) * t / 36500
def T_charge : PT := fun as M Q X => ∃ (i p : Nat) (dy : Int32), as = [.ref 96, .int (nI i), .int dy] ∧ Full M ∧ i < 3 ∧ p ≤ 24 ∧ mI M 111 i = nI p ∧ Q (some (.long (intrM (sumV (fun k => mJ M 114 (24 * i + k)) p) ((mI M 96 17).toInt64 * dy.toInt64)))) M
theorem c_X6_charge {l : Launch} (hl : l.stackTraces = false) : Con l yX6_charge wX6_charge 0 2 (T_charge) := by
  refine con_of hl (by decide) ?_ ?_
  · intro as M Q X hpt
    obtain ⟨i, p, dy, rfl, hF, hi, hp, ep, hQ⟩ := hpt
    exact Nat.le_of_ble_eq_true rfl
  intro G as M Q X hl' hT hd hpt
  obtain ⟨i, p, dy, rfl, hF, hi, hp, ep, hQ⟩ := hpt
  have hG : (gl G).stackTraces = false := by rw [hl']; exact hl
  show PW G RX6 cX6_charge 7 (some .long) Q X 0 0 [(0, .ref 96), (1, .int (nI i)), (2, .int dy)] [] M
  refine w_aload_n (pc := 0) dX6_charge_0 rfl ?_
  refine w_iload_n (pc := 1) dX6_charge_1 rfl ?_
  refine w_callV1 (n' := 0) (pc := 2) (c_X6_sum hG) cv_X6_215 (by first | assumption | exact ob rfl) hF hT (by omega) (by decide) (Nat.le_of_ble_eq_true rfl) dX6_charge_2 ?_
  refine ⟨_, _, rfl, hF, hi, hp, ep, ?_⟩
  dsimp only [psh]
  refine w_lstore_n 3 (pc := 5) rfl dX6_charge_5 (by decide) ?_
  refine w_aload_n (pc := 6) dX6_charge_6 rfl ?_
  refine w_getI (pc := 7) fl_X6_221 hF (by first | assumption | exact ob rfl) rfl dX6_charge_7 ?_
  refine w_i2l (pc := 10) dX6_charge_10 ?_
  refine w_iload_n (pc := 11) dX6_charge_11 rfl ?_
  refine w_i2l (pc := 12) dX6_charge_12 ?_
  refine w_lmul (pc := 13) dX6_charge_13 ?_
  refine w_lstore 5 (pc := 14) dX6_charge_14 (by decide) ?_
  refine w_lload_n (pc := 16) dX6_charge_16 rfl ?_
  refine w_lconst (v := 0) (pc := 17) dX6_charge_17 rfl ?_
  refine w_lcmp_le 46 (pc := 18) dX6_charge_18 dX6_charge_19 (by decide) (fun h18 => ?_) (fun h18 => ?_)
  · refine w_lconst (v := 0) (pc := 46) dX6_charge_46 rfl ?_
    refine w_lreturn (pc := 47) dX6_charge_47 ?_
    unfold intrM at hQ
    (repeat (first | rw [if_pos (by assumption)] at hQ | rw [if_neg (by assumption)] at hQ))
    exact hQ
  · refine w_lload_n (pc := 22) dX6_charge_22 rfl ?_
    refine w_ldc2 (pc := 23) kl_X6_224 dX6_charge_23 ?_
    refine w_ldiv (pc := 26) dX6_charge_26 (by decide) ?_
    refine w_lload (pc := 27) dX6_charge_27 rfl ?_
    refine w_lmul (pc := 29) dX6_charge_29 ?_
    refine w_lload_n (pc := 30) dX6_charge_30 rfl ?_
    refine w_ldc2 (pc := 31) kl_X6_224 dX6_charge_31 ?_
    refine w_lrem (pc := 34) dX6_charge_34 (by decide) ?_
    refine w_lload (pc := 35) dX6_charge_35 rfl ?_
    refine w_lmul (pc := 37) dX6_charge_37 ?_
    refine w_ldc2 (pc := 38) kl_X6_224 dX6_charge_38 ?_
    refine w_ldiv (pc := 41) dX6_charge_41 (by decide) ?_
    refine w_ladd (pc := 42) dX6_charge_42 ?_
    refine w_goto 47 (pc := 43) dX6_charge_43 (by decide) ?_
    refine w_lreturn (pc := 47) dX6_charge_47 ?_
    unfold intrM at hQ
    (repeat (first | rw [if_pos (by assumption)] at hQ | rw [if_neg (by assumption)] at hQ))
    exact hQ
def T_mBalance : PT := fun as M Q X => ∃ x : Int32, as = [.ref 96, .int x] ∧ Full M ∧ (¬ ix x 3 → Q (some (.long 0)) (thr M 1)) ∧ (∀ i, i < 3 → x = nI i → ∃ p, p ≤ 24 ∧ mI M 111 i = nI p ∧ Q (some (.long (sumV (fun k => mJ M 114 (24 * i + k)) p))) (sI M 96 0 0))
theorem c_X6_balance {l : Launch} (hl : l.stackTraces = false) : Con l yX6_balance wX6_balance 0 3 (T_mBalance) := by
  refine con_of hl (by decide) ?_ ?_
  · intro as M Q X hpt
    obtain ⟨x, rfl, hF, hX, hQ0⟩ := hpt
    exact Nat.le_of_ble_eq_true rfl
  intro G as M Q X hl' hT hd hpt
  obtain ⟨x, rfl, hF, hX, hQ0⟩ := hpt
  have hG : (gl G).stackTraces = false := by rw [hl']; exact hl
  show PW G RX6 cX6_balance 2 (some .long) Q X 0 0 [(0, .ref 96), (1, .int x)] [] M
  refine w_aload_n (pc := 0) dX6_balance_0 rfl ?_
  refine w_iconst (v := 0) (pc := 1) dX6_balance_1 rfl ?_
  refine w_putI (pc := 2) fp_X6_91 hF (by first | assumption | exact ob rfl) rfl dX6_balance_2 ?_
  refine w_iload_n (pc := 5) dX6_balance_5 rfl ?_
  refine w_i2l (pc := 6) dX6_balance_6 ?_
  refine w_lconst (v := 0) (pc := 7) dX6_balance_7 rfl ?_
  refine w_ldc2 (pc := 8) kl_X6_135 dX6_balance_8 ?_
  refine w_callS3 (n' := 0) (pc := 11) (c_X6_in hG) cs_X6_137 hT (by omega) (by decide) (Nat.le_of_ble_eq_true rfl) dX6_balance_11 ?_
  refine ⟨_, _, _, rfl, ?_⟩
  dsimp only [psh]
  refine w_if_eq 25 (pc := 14) dX6_balance_14 (by decide) (fun h14 => ?_) (fun h14 => ?_)
  · have hx14 := ix_out (n := 2) (N := 2) rfl (by decide) (in_f (lo := 0) (hi := 2) rfl rfl h14)
    refine w_aload_n (pc := 25) dX6_balance_25 rfl ?_
    refine w_iconst (v := 1) (pc := 26) dX6_balance_26 rfl ?_
    refine w_callV1 (n' := 0) (pc := 27) (c_X6_refuse hG) cv_X6_163 (by first | assumption | exact ob rfl) hF hT (by omega) (by decide) (Nat.le_of_ble_eq_true rfl) dX6_balance_27 ?_
    refine ⟨_, rfl, hF, ?_⟩
    dsimp only [psh]
    refine w_i2l (pc := 30) dX6_balance_30 ?_
    refine w_lreturn (pc := 31) dX6_balance_31 ?_
    first | exact hX hx14 | exact hQ
  · obtain ⟨i, hi, rfl⟩ := ix_in (n := 2) (N := 2) rfl (by decide) (in_t (lo := 0) (hi := 2) rfl rfl h14)
    obtain ⟨p, hp, ep, hQ⟩ := hQ0 i hi rfl
    refine w_aload_n (pc := 17) dX6_balance_17 rfl ?_
    refine w_iload_n (pc := 18) dX6_balance_18 rfl ?_
    refine w_callV1 (n' := 0) (pc := 19) (c_X6_sum hG) cv_X6_215 (by first | assumption | exact ob rfl) hF hT (by omega) (by decide) (Nat.le_of_ble_eq_true rfl) dX6_balance_19 ?_
    refine ⟨_, _, rfl, hF, hi, hp, ep, ?_⟩
    dsimp only [psh]
    refine w_goto 31 (pc := 22) dX6_balance_22 (by decide) ?_
    refine w_lreturn (pc := 31) dX6_balance_31 ?_
    first | exact hX hx14 | exact hQ
def T_mPosting : PT := fun as M Q X => ∃ x z w : Int32, as = [.ref 96, .int x, .int z, .int w] ∧ Full M ∧ (¬ ix x 3 → Q (some (.long 0)) (thr M 1)) ∧ (∀ i, i < 3 → x = nI i → ∃ p, p ≤ 24 ∧ mI M 111 i = nI p ∧ (¬ (ix z p ∧ ix w 3) → Q (some (.long 0)) (thr M 2)) ∧ (∀ j, j < p → z = nI j → (w = 0 → Q (some (.long (mI M 112 (24 * i + j)).toInt64)) (sI M 96 0 0)) ∧ (w = 1 → Q (some (.long (mI M 113 (24 * i + j)).toInt64)) (sI M 96 0 0)) ∧ (w = 2 → Q (some (.long (mJ M 114 (24 * i + j)))) (sI M 96 0 0))))
theorem ix_p {x : Int32} {p : Nat} (hp : p ≤ 24) (h : ¬ x < 0 ∧ ¬ nI p - 1 < x) : ∃ i, i < p ∧ x = nI i := by
  obtain ⟨j, hj, rfl⟩ := nI_of h.1
  have h1 := h.2
  rw [Int32.lt_iff_toInt_lt, nI_toInt hj, show (1 : Int32) = nI 1 from rfl, pk_sub_toInt (by omega) (by omega)] at h1
  exact ⟨j, by omega, rfl⟩
theorem ix_p' {x : Int32} {p : Nat} (hp : p ≤ 24) (h : x < 0 ∨ nI p - 1 < x) : ¬ ix x p := by
  rintro ⟨j, hj, rfl⟩
  rw [Int32.lt_iff_toInt_lt, Int32.lt_iff_toInt_lt, nI_toInt (by omega), show (1 : Int32) = nI 1 from rfl, pk_sub_toInt (by omega) (by omega)] at h
  simp only [Int32.toInt_zero] at h
  omega
theorem c_X6_posting {l : Launch} (hl : l.stackTraces = false) : Con l yX6_posting wX6_posting 0 2 (T_mPosting) := by
  refine con_of hl (by decide) ?_ ?_
  · intro as M Q X hpt
    obtain ⟨x, z, w, rfl, hF, hX1, hQ0⟩ := hpt
    exact Nat.le_of_ble_eq_true rfl
  intro G as M Q X hl' hT hd hpt
  obtain ⟨x, z, w, rfl, hF, hX1, hQ0⟩ := hpt
  have hG : (gl G).stackTraces = false := by rw [hl']; exact hl
  show PW G RX6 cX6_posting 5 (some .long) Q X 0 0 [(0, .ref 96), (1, .int x), (2, .int z), (3, .int w)] [] M
  refine w_aload_n (pc := 0) dX6_posting_0 rfl ?_
  refine w_iconst (v := 0) (pc := 1) dX6_posting_1 rfl ?_
  refine w_putI (pc := 2) fp_X6_91 hF (by first | assumption | exact ob rfl) rfl dX6_posting_2 ?_
  refine w_iload_n (pc := 5) dX6_posting_5 rfl ?_
  refine w_i2l (pc := 6) dX6_posting_6 ?_
  refine w_lconst (v := 0) (pc := 7) dX6_posting_7 rfl ?_
  refine w_ldc2 (pc := 8) kl_X6_135 dX6_posting_8 ?_
  refine w_callS3 (n' := 0) (pc := 11) (c_X6_in hG) cs_X6_137 hT (by omega) (by decide) (Nat.le_of_ble_eq_true rfl) dX6_posting_11 ?_
  refine ⟨_, _, _, rfl, ?_⟩
  dsimp only [psh]
  refine w_if_ne 24 (pc := 14) dX6_posting_14 (by decide) (fun h14 => ?_) (fun h14 => ?_)
  · obtain ⟨i, hi, rfl⟩ := ix_in (n := 2) (N := 2) rfl (by decide) (in_t (lo := 0) (hi := 2) rfl rfl h14)
    obtain ⟨p, hp, ep, hX2, hQ1⟩ := hQ0 i hi rfl
    have e := clN (i := i) (by omega)
    have ep2 : mI (sI M 96 0 0) 111 (nI i).toNatClampNeg = nI p := by rw [e]; exact ep
    refine w_iload_n (pc := 24) dX6_posting_24 rfl ?_
    refine w_i2l (pc := 25) dX6_posting_25 ?_
    refine w_lconst (v := 0) (pc := 26) dX6_posting_26 rfl ?_
    refine w_aload_n (pc := 27) dX6_posting_27 rfl ?_
    refine w_getR (b := 111) (pc := 28) fl_X6_58 hF (by first | assumption | exact ob rfl) rfl rfl dX6_posting_28 ?_
    refine w_iload_n (pc := 31) dX6_posting_31 rfl ?_
    refine w_iald (m := 3) (pc := 32) hF (by first | assumption | exact ar rfl) (vin hi (by decide)) dX6_posting_32 ?_
    refine w_iconst (v := 1) (pc := 33) dX6_posting_33 rfl ?_
    refine w_isub (pc := 34) dX6_posting_34 ?_
    refine w_i2l (pc := 35) dX6_posting_35 ?_
    refine w_callS3 (n' := 0) (pc := 36) (c_X6_in hG) cs_X6_137 hT (by omega) (by decide) (Nat.le_of_ble_eq_true rfl) dX6_posting_36 ?_
    refine ⟨_, _, _, rfl, ?_⟩
    dsimp only [psh]
    refine w_if_eq 54 (pc := 39) dX6_posting_39 (by decide) (fun h39 => ?_) (fun h39 => ?_)
    · rw [ep2] at h39
      have hz := ix_p' hp (in_f (lo := 0) rfl rfl h39)
      refine w_aload_n (pc := 54) dX6_posting_54 rfl ?_
      refine w_iconst (v := 2) (pc := 55) dX6_posting_55 rfl ?_
      refine w_callV1 (n' := 0) (pc := 56) (c_X6_refuse hG) cv_X6_163 (by first | assumption | exact ob rfl) hF hT (by omega) (by decide) (Nat.le_of_ble_eq_true rfl) dX6_posting_56 ?_
      refine ⟨_, rfl, hF, ?_⟩
      dsimp only [psh]
      refine w_i2l (pc := 59) dX6_posting_59 ?_
      refine w_lreturn (pc := 60) dX6_posting_60 ?_
      exact hX2 (fun q => by first | exact hz q.1 | exact hx51 q.2)
    · rw [ep2] at h39
      obtain ⟨j, hj, rfl⟩ := ix_p hp (in_t (lo := 0) rfl rfl h39)
      refine w_iload_n (pc := 42) dX6_posting_42 rfl ?_
      refine w_i2l (pc := 43) dX6_posting_43 ?_
      refine w_lconst (v := 0) (pc := 44) dX6_posting_44 rfl ?_
      refine w_ldc2 (pc := 45) kl_X6_135 dX6_posting_45 ?_
      refine w_callS3 (n' := 0) (pc := 48) (c_X6_in hG) cs_X6_137 hT (by omega) (by decide) (Nat.le_of_ble_eq_true rfl) dX6_posting_48 ?_
      refine ⟨_, _, _, rfl, ?_⟩
      dsimp only [psh]
      refine w_if_ne 61 (pc := 51) dX6_posting_51 (by decide) (fun h51 => ?_) (fun h51 => ?_)
      · obtain ⟨k, hk, rfl⟩ := ix_in (n := 2) (N := 2) rfl (by decide) (in_t (lo := 0) (hi := 2) rfl rfl h51)
        obtain ⟨q0, q1, q2⟩ := hQ1 j hj rfl
        have ei : ((24 : Int32) * nI i + nI j).toNatClampNeg = 24 * i + j := by rw [cm24, clN (by omega)]
        refine w_bipush (v := 24) (pc := 61) dX6_posting_61 rfl ?_
        refine w_iload_n (pc := 63) dX6_posting_63 rfl ?_
        refine w_imul (pc := 64) dX6_posting_64 ?_
        refine w_iload_n (pc := 65) dX6_posting_65 rfl ?_
        refine w_iadd (pc := 66) dX6_posting_66 ?_
        refine w_istore 4 (pc := 67) dX6_posting_67 (by decide) ?_
        refine w_iload_n (pc := 69) dX6_posting_69 rfl ?_
        refine w_if_ne 84 (pc := 70) dX6_posting_70 (by decide) (fun h70 => ?_) (fun h70 => ?_)
        · refine w_iload_n (pc := 84) dX6_posting_84 rfl ?_
          refine w_iconst (v := 1) (pc := 85) dX6_posting_85 rfl ?_
          refine w_icmp_ne 100 (pc := 86) dX6_posting_86 (by decide) (fun h86 => ?_) (fun h86 => ?_)
          · refine w_aload_n (pc := 100) dX6_posting_100 rfl ?_
            refine w_getR (b := 114) (pc := 101) fl_X6_67 hF (by first | assumption | exact ob rfl) rfl rfl dX6_posting_101 ?_
            refine w_iload (pc := 104) dX6_posting_104 rfl ?_
            refine w_lald (m := 72) (pc := 106) hF (by first | assumption | exact ar rfl) (by rw [cm24]; exact vin (by omega) (by decide)) dX6_posting_106 ?_
            refine w_lreturn (pc := 107) dX6_posting_107 ?_
            rw [ei]
            first | exact q0 h70 | exact q1 h86 | exact q2 (by rcases (show k = 0 ∨ k = 1 ∨ k = 2 by omega) with rfl | rfl | rfl; exact absurd rfl h70; exact absurd rfl h86; rfl)
          · refine w_aload_n (pc := 89) dX6_posting_89 rfl ?_
            refine w_getR (b := 113) (pc := 90) fl_X6_64 hF (by first | assumption | exact ob rfl) rfl rfl dX6_posting_90 ?_
            refine w_iload (pc := 93) dX6_posting_93 rfl ?_
            refine w_iald (m := 72) (pc := 95) hF (by first | assumption | exact ar rfl) (by rw [cm24]; exact vin (by omega) (by decide)) dX6_posting_95 ?_
            refine w_i2l (pc := 96) dX6_posting_96 ?_
            refine w_goto 107 (pc := 97) dX6_posting_97 (by decide) ?_
            refine w_lreturn (pc := 107) dX6_posting_107 ?_
            rw [ei]
            first | exact q0 h70 | exact q1 h86 | exact q2 (by rcases (show k = 0 ∨ k = 1 ∨ k = 2 by omega) with rfl | rfl | rfl; exact absurd rfl h70; exact absurd rfl h86; rfl)
        · refine w_aload_n (pc := 73) dX6_posting_73 rfl ?_
          refine w_getR (b := 112) (pc := 74) fl_X6_61 hF (by first | assumption | exact ob rfl) rfl rfl dX6_posting_74 ?_
          refine w_iload (pc := 77) dX6_posting_77 rfl ?_
          refine w_iald (m := 72) (pc := 79) hF (by first | assumption | exact ar rfl) (by rw [cm24]; exact vin (by omega) (by decide)) dX6_posting_79 ?_
          refine w_i2l (pc := 80) dX6_posting_80 ?_
          refine w_goto 107 (pc := 81) dX6_posting_81 (by decide) ?_
          refine w_lreturn (pc := 107) dX6_posting_107 ?_
          rw [ei]
          first | exact q0 h70 | exact q1 h86 | exact q2 (by rcases (show k = 0 ∨ k = 1 ∨ k = 2 by omega) with rfl | rfl | rfl; exact absurd rfl h70; exact absurd rfl h86; rfl)
      · have hx51 := ix_out (n := 2) (N := 2) rfl (by decide) (in_f (lo := 0) (hi := 2) rfl rfl h51)
        refine w_aload_n (pc := 54) dX6_posting_54 rfl ?_
        refine w_iconst (v := 2) (pc := 55) dX6_posting_55 rfl ?_
        refine w_callV1 (n' := 0) (pc := 56) (c_X6_refuse hG) cv_X6_163 (by first | assumption | exact ob rfl) hF hT (by omega) (by decide) (Nat.le_of_ble_eq_true rfl) dX6_posting_56 ?_
        refine ⟨_, rfl, hF, ?_⟩
        dsimp only [psh]
        refine w_i2l (pc := 59) dX6_posting_59 ?_
        refine w_lreturn (pc := 60) dX6_posting_60 ?_
        exact hX2 (fun q => by first | exact hz q.1 | exact hx51 q.2)
  · have hx14 := ix_out (n := 2) (N := 2) rfl (by decide) (in_f (lo := 0) (hi := 2) rfl rfl h14)
    refine w_aload_n (pc := 17) dX6_posting_17 rfl ?_
    refine w_iconst (v := 1) (pc := 18) dX6_posting_18 rfl ?_
    refine w_callV1 (n' := 0) (pc := 19) (c_X6_refuse hG) cv_X6_163 (by first | assumption | exact ob rfl) hF hT (by omega) (by decide) (Nat.le_of_ble_eq_true rfl) dX6_posting_19 ?_
    refine ⟨_, rfl, hF, ?_⟩
    dsimp only [psh]
    refine w_i2l (pc := 22) dX6_posting_22 ?_
    refine w_lreturn (pc := 23) dX6_posting_23 ?_
    exact hX1 hx14
def T_mPay : PT := fun as M Q X => ∃ x v : Int32, as = [.ref 96, .int x, .int v] ∧ Full M ∧ (¬ ix x 3 → Q (some (.long 0)) (thr M 1)) ∧ (∀ i, i < 3 → x = nI i → ∃ p, p ≤ 24 ∧ mI M 111 i = nI p ∧ ((v < 1 ∨ 1000000000 < v) → Q (some (.long 0)) (thr M 2)) ∧ (¬ v < 1 → ¬ 1000000000 < v → p = 24 → Q (some (.long 0)) (thr M 3)) ∧ (¬ v < 1 → ¬ 1000000000 < v → p < 24 → Q (some (.long (sumV (fun k => mJ (mPost (sI M 96 0 0) i p 1 (-1) (-v.toInt64)) 114 (24 * i + k)) (p + 1)))) (mPost (sI M 96 0 0) i p 1 (-1) (-v.toInt64))))
theorem c_X6_pay {l : Launch} (hl : l.stackTraces = false) : Con l yX6_pay wX6_pay 0 3 (T_mPay) := by
  refine con_of hl (by decide) ?_ ?_
  · intro as M Q X hpt
    obtain ⟨x, v, rfl, hF, hX1, hQ0⟩ := hpt
    exact Nat.le_of_ble_eq_true rfl
  intro G as M Q X hl' hT hd hpt
  obtain ⟨x, v, rfl, hF, hX1, hQ0⟩ := hpt
  have hG : (gl G).stackTraces = false := by rw [hl']; exact hl
  show PW G RX6 cX6_pay 3 (some .long) Q X 0 0 [(0, .ref 96), (1, .int x), (2, .int v)] [] M
  refine w_aload_n (pc := 0) dX6_pay_0 rfl ?_
  refine w_iconst (v := 0) (pc := 1) dX6_pay_1 rfl ?_
  refine w_putI (pc := 2) fp_X6_91 hF (by first | assumption | exact ob rfl) rfl dX6_pay_2 ?_
  refine w_iload_n (pc := 5) dX6_pay_5 rfl ?_
  refine w_i2l (pc := 6) dX6_pay_6 ?_
  refine w_lconst (v := 0) (pc := 7) dX6_pay_7 rfl ?_
  refine w_ldc2 (pc := 8) kl_X6_135 dX6_pay_8 ?_
  refine w_callS3 (n' := 0) (pc := 11) (c_X6_in hG) cs_X6_137 hT (by omega) (by decide) (Nat.le_of_ble_eq_true rfl) dX6_pay_11 ?_
  refine ⟨_, _, _, rfl, ?_⟩
  dsimp only [psh]
  refine w_if_ne 24 (pc := 14) dX6_pay_14 (by decide) (fun h14 => ?_) (fun h14 => ?_)
  · obtain ⟨i, hi, rfl⟩ := ix_in (n := 2) (N := 2) rfl (by decide) (in_t (lo := 0) (hi := 2) rfl rfl h14)
    obtain ⟨p, hp, ep, hX2, hX3, hQ⟩ := hQ0 i hi rfl
    have e := clN (i := i) (by omega)
    have ep2 : mI (sI M 96 0 0) 111 (nI i).toNatClampNeg = nI p := by rw [e]; exact ep
    refine w_iload_n (pc := 24) dX6_pay_24 rfl ?_
    refine w_i2l (pc := 25) dX6_pay_25 ?_
    refine w_lconst (v := 1) (pc := 26) dX6_pay_26 rfl ?_
    refine w_ldc2 (pc := 27) kl_X6_169 dX6_pay_27 ?_
    refine w_callS3 (n' := 0) (pc := 30) (c_X6_in hG) cs_X6_137 hT (by omega) (by decide) (Nat.le_of_ble_eq_true rfl) dX6_pay_30 ?_
    refine ⟨_, _, _, rfl, ?_⟩
    dsimp only [psh]
    refine w_if_ne 43 (pc := 33) dX6_pay_33 (by decide) (fun h33 => ?_) (fun h33 => ?_)
    · have hv := in_t (lo := 1) (hi := 1000000000) rfl rfl h33
      refine w_aload_n (pc := 43) dX6_pay_43 rfl ?_
      refine w_getR (b := 111) (pc := 44) fl_X6_58 hF (by first | assumption | exact ob rfl) rfl rfl dX6_pay_44 ?_
      refine w_iload_n (pc := 47) dX6_pay_47 rfl ?_
      refine w_iald (m := 3) (pc := 48) hF (by first | assumption | exact ar rfl) (vin hi (by decide)) dX6_pay_48 ?_
      refine w_bipush (v := 24) (pc := 49) dX6_pay_49 rfl ?_
      refine w_icmp_ne 61 (pc := 51) dX6_pay_51 (by decide) (fun h51 => ?_) (fun h51 => ?_)
      · have p24 : p < 24 := by rw [ep2, show (24 : Int32) = nI 24 from rfl, nI_eq (by omega) (by omega)] at h51; omega
        refine w_aload_n (pc := 61) dX6_pay_61 rfl ?_
        refine w_iload_n (pc := 62) dX6_pay_62 rfl ?_
        refine w_iconst (v := 1) (pc := 63) dX6_pay_63 rfl ?_
        refine w_iconst (v := -1) (pc := 64) dX6_pay_64 rfl ?_
        refine w_iload_n (pc := 65) dX6_pay_65 rfl ?_
        refine w_i2l (pc := 66) dX6_pay_66 ?_
        refine w_lneg (pc := 67) dX6_pay_67 ?_
        refine w_callV4 (n' := 0) (pc := 68) (c_X6_post hG) cv_X6_208 (by first | assumption | exact ob rfl) hF hT (by omega) (by decide) (Nat.le_of_ble_eq_true rfl) dX6_pay_68 ?_
        refine ⟨i, p, _, _, _, rfl, hF, hi, p24, ep, ?_⟩
        dsimp only [psh]
        refine w_aload_n (pc := 71) dX6_pay_71 rfl ?_
        refine w_iload_n (pc := 72) dX6_pay_72 rfl ?_
        refine w_callV1 (n' := 0) (pc := 73) (c_X6_sum hG) cv_X6_215 (by first | assumption | exact ob rfl) hF hT (by omega) (by decide) (Nat.le_of_ble_eq_true rfl) dX6_pay_73 ?_
        refine ⟨i, p + 1, rfl, hF, hi, by omega, up2_s _ _ _ _, ?_⟩
        dsimp only [psh]
        refine w_lreturn (pc := 76) dX6_pay_76 ?_
        exact hQ hv.1 hv.2 p24
      · have p24 : p = 24 := by rw [ep2, show (24 : Int32) = nI 24 from rfl, nI_eq (by omega) (by omega)] at h51; exact h51
        refine w_aload_n (pc := 54) dX6_pay_54 rfl ?_
        refine w_iconst (v := 3) (pc := 55) dX6_pay_55 rfl ?_
        refine w_callV1 (n' := 0) (pc := 56) (c_X6_refuse hG) cv_X6_163 (by first | assumption | exact ob rfl) hF hT (by omega) (by decide) (Nat.le_of_ble_eq_true rfl) dX6_pay_56 ?_
        refine ⟨_, rfl, hF, ?_⟩
        dsimp only [psh]
        refine w_i2l (pc := 59) dX6_pay_59 ?_
        refine w_lreturn (pc := 60) dX6_pay_60 ?_
        exact hX3 hv.1 hv.2 p24
    · have hv := in_f (lo := 1) (hi := 1000000000) rfl rfl h33
      refine w_aload_n (pc := 36) dX6_pay_36 rfl ?_
      refine w_iconst (v := 2) (pc := 37) dX6_pay_37 rfl ?_
      refine w_callV1 (n' := 0) (pc := 38) (c_X6_refuse hG) cv_X6_163 (by first | assumption | exact ob rfl) hF hT (by omega) (by decide) (Nat.le_of_ble_eq_true rfl) dX6_pay_38 ?_
      refine ⟨_, rfl, hF, ?_⟩
      dsimp only [psh]
      refine w_i2l (pc := 41) dX6_pay_41 ?_
      refine w_lreturn (pc := 42) dX6_pay_42 ?_
      exact hX2 hv
  · have hx14 := ix_out (n := 2) (N := 2) rfl (by decide) (in_f (lo := 0) (hi := 2) rfl rfl h14)
    refine w_aload_n (pc := 17) dX6_pay_17 rfl ?_
    refine w_iconst (v := 1) (pc := 18) dX6_pay_18 rfl ?_
    refine w_callV1 (n' := 0) (pc := 19) (c_X6_refuse hG) cv_X6_163 (by first | assumption | exact ob rfl) hF hT (by omega) (by decide) (Nat.le_of_ble_eq_true rfl) dX6_pay_19 ?_
    refine ⟨_, rfl, hF, ?_⟩
    dsimp only [psh]
    refine w_i2l (pc := 22) dX6_pay_22 ?_
    refine w_lreturn (pc := 23) dX6_pay_23 ?_
    exact hX1 hx14
theorem rem4 {q : Nat} (h : q < 2 ^ 31) : nI q - nI q / 4 * 4 = nI (q % 4) := by
  rw [show (4 : Int32) = nI 4 from rfl]
  exact pk_rem h (by decide) (by decide)
def befV (M : Mem) (q k : Nat) : Int64 := if q % 4 = 0 then 0 else if mI M 108 (q - 1) = 0 then 0 else mJ M 109 (12 * (q - 1) + k)
def T_before : PT := fun as M Q X => ∃ q k : Nat, as = [.ref 96, .int (nI q), .int (nI k)] ∧ Full M ∧ q < 12 ∧ k < 12 ∧ Q (some (.long (befV M q k))) M
theorem c_X6_before {l : Launch} (hl : l.stackTraces = false) : Con l yX6_before wX6_before 0 1 (T_before) := by
  refine con_of hl (by decide) ?_ ?_
  · intro as M Q X hpt
    obtain ⟨q, k, rfl, hF, hq, hk, hQ⟩ := hpt
    exact Nat.le_of_ble_eq_true rfl
  intro G as M Q X hl' hT hd hpt
  obtain ⟨q, k, rfl, hF, hq, hk, hQ⟩ := hpt
  have hG : (gl G).stackTraces = false := by rw [hl']; exact hl
  show PW G RX6 cX6_before 3 (some .long) Q X 0 0 [(0, .ref 96), (1, .int (nI q)), (2, .int (nI k))] [] M
  refine w_iload_n (pc := 0) dX6_before_0 rfl ?_
  refine w_iconst (v := 4) (pc := 1) dX6_before_1 rfl ?_
  refine w_irem (pc := 2) dX6_before_2 (by decide) ?_
  refine w_if_eq 27 (pc := 3) dX6_before_3 (by decide) (fun h3 => ?_) (fun h3 => ?_)
  · rw [rem4 (by omega), show (0 : Int32) = nI 0 from rfl, nI_eq (by omega) (by omega)] at h3
    refine w_lconst (v := 0) (pc := 27) dX6_before_27 rfl ?_
    refine w_goto 44 (pc := 28) dX6_before_28 (by decide) ?_
    refine w_lreturn (pc := 44) dX6_before_44 ?_
    (try rw [sb1 (by omega), cm12, clN (by omega)])
    unfold befV at hQ
    (repeat (first | rw [if_pos (by assumption)] at hQ | rw [if_neg (by assumption)] at hQ))
    exact hQ
  · rw [rem4 (by omega), show (0 : Int32) = nI 0 from rfl, nI_eq (by omega) (by omega)] at h3
    refine w_aload_n (pc := 6) dX6_before_6 rfl ?_
    refine w_getR (b := 108) (pc := 7) fl_X6_48 hF (by first | assumption | exact ob rfl) rfl rfl dX6_before_7 ?_
    refine w_iload_n (pc := 10) dX6_before_10 rfl ?_
    refine w_iconst (v := 4) (pc := 11) dX6_before_11 rfl ?_
    refine w_irem (pc := 12) dX6_before_12 (by decide) ?_
    refine w_if_ne 20 (pc := 13) dX6_before_13 (by decide) (fun h13 => ?_) (fun h13 => ?_)
    · refine w_iload_n (pc := 20) dX6_before_20 rfl ?_
      refine w_iconst (v := 1) (pc := 21) dX6_before_21 rfl ?_
      refine w_isub (pc := 22) dX6_before_22 ?_
      refine w_zald (m := 12) (pc := 23) hF (by first | assumption | exact ar rfl) (by rw [sb1 (by omega)]; exact vin (by omega) (by decide)) dX6_before_23 ?_
      refine w_if_ne 31 (pc := 24) dX6_before_24 (by decide) (fun h24 => ?_) (fun h24 => ?_)
      · rw [sb1 (by omega), clN (by omega)] at h24
        refine w_aload_n (pc := 31) dX6_before_31 rfl ?_
        refine w_getR (b := 109) (pc := 32) fl_X6_51 hF (by first | assumption | exact ob rfl) rfl rfl dX6_before_32 ?_
        refine w_bipush (v := 12) (pc := 35) dX6_before_35 rfl ?_
        refine w_iload_n (pc := 37) dX6_before_37 rfl ?_
        refine w_iconst (v := 1) (pc := 38) dX6_before_38 rfl ?_
        refine w_isub (pc := 39) dX6_before_39 ?_
        refine w_imul (pc := 40) dX6_before_40 ?_
        refine w_iload_n (pc := 41) dX6_before_41 rfl ?_
        refine w_iadd (pc := 42) dX6_before_42 ?_
        refine w_lald (m := 144) (pc := 43) hF (by first | assumption | exact ar rfl) (by rw [sb1 (by omega), cm12]; exact vin (by omega) (by decide)) dX6_before_43 ?_
        refine w_lreturn (pc := 44) dX6_before_44 ?_
        (try rw [sb1 (by omega), cm12, clN (by omega)])
        unfold befV at hQ
        (repeat (first | rw [if_pos (by assumption)] at hQ | rw [if_neg (by assumption)] at hQ))
        exact hQ
      · rw [sb1 (by omega), clN (by omega)] at h24
        refine w_lconst (v := 0) (pc := 27) dX6_before_27 rfl ?_
        refine w_goto 44 (pc := 28) dX6_before_28 (by decide) ?_
        refine w_lreturn (pc := 44) dX6_before_44 ?_
        (try rw [sb1 (by omega), cm12, clN (by omega)])
        unfold befV at hQ
        (repeat (first | rw [if_pos (by assumption)] at hQ | rw [if_neg (by assumption)] at hQ))
        exact hQ
    · rw [rem4 (by omega), show (0 : Int32) = nI 0 from rfl, nI_eq (by omega) (by omega)] at h13
      exact absurd h13 h3
