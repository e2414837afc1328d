/-! THE REFERENCE AT WORK: operate, workOut -/
/-- the memory with the depth and the stack of the working out -/
def xS (M : Mem) (dp : Nat) (sk : Nat → Int64) : Mem := rJ (sI M 96 32 (nI dp)) 121 sk
theorem x_dp {M : Mem} {dp : Nat} {sk : Nat → Int64} : mI (xS M dp sk) 96 32 = nI dp := (mI_s : mI (sI M 96 32 (nI dp)) 96 32 = nI dp)
theorem x_sk {M : Mem} {dp : Nat} {sk : Nat → Int64} : mJ (xS M dp sk) 121 = sk := mJ_rs
theorem x_J {M : Mem} {dp a : Nat} {sk : Nat → Int64} (h : a ≠ 121) : mJ (xS M dp sk) a = mJ M a := mJ_rn h
theorem x_I {M : Mem} {dp a : Nat} {sk : Nat → Int64} (h : a ≠ 96) : mI (xS M dp sk) a = mI M a := mI_row h
theorem up2_up2 {α : Type} (f : Nat → Nat → α) (a k : Nat) (v w : α) : up2 (up2 f a k v) a k w = up2 f a k w := by
  funext b j
  unfold up2
  split <;> rfl
theorem x_sd {M : Mem} {dp x : Nat} {sk : Nat → Int64} : sI (xS M dp sk) 96 32 (nI x) = xS M x sk := by
  show (up2 (up2 M.1 96 32 (nI dp)) 96 32 (nI x), va_up M.2.1 121 sk, M.2.2) = (up2 M.1 96 32 (nI x), va_up M.2.1 121 sk, M.2.2)
  rw [up2_up2]
theorem x_ss {M : Mem} {dp k : Nat} {sk : Nat → Int64} {v : Int64} : sJ (xS M dp sk) 121 k v = xS M dp (va_up sk k v) := sJ_rw
def TabOkM (M : Mem) : Prop := ∀ t, t < 3 → ∃ sz, sz ≤ 4 ∧ mI M 103 t = nI sz
def tabR (M : Mem) (t : Nat) (v : Int64) : Int64 := tabM M t (mI M 103 t).toNatClampNeg v
def opV (M : Mem) (q k : Nat) (n : Int32) (x y : Int64) : Int64 := match k with
  | 0 => n.toInt64
  | 1 => mJ M 120 n.toNatClampNeg
  | 2 => befV M q n.toNatClampNeg
  | 3 => if x < y then x else y
  | 4 => if y < x then x else y
  | 5 => tabR M n.toNatClampNeg y
  | 6 => divV (y * n.toInt64) 100 2
  | 7 => x + y
  | 8 => x - y
  | 9 => if x < y then 1 else 0
  | _ => if y < x then 1 else 0
def opD (k dp : Nat) : Nat := if k ≤ 2 then dp + 1 else if k = 5 ∨ k = 6 then dp else dp - 1
/-- an operation that may be done at this depth -/
def opB (k : Nat) (n : Int32) (dp : Nat) : Bool := decide (k ≤ 10) && decide (opD k dp ≤ 48) && decide (k ≤ 2 ∨ 1 ≤ dp) && decide (k ≤ 2 ∨ k = 5 ∨ k = 6 ∨ 2 ≤ dp) && (decide (¬ (k = 1 ∨ k = 2)) || decide (¬ n < 0 ∧ n < 12)) && (decide (¬ k = 5) || decide (¬ n < 0 ∧ n < 3))
def opR (M : Mem) (q k : Nat) (n : Int32) (dp : Nat) (sk : Nat → Int64) : Int64 := opV M q k n (sk (dp - 2)) (sk (dp - 1))
def inR (v : Int64) : Bool := decide (¬ v < -1000000000000) && decide (¬ 1000000000000 < v)
def T_operate : PT := fun as M' Q X => ∃ (M : Mem) (dp : Nat) (sk : Nat → Int64) (q k : Nat) (n : Int32), as = [.ref 96, .int (nI q), .int (nI k), .int n] ∧ M' = xS M dp sk ∧ Full M ∧ q < 12 ∧ dp ≤ 48 ∧ TabOkM M ∧ opB k n dp = true ∧ Q (some (.int (bi (inR (opR M q k n dp sk))))) (xS M (opD k dp) (va_up sk (opD k dp - 1) (opR M q k n dp sk)))
theorem opB_of {k : Nat} {n : Int32} {dp : Nat} (h : opB k n dp = true) : k ≤ 10 ∧ opD k dp ≤ 48 ∧ (k ≤ 2 ∨ 1 ≤ dp) ∧ (k ≤ 2 ∨ k = 5 ∨ k = 6 ∨ 2 ≤ dp) ∧ (k = 1 ∨ k = 2 → ∃ j, j < 12 ∧ n = nI j) ∧ (k = 5 → ∃ t, t < 3 ∧ n = nI t) := by
  unfold opB at h
  simp only [Bool.and_eq_true, Bool.or_eq_true, decide_eq_true_eq] at h
  obtain ⟨⟨⟨⟨⟨h1, h2⟩, h3⟩, h4⟩, h5⟩, h6⟩ := h
  refine ⟨h1, h2, h3, h4, fun q => ?_, fun q => ?_⟩
  · rcases h5 with z | z
    · exact absurd q z
    · exact lt_nat 12 (N := 12) rfl (by decide) z.1 z.2
  · rcases h6 with z | z
    · exact absurd q z
    · exact lt_nat 3 (N := 3) rfl (by decide) z.1 z.2
theorem tabM_x {M : Mem} {dp : Nat} {sk : Nat → Int64} {i sz : Nat} {v : Int64} : tabM (xS M dp sk) i sz v = tabM M i sz v := by
  unfold tabM
  rw [x_I (by decide), x_I (by decide), x_I (by decide)]
theorem befV_x {M : Mem} {dp : Nat} {sk : Nat → Int64} {q k : Nat} : befV (xS M dp sk) q k = befV M q k := by
  unfold befV
  rw [x_I (by decide), x_J (by decide)]
theorem c_X6_operate {l : Launch} (hl : l.stackTraces = false) : Con l yX6_operate wX6_operate 0 3 (T_operate) := by
  refine con_of hl (by decide) ?_ ?_
  · intro as M Q X hpt
    obtain ⟨M, dp, sk, q, k, n, rfl, rfl, hF, hq, hdp, htab, hB, hQ⟩ := hpt
    exact Nat.le_of_ble_eq_true rfl
  intro G as M Q X hl' hT hd hpt
  obtain ⟨M, dp, sk, q, k, n, rfl, rfl, hF, hq, hdp, htab, hB, hQ⟩ := hpt
  have hG : (gl G).stackTraces = false := by rw [hl']; exact hl
  show PW G RX6 cX6_operate 12 (some .boolean) Q X 0 0 [(0, .ref 96), (1, .int (nI q)), (2, .int (nI k)), (3, .int n)] [] (xS M dp sk)
  obtain ⟨hk, hD, hp1, hp2, -, -⟩ := opB_of hB
  have hcases : k = 0 ∨ k = 1 ∨ k = 2 ∨ k = 3 ∨ k = 4 ∨ k = 5 ∨ k = 6 ∨ k = 7 ∨ k = 8 ∨ k = 9 ∨ k = 10 := by omega
  rcases hcases with rfl | rfl | rfl | rfl | rfl | rfl | rfl | rfl | rfl | rfl | rfl
  · have hD2 : opD 0 dp = dp + 1 := rfl
    rw [hD2] at hD hQ
    refine w_iload_n (pc := 0) dX6_operate_0 rfl ?_
    refine w_iconst (v := 2) (pc := 1) dX6_operate_1 rfl ?_
    refine w_icmp_gt 9 (pc := 2) dX6_operate_2 (by decide) (fun h2 => ?_) (fun h2 => ?_)
    · exact absurd h2 (by decide)
    · refine w_iconst (v := 1) (pc := 5) dX6_operate_5 rfl ?_
      refine w_goto 10 (pc := 6) dX6_operate_6 (by decide) ?_
      refine w_istore 4 (pc := 10) dX6_operate_10 (by decide) ?_
      refine w_iload_n (pc := 12) dX6_operate_12 rfl ?_
      refine w_iconst (v := 5) (pc := 13) dX6_operate_13 rfl ?_
      refine w_icmp_eq 23 (pc := 14) dX6_operate_14 (by decide) (fun h14 => ?_) (fun h14 => ?_)
      · exact absurd h14 (by decide)
      · refine w_iload_n (pc := 17) dX6_operate_17 rfl ?_
        refine w_bipush (v := 6) (pc := 18) dX6_operate_18 rfl ?_
        refine w_icmp_ne 27 (pc := 20) dX6_operate_20 (by decide) (fun h20 => ?_) (fun h20 => ?_)
        · refine w_iconst (v := 0) (pc := 27) dX6_operate_27 rfl ?_
          refine w_istore 5 (pc := 28) dX6_operate_28 (by decide) ?_
          refine w_iload (pc := 30) dX6_operate_30 rfl ?_
          refine w_if_eq 39 (pc := 32) dX6_operate_32 (by decide) (fun h32 => ?_) (fun h32 => ?_)
          · exact absurd h32 (by decide)
          · refine w_lconst (v := 0) (pc := 35) dX6_operate_35 rfl ?_
            refine w_goto 50 (pc := 36) dX6_operate_36 (by decide) ?_
            refine w_lstore 6 (pc := 50) dX6_operate_50 (by decide) ?_
            refine w_iload (pc := 52) dX6_operate_52 rfl ?_
            refine w_if_ne 62 (pc := 54) dX6_operate_54 (by decide) (fun h54 => ?_) (fun h54 => ?_)
            · refine w_lconst (v := 0) (pc := 62) dX6_operate_62 rfl ?_
              refine w_goto 77 (pc := 63) dX6_operate_63 (by decide) ?_
              refine w_lstore 8 (pc := 77) dX6_operate_77 (by decide) ?_
              refine w_aload_n (pc := 79) dX6_operate_79 rfl ?_
              refine w_iload (pc := 80) dX6_operate_80 rfl ?_
              refine w_if_eq 94 (pc := 82) dX6_operate_82 (by decide) (fun h82 => ?_) (fun h82 => ?_)
              · exact absurd h82 (by decide)
              · refine w_aload_n (pc := 85) dX6_operate_85 rfl ?_
                refine w_getI (pc := 86) fl_X6_184 hF (by first | assumption | exact ob rfl) rfl dX6_operate_86 ?_
                rw [x_dp]
                refine w_iconst (v := 1) (pc := 89) dX6_operate_89 rfl ?_
                refine w_iadd (pc := 90) dX6_operate_90 ?_
                refine w_goto 112 (pc := 91) dX6_operate_91 (by decide) ?_
                refine w_putI (pc := 112) fp_X6_184 hF (by first | assumption | exact ob rfl) rfl dX6_operate_112 ?_
                rw [nI_1, x_sd]
                refine w_lconst (v := 0) (pc := 115) dX6_operate_115 rfl ?_
                refine w_lstore 10 (pc := 116) dX6_operate_116 (by decide) ?_
                refine w_iload_n (pc := 118) dX6_operate_118 rfl ?_
                refine w_tableIn 172 (pc := 119) dX6_operate_119 (by decide) (by decide) (off := 53) rfl (by decide) ?_
                refine w_iload_n (pc := 172) dX6_operate_172 rfl ?_
                refine w_i2l (pc := 173) dX6_operate_173 ?_
                refine w_lstore 10 (pc := 174) dX6_operate_174 (by decide) ?_
                refine w_goto 323 (pc := 176) dX6_operate_176 (by decide) ?_
                refine w_aload_n (pc := 323) dX6_operate_323 rfl ?_
                refine w_getR (b := 121) (pc := 324) fl_X6_88 hF (by first | assumption | exact ob rfl) rfl rfl dX6_operate_324 ?_
                refine w_aload_n (pc := 327) dX6_operate_327 rfl ?_
                refine w_getI (pc := 328) fl_X6_184 hF (by first | assumption | exact ob rfl) rfl dX6_operate_328 ?_
                rw [x_dp]
                refine w_iconst (v := 1) (pc := 331) dX6_operate_331 rfl ?_
                refine w_isub (pc := 332) dX6_operate_332 ?_
                refine w_lload (pc := 333) dX6_operate_333 rfl ?_
                refine w_last (m := 48) (pc := 335) hF (by first | assumption | exact ar rfl) (by rw [sb1 (by omega)]; exact vin (by omega) (by decide)) dX6_operate_335 ?_
                rw [sb1 (by omega), clN (by omega), x_ss]
                refine w_lload (pc := 336) dX6_operate_336 rfl ?_
                refine w_ldc2 (pc := 338) kl_X6_201 dX6_operate_338 ?_
                refine w_ldc2 (pc := 341) kl_X6_203 dX6_operate_341 ?_
                refine w_callS3 (n' := 0) (pc := 344) (c_X6_in hG) cs_X6_137 hT (by omega) (by decide) (Nat.le_of_ble_eq_true rfl) dX6_operate_344 ?_
                refine ⟨_, _, _, rfl, ?_⟩
                dsimp only [psh]
                refine w_ireturn (pc := 347) dX6_operate_347 (bi_nar _) ?_
                exact hQ
            · exact absurd h54 (by decide)
        · exact absurd h20 (by decide)
  · have hD2 : opD 1 dp = dp + 1 := rfl
    rw [hD2] at hD hQ
    refine w_iload_n (pc := 0) dX6_operate_0 rfl ?_
    refine w_iconst (v := 2) (pc := 1) dX6_operate_1 rfl ?_
    refine w_icmp_gt 9 (pc := 2) dX6_operate_2 (by decide) (fun h2 => ?_) (fun h2 => ?_)
    · exact absurd h2 (by decide)
    · refine w_iconst (v := 1) (pc := 5) dX6_operate_5 rfl ?_
      refine w_goto 10 (pc := 6) dX6_operate_6 (by decide) ?_
      refine w_istore 4 (pc := 10) dX6_operate_10 (by decide) ?_
      refine w_iload_n (pc := 12) dX6_operate_12 rfl ?_
      refine w_iconst (v := 5) (pc := 13) dX6_operate_13 rfl ?_
      refine w_icmp_eq 23 (pc := 14) dX6_operate_14 (by decide) (fun h14 => ?_) (fun h14 => ?_)
      · exact absurd h14 (by decide)
      · refine w_iload_n (pc := 17) dX6_operate_17 rfl ?_
        refine w_bipush (v := 6) (pc := 18) dX6_operate_18 rfl ?_
        refine w_icmp_ne 27 (pc := 20) dX6_operate_20 (by decide) (fun h20 => ?_) (fun h20 => ?_)
        · refine w_iconst (v := 0) (pc := 27) dX6_operate_27 rfl ?_
          refine w_istore 5 (pc := 28) dX6_operate_28 (by decide) ?_
          refine w_iload (pc := 30) dX6_operate_30 rfl ?_
          refine w_if_eq 39 (pc := 32) dX6_operate_32 (by decide) (fun h32 => ?_) (fun h32 => ?_)
          · exact absurd h32 (by decide)
          · refine w_lconst (v := 0) (pc := 35) dX6_operate_35 rfl ?_
            refine w_goto 50 (pc := 36) dX6_operate_36 (by decide) ?_
            refine w_lstore 6 (pc := 50) dX6_operate_50 (by decide) ?_
            refine w_iload (pc := 52) dX6_operate_52 rfl ?_
            refine w_if_ne 62 (pc := 54) dX6_operate_54 (by decide) (fun h54 => ?_) (fun h54 => ?_)
            · refine w_lconst (v := 0) (pc := 62) dX6_operate_62 rfl ?_
              refine w_goto 77 (pc := 63) dX6_operate_63 (by decide) ?_
              refine w_lstore 8 (pc := 77) dX6_operate_77 (by decide) ?_
              refine w_aload_n (pc := 79) dX6_operate_79 rfl ?_
              refine w_iload (pc := 80) dX6_operate_80 rfl ?_
              refine w_if_eq 94 (pc := 82) dX6_operate_82 (by decide) (fun h82 => ?_) (fun h82 => ?_)
              · exact absurd h82 (by decide)
              · refine w_aload_n (pc := 85) dX6_operate_85 rfl ?_
                refine w_getI (pc := 86) fl_X6_184 hF (by first | assumption | exact ob rfl) rfl dX6_operate_86 ?_
                rw [x_dp]
                refine w_iconst (v := 1) (pc := 89) dX6_operate_89 rfl ?_
                refine w_iadd (pc := 90) dX6_operate_90 ?_
                refine w_goto 112 (pc := 91) dX6_operate_91 (by decide) ?_
                refine w_putI (pc := 112) fp_X6_184 hF (by first | assumption | exact ob rfl) rfl dX6_operate_112 ?_
                rw [nI_1, x_sd]
                refine w_lconst (v := 0) (pc := 115) dX6_operate_115 rfl ?_
                refine w_lstore 10 (pc := 116) dX6_operate_116 (by decide) ?_
                refine w_iload_n (pc := 118) dX6_operate_118 rfl ?_
                refine w_tableIn 179 (pc := 119) dX6_operate_119 (by decide) (by decide) (off := 60) rfl (by decide) ?_
                refine w_aload_n (pc := 179) dX6_operate_179 rfl ?_
                refine w_getR (b := 120) (pc := 180) fl_X6_85 hF (by first | assumption | exact ob rfl) rfl rfl dX6_operate_180 ?_
                refine w_iload_n (pc := 183) dX6_operate_183 rfl ?_
                refine w_lald (m := 12) (pc := 184) hF (by first | assumption | exact ar rfl) (by obtain ⟨j, hj, rfl⟩   := (opB_of hB).2.2.2.2.1 (Or.inl rfl); exact vin hj (by decide)) dX6_operate_184 ?_
                rw [x_J (by decide)]
                refine w_lstore 10 (pc := 185) dX6_operate_185 (by decide) ?_
                refine w_goto 323 (pc := 187) dX6_operate_187 (by decide) ?_
                refine w_aload_n (pc := 323) dX6_operate_323 rfl ?_
                refine w_getR (b := 121) (pc := 324) fl_X6_88 hF (by first | assumption | exact ob rfl) rfl rfl dX6_operate_324 ?_
                refine w_aload_n (pc := 327) dX6_operate_327 rfl ?_
                refine w_getI (pc := 328) fl_X6_184 hF (by first | assumption | exact ob rfl) rfl dX6_operate_328 ?_
                rw [x_dp]
                refine w_iconst (v := 1) (pc := 331) dX6_operate_331 rfl ?_
                refine w_isub (pc := 332) dX6_operate_332 ?_
                refine w_lload (pc := 333) dX6_operate_333 rfl ?_
                refine w_last (m := 48) (pc := 335) hF (by first | assumption | exact ar rfl) (by rw [sb1 (by omega)]; exact vin (by omega) (by decide)) dX6_operate_335 ?_
                rw [sb1 (by omega), clN (by omega), x_ss]
                refine w_lload (pc := 336) dX6_operate_336 rfl ?_
                refine w_ldc2 (pc := 338) kl_X6_201 dX6_operate_338 ?_
                refine w_ldc2 (pc := 341) kl_X6_203 dX6_operate_341 ?_
                refine w_callS3 (n' := 0) (pc := 344) (c_X6_in hG) cs_X6_137 hT (by omega) (by decide) (Nat.le_of_ble_eq_true rfl) dX6_operate_344 ?_
                refine ⟨_, _, _, rfl, ?_⟩
                dsimp only [psh]
                refine w_ireturn (pc := 347) dX6_operate_347 (bi_nar _) ?_
                exact hQ
            · exact absurd h54 (by decide)
        · exact absurd h20 (by decide)
  · have hD2 : opD 2 dp = dp + 1 := rfl
    rw [hD2] at hD hQ
    refine w_iload_n (pc := 0) dX6_operate_0 rfl ?_
    refine w_iconst (v := 2) (pc := 1) dX6_operate_1 rfl ?_
    refine w_icmp_gt 9 (pc := 2) dX6_operate_2 (by decide) (fun h2 => ?_) (fun h2 => ?_)
    · exact absurd h2 (by decide)
    · refine w_iconst (v := 1) (pc := 5) dX6_operate_5 rfl ?_
      refine w_goto 10 (pc := 6) dX6_operate_6 (by decide) ?_
      refine w_istore 4 (pc := 10) dX6_operate_10 (by decide) ?_
      refine w_iload_n (pc := 12) dX6_operate_12 rfl ?_
      refine w_iconst (v := 5) (pc := 13) dX6_operate_13 rfl ?_
      refine w_icmp_eq 23 (pc := 14) dX6_operate_14 (by decide) (fun h14 => ?_) (fun h14 => ?_)
      · exact absurd h14 (by decide)
      · refine w_iload_n (pc := 17) dX6_operate_17 rfl ?_
        refine w_bipush (v := 6) (pc := 18) dX6_operate_18 rfl ?_
        refine w_icmp_ne 27 (pc := 20) dX6_operate_20 (by decide) (fun h20 => ?_) (fun h20 => ?_)
        · refine w_iconst (v := 0) (pc := 27) dX6_operate_27 rfl ?_
          refine w_istore 5 (pc := 28) dX6_operate_28 (by decide) ?_
          refine w_iload (pc := 30) dX6_operate_30 rfl ?_
          refine w_if_eq 39 (pc := 32) dX6_operate_32 (by decide) (fun h32 => ?_) (fun h32 => ?_)
          · exact absurd h32 (by decide)
          · refine w_lconst (v := 0) (pc := 35) dX6_operate_35 rfl ?_
            refine w_goto 50 (pc := 36) dX6_operate_36 (by decide) ?_
            refine w_lstore 6 (pc := 50) dX6_operate_50 (by decide) ?_
            refine w_iload (pc := 52) dX6_operate_52 rfl ?_
            refine w_if_ne 62 (pc := 54) dX6_operate_54 (by decide) (fun h54 => ?_) (fun h54 => ?_)
            · refine w_lconst (v := 0) (pc := 62) dX6_operate_62 rfl ?_
              refine w_goto 77 (pc := 63) dX6_operate_63 (by decide) ?_
              refine w_lstore 8 (pc := 77) dX6_operate_77 (by decide) ?_
              refine w_aload_n (pc := 79) dX6_operate_79 rfl ?_
              refine w_iload (pc := 80) dX6_operate_80 rfl ?_
              refine w_if_eq 94 (pc := 82) dX6_operate_82 (by decide) (fun h82 => ?_) (fun h82 => ?_)
              · exact absurd h82 (by decide)
              · refine w_aload_n (pc := 85) dX6_operate_85 rfl ?_
                refine w_getI (pc := 86) fl_X6_184 hF (by first | assumption | exact ob rfl) rfl dX6_operate_86 ?_
                rw [x_dp]
                refine w_iconst (v := 1) (pc := 89) dX6_operate_89 rfl ?_
                refine w_iadd (pc := 90) dX6_operate_90 ?_
                refine w_goto 112 (pc := 91) dX6_operate_91 (by decide) ?_
                refine w_putI (pc := 112) fp_X6_184 hF (by first | assumption | exact ob rfl) rfl dX6_operate_112 ?_
                rw [nI_1, x_sd]
                refine w_lconst (v := 0) (pc := 115) dX6_operate_115 rfl ?_
                refine w_lstore 10 (pc := 116) dX6_operate_116 (by decide) ?_
                refine w_iload_n (pc := 118) dX6_operate_118 rfl ?_
                refine w_tableIn 190 (pc := 119) dX6_operate_119 (by decide) (by decide) (off := 71) rfl (by decide) ?_
                refine w_aload_n (pc := 190) dX6_operate_190 rfl ?_
                refine w_iload_n (pc := 191) dX6_operate_191 rfl ?_
                refine w_iload_n (pc := 192) dX6_operate_192 rfl ?_
                refine w_callV2 (n' := 0) (pc := 193) (c_X6_before hG) cv_X6_191 (by first | assumption | exact ob rfl) hF hT (by omega) (by decide) (Nat.le_of_ble_eq_true rfl) dX6_operate_193 ?_
                obtain ⟨j, hj, rfl⟩   := (opB_of hB).2.2.2.2.1 (Or.inr rfl)
                refine ⟨q, j, rfl, hF, hq, hj, ?_⟩
                rw [befV_x]
                dsimp only [psh]
                refine w_lstore 10 (pc := 196) dX6_operate_196 (by decide) ?_
                refine w_goto 323 (pc := 198) dX6_operate_198 (by decide) ?_
                refine w_aload_n (pc := 323) dX6_operate_323 rfl ?_
                refine w_getR (b := 121) (pc := 324) fl_X6_88 hF (by first | assumption | exact ob rfl) rfl rfl dX6_operate_324 ?_
                refine w_aload_n (pc := 327) dX6_operate_327 rfl ?_
                refine w_getI (pc := 328) fl_X6_184 hF (by first | assumption | exact ob rfl) rfl dX6_operate_328 ?_
                rw [x_dp]
                refine w_iconst (v := 1) (pc := 331) dX6_operate_331 rfl ?_
                refine w_isub (pc := 332) dX6_operate_332 ?_
                refine w_lload (pc := 333) dX6_operate_333 rfl ?_
                refine w_last (m := 48) (pc := 335) hF (by first | assumption | exact ar rfl) (by rw [sb1 (by omega)]; exact vin (by omega) (by decide)) dX6_operate_335 ?_
                rw [sb1 (by omega), clN (by omega), x_ss]
                refine w_lload (pc := 336) dX6_operate_336 rfl ?_
                refine w_ldc2 (pc := 338) kl_X6_201 dX6_operate_338 ?_
                refine w_ldc2 (pc := 341) kl_X6_203 dX6_operate_341 ?_
                refine w_callS3 (n' := 0) (pc := 344) (c_X6_in hG) cs_X6_137 hT (by omega) (by decide) (Nat.le_of_ble_eq_true rfl) dX6_operate_344 ?_
                refine ⟨_, _, _, rfl, ?_⟩
                dsimp only [psh]
                refine w_ireturn (pc := 347) dX6_operate_347 (bi_nar _) ?_
                unfold opR opV at hQ
                rw [clN (by omega)] at hQ
                exact hQ
            · exact absurd h54 (by decide)
        · exact absurd h20 (by decide)
  · have hD2 : opD 3 dp = dp - 1 := rfl
    rw [hD2] at hD hQ
    refine w_iload_n (pc := 0) dX6_operate_0 rfl ?_
    refine w_iconst (v := 2) (pc := 1) dX6_operate_1 rfl ?_
    refine w_icmp_gt 9 (pc := 2) dX6_operate_2 (by decide) (fun h2 => ?_) (fun h2 => ?_)
    · refine w_iconst (v := 0) (pc := 9) dX6_operate_9 rfl ?_
      refine w_istore 4 (pc := 10) dX6_operate_10 (by decide) ?_
      refine w_iload_n (pc := 12) dX6_operate_12 rfl ?_
      refine w_iconst (v := 5) (pc := 13) dX6_operate_13 rfl ?_
      refine w_icmp_eq 23 (pc := 14) dX6_operate_14 (by decide) (fun h14 => ?_) (fun h14 => ?_)
      · exact absurd h14 (by decide)
      · refine w_iload_n (pc := 17) dX6_operate_17 rfl ?_
        refine w_bipush (v := 6) (pc := 18) dX6_operate_18 rfl ?_
        refine w_icmp_ne 27 (pc := 20) dX6_operate_20 (by decide) (fun h20 => ?_) (fun h20 => ?_)
        · refine w_iconst (v := 0) (pc := 27) dX6_operate_27 rfl ?_
          refine w_istore 5 (pc := 28) dX6_operate_28 (by decide) ?_
          refine w_iload (pc := 30) dX6_operate_30 rfl ?_
          refine w_if_eq 39 (pc := 32) dX6_operate_32 (by decide) (fun h32 => ?_) (fun h32 => ?_)
          · refine w_aload_n (pc := 39) dX6_operate_39 rfl ?_
            refine w_getR (b := 121) (pc := 40) fl_X6_88 hF (by first | assumption | exact ob rfl) rfl rfl dX6_operate_40 ?_
            refine w_aload_n (pc := 43) dX6_operate_43 rfl ?_
            refine w_getI (pc := 44) fl_X6_184 hF (by first | assumption | exact ob rfl) rfl dX6_operate_44 ?_
            rw [x_dp]
            refine w_iconst (v := 1) (pc := 47) dX6_operate_47 rfl ?_
            refine w_isub (pc := 48) dX6_operate_48 ?_
            refine w_lald (m := 48) (pc := 49) hF (by first | assumption | exact ar rfl) (by rw [sb1 (by omega)]; exact vin (by omega) (by decide)) dX6_operate_49 ?_
            rw [x_sk, sb1 (by omega), clN (by omega)]
            refine w_lstore 6 (pc := 50) dX6_operate_50 (by decide) ?_
            refine w_iload (pc := 52) dX6_operate_52 rfl ?_
            refine w_if_ne 62 (pc := 54) dX6_operate_54 (by decide) (fun h54 => ?_) (fun h54 => ?_)
            · exact absurd h54 (by decide)
            · refine w_iload (pc := 57) dX6_operate_57 rfl ?_
              refine w_if_eq 66 (pc := 59) dX6_operate_59 (by decide) (fun h59 => ?_) (fun h59 => ?_)
              · refine w_aload_n (pc := 66) dX6_operate_66 rfl ?_
                refine w_getR (b := 121) (pc := 67) fl_X6_88 hF (by first | assumption | exact ob rfl) rfl rfl dX6_operate_67 ?_
                refine w_aload_n (pc := 70) dX6_operate_70 rfl ?_
                refine w_getI (pc := 71) fl_X6_184 hF (by first | assumption | exact ob rfl) rfl dX6_operate_71 ?_
                rw [x_dp]
                refine w_iconst (v := 2) (pc := 74) dX6_operate_74 rfl ?_
                refine w_isub (pc := 75) dX6_operate_75 ?_
                refine w_lald (m := 48) (pc := 76) hF (by first | assumption | exact ar rfl) (by rw [show (2 : Int32) = nI 2 from rfl, pk_sub (by omega)]; exact vin (by omega) (by decide)) dX6_operate_76 ?_
                rw [x_sk, show (2 : Int32) = nI 2 from rfl, pk_sub (by omega), clN (by omega)]
                refine w_lstore 8 (pc := 77) dX6_operate_77 (by decide) ?_
                refine w_aload_n (pc := 79) dX6_operate_79 rfl ?_
                refine w_iload (pc := 80) dX6_operate_80 rfl ?_
                refine w_if_eq 94 (pc := 82) dX6_operate_82 (by decide) (fun h82 => ?_) (fun h82 => ?_)
                · refine w_iload (pc := 94) dX6_operate_94 rfl ?_
                  refine w_if_eq 106 (pc := 96) dX6_operate_96 (by decide) (fun h96 => ?_) (fun h96 => ?_)
                  · refine w_aload_n (pc := 106) dX6_operate_106 rfl ?_
                    refine w_getI (pc := 107) fl_X6_184 hF (by first | assumption | exact ob rfl) rfl dX6_operate_107 ?_
                    rw [x_dp]
                    refine w_iconst (v := 1) (pc := 110) dX6_operate_110 rfl ?_
                    refine w_isub (pc := 111) dX6_operate_111 ?_
                    refine w_putI (pc := 112) fp_X6_184 hF (by first | assumption | exact ob rfl) rfl dX6_operate_112 ?_
                    rw [sb1 (by omega), x_sd]
                    refine w_lconst (v := 0) (pc := 115) dX6_operate_115 rfl ?_
                    refine w_lstore 10 (pc := 116) dX6_operate_116 (by decide) ?_
                    refine w_iload_n (pc := 118) dX6_operate_118 rfl ?_
                    refine w_tableIn 201 (pc := 119) dX6_operate_119 (by decide) (by decide) (off := 82) rfl (by decide) ?_
                    refine w_lload (pc := 201) dX6_operate_201 rfl ?_
                    refine w_lload (pc := 203) dX6_operate_203 rfl ?_
                    refine w_lcmp_ge 214 (pc := 205) dX6_operate_205 dX6_operate_206 (by decide) (fun h205 => ?_) (fun h205 => ?_)
                    · refine w_lload (pc := 214) dX6_operate_214 rfl ?_
                      refine w_lstore 10 (pc := 216) dX6_operate_216 (by decide) ?_
                      refine w_goto 323 (pc := 218) dX6_operate_218 (by decide) ?_
                      refine w_aload_n (pc := 323) dX6_operate_323 rfl ?_
                      refine w_getR (b := 121) (pc := 324) fl_X6_88 hF (by first | assumption | exact ob rfl) rfl rfl dX6_operate_324 ?_
                      refine w_aload_n (pc := 327) dX6_operate_327 rfl ?_
                      refine w_getI (pc := 328) fl_X6_184 hF (by first | assumption | exact ob rfl) rfl dX6_operate_328 ?_
                      rw [x_dp]
                      refine w_iconst (v := 1) (pc := 331) dX6_operate_331 rfl ?_
                      refine w_isub (pc := 332) dX6_operate_332 ?_
                      refine w_lload (pc := 333) dX6_operate_333 rfl ?_
                      refine w_last (m := 48) (pc := 335) hF (by first | assumption | exact ar rfl) (by rw [sb1 (by omega)]; exact vin (by omega) (by decide)) dX6_operate_335 ?_
                      rw [sb1 (by omega), clN (by omega), x_ss]
                      refine w_lload (pc := 336) dX6_operate_336 rfl ?_
                      refine w_ldc2 (pc := 338) kl_X6_201 dX6_operate_338 ?_
                      refine w_ldc2 (pc := 341) kl_X6_203 dX6_operate_341 ?_
                      refine w_callS3 (n' := 0) (pc := 344) (c_X6_in hG) cs_X6_137 hT (by omega) (by decide) (Nat.le_of_ble_eq_true rfl) dX6_operate_344 ?_
                      refine ⟨_, _, _, rfl, ?_⟩
                      dsimp only [psh]
                      refine w_ireturn (pc := 347) dX6_operate_347 (bi_nar _) ?_
                      first | (have e9 : opR M q 3 n dp sk = sk (dp - 2) := if_pos (Int64.not_le.mp h205); rw [e9] at hQ; exact hQ) | (have e9 : opR M q 3 n dp sk = sk (dp - 1) := if_neg (Int64.not_lt.mpr h205); rw [e9] at hQ; exact hQ) | (have e9 : opR M q 3 n dp sk = sk (dp - 2) := if_pos h205; rw [e9] at hQ; exact hQ) | (have e9 : opR M q 3 n dp sk = sk (dp - 1) := if_neg h205; rw [e9] at hQ; exact hQ) | (have e9 : opR M q 3 n dp sk = sk (dp - 1) := if_neg (Int64.not_lt.mpr h205); rw [e9] at hQ; exact hQ)
                    · refine w_lload (pc := 209) dX6_operate_209 rfl ?_
                      refine w_goto 216 (pc := 211) dX6_operate_211 (by decide) ?_
                      refine w_lstore 10 (pc := 216) dX6_operate_216 (by decide) ?_
                      refine w_goto 323 (pc := 218) dX6_operate_218 (by decide) ?_
                      refine w_aload_n (pc := 323) dX6_operate_323 rfl ?_
                      refine w_getR (b := 121) (pc := 324) fl_X6_88 hF (by first | assumption | exact ob rfl) rfl rfl dX6_operate_324 ?_
                      refine w_aload_n (pc := 327) dX6_operate_327 rfl ?_
                      refine w_getI (pc := 328) fl_X6_184 hF (by first | assumption | exact ob rfl) rfl dX6_operate_328 ?_
                      rw [x_dp]
                      refine w_iconst (v := 1) (pc := 331) dX6_operate_331 rfl ?_
                      refine w_isub (pc := 332) dX6_operate_332 ?_
                      refine w_lload (pc := 333) dX6_operate_333 rfl ?_
                      refine w_last (m := 48) (pc := 335) hF (by first | assumption | exact ar rfl) (by rw [sb1 (by omega)]; exact vin (by omega) (by decide)) dX6_operate_335 ?_
                      rw [sb1 (by omega), clN (by omega), x_ss]
                      refine w_lload (pc := 336) dX6_operate_336 rfl ?_
                      refine w_ldc2 (pc := 338) kl_X6_201 dX6_operate_338 ?_
                      refine w_ldc2 (pc := 341) kl_X6_203 dX6_operate_341 ?_
                      refine w_callS3 (n' := 0) (pc := 344) (c_X6_in hG) cs_X6_137 hT (by omega) (by decide) (Nat.le_of_ble_eq_true rfl) dX6_operate_344 ?_
                      refine ⟨_, _, _, rfl, ?_⟩
                      dsimp only [psh]
                      refine w_ireturn (pc := 347) dX6_operate_347 (bi_nar _) ?_
                      first | (have e9 : opR M q 3 n dp sk = sk (dp - 2) := if_pos (Int64.not_le.mp h205); rw [e9] at hQ; exact hQ) | (have e9 : opR M q 3 n dp sk = sk (dp - 1) := if_neg (Int64.not_lt.mpr h205); rw [e9] at hQ; exact hQ) | (have e9 : opR M q 3 n dp sk = sk (dp - 2) := if_pos h205; rw [e9] at hQ; exact hQ) | (have e9 : opR M q 3 n dp sk = sk (dp - 1) := if_neg h205; rw [e9] at hQ; exact hQ) | (have e9 : opR M q 3 n dp sk = sk (dp - 1) := if_neg (Int64.not_lt.mpr h205); rw [e9] at hQ; exact hQ)
                  · exact absurd h96 (by decide)
                · exact absurd h82 (by decide)
              · exact absurd h59 (by decide)
          · exact absurd h32 (by decide)
        · exact absurd h20 (by decide)
    · exact absurd h2 (by decide)
  · have hD2 : opD 4 dp = dp - 1 := rfl
    rw [hD2] at hD hQ
    refine w_iload_n (pc := 0) dX6_operate_0 rfl ?_
    refine w_iconst (v := 2) (pc := 1) dX6_operate_1 rfl ?_
    refine w_icmp_gt 9 (pc := 2) dX6_operate_2 (by decide) (fun h2 => ?_) (fun h2 => ?_)
    · refine w_iconst (v := 0) (pc := 9) dX6_operate_9 rfl ?_
      refine w_istore 4 (pc := 10) dX6_operate_10 (by decide) ?_
      refine w_iload_n (pc := 12) dX6_operate_12 rfl ?_
      refine w_iconst (v := 5) (pc := 13) dX6_operate_13 rfl ?_
      refine w_icmp_eq 23 (pc := 14) dX6_operate_14 (by decide) (fun h14 => ?_) (fun h14 => ?_)
      · exact absurd h14 (by decide)
      · refine w_iload_n (pc := 17) dX6_operate_17 rfl ?_
        refine w_bipush (v := 6) (pc := 18) dX6_operate_18 rfl ?_
        refine w_icmp_ne 27 (pc := 20) dX6_operate_20 (by decide) (fun h20 => ?_) (fun h20 => ?_)
        · refine w_iconst (v := 0) (pc := 27) dX6_operate_27 rfl ?_
          refine w_istore 5 (pc := 28) dX6_operate_28 (by decide) ?_
          refine w_iload (pc := 30) dX6_operate_30 rfl ?_
          refine w_if_eq 39 (pc := 32) dX6_operate_32 (by decide) (fun h32 => ?_) (fun h32 => ?_)
          · refine w_aload_n (pc := 39) dX6_operate_39 rfl ?_
            refine w_getR (b := 121) (pc := 40) fl_X6_88 hF (by first | assumption | exact ob rfl) rfl rfl dX6_operate_40 ?_
            refine w_aload_n (pc := 43) dX6_operate_43 rfl ?_
            refine w_getI (pc := 44) fl_X6_184 hF (by first | assumption | exact ob rfl) rfl dX6_operate_44 ?_
            rw [x_dp]
            refine w_iconst (v := 1) (pc := 47) dX6_operate_47 rfl ?_
            refine w_isub (pc := 48) dX6_operate_48 ?_
            refine w_lald (m := 48) (pc := 49) hF (by first | assumption | exact ar rfl) (by rw [sb1 (by omega)]; exact vin (by omega) (by decide)) dX6_operate_49 ?_
            rw [x_sk, sb1 (by omega), clN (by omega)]
            refine w_lstore 6 (pc := 50) dX6_operate_50 (by decide) ?_
            refine w_iload (pc := 52) dX6_operate_52 rfl ?_
            refine w_if_ne 62 (pc := 54) dX6_operate_54 (by decide) (fun h54 => ?_) (fun h54 => ?_)
            · exact absurd h54 (by decide)
            · refine w_iload (pc := 57) dX6_operate_57 rfl ?_
              refine w_if_eq 66 (pc := 59) dX6_operate_59 (by decide) (fun h59 => ?_) (fun h59 => ?_)
              · refine w_aload_n (pc := 66) dX6_operate_66 rfl ?_
                refine w_getR (b := 121) (pc := 67) fl_X6_88 hF (by first | assumption | exact ob rfl) rfl rfl dX6_operate_67 ?_
                refine w_aload_n (pc := 70) dX6_operate_70 rfl ?_
                refine w_getI (pc := 71) fl_X6_184 hF (by first | assumption | exact ob rfl) rfl dX6_operate_71 ?_
                rw [x_dp]
                refine w_iconst (v := 2) (pc := 74) dX6_operate_74 rfl ?_
                refine w_isub (pc := 75) dX6_operate_75 ?_
                refine w_lald (m := 48) (pc := 76) hF (by first | assumption | exact ar rfl) (by rw [show (2 : Int32) = nI 2 from rfl, pk_sub (by omega)]; exact vin (by omega) (by decide)) dX6_operate_76 ?_
                rw [x_sk, show (2 : Int32) = nI 2 from rfl, pk_sub (by omega), clN (by omega)]
                refine w_lstore 8 (pc := 77) dX6_operate_77 (by decide) ?_
                refine w_aload_n (pc := 79) dX6_operate_79 rfl ?_
                refine w_iload (pc := 80) dX6_operate_80 rfl ?_
                refine w_if_eq 94 (pc := 82) dX6_operate_82 (by decide) (fun h82 => ?_) (fun h82 => ?_)
                · refine w_iload (pc := 94) dX6_operate_94 rfl ?_
                  refine w_if_eq 106 (pc := 96) dX6_operate_96 (by decide) (fun h96 => ?_) (fun h96 => ?_)
                  · refine w_aload_n (pc := 106) dX6_operate_106 rfl ?_
                    refine w_getI (pc := 107) fl_X6_184 hF (by first | assumption | exact ob rfl) rfl dX6_operate_107 ?_
                    rw [x_dp]
                    refine w_iconst (v := 1) (pc := 110) dX6_operate_110 rfl ?_
                    refine w_isub (pc := 111) dX6_operate_111 ?_
                    refine w_putI (pc := 112) fp_X6_184 hF (by first | assumption | exact ob rfl) rfl dX6_operate_112 ?_
                    rw [sb1 (by omega), x_sd]
                    refine w_lconst (v := 0) (pc := 115) dX6_operate_115 rfl ?_
                    refine w_lstore 10 (pc := 116) dX6_operate_116 (by decide) ?_
                    refine w_iload_n (pc := 118) dX6_operate_118 rfl ?_
                    refine w_tableIn 221 (pc := 119) dX6_operate_119 (by decide) (by decide) (off := 102) rfl (by decide) ?_
                    refine w_lload (pc := 221) dX6_operate_221 rfl ?_
                    refine w_lload (pc := 223) dX6_operate_223 rfl ?_
                    refine w_lcmp_le 234 (pc := 225) dX6_operate_225 dX6_operate_226 (by decide) (fun h225 => ?_) (fun h225 => ?_)
                    · refine w_lload (pc := 234) dX6_operate_234 rfl ?_
                      refine w_lstore 10 (pc := 236) dX6_operate_236 (by decide) ?_
                      refine w_goto 323 (pc := 238) dX6_operate_238 (by decide) ?_
                      refine w_aload_n (pc := 323) dX6_operate_323 rfl ?_
                      refine w_getR (b := 121) (pc := 324) fl_X6_88 hF (by first | assumption | exact ob rfl) rfl rfl dX6_operate_324 ?_
                      refine w_aload_n (pc := 327) dX6_operate_327 rfl ?_
                      refine w_getI (pc := 328) fl_X6_184 hF (by first | assumption | exact ob rfl) rfl dX6_operate_328 ?_
                      rw [x_dp]
                      refine w_iconst (v := 1) (pc := 331) dX6_operate_331 rfl ?_
                      refine w_isub (pc := 332) dX6_operate_332 ?_
                      refine w_lload (pc := 333) dX6_operate_333 rfl ?_
                      refine w_last (m := 48) (pc := 335) hF (by first | assumption | exact ar rfl) (by rw [sb1 (by omega)]; exact vin (by omega) (by decide)) dX6_operate_335 ?_
                      rw [sb1 (by omega), clN (by omega), x_ss]
                      refine w_lload (pc := 336) dX6_operate_336 rfl ?_
                      refine w_ldc2 (pc := 338) kl_X6_201 dX6_operate_338 ?_
                      refine w_ldc2 (pc := 341) kl_X6_203 dX6_operate_341 ?_
                      refine w_callS3 (n' := 0) (pc := 344) (c_X6_in hG) cs_X6_137 hT (by omega) (by decide) (Nat.le_of_ble_eq_true rfl) dX6_operate_344 ?_
                      refine ⟨_, _, _, rfl, ?_⟩
                      dsimp only [psh]
                      refine w_ireturn (pc := 347) dX6_operate_347 (bi_nar _) ?_
                      first | (have e9 : opR M q 4 n dp sk = sk (dp - 1) := if_neg (Int64.not_lt.mpr h225); rw [e9] at hQ; exact hQ) | (have e9 : opR M q 4 n dp sk = sk (dp - 2) := if_pos (Int64.not_le.mp h225); rw [e9] at hQ; exact hQ) | (have e9 : opR M q 4 n dp sk = sk (dp - 2) := if_pos h225; rw [e9] at hQ; exact hQ) | (have e9 : opR M q 4 n dp sk = sk (dp - 1) := if_neg h225; rw [e9] at hQ; exact hQ)
                    · refine w_lload (pc := 229) dX6_operate_229 rfl ?_
                      refine w_goto 236 (pc := 231) dX6_operate_231 (by decide) ?_
                      refine w_lstore 10 (pc := 236) dX6_operate_236 (by decide) ?_
                      refine w_goto 323 (pc := 238) dX6_operate_238 (by decide) ?_
                      refine w_aload_n (pc := 323) dX6_operate_323 rfl ?_
                      refine w_getR (b := 121) (pc := 324) fl_X6_88 hF (by first | assumption | exact ob rfl) rfl rfl dX6_operate_324 ?_
                      refine w_aload_n (pc := 327) dX6_operate_327 rfl ?_
                      refine w_getI (pc := 328) fl_X6_184 hF (by first | assumption | exact ob rfl) rfl dX6_operate_328 ?_
                      rw [x_dp]
                      refine w_iconst (v := 1) (pc := 331) dX6_operate_331 rfl ?_
                      refine w_isub (pc := 332) dX6_operate_332 ?_
                      refine w_lload (pc := 333) dX6_operate_333 rfl ?_
                      refine w_last (m := 48) (pc := 335) hF (by first | assumption | exact ar rfl) (by rw [sb1 (by omega)]; exact vin (by omega) (by decide)) dX6_operate_335 ?_
                      rw [sb1 (by omega), clN (by omega), x_ss]
                      refine w_lload (pc := 336) dX6_operate_336 rfl ?_
                      refine w_ldc2 (pc := 338) kl_X6_201 dX6_operate_338 ?_
                      refine w_ldc2 (pc := 341) kl_X6_203 dX6_operate_341 ?_
                      refine w_callS3 (n' := 0) (pc := 344) (c_X6_in hG) cs_X6_137 hT (by omega) (by decide) (Nat.le_of_ble_eq_true rfl) dX6_operate_344 ?_
                      refine ⟨_, _, _, rfl, ?_⟩
                      dsimp only [psh]
                      refine w_ireturn (pc := 347) dX6_operate_347 (bi_nar _) ?_
                      first | (have e9 : opR M q 4 n dp sk = sk (dp - 1) := if_neg (Int64.not_lt.mpr h225); rw [e9] at hQ; exact hQ) | (have e9 : opR M q 4 n dp sk = sk (dp - 2) := if_pos (Int64.not_le.mp h225); rw [e9] at hQ; exact hQ) | (have e9 : opR M q 4 n dp sk = sk (dp - 2) := if_pos h225; rw [e9] at hQ; exact hQ) | (have e9 : opR M q 4 n dp sk = sk (dp - 1) := if_neg h225; rw [e9] at hQ; exact hQ)
                  · exact absurd h96 (by decide)
                · exact absurd h82 (by decide)
              · exact absurd h59 (by decide)
          · exact absurd h32 (by decide)
        · exact absurd h20 (by decide)
    · exact absurd h2 (by decide)
  · have hD2 : opD 5 dp = dp := rfl
    rw [hD2] at hD hQ
    refine w_iload_n (pc := 0) dX6_operate_0 rfl ?_
    refine w_iconst (v := 2) (pc := 1) dX6_operate_1 rfl ?_
    refine w_icmp_gt 9 (pc := 2) dX6_operate_2 (by decide) (fun h2 => ?_) (fun h2 => ?_)
    · refine w_iconst (v := 0) (pc := 9) dX6_operate_9 rfl ?_
      refine w_istore 4 (pc := 10) dX6_operate_10 (by decide) ?_
      refine w_iload_n (pc := 12) dX6_operate_12 rfl ?_
      refine w_iconst (v := 5) (pc := 13) dX6_operate_13 rfl ?_
      refine w_icmp_eq 23 (pc := 14) dX6_operate_14 (by decide) (fun h14 => ?_) (fun h14 => ?_)
      · refine w_iconst (v := 1) (pc := 23) dX6_operate_23 rfl ?_
        refine w_goto 28 (pc := 24) dX6_operate_24 (by decide) ?_
        refine w_istore 5 (pc := 28) dX6_operate_28 (by decide) ?_
        refine w_iload (pc := 30) dX6_operate_30 rfl ?_
        refine w_if_eq 39 (pc := 32) dX6_operate_32 (by decide) (fun h32 => ?_) (fun h32 => ?_)
        · refine w_aload_n (pc := 39) dX6_operate_39 rfl ?_
          refine w_getR (b := 121) (pc := 40) fl_X6_88 hF (by first | assumption | exact ob rfl) rfl rfl dX6_operate_40 ?_
          refine w_aload_n (pc := 43) dX6_operate_43 rfl ?_
          refine w_getI (pc := 44) fl_X6_184 hF (by first | assumption | exact ob rfl) rfl dX6_operate_44 ?_
          rw [x_dp]
          refine w_iconst (v := 1) (pc := 47) dX6_operate_47 rfl ?_
          refine w_isub (pc := 48) dX6_operate_48 ?_
          refine w_lald (m := 48) (pc := 49) hF (by first | assumption | exact ar rfl) (by rw [sb1 (by omega)]; exact vin (by omega) (by decide)) dX6_operate_49 ?_
          rw [x_sk, sb1 (by omega), clN (by omega)]
          refine w_lstore 6 (pc := 50) dX6_operate_50 (by decide) ?_
          refine w_iload (pc := 52) dX6_operate_52 rfl ?_
          refine w_if_ne 62 (pc := 54) dX6_operate_54 (by decide) (fun h54 => ?_) (fun h54 => ?_)
          · exact absurd h54 (by decide)
          · refine w_iload (pc := 57) dX6_operate_57 rfl ?_
            refine w_if_eq 66 (pc := 59) dX6_operate_59 (by decide) (fun h59 => ?_) (fun h59 => ?_)
            · exact absurd h59 (by decide)
            · refine w_lconst (v := 0) (pc := 62) dX6_operate_62 rfl ?_
              refine w_goto 77 (pc := 63) dX6_operate_63 (by decide) ?_
              refine w_lstore 8 (pc := 77) dX6_operate_77 (by decide) ?_
              refine w_aload_n (pc := 79) dX6_operate_79 rfl ?_
              refine w_iload (pc := 80) dX6_operate_80 rfl ?_
              refine w_if_eq 94 (pc := 82) dX6_operate_82 (by decide) (fun h82 => ?_) (fun h82 => ?_)
              · refine w_iload (pc := 94) dX6_operate_94 rfl ?_
                refine w_if_eq 106 (pc := 96) dX6_operate_96 (by decide) (fun h96 => ?_) (fun h96 => ?_)
                · exact absurd h96 (by decide)
                · refine w_aload_n (pc := 99) dX6_operate_99 rfl ?_
                  refine w_getI (pc := 100) fl_X6_184 hF (by first | assumption | exact ob rfl) rfl dX6_operate_100 ?_
                  rw [x_dp]
                  refine w_goto 112 (pc := 103) dX6_operate_103 (by decide) ?_
                  refine w_putI (pc := 112) fp_X6_184 hF (by first | assumption | exact ob rfl) rfl dX6_operate_112 ?_
                  rw [x_sd]
                  refine w_lconst (v := 0) (pc := 115) dX6_operate_115 rfl ?_
                  refine w_lstore 10 (pc := 116) dX6_operate_116 (by decide) ?_
                  refine w_iload_n (pc := 118) dX6_operate_118 rfl ?_
                  refine w_tableIn 241 (pc := 119) dX6_operate_119 (by decide) (by decide) (off := 122) rfl (by decide) ?_
                  refine w_aload_n (pc := 241) dX6_operate_241 rfl ?_
                  refine w_iload_n (pc := 242) dX6_operate_242 rfl ?_
                  refine w_lload (pc := 243) dX6_operate_243 rfl ?_
                  refine w_callV2 (n' := 0) (pc := 245) (c_X6_tabled hG) cv_X6_195 (by first | assumption | exact ob rfl) hF hT (by omega) (by decide) (Nat.le_of_ble_eq_true rfl) dX6_operate_245 ?_
                  obtain ⟨t, ht, rfl⟩ := (opB_of hB).2.2.2.2.2 rfl
                  obtain ⟨sz, hsz, esz⟩ := htab t ht
                  refine ⟨t, sz, _, rfl, hF, ht, hsz, (by rw [x_I (by decide)]; exact esz), ?_⟩
                  rw [tabM_x]
                  dsimp only [psh]
                  refine w_lstore 10 (pc := 248) dX6_operate_248 (by decide) ?_
                  refine w_goto 323 (pc := 250) dX6_operate_250 (by decide) ?_
                  refine w_aload_n (pc := 323) dX6_operate_323 rfl ?_
                  refine w_getR (b := 121) (pc := 324) fl_X6_88 hF (by first | assumption | exact ob rfl) rfl rfl dX6_operate_324 ?_
                  refine w_aload_n (pc := 327) dX6_operate_327 rfl ?_
                  refine w_getI (pc := 328) fl_X6_184 hF (by first | assumption | exact ob rfl) rfl dX6_operate_328 ?_
                  rw [x_dp]
                  refine w_iconst (v := 1) (pc := 331) dX6_operate_331 rfl ?_
                  refine w_isub (pc := 332) dX6_operate_332 ?_
                  refine w_lload (pc := 333) dX6_operate_333 rfl ?_
                  refine w_last (m := 48) (pc := 335) hF (by first | assumption | exact ar rfl) (by rw [sb1 (by omega)]; exact vin (by omega) (by decide)) dX6_operate_335 ?_
                  rw [sb1 (by omega), clN (by omega), x_ss]
                  refine w_lload (pc := 336) dX6_operate_336 rfl ?_
                  refine w_ldc2 (pc := 338) kl_X6_201 dX6_operate_338 ?_
                  refine w_ldc2 (pc := 341) kl_X6_203 dX6_operate_341 ?_
                  refine w_callS3 (n' := 0) (pc := 344) (c_X6_in hG) cs_X6_137 hT (by omega) (by decide) (Nat.le_of_ble_eq_true rfl) dX6_operate_344 ?_
                  refine ⟨_, _, _, rfl, ?_⟩
                  dsimp only [psh]
                  refine w_ireturn (pc := 347) dX6_operate_347 (bi_nar _) ?_
                  unfold opR opV tabR at hQ
                  rw [clN (by omega), esz, clN (by omega)] at hQ
                  exact hQ
              · exact absurd h82 (by decide)
        · exact absurd h32 (by decide)
      · exact absurd h14 (by decide)
    · exact absurd h2 (by decide)
  · have hD2 : opD 6 dp = dp := rfl
    rw [hD2] at hD hQ
    refine w_iload_n (pc := 0) dX6_operate_0 rfl ?_
    refine w_iconst (v := 2) (pc := 1) dX6_operate_1 rfl ?_
    refine w_icmp_gt 9 (pc := 2) dX6_operate_2 (by decide) (fun h2 => ?_) (fun h2 => ?_)
    · refine w_iconst (v := 0) (pc := 9) dX6_operate_9 rfl ?_
      refine w_istore 4 (pc := 10) dX6_operate_10 (by decide) ?_
      refine w_iload_n (pc := 12) dX6_operate_12 rfl ?_
      refine w_iconst (v := 5) (pc := 13) dX6_operate_13 rfl ?_
      refine w_icmp_eq 23 (pc := 14) dX6_operate_14 (by decide) (fun h14 => ?_) (fun h14 => ?_)
      · exact absurd h14 (by decide)
      · refine w_iload_n (pc := 17) dX6_operate_17 rfl ?_
        refine w_bipush (v := 6) (pc := 18) dX6_operate_18 rfl ?_
        refine w_icmp_ne 27 (pc := 20) dX6_operate_20 (by decide) (fun h20 => ?_) (fun h20 => ?_)
        · exact absurd h20 (by decide)
        · refine w_iconst (v := 1) (pc := 23) dX6_operate_23 rfl ?_
          refine w_goto 28 (pc := 24) dX6_operate_24 (by decide) ?_
          refine w_istore 5 (pc := 28) dX6_operate_28 (by decide) ?_
          refine w_iload (pc := 30) dX6_operate_30 rfl ?_
          refine w_if_eq 39 (pc := 32) dX6_operate_32 (by decide) (fun h32 => ?_) (fun h32 => ?_)
          · refine w_aload_n (pc := 39) dX6_operate_39 rfl ?_
            refine w_getR (b := 121) (pc := 40) fl_X6_88 hF (by first | assumption | exact ob rfl) rfl rfl dX6_operate_40 ?_
            refine w_aload_n (pc := 43) dX6_operate_43 rfl ?_
            refine w_getI (pc := 44) fl_X6_184 hF (by first | assumption | exact ob rfl) rfl dX6_operate_44 ?_
            rw [x_dp]
            refine w_iconst (v := 1) (pc := 47) dX6_operate_47 rfl ?_
            refine w_isub (pc := 48) dX6_operate_48 ?_
            refine w_lald (m := 48) (pc := 49) hF (by first | assumption | exact ar rfl) (by rw [sb1 (by omega)]; exact vin (by omega) (by decide)) dX6_operate_49 ?_
            rw [x_sk, sb1 (by omega), clN (by omega)]
            refine w_lstore 6 (pc := 50) dX6_operate_50 (by decide) ?_
            refine w_iload (pc := 52) dX6_operate_52 rfl ?_
            refine w_if_ne 62 (pc := 54) dX6_operate_54 (by decide) (fun h54 => ?_) (fun h54 => ?_)
            · exact absurd h54 (by decide)
            · refine w_iload (pc := 57) dX6_operate_57 rfl ?_
              refine w_if_eq 66 (pc := 59) dX6_operate_59 (by decide) (fun h59 => ?_) (fun h59 => ?_)
              · exact absurd h59 (by decide)
              · refine w_lconst (v := 0) (pc := 62) dX6_operate_62 rfl ?_
                refine w_goto 77 (pc := 63) dX6_operate_63 (by decide) ?_
                refine w_lstore 8 (pc := 77) dX6_operate_77 (by decide) ?_
                refine w_aload_n (pc := 79) dX6_operate_79 rfl ?_
                refine w_iload (pc := 80) dX6_operate_80 rfl ?_
                refine w_if_eq 94 (pc := 82) dX6_operate_82 (by decide) (fun h82 => ?_) (fun h82 => ?_)
                · refine w_iload (pc := 94) dX6_operate_94 rfl ?_
                  refine w_if_eq 106 (pc := 96) dX6_operate_96 (by decide) (fun h96 => ?_) (fun h96 => ?_)
                  · exact absurd h96 (by decide)
                  · refine w_aload_n (pc := 99) dX6_operate_99 rfl ?_
                    refine w_getI (pc := 100) fl_X6_184 hF (by first | assumption | exact ob rfl) rfl dX6_operate_100 ?_
                    rw [x_dp]
                    refine w_goto 112 (pc := 103) dX6_operate_103 (by decide) ?_
                    refine w_putI (pc := 112) fp_X6_184 hF (by first | assumption | exact ob rfl) rfl dX6_operate_112 ?_
                    rw [x_sd]
                    refine w_lconst (v := 0) (pc := 115) dX6_operate_115 rfl ?_
                    refine w_lstore 10 (pc := 116) dX6_operate_116 (by decide) ?_
                    refine w_iload_n (pc := 118) dX6_operate_118 rfl ?_
                    refine w_tableIn 253 (pc := 119) dX6_operate_119 (by decide) (by decide) (off := 134) rfl (by decide) ?_
                    refine w_lload (pc := 253) dX6_operate_253 rfl ?_
                    refine w_iload_n (pc := 255) dX6_operate_255 rfl ?_
                    refine w_i2l (pc := 256) dX6_operate_256 ?_
                    refine w_lmul (pc := 257) dX6_operate_257 ?_
                    refine w_ldc2 (pc := 258) kl_X6_199 dX6_operate_258 ?_
                    refine w_iconst (v := 2) (pc := 261) dX6_operate_261 rfl ?_
                    refine w_callS3 (n' := 0) (pc := 262) (c_X6_divide hG) cs_X6_173 hT (by omega) (by decide) (Nat.le_of_ble_eq_true rfl) dX6_operate_262 ?_
                    refine ⟨_, _, _, rfl, by decide, ?_⟩
                    dsimp only [psh]
                    refine w_lstore 10 (pc := 265) dX6_operate_265 (by decide) ?_
                    refine w_goto 323 (pc := 267) dX6_operate_267 (by decide) ?_
                    refine w_aload_n (pc := 323) dX6_operate_323 rfl ?_
                    refine w_getR (b := 121) (pc := 324) fl_X6_88 hF (by first | assumption | exact ob rfl) rfl rfl dX6_operate_324 ?_
                    refine w_aload_n (pc := 327) dX6_operate_327 rfl ?_
                    refine w_getI (pc := 328) fl_X6_184 hF (by first | assumption | exact ob rfl) rfl dX6_operate_328 ?_
                    rw [x_dp]
                    refine w_iconst (v := 1) (pc := 331) dX6_operate_331 rfl ?_
                    refine w_isub (pc := 332) dX6_operate_332 ?_
                    refine w_lload (pc := 333) dX6_operate_333 rfl ?_
                    refine w_last (m := 48) (pc := 335) hF (by first | assumption | exact ar rfl) (by rw [sb1 (by omega)]; exact vin (by omega) (by decide)) dX6_operate_335 ?_
                    rw [sb1 (by omega), clN (by omega), x_ss]
                    refine w_lload (pc := 336) dX6_operate_336 rfl ?_
                    refine w_ldc2 (pc := 338) kl_X6_201 dX6_operate_338 ?_
                    refine w_ldc2 (pc := 341) kl_X6_203 dX6_operate_341 ?_
                    refine w_callS3 (n' := 0) (pc := 344) (c_X6_in hG) cs_X6_137 hT (by omega) (by decide) (Nat.le_of_ble_eq_true rfl) dX6_operate_344 ?_
                    refine ⟨_, _, _, rfl, ?_⟩
                    dsimp only [psh]
                    refine w_ireturn (pc := 347) dX6_operate_347 (bi_nar _) ?_
                    exact hQ
                · exact absurd h82 (by decide)
          · exact absurd h32 (by decide)
    · exact absurd h2 (by decide)
  · have hD2 : opD 7 dp = dp - 1 := rfl
    rw [hD2] at hD hQ
    refine w_iload_n (pc := 0) dX6_operate_0 rfl ?_
    refine w_iconst (v := 2) (pc := 1) dX6_operate_1 rfl ?_
    refine w_icmp_gt 9 (pc := 2) dX6_operate_2 (by decide) (fun h2 => ?_) (fun h2 => ?_)
    · refine w_iconst (v := 0) (pc := 9) dX6_operate_9 rfl ?_
      refine w_istore 4 (pc := 10) dX6_operate_10 (by decide) ?_
      refine w_iload_n (pc := 12) dX6_operate_12 rfl ?_
      refine w_iconst (v := 5) (pc := 13) dX6_operate_13 rfl ?_
      refine w_icmp_eq 23 (pc := 14) dX6_operate_14 (by decide) (fun h14 => ?_) (fun h14 => ?_)
      · exact absurd h14 (by decide)
      · refine w_iload_n (pc := 17) dX6_operate_17 rfl ?_
        refine w_bipush (v := 6) (pc := 18) dX6_operate_18 rfl ?_
        refine w_icmp_ne 27 (pc := 20) dX6_operate_20 (by decide) (fun h20 => ?_) (fun h20 => ?_)
        · refine w_iconst (v := 0) (pc := 27) dX6_operate_27 rfl ?_
          refine w_istore 5 (pc := 28) dX6_operate_28 (by decide) ?_
          refine w_iload (pc := 30) dX6_operate_30 rfl ?_
          refine w_if_eq 39 (pc := 32) dX6_operate_32 (by decide) (fun h32 => ?_) (fun h32 => ?_)
          · refine w_aload_n (pc := 39) dX6_operate_39 rfl ?_
            refine w_getR (b := 121) (pc := 40) fl_X6_88 hF (by first | assumption | exact ob rfl) rfl rfl dX6_operate_40 ?_
            refine w_aload_n (pc := 43) dX6_operate_43 rfl ?_
            refine w_getI (pc := 44) fl_X6_184 hF (by first | assumption | exact ob rfl) rfl dX6_operate_44 ?_
            rw [x_dp]
            refine w_iconst (v := 1) (pc := 47) dX6_operate_47 rfl ?_
            refine w_isub (pc := 48) dX6_operate_48 ?_
            refine w_lald (m := 48) (pc := 49) hF (by first | assumption | exact ar rfl) (by rw [sb1 (by omega)]; exact vin (by omega) (by decide)) dX6_operate_49 ?_
            rw [x_sk, sb1 (by omega), clN (by omega)]
            refine w_lstore 6 (pc := 50) dX6_operate_50 (by decide) ?_
            refine w_iload (pc := 52) dX6_operate_52 rfl ?_
            refine w_if_ne 62 (pc := 54) dX6_operate_54 (by decide) (fun h54 => ?_) (fun h54 => ?_)
            · exact absurd h54 (by decide)
            · refine w_iload (pc := 57) dX6_operate_57 rfl ?_
              refine w_if_eq 66 (pc := 59) dX6_operate_59 (by decide) (fun h59 => ?_) (fun h59 => ?_)
              · refine w_aload_n (pc := 66) dX6_operate_66 rfl ?_
                refine w_getR (b := 121) (pc := 67) fl_X6_88 hF (by first | assumption | exact ob rfl) rfl rfl dX6_operate_67 ?_
                refine w_aload_n (pc := 70) dX6_operate_70 rfl ?_
                refine w_getI (pc := 71) fl_X6_184 hF (by first | assumption | exact ob rfl) rfl dX6_operate_71 ?_
                rw [x_dp]
                refine w_iconst (v := 2) (pc := 74) dX6_operate_74 rfl ?_
                refine w_isub (pc := 75) dX6_operate_75 ?_
                refine w_lald (m := 48) (pc := 76) hF (by first | assumption | exact ar rfl) (by rw [show (2 : Int32) = nI 2 from rfl, pk_sub (by omega)]; exact vin (by omega) (by decide)) dX6_operate_76 ?_
                rw [x_sk, show (2 : Int32) = nI 2 from rfl, pk_sub (by omega), clN (by omega)]
                refine w_lstore 8 (pc := 77) dX6_operate_77 (by decide) ?_
                refine w_aload_n (pc := 79) dX6_operate_79 rfl ?_
                refine w_iload (pc := 80) dX6_operate_80 rfl ?_
                refine w_if_eq 94 (pc := 82) dX6_operate_82 (by decide) (fun h82 => ?_) (fun h82 => ?_)
                · refine w_iload (pc := 94) dX6_operate_94 rfl ?_
                  refine w_if_eq 106 (pc := 96) dX6_operate_96 (by decide) (fun h96 => ?_) (fun h96 => ?_)
                  · refine w_aload_n (pc := 106) dX6_operate_106 rfl ?_
                    refine w_getI (pc := 107) fl_X6_184 hF (by first | assumption | exact ob rfl) rfl dX6_operate_107 ?_
                    rw [x_dp]
                    refine w_iconst (v := 1) (pc := 110) dX6_operate_110 rfl ?_
                    refine w_isub (pc := 111) dX6_operate_111 ?_
                    refine w_putI (pc := 112) fp_X6_184 hF (by first | assumption | exact ob rfl) rfl dX6_operate_112 ?_
                    rw [sb1 (by omega), x_sd]
                    refine w_lconst (v := 0) (pc := 115) dX6_operate_115 rfl ?_
                    refine w_lstore 10 (pc := 116) dX6_operate_116 (by decide) ?_
                    refine w_iload_n (pc := 118) dX6_operate_118 rfl ?_
                    refine w_tableIn 270 (pc := 119) dX6_operate_119 (by decide) (by decide) (off := 151) rfl (by decide) ?_
                    refine w_lload (pc := 270) dX6_operate_270 rfl ?_
                    refine w_lload (pc := 272) dX6_operate_272 rfl ?_
                    refine w_ladd (pc := 274) dX6_operate_274 ?_
                    refine w_lstore 10 (pc := 275) dX6_operate_275 (by decide) ?_
                    refine w_goto 323 (pc := 277) dX6_operate_277 (by decide) ?_
                    refine w_aload_n (pc := 323) dX6_operate_323 rfl ?_
                    refine w_getR (b := 121) (pc := 324) fl_X6_88 hF (by first | assumption | exact ob rfl) rfl rfl dX6_operate_324 ?_
                    refine w_aload_n (pc := 327) dX6_operate_327 rfl ?_
                    refine w_getI (pc := 328) fl_X6_184 hF (by first | assumption | exact ob rfl) rfl dX6_operate_328 ?_
                    rw [x_dp]
                    refine w_iconst (v := 1) (pc := 331) dX6_operate_331 rfl ?_
                    refine w_isub (pc := 332) dX6_operate_332 ?_
                    refine w_lload (pc := 333) dX6_operate_333 rfl ?_
                    refine w_last (m := 48) (pc := 335) hF (by first | assumption | exact ar rfl) (by rw [sb1 (by omega)]; exact vin (by omega) (by decide)) dX6_operate_335 ?_
                    rw [sb1 (by omega), clN (by omega), x_ss]
                    refine w_lload (pc := 336) dX6_operate_336 rfl ?_
                    refine w_ldc2 (pc := 338) kl_X6_201 dX6_operate_338 ?_
                    refine w_ldc2 (pc := 341) kl_X6_203 dX6_operate_341 ?_
                    refine w_callS3 (n' := 0) (pc := 344) (c_X6_in hG) cs_X6_137 hT (by omega) (by decide) (Nat.le_of_ble_eq_true rfl) dX6_operate_344 ?_
                    refine ⟨_, _, _, rfl, ?_⟩
                    dsimp only [psh]
                    refine w_ireturn (pc := 347) dX6_operate_347 (bi_nar _) ?_
                    exact hQ
                  · exact absurd h96 (by decide)
                · exact absurd h82 (by decide)
              · exact absurd h59 (by decide)
          · exact absurd h32 (by decide)
        · exact absurd h20 (by decide)
    · exact absurd h2 (by decide)
  · have hD2 : opD 8 dp = dp - 1 := rfl
    rw [hD2] at hD hQ
    refine w_iload_n (pc := 0) dX6_operate_0 rfl ?_
    refine w_iconst (v := 2) (pc := 1) dX6_operate_1 rfl ?_
    refine w_icmp_gt 9 (pc := 2) dX6_operate_2 (by decide) (fun h2 => ?_) (fun h2 => ?_)
    · refine w_iconst (v := 0) (pc := 9) dX6_operate_9 rfl ?_
      refine w_istore 4 (pc := 10) dX6_operate_10 (by decide) ?_
      refine w_iload_n (pc := 12) dX6_operate_12 rfl ?_
      refine w_iconst (v := 5) (pc := 13) dX6_operate_13 rfl ?_
      refine w_icmp_eq 23 (pc := 14) dX6_operate_14 (by decide) (fun h14 => ?_) (fun h14 => ?_)
      · exact absurd h14 (by decide)
      · refine w_iload_n (pc := 17) dX6_operate_17 rfl ?_
        refine w_bipush (v := 6) (pc := 18) dX6_operate_18 rfl ?_
        refine w_icmp_ne 27 (pc := 20) dX6_operate_20 (by decide) (fun h20 => ?_) (fun h20 => ?_)
        · refine w_iconst (v := 0) (pc := 27) dX6_operate_27 rfl ?_
          refine w_istore 5 (pc := 28) dX6_operate_28 (by decide) ?_
          refine w_iload (pc := 30) dX6_operate_30 rfl ?_
          refine w_if_eq 39 (pc := 32) dX6_operate_32 (by decide) (fun h32 => ?_) (fun h32 => ?_)
          · refine w_aload_n (pc := 39) dX6_operate_39 rfl ?_
            refine w_getR (b := 121) (pc := 40) fl_X6_88 hF (by first | assumption | exact ob rfl) rfl rfl dX6_operate_40 ?_
            refine w_aload_n (pc := 43) dX6_operate_43 rfl ?_
            refine w_getI (pc := 44) fl_X6_184 hF (by first | assumption | exact ob rfl) rfl dX6_operate_44 ?_
            rw [x_dp]
            refine w_iconst (v := 1) (pc := 47) dX6_operate_47 rfl ?_
            refine w_isub (pc := 48) dX6_operate_48 ?_
            refine w_lald (m := 48) (pc := 49) hF (by first | assumption | exact ar rfl) (by rw [sb1 (by omega)]; exact vin (by omega) (by decide)) dX6_operate_49 ?_
            rw [x_sk, sb1 (by omega), clN (by omega)]
            refine w_lstore 6 (pc := 50) dX6_operate_50 (by decide) ?_
            refine w_iload (pc := 52) dX6_operate_52 rfl ?_
            refine w_if_ne 62 (pc := 54) dX6_operate_54 (by decide) (fun h54 => ?_) (fun h54 => ?_)
            · exact absurd h54 (by decide)
            · refine w_iload (pc := 57) dX6_operate_57 rfl ?_
              refine w_if_eq 66 (pc := 59) dX6_operate_59 (by decide) (fun h59 => ?_) (fun h59 => ?_)
              · refine w_aload_n (pc := 66) dX6_operate_66 rfl ?_
                refine w_getR (b := 121) (pc := 67) fl_X6_88 hF (by first | assumption | exact ob rfl) rfl rfl dX6_operate_67 ?_
                refine w_aload_n (pc := 70) dX6_operate_70 rfl ?_
                refine w_getI (pc := 71) fl_X6_184 hF (by first | assumption | exact ob rfl) rfl dX6_operate_71 ?_
                rw [x_dp]
                refine w_iconst (v := 2) (pc := 74) dX6_operate_74 rfl ?_
                refine w_isub (pc := 75) dX6_operate_75 ?_
                refine w_lald (m := 48) (pc := 76) hF (by first | assumption | exact ar rfl) (by rw [show (2 : Int32) = nI 2 from rfl, pk_sub (by omega)]; exact vin (by omega) (by decide)) dX6_operate_76 ?_
                rw [x_sk, show (2 : Int32) = nI 2 from rfl, pk_sub (by omega), clN (by omega)]
                refine w_lstore 8 (pc := 77) dX6_operate_77 (by decide) ?_
                refine w_aload_n (pc := 79) dX6_operate_79 rfl ?_
                refine w_iload (pc := 80) dX6_operate_80 rfl ?_
                refine w_if_eq 94 (pc := 82) dX6_operate_82 (by decide) (fun h82 => ?_) (fun h82 => ?_)
                · refine w_iload (pc := 94) dX6_operate_94 rfl ?_
                  refine w_if_eq 106 (pc := 96) dX6_operate_96 (by decide) (fun h96 => ?_) (fun h96 => ?_)
                  · refine w_aload_n (pc := 106) dX6_operate_106 rfl ?_
                    refine w_getI (pc := 107) fl_X6_184 hF (by first | assumption | exact ob rfl) rfl dX6_operate_107 ?_
                    rw [x_dp]
                    refine w_iconst (v := 1) (pc := 110) dX6_operate_110 rfl ?_
                    refine w_isub (pc := 111) dX6_operate_111 ?_
                    refine w_putI (pc := 112) fp_X6_184 hF (by first | assumption | exact ob rfl) rfl dX6_operate_112 ?_
                    rw [sb1 (by omega), x_sd]
                    refine w_lconst (v := 0) (pc := 115) dX6_operate_115 rfl ?_
                    refine w_lstore 10 (pc := 116) dX6_operate_116 (by decide) ?_
                    refine w_iload_n (pc := 118) dX6_operate_118 rfl ?_
                    refine w_tableIn 280 (pc := 119) dX6_operate_119 (by decide) (by decide) (off := 161) rfl (by decide) ?_
                    refine w_lload (pc := 280) dX6_operate_280 rfl ?_
                    refine w_lload (pc := 282) dX6_operate_282 rfl ?_
                    refine w_lsub (pc := 284) dX6_operate_284 ?_
                    refine w_lstore 10 (pc := 285) dX6_operate_285 (by decide) ?_
                    refine w_goto 323 (pc := 287) dX6_operate_287 (by decide) ?_
                    refine w_aload_n (pc := 323) dX6_operate_323 rfl ?_
                    refine w_getR (b := 121) (pc := 324) fl_X6_88 hF (by first | assumption | exact ob rfl) rfl rfl dX6_operate_324 ?_
                    refine w_aload_n (pc := 327) dX6_operate_327 rfl ?_
                    refine w_getI (pc := 328) fl_X6_184 hF (by first | assumption | exact ob rfl) rfl dX6_operate_328 ?_
                    rw [x_dp]
                    refine w_iconst (v := 1) (pc := 331) dX6_operate_331 rfl ?_
                    refine w_isub (pc := 332) dX6_operate_332 ?_
                    refine w_lload (pc := 333) dX6_operate_333 rfl ?_
                    refine w_last (m := 48) (pc := 335) hF (by first | assumption | exact ar rfl) (by rw [sb1 (by omega)]; exact vin (by omega) (by decide)) dX6_operate_335 ?_
                    rw [sb1 (by omega), clN (by omega), x_ss]
                    refine w_lload (pc := 336) dX6_operate_336 rfl ?_
                    refine w_ldc2 (pc := 338) kl_X6_201 dX6_operate_338 ?_
                    refine w_ldc2 (pc := 341) kl_X6_203 dX6_operate_341 ?_
                    refine w_callS3 (n' := 0) (pc := 344) (c_X6_in hG) cs_X6_137 hT (by omega) (by decide) (Nat.le_of_ble_eq_true rfl) dX6_operate_344 ?_
                    refine ⟨_, _, _, rfl, ?_⟩
                    dsimp only [psh]
                    refine w_ireturn (pc := 347) dX6_operate_347 (bi_nar _) ?_
                    exact hQ
                  · exact absurd h96 (by decide)
                · exact absurd h82 (by decide)
              · exact absurd h59 (by decide)
          · exact absurd h32 (by decide)
        · exact absurd h20 (by decide)
    · exact absurd h2 (by decide)
  · have hD2 : opD 9 dp = dp - 1 := rfl
    rw [hD2] at hD hQ
    refine w_iload_n (pc := 0) dX6_operate_0 rfl ?_
    refine w_iconst (v := 2) (pc := 1) dX6_operate_1 rfl ?_
    refine w_icmp_gt 9 (pc := 2) dX6_operate_2 (by decide) (fun h2 => ?_) (fun h2 => ?_)
    · refine w_iconst (v := 0) (pc := 9) dX6_operate_9 rfl ?_
      refine w_istore 4 (pc := 10) dX6_operate_10 (by decide) ?_
      refine w_iload_n (pc := 12) dX6_operate_12 rfl ?_
      refine w_iconst (v := 5) (pc := 13) dX6_operate_13 rfl ?_
      refine w_icmp_eq 23 (pc := 14) dX6_operate_14 (by decide) (fun h14 => ?_) (fun h14 => ?_)
      · exact absurd h14 (by decide)
      · refine w_iload_n (pc := 17) dX6_operate_17 rfl ?_
        refine w_bipush (v := 6) (pc := 18) dX6_operate_18 rfl ?_
        refine w_icmp_ne 27 (pc := 20) dX6_operate_20 (by decide) (fun h20 => ?_) (fun h20 => ?_)
        · refine w_iconst (v := 0) (pc := 27) dX6_operate_27 rfl ?_
          refine w_istore 5 (pc := 28) dX6_operate_28 (by decide) ?_
          refine w_iload (pc := 30) dX6_operate_30 rfl ?_
          refine w_if_eq 39 (pc := 32) dX6_operate_32 (by decide) (fun h32 => ?_) (fun h32 => ?_)
          · refine w_aload_n (pc := 39) dX6_operate_39 rfl ?_
            refine w_getR (b := 121) (pc := 40) fl_X6_88 hF (by first | assumption | exact ob rfl) rfl rfl dX6_operate_40 ?_
            refine w_aload_n (pc := 43) dX6_operate_43 rfl ?_
            refine w_getI (pc := 44) fl_X6_184 hF (by first | assumption | exact ob rfl) rfl dX6_operate_44 ?_
            rw [x_dp]
            refine w_iconst (v := 1) (pc := 47) dX6_operate_47 rfl ?_
            refine w_isub (pc := 48) dX6_operate_48 ?_
            refine w_lald (m := 48) (pc := 49) hF (by first | assumption | exact ar rfl) (by rw [sb1 (by omega)]; exact vin (by omega) (by decide)) dX6_operate_49 ?_
            rw [x_sk, sb1 (by omega), clN (by omega)]
            refine w_lstore 6 (pc := 50) dX6_operate_50 (by decide) ?_
            refine w_iload (pc := 52) dX6_operate_52 rfl ?_
            refine w_if_ne 62 (pc := 54) dX6_operate_54 (by decide) (fun h54 => ?_) (fun h54 => ?_)
            · exact absurd h54 (by decide)
            · refine w_iload (pc := 57) dX6_operate_57 rfl ?_
              refine w_if_eq 66 (pc := 59) dX6_operate_59 (by decide) (fun h59 => ?_) (fun h59 => ?_)
              · refine w_aload_n (pc := 66) dX6_operate_66 rfl ?_
                refine w_getR (b := 121) (pc := 67) fl_X6_88 hF (by first | assumption | exact ob rfl) rfl rfl dX6_operate_67 ?_
                refine w_aload_n (pc := 70) dX6_operate_70 rfl ?_
                refine w_getI (pc := 71) fl_X6_184 hF (by first | assumption | exact ob rfl) rfl dX6_operate_71 ?_
                rw [x_dp]
                refine w_iconst (v := 2) (pc := 74) dX6_operate_74 rfl ?_
                refine w_isub (pc := 75) dX6_operate_75 ?_
                refine w_lald (m := 48) (pc := 76) hF (by first | assumption | exact ar rfl) (by rw [show (2 : Int32) = nI 2 from rfl, pk_sub (by omega)]; exact vin (by omega) (by decide)) dX6_operate_76 ?_
                rw [x_sk, show (2 : Int32) = nI 2 from rfl, pk_sub (by omega), clN (by omega)]
                refine w_lstore 8 (pc := 77) dX6_operate_77 (by decide) ?_
                refine w_aload_n (pc := 79) dX6_operate_79 rfl ?_
                refine w_iload (pc := 80) dX6_operate_80 rfl ?_
                refine w_if_eq 94 (pc := 82) dX6_operate_82 (by decide) (fun h82 => ?_) (fun h82 => ?_)
                · refine w_iload (pc := 94) dX6_operate_94 rfl ?_
                  refine w_if_eq 106 (pc := 96) dX6_operate_96 (by decide) (fun h96 => ?_) (fun h96 => ?_)
                  · refine w_aload_n (pc := 106) dX6_operate_106 rfl ?_
                    refine w_getI (pc := 107) fl_X6_184 hF (by first | assumption | exact ob rfl) rfl dX6_operate_107 ?_
                    rw [x_dp]
                    refine w_iconst (v := 1) (pc := 110) dX6_operate_110 rfl ?_
                    refine w_isub (pc := 111) dX6_operate_111 ?_
                    refine w_putI (pc := 112) fp_X6_184 hF (by first | assumption | exact ob rfl) rfl dX6_operate_112 ?_
                    rw [sb1 (by omega), x_sd]
                    refine w_lconst (v := 0) (pc := 115) dX6_operate_115 rfl ?_
                    refine w_lstore 10 (pc := 116) dX6_operate_116 (by decide) ?_
                    refine w_iload_n (pc := 118) dX6_operate_118 rfl ?_
                    refine w_tableIn 290 (pc := 119) dX6_operate_119 (by decide) (by decide) (off := 171) rfl (by decide) ?_
                    refine w_lload (pc := 290) dX6_operate_290 rfl ?_
                    refine w_lload (pc := 292) dX6_operate_292 rfl ?_
                    refine w_lcmp_ge 302 (pc := 294) dX6_operate_294 dX6_operate_295 (by decide) (fun h294 => ?_) (fun h294 => ?_)
                    · refine w_lconst (v := 0) (pc := 302) dX6_operate_302 rfl ?_
                      refine w_lstore 10 (pc := 303) dX6_operate_303 (by decide) ?_
                      refine w_goto 323 (pc := 305) dX6_operate_305 (by decide) ?_
                      refine w_aload_n (pc := 323) dX6_operate_323 rfl ?_
                      refine w_getR (b := 121) (pc := 324) fl_X6_88 hF (by first | assumption | exact ob rfl) rfl rfl dX6_operate_324 ?_
                      refine w_aload_n (pc := 327) dX6_operate_327 rfl ?_
                      refine w_getI (pc := 328) fl_X6_184 hF (by first | assumption | exact ob rfl) rfl dX6_operate_328 ?_
                      rw [x_dp]
                      refine w_iconst (v := 1) (pc := 331) dX6_operate_331 rfl ?_
                      refine w_isub (pc := 332) dX6_operate_332 ?_
                      refine w_lload (pc := 333) dX6_operate_333 rfl ?_
                      refine w_last (m := 48) (pc := 335) hF (by first | assumption | exact ar rfl) (by rw [sb1 (by omega)]; exact vin (by omega) (by decide)) dX6_operate_335 ?_
                      rw [sb1 (by omega), clN (by omega), x_ss]
                      refine w_lload (pc := 336) dX6_operate_336 rfl ?_
                      refine w_ldc2 (pc := 338) kl_X6_201 dX6_operate_338 ?_
                      refine w_ldc2 (pc := 341) kl_X6_203 dX6_operate_341 ?_
                      refine w_callS3 (n' := 0) (pc := 344) (c_X6_in hG) cs_X6_137 hT (by omega) (by decide) (Nat.le_of_ble_eq_true rfl) dX6_operate_344 ?_
                      refine ⟨_, _, _, rfl, ?_⟩
                      dsimp only [psh]
                      refine w_ireturn (pc := 347) dX6_operate_347 (bi_nar _) ?_
                      first | (have e9 : opR M q 9 n dp sk = 1 := if_pos (Int64.not_le.mp h294); rw [e9] at hQ; exact hQ) | (have e9 : opR M q 9 n dp sk = 0 := if_neg (Int64.not_lt.mpr h294); rw [e9] at hQ; exact hQ) | (have e9 : opR M q 9 n dp sk = 1 := if_pos h294; rw [e9] at hQ; exact hQ) | (have e9 : opR M q 9 n dp sk = 0 := if_neg h294; rw [e9] at hQ; exact hQ) | (have e9 : opR M q 9 n dp sk = 0 := if_neg (Int64.not_lt.mpr h294); rw [e9] at hQ; exact hQ)
                    · refine w_lconst (v := 1) (pc := 298) dX6_operate_298 rfl ?_
                      refine w_goto 303 (pc := 299) dX6_operate_299 (by decide) ?_
                      refine w_lstore 10 (pc := 303) dX6_operate_303 (by decide) ?_
                      refine w_goto 323 (pc := 305) dX6_operate_305 (by decide) ?_
                      refine w_aload_n (pc := 323) dX6_operate_323 rfl ?_
                      refine w_getR (b := 121) (pc := 324) fl_X6_88 hF (by first | assumption | exact ob rfl) rfl rfl dX6_operate_324 ?_
                      refine w_aload_n (pc := 327) dX6_operate_327 rfl ?_
                      refine w_getI (pc := 328) fl_X6_184 hF (by first | assumption | exact ob rfl) rfl dX6_operate_328 ?_
                      rw [x_dp]
                      refine w_iconst (v := 1) (pc := 331) dX6_operate_331 rfl ?_
                      refine w_isub (pc := 332) dX6_operate_332 ?_
                      refine w_lload (pc := 333) dX6_operate_333 rfl ?_
                      refine w_last (m := 48) (pc := 335) hF (by first | assumption | exact ar rfl) (by rw [sb1 (by omega)]; exact vin (by omega) (by decide)) dX6_operate_335 ?_
                      rw [sb1 (by omega), clN (by omega), x_ss]
                      refine w_lload (pc := 336) dX6_operate_336 rfl ?_
                      refine w_ldc2 (pc := 338) kl_X6_201 dX6_operate_338 ?_
                      refine w_ldc2 (pc := 341) kl_X6_203 dX6_operate_341 ?_
                      refine w_callS3 (n' := 0) (pc := 344) (c_X6_in hG) cs_X6_137 hT (by omega) (by decide) (Nat.le_of_ble_eq_true rfl) dX6_operate_344 ?_
                      refine ⟨_, _, _, rfl, ?_⟩
                      dsimp only [psh]
                      refine w_ireturn (pc := 347) dX6_operate_347 (bi_nar _) ?_
                      first | (have e9 : opR M q 9 n dp sk = 1 := if_pos (Int64.not_le.mp h294); rw [e9] at hQ; exact hQ) | (have e9 : opR M q 9 n dp sk = 0 := if_neg (Int64.not_lt.mpr h294); rw [e9] at hQ; exact hQ) | (have e9 : opR M q 9 n dp sk = 1 := if_pos h294; rw [e9] at hQ; exact hQ) | (have e9 : opR M q 9 n dp sk = 0 := if_neg h294; rw [e9] at hQ; exact hQ) | (have e9 : opR M q 9 n dp sk = 0 := if_neg (Int64.not_lt.mpr h294); rw [e9] at hQ; exact hQ)
                  · exact absurd h96 (by decide)
                · exact absurd h82 (by decide)
              · exact absurd h59 (by decide)
          · exact absurd h32 (by decide)
        · exact absurd h20 (by decide)
    · exact absurd h2 (by decide)
  · have hD2 : opD 10 dp = dp - 1 := rfl
    rw [hD2] at hD hQ
    refine w_iload_n (pc := 0) dX6_operate_0 rfl ?_
    refine w_iconst (v := 2) (pc := 1) dX6_operate_1 rfl ?_
    refine w_icmp_gt 9 (pc := 2) dX6_operate_2 (by decide) (fun h2 => ?_) (fun h2 => ?_)
    · refine w_iconst (v := 0) (pc := 9) dX6_operate_9 rfl ?_
      refine w_istore 4 (pc := 10) dX6_operate_10 (by decide) ?_
      refine w_iload_n (pc := 12) dX6_operate_12 rfl ?_
      refine w_iconst (v := 5) (pc := 13) dX6_operate_13 rfl ?_
      refine w_icmp_eq 23 (pc := 14) dX6_operate_14 (by decide) (fun h14 => ?_) (fun h14 => ?_)
      · exact absurd h14 (by decide)
      · refine w_iload_n (pc := 17) dX6_operate_17 rfl ?_
        refine w_bipush (v := 6) (pc := 18) dX6_operate_18 rfl ?_
        refine w_icmp_ne 27 (pc := 20) dX6_operate_20 (by decide) (fun h20 => ?_) (fun h20 => ?_)
        · refine w_iconst (v := 0) (pc := 27) dX6_operate_27 rfl ?_
          refine w_istore 5 (pc := 28) dX6_operate_28 (by decide) ?_
          refine w_iload (pc := 30) dX6_operate_30 rfl ?_
          refine w_if_eq 39 (pc := 32) dX6_operate_32 (by decide) (fun h32 => ?_) (fun h32 => ?_)
          · refine w_aload_n (pc := 39) dX6_operate_39 rfl ?_
            refine w_getR (b := 121) (pc := 40) fl_X6_88 hF (by first | assumption | exact ob rfl) rfl rfl dX6_operate_40 ?_
            refine w_aload_n (pc := 43) dX6_operate_43 rfl ?_
            refine w_getI (pc := 44) fl_X6_184 hF (by first | assumption | exact ob rfl) rfl dX6_operate_44 ?_
            rw [x_dp]
            refine w_iconst (v := 1) (pc := 47) dX6_operate_47 rfl ?_
            refine w_isub (pc := 48) dX6_operate_48 ?_
            refine w_lald (m := 48) (pc := 49) hF (by first | assumption | exact ar rfl) (by rw [sb1 (by omega)]; exact vin (by omega) (by decide)) dX6_operate_49 ?_
            rw [x_sk, sb1 (by omega), clN (by omega)]
            refine w_lstore 6 (pc := 50) dX6_operate_50 (by decide) ?_
            refine w_iload (pc := 52) dX6_operate_52 rfl ?_
            refine w_if_ne 62 (pc := 54) dX6_operate_54 (by decide) (fun h54 => ?_) (fun h54 => ?_)
            · exact absurd h54 (by decide)
            · refine w_iload (pc := 57) dX6_operate_57 rfl ?_
              refine w_if_eq 66 (pc := 59) dX6_operate_59 (by decide) (fun h59 => ?_) (fun h59 => ?_)
              · refine w_aload_n (pc := 66) dX6_operate_66 rfl ?_
                refine w_getR (b := 121) (pc := 67) fl_X6_88 hF (by first | assumption | exact ob rfl) rfl rfl dX6_operate_67 ?_
                refine w_aload_n (pc := 70) dX6_operate_70 rfl ?_
                refine w_getI (pc := 71) fl_X6_184 hF (by first | assumption | exact ob rfl) rfl dX6_operate_71 ?_
                rw [x_dp]
                refine w_iconst (v := 2) (pc := 74) dX6_operate_74 rfl ?_
                refine w_isub (pc := 75) dX6_operate_75 ?_
                refine w_lald (m := 48) (pc := 76) hF (by first | assumption | exact ar rfl) (by rw [show (2 : Int32) = nI 2 from rfl, pk_sub (by omega)]; exact vin (by omega) (by decide)) dX6_operate_76 ?_
                rw [x_sk, show (2 : Int32) = nI 2 from rfl, pk_sub (by omega), clN (by omega)]
                refine w_lstore 8 (pc := 77) dX6_operate_77 (by decide) ?_
                refine w_aload_n (pc := 79) dX6_operate_79 rfl ?_
                refine w_iload (pc := 80) dX6_operate_80 rfl ?_
                refine w_if_eq 94 (pc := 82) dX6_operate_82 (by decide) (fun h82 => ?_) (fun h82 => ?_)
                · refine w_iload (pc := 94) dX6_operate_94 rfl ?_
                  refine w_if_eq 106 (pc := 96) dX6_operate_96 (by decide) (fun h96 => ?_) (fun h96 => ?_)
                  · refine w_aload_n (pc := 106) dX6_operate_106 rfl ?_
                    refine w_getI (pc := 107) fl_X6_184 hF (by first | assumption | exact ob rfl) rfl dX6_operate_107 ?_
                    rw [x_dp]
                    refine w_iconst (v := 1) (pc := 110) dX6_operate_110 rfl ?_
                    refine w_isub (pc := 111) dX6_operate_111 ?_
                    refine w_putI (pc := 112) fp_X6_184 hF (by first | assumption | exact ob rfl) rfl dX6_operate_112 ?_
                    rw [sb1 (by omega), x_sd]
                    refine w_lconst (v := 0) (pc := 115) dX6_operate_115 rfl ?_
                    refine w_lstore 10 (pc := 116) dX6_operate_116 (by decide) ?_
                    refine w_iload_n (pc := 118) dX6_operate_118 rfl ?_
                    refine w_tableOut 308 (pc := 119) dX6_operate_119 (by decide) (by decide) ?_
                    refine w_lload (pc := 308) dX6_operate_308 rfl ?_
                    refine w_lload (pc := 310) dX6_operate_310 rfl ?_
                    refine w_lcmp_le 320 (pc := 312) dX6_operate_312 dX6_operate_313 (by decide) (fun h312 => ?_) (fun h312 => ?_)
                    · refine w_lconst (v := 0) (pc := 320) dX6_operate_320 rfl ?_
                      refine w_lstore 10 (pc := 321) dX6_operate_321 (by decide) ?_
                      refine w_aload_n (pc := 323) dX6_operate_323 rfl ?_
                      refine w_getR (b := 121) (pc := 324) fl_X6_88 hF (by first | assumption | exact ob rfl) rfl rfl dX6_operate_324 ?_
                      refine w_aload_n (pc := 327) dX6_operate_327 rfl ?_
                      refine w_getI (pc := 328) fl_X6_184 hF (by first | assumption | exact ob rfl) rfl dX6_operate_328 ?_
                      rw [x_dp]
                      refine w_iconst (v := 1) (pc := 331) dX6_operate_331 rfl ?_
                      refine w_isub (pc := 332) dX6_operate_332 ?_
                      refine w_lload (pc := 333) dX6_operate_333 rfl ?_
                      refine w_last (m := 48) (pc := 335) hF (by first | assumption | exact ar rfl) (by rw [sb1 (by omega)]; exact vin (by omega) (by decide)) dX6_operate_335 ?_
                      rw [sb1 (by omega), clN (by omega), x_ss]
                      refine w_lload (pc := 336) dX6_operate_336 rfl ?_
                      refine w_ldc2 (pc := 338) kl_X6_201 dX6_operate_338 ?_
                      refine w_ldc2 (pc := 341) kl_X6_203 dX6_operate_341 ?_
                      refine w_callS3 (n' := 0) (pc := 344) (c_X6_in hG) cs_X6_137 hT (by omega) (by decide) (Nat.le_of_ble_eq_true rfl) dX6_operate_344 ?_
                      refine ⟨_, _, _, rfl, ?_⟩
                      dsimp only [psh]
                      refine w_ireturn (pc := 347) dX6_operate_347 (bi_nar _) ?_
                      first | (have e9 : opR M q 10 n dp sk = 0 := if_neg (Int64.not_lt.mpr h312); rw [e9] at hQ; exact hQ) | (have e9 : opR M q 10 n dp sk = 1 := if_pos (Int64.not_le.mp h312); rw [e9] at hQ; exact hQ) | (have e9 : opR M q 10 n dp sk = 1 := if_pos h312; rw [e9] at hQ; exact hQ) | (have e9 : opR M q 10 n dp sk = 0 := if_neg h312; rw [e9] at hQ; exact hQ)
                    · refine w_lconst (v := 1) (pc := 316) dX6_operate_316 rfl ?_
                      refine w_goto 321 (pc := 317) dX6_operate_317 (by decide) ?_
                      refine w_lstore 10 (pc := 321) dX6_operate_321 (by decide) ?_
                      refine w_aload_n (pc := 323) dX6_operate_323 rfl ?_
                      refine w_getR (b := 121) (pc := 324) fl_X6_88 hF (by first | assumption | exact ob rfl) rfl rfl dX6_operate_324 ?_
                      refine w_aload_n (pc := 327) dX6_operate_327 rfl ?_
                      refine w_getI (pc := 328) fl_X6_184 hF (by first | assumption | exact ob rfl) rfl dX6_operate_328 ?_
                      rw [x_dp]
                      refine w_iconst (v := 1) (pc := 331) dX6_operate_331 rfl ?_
                      refine w_isub (pc := 332) dX6_operate_332 ?_
                      refine w_lload (pc := 333) dX6_operate_333 rfl ?_
                      refine w_last (m := 48) (pc := 335) hF (by first | assumption | exact ar rfl) (by rw [sb1 (by omega)]; exact vin (by omega) (by decide)) dX6_operate_335 ?_
                      rw [sb1 (by omega), clN (by omega), x_ss]
                      refine w_lload (pc := 336) dX6_operate_336 rfl ?_
                      refine w_ldc2 (pc := 338) kl_X6_201 dX6_operate_338 ?_
                      refine w_ldc2 (pc := 341) kl_X6_203 dX6_operate_341 ?_
                      refine w_callS3 (n' := 0) (pc := 344) (c_X6_in hG) cs_X6_137 hT (by omega) (by decide) (Nat.le_of_ble_eq_true rfl) dX6_operate_344 ?_
                      refine ⟨_, _, _, rfl, ?_⟩
                      dsimp only [psh]
                      refine w_ireturn (pc := 347) dX6_operate_347 (bi_nar _) ?_
                      first | (have e9 : opR M q 10 n dp sk = 0 := if_neg (Int64.not_lt.mpr h312); rw [e9] at hQ; exact hQ) | (have e9 : opR M q 10 n dp sk = 1 := if_pos (Int64.not_le.mp h312); rw [e9] at hQ; exact hQ) | (have e9 : opR M q 10 n dp sk = 1 := if_pos h312; rw [e9] at hQ; exact hQ) | (have e9 : opR M q 10 n dp sk = 0 := if_neg h312; rw [e9] at hQ; exact hQ)
                  · exact absurd h96 (by decide)
                · exact absurd h82 (by decide)
              · exact absurd h59 (by decide)
          · exact absurd h32 (by decide)
        · exact absurd h20 (by decide)
    · exact absurd h2 (by decide)
def exR (M : Mem) (q i : Nat) : Nat → Nat → Nat → (Nat → Int64) → Option (Bool × Nat × (Nat → Int64))
  | 0, _, _, _ => none
  | f + 1, k, dp, sk =>
    if (mI M 100 i).toNatClampNeg ≤ k then some (true, dp, sk)
    else if mI M 101 (48 * i + k) = 12 then (if mI M 102 (48 * i + k) < 0 then none else exR M q i f (mI M 102 (48 * i + k)).toNatClampNeg dp sk)
    else if mI M 101 (48 * i + k) = 11 then (if dp = 0 then none else if sk (dp - 1) = 0 then (if mI M 102 (48 * i + k) < 0 then none else exR M q i f (mI M 102 (48 * i + k)).toNatClampNeg (dp - 1) sk) else exR M q i f (k + 1) (dp - 1) sk)
    else if mI M 101 (48 * i + k) < 0 then none
    else if opB (mI M 101 (48 * i + k)).toNatClampNeg (mI M 102 (48 * i + k)) dp = true then
      (if inR (opR M q (mI M 101 (48 * i + k)).toNatClampNeg (mI M 102 (48 * i + k)) dp sk) = true
        then exR M q i f (k + 1) (opD (mI M 101 (48 * i + k)).toNatClampNeg dp) (va_up sk (opD (mI M 101 (48 * i + k)).toNatClampNeg dp - 1) (opR M q (mI M 101 (48 * i + k)).toNatClampNeg (mI M 102 (48 * i + k)) dp sk))
        else some (false, opD (mI M 101 (48 * i + k)).toNatClampNeg dp, va_up sk (opD (mI M 101 (48 * i + k)).toNatClampNeg dp - 1) (opR M q (mI M 101 (48 * i + k)).toNatClampNeg (mI M 102 (48 * i + k)) dp sk)))
    else none
theorem rJ_self (M : Mem) (a : Nat) : rJ M a (mJ M a) = M := by
  have : va_up M.2.1 a (M.2.1 a) = M.2.1 := by
    funext b
    unfold va_up
    by_cases h : b = a <;> simp [h]
  show (M.1, va_up M.2.1 a (M.2.1 a), M.2.2) = M
  rw [this]
theorem x_0 {M : Mem} : sI M 96 32 0 = xS M 0 (mJ M 121) := by
  unfold xS
  rw [show mJ M 121 = mJ (sI M 96 32 (nI 0)) 121 from rfl, rJ_self]
  rfl
theorem nI_cl {x : Int32} (h : ¬ x < 0) : x = nI x.toNatClampNeg ∧ x.toNatClampNeg < 2 ^ 31 := by
  obtain ⟨j, hj, rfl⟩ := nI_of h
  rw [clN hj]
  exact ⟨rfl, hj⟩
def T_mWork : PT := fun as M Q X => ∃ (q i st f : Nat) (res : Bool × Nat × (Nat → Int64)), as = [.ref 96, .int (nI q), .int (nI i)] ∧ Full M ∧ q < 12 ∧ i < 12 ∧ TabOkM M ∧ st ≤ 48 ∧ mI M 100 i = nI st ∧ exR M q i f 0 0 (mJ M 121) = some res ∧ (res.1 = true → Q (some (.int 1)) (sJ (xS M res.2.1 res.2.2) 120 i (res.2.2 0))) ∧ (res.1 = false → Q (some (.int 0)) (xS M res.2.1 res.2.2))
theorem c_X6_workOut {l : Launch} (hl : l.stackTraces = false) : Con l yX6_workOut wX6_workOut 0 4 (T_mWork) := by
  refine con_of hl (by decide) ?_ ?_
  · intro as M Q X hpt
    obtain ⟨q, i, st, f, res, rfl, hF, hq, hi, htab, hst, est, hres, hT1, hF1⟩ := hpt
    exact Nat.le_of_ble_eq_true rfl
  intro G as M Q X hl' hT hd hpt
  obtain ⟨q, i, st, f, res, rfl, hF, hq, hi, htab, hst, est, hres, hT1, hF1⟩ := hpt
  have hG : (gl G).stackTraces = false := by rw [hl']; exact hl
  show PW G RX6 cX6_workOut 6 (some .boolean) Q X 0 0 [(0, .ref 96), (1, .int (nI q)), (2, .int (nI i))] [] M
  have ei := clN (i := i) (by omega)
  have loop : ∀ (f k dp : Nat) (sk : Nat → Int64), exR M q i f k dp sk = some res → dp ≤ 48 → k < 2 ^ 31 → PW G RX6 cX6_workOut 6 (some .boolean) Q X 0 7 [(0, .ref 96), (1, .int (nI q)), (2, .int (nI i)), (3, .int (nI k))] [] (xS M dp sk) := by
    intro f
    induction f with
    | zero =>
      intro k dp sk hres hdp hk
      exact absurd hres (by simp [exR])
    | succ f ih =>
      intro k dp sk hres hdp hk
      refine w_iload_n (pc := 7) dX6_workOut_7 rfl ?_
      refine w_aload_n (pc := 8) dX6_workOut_8 rfl ?_
      refine w_getR (b := 100) (pc := 9) fl_X6_20 hF (by first | assumption | exact ob rfl) rfl rfl dX6_workOut_9 ?_
      refine w_iload_n (pc := 12) dX6_workOut_12 rfl ?_
      refine w_iald (m := 12) (pc := 13) hF (by first | assumption | exact ar rfl) (vin hi (by decide)) dX6_workOut_13 ?_
      rw [x_I (by decide), ei, est]
      refine w_icmp_ge 117 (pc := 14) dX6_workOut_14 (by decide) (fun h14 => ?_) (fun h14 => ?_)
      · rw [nI_leI (by omega) hk] at h14
        rw [exR, if_pos (by rw [est, clN (by omega)]; exact h14)] at hres
        have hres := Option.some.inj hres
        subst hres
        refine w_aload_n (pc := 117) dX6_workOut_117 rfl ?_
        refine w_getR (b := 120) (pc := 118) fl_X6_85 hF (by first | assumption | exact ob rfl) rfl rfl dX6_workOut_118 ?_
        refine w_iload_n (pc := 121) dX6_workOut_121 rfl ?_
        refine w_aload_n (pc := 122) dX6_workOut_122 rfl ?_
        refine w_getR (b := 121) (pc := 123) fl_X6_88 hF (by first | assumption | exact ob rfl) rfl rfl dX6_workOut_123 ?_
        refine w_iconst (v := 0) (pc := 126) dX6_workOut_126 rfl ?_
        refine w_lald (m := 48) (pc := 127) hF (by first | assumption | exact ar rfl) (vin (i := 0) (by decide) (by decide)) dX6_workOut_127 ?_
        rw [x_sk]
        refine w_last (m := 12) (pc := 128) hF (by first | assumption | exact ar rfl) (vin hi (by decide)) dX6_workOut_128 ?_
        rw [ei]
        refine w_iconst (v := 1) (pc := 129) dX6_workOut_129 rfl ?_
        refine w_ireturn (pc := 130) dX6_workOut_130 rfl ?_
        exact hT1 rfl
      · have hks : k < st := by rw [nI_leI (by omega) hk] at h14; omega
        rw [exR, if_neg (by rw [est, clN (by omega)]; omega)] at hres
        refine w_aload_n (pc := 17) dX6_workOut_17 rfl ?_
        refine w_getR (b := 101) (pc := 18) fl_X6_23 hF (by first | assumption | exact ob rfl) rfl rfl dX6_workOut_18 ?_
        refine w_bipush (v := 48) (pc := 21) dX6_workOut_21 rfl ?_
        refine w_iload_n (pc := 23) dX6_workOut_23 rfl ?_
        refine w_imul (pc := 24) dX6_workOut_24 ?_
        refine w_iload_n (pc := 25) dX6_workOut_25 rfl ?_
        refine w_iadd (pc := 26) dX6_workOut_26 ?_
        refine w_iald (m := 576) (pc := 27) hF (by first | assumption | exact ar rfl) (by rw [cm48]; exact vin (by omega) (by decide)) dX6_workOut_27 ?_
        rw [x_I (by decide), cm48, clN (by omega)]
        refine w_istore 4 (pc := 28) dX6_workOut_28 (by decide) ?_
        refine w_aload_n (pc := 30) dX6_workOut_30 rfl ?_
        refine w_getR (b := 102) (pc := 31) fl_X6_26 hF (by first | assumption | exact ob rfl) rfl rfl dX6_workOut_31 ?_
        refine w_bipush (v := 48) (pc := 34) dX6_workOut_34 rfl ?_
        refine w_iload_n (pc := 36) dX6_workOut_36 rfl ?_
        refine w_imul (pc := 37) dX6_workOut_37 ?_
        refine w_iload_n (pc := 38) dX6_workOut_38 rfl ?_
        refine w_iadd (pc := 39) dX6_workOut_39 ?_
        refine w_iald (m := 576) (pc := 40) hF (by first | assumption | exact ar rfl) (by rw [cm48]; exact vin (by omega) (by decide)) dX6_workOut_40 ?_
        rw [x_I (by decide), cm48, clN (by omega)]
        refine w_istore 5 (pc := 41) dX6_workOut_41 (by decide) ?_
        refine w_iinc (v := nI (k + 1)) (pc := 43) dX6_workOut_43 rfl (nI_1 k) (by decide) ?_
        refine w_iload (pc := 46) dX6_workOut_46 rfl ?_
        refine w_bipush (v := 12) (pc := 48) dX6_workOut_48 rfl ?_
        refine w_icmp_ne 59 (pc := 50) dX6_workOut_50 (by decide) (fun h50 => ?_) (fun h50 => ?_)
        · rw [if_neg h50] at hres
          refine w_iload (pc := 59) dX6_workOut_59 rfl ?_
          refine w_bipush (v := 11) (pc := 61) dX6_workOut_61 rfl ?_
          refine w_icmp_ne 100 (pc := 63) dX6_workOut_63 (by decide) (fun h63 => ?_) (fun h63 => ?_)
          · rw [if_neg h63] at hres
            by_cases hz : mI M 101 (48 * i + k) < 0
            · rw [if_pos hz] at hres; exact absurd hres (by simp)
            rw [if_neg hz] at hres
            obtain ⟨es, ls9⟩ := nI_cl hz
            by_cases hB : opB (mI M 101 (48 * i + k)).toNatClampNeg (mI M 102 (48 * i + k)) dp = true
            rotate_left
            · rw [if_neg hB] at hres; exact absurd hres (by simp)
            rw [if_pos hB] at hres
            have hD := (opB_of hB).2.1
            refine w_aload_n (pc := 100) dX6_workOut_100 rfl ?_
            refine w_iload_n (pc := 101) dX6_workOut_101 rfl ?_
            refine w_iload (pc := 102) dX6_workOut_102 rfl ?_
            refine w_iload (pc := 104) dX6_workOut_104 rfl ?_
            refine w_callV3 (n' := 0) (pc := 106) (c_X6_operate hG) cv_X6_187 (by first | assumption | exact ob rfl) hF hT (by omega) (by decide) (Nat.le_of_ble_eq_true rfl) dX6_workOut_106 ?_
            refine ⟨M, dp, sk, q, (mI M 101 (48 * i + k)).toNatClampNeg, mI M 102 (48 * i + k), (by rw [← es]), rfl, hF, hq, hdp, htab, hB, ?_⟩
            dsimp only [psh]
            refine w_if_ne 114 (pc := 109) dX6_workOut_109 (by decide) (fun h109 => ?_) (fun h109 => ?_)
            · rw [bi_1] at h109
              rw [if_pos h109] at hres
              refine w_goto 7 (pc := 114) dX6_workOut_114 (by decide) ?_
              first | (rw [ea]; exact w_lk (ih _ _ _ hres (by omega) la) (lkc rfl (lkc rfl (lkc rfl (lkc rfl lkn))))) | exact w_lk (ih _ _ _ hres (by omega) (by omega)) (lkc rfl (lkc rfl (lkc rfl (lkc rfl lkn))))
            · rw [bi_0] at h109
              rw [if_neg (by rw [h109]; decide)] at hres
              have hres := Option.some.inj hres
              subst hres
              refine w_iconst (v := 0) (pc := 112) dX6_workOut_112 rfl ?_
              refine w_ireturn (pc := 113) dX6_workOut_113 rfl ?_
              exact hF1 rfl
          · rw [if_pos h63] at hres
            by_cases hd0 : dp = 0
            · rw [if_pos hd0] at hres; exact absurd hres (by simp)
            rw [if_neg hd0] at hres
            refine w_aload_n (pc := 66) dX6_workOut_66 rfl ?_
            refine w_dup (pc := 67) dX6_workOut_67 rfl ?_
            refine w_getI (pc := 68) fl_X6_184 hF (by first | assumption | exact ob rfl) rfl dX6_workOut_68 ?_
            rw [x_dp]
            refine w_iconst (v := 1) (pc := 71) dX6_workOut_71 rfl ?_
            refine w_isub (pc := 72) dX6_workOut_72 ?_
            refine w_putI (pc := 73) fp_X6_184 hF (by first | assumption | exact ob rfl) rfl dX6_workOut_73 ?_
            rw [sb1 (by omega), x_sd]
            refine w_aload_n (pc := 76) dX6_workOut_76 rfl ?_
            refine w_getR (b := 121) (pc := 77) fl_X6_88 hF (by first | assumption | exact ob rfl) rfl rfl dX6_workOut_77 ?_
            refine w_aload_n (pc := 80) dX6_workOut_80 rfl ?_
            refine w_getI (pc := 81) fl_X6_184 hF (by first | assumption | exact ob rfl) rfl dX6_workOut_81 ?_
            rw [x_dp]
            refine w_lald (m := 48) (pc := 84) hF (by first | assumption | exact ar rfl) (vin (by omega) (by decide)) dX6_workOut_84 ?_
            rw [x_sk, clN (by omega)]
            refine w_lconst (v := 0) (pc := 85) dX6_workOut_85 rfl ?_
            refine w_lcmp_ne 95 (pc := 86) dX6_workOut_86 dX6_workOut_87 (by decide) (fun h86 => ?_) (fun h86 => ?_)
            · rw [if_neg h86] at hres
              refine w_iload_n (pc := 95) dX6_workOut_95 rfl ?_
              refine w_istore_n 3 (pc := 96) rfl dX6_workOut_96 (by decide) ?_
              refine w_goto 114 (pc := 97) dX6_workOut_97 (by decide) ?_
              refine w_goto 7 (pc := 114) dX6_workOut_114 (by decide) ?_
              first | (rw [ea]; exact w_lk (ih _ _ _ hres (by omega) la) (lkc rfl (lkc rfl (lkc rfl (lkc rfl lkn))))) | exact w_lk (ih _ _ _ hres (by omega) (by omega)) (lkc rfl (lkc rfl (lkc rfl (lkc rfl lkn))))
            · rw [if_pos h86] at hres
              by_cases hz : mI M 102 (48 * i + k) < 0
              · rw [if_pos hz] at hres; exact absurd hres (by simp)
              rw [if_neg hz] at hres
              obtain ⟨ea, la⟩ := nI_cl hz
              refine w_iload (pc := 90) dX6_workOut_90 rfl ?_
              refine w_goto 96 (pc := 92) dX6_workOut_92 (by decide) ?_
              refine w_istore_n 3 (pc := 96) rfl dX6_workOut_96 (by decide) ?_
              refine w_goto 114 (pc := 97) dX6_workOut_97 (by decide) ?_
              refine w_goto 7 (pc := 114) dX6_workOut_114 (by decide) ?_
              first | (rw [ea]; exact w_lk (ih _ _ _ hres (by omega) la) (lkc rfl (lkc rfl (lkc rfl (lkc rfl lkn))))) | exact w_lk (ih _ _ _ hres (by omega) (by omega)) (lkc rfl (lkc rfl (lkc rfl (lkc rfl lkn))))
        · rw [if_pos h50] at hres
          by_cases hz : mI M 102 (48 * i + k) < 0
          · rw [if_pos hz] at hres; exact absurd hres (by simp)
          rw [if_neg hz] at hres
          obtain ⟨ea, la⟩ := nI_cl hz
          refine w_iload (pc := 53) dX6_workOut_53 rfl ?_
          refine w_istore_n 3 (pc := 55) rfl dX6_workOut_55 (by decide) ?_
          refine w_goto 114 (pc := 56) dX6_workOut_56 (by decide) ?_
          refine w_goto 7 (pc := 114) dX6_workOut_114 (by decide) ?_
          first | (rw [ea]; exact w_lk (ih _ _ _ hres (by omega) la) (lkc rfl (lkc rfl (lkc rfl (lkc rfl lkn))))) | exact w_lk (ih _ _ _ hres (by omega) (by omega)) (lkc rfl (lkc rfl (lkc rfl (lkc rfl lkn))))
  refine w_aload_n (pc := 0) dX6_workOut_0 rfl ?_
  refine w_iconst (v := 0) (pc := 1) dX6_workOut_1 rfl ?_
  refine w_putI (pc := 2) fp_X6_184 hF (by first | assumption | exact ob rfl) rfl dX6_workOut_2 ?_
  rw [x_0]
  refine w_iconst (v := 0) (pc := 5) dX6_workOut_5 rfl ?_
  refine w_istore_n 3 (pc := 6) rfl dX6_workOut_6 (by decide) ?_
  exact w_lk (loop f 0 0 (mJ M 121) hres (by omega) (by omega)) (lkc rfl (lkc rfl (lkc rfl (lkc rfl lkn))))
