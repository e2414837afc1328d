theorem law_step {G : Cx} {L r f : Nat} {xs : Nat → Int32} {M : Mem} (hT : gt G = []) (hd : gd G = 1300) (hNc : NcAll (gs G)) (hG : (gl G).stackTraces = false) (sc : ScrOk G L xs) (hL : L ≤ 2560) (hr : 5 * r + 5 ≤ L) (hI : Inv M)
    (tl : ∀ M, Inv M → PW G RL cL_law 9 (some .boolean) PQ1 PX0 (4 * f) 1199 [(0, .ref 200), (1, .ref 0), (2, .ref 96), (3, .ref 122), (4, .ref 123), (5, .int (nI (5 * r)))] [] M) : PW G RL cL_law 9 (some .boolean) PQ1 PX0 (4 * f + 4) 37 [(0, .ref 200), (1, .ref 0), (2, .ref 96), (3, .ref 122), (4, .ref 123), (5, .int (nI (5 * r)))] [] M := by
  have hi0 : vp_in (nI (5 * r)) L := vin (by omega) (by omega)
  refine w_aload_n (pc := 37) dL_law_37 rfl ?_
  refine w_iload (pc := 38) dL_law_38 rfl ?_
  refine w_sld (pc := 40) sc hi0 dL_law_40 ?_
  refine w_bipush (v := 31) (pc := 41) dL_law_41 rfl ?_
  refine w_iand (pc := 43) dL_law_43 ?_
  obtain ⟨j, hj, ej⟩ := pk_andE (xs (nI (5 * r)).toNatClampNeg) (m := 31) 5 rfl
  rw [ej]
  have ejI : (nI j).toInt = (j : Int) := nI_toInt (by omega)
  by_cases h17 : 17 ≤ j
  · refine w_tableOut 1199 (pc := 44) dL_law_44 (Or.inr (by rw [ejI]; omega)) (by decide) ?_
    exact w_n (by omega) (tl M hI)
  have cases17 : j = 0 ∨ j = 1 ∨ j = 2 ∨ j = 3 ∨ j = 4 ∨ j = 5 ∨ j = 6 ∨ j = 7 ∨ j = 8 ∨ j = 9 ∨ j = 10 ∨ j = 11 ∨ j = 12 ∨ j = 13 ∨ j = 14 ∨ j = 15 ∨ j = 16 := by omega
  rcases cases17 with rfl | rfl | rfl | rfl | rfl | rfl | rfl | rfl | rfl | rfl | rfl | rfl | rfl | rfl | rfl | rfl | rfl
  · refine w_tableIn 128 (pc := 44) dL_law_44 (by decide) (by decide) (off := 84) (by rfl) (by decide) ?_
    exact lc_type hT hd hNc hG sc hL hr hI tl
  · refine w_tableIn 155 (pc := 44) dL_law_44 (by decide) (by decide) (off := 111) (by rfl) (by decide) ?_
    exact lc_clear hT hd hNc hG sc hL hr hI tl
  · refine w_tableIn 168 (pc := 44) dL_law_44 (by decide) (by decide) (off := 124) (by rfl) (by decide) ?_
    exact lc_define hT hd hNc hG sc hL hr hI tl
  · refine w_tableIn 224 (pc := 44) dL_law_44 (by decide) (by decide) (off := 180) (by rfl) (by decide) ?_
    exact lc_input hT hd hNc hG sc hL hr hI tl
  · refine w_tableIn 287 (pc := 44) dL_law_44 (by decide) (by decide) (off := 243) (by rfl) (by decide) ?_
    exact lc_total hT hd hNc hG sc hL hr hI tl
  · refine w_tableIn 343 (pc := 44) dL_law_44 (by decide) (by decide) (off := 299) (by rfl) (by decide) ?_
    exact lc_bracket hT hd hNc hG sc hL hr hI tl
  · refine w_tableIn 423 (pc := 44) dL_law_44 (by decide) (by decide) (off := 379) (by rfl) (by decide) ?_
    exact lc_reset hT hd hNc hG sc hL hr hI tl
  · refine w_tableIn 491 (pc := 44) dL_law_44 (by decide) (by decide) (off := 447) (by rfl) (by decide) ?_
    exact lc_order hT hd hNc hG sc hL hr hI tl
  · refine w_tableIn 547 (pc := 44) dL_law_44 (by decide) (by decide) (off := 503) (by rfl) (by decide) ?_
    exact lc_file hT hd hNc hG sc hL hr hI tl
  · refine w_tableIn 639 (pc := 44) dL_law_44 (by decide) (by decide) (off := 595) (by rfl) (by decide) ?_
    exact lc_assess hT hd hNc hG sc hL hr hI tl
  · refine w_tableIn 706 (pc := 44) dL_law_44 (by decide) (by decide) (off := 662) (by rfl) (by decide) ?_
    exact lc_value hT hd hNc hG sc hL hr hI tl
  · refine w_tableIn 785 (pc := 44) dL_law_44 (by decide) (by decide) (off := 741) (by rfl) (by decide) ?_
    exact lc_share hT hd hNc hG sc hL hr hI tl
  · refine w_tableIn 886 (pc := 44) dL_law_44 (by decide) (by decide) (off := 842) (by rfl) (by decide) ?_
    exact lc_pay hT hd hNc hG sc hL hr hI tl
  · refine w_tableIn 953 (pc := 44) dL_law_44 (by decide) (by decide) (off := 909) (by rfl) (by decide) ?_
    exact lc_interest hT hd hNc hG sc hL hr hI tl
  · refine w_tableIn 1009 (pc := 44) dL_law_44 (by decide) (by decide) (off := 965) (by rfl) (by decide) ?_
    exact lc_pass hT hd hNc hG sc hL hr hI tl
  · refine w_tableIn 1065 (pc := 44) dL_law_44 (by decide) (by decide) (off := 1021) (by rfl) (by decide) ?_
    exact lc_balance hT hd hNc hG sc hL hr hI tl
  · refine w_tableIn 1120 (pc := 44) dL_law_44 (by decide) (by decide) (off := 1076) (by rfl) (by decide) ?_
    exact lc_posting hT hd hNc hG sc hL hr hI tl
theorem law_loop {G : Cx} {L : Nat} {xs : Nat → Int32} (hT : gt G = []) (hd : gd G = 1300) (hNc : NcAll (gs G)) (hG : (gl G).stackTraces = false) (sc : ScrOk G L xs) (hL : L ≤ 2560) : ∀ (f r : Nat) (M : Mem), L ≤ 5 * (r + f) + 4 → r + f ≤ 512 → Inv M → PW G RL cL_law 9 (some .boolean) PQ1 PX0 (4 * f) 28 [(0, .ref 200), (1, .ref 0), (2, .ref 96), (3, .ref 122), (4, .ref 123), (5, .int (nI (5 * r)))] [] M
  | f, r, M, hf, hrf, hI => by
    have e5 : (nI L - 5).toInt = (L : Int) - 5 := by rw [show (5 : Int32) = nI 5 from rfl, pk_sub_toInt (by omega) (by decide)]; rfl
    have e6 : (nI (5 * r)).toInt = (5 * r : Nat) := nI_toInt (by omega)
    refine w_iload (pc := 28) dL_law_28 rfl ?_
    refine w_aload_n (pc := 30) dL_law_30 rfl ?_
    refine w_scL (pc := 31) sc dL_law_31 ?_
    refine w_iconst (v := 5) (pc := 32) dL_law_32 rfl ?_
    refine w_isub (pc := 33) dL_law_33 ?_
    refine w_icmp_gt 1205 (pc := 34) dL_law_34 (by decide) (fun h => ?_) (fun h => ?_)
    · refine w_iconst (v := 1) (pc := 1205) dL_law_1205 rfl ?_
      refine w_ireturn (pc := 1206) dL_law_1206 rfl ?_
      rfl
    · rw [Int32.lt_iff_toInt_lt, e5, e6] at h
      match f, hf, hrf with
      | 0, hf, _ => exact absurd hf (by omega)
      | f + 1, hf, hrf =>
        refine law_step (f := f) hT hd hNc hG sc hL (by omega) hI (fun M2 hI2 => ?_)
        refine w_iinc (v := nI (5 * (r + 1))) (pc := 1199) dL_law_1199 rfl (by rw [show Int32.ofInt 5 = nI 5 from rfl, nI_add]; rfl) (by decide) ?_
        refine w_goto 28 (pc := 1202) dL_law_1202 (by decide) ?_
        exact w_lk (law_loop hT hd hNc hG sc hL f (r + 1) M2 (by omega) (by omega) hI2) (lkc rfl (lkc rfl (lkc rfl (lkc rfl (lkc rfl (lkc rfl lkn))))))
