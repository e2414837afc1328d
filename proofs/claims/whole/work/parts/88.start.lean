/-! THE LAW'S START -/
theorem ck_0 : CK 0 (fun _ _ => false) (fun _ => 0) := fun a k h => by cases h
set_option maxHeartbeats 4000000 in
theorem law_start {G : Cx} {L b : Nat} {xs : Nat → Int32} (hT : gt G = []) (hd : gd G = 1300) (hNc : NcAll (gs G)) (hAo : AoAll (gs G)) (hG : (gl G).stackTraces = false) (hE : gE G = fun a => a 200 = b) (hA : gA G = fun q => (gs G).heap.size ≤ q) (hX : va_X b L xs (gs G) (gs G).heap) (hb : b < (gs G).heap.size) (hL : L ≤ 2560) :
    PW G RL cL_law 9 (some .boolean) PQ1 PX0 2640 0 [(0, .ref 200)] [] (KM 0 (fun _ _ => false) (fun _ => 0) 0) := by
  have hcl : ∀ a2 b2, gE G a2 → Ext a2 0 b2 → gE G b2 := fun a2 b2 h1 h2 => by
    rw [hE] at h1 ⊢
    exact (h2 200 (by omega)).trans h1
  refine k_new (m0 := 0) (n' := 2638) (u := 2) (N := 11) (pc := 0) nw_L_8 ck_0 rfl rfl (fun k => tI_0) (by omega) hcl (by omega) (by simp only [okL, okS, okV, okN, and_true, true_and]; try omega) (by simp only [okL, okS, okV, okN, and_true, true_and]; try omega) (by decide) (by omega) dL_law_0 (fun b1 => ?_)
  show PW (setr G b1) RL cL_law 9 (some .boolean) PQ1 PX0 2638 3 [(0, .ref 200)] [.ref 0] (KM 1 (fun _ _ => false) (fun _ => 0) 0)
  have hC1 : CK 1 (fun _ _ => false) (fun _ => 0) := CK.up ck_0
  refine w_dup (pc := 3) dL_law_3 rfl ?_
  refine k_callI (n' := 2400) (m0 := 0) (pc := 4) (c_X5_init hG) civ_L_71 hAo (by show 6 + 1 ≤ gd G; omega) (by omega) (Nat.le_of_ble_eq_true rfl) hcl (by omega) (by show okL 1 _; simp only [okL, okS, okV, okN, and_true, true_and]; try omega) (by show okS 1 _; simp only [okL, okS, okV, okN, and_true, true_and]; try omega) dL_law_4 (Q := fun r M1 => r = none ∧ M1 = KM (84 + 4 * 3) (lpA (lpR (lpT (zO (fun _ _ => false)) 12) 12) 3) (fO (fun _ => 0)) 1 ∧ CK (84 + 4 * 3) (lpA (lpR (lpT (zO (fun _ _ => false)) 12) 12) 3) (fO (fun _ => 0))) ⟨fun _ _ => false, fun _ => 0, rfl, rfl, hC1, fun h => ⟨rfl, rfl, h⟩⟩ (fun b2 r M1 h => ?_)
  obtain ⟨rfl, rfl, hC2⟩ := h
  have hC2 : CK 96 (lpA (lpR (lpT (zO (fun _ _ => false)) 12) 12) 3) (fO (fun _ => 0)) := hC2
  show PW (setr G b2) RL cL_law 9 (some .boolean) PQ1 PX0 2400 7 [(0, .ref 200)] [.ref 0] (KM 96 (lpA (lpR (lpT (zO (fun _ _ => false)) 12) 12) 3) (fO (fun _ => 0)) 1)
  refine w_astore_n 1 (pc := 7) rfl dL_law_7 (by decide) ?_
  refine k_new (m0 := 0) (n' := 2394) (u := 6) (N := 34) (pc := 8) nw_L_72 hC2 rfl rfl (fun k => tI_1 (by omega)) (by omega) hcl (by omega) (by show okL 96 [(1, .ref 0), (0, .ref 200)]; simp only [okL, okS, okV, okN, and_true, true_and]; try omega) (by simp only [okL, okS, okV, okN, and_true, true_and]; try omega) (by decide) (by omega) dL_law_8 (fun b3 => ?_)
  show PW (setr G b3) RL cL_law 9 (some .boolean) PQ1 PX0 2394 11 [(1, .ref 0), (0, .ref 200)] [.ref 96] (KM 97 (lpA (lpR (lpT (zO (fun _ _ => false)) 12) 12) 3) (fO (fun _ => 0)) 1)
  have hC3 : CK 97 (lpA (lpR (lpT (zO (fun _ _ => false)) 12) 12) 3) (fO (fun _ => 0)) := CK.up hC2
  refine w_dup (pc := 11) dL_law_11 rfl ?_
  refine k_callI (n' := 2050) (m0 := 0) (pc := 12) (c_X6_init hG) civ_L_74 hAo (by show 2 + 1 ≤ gd G; omega) (by omega) (Nat.le_of_ble_eq_true rfl) hcl (by omega) (by show okL 97 _; simp only [okL, okS, okV, okN, and_true, true_and]; try omega) (by show okS 97 _; simp only [okL, okS, okV, okN, and_true, true_and]; try omega) dL_law_12 (Q := fun r M1 => r = none ∧ M1 = KM 122 (zM (lpA (lpR (lpT (zO (fun _ _ => false)) 12) 12) 3)) (fO (fun _ => 0)) 2 ∧ CK 122 (zM (lpA (lpR (lpT (zO (fun _ _ => false)) 12) 12) 3)) (fO (fun _ => 0))) ⟨(lpA (lpR (lpT (zO (fun _ _ => false)) 12) 12) 3), (fO (fun _ => 0)), rfl, rfl, hC3, fun h => ⟨rfl, rfl, h⟩⟩ (fun b4 r M1 h => ?_)
  obtain ⟨rfl, rfl, hC4⟩ := h
  show PW (setr G b4) RL cL_law 9 (some .boolean) PQ1 PX0 2050 15 [(1, .ref 0), (0, .ref 200)] [.ref 96] (KM 122 (zM (lpA (lpR (lpT (zO (fun _ _ => false)) 12) 12) 3)) (fO (fun _ => 0)) 2)
  refine w_astore_n 2 (pc := 15) rfl dL_law_15 (by decide) ?_
  refine w_iconst (v := 1) (pc := 16) dL_law_16 rfl ?_
  refine k_newa (tt := 2) (m := 1) (m0 := 0) (n' := 2049) (u := 1) (pc := 17) ac_long rfl (List.mem_of_getElem? (i := 2) rfl) hC4 rfl (fun k => tI_2 (by omega) (by omega)) (by omega) hcl (by omega) (by show okL 122 [(2, .ref 96), (1, .ref 0), (0, .ref 200)]; simp only [okL, okS, okV, okN, and_true, true_and]; try omega) (by simp only [okL, okS, okV, okN, and_true, true_and]; try omega) rfl (by decide) (by decide) (by omega) dL_law_17 (fun b5 => ?_)
  show PW (setr G b5) RL cL_law 9 (some .boolean) PQ1 PX0 2049 19 [(2, .ref 96), (1, .ref 0), (0, .ref 200)] [.ref 122] (KM 123 (zM (lpA (lpR (lpT (zO (fun _ _ => false)) 12) 12) 3)) (fO (fun _ => 0)) 2)
  have hC5 : CK 123 (zM (lpA (lpR (lpT (zO (fun _ _ => false)) 12) 12) 3)) (fO (fun _ => 0)) := CK.up hC4
  refine w_astore_n 3 (pc := 19) rfl dL_law_19 (by decide) ?_
  refine w_iconst (v := 1) (pc := 20) dL_law_20 rfl ?_
  refine k_newa (tt := 4) (m := 1) (m0 := 0) (n' := 2048) (u := 1) (pc := 21) ac_double rfl (List.mem_of_getElem? (i := 4) rfl) hC5 rfl (fun k => tI_2 (by omega) (by omega)) (by omega) hcl (by omega) (by show okL 123 [(3, .ref 122), (2, .ref 96), (1, .ref 0), (0, .ref 200)]; simp only [okL, okS, okV, okN, and_true, true_and]; try omega) (by simp only [okL, okS, okV, okN, and_true, true_and]; try omega) rfl (by decide) (by decide) (by omega) dL_law_21 (fun b6 => ?_)
  show PW (setr G b6) RL cL_law 9 (some .boolean) PQ1 PX0 2048 23 [(3, .ref 122), (2, .ref 96), (1, .ref 0), (0, .ref 200)] [.ref 123] (KM 124 Zf Ff 2)
  refine w_astore 4 (pc := 23) dL_law_23 (by decide) ?_
  refine w_iconst (v := 0) (pc := 25) dL_law_25 rfl ?_
  refine w_istore 5 (pc := 26) dL_law_26 (by decide) ?_
  refine w_full ?_
  intro n0 H locs lsA cells slots ok
  have h200 : b6 200 = b := by
    have z : gE G b6 := ok.ext
    rw [hE] at z
    exact z
  have sc : ScrOk (setr G b6) L xs := by
    refine ⟨?_, ?_, ?_⟩
    · show va_X (b6 200) L xs (gs G) (gs G).heap
      rw [h200]; exact hX
    · show b6 200 < (gs G).heap.size
      rw [h200]; exact hb
    · show ¬ gA G (b6 200)
      rw [hA, h200]
      exact fun z => absurd hb (by omega)
  exact w_lk (law_loop (G := setr G b6) hT hd hNc hG sc hL 512 0 M0f (by omega) (by omega) inv_0) (lkc rfl (lkc rfl (lkc rfl (lkc rfl (lkc rfl (lkc rfl lkn)))))) n0 H locs lsA cells slots ok
