/-! THE CALLS, ONE BY ONE: the class's and the reference's -/
theorem nI_same {x : Int32} {i j n : Nat} (hi : i < n) (hj : j < n) (hn : n < 2 ^ 31) (e : x = nI i) (e' : x = nI j) : i = j := (nI_eq (by omega) (by omega)).mp (e.symm.trans e')
theorem fo_eq {M : Mem} (hL : IL M) : ∀ i, i < 12 → (mI M 98 i = 0 ∨ mI M 98 i = 1) ∧ mI M 98 i = bi (hasF M i) := by
  intro i hi
  obtain ⟨len, k, l1, l2, l3, l4, l5, l6⟩ := hL i hi
  unfold hasF
  rw [l3]
  rcases l6 with ⟨z1, z2, z3⟩ | ⟨z1, z2, z3⟩
  · subst z2
    exact ⟨Or.inl z1, by rw [z1]; rfl⟩
  · exact ⟨Or.inr z1, by rw [z1, bi_t (nI_nle z2 (by omega))]⟩
theorem s_type {M : Mem} (h : Inv M) {c : Int32} (hc : vp_nar .char c = c) {Q : PQ} {X : PX} (hQ : ∀ b M1, (∀ (Q2 : PQ) (X2 : PX), (∀ M2, Inv M2 → Q2 (some (.int b)) M2) → T_mType [.ref 96, .int c] M1 Q2 X2) → Q (some (.int b)) M1) : T_type [.ref 0, .int c] M Q X := by
  have h0 := h
  obtain ⟨hF, ⟨len, hl, e1, e2, he⟩, hL, hT, hO, hR, hA, hN⟩ := h
  refine ⟨c, len, rfl, hF, hl, e1, hc, fun q => hQ _ _ (fun Q2 X2 k => ?_), fun q1 q2 => hQ _ _ (fun Q2 X2 k => ?_)⟩
  · refine ⟨c, len, rfl, hF, hl, e2, fun _ => k _ (h0.same hF (fun a _ _ _ _ => by simp (disch := omega) only [mI_row, mI_k, mI_s, mI_J, mI_D, mI_F, mI_rJ, mI_rn, mI_rs, mJ_row, mJ_k, mJ_s, mJ_I, mJ_D, mJ_F, mJ_rI, mJ_rn, mJ_rs, c7_I, c7_J]) (fun k hk => by simp (disch := omega) only [mI_row, mI_k, mI_s, mI_J, mI_D, mI_F, mI_rJ, mI_rn, mI_rs, mJ_row, mJ_k, mJ_s, mJ_I, mJ_D, mJ_F, mJ_rI, mJ_rn, mJ_rs, c7_I, c7_J]) (fun a _ _ _ _ => by simp (disch := omega) only [mI_row, mI_k, mI_s, mI_J, mI_D, mI_F, mI_rJ, mI_rn, mI_rs, mJ_row, mJ_k, mJ_s, mJ_I, mJ_D, mJ_F, mJ_rI, mJ_rn, mJ_rs, c7_I, c7_J])), fun z1 z2 => ?_⟩
    exfalso
    rcases q with q | q
    · exact q z1
    · omega
  · have ea : appT M 1 c = sI (sI M 2 len c) 1 1 (nI (len + 1)) := by
      unfold appT
      rw [mI_row (by decide), e1, clN (by omega), nI_1]
    rw [ea]
    refine ⟨c, len, rfl, hF, hl, by simp (disch := omega) only [mI_row, mI_k, mI_s, mI_J, mI_D, mI_F, mI_rJ, mI_rn, mI_rs, mJ_row, mJ_k, mJ_s, mJ_I, mJ_D, mJ_F, mJ_rI, mJ_rn, mJ_rs, c7_I, c7_J]; exact e2, fun z => ?_, fun _ _ => k _ ?_⟩
    · exfalso
      rcases z with z | z
      · exact z q1
      · omega
    · unfold typM
      refine ⟨hF, ⟨len + 1, by omega, by simp (disch := omega) only [mI_row, mI_k, mI_s, mI_J, mI_D, mI_F, mI_rJ, mI_rn, mI_rs, mJ_row, mJ_k, mJ_s, mJ_I, mJ_D, mJ_F, mJ_rI, mJ_rn, mJ_rs, c7_I, c7_J], by simp (disch := omega) only [mI_row, mI_k, mI_s, mI_J, mI_D, mI_F, mI_rJ, mI_rn, mI_rs, mJ_row, mJ_k, mJ_s, mJ_I, mJ_D, mJ_F, mJ_rI, mJ_rn, mJ_rs, c7_I, c7_J], fun j hj => ?_⟩, hL.same (fun a ha => by simp (disch := omega) only [mI_row, mI_k, mI_s, mI_J, mI_D, mI_F, mI_rJ, mI_rn, mI_rs, mJ_row, mJ_k, mJ_s, mJ_I, mJ_D, mJ_F, mJ_rI, mJ_rn, mJ_rs, c7_I, c7_J]), hT.same (fun a ha => by simp (disch := omega) only [mI_row, mI_k, mI_s, mI_J, mI_D, mI_F, mI_rJ, mI_rn, mI_rs, mJ_row, mJ_k, mJ_s, mJ_I, mJ_D, mJ_F, mJ_rI, mJ_rn, mJ_rs, c7_I, c7_J]), hO.same (by simp (disch := omega) only [mI_row, mI_k, mI_s, mI_J, mI_D, mI_F, mI_rJ, mI_rn, mI_rs, mJ_row, mJ_k, mJ_s, mJ_I, mJ_D, mJ_F, mJ_rI, mJ_rn, mJ_rs, c7_I, c7_J]) (by simp (disch := omega) only [mI_row, mI_k, mI_s, mI_J, mI_D, mI_F, mI_rJ, mI_rn, mI_rs, mJ_row, mJ_k, mJ_s, mJ_I, mJ_D, mJ_F, mJ_rI, mJ_rn, mJ_rs, c7_I, c7_J]) (by simp (disch := omega) only [mI_row, mI_k, mI_s, mI_J, mI_D, mI_F, mI_rJ, mI_rn, mI_rs, mJ_row, mJ_k, mJ_s, mJ_I, mJ_D, mJ_F, mJ_rI, mJ_rn, mJ_rs, c7_I, c7_J]), hR.same (fun a ha => by simp (disch := omega) only [mI_row, mI_k, mI_s, mI_J, mI_D, mI_F, mI_rJ, mI_rn, mI_rs, mJ_row, mJ_k, mJ_s, mJ_I, mJ_D, mJ_F, mJ_rI, mJ_rn, mJ_rs, c7_I, c7_J]) (fun a ha => by simp (disch := omega) only [mI_row, mI_k, mI_s, mI_J, mI_D, mI_F, mI_rJ, mI_rn, mI_rs, mJ_row, mJ_k, mJ_s, mJ_I, mJ_D, mJ_F, mJ_rI, mJ_rn, mJ_rs, c7_I, c7_J]), hA.same (fun a ha => by simp (disch := omega) only [mI_row, mI_k, mI_s, mI_J, mI_D, mI_F, mI_rJ, mI_rn, mI_rs, mJ_row, mJ_k, mJ_s, mJ_I, mJ_D, mJ_F, mJ_rI, mJ_rn, mJ_rs, c7_I, c7_J]) (fun a ha => by simp (disch := omega) only [mI_row, mI_k, mI_s, mI_J, mI_D, mI_F, mI_rJ, mI_rn, mI_rs, mJ_row, mJ_k, mJ_s, mJ_I, mJ_D, mJ_F, mJ_rI, mJ_rn, mJ_rs, c7_I, c7_J]), hN.same (by simp (disch := omega) only [mI_row, mI_k, mI_s, mI_J, mI_D, mI_F, mI_rJ, mI_rn, mI_rs, mJ_row, mJ_k, mJ_s, mJ_I, mJ_D, mJ_F, mJ_rI, mJ_rn, mJ_rs, c7_I, c7_J])⟩
      by_cases hj2 : j = len
      · subst hj2
        simp (disch := omega) only [mI_row, mI_k, mI_s, mI_J, mI_D, mI_F, mI_rJ, mI_rn, mI_rs, mJ_row, mJ_k, mJ_s, mJ_I, mJ_D, mJ_F, mJ_rI, mJ_rn, mJ_rs, c7_I, c7_J]
        exact ⟨trivial, q1⟩
      · simp (disch := omega) only [mI_row, mI_k, mI_s, mI_J, mI_D, mI_F, mI_rJ, mI_rn, mI_rs, mJ_row, mJ_k, mJ_s, mJ_I, mJ_D, mJ_F, mJ_rI, mJ_rn, mJ_rs, c7_I, c7_J]
        exact he j (by omega)
theorem s_clear {M : Mem} (h : Inv M) {Q : PQ} {X : PX} (hQ : ∀ b M1, (∀ (Q2 : PQ) (X2 : PX), (∀ M2, Inv M2 → Q2 (some (.int b)) M2) → T_mClear [.ref 96] M1 Q2 X2) → Q (some (.int b)) M1) : T_clear [.ref 0] M Q X := by
  obtain ⟨hF, ⟨len, hl, e1, e2, he⟩, hL, hT, hO, hR, hA, hN⟩ := h
  refine ⟨rfl, hF, hQ _ _ (fun Q2 X2 k => ⟨rfl, hF, ?_⟩)⟩
  have e : mI (sI M 1 1 0) 96 2 = mI M 1 1 := by rw [mI_row (by decide), e1, e2]
  rw [e]
  refine k _ ⟨hF, ⟨0, by omega, by simp (disch := omega) only [mI_row, mI_k, mI_s, mI_J, mI_D, mI_F, mI_rJ, mI_rn, mI_rs, mJ_row, mJ_k, mJ_s, mJ_I, mJ_D, mJ_F, mJ_rI, mJ_rn, mJ_rs, c7_I, c7_J]; rfl, by simp (disch := omega) only [mI_row, mI_k, mI_s, mI_J, mI_D, mI_F, mI_rJ, mI_rn, mI_rs, mJ_row, mJ_k, mJ_s, mJ_I, mJ_D, mJ_F, mJ_rI, mJ_rn, mJ_rs, c7_I, c7_J]; rfl, fun j hj => absurd hj (by omega)⟩, hL.same (fun a ha => by simp (disch := omega) only [mI_row, mI_k, mI_s, mI_J, mI_D, mI_F, mI_rJ, mI_rn, mI_rs, mJ_row, mJ_k, mJ_s, mJ_I, mJ_D, mJ_F, mJ_rI, mJ_rn, mJ_rs, c7_I, c7_J]), hT.same (fun a ha => by simp (disch := omega) only [mI_row, mI_k, mI_s, mI_J, mI_D, mI_F, mI_rJ, mI_rn, mI_rs, mJ_row, mJ_k, mJ_s, mJ_I, mJ_D, mJ_F, mJ_rI, mJ_rn, mJ_rs, c7_I, c7_J]), hO.same (by simp (disch := omega) only [mI_row, mI_k, mI_s, mI_J, mI_D, mI_F, mI_rJ, mI_rn, mI_rs, mJ_row, mJ_k, mJ_s, mJ_I, mJ_D, mJ_F, mJ_rI, mJ_rn, mJ_rs, c7_I, c7_J]) (by simp (disch := omega) only [mI_row, mI_k, mI_s, mI_J, mI_D, mI_F, mI_rJ, mI_rn, mI_rs, mJ_row, mJ_k, mJ_s, mJ_I, mJ_D, mJ_F, mJ_rI, mJ_rn, mJ_rs, c7_I, c7_J]) (by simp (disch := omega) only [mI_row, mI_k, mI_s, mI_J, mI_D, mI_F, mI_rJ, mI_rn, mI_rs, mJ_row, mJ_k, mJ_s, mJ_I, mJ_D, mJ_F, mJ_rI, mJ_rn, mJ_rs, c7_I, c7_J]), hR.same (fun a ha => by simp (disch := omega) only [mI_row, mI_k, mI_s, mI_J, mI_D, mI_F, mI_rJ, mI_rn, mI_rs, mJ_row, mJ_k, mJ_s, mJ_I, mJ_D, mJ_F, mJ_rI, mJ_rn, mJ_rs, c7_I, c7_J]) (fun a ha => by simp (disch := omega) only [mI_row, mI_k, mI_s, mI_J, mI_D, mI_F, mI_rJ, mI_rn, mI_rs, mJ_row, mJ_k, mJ_s, mJ_I, mJ_D, mJ_F, mJ_rI, mJ_rn, mJ_rs, c7_I, c7_J]), hA.same (fun a ha => by simp (disch := omega) only [mI_row, mI_k, mI_s, mI_J, mI_D, mI_F, mI_rJ, mI_rn, mI_rs, mJ_row, mJ_k, mJ_s, mJ_I, mJ_D, mJ_F, mJ_rI, mJ_rn, mJ_rs, c7_I, c7_J]) (fun a ha => by simp (disch := omega) only [mI_row, mI_k, mI_s, mI_J, mI_D, mI_F, mI_rJ, mI_rn, mI_rs, mJ_row, mJ_k, mJ_s, mJ_I, mJ_D, mJ_F, mJ_rI, mJ_rn, mJ_rs, c7_I, c7_J]), hN.same (by simp (disch := omega) only [mI_row, mI_k, mI_s, mI_J, mI_D, mI_F, mI_rJ, mI_rn, mI_rs, mJ_row, mJ_k, mJ_s, mJ_I, mJ_D, mJ_F, mJ_rI, mJ_rn, mJ_rs, c7_I, c7_J])⟩
theorem s_total {M : Mem} (h : Inv M) {x : Int32} {Q : PQ} {X : PX} (hQ : ∀ (rv : Int32) M1, MidI T_mTotal [.ref 96, .int x] rv M1 → Q (some (.int rv)) M1) (hX : ∀ E c M1, (E, c) ∈ [("java/util/NoSuchElementException", (1 : Int32))] → MidX T_mTotal [.ref 96, .int x] (.int 0) c M1 → X E M1) : T_total [.ref 0, .int x] M Q X := by
  have h0 := h
  obtain ⟨hF, hP, hL, hT, hO, hR, hA, hN⟩ := h
  obtain ⟨⟨tl, htl, o1, o2⟩, hI⟩ := hO
  refine ⟨x, rfl, hF, fun q => hX _ 1 _ List.mem_cons_self (fun Q2 X2 k => ?_), fun i hi ei => hQ _ _ (fun Q2 X2 k => ?_)⟩
  · exact ⟨x, rfl, hF, fun _ => k _ (h0.same hF (fun a _ _ _ _ => by unfold thr; simp (disch := omega) only [mI_row, mI_k, mI_s, mI_J, mI_D, mI_F, mI_rJ, mI_rn, mI_rs, mJ_row, mJ_k, mJ_s, mJ_I, mJ_D, mJ_F, mJ_rI, mJ_rn, mJ_rs, c7_I, c7_J]) (fun k hk => by unfold thr; simp (disch := omega) only [mI_row, mI_k, mI_s, mI_J, mI_D, mI_F, mI_rJ, mI_rn, mI_rs, mJ_row, mJ_k, mJ_s, mJ_I, mJ_D, mJ_F, mJ_rI, mJ_rn, mJ_rs, c7_I, c7_J]) (fun a _ _ _ _ => by unfold thr; simp (disch := omega) only [mI_row, mI_k, mI_s, mI_J, mI_D, mI_F, mI_rJ, mI_rn, mI_rs, mJ_row, mJ_k, mJ_s, mJ_I, mJ_D, mJ_F, mJ_rI, mJ_rn, mJ_rs, c7_I, c7_J])) mI_s, fun i hi ei => absurd ⟨i, hi, ei⟩ q⟩
  · refine ⟨x, rfl, hF, fun q => absurd ⟨i, hi, ei⟩ q, fun j hj ej => ?_⟩
    have hij := nI_same hi hj (by decide) ei ej
    subst hij
    rw [show mI (sJ (sI M 0 9 (nI i)) 122 0 (mI M 0 9).toInt64) 96 8 = mI M 0 9 by simp (disch := omega) only [mI_row, mI_k, mI_s, mI_J, mI_D, mI_F, mI_rJ, mI_rn, mI_rs, mJ_row, mJ_k, mJ_s, mJ_I, mJ_D, mJ_F, mJ_rI, mJ_rn, mJ_rs, c7_I, c7_J]; rw [o1, o2]]
    refine k _ ⟨hF, hP.same (fun a ha => by simp (disch := omega) only [mI_row, mI_k, mI_s, mI_J, mI_D, mI_F, mI_rJ, mI_rn, mI_rs, mJ_row, mJ_k, mJ_s, mJ_I, mJ_D, mJ_F, mJ_rI, mJ_rn, mJ_rs, c7_I, c7_J]) (by simp (disch := omega) only [mI_row, mI_k, mI_s, mI_J, mI_D, mI_F, mI_rJ, mI_rn, mI_rs, mJ_row, mJ_k, mJ_s, mJ_I, mJ_D, mJ_F, mJ_rI, mJ_rn, mJ_rs, c7_I, c7_J]), hL.same (fun a ha => by simp (disch := omega) only [mI_row, mI_k, mI_s, mI_J, mI_D, mI_F, mI_rJ, mI_rn, mI_rs, mJ_row, mJ_k, mJ_s, mJ_I, mJ_D, mJ_F, mJ_rI, mJ_rn, mJ_rs, c7_I, c7_J]), hT.same (fun a ha => by simp (disch := omega) only [mI_row, mI_k, mI_s, mI_J, mI_D, mI_F, mI_rJ, mI_rn, mI_rs, mJ_row, mJ_k, mJ_s, mJ_I, mJ_D, mJ_F, mJ_rI, mJ_rn, mJ_rs, c7_I, c7_J]), ⟨⟨i, hi, by simp (disch := omega) only [mI_row, mI_k, mI_s, mI_J, mI_D, mI_F, mI_rJ, mI_rn, mI_rs, mJ_row, mJ_k, mJ_s, mJ_I, mJ_D, mJ_F, mJ_rI, mJ_rn, mJ_rs, c7_I, c7_J], by simp (disch := omega) only [mI_row, mI_k, mI_s, mI_J, mI_D, mI_F, mI_rJ, mI_rn, mI_rs, mJ_row, mJ_k, mJ_s, mJ_I, mJ_D, mJ_F, mJ_rI, mJ_rn, mJ_rs, c7_I, c7_J]⟩, ?_⟩, hR.same (fun a ha => by simp (disch := omega) only [mI_row, mI_k, mI_s, mI_J, mI_D, mI_F, mI_rJ, mI_rn, mI_rs, mJ_row, mJ_k, mJ_s, mJ_I, mJ_D, mJ_F, mJ_rI, mJ_rn, mJ_rs, c7_I, c7_J]) (fun a ha => by simp (disch := omega) only [mI_row, mI_k, mI_s, mI_J, mI_D, mI_F, mI_rJ, mI_rn, mI_rs, mJ_row, mJ_k, mJ_s, mJ_I, mJ_D, mJ_F, mJ_rI, mJ_rn, mJ_rs, c7_I, c7_J]), hA.same (fun a ha => by simp (disch := omega) only [mI_row, mI_k, mI_s, mI_J, mI_D, mI_F, mI_rJ, mI_rn, mI_rs, mJ_row, mJ_k, mJ_s, mJ_I, mJ_D, mJ_F, mJ_rI, mJ_rn, mJ_rs, c7_I, c7_J]) (fun a ha => by simp (disch := omega) only [mI_row, mI_k, mI_s, mI_J, mI_D, mI_F, mI_rJ, mI_rn, mI_rs, mJ_row, mJ_k, mJ_s, mJ_I, mJ_D, mJ_F, mJ_rI, mJ_rn, mJ_rs, c7_I, c7_J]), hN.same (by simp (disch := omega) only [mI_row, mI_k, mI_s, mI_J, mI_D, mI_F, mI_rJ, mI_rn, mI_rs, mJ_row, mJ_k, mJ_s, mJ_I, mJ_D, mJ_F, mJ_rI, mJ_rn, mJ_rs, c7_I, c7_J])⟩ (by simp (disch := omega) only [mI_row, mI_k, mI_s, mI_J, mI_D, mI_F, mI_rJ, mI_rn, mI_rs, mJ_row, mJ_k, mJ_s, mJ_I, mJ_D, mJ_F, mJ_rI, mJ_rn, mJ_rs, c7_I, c7_J]) (by simp (disch := omega) only [mI_row, mI_k, mI_s, mI_J, mI_D, mI_F, mI_rJ, mI_rn, mI_rs, mJ_row, mJ_k, mJ_s, mJ_I, mJ_D, mJ_F, mJ_rI, mJ_rn, mJ_rs, c7_I, c7_J])
    obtain ⟨x, hx, i1, i2⟩ := hI
    exact ⟨x, hx, by simp (disch := omega) only [mI_row, mI_k, mI_s, mI_J, mI_D, mI_F, mI_rJ, mI_rn, mI_rs, mJ_row, mJ_k, mJ_s, mJ_I, mJ_D, mJ_F, mJ_rI, mJ_rn, mJ_rs, c7_I, c7_J]; exact i1, by simp (disch := omega) only [mI_row, mI_k, mI_s, mI_J, mI_D, mI_F, mI_rJ, mI_rn, mI_rs, mJ_row, mJ_k, mJ_s, mJ_I, mJ_D, mJ_F, mJ_rI, mJ_rn, mJ_rs, c7_I, c7_J]; exact i2⟩
theorem s_interest {M : Mem} (h : Inv M) {x : Int32} {Q : PQ} {X : PX} (hQ : ∀ (rv : Int32) M1, MidI T_mInterest [.ref 96, .int x] rv M1 → Q (some (.int rv)) M1) (hX : ∀ E c M1, (E, c) ∈ [("java/lang/IllegalArgumentException", (1 : Int32))] → MidX T_mInterest [.ref 96, .int x] (.int 0) c M1 → X E M1) : T_interest [.ref 0, .int x] M Q X := by
  have h0 := h
  obtain ⟨hF, hP, hL, hT, hO, hR, hA, hN⟩ := h
  obtain ⟨hI, ⟨tl, htl, o1, o2⟩⟩ := hO
  refine ⟨x, rfl, hF, fun q => hX _ 1 _ List.mem_cons_self (fun Q2 X2 k => ?_), fun i hi ei => hQ _ _ (fun Q2 X2 k => ?_)⟩
  · exact ⟨x, rfl, hF, fun _ => k _ (h0.same hF (fun a _ _ _ _ => by unfold thr; simp (disch := omega) only [mI_row, mI_k, mI_s, mI_J, mI_D, mI_F, mI_rJ, mI_rn, mI_rs, mJ_row, mJ_k, mJ_s, mJ_I, mJ_D, mJ_F, mJ_rI, mJ_rn, mJ_rs, c7_I, c7_J]) (fun k hk => by unfold thr; simp (disch := omega) only [mI_row, mI_k, mI_s, mI_J, mI_D, mI_F, mI_rJ, mI_rn, mI_rs, mJ_row, mJ_k, mJ_s, mJ_I, mJ_D, mJ_F, mJ_rI, mJ_rn, mJ_rs, c7_I, c7_J]) (fun a _ _ _ _ => by unfold thr; simp (disch := omega) only [mI_row, mI_k, mI_s, mI_J, mI_D, mI_F, mI_rJ, mI_rn, mI_rs, mJ_row, mJ_k, mJ_s, mJ_I, mJ_D, mJ_F, mJ_rI, mJ_rn, mJ_rs, c7_I, c7_J])) mI_s, fun i hi ei => absurd ⟨i, hi, ei⟩ q⟩
  · refine ⟨x, rfl, hF, fun q => absurd ⟨i, hi, ei⟩ q, fun j hj ej => ?_⟩
    have hij := nI_same hi hj (by decide) ei ej
    subst hij
    rw [show mI (sJ (sI M 0 10 (nI i)) 122 0 (mI M 0 10).toInt64) 96 17 = mI M 0 10 by simp (disch := omega) only [mI_row, mI_k, mI_s, mI_J, mI_D, mI_F, mI_rJ, mI_rn, mI_rs, mJ_row, mJ_k, mJ_s, mJ_I, mJ_D, mJ_F, mJ_rI, mJ_rn, mJ_rs, c7_I, c7_J]; rw [o1, o2]]
    refine k _ ⟨hF, hP.same (fun a ha => by simp (disch := omega) only [mI_row, mI_k, mI_s, mI_J, mI_D, mI_F, mI_rJ, mI_rn, mI_rs, mJ_row, mJ_k, mJ_s, mJ_I, mJ_D, mJ_F, mJ_rI, mJ_rn, mJ_rs, c7_I, c7_J]) (by simp (disch := omega) only [mI_row, mI_k, mI_s, mI_J, mI_D, mI_F, mI_rJ, mI_rn, mI_rs, mJ_row, mJ_k, mJ_s, mJ_I, mJ_D, mJ_F, mJ_rI, mJ_rn, mJ_rs, c7_I, c7_J]), hL.same (fun a ha => by simp (disch := omega) only [mI_row, mI_k, mI_s, mI_J, mI_D, mI_F, mI_rJ, mI_rn, mI_rs, mJ_row, mJ_k, mJ_s, mJ_I, mJ_D, mJ_F, mJ_rI, mJ_rn, mJ_rs, c7_I, c7_J]), hT.same (fun a ha => by simp (disch := omega) only [mI_row, mI_k, mI_s, mI_J, mI_D, mI_F, mI_rJ, mI_rn, mI_rs, mJ_row, mJ_k, mJ_s, mJ_I, mJ_D, mJ_F, mJ_rI, mJ_rn, mJ_rs, c7_I, c7_J]), ⟨?_, ⟨i, hi, by simp (disch := omega) only [mI_row, mI_k, mI_s, mI_J, mI_D, mI_F, mI_rJ, mI_rn, mI_rs, mJ_row, mJ_k, mJ_s, mJ_I, mJ_D, mJ_F, mJ_rI, mJ_rn, mJ_rs, c7_I, c7_J], by simp (disch := omega) only [mI_row, mI_k, mI_s, mI_J, mI_D, mI_F, mI_rJ, mI_rn, mI_rs, mJ_row, mJ_k, mJ_s, mJ_I, mJ_D, mJ_F, mJ_rI, mJ_rn, mJ_rs, c7_I, c7_J]⟩⟩, hR.same (fun a ha => by simp (disch := omega) only [mI_row, mI_k, mI_s, mI_J, mI_D, mI_F, mI_rJ, mI_rn, mI_rs, mJ_row, mJ_k, mJ_s, mJ_I, mJ_D, mJ_F, mJ_rI, mJ_rn, mJ_rs, c7_I, c7_J]) (fun a ha => by simp (disch := omega) only [mI_row, mI_k, mI_s, mI_J, mI_D, mI_F, mI_rJ, mI_rn, mI_rs, mJ_row, mJ_k, mJ_s, mJ_I, mJ_D, mJ_F, mJ_rI, mJ_rn, mJ_rs, c7_I, c7_J]), hA.same (fun a ha => by simp (disch := omega) only [mI_row, mI_k, mI_s, mI_J, mI_D, mI_F, mI_rJ, mI_rn, mI_rs, mJ_row, mJ_k, mJ_s, mJ_I, mJ_D, mJ_F, mJ_rI, mJ_rn, mJ_rs, c7_I, c7_J]) (fun a ha => by simp (disch := omega) only [mI_row, mI_k, mI_s, mI_J, mI_D, mI_F, mI_rJ, mI_rn, mI_rs, mJ_row, mJ_k, mJ_s, mJ_I, mJ_D, mJ_F, mJ_rI, mJ_rn, mJ_rs, c7_I, c7_J]), hN.same (by simp (disch := omega) only [mI_row, mI_k, mI_s, mI_J, mI_D, mI_F, mI_rJ, mI_rn, mI_rs, mJ_row, mJ_k, mJ_s, mJ_I, mJ_D, mJ_F, mJ_rI, mJ_rn, mJ_rs, c7_I, c7_J])⟩ (by simp (disch := omega) only [mI_row, mI_k, mI_s, mI_J, mI_D, mI_F, mI_rJ, mI_rn, mI_rs, mJ_row, mJ_k, mJ_s, mJ_I, mJ_D, mJ_F, mJ_rI, mJ_rn, mJ_rs, c7_I, c7_J]) (by simp (disch := omega) only [mI_row, mI_k, mI_s, mI_J, mI_D, mI_F, mI_rJ, mI_rn, mI_rs, mJ_row, mJ_k, mJ_s, mJ_I, mJ_D, mJ_F, mJ_rI, mJ_rn, mJ_rs, c7_I, c7_J])
    obtain ⟨x, hx, i1, i2⟩ := hI
    exact ⟨x, hx, by simp (disch := omega) only [mI_row, mI_k, mI_s, mI_J, mI_D, mI_F, mI_rJ, mI_rn, mI_rs, mJ_row, mJ_k, mJ_s, mJ_I, mJ_D, mJ_F, mJ_rI, mJ_rn, mJ_rs, c7_I, c7_J]; exact i1, by simp (disch := omega) only [mI_row, mI_k, mI_s, mI_J, mI_D, mI_F, mI_rJ, mI_rn, mI_rs, mJ_row, mJ_k, mJ_s, mJ_I, mJ_D, mJ_F, mJ_rI, mJ_rn, mJ_rs, c7_I, c7_J]; exact i2⟩
theorem s_input {M : Mem} (h : Inv M) {x : Int32} {Q : PQ} {X : PX} (hQ : ∀ (rv : Bool) M1, MidZ T_mInput [.ref 96, .int x] rv M1 → Q (some (.int (bi rv))) M1) (hX : ∀ E c M1, (E, c) ∈ [("java/util/NoSuchElementException", (1 : Int32))] → MidX T_mInput [.ref 96, .int x] (.int 0) c M1 → X E M1) : T_input [.ref 0, .int x] M Q X := by
  have h0 := h
  obtain ⟨hF, hP, hL, hT, hO, hR, hA, hN⟩ := h
  have hfo := fo_eq hL
  refine ⟨x, rfl, hF, fun q => hX _ 1 _ List.mem_cons_self (fun Q2 X2 k => ?_), fun i hi ei => hQ _ _ (fun Q2 X2 k => ?_)⟩
  · exact ⟨x, rfl, hF, fun i hi => (hfo i hi).1, fun _ => k _ (h0.same hF (fun a _ _ _ _ => by unfold thr; simp (disch := omega) only [mI_row, mI_k, mI_s, mI_J, mI_D, mI_F, mI_rJ, mI_rn, mI_rs, mJ_row, mJ_k, mJ_s, mJ_I, mJ_D, mJ_F, mJ_rI, mJ_rn, mJ_rs, c7_I, c7_J]) (fun k hk => by unfold thr; simp (disch := omega) only [mI_row, mI_k, mI_s, mI_J, mI_D, mI_F, mI_rJ, mI_rn, mI_rs, mJ_row, mJ_k, mJ_s, mJ_I, mJ_D, mJ_F, mJ_rI, mJ_rn, mJ_rs, c7_I, c7_J]) (fun a _ _ _ _ => by unfold thr; simp (disch := omega) only [mI_row, mI_k, mI_s, mI_J, mI_D, mI_F, mI_rJ, mI_rn, mI_rs, mJ_row, mJ_k, mJ_s, mJ_I, mJ_D, mJ_F, mJ_rI, mJ_rn, mJ_rs, c7_I, c7_J])) mI_s, fun i hi ei => absurd ⟨i, hi, ei⟩ q⟩
  · refine ⟨x, rfl, hF, fun j hj => by simp (disch := omega) only [mI_row, mI_k, mI_s, mI_J, mI_D, mI_F, mI_rJ, mI_rn, mI_rs, mJ_row, mJ_k, mJ_s, mJ_I, mJ_D, mJ_F, mJ_rI, mJ_rn, mJ_rs, c7_I, c7_J]; exact (hfo j hj).1, fun q => absurd ⟨i, hi, ei⟩ q, fun j hj ej => ?_⟩
    have hij := nI_same hi hj (by decide) ei ej
    subst hij
    have er : ∀ v, mI (sJ (sI (sI M (24 + 2 * i) 1 0) 4 i 0) 122 0 v) 98 i = bi (hasF M i) := fun v => by simp (disch := omega) only [mI_row, mI_k, mI_s, mI_J, mI_D, mI_F, mI_rJ, mI_rn, mI_rs, mJ_row, mJ_k, mJ_s, mJ_I, mJ_D, mJ_F, mJ_rI, mJ_rn, mJ_rs, c7_I, c7_J]; exact (hfo i hi).2
    rw [er]
    refine k _ ⟨hF, hP.same (fun a ha => by simp (disch := omega) only [mI_row, mI_k, mI_s, mI_J, mI_D, mI_F, mI_rJ, mI_rn, mI_rs, mJ_row, mJ_k, mJ_s, mJ_I, mJ_D, mJ_F, mJ_rI, mJ_rn, mJ_rs, c7_I, c7_J]) (by simp (disch := omega) only [mI_row, mI_k, mI_s, mI_J, mI_D, mI_F, mI_rJ, mI_rn, mI_rs, mJ_row, mJ_k, mJ_s, mJ_I, mJ_D, mJ_F, mJ_rI, mJ_rn, mJ_rs, c7_I, c7_J]), fun j hj => ?_, hT.same (fun a ha => by simp (disch := omega) only [mI_row, mI_k, mI_s, mI_J, mI_D, mI_F, mI_rJ, mI_rn, mI_rs, mJ_row, mJ_k, mJ_s, mJ_I, mJ_D, mJ_F, mJ_rI, mJ_rn, mJ_rs, c7_I, c7_J]), hO.same (by simp (disch := omega) only [mI_row, mI_k, mI_s, mI_J, mI_D, mI_F, mI_rJ, mI_rn, mI_rs, mJ_row, mJ_k, mJ_s, mJ_I, mJ_D, mJ_F, mJ_rI, mJ_rn, mJ_rs, c7_I, c7_J]) (by simp (disch := omega) only [mI_row, mI_k, mI_s, mI_J, mI_D, mI_F, mI_rJ, mI_rn, mI_rs, mJ_row, mJ_k, mJ_s, mJ_I, mJ_D, mJ_F, mJ_rI, mJ_rn, mJ_rs, c7_I, c7_J]) (by simp (disch := omega) only [mI_row, mI_k, mI_s, mI_J, mI_D, mI_F, mI_rJ, mI_rn, mI_rs, mJ_row, mJ_k, mJ_s, mJ_I, mJ_D, mJ_F, mJ_rI, mJ_rn, mJ_rs, c7_I, c7_J]), hR.same (fun a ha => by simp (disch := omega) only [mI_row, mI_k, mI_s, mI_J, mI_D, mI_F, mI_rJ, mI_rn, mI_rs, mJ_row, mJ_k, mJ_s, mJ_I, mJ_D, mJ_F, mJ_rI, mJ_rn, mJ_rs, c7_I, c7_J]) (fun a ha => by simp (disch := omega) only [mI_row, mI_k, mI_s, mI_J, mI_D, mI_F, mI_rJ, mI_rn, mI_rs, mJ_row, mJ_k, mJ_s, mJ_I, mJ_D, mJ_F, mJ_rI, mJ_rn, mJ_rs, c7_I, c7_J]), hA.same (fun a ha => by simp (disch := omega) only [mI_row, mI_k, mI_s, mI_J, mI_D, mI_F, mI_rJ, mI_rn, mI_rs, mJ_row, mJ_k, mJ_s, mJ_I, mJ_D, mJ_F, mJ_rI, mJ_rn, mJ_rs, c7_I, c7_J]) (fun a ha => by simp (disch := omega) only [mI_row, mI_k, mI_s, mI_J, mI_D, mI_F, mI_rJ, mI_rn, mI_rs, mJ_row, mJ_k, mJ_s, mJ_I, mJ_D, mJ_F, mJ_rI, mJ_rn, mJ_rs, c7_I, c7_J]), hN.same (by simp (disch := omega) only [mI_row, mI_k, mI_s, mI_J, mI_D, mI_F, mI_rJ, mI_rn, mI_rs, mJ_row, mJ_k, mJ_s, mJ_I, mJ_D, mJ_F, mJ_rI, mJ_rn, mJ_rs, c7_I, c7_J])⟩ (by simp (disch := omega) only [mI_row, mI_k, mI_s, mI_J, mI_D, mI_F, mI_rJ, mI_rn, mI_rs, mJ_row, mJ_k, mJ_s, mJ_I, mJ_D, mJ_F, mJ_rI, mJ_rn, mJ_rs, c7_I, c7_J]) (by simp (disch := omega) only [mI_row, mI_k, mI_s, mI_J, mI_D, mI_F, mI_rJ, mI_rn, mI_rs, mJ_row, mJ_k, mJ_s, mJ_I, mJ_D, mJ_F, mJ_rI, mJ_rn, mJ_rs, c7_I, c7_J])
    obtain ⟨len, n, l1, l2, l3, l4, l5, l6⟩ := hL j hj
    by_cases hji : j = i
    · subst hji
      refine ⟨0, n, by omega, l2, by simp (disch := omega) only [mI_row, mI_k, mI_s, mI_J, mI_D, mI_F, mI_rJ, mI_rn, mI_rs, mJ_row, mJ_k, mJ_s, mJ_I, mJ_D, mJ_F, mJ_rI, mJ_rn, mJ_rs, c7_I, c7_J]; rfl, by simp (disch := omega) only [mI_row, mI_k, mI_s, mI_J, mI_D, mI_F, mI_rJ, mI_rn, mI_rs, mJ_row, mJ_k, mJ_s, mJ_I, mJ_D, mJ_F, mJ_rI, mJ_rn, mJ_rs, c7_I, c7_J]; exact l4, fun z hz => absurd hz (by omega), Or.inl ⟨by simp (disch := omega) only [mI_row, mI_k, mI_s, mI_J, mI_D, mI_F, mI_rJ, mI_rn, mI_rs, mJ_row, mJ_k, mJ_s, mJ_I, mJ_D, mJ_F, mJ_rI, mJ_rn, mJ_rs, c7_I, c7_J], rfl, by simp (disch := omega) only [mI_row, mI_k, mI_s, mI_J, mI_D, mI_F, mI_rJ, mI_rn, mI_rs, mJ_row, mJ_k, mJ_s, mJ_I, mJ_D, mJ_F, mJ_rI, mJ_rn, mJ_rs, c7_I, c7_J]⟩⟩
    · simp (disch := omega) only [mI_row, mI_k, mI_s, mI_J, mI_D, mI_F, mI_rJ, mI_rn, mI_rs, mJ_row, mJ_k, mJ_s, mJ_I, mJ_D, mJ_F, mJ_rI, mJ_rn, mJ_rs, c7_I, c7_J]
      exact ⟨len, n, l1, l2, l3, l4, l5, l6⟩
theorem s_reset {M : Mem} (h : Inv M) {x y : Int32} {Q : PQ} {X : PX} (hQ : ∀ (rv : Int32) M1, MidI T_mReset [.ref 96, .int x, .int y] rv M1 → Q (some (.int rv)) M1) (hX : ∀ E c M1, (E, c) ∈ [("java/util/NoSuchElementException", (1 : Int32)), ("java/lang/IllegalArgumentException", (2 : Int32))] → MidX T_mReset [.ref 96, .int x, .int y] (.int 0) c M1 → X E M1) : T_reset [.ref 0, .int x, .int y] M Q X := by
  have h0 := h
  obtain ⟨hF, hP, hL, hT, hO, hR, hA, hN⟩ := h
  refine ⟨x, y, rfl, hF, fun q => hX _ 1 _ List.mem_cons_self (fun Q2 X2 k => ?_), fun q1 q2 => hX _ 2 _ (List.mem_cons_of_mem _ List.mem_cons_self) (fun Q2 X2 k => ?_), fun i j hi hj ei ej => hQ _ _ (fun Q2 X2 k => ?_)⟩
  · exact ⟨x, y, rfl, hF, fun _ => k _ (h0.same hF (fun a _ _ _ _ => by unfold thr; simp (disch := omega) only [mI_row, mI_k, mI_s, mI_J, mI_D, mI_F, mI_rJ, mI_rn, mI_rs, mJ_row, mJ_k, mJ_s, mJ_I, mJ_D, mJ_F, mJ_rI, mJ_rn, mJ_rs, c7_I, c7_J]) (fun k hk => by unfold thr; simp (disch := omega) only [mI_row, mI_k, mI_s, mI_J, mI_D, mI_F, mI_rJ, mI_rn, mI_rs, mJ_row, mJ_k, mJ_s, mJ_I, mJ_D, mJ_F, mJ_rI, mJ_rn, mJ_rs, c7_I, c7_J]) (fun a _ _ _ _ => by unfold thr; simp (disch := omega) only [mI_row, mI_k, mI_s, mI_J, mI_D, mI_F, mI_rJ, mI_rn, mI_rs, mJ_row, mJ_k, mJ_s, mJ_I, mJ_D, mJ_F, mJ_rI, mJ_rn, mJ_rs, c7_I, c7_J])) mI_s, fun z => absurd z q, fun i _ hi _ ei _ => absurd ⟨i, hi, ei⟩ q⟩
  · exact ⟨x, y, rfl, hF, fun z => absurd q1 z, fun _ _ => k _ (h0.same hF (fun a _ _ _ _ => by unfold thr; simp (disch := omega) only [mI_row, mI_k, mI_s, mI_J, mI_D, mI_F, mI_rJ, mI_rn, mI_rs, mJ_row, mJ_k, mJ_s, mJ_I, mJ_D, mJ_F, mJ_rI, mJ_rn, mJ_rs, c7_I, c7_J]) (fun k hk => by unfold thr; simp (disch := omega) only [mI_row, mI_k, mI_s, mI_J, mI_D, mI_F, mI_rJ, mI_rn, mI_rs, mJ_row, mJ_k, mJ_s, mJ_I, mJ_D, mJ_F, mJ_rI, mJ_rn, mJ_rs, c7_I, c7_J]) (fun a _ _ _ _ => by unfold thr; simp (disch := omega) only [mI_row, mI_k, mI_s, mI_J, mI_D, mI_F, mI_rJ, mI_rn, mI_rs, mJ_row, mJ_k, mJ_s, mJ_I, mJ_D, mJ_F, mJ_rI, mJ_rn, mJ_rs, c7_I, c7_J])) mI_s, fun _ j _ hj _ ej => absurd ⟨j, hj, ej⟩ q2⟩
  · refine ⟨x, y, rfl, hF, fun q => absurd ⟨i, hi, ei⟩ q, fun _ q => absurd ⟨j, hj, ej⟩ q, fun i' j' hi' hj' ei' ej' => ?_⟩
    have hij := nI_same hi hi' (by decide) ei ei'
    subst hij
    have hij := nI_same hj hj' (by decide) ej ej'
    subst hij
    have er : ∀ v, mI (sJ (sI (sI M (12 + 3 * i) 2 0) (12 + 3 * i) 3 (nI j)) 122 0 v) 103 i = mI M (12 + 3 * i) 2 := fun v => by
      obtain ⟨k, o, t1, t2, t3, t4, t5⟩ := hT i hi
      simp (disch := omega) only [mI_row, mI_k, mI_s, mI_J, mI_D, mI_F, mI_rJ, mI_rn, mI_rs, mJ_row, mJ_k, mJ_s, mJ_I, mJ_D, mJ_F, mJ_rI, mJ_rn, mJ_rs, c7_I, c7_J]
      rw [t3, t4]
    rw [er]
    refine k _ ⟨hF, hP.same (fun a ha => by simp (disch := omega) only [mI_row, mI_k, mI_s, mI_J, mI_D, mI_F, mI_rJ, mI_rn, mI_rs, mJ_row, mJ_k, mJ_s, mJ_I, mJ_D, mJ_F, mJ_rI, mJ_rn, mJ_rs, c7_I, c7_J]) (by simp (disch := omega) only [mI_row, mI_k, mI_s, mI_J, mI_D, mI_F, mI_rJ, mI_rn, mI_rs, mJ_row, mJ_k, mJ_s, mJ_I, mJ_D, mJ_F, mJ_rI, mJ_rn, mJ_rs, c7_I, c7_J]), hL.same (fun a ha => by simp (disch := omega) only [mI_row, mI_k, mI_s, mI_J, mI_D, mI_F, mI_rJ, mI_rn, mI_rs, mJ_row, mJ_k, mJ_s, mJ_I, mJ_D, mJ_F, mJ_rI, mJ_rn, mJ_rs, c7_I, c7_J]), fun t ht => ?_, hO.same (by simp (disch := omega) only [mI_row, mI_k, mI_s, mI_J, mI_D, mI_F, mI_rJ, mI_rn, mI_rs, mJ_row, mJ_k, mJ_s, mJ_I, mJ_D, mJ_F, mJ_rI, mJ_rn, mJ_rs, c7_I, c7_J]) (by simp (disch := omega) only [mI_row, mI_k, mI_s, mI_J, mI_D, mI_F, mI_rJ, mI_rn, mI_rs, mJ_row, mJ_k, mJ_s, mJ_I, mJ_D, mJ_F, mJ_rI, mJ_rn, mJ_rs, c7_I, c7_J]) (by simp (disch := omega) only [mI_row, mI_k, mI_s, mI_J, mI_D, mI_F, mI_rJ, mI_rn, mI_rs, mJ_row, mJ_k, mJ_s, mJ_I, mJ_D, mJ_F, mJ_rI, mJ_rn, mJ_rs, c7_I, c7_J]), hR.same (fun a ha => by simp (disch := omega) only [mI_row, mI_k, mI_s, mI_J, mI_D, mI_F, mI_rJ, mI_rn, mI_rs, mJ_row, mJ_k, mJ_s, mJ_I, mJ_D, mJ_F, mJ_rI, mJ_rn, mJ_rs, c7_I, c7_J]) (fun a ha => by simp (disch := omega) only [mI_row, mI_k, mI_s, mI_J, mI_D, mI_F, mI_rJ, mI_rn, mI_rs, mJ_row, mJ_k, mJ_s, mJ_I, mJ_D, mJ_F, mJ_rI, mJ_rn, mJ_rs, c7_I, c7_J]), hA.same (fun a ha => by simp (disch := omega) only [mI_row, mI_k, mI_s, mI_J, mI_D, mI_F, mI_rJ, mI_rn, mI_rs, mJ_row, mJ_k, mJ_s, mJ_I, mJ_D, mJ_F, mJ_rI, mJ_rn, mJ_rs, c7_I, c7_J]) (fun a ha => by simp (disch := omega) only [mI_row, mI_k, mI_s, mI_J, mI_D, mI_F, mI_rJ, mI_rn, mI_rs, mJ_row, mJ_k, mJ_s, mJ_I, mJ_D, mJ_F, mJ_rI, mJ_rn, mJ_rs, c7_I, c7_J]), hN.same (by simp (disch := omega) only [mI_row, mI_k, mI_s, mI_J, mI_D, mI_F, mI_rJ, mI_rn, mI_rs, mJ_row, mJ_k, mJ_s, mJ_I, mJ_D, mJ_F, mJ_rI, mJ_rn, mJ_rs, c7_I, c7_J])⟩ (by simp (disch := omega) only [mI_row, mI_k, mI_s, mI_J, mI_D, mI_F, mI_rJ, mI_rn, mI_rs, mJ_row, mJ_k, mJ_s, mJ_I, mJ_D, mJ_F, mJ_rI, mJ_rn, mJ_rs, c7_I, c7_J]) (by simp (disch := omega) only [mI_row, mI_k, mI_s, mI_J, mI_D, mI_F, mI_rJ, mI_rn, mI_rs, mJ_row, mJ_k, mJ_s, mJ_I, mJ_D, mJ_F, mJ_rI, mJ_rn, mJ_rs, c7_I, c7_J])
    by_cases hti : t = i
    · subst hti
      exact ⟨0, j, by omega, hj, by simp (disch := omega) only [mI_row, mI_k, mI_s, mI_J, mI_D, mI_F, mI_rJ, mI_rn, mI_rs, mJ_row, mJ_k, mJ_s, mJ_I, mJ_D, mJ_F, mJ_rI, mJ_rn, mJ_rs, c7_I, c7_J]; rfl, by simp (disch := omega) only [mI_row, mI_k, mI_s, mI_J, mI_D, mI_F, mI_rJ, mI_rn, mI_rs, mJ_row, mJ_k, mJ_s, mJ_I, mJ_D, mJ_F, mJ_rI, mJ_rn, mJ_rs, c7_I, c7_J]; rfl, by simp (disch := omega) only [mI_row, mI_k, mI_s, mI_J, mI_D, mI_F, mI_rJ, mI_rn, mI_rs, mJ_row, mJ_k, mJ_s, mJ_I, mJ_D, mJ_F, mJ_rI, mJ_rn, mJ_rs, c7_I, c7_J], by simp (disch := omega) only [mI_row, mI_k, mI_s, mI_J, mI_D, mI_F, mI_rJ, mI_rn, mI_rs, mJ_row, mJ_k, mJ_s, mJ_I, mJ_D, mJ_F, mJ_rI, mJ_rn, mJ_rs, c7_I, c7_J], ⟨fun z hz => absurd hz (by omega), fun z hz => absurd hz (by omega)⟩, fun z hz => absurd hz (by omega)⟩
    · simp (disch := omega) only [mI_row, mI_k, mI_s, mI_J, mI_D, mI_F, mI_rJ, mI_rn, mI_rs, mJ_row, mJ_k, mJ_s, mJ_I, mJ_D, mJ_F, mJ_rI, mJ_rn, mJ_rs, c7_I, c7_J]
      exact hT t ht
theorem br_eq {M N : Mem} {i k o : Nat} {b r : Int32} (hi : i < 3) (hk : k ≤ 4) (e1 : mI M (12 + 3 * i) 2 = nI k) (e2 : ∀ j, j < k → mI M (12 + 3 * i + 1) j = mI N 104 (4 * i + j)) : bOk M i b r ↔ brOk N i k b r := by
  unfold bOk brOk alwB
  rw [e1]
  by_cases h0 : k = 0
  · subst h0
    simp only [show nI 0 = (0 : Int32) from rfl, decide_true, Bool.true_or, Bool.and_true, Bool.and_eq_true, decide_eq_true_eq, true_or, true_and, Int32.not_lt]
  · rw [sb1 (by omega), clN (by omega), e2 (k - 1) (by omega), show 4 * i + (k - 1) = 4 * i + k - 1 by omega]
    simp only [nI_ne0 (n := k) (by omega) (by omega), h0, decide_false, Bool.false_or, Bool.and_eq_true, decide_eq_true_eq, false_or, Int32.not_lt, Int32.not_le, and_assoc]
theorem s_bracket {M : Mem} (h : Inv M) {x b r : Int32} {Q : PQ} {X : PX} (hQ : ∀ (rv : Int32) M1, MidI T_mBracket [.ref 96, .int x, .int b, .int r] rv M1 → Q (some (.int rv)) M1) (hX : ∀ E c M1, (E, c) ∈ [("java/util/NoSuchElementException", (1 : Int32)), ("java/lang/IllegalArgumentException", (2 : Int32)), ("java/lang/IllegalStateException", (3 : Int32))] → MidX T_mBracket [.ref 96, .int x, .int b, .int r] (.int 0) c M1 → X E M1) : T_bracket [.ref 0, .int x, .int b, .int r] M Q X := by
  have h0 := h
  obtain ⟨hF, hP, hL, hT, hO, hR, hA, hN⟩ := h
  refine ⟨x, b, r, rfl, hF, fun q => hX _ 1 _ List.mem_cons_self (fun Q2 X2 k => ?_), fun i hi ei => ?_⟩
  · exact ⟨x, b, r, rfl, hF, fun _ => k _ (h0.same hF (fun a _ _ _ _ => by unfold thr; simp (disch := omega) only [mI_row, mI_k, mI_s, mI_J, mI_D, mI_F, mI_rJ, mI_rn, mI_rs, mJ_row, mJ_k, mJ_s, mJ_I, mJ_D, mJ_F, mJ_rI, mJ_rn, mJ_rs, c7_I, c7_J]) (fun k hk => by unfold thr; simp (disch := omega) only [mI_row, mI_k, mI_s, mI_J, mI_D, mI_F, mI_rJ, mI_rn, mI_rs, mJ_row, mJ_k, mJ_s, mJ_I, mJ_D, mJ_F, mJ_rI, mJ_rn, mJ_rs, c7_I, c7_J]) (fun a _ _ _ _ => by unfold thr; simp (disch := omega) only [mI_row, mI_k, mI_s, mI_J, mI_D, mI_F, mI_rJ, mI_rn, mI_rs, mJ_row, mJ_k, mJ_s, mJ_I, mJ_D, mJ_F, mJ_rI, mJ_rn, mJ_rs, c7_I, c7_J])) mI_s, fun i hi ei => absurd ⟨i, hi, ei⟩ q⟩
  obtain ⟨k, o, t1, t2, t3, t4, t5, t6, t7, t8⟩ := hT i hi
  have eb : bOk M i b r ↔ brOk M i k b r := br_eq (o := o) hi t1 t3 (fun j hj => (t8 j hj).1)
  refine ⟨k, t1, t3, fun q => hX _ 2 _ (List.mem_cons_of_mem _ List.mem_cons_self) (fun Q2 X2 kk => ?_), fun q1 q2 => hX _ 3 _ (List.mem_cons_of_mem _ (List.mem_cons_of_mem _ List.mem_cons_self)) (fun Q2 X2 kk => ?_), fun q1 q2 => hQ _ _ (fun Q2 X2 kk => ?_)⟩
  · refine ⟨x, b, r, rfl, hF, fun z => absurd ⟨i, hi, ei⟩ z, fun j hj ej => ?_⟩
    have hij := nI_same hi hj (by decide) ei ej
    subst hij
    exact ⟨k, t1, t4, fun _ => kk _ (h0.same hF (fun a _ _ _ _ => by unfold thr; simp (disch := omega) only [mI_row, mI_k, mI_s, mI_J, mI_D, mI_F, mI_rJ, mI_rn, mI_rs, mJ_row, mJ_k, mJ_s, mJ_I, mJ_D, mJ_F, mJ_rI, mJ_rn, mJ_rs, c7_I, c7_J]) (fun k hk => by unfold thr; simp (disch := omega) only [mI_row, mI_k, mI_s, mI_J, mI_D, mI_F, mI_rJ, mI_rn, mI_rs, mJ_row, mJ_k, mJ_s, mJ_I, mJ_D, mJ_F, mJ_rI, mJ_rn, mJ_rs, c7_I, c7_J]) (fun a _ _ _ _ => by unfold thr; simp (disch := omega) only [mI_row, mI_k, mI_s, mI_J, mI_D, mI_F, mI_rJ, mI_rn, mI_rs, mJ_row, mJ_k, mJ_s, mJ_I, mJ_D, mJ_F, mJ_rI, mJ_rn, mJ_rs, c7_I, c7_J])) mI_s, fun z => absurd (eb.mpr z) q, fun z => absurd (eb.mpr z) q⟩
  · refine ⟨x, b, r, rfl, hF, fun z => absurd ⟨i, hi, ei⟩ z, fun j hj ej => ?_⟩
    have hij := nI_same hi hj (by decide) ei ej
    subst hij
    exact ⟨k, t1, t4, fun z => absurd (eb.mp q1) z, fun _ _ => kk _ (h0.same hF (fun a _ _ _ _ => by unfold thr; simp (disch := omega) only [mI_row, mI_k, mI_s, mI_J, mI_D, mI_F, mI_rJ, mI_rn, mI_rs, mJ_row, mJ_k, mJ_s, mJ_I, mJ_D, mJ_F, mJ_rI, mJ_rn, mJ_rs, c7_I, c7_J]) (fun k hk => by unfold thr; simp (disch := omega) only [mI_row, mI_k, mI_s, mI_J, mI_D, mI_F, mI_rJ, mI_rn, mI_rs, mJ_row, mJ_k, mJ_s, mJ_I, mJ_D, mJ_F, mJ_rI, mJ_rn, mJ_rs, c7_I, c7_J]) (fun a _ _ _ _ => by unfold thr; simp (disch := omega) only [mI_row, mI_k, mI_s, mI_J, mI_D, mI_F, mI_rJ, mI_rn, mI_rs, mJ_row, mJ_k, mJ_s, mJ_I, mJ_D, mJ_F, mJ_rI, mJ_rn, mJ_rs, c7_I, c7_J])) mI_s, fun _ z => absurd q2 (by omega)⟩
  · refine ⟨x, b, r, rfl, hF, fun z => absurd ⟨i, hi, ei⟩ z, fun j hj ej => ?_⟩
    have hij := nI_same hi hj (by decide) ei ej
    subst hij
    have ea : appB M (12 + 3 * i) b r = sI (sI (sI M (12 + 3 * i + 1) k b) (12 + 3 * i + 2) k r) (12 + 3 * i) 2 (nI (k + 1)) := by
      unfold appB
      rw [t3, clN (by omega), nI_1]
    rw [ea]
    have eb2 : bOk M i b r ↔ brOk (sJ (sI (sI (sI M (12 + 3 * i + 1) k b) (12 + 3 * i + 2) k r) (12 + 3 * i) 2 (nI (k + 1))) 122 0 (nI (k + 1)).toInt64) i k b r := br_eq (o := o) hi t1 t3 (fun j hj => by simp (disch := omega) only [mI_row, mI_k, mI_s, mI_J, mI_D, mI_F, mI_rJ, mI_rn, mI_rs, mJ_row, mJ_k, mJ_s, mJ_I, mJ_D, mJ_F, mJ_rI, mJ_rn, mJ_rs, c7_I, c7_J]; exact (t8 j hj).1)
    refine ⟨k, t1, by simp (disch := omega) only [mI_row, mI_k, mI_s, mI_J, mI_D, mI_F, mI_rJ, mI_rn, mI_rs, mJ_row, mJ_k, mJ_s, mJ_I, mJ_D, mJ_F, mJ_rI, mJ_rn, mJ_rs, c7_I, c7_J]; exact t4, fun z => absurd (eb2.mp q1) z, fun _ z => absurd q2 (by omega), fun _ _ => kk _ ?_ (by simp (disch := omega) only [mI_row, mI_k, mI_s, mI_J, mI_D, mI_F, mI_rJ, mI_rn, mI_rs, mJ_row, mJ_k, mJ_s, mJ_I, mJ_D, mJ_F, mJ_rI, mJ_rn, mJ_rs, c7_I, c7_J]) (by simp (disch := omega) only [mI_row, mI_k, mI_s, mI_J, mI_D, mI_F, mI_rJ, mI_rn, mI_rs, mJ_row, mJ_k, mJ_s, mJ_I, mJ_D, mJ_F, mJ_rI, mJ_rn, mJ_rs, c7_I, c7_J])⟩
    refine ⟨hF, hP.same (fun a ha => by simp (disch := omega) only [mI_row, mI_k, mI_s, mI_J, mI_D, mI_F, mI_rJ, mI_rn, mI_rs, mJ_row, mJ_k, mJ_s, mJ_I, mJ_D, mJ_F, mJ_rI, mJ_rn, mJ_rs, c7_I, c7_J]) (by simp (disch := omega) only [mI_row, mI_k, mI_s, mI_J, mI_D, mI_F, mI_rJ, mI_rn, mI_rs, mJ_row, mJ_k, mJ_s, mJ_I, mJ_D, mJ_F, mJ_rI, mJ_rn, mJ_rs, c7_I, c7_J]), hL.same (fun a ha => by simp (disch := omega) only [mI_row, mI_k, mI_s, mI_J, mI_D, mI_F, mI_rJ, mI_rn, mI_rs, mJ_row, mJ_k, mJ_s, mJ_I, mJ_D, mJ_F, mJ_rI, mJ_rn, mJ_rs, c7_I, c7_J]), fun t ht => ?_, hO.same (by simp (disch := omega) only [mI_row, mI_k, mI_s, mI_J, mI_D, mI_F, mI_rJ, mI_rn, mI_rs, mJ_row, mJ_k, mJ_s, mJ_I, mJ_D, mJ_F, mJ_rI, mJ_rn, mJ_rs, c7_I, c7_J]) (by simp (disch := omega) only [mI_row, mI_k, mI_s, mI_J, mI_D, mI_F, mI_rJ, mI_rn, mI_rs, mJ_row, mJ_k, mJ_s, mJ_I, mJ_D, mJ_F, mJ_rI, mJ_rn, mJ_rs, c7_I, c7_J]) (by simp (disch := omega) only [mI_row, mI_k, mI_s, mI_J, mI_D, mI_F, mI_rJ, mI_rn, mI_rs, mJ_row, mJ_k, mJ_s, mJ_I, mJ_D, mJ_F, mJ_rI, mJ_rn, mJ_rs, c7_I, c7_J]), hR.same (fun a ha => by simp (disch := omega) only [mI_row, mI_k, mI_s, mI_J, mI_D, mI_F, mI_rJ, mI_rn, mI_rs, mJ_row, mJ_k, mJ_s, mJ_I, mJ_D, mJ_F, mJ_rI, mJ_rn, mJ_rs, c7_I, c7_J]) (fun a ha => by simp (disch := omega) only [mI_row, mI_k, mI_s, mI_J, mI_D, mI_F, mI_rJ, mI_rn, mI_rs, mJ_row, mJ_k, mJ_s, mJ_I, mJ_D, mJ_F, mJ_rI, mJ_rn, mJ_rs, c7_I, c7_J]), hA.same (fun a ha => by simp (disch := omega) only [mI_row, mI_k, mI_s, mI_J, mI_D, mI_F, mI_rJ, mI_rn, mI_rs, mJ_row, mJ_k, mJ_s, mJ_I, mJ_D, mJ_F, mJ_rI, mJ_rn, mJ_rs, c7_I, c7_J]) (fun a ha => by simp (disch := omega) only [mI_row, mI_k, mI_s, mI_J, mI_D, mI_F, mI_rJ, mI_rn, mI_rs, mJ_row, mJ_k, mJ_s, mJ_I, mJ_D, mJ_F, mJ_rI, mJ_rn, mJ_rs, c7_I, c7_J]), hN.same (by simp (disch := omega) only [mI_row, mI_k, mI_s, mI_J, mI_D, mI_F, mI_rJ, mI_rn, mI_rs, mJ_row, mJ_k, mJ_s, mJ_I, mJ_D, mJ_F, mJ_rI, mJ_rn, mJ_rs, c7_I, c7_J])⟩
    by_cases hti : t = i
    · subst hti
      obtain ⟨⟨b1, b2⟩, b3, b4⟩ := eb.mp q1
      have g1 : 0 ≤ b.toInt ∧ b.toInt ≤ 1000000000 ∧ 0 ≤ r.toInt ∧ r.toInt ≤ 1000 := by
        rw [Int32.lt_iff_toInt_lt] at b1 b2 b4
        have b5 := b4.2
        have b6 := b4.1
        rw [Int32.lt_iff_toInt_lt] at b5
        have w1 : (0 : Int32).toInt = 0 := by decide
        have w2 : (1000000000 : Int32).toInt = 1000000000 := by decide
        have w3 : (1000 : Int32).toInt = 1000 := by decide
        rw [w1] at b1 b6
        rw [w2] at b2
        rw [w3] at b5
        omega
      refine ⟨k + 1, o, by omega, t2, by simp (disch := omega) only [mI_row, mI_k, mI_s, mI_J, mI_D, mI_F, mI_rJ, mI_rn, mI_rs, mJ_row, mJ_k, mJ_s, mJ_I, mJ_D, mJ_F, mJ_rI, mJ_rn, mJ_rs, c7_I, c7_J], by simp (disch := omega) only [mI_row, mI_k, mI_s, mI_J, mI_D, mI_F, mI_rJ, mI_rn, mI_rs, mJ_row, mJ_k, mJ_s, mJ_I, mJ_D, mJ_F, mJ_rI, mJ_rn, mJ_rs, c7_I, c7_J], by simp (disch := omega) only [mI_row, mI_k, mI_s, mI_J, mI_D, mI_F, mI_rJ, mI_rn, mI_rs, mJ_row, mJ_k, mJ_s, mJ_I, mJ_D, mJ_F, mJ_rI, mJ_rn, mJ_rs, c7_I, c7_J]; exact t5, by simp (disch := omega) only [mI_row, mI_k, mI_s, mI_J, mI_D, mI_F, mI_rJ, mI_rn, mI_rs, mJ_row, mJ_k, mJ_s, mJ_I, mJ_D, mJ_F, mJ_rI, mJ_rn, mJ_rs, c7_I, c7_J]; exact t6, ⟨fun j hj => ?_, fun j hj => ?_⟩, fun j hj => ?_⟩
      · by_cases hjk : j = k
        · subst hjk
          simp (disch := omega) only [mI_row, mI_k, mI_s, mI_J, mI_D, mI_F, mI_rJ, mI_rn, mI_rs, mJ_row, mJ_k, mJ_s, mJ_I, mJ_D, mJ_F, mJ_rI, mJ_rn, mJ_rs, c7_I, c7_J]
          exact g1
        · simp (disch := omega) only [mI_row, mI_k, mI_s, mI_J, mI_D, mI_F, mI_rJ, mI_rn, mI_rs, mJ_row, mJ_k, mJ_s, mJ_I, mJ_D, mJ_F, mJ_rI, mJ_rn, mJ_rs, c7_I, c7_J]
          exact t7.1 j (by omega)
      · by_cases hjk : j + 1 = k
        · subst hjk
          simp (disch := omega) only [mI_row, mI_k, mI_s, mI_J, mI_D, mI_F, mI_rJ, mI_rn, mI_rs, mJ_row, mJ_k, mJ_s, mJ_I, mJ_D, mJ_F, mJ_rI, mJ_rn, mJ_rs, c7_I, c7_J]
          rcases b3 with z | z
          · omega
          · rw [show 4 * t + (j + 1) - 1 = 4 * t + j by omega] at z
            have z2 : mI M (12 + 3 * t + 1) j = mI M 104 (4 * t + j) := (t8 j (by omega)).1
            rw [← z2] at z
            exact Int32.lt_iff_toInt_lt.mp z
        · simp (disch := omega) only [mI_row, mI_k, mI_s, mI_J, mI_D, mI_F, mI_rJ, mI_rn, mI_rs, mJ_row, mJ_k, mJ_s, mJ_I, mJ_D, mJ_F, mJ_rI, mJ_rn, mJ_rs, c7_I, c7_J]
          exact t7.2 j (by omega)
      · by_cases hjk : j = k
        · subst hjk
          simp (disch := omega) only [mI_row, mI_k, mI_s, mI_J, mI_D, mI_F, mI_rJ, mI_rn, mI_rs, mJ_row, mJ_k, mJ_s, mJ_I, mJ_D, mJ_F, mJ_rI, mJ_rn, mJ_rs, c7_I, c7_J]
          exact ⟨trivial, trivial⟩
        · simp (disch := omega) only [mI_row, mI_k, mI_s, mI_J, mI_D, mI_F, mI_rJ, mI_rn, mI_rs, mJ_row, mJ_k, mJ_s, mJ_I, mJ_D, mJ_F, mJ_rI, mJ_rn, mJ_rs, c7_I, c7_J]
          exact t8 j (by omega)
    · obtain ⟨k', o', u1, u2, u3, u4, u5, u6, u7, u8⟩ := hT t ht
      refine ⟨k', o', u1, u2, by simp (disch := omega) only [mI_row, mI_k, mI_s, mI_J, mI_D, mI_F, mI_rJ, mI_rn, mI_rs, mJ_row, mJ_k, mJ_s, mJ_I, mJ_D, mJ_F, mJ_rI, mJ_rn, mJ_rs, c7_I, c7_J]; exact u3, by simp (disch := omega) only [mI_row, mI_k, mI_s, mI_J, mI_D, mI_F, mI_rJ, mI_rn, mI_rs, mJ_row, mJ_k, mJ_s, mJ_I, mJ_D, mJ_F, mJ_rI, mJ_rn, mJ_rs, c7_I, c7_J]; exact u4, by simp (disch := omega) only [mI_row, mI_k, mI_s, mI_J, mI_D, mI_F, mI_rJ, mI_rn, mI_rs, mJ_row, mJ_k, mJ_s, mJ_I, mJ_D, mJ_F, mJ_rI, mJ_rn, mJ_rs, c7_I, c7_J]; exact u5, by simp (disch := omega) only [mI_row, mI_k, mI_s, mI_J, mI_D, mI_F, mI_rJ, mI_rn, mI_rs, mJ_row, mJ_k, mJ_s, mJ_I, mJ_D, mJ_F, mJ_rI, mJ_rn, mJ_rs, c7_I, c7_J]; exact u6, by simp (disch := omega) only [mI_row, mI_k, mI_s, mI_J, mI_D, mI_F, mI_rJ, mI_rn, mI_rs, mJ_row, mJ_k, mJ_s, mJ_I, mJ_D, mJ_F, mJ_rI, mJ_rn, mJ_rs, c7_I, c7_J]; exact u7, fun j hj => ?_⟩
      simp (disch := omega) only [mI_row, mI_k, mI_s, mI_J, mI_D, mI_F, mI_rJ, mI_rn, mI_rs, mJ_row, mJ_k, mJ_s, mJ_I, mJ_D, mJ_F, mJ_rI, mJ_rn, mJ_rs, c7_I, c7_J]
      exact u8 j hj
theorem nd_eq {M : Mem} (hL : IL M) : ∀ k, k < 12 → mI M 4 k = ndM M k := by
  intro k hk
  obtain ⟨len, n, l1, l2, l3, l4, l5, l6⟩ := hL k hk
  unfold ndM
  rcases l6 with ⟨z1, z2, z3⟩ | ⟨z1, z2, z3, z4⟩
  · rw [if_pos z1, z3]
  · rw [if_neg (by rw [z1]; decide), z3]
theorem rdy_cg {f g : Nat → Int32} (h : ∀ k, k < 12 → f k = g k) (m : Int32) : ∀ k, k < 12 → rdy f m k = rdy g m k := by
  intro k hk
  unfold rdy
  rw [h k hk]
theorem ordL_cg {f g : Nat → Int32} (h : ∀ k, k < 12 → f k = g k) : ∀ (n : Nat) (m : Int32), ordL f n m = ordL g n m
  | 0, _ => rfl
  | n + 1, m => by
    rw [ordL_succ, ordL_succ, lowF_congr (f := rdy f m) (g := rdy g m) 12 0 (fun j _ hj => rdy_cg h m j (by omega)), ordL_cg h n]
theorem ord_eq {M N : Mem} (hL : IL M) (h1 : mI N 98 = mI M 98) (h2 : mI N 99 = mI M 99) : ordM N = ordC M := by
  unfold ordM ordC
  refine ordL_cg (fun k hk => ?_) 12 0
  rw [nd_eq hL k hk]
  unfold ndM
  rw [h1, h2]
theorem s_order {M : Mem} (h : Inv M) {x : Int32} {Q : PQ} {X : PX} (hQ : ∀ (rv : Int32) M1, MidI T_mOrder [.ref 96, .int x] rv M1 → Q (some (.int rv)) M1) (hX : ∀ E c M1, (E, c) ∈ [("java/lang/IllegalArgumentException", (1 : Int32)), ("java/lang/IllegalStateException", (2 : Int32))] → MidX T_mOrder [.ref 96, .int x] (.int 0) c M1 → X E M1) : T_order [.ref 0, .int x] M Q X := by
  have h0 := h
  obtain ⟨hF, hP, hL, hT, hO, hR, hA, hN⟩ := h
  refine ⟨x, rfl, hF, fun q => hX _ 1 _ List.mem_cons_self (fun Q2 X2 k => ?_), fun i hi ei => ⟨fun q => hX _ 2 _ (List.mem_cons_of_mem _ List.mem_cons_self) (fun Q2 X2 k => ?_), fun q => hQ _ _ (fun Q2 X2 k => ?_)⟩⟩
  · exact ⟨x, rfl, hF, fun _ => k _ (h0.same hF (fun a _ _ _ _ => by unfold thr; simp (disch := omega) only [mI_row, mI_k, mI_s, mI_J, mI_D, mI_F, mI_rJ, mI_rn, mI_rs, mJ_row, mJ_k, mJ_s, mJ_I, mJ_D, mJ_F, mJ_rI, mJ_rn, mJ_rs, c7_I, c7_J]) (fun k hk => by unfold thr; simp (disch := omega) only [mI_row, mI_k, mI_s, mI_J, mI_D, mI_F, mI_rJ, mI_rn, mI_rs, mJ_row, mJ_k, mJ_s, mJ_I, mJ_D, mJ_F, mJ_rI, mJ_rn, mJ_rs, c7_I, c7_J]) (fun a _ _ _ _ => by unfold thr; simp (disch := omega) only [mI_row, mI_k, mI_s, mI_J, mI_D, mI_F, mI_rJ, mI_rn, mI_rs, mJ_row, mJ_k, mJ_s, mJ_I, mJ_D, mJ_F, mJ_rI, mJ_rn, mJ_rs, c7_I, c7_J])) mI_s, fun i hi ei => absurd ⟨i, hi, ei⟩ q⟩
  · have eo : ordM (arrM M) = ordC M := ord_eq hL (by unfold arrM; simp (disch := omega) only [mI_row, mI_k, mI_s, mI_J, mI_D, mI_F, mI_rJ, mI_rn, mI_rs, mJ_row, mJ_k, mJ_s, mJ_I, mJ_D, mJ_F, mJ_rI, mJ_rn, mJ_rs, c7_I, c7_J]) (by unfold arrM; simp (disch := omega) only [mI_row, mI_k, mI_s, mI_J, mI_D, mI_F, mI_rJ, mI_rn, mI_rs, mJ_row, mJ_k, mJ_s, mJ_I, mJ_D, mJ_F, mJ_rI, mJ_rn, mJ_rs, c7_I, c7_J])
    refine ⟨x, rfl, hF, fun z => absurd ⟨i, hi, ei⟩ z, fun j hj ej => ?_⟩
    have hij := nI_same hi hj (by decide) ei ej
    subst hij
    rw [eo]
    exact ⟨fun _ => k _ (h0.same hF (fun a _ _ _ _ => by unfold plM arrM; simp (disch := omega) only [mI_row, mI_k, mI_s, mI_J, mI_D, mI_F, mI_rJ, mI_rn, mI_rs, mJ_row, mJ_k, mJ_s, mJ_I, mJ_D, mJ_F, mJ_rI, mJ_rn, mJ_rs, c7_I, c7_J]) (fun k hk => by unfold plM arrM; simp (disch := omega) only [mI_row, mI_k, mI_s, mI_J, mI_D, mI_F, mI_rJ, mI_rn, mI_rs, mJ_row, mJ_k, mJ_s, mJ_I, mJ_D, mJ_F, mJ_rI, mJ_rn, mJ_rs, c7_I, c7_J]) (fun a _ _ _ _ => by unfold plM arrM; simp (disch := omega) only [mI_row, mI_k, mI_s, mI_J, mI_D, mI_F, mI_rJ, mI_rn, mI_rs, mJ_row, mJ_k, mJ_s, mJ_I, mJ_D, mJ_F, mJ_rI, mJ_rn, mJ_rs, c7_I, c7_J])) mI_s, fun z => absurd q (by omega)⟩
  · refine ⟨x, rfl, hF, fun z => absurd ⟨i, hi, ei⟩ z, fun j hj ej => ?_⟩
    have hij := nI_same hi hj (by decide) ei ej
    subst hij
    have eo : ∀ v, ordM (sJ (arrM M) 122 0 v) = ordC M := fun v => ord_eq hL (by unfold arrM; simp (disch := omega) only [mI_row, mI_k, mI_s, mI_J, mI_D, mI_F, mI_rJ, mI_rn, mI_rs, mJ_row, mJ_k, mJ_s, mJ_I, mJ_D, mJ_F, mJ_rI, mJ_rn, mJ_rs, c7_I, c7_J]) (by unfold arrM; simp (disch := omega) only [mI_row, mI_k, mI_s, mI_J, mI_D, mI_F, mI_rJ, mI_rn, mI_rs, mJ_row, mJ_k, mJ_s, mJ_I, mJ_D, mJ_F, mJ_rI, mJ_rn, mJ_rs, c7_I, c7_J])
    rw [eo]
    exact ⟨fun z => absurd q (by omega), fun _ => k _ (h0.same hF (fun a _ _ _ _ => by unfold plM arrM; simp (disch := omega) only [mI_row, mI_k, mI_s, mI_J, mI_D, mI_F, mI_rJ, mI_rn, mI_rs, mJ_row, mJ_k, mJ_s, mJ_I, mJ_D, mJ_F, mJ_rI, mJ_rn, mJ_rs, c7_I, c7_J]) (fun k hk => by unfold plM arrM; simp (disch := omega) only [mI_row, mI_k, mI_s, mI_J, mI_D, mI_F, mI_rJ, mI_rn, mI_rs, mJ_row, mJ_k, mJ_s, mJ_I, mJ_D, mJ_F, mJ_rI, mJ_rn, mJ_rs, c7_I, c7_J]) (fun a _ _ _ _ => by unfold plM arrM; simp (disch := omega) only [mI_row, mI_k, mI_s, mI_J, mI_D, mI_F, mI_rJ, mI_rn, mI_rs, mJ_row, mJ_k, mJ_s, mJ_I, mJ_D, mJ_F, mJ_rI, mJ_rn, mJ_rs, c7_I, c7_J])) (by unfold plM; simp (disch := omega) only [mI_row, mI_k, mI_s, mI_J, mI_D, mI_F, mI_rJ, mI_rn, mI_rs, mJ_row, mJ_k, mJ_s, mJ_I, mJ_D, mJ_F, mJ_rI, mJ_rn, mJ_rs, c7_I, c7_J]) (by unfold plM; simp (disch := omega) only [mI_row, mI_k, mI_s, mI_J, mI_D, mI_F, mI_rJ, mI_rn, mI_rs, mJ_row, mJ_k, mJ_s, mJ_I, mJ_D, mJ_F, mJ_rI, mJ_rn, mJ_rs, c7_I, c7_J])⟩
