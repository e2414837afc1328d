/-! RETURNS AND ACCOUNTS -/
theorem s_file {M : Mem} (h : Inv M) {t y z v : Int32} {Q : PQ} {X : PX} (hQ : ∀ (rv : Int32) M1, MidI T_mFile [.ref 96, .int t, .int y, .int z, .int v] rv M1 → Q (some (.int rv)) M1) (hX : ∀ E c M1, (E, c) ∈ [("java/util/NoSuchElementException", (1 : Int32)), ("java/lang/IllegalArgumentException", (2 : Int32))] → MidX T_mFile [.ref 96, .int t, .int y, .int z, .int v] (.int 0) c M1 → X E M1) : T_file [.ref 0, .int t, .int y, .int z, .int v] M Q X := by
  have h0 := h
  obtain ⟨hF, hP, hL, hT, hO, hR, hA, hN⟩ := h
  refine ⟨t, y, z, v, rfl, hF, fun q => hX _ 1 _ List.mem_cons_self (fun Q2 X2 k => ?_), fun i j l hi hj hl ei ej el => ?_⟩
  · exact ⟨t, y, z, v, rfl, hF, fun _ => k _ (h0.same hF (fun a _ _ _ _ => by unfold thr; simp (disch := omega) only [mI_row, mI_k, mI_s, mI_J, mI_D, mI_F, mI_rJ, mI_rn, mI_rs, mJ_row, mJ_k, mJ_s, mJ_I, mJ_D, mJ_F, mJ_rI, mJ_rn, mJ_rs, c7_I, c7_J]) (fun k hk => by unfold thr; simp (disch := omega) only [mI_row, mI_k, mI_s, mI_J, mI_D, mI_F, mI_rJ, mI_rn, mI_rs, mJ_row, mJ_k, mJ_s, mJ_I, mJ_D, mJ_F, mJ_rI, mJ_rn, mJ_rs, c7_I, c7_J]) (fun a _ _ _ _ => by unfold thr; simp (disch := omega) only [mI_row, mI_k, mI_s, mI_J, mI_D, mI_F, mI_rJ, mI_rn, mI_rs, mJ_row, mJ_k, mJ_s, mJ_I, mJ_D, mJ_F, mJ_rI, mJ_rn, mJ_rs, c7_I, c7_J])) mI_s, (fun i j l hi hj hl ei ej el => absurd ⟨⟨i, hi, ei⟩, ⟨j, hj, ej⟩, ⟨l, hl, el⟩⟩ q)⟩
  have hfo := (fo_eq hL l hl).2
  refine ⟨fun q => hX _ 2 _ (List.mem_cons_of_mem _ List.mem_cons_self) (fun Q2 X2 k => ?_), fun q1 q2 q3 => hQ _ _ (fun Q2 X2 k => ?_)⟩
  · refine ⟨t, y, z, v, rfl, hF, fun q => absurd ⟨⟨i, hi, ei⟩, ⟨j, hj, ej⟩, ⟨l, hl, el⟩⟩ q, fun i' j' l' hi' hj' hl' ei' ej' el' => ?_⟩
    have a1 := nI_same hi hi' (by decide) ei ei'
    subst a1
    have a1 := nI_same hj hj' (by decide) ej ej'
    subst a1
    have a1 := nI_same hl hl' (by decide) el el'
    subst a1
    refine ⟨fun _ => k _ (h0.same hF (fun a _ _ _ _ => by unfold thr; simp (disch := omega) only [mI_row, mI_k, mI_s, mI_J, mI_D, mI_F, mI_rJ, mI_rn, mI_rs, mJ_row, mJ_k, mJ_s, mJ_I, mJ_D, mJ_F, mJ_rI, mJ_rn, mJ_rs, c7_I, c7_J]) (fun k hk => by unfold thr; simp (disch := omega) only [mI_row, mI_k, mI_s, mI_J, mI_D, mI_F, mI_rJ, mI_rn, mI_rs, mJ_row, mJ_k, mJ_s, mJ_I, mJ_D, mJ_F, mJ_rI, mJ_rn, mJ_rs, c7_I, c7_J]) (fun a _ _ _ _ => by unfold thr; simp (disch := omega) only [mI_row, mI_k, mI_s, mI_J, mI_D, mI_F, mI_rJ, mI_rn, mI_rs, mJ_row, mJ_k, mJ_s, mJ_I, mJ_D, mJ_F, mJ_rI, mJ_rn, mJ_rs, c7_I, c7_J])) mI_s, fun z1 z2 z3 => ?_⟩
    exfalso
    rw [hfo, bi_0] at z1
    rcases q with q | q | q
    · rw [z1] at q; exact absurd q (by decide)
    · exact z2 q
    · exact z3 q
  · refine ⟨t, y, z, v, rfl, hF, fun q => absurd ⟨⟨i, hi, ei⟩, ⟨j, hj, ej⟩, ⟨l, hl, el⟩⟩ q, fun i' j' l' hi' hj' hl' ei' ej' el' => ?_⟩
    have a1 := nI_same hi hi' (by decide) ei ei'
    subst a1
    have a1 := nI_same hj hj' (by decide) ej ej'
    subst a1
    have a1 := nI_same hl hl' (by decide) el el'
    subst a1
    have hf0 : mI M 98 l = 0 := by rw [hfo, q1]; rfl
    refine ⟨fun w => ?_, fun _ _ _ => ?_⟩
    · exfalso
      rcases w with w | w | w
      · exact w (by simp (disch := omega) only [mI_row, mI_k, mI_s, mI_J, mI_D, mI_F, mI_rJ, mI_rn, mI_rs, mJ_row, mJ_k, mJ_s, mJ_I, mJ_D, mJ_F, mJ_rI, mJ_rn, mJ_rs, c7_I, c7_J]; exact hf0)
      · exact q2 w
      · exact q3 w
    have hr : ∀ w, mI (sJ (sI M (48 + 3 * (4 * i + j) + 1) l v) 122 0 w) 107 (12 * (4 * i + j) + l) = mI M (48 + 3 * (4 * i + j) + 1) l := fun w => by
      simp (disch := omega) only [mI_row, mI_k, mI_s, mI_J, mI_D, mI_F, mI_rJ, mI_rn, mI_rs, mJ_row, mJ_k, mJ_s, mJ_I, mJ_D, mJ_F, mJ_rI, mJ_rn, mJ_rs, c7_I, c7_J]
      exact ((hR (4 * i + j) (by omega)).1 l hl).1.symm
    rw [hr]
    refine k _ ⟨hF, hP.same (fun a ha => by simp (disch := omega) only [mI_row, mI_k, mI_s, mI_J, mI_D, mI_F, mI_rJ, mI_rn, mI_rs, mJ_row, mJ_k, mJ_s, mJ_I, mJ_D, mJ_F, mJ_rI, mJ_rn, mJ_rs, c7_I, c7_J]) (by simp (disch := omega) only [mI_row, mI_k, mI_s, mI_J, mI_D, mI_F, mI_rJ, mI_rn, mI_rs, mJ_row, mJ_k, mJ_s, mJ_I, mJ_D, mJ_F, mJ_rI, mJ_rn, mJ_rs, c7_I, c7_J]), hL.same (fun a ha => by simp (disch := omega) only [mI_row, mI_k, mI_s, mI_J, mI_D, mI_F, mI_rJ, mI_rn, mI_rs, mJ_row, mJ_k, mJ_s, mJ_I, mJ_D, mJ_F, mJ_rI, mJ_rn, mJ_rs, c7_I, c7_J]), hT.same (fun a ha => by simp (disch := omega) only [mI_row, mI_k, mI_s, mI_J, mI_D, mI_F, mI_rJ, mI_rn, mI_rs, mJ_row, mJ_k, mJ_s, mJ_I, mJ_D, mJ_F, mJ_rI, mJ_rn, mJ_rs, c7_I, c7_J]), hO.same (by simp (disch := omega) only [mI_row, mI_k, mI_s, mI_J, mI_D, mI_F, mI_rJ, mI_rn, mI_rs, mJ_row, mJ_k, mJ_s, mJ_I, mJ_D, mJ_F, mJ_rI, mJ_rn, mJ_rs, c7_I, c7_J]) (by simp (disch := omega) only [mI_row, mI_k, mI_s, mI_J, mI_D, mI_F, mI_rJ, mI_rn, mI_rs, mJ_row, mJ_k, mJ_s, mJ_I, mJ_D, mJ_F, mJ_rI, mJ_rn, mJ_rs, c7_I, c7_J]) (by simp (disch := omega) only [mI_row, mI_k, mI_s, mI_J, mI_D, mI_F, mI_rJ, mI_rn, mI_rs, mJ_row, mJ_k, mJ_s, mJ_I, mJ_D, mJ_F, mJ_rI, mJ_rn, mJ_rs, c7_I, c7_J]), fun q hq => ?_, hA.same (fun a ha => by simp (disch := omega) only [mI_row, mI_k, mI_s, mI_J, mI_D, mI_F, mI_rJ, mI_rn, mI_rs, mJ_row, mJ_k, mJ_s, mJ_I, mJ_D, mJ_F, mJ_rI, mJ_rn, mJ_rs, c7_I, c7_J]) (fun a ha => by simp (disch := omega) only [mI_row, mI_k, mI_s, mI_J, mI_D, mI_F, mI_rJ, mI_rn, mI_rs, mJ_row, mJ_k, mJ_s, mJ_I, mJ_D, mJ_F, mJ_rI, mJ_rn, mJ_rs, c7_I, c7_J]), hN.same (by simp (disch := omega) only [mI_row, mI_k, mI_s, mI_J, mI_D, mI_F, mI_rJ, mI_rn, mI_rs, mJ_row, mJ_k, mJ_s, mJ_I, mJ_D, mJ_F, mJ_rI, mJ_rn, mJ_rs, c7_I, c7_J])⟩ (by simp (disch := omega) only [mI_row, mI_k, mI_s, mI_J, mI_D, mI_F, mI_rJ, mI_rn, mI_rs, mJ_row, mJ_k, mJ_s, mJ_I, mJ_D, mJ_F, mJ_rI, mJ_rn, mJ_rs, c7_I, c7_J]) (by simp (disch := omega) only [mI_row, mI_k, mI_s, mI_J, mI_D, mI_F, mI_rJ, mI_rn, mI_rs, mJ_row, mJ_k, mJ_s, mJ_I, mJ_D, mJ_F, mJ_rI, mJ_rn, mJ_rs, c7_I, c7_J])
    obtain ⟨r1, r2⟩ := hR q hq
    refine ⟨fun k' hk' => ?_, ?_⟩
    · by_cases hqq : q = 4 * i + j
      · subst hqq
        by_cases hkl : k' = l
        · subst hkl
          simp (disch := omega) only [mI_row, mI_k, mI_s, mI_J, mI_D, mI_F, mI_rJ, mI_rn, mI_rs, mJ_row, mJ_k, mJ_s, mJ_I, mJ_D, mJ_F, mJ_rI, mJ_rn, mJ_rs, c7_I, c7_J]
          exact ⟨trivial, q2, q3⟩
        · simp (disch := omega) only [mI_row, mI_k, mI_s, mI_J, mI_D, mI_F, mI_rJ, mI_rn, mI_rs, mJ_row, mJ_k, mJ_s, mJ_I, mJ_D, mJ_F, mJ_rI, mJ_rn, mJ_rs, c7_I, c7_J]
          exact r1 k' hk'
      · simp (disch := omega) only [mI_row, mI_k, mI_s, mI_J, mI_D, mI_F, mI_rJ, mI_rn, mI_rs, mJ_row, mJ_k, mJ_s, mJ_I, mJ_D, mJ_F, mJ_rI, mJ_rn, mJ_rs, c7_I, c7_J]
        exact r1 k' hk'
    · simp (disch := omega) only [mI_row, mI_k, mI_s, mI_J, mI_D, mI_F, mI_rJ, mI_rn, mI_rs, mJ_row, mJ_k, mJ_s, mJ_I, mJ_D, mJ_F, mJ_rI, mJ_rn, mJ_rs, c7_I, c7_J]
      exact r2
theorem s_value {M : Mem} (h : Inv M) {t y z : Int32} {Q : PQ} {X : PX} (hQ : ∀ (rv : Int64) M1, MidJ T_mValue [.ref 96, .int t, .int y, .int z] rv M1 → Q (some (.long rv)) M1) (hX : ∀ E c M1, (E, c) ∈ [("java/util/NoSuchElementException", (1 : Int32)), ("java/lang/IllegalStateException", (2 : Int32))] → MidX T_mValue [.ref 96, .int t, .int y, .int z] (.long 0) c M1 → X E M1) : T_value [.ref 0, .int t, .int y, .int z] M Q X := by
  have h0 := h
  obtain ⟨hF, hP, hL, hT, hO, hR, hA, hN⟩ := h
  refine ⟨t, y, z, rfl, hF, fun q => hX _ 1 _ List.mem_cons_self (fun Q2 X2 k => ?_), fun i j l hi hj hl ei ej el => ?_⟩
  · exact ⟨t, y, z, rfl, hF, fun _ => k _ (h0.same hF (fun a _ _ _ _ => by unfold thr; simp (disch := omega) only [mI_row, mI_k, mI_s, mI_J, mI_D, mI_F, mI_rJ, mI_rn, mI_rs, mJ_row, mJ_k, mJ_s, mJ_I, mJ_D, mJ_F, mJ_rI, mJ_rn, mJ_rs, c7_I, c7_J]) (fun k hk => by unfold thr; simp (disch := omega) only [mI_row, mI_k, mI_s, mI_J, mI_D, mI_F, mI_rJ, mI_rn, mI_rs, mJ_row, mJ_k, mJ_s, mJ_I, mJ_D, mJ_F, mJ_rI, mJ_rn, mJ_rs, c7_I, c7_J]) (fun a _ _ _ _ => by unfold thr; simp (disch := omega) only [mI_row, mI_k, mI_s, mI_J, mI_D, mI_F, mI_rJ, mI_rn, mI_rs, mJ_row, mJ_k, mJ_s, mJ_I, mJ_D, mJ_F, mJ_rI, mJ_rn, mJ_rs, c7_I, c7_J])) mI_s, (fun i j l hi hj hl ei ej el => absurd ⟨⟨i, hi, ei⟩, ⟨j, hj, ej⟩, ⟨l, hl, el⟩⟩ q)⟩
  obtain ⟨r1, r2⟩ := hR (4 * i + j) (by omega)
  refine ⟨fun q => hX _ 2 _ (List.mem_cons_of_mem _ List.mem_cons_self) (fun Q2 X2 k => ?_), fun q => hQ _ _ (fun Q2 X2 k => ?_)⟩
  · refine ⟨t, y, z, rfl, hF, fun q => absurd ⟨⟨i, hi, ei⟩, ⟨j, hj, ej⟩, ⟨l, hl, el⟩⟩ q, fun i' j' l' hi' hj' hl' ei' ej' el' => ?_⟩
    have a1 := nI_same hi hi' (by decide) ei ei'
    subst a1
    have a1 := nI_same hj hj' (by decide) ej ej'
    subst a1
    have a1 := nI_same hl hl' (by decide) el el'
    subst a1
    rcases r2 with ⟨w1, w2, w3⟩ | ⟨w1, w2, w3⟩
    · exact ⟨fun _ => k _ (h0.same hF (fun a _ _ _ _ => by unfold thr; simp (disch := omega) only [mI_row, mI_k, mI_s, mI_J, mI_D, mI_F, mI_rJ, mI_rn, mI_rs, mJ_row, mJ_k, mJ_s, mJ_I, mJ_D, mJ_F, mJ_rI, mJ_rn, mJ_rs, c7_I, c7_J]) (fun k hk => by unfold thr; simp (disch := omega) only [mI_row, mI_k, mI_s, mI_J, mI_D, mI_F, mI_rJ, mI_rn, mI_rs, mJ_row, mJ_k, mJ_s, mJ_I, mJ_D, mJ_F, mJ_rI, mJ_rn, mJ_rs, c7_I, c7_J]) (fun a _ _ _ _ => by unfold thr; simp (disch := omega) only [mI_row, mI_k, mI_s, mI_J, mI_D, mI_F, mI_rJ, mI_rn, mI_rs, mJ_row, mJ_k, mJ_s, mJ_I, mJ_D, mJ_F, mJ_rI, mJ_rn, mJ_rs, c7_I, c7_J])) mI_s, fun w => absurd w2 w⟩
    · rw [w1] at q; exact absurd q (by decide)
  · refine ⟨t, y, z, rfl, hF, fun q => absurd ⟨⟨i, hi, ei⟩, ⟨j, hj, ej⟩, ⟨l, hl, el⟩⟩ q, fun i' j' l' hi' hj' hl' ei' ej' el' => ?_⟩
    have a1 := nI_same hi hi' (by decide) ei ei'
    subst a1
    have a1 := nI_same hj hj' (by decide) ej ej'
    subst a1
    have a1 := nI_same hl hl' (by decide) el el'
    subst a1
    rcases r2 with ⟨w1, w2, w3⟩ | ⟨w1, w2, w3, w4⟩
    · exact absurd w1 q
    · refine ⟨fun w => ?_, fun _ => ?_⟩
      · exfalso
        rw [show mI (sJ M 122 0 (mJ M (48 + 3 * (4 * i + j) + 2) l)) 108 (4 * i + j) = mI M 108 (4 * i + j) by simp (disch := omega) only [mI_row, mI_k, mI_s, mI_J, mI_D, mI_F, mI_rJ, mI_rn, mI_rs, mJ_row, mJ_k, mJ_s, mJ_I, mJ_D, mJ_F, mJ_rI, mJ_rn, mJ_rs, c7_I, c7_J], w2] at w
        exact absurd w (by decide)
      · rw [show mJ (sJ M 122 0 (mJ M (48 + 3 * (4 * i + j) + 2) l)) 109 (12 * (4 * i + j) + l) = mJ M (48 + 3 * (4 * i + j) + 2) l by simp (disch := omega) only [mI_row, mI_k, mI_s, mI_J, mI_D, mI_F, mI_rJ, mI_rn, mI_rs, mJ_row, mJ_k, mJ_s, mJ_I, mJ_D, mJ_F, mJ_rI, mJ_rn, mJ_rs, c7_I, c7_J]; exact (w4 l hl).1.symm]
        exact k _ (h0.same hF (fun a _ _ _ _ => by simp (disch := omega) only [mI_row, mI_k, mI_s, mI_J, mI_D, mI_F, mI_rJ, mI_rn, mI_rs, mJ_row, mJ_k, mJ_s, mJ_I, mJ_D, mJ_F, mJ_rI, mJ_rn, mJ_rs, c7_I, c7_J]) (fun k hk => by simp (disch := omega) only [mI_row, mI_k, mI_s, mI_J, mI_D, mI_F, mI_rJ, mI_rn, mI_rs, mJ_row, mJ_k, mJ_s, mJ_I, mJ_D, mJ_F, mJ_rI, mJ_rn, mJ_rs, c7_I, c7_J]) (fun a _ _ _ _ => by simp (disch := omega) only [mI_row, mI_k, mI_s, mI_J, mI_D, mI_F, mI_rJ, mI_rn, mI_rs, mJ_row, mJ_k, mJ_s, mJ_I, mJ_D, mJ_F, mJ_rI, mJ_rn, mJ_rs, c7_I, c7_J])) (by simp (disch := omega) only [mI_row, mI_k, mI_s, mI_J, mI_D, mI_F, mI_rJ, mI_rn, mI_rs, mJ_row, mJ_k, mJ_s, mJ_I, mJ_D, mJ_F, mJ_rI, mJ_rn, mJ_rs, c7_I, c7_J]) (by simp (disch := omega) only [mI_row, mI_k, mI_s, mI_J, mI_D, mI_F, mI_rJ, mI_rn, mI_rs, mJ_row, mJ_k, mJ_s, mJ_I, mJ_D, mJ_F, mJ_rI, mJ_rn, mJ_rs, c7_I, c7_J])
theorem dc0_n : vf_n64 FP.dconst0 := by unfold vf_n64; decide +kernel
theorem dd_n {a b : Int64} (h : ¬ b = 0) : vf_n64 (FP.ddiv (FP.l2d a) (FP.l2d b)) := Fl.ddiv_out (Fl.l2d_fin a).noNaN (Fl.l2d_fin b) (Fl.l2d_nz h)
theorem mI_sD {M : Mem} {a k : Nat} {v : UInt64} : mI (sD M a k v) = mI M := rfl
theorem mD_I {M : Mem} {a k : Nat} {v : Int32} : mD (sI M a k v) = mD M := rfl
theorem mD_s {M : Mem} {a k : Nat} {v : UInt64} : mD (sD M a k v) a k = v := if_pos ⟨rfl, rfl⟩
theorem s_share {M : Mem} (h : Inv M) {t y z : Int32} {Q : PQ} {X : PX} (hQ : ∀ (rv : UInt64) M1, MidD T_mShare [.ref 96, .int t, .int y, .int z] rv M1 → Q (some (.double rv)) M1) (hX : ∀ E c M1, (E, c) ∈ [("java/util/NoSuchElementException", (1 : Int32)), ("java/lang/IllegalStateException", (2 : Int32))] → MidX T_mShare [.ref 96, .int t, .int y, .int z] (.double FP.dconst0) c M1 → X E M1) : T_share [.ref 0, .int t, .int y, .int z] M Q X := by
  have h0 := h
  obtain ⟨hF, hP, hL, hT, hO, hR, hA, hN⟩ := h
  refine ⟨t, y, z, rfl, hF, fun q => hX _ 1 _ List.mem_cons_self (fun Q2 X2 k => ?_), fun i j l hi hj hl ei ej el => ?_⟩
  · exact ⟨t, y, z, rfl, hF, fun _ => k _ (h0.same hF (fun a _ _ _ _ => by unfold thr; simp (disch := omega) only [mI_row, mI_k, mI_s, mI_J, mI_D, mI_F, mI_rJ, mI_rn, mI_rs, mJ_row, mJ_k, mJ_s, mJ_I, mJ_D, mJ_F, mJ_rI, mJ_rn, mJ_rs, c7_I, c7_J]) (fun k hk => by unfold thr; simp (disch := omega) only [mI_row, mI_k, mI_s, mI_J, mI_D, mI_F, mI_rJ, mI_rn, mI_rs, mJ_row, mJ_k, mJ_s, mJ_I, mJ_D, mJ_F, mJ_rI, mJ_rn, mJ_rs, c7_I, c7_J]) (fun a _ _ _ _ => by unfold thr; simp (disch := omega) only [mI_row, mI_k, mI_s, mI_J, mI_D, mI_F, mI_rJ, mI_rn, mI_rs, mJ_row, mJ_k, mJ_s, mJ_I, mJ_D, mJ_F, mJ_rI, mJ_rn, mJ_rs, c7_I, c7_J])) mI_s, (fun i j l hi hj hl ei ej el => absurd ⟨⟨i, hi, ei⟩, ⟨j, hj, ej⟩, ⟨l, hl, el⟩⟩ q)⟩
  obtain ⟨r1, r2⟩ := hR (4 * i + j) (by omega)
  refine ⟨fun q => hX _ 2 _ (List.mem_cons_of_mem _ List.mem_cons_self) (fun Q2 X2 k => ?_), fun q1 q2 => hQ _ _ ⟨dc0_n, fun Q2 X2 k => ?_⟩, fun q1 q2 => ⟨dd_n q2, hQ _ _ ⟨dd_n q2, fun Q2 X2 k => ?_⟩⟩⟩
  · refine ⟨t, y, z, rfl, hF, fun q => absurd ⟨⟨i, hi, ei⟩, ⟨j, hj, ej⟩, ⟨l, hl, el⟩⟩ q, fun i' j' l' hi' hj' hl' ei' ej' el' => ?_⟩
    have a1 := nI_same hi hi' (by decide) ei ei'
    subst a1
    have a1 := nI_same hj hj' (by decide) ej ej'
    subst a1
    have a1 := nI_same hl hl' (by decide) el el'
    subst a1
    rcases r2 with ⟨w1, w2, w3⟩ | ⟨w1, w2, w3⟩
    · exact ⟨fun _ => k _ (h0.same hF (fun a _ _ _ _ => by unfold thr; simp (disch := omega) only [mI_row, mI_k, mI_s, mI_J, mI_D, mI_F, mI_rJ, mI_rn, mI_rs, mJ_row, mJ_k, mJ_s, mJ_I, mJ_D, mJ_F, mJ_rI, mJ_rn, mJ_rs, c7_I, c7_J]) (fun k hk => by unfold thr; simp (disch := omega) only [mI_row, mI_k, mI_s, mI_J, mI_D, mI_F, mI_rJ, mI_rn, mI_rs, mJ_row, mJ_k, mJ_s, mJ_I, mJ_D, mJ_F, mJ_rI, mJ_rn, mJ_rs, c7_I, c7_J]) (fun a _ _ _ _ => by unfold thr; simp (disch := omega) only [mI_row, mI_k, mI_s, mI_J, mI_D, mI_F, mI_rJ, mI_rn, mI_rs, mJ_row, mJ_k, mJ_s, mJ_I, mJ_D, mJ_F, mJ_rI, mJ_rn, mJ_rs, c7_I, c7_J])) mI_s, fun w => absurd w2 w, fun w => absurd w2 w⟩
    · rw [w1] at q; exact absurd q (by decide)
  · refine ⟨t, y, z, rfl, hF, fun q => absurd ⟨⟨i, hi, ei⟩, ⟨j, hj, ej⟩, ⟨l, hl, el⟩⟩ q, fun i' j' l' hi' hj' hl' ei' ej' el' => ?_⟩
    have a1 := nI_same hi hi' (by decide) ei ei'
    subst a1
    have a1 := nI_same hj hj' (by decide) ej ej'
    subst a1
    have a1 := nI_same hl hl' (by decide) el el'
    subst a1
    rcases r2 with ⟨w1, w2, w3⟩ | ⟨w1, w2, w3, w4⟩
    · exact absurd w1 q1
    · rw [w3] at q2
      refine ⟨fun w => ?_, fun _ _ => ?_, fun _ w => absurd q2 w⟩
      · exfalso
        rw [mI_sD, w2] at w
        exact absurd w (by decide)
      · exact k _ (h0.same hF (fun a _ _ _ _ => by simp (disch := omega) only [mI_row, mI_k, mI_s, mI_J, mI_D, mI_F, mI_rJ, mI_rn, mI_rs, mJ_row, mJ_k, mJ_s, mJ_I, mJ_D, mJ_F, mJ_rI, mJ_rn, mJ_rs, c7_I, c7_J]) (fun k hk => by simp (disch := omega) only [mI_row, mI_k, mI_s, mI_J, mI_D, mI_F, mI_rJ, mI_rn, mI_rs, mJ_row, mJ_k, mJ_s, mJ_I, mJ_D, mJ_F, mJ_rI, mJ_rn, mJ_rs, c7_I, c7_J]) (fun a _ _ _ _ => by simp (disch := omega) only [mI_row, mI_k, mI_s, mI_J, mI_D, mI_F, mI_rJ, mI_rn, mI_rs, mJ_row, mJ_k, mJ_s, mJ_I, mJ_D, mJ_F, mJ_rI, mJ_rn, mJ_rs, c7_I, c7_J])) (by simp (disch := omega) only [mI_row, mI_k, mI_s, mI_J, mI_D, mI_F, mI_rJ, mI_rn, mI_rs, mJ_row, mJ_k, mJ_s, mJ_I, mJ_D, mJ_F, mJ_rI, mJ_rn, mJ_rs, c7_I, c7_J]) (by rw [mD_I, mD_s])
  · refine ⟨t, y, z, rfl, hF, fun q => absurd ⟨⟨i, hi, ei⟩, ⟨j, hj, ej⟩, ⟨l, hl, el⟩⟩ q, fun i' j' l' hi' hj' hl' ei' ej' el' => ?_⟩
    have a1 := nI_same hi hi' (by decide) ei ei'
    subst a1
    have a1 := nI_same hj hj' (by decide) ej ej'
    subst a1
    have a1 := nI_same hl hl' (by decide) el el'
    subst a1
    rcases r2 with ⟨w1, w2, w3⟩ | ⟨w1, w2, w3, w4⟩
    · exact absurd w1 q1
    · rw [(w4 l hl).1, w3]
      have q3 := q2
      rw [w3] at q3
      refine ⟨fun w => ?_, fun _ w => absurd w q3, fun _ _ => ⟨dd_n q3, ?_⟩⟩
      · exfalso
        rw [mI_sD, w2] at w
        exact absurd w (by decide)
      · rw [(w4 l hl).1, w3] at k
        exact k _ (h0.same hF (fun a _ _ _ _ => by simp (disch := omega) only [mI_row, mI_k, mI_s, mI_J, mI_D, mI_F, mI_rJ, mI_rn, mI_rs, mJ_row, mJ_k, mJ_s, mJ_I, mJ_D, mJ_F, mJ_rI, mJ_rn, mJ_rs, c7_I, c7_J]) (fun k hk => by simp (disch := omega) only [mI_row, mI_k, mI_s, mI_J, mI_D, mI_F, mI_rJ, mI_rn, mI_rs, mJ_row, mJ_k, mJ_s, mJ_I, mJ_D, mJ_F, mJ_rI, mJ_rn, mJ_rs, c7_I, c7_J]) (fun a _ _ _ _ => by simp (disch := omega) only [mI_row, mI_k, mI_s, mI_J, mI_D, mI_F, mI_rJ, mI_rn, mI_rs, mJ_row, mJ_k, mJ_s, mJ_I, mJ_D, mJ_F, mJ_rI, mJ_rn, mJ_rs, c7_I, c7_J])) (by simp (disch := omega) only [mI_row, mI_k, mI_s, mI_J, mI_D, mI_F, mI_rJ, mI_rn, mI_rs, mJ_row, mJ_k, mJ_s, mJ_I, mJ_D, mJ_F, mJ_rI, mJ_rn, mJ_rs, c7_I, c7_J]) (by rw [mD_I, mD_s])
theorem sumV_cg {f g : Nat → Int64} : ∀ (p : Nat), (∀ j, j < p → f j = g j) → sumV f p = sumV g p
  | 0, _ => rfl
  | p + 1, h => by rw [sumV, sumV, sumV_cg p (fun j hj => h j (by omega)), h p (by omega)]
section
variable {n nM n' nM' : Int32} {s s' : Int64} {kd yr kM yM kd' yr' kM' yM' : Nat → Int32} {am aM am' aM' : Nat → Int64} {p : Nat}
/-- a posting behind the others, on both sides -/
theorem IAcc.post (h : IAcc n s kd yr am nM kM yM aM) (hp : n = nI p) (h24 : p < 24) (e1 : n' = nI (p + 1)) (e2 : nM' = nI (p + 1)) (e3 : s' = s + aM' p) (f1 : ∀ j, j < p → kd' j = kd j ∧ yr' j = yr j ∧ am' j = am j) (f2 : ∀ j, j < p → kM' j = kM j ∧ yM' j = yM j ∧ aM' j = aM j) (g : kd' p = kM' p ∧ yr' p = yM' p ∧ am' p = aM' p) : IAcc n' s' kd' yr' am' nM' kM' yM' aM' := by
  obtain ⟨p', a1, a2, a3, a4, a5⟩ := h
  have hpp : p' = p := (nI_eq (by omega) (by omega)).mp (a2.symm.trans hp)
  subst hpp
  refine ⟨p' + 1, by omega, e1, e2, ?_, fun j hj => ?_⟩
  · rw [e3, a4, sumV, sumV_cg (f := aM') (g := aM) p' (fun j hj => (f2 j hj).2.2)]
  · by_cases hjp : j = p'
    · subst hjp; exact g
    · obtain ⟨b1, b2, b3⟩ := f1 j (by omega)
      obtain ⟨c1, c2, c3⟩ := f2 j (by omega)
      obtain ⟨d1, d2, d3⟩ := a5 j (by omega)
      exact ⟨by rw [b1, c1, d1], by rw [b2, c2, d2], by rw [b3, c3, d3]⟩
theorem IAcc.cg (h : IAcc n s kd yr am nM kM yM aM) (e : nM' = nM) (f : ∀ j, j < 24 → kM' j = kM j ∧ yM' j = yM j ∧ aM' j = aM j) : IAcc n s kd yr am nM' kM' yM' aM' := by
  obtain ⟨p, a1, a2, a3, a4, a5⟩ := h
  refine ⟨p, a1, a2, by rw [e, a3], ?_, fun j hj => ?_⟩
  · rw [a4]
    exact sumV_cg p (fun j hj => (f j (by omega)).2.2.symm)
  · obtain ⟨c1, c2, c3⟩ := f j (by omega)
    obtain ⟨d1, d2, d3⟩ := a5 j hj
    exact ⟨by rw [c1, d1], by rw [c2, d2], by rw [c3, d3]⟩
end
theorem posA_eq {M : Mem} {a p : Nat} {kd yr : Int32} {v : Int64} (e : mI M a 3 = nI p) (hp : p < 24) : posA M a kd yr v = sJ (sI (sJ (sI (sI M (a + 1) p kd) (a + 2) p yr) (a + 3) p v) a 3 (nI (p + 1))) a 4 (mJ M a 4 + v) := by
  unfold posA
  rw [e, clN (by omega), nI_1]
theorem neg_eq {v : Int32} (h1 : ¬ v < 1) (h2 : ¬ 1000000000 < v) : (-v).toInt64 = -v.toInt64 := by
  rw [Int32.lt_iff_toInt_lt] at h1 h2
  have w1 : (1 : Int32).toInt = 1 := by decide
  have w2 : (1000000000 : Int32).toInt = 1000000000 := by decide
  rw [w1] at h1
  rw [w2] at h2
  apply Int64.toInt_inj.mp
  rw [Int32.toInt_toInt64, Int64.toInt_neg, Int32.toInt_neg, Int32.toInt_toInt64, bm64 (by omega) (by omega), Int.bmod_eq_of_le (by omega) (by omega)]
theorem s_pay {M : Mem} (h : Inv M) {x v : Int32} {Q : PQ} {X : PX} (hQ : ∀ (rv : Int64) M1, MidJ T_mPay [.ref 96, .int x, .int v] rv M1 → Q (some (.long rv)) M1) (hX : ∀ E c M1, (E, c) ∈ [("java/util/NoSuchElementException", (1 : Int32)), ("java/lang/IllegalArgumentException", (2 : Int32)), ("java/lang/IllegalStateException", (3 : Int32))] → MidX T_mPay [.ref 96, .int x, .int v] (.long 0) c M1 → X E M1) : T_pay [.ref 0, .int x, .int v] M Q X := by
  have h0 := h
  obtain ⟨hF, hP, hL, hT, hO, hR, hA, hN⟩ := h
  refine ⟨x, v, rfl, hF, fun q => hX _ 1 _ List.mem_cons_self (fun Q2 X2 k => ?_), fun i hi ei => ?_⟩
  · exact ⟨x, v, rfl, hF, fun _ => k _ (h0.same hF (fun a _ _ _ _ => by unfold thr; simp (disch := omega) only [mI_row, mI_k, mI_s, mI_J, mI_D, mI_F, mI_rJ, mI_rn, mI_rs, mJ_row, mJ_k, mJ_s, mJ_I, mJ_D, mJ_F, mJ_rI, mJ_rn, mJ_rs, c7_I, c7_J]) (fun k hk => by unfold thr; simp (disch := omega) only [mI_row, mI_k, mI_s, mI_J, mI_D, mI_F, mI_rJ, mI_rn, mI_rs, mJ_row, mJ_k, mJ_s, mJ_I, mJ_D, mJ_F, mJ_rI, mJ_rn, mJ_rs, c7_I, c7_J]) (fun a _ _ _ _ => by unfold thr; simp (disch := omega) only [mI_row, mI_k, mI_s, mI_J, mI_D, mI_F, mI_rJ, mI_rn, mI_rs, mJ_row, mJ_k, mJ_s, mJ_I, mJ_D, mJ_F, mJ_rI, mJ_rn, mJ_rs, c7_I, c7_J])) mI_s, fun i hi ei => absurd ⟨i, hi, ei⟩ q⟩
  have hac := hA i hi
  obtain ⟨p, a1, a2, a3, a4, a5⟩ := hA i hi
  refine ⟨p, a1, a2, fun q => hX _ 2 _ (List.mem_cons_of_mem _ List.mem_cons_self) (fun Q2 X2 k => ?_), fun q1 q2 q3 => hX _ 3 _ (List.mem_cons_of_mem _ (List.mem_cons_of_mem _ List.mem_cons_self)) (fun Q2 X2 k => ?_), fun q1 q2 q3 => hQ _ _ (fun Q2 X2 k => ?_)⟩
  · refine ⟨x, v, rfl, hF, fun z => absurd ⟨i, hi, ei⟩ z, fun j hj ej => ?_⟩
    have hij := nI_same hi hj (by decide) ei ej
    subst hij
    exact ⟨p, a1, a3, fun _ => k _ (h0.same hF (fun a _ _ _ _ => by unfold thr; simp (disch := omega) only [mI_row, mI_k, mI_s, mI_J, mI_D, mI_F, mI_rJ, mI_rn, mI_rs, mJ_row, mJ_k, mJ_s, mJ_I, mJ_D, mJ_F, mJ_rI, mJ_rn, mJ_rs, c7_I, c7_J]) (fun k hk => by unfold thr; simp (disch := omega) only [mI_row, mI_k, mI_s, mI_J, mI_D, mI_F, mI_rJ, mI_rn, mI_rs, mJ_row, mJ_k, mJ_s, mJ_I, mJ_D, mJ_F, mJ_rI, mJ_rn, mJ_rs, c7_I, c7_J]) (fun a _ _ _ _ => by unfold thr; simp (disch := omega) only [mI_row, mI_k, mI_s, mI_J, mI_D, mI_F, mI_rJ, mI_rn, mI_rs, mJ_row, mJ_k, mJ_s, mJ_I, mJ_D, mJ_F, mJ_rI, mJ_rn, mJ_rs, c7_I, c7_J])) mI_s, fun z1 z2 => (q.elim z1 z2).elim, fun z1 z2 => (q.elim z1 z2).elim⟩
  · refine ⟨x, v, rfl, hF, fun z => absurd ⟨i, hi, ei⟩ z, fun j hj ej => ?_⟩
    have hij := nI_same hi hj (by decide) ei ej
    subst hij
    exact ⟨p, a1, a3, fun z => (z.elim q1 q2).elim, fun _ _ _ => k _ (h0.same hF (fun a _ _ _ _ => by unfold thr; simp (disch := omega) only [mI_row, mI_k, mI_s, mI_J, mI_D, mI_F, mI_rJ, mI_rn, mI_rs, mJ_row, mJ_k, mJ_s, mJ_I, mJ_D, mJ_F, mJ_rI, mJ_rn, mJ_rs, c7_I, c7_J]) (fun k hk => by unfold thr; simp (disch := omega) only [mI_row, mI_k, mI_s, mI_J, mI_D, mI_F, mI_rJ, mI_rn, mI_rs, mJ_row, mJ_k, mJ_s, mJ_I, mJ_D, mJ_F, mJ_rI, mJ_rn, mJ_rs, c7_I, c7_J]) (fun a _ _ _ _ => by unfold thr; simp (disch := omega) only [mI_row, mI_k, mI_s, mI_J, mI_D, mI_F, mI_rJ, mI_rn, mI_rs, mJ_row, mJ_k, mJ_s, mJ_I, mJ_D, mJ_F, mJ_rI, mJ_rn, mJ_rs, c7_I, c7_J])) mI_s, fun _ _ z => absurd q3 (by omega)⟩
  · refine ⟨x, v, rfl, hF, fun z => absurd ⟨i, hi, ei⟩ z, fun j hj ej => ?_⟩
    have hij := nI_same hi hj (by decide) ei ej
    subst hij
    rw [neg_eq q1 q2] at k ⊢
    rw [posA_eq a2 q3]
    refine ⟨p, a1, by simp (disch := omega) only [mI_row, mI_k, mI_s, mI_J, mI_D, mI_F, mI_rJ, mI_rn, mI_rs, mJ_row, mJ_k, mJ_s, mJ_I, mJ_D, mJ_F, mJ_rI, mJ_rn, mJ_rs, c7_I, c7_J]; exact a3, fun z => (z.elim q1 q2).elim, fun _ _ z => absurd q3 (by omega), fun _ _ _ => ?_⟩
    have es : ∀ N : Mem, mJ N 114 = mJ M 114 → sumV (fun k => mJ (mPost (sI N 96 0 0) i p 1 (-1) (-v.toInt64)) 114 (24 * i + k)) (p + 1) = mJ M (84 + 4 * i) 4 + -v.toInt64 := by
      intro N hN
      unfold mPost
      rw [sumV, a4]
      congr 1
      · refine sumV_cg p (fun j hj => ?_)
        show mJ (sI (sJ (sI (sI (sI N 96 0 0) 112 (24 * i + p) 1) 113 (24 * i + p) (-1)) 114 (24 * i + p) (-v.toInt64)) 111 i (nI (p + 1))) 114 (24 * i + j) = mJ M 114 (24 * i + j)
        rw [mJ_I, mJ_k (by omega), mJ_I, mJ_I, mJ_I, hN]
      · simp (disch := omega) only [mI_row, mI_k, mI_s, mI_J, mI_D, mI_F, mI_rJ, mI_rn, mI_rs, mJ_row, mJ_k, mJ_s, mJ_I, mJ_D, mJ_F, mJ_rI, mJ_rn, mJ_rs, c7_I, c7_J]
    rw [es _ (by simp (disch := omega) only [mI_row, mI_k, mI_s, mI_J, mI_D, mI_F, mI_rJ, mI_rn, mI_rs, mJ_row, mJ_k, mJ_s, mJ_I, mJ_D, mJ_F, mJ_rI, mJ_rn, mJ_rs, c7_I, c7_J])]
    unfold mPost
    refine k _ ⟨hF, hP.same (fun a ha => by simp (disch := omega) only [mI_row, mI_k, mI_s, mI_J, mI_D, mI_F, mI_rJ, mI_rn, mI_rs, mJ_row, mJ_k, mJ_s, mJ_I, mJ_D, mJ_F, mJ_rI, mJ_rn, mJ_rs, c7_I, c7_J]) (by simp (disch := omega) only [mI_row, mI_k, mI_s, mI_J, mI_D, mI_F, mI_rJ, mI_rn, mI_rs, mJ_row, mJ_k, mJ_s, mJ_I, mJ_D, mJ_F, mJ_rI, mJ_rn, mJ_rs, c7_I, c7_J]), hL.same (fun a ha => by simp (disch := omega) only [mI_row, mI_k, mI_s, mI_J, mI_D, mI_F, mI_rJ, mI_rn, mI_rs, mJ_row, mJ_k, mJ_s, mJ_I, mJ_D, mJ_F, mJ_rI, mJ_rn, mJ_rs, c7_I, c7_J]), hT.same (fun a ha => by simp (disch := omega) only [mI_row, mI_k, mI_s, mI_J, mI_D, mI_F, mI_rJ, mI_rn, mI_rs, mJ_row, mJ_k, mJ_s, mJ_I, mJ_D, mJ_F, mJ_rI, mJ_rn, mJ_rs, c7_I, c7_J]), hO.same (by simp (disch := omega) only [mI_row, mI_k, mI_s, mI_J, mI_D, mI_F, mI_rJ, mI_rn, mI_rs, mJ_row, mJ_k, mJ_s, mJ_I, mJ_D, mJ_F, mJ_rI, mJ_rn, mJ_rs, c7_I, c7_J]) (by simp (disch := omega) only [mI_row, mI_k, mI_s, mI_J, mI_D, mI_F, mI_rJ, mI_rn, mI_rs, mJ_row, mJ_k, mJ_s, mJ_I, mJ_D, mJ_F, mJ_rI, mJ_rn, mJ_rs, c7_I, c7_J]) (by simp (disch := omega) only [mI_row, mI_k, mI_s, mI_J, mI_D, mI_F, mI_rJ, mI_rn, mI_rs, mJ_row, mJ_k, mJ_s, mJ_I, mJ_D, mJ_F, mJ_rI, mJ_rn, mJ_rs, c7_I, c7_J]), hR.same (fun a ha => by simp (disch := omega) only [mI_row, mI_k, mI_s, mI_J, mI_D, mI_F, mI_rJ, mI_rn, mI_rs, mJ_row, mJ_k, mJ_s, mJ_I, mJ_D, mJ_F, mJ_rI, mJ_rn, mJ_rs, c7_I, c7_J]) (fun a ha => by simp (disch := omega) only [mI_row, mI_k, mI_s, mI_J, mI_D, mI_F, mI_rJ, mI_rn, mI_rs, mJ_row, mJ_k, mJ_s, mJ_I, mJ_D, mJ_F, mJ_rI, mJ_rn, mJ_rs, c7_I, c7_J]), fun t ht => ?_, hN.same (by simp (disch := omega) only [mI_row, mI_k, mI_s, mI_J, mI_D, mI_F, mI_rJ, mI_rn, mI_rs, mJ_row, mJ_k, mJ_s, mJ_I, mJ_D, mJ_F, mJ_rI, mJ_rn, mJ_rs, c7_I, c7_J])⟩ (by simp (disch := omega) only [mI_row, mI_k, mI_s, mI_J, mI_D, mI_F, mI_rJ, mI_rn, mI_rs, mJ_row, mJ_k, mJ_s, mJ_I, mJ_D, mJ_F, mJ_rI, mJ_rn, mJ_rs, c7_I, c7_J]) (by simp (disch := omega) only [mI_row, mI_k, mI_s, mI_J, mI_D, mI_F, mI_rJ, mI_rn, mI_rs, mJ_row, mJ_k, mJ_s, mJ_I, mJ_D, mJ_F, mJ_rI, mJ_rn, mJ_rs, c7_I, c7_J])
    by_cases hti : t = i
    · subst hti
      refine hac.post a2 q3 (by simp (disch := omega) only [mI_row, mI_k, mI_s, mI_J, mI_D, mI_F, mI_rJ, mI_rn, mI_rs, mJ_row, mJ_k, mJ_s, mJ_I, mJ_D, mJ_F, mJ_rI, mJ_rn, mJ_rs, c7_I, c7_J]) (by simp (disch := omega) only [mI_row, mI_k, mI_s, mI_J, mI_D, mI_F, mI_rJ, mI_rn, mI_rs, mJ_row, mJ_k, mJ_s, mJ_I, mJ_D, mJ_F, mJ_rI, mJ_rn, mJ_rs, c7_I, c7_J]) (by simp (disch := omega) only [mI_row, mI_k, mI_s, mI_J, mI_D, mI_F, mI_rJ, mI_rn, mI_rs, mJ_row, mJ_k, mJ_s, mJ_I, mJ_D, mJ_F, mJ_rI, mJ_rn, mJ_rs, c7_I, c7_J]) (fun j hj => ?_) (fun j hj => ?_) ?_
      · simp (disch := omega) only [mI_row, mI_k, mI_s, mI_J, mI_D, mI_F, mI_rJ, mI_rn, mI_rs, mJ_row, mJ_k, mJ_s, mJ_I, mJ_D, mJ_F, mJ_rI, mJ_rn, mJ_rs, c7_I, c7_J]
        exact ⟨trivial, trivial, trivial⟩
      · simp (disch := omega) only [mI_row, mI_k, mI_s, mI_J, mI_D, mI_F, mI_rJ, mI_rn, mI_rs, mJ_row, mJ_k, mJ_s, mJ_I, mJ_D, mJ_F, mJ_rI, mJ_rn, mJ_rs, c7_I, c7_J]
        exact ⟨trivial, trivial, trivial⟩
      · simp (disch := omega) only [mI_row, mI_k, mI_s, mI_J, mI_D, mI_F, mI_rJ, mI_rn, mI_rs, mJ_row, mJ_k, mJ_s, mJ_I, mJ_D, mJ_F, mJ_rI, mJ_rn, mJ_rs, c7_I, c7_J]
        exact ⟨trivial, trivial, trivial⟩
    · have e1 : ∀ a, a = 84 + 4 * t ∨ a = 84 + 4 * t + 1 ∨ a = 84 + 4 * t + 2 ∨ a = 84 + 4 * t + 3 → (84 + 4 * i ≠ a ∧ 84 + 4 * i + 1 ≠ a ∧ 84 + 4 * i + 2 ≠ a ∧ 84 + 4 * i + 3 ≠ a) := by omega
      simp (disch := omega) only [mI_row, mI_k, mI_s, mI_J, mI_D, mI_F, mI_rJ, mI_rn, mI_rs, mJ_row, mJ_k, mJ_s, mJ_I, mJ_D, mJ_F, mJ_rI, mJ_rn, mJ_rs, c7_I, c7_J]
      refine (hA t ht).cg rfl (fun j hj => ?_)
      simp (disch := omega) only [mI_row, mI_k, mI_s, mI_J, mI_D, mI_F, mI_rJ, mI_rn, mI_rs, mJ_row, mJ_k, mJ_s, mJ_I, mJ_D, mJ_F, mJ_rI, mJ_rn, mJ_rs, c7_I, c7_J]
      exact ⟨trivial, trivial, trivial⟩
theorem s_balance {M : Mem} (h : Inv M) {x : Int32} {Q : PQ} {X : PX} (hQ : ∀ (rv : Int64) M1, MidJ T_mBalance [.ref 96, .int x] rv M1 → Q (some (.long rv)) M1) (hX : ∀ E c M1, (E, c) ∈ [("java/util/NoSuchElementException", (1 : Int32))] → MidX T_mBalance [.ref 96, .int x] (.long 0) c M1 → X E M1) : T_balance [.ref 0, .int x] M Q X := by
  have h0 := h
  obtain ⟨hF, hP, hL, hT, hO, hR, hA, hN⟩ := h
  refine ⟨x, rfl, hF, fun q => hX _ 1 _ List.mem_cons_self (fun Q2 X2 k => ?_), fun i hi ei => hQ _ _ (fun Q2 X2 k => ?_)⟩
  · exact ⟨x, rfl, hF, fun _ => k _ (h0.same hF (fun a _ _ _ _ => by unfold thr; simp (disch := omega) only [mI_row, mI_k, mI_s, mI_J, mI_D, mI_F, mI_rJ, mI_rn, mI_rs, mJ_row, mJ_k, mJ_s, mJ_I, mJ_D, mJ_F, mJ_rI, mJ_rn, mJ_rs, c7_I, c7_J]) (fun k hk => by unfold thr; simp (disch := omega) only [mI_row, mI_k, mI_s, mI_J, mI_D, mI_F, mI_rJ, mI_rn, mI_rs, mJ_row, mJ_k, mJ_s, mJ_I, mJ_D, mJ_F, mJ_rI, mJ_rn, mJ_rs, c7_I, c7_J]) (fun a _ _ _ _ => by unfold thr; simp (disch := omega) only [mI_row, mI_k, mI_s, mI_J, mI_D, mI_F, mI_rJ, mI_rn, mI_rs, mJ_row, mJ_k, mJ_s, mJ_I, mJ_D, mJ_F, mJ_rI, mJ_rn, mJ_rs, c7_I, c7_J])) mI_s, fun i hi ei => absurd ⟨i, hi, ei⟩ q⟩
  · refine ⟨x, rfl, hF, fun z => absurd ⟨i, hi, ei⟩ z, fun j hj ej => ?_⟩
    have hij := nI_same hi hj (by decide) ei ej
    subst hij
    obtain ⟨p, a1, a2, a3, a4, a5⟩ := hA i hi
    refine ⟨p, a1, by simp (disch := omega) only [mI_row, mI_k, mI_s, mI_J, mI_D, mI_F, mI_rJ, mI_rn, mI_rs, mJ_row, mJ_k, mJ_s, mJ_I, mJ_D, mJ_F, mJ_rI, mJ_rn, mJ_rs, c7_I, c7_J]; exact a3, ?_⟩
    rw [show sumV (fun k => mJ (sJ M 122 0 (mJ M (84 + 4 * i) 4)) 114 (24 * i + k)) p = mJ M (84 + 4 * i) 4 by simp (disch := omega) only [mI_row, mI_k, mI_s, mI_J, mI_D, mI_F, mI_rJ, mI_rn, mI_rs, mJ_row, mJ_k, mJ_s, mJ_I, mJ_D, mJ_F, mJ_rI, mJ_rn, mJ_rs, c7_I, c7_J]; exact a4.symm]
    exact k _ (h0.same hF (fun a _ _ _ _ => by simp (disch := omega) only [mI_row, mI_k, mI_s, mI_J, mI_D, mI_F, mI_rJ, mI_rn, mI_rs, mJ_row, mJ_k, mJ_s, mJ_I, mJ_D, mJ_F, mJ_rI, mJ_rn, mJ_rs, c7_I, c7_J]) (fun k hk => by simp (disch := omega) only [mI_row, mI_k, mI_s, mI_J, mI_D, mI_F, mI_rJ, mI_rn, mI_rs, mJ_row, mJ_k, mJ_s, mJ_I, mJ_D, mJ_F, mJ_rI, mJ_rn, mJ_rs, c7_I, c7_J]) (fun a _ _ _ _ => by simp (disch := omega) only [mI_row, mI_k, mI_s, mI_J, mI_D, mI_F, mI_rJ, mI_rn, mI_rs, mJ_row, mJ_k, mJ_s, mJ_I, mJ_D, mJ_F, mJ_rI, mJ_rn, mJ_rs, c7_I, c7_J])) (by simp (disch := omega) only [mI_row, mI_k, mI_s, mI_J, mI_D, mI_F, mI_rJ, mI_rn, mI_rs, mJ_row, mJ_k, mJ_s, mJ_I, mJ_D, mJ_F, mJ_rI, mJ_rn, mJ_rs, c7_I, c7_J]) (by simp (disch := omega) only [mI_row, mI_k, mI_s, mI_J, mI_D, mI_F, mI_rJ, mI_rn, mI_rs, mJ_row, mJ_k, mJ_s, mJ_I, mJ_D, mJ_F, mJ_rI, mJ_rn, mJ_rs, c7_I, c7_J])
theorem s_posting {M : Mem} (h : Inv M) {x z w : Int32} {Q : PQ} {X : PX} (hQ : ∀ (rv : Int64) M1, MidJ T_mPosting [.ref 96, .int x, .int z, .int w] rv M1 → Q (some (.long rv)) M1) (hX : ∀ E c M1, (E, c) ∈ [("java/util/NoSuchElementException", (1 : Int32)), ("java/lang/IllegalArgumentException", (2 : Int32))] → MidX T_mPosting [.ref 96, .int x, .int z, .int w] (.long 0) c M1 → X E M1) : T_posting [.ref 0, .int x, .int z, .int w] M Q X := by
  have h0 := h
  obtain ⟨hF, hP, hL, hT, hO, hR, hA, hN⟩ := h
  refine ⟨x, z, w, rfl, hF, fun q => hX _ 1 _ List.mem_cons_self (fun Q2 X2 k => ?_), fun i hi ei => ?_⟩
  · exact ⟨x, z, w, rfl, hF, fun _ => k _ (h0.same hF (fun a _ _ _ _ => by unfold thr; simp (disch := omega) only [mI_row, mI_k, mI_s, mI_J, mI_D, mI_F, mI_rJ, mI_rn, mI_rs, mJ_row, mJ_k, mJ_s, mJ_I, mJ_D, mJ_F, mJ_rI, mJ_rn, mJ_rs, c7_I, c7_J]) (fun k hk => by unfold thr; simp (disch := omega) only [mI_row, mI_k, mI_s, mI_J, mI_D, mI_F, mI_rJ, mI_rn, mI_rs, mJ_row, mJ_k, mJ_s, mJ_I, mJ_D, mJ_F, mJ_rI, mJ_rn, mJ_rs, c7_I, c7_J]) (fun a _ _ _ _ => by unfold thr; simp (disch := omega) only [mI_row, mI_k, mI_s, mI_J, mI_D, mI_F, mI_rJ, mI_rn, mI_rs, mJ_row, mJ_k, mJ_s, mJ_I, mJ_D, mJ_F, mJ_rI, mJ_rn, mJ_rs, c7_I, c7_J])) mI_s, fun i hi ei => absurd ⟨i, hi, ei⟩ q⟩
  obtain ⟨p, a1, a2, a3, a4, a5⟩ := hA i hi
  have no3 : ∀ (u v : Int32), (u : Int32) = v → True := fun _ _ _ => trivial
  refine ⟨p, a1, a2, fun q => hX _ 2 _ (List.mem_cons_of_mem _ List.mem_cons_self) (fun Q2 X2 k => ?_), fun l hl el => ⟨fun e => hQ _ _ (fun Q2 X2 k => ?_), fun e => hQ _ _ (fun Q2 X2 k => ?_), fun e => hQ _ _ (fun Q2 X2 k => ?_)⟩⟩
  · refine ⟨x, z, w, rfl, hF, fun z => absurd ⟨i, hi, ei⟩ z, fun j hj ej => ?_⟩
    have hij := nI_same hi hj (by decide) ei ej
    subst hij
    refine ⟨p, a1, a3, fun _ => k _ (h0.same hF (fun a _ _ _ _ => by unfold thr; simp (disch := omega) only [mI_row, mI_k, mI_s, mI_J, mI_D, mI_F, mI_rJ, mI_rn, mI_rs, mJ_row, mJ_k, mJ_s, mJ_I, mJ_D, mJ_F, mJ_rI, mJ_rn, mJ_rs, c7_I, c7_J]) (fun k hk => by unfold thr; simp (disch := omega) only [mI_row, mI_k, mI_s, mI_J, mI_D, mI_F, mI_rJ, mI_rn, mI_rs, mJ_row, mJ_k, mJ_s, mJ_I, mJ_D, mJ_F, mJ_rI, mJ_rn, mJ_rs, c7_I, c7_J]) (fun a _ _ _ _ => by unfold thr; simp (disch := omega) only [mI_row, mI_k, mI_s, mI_J, mI_D, mI_F, mI_rJ, mI_rn, mI_rs, mJ_row, mJ_k, mJ_s, mJ_I, mJ_D, mJ_F, mJ_rI, mJ_rn, mJ_rs, c7_I, c7_J])) mI_s, fun l hl el => ⟨fun e => ?_, fun e => ?_, fun e => ?_⟩⟩
    · exact absurd ⟨⟨l, hl, el⟩, ⟨0, by decide, e⟩⟩ q
    · exact absurd ⟨⟨l, hl, el⟩, ⟨1, by decide, e⟩⟩ q
    · exact absurd ⟨⟨l, hl, el⟩, ⟨2, by decide, e⟩⟩ q
  · refine ⟨x, z, w, rfl, hF, fun z => absurd ⟨i, hi, ei⟩ z, fun j hj ej => ?_⟩
    have hij := nI_same hi hj (by decide) ei ej
    subst hij
    refine ⟨p, a1, by simp (disch := omega) only [mI_row, mI_k, mI_s, mI_J, mI_D, mI_F, mI_rJ, mI_rn, mI_rs, mJ_row, mJ_k, mJ_s, mJ_I, mJ_D, mJ_F, mJ_rI, mJ_rn, mJ_rs, c7_I, c7_J]; exact a3, fun q => absurd ⟨⟨l, hl, el⟩, ⟨0, by decide, e⟩⟩ q, fun l' hl' el' => ?_⟩
    have hij := nI_same hl hl' (by omega) el el'
    subst hij
    refine ⟨fun _ => by
      rw [show (mI (sJ M 122 0 ((mI M (84 + 4 * i + 1) l).toInt64)) 112 (24 * i + l)).toInt64 = (mI M (84 + 4 * i + 1) l).toInt64 by simp (disch := omega) only [mI_row, mI_k, mI_s, mI_J, mI_D, mI_F, mI_rJ, mI_rn, mI_rs, mJ_row, mJ_k, mJ_s, mJ_I, mJ_D, mJ_F, mJ_rI, mJ_rn, mJ_rs, c7_I, c7_J]; rw [(a5 l hl).1]]
      exact k _ (h0.same hF (fun a _ _ _ _ => by simp (disch := omega) only [mI_row, mI_k, mI_s, mI_J, mI_D, mI_F, mI_rJ, mI_rn, mI_rs, mJ_row, mJ_k, mJ_s, mJ_I, mJ_D, mJ_F, mJ_rI, mJ_rn, mJ_rs, c7_I, c7_J]) (fun k hk => by simp (disch := omega) only [mI_row, mI_k, mI_s, mI_J, mI_D, mI_F, mI_rJ, mI_rn, mI_rs, mJ_row, mJ_k, mJ_s, mJ_I, mJ_D, mJ_F, mJ_rI, mJ_rn, mJ_rs, c7_I, c7_J]) (fun a _ _ _ _ => by simp (disch := omega) only [mI_row, mI_k, mI_s, mI_J, mI_D, mI_F, mI_rJ, mI_rn, mI_rs, mJ_row, mJ_k, mJ_s, mJ_I, mJ_D, mJ_F, mJ_rI, mJ_rn, mJ_rs, c7_I, c7_J])) (by simp (disch := omega) only [mI_row, mI_k, mI_s, mI_J, mI_D, mI_F, mI_rJ, mI_rn, mI_rs, mJ_row, mJ_k, mJ_s, mJ_I, mJ_D, mJ_F, mJ_rI, mJ_rn, mJ_rs, c7_I, c7_J]) (by simp (disch := omega) only [mI_row, mI_k, mI_s, mI_J, mI_D, mI_F, mI_rJ, mI_rn, mI_rs, mJ_row, mJ_k, mJ_s, mJ_I, mJ_D, mJ_F, mJ_rI, mJ_rn, mJ_rs, c7_I, c7_J]), fun e' => absurd (e.symm.trans e') (by decide), fun e' => absurd (e.symm.trans e') (by decide)⟩
  · refine ⟨x, z, w, rfl, hF, fun z => absurd ⟨i, hi, ei⟩ z, fun j hj ej => ?_⟩
    have hij := nI_same hi hj (by decide) ei ej
    subst hij
    refine ⟨p, a1, by simp (disch := omega) only [mI_row, mI_k, mI_s, mI_J, mI_D, mI_F, mI_rJ, mI_rn, mI_rs, mJ_row, mJ_k, mJ_s, mJ_I, mJ_D, mJ_F, mJ_rI, mJ_rn, mJ_rs, c7_I, c7_J]; exact a3, fun q => absurd ⟨⟨l, hl, el⟩, ⟨1, by decide, e⟩⟩ q, fun l' hl' el' => ?_⟩
    have hij := nI_same hl hl' (by omega) el el'
    subst hij
    refine ⟨fun e' => absurd (e.symm.trans e') (by decide), fun _ => by
      rw [show (mI (sJ M 122 0 ((mI M (84 + 4 * i + 2) l).toInt64)) 113 (24 * i + l)).toInt64 = (mI M (84 + 4 * i + 2) l).toInt64 by simp (disch := omega) only [mI_row, mI_k, mI_s, mI_J, mI_D, mI_F, mI_rJ, mI_rn, mI_rs, mJ_row, mJ_k, mJ_s, mJ_I, mJ_D, mJ_F, mJ_rI, mJ_rn, mJ_rs, c7_I, c7_J]; rw [(a5 l hl).2.1]]
      exact k _ (h0.same hF (fun a _ _ _ _ => by simp (disch := omega) only [mI_row, mI_k, mI_s, mI_J, mI_D, mI_F, mI_rJ, mI_rn, mI_rs, mJ_row, mJ_k, mJ_s, mJ_I, mJ_D, mJ_F, mJ_rI, mJ_rn, mJ_rs, c7_I, c7_J]) (fun k hk => by simp (disch := omega) only [mI_row, mI_k, mI_s, mI_J, mI_D, mI_F, mI_rJ, mI_rn, mI_rs, mJ_row, mJ_k, mJ_s, mJ_I, mJ_D, mJ_F, mJ_rI, mJ_rn, mJ_rs, c7_I, c7_J]) (fun a _ _ _ _ => by simp (disch := omega) only [mI_row, mI_k, mI_s, mI_J, mI_D, mI_F, mI_rJ, mI_rn, mI_rs, mJ_row, mJ_k, mJ_s, mJ_I, mJ_D, mJ_F, mJ_rI, mJ_rn, mJ_rs, c7_I, c7_J])) (by simp (disch := omega) only [mI_row, mI_k, mI_s, mI_J, mI_D, mI_F, mI_rJ, mI_rn, mI_rs, mJ_row, mJ_k, mJ_s, mJ_I, mJ_D, mJ_F, mJ_rI, mJ_rn, mJ_rs, c7_I, c7_J]) (by simp (disch := omega) only [mI_row, mI_k, mI_s, mI_J, mI_D, mI_F, mI_rJ, mI_rn, mI_rs, mJ_row, mJ_k, mJ_s, mJ_I, mJ_D, mJ_F, mJ_rI, mJ_rn, mJ_rs, c7_I, c7_J]), fun e' => absurd (e.symm.trans e') (by decide)⟩
  · refine ⟨x, z, w, rfl, hF, fun z => absurd ⟨i, hi, ei⟩ z, fun j hj ej => ?_⟩
    have hij := nI_same hi hj (by decide) ei ej
    subst hij
    refine ⟨p, a1, by simp (disch := omega) only [mI_row, mI_k, mI_s, mI_J, mI_D, mI_F, mI_rJ, mI_rn, mI_rs, mJ_row, mJ_k, mJ_s, mJ_I, mJ_D, mJ_F, mJ_rI, mJ_rn, mJ_rs, c7_I, c7_J]; exact a3, fun q => absurd ⟨⟨l, hl, el⟩, ⟨2, by decide, e⟩⟩ q, fun l' hl' el' => ?_⟩
    have hij := nI_same hl hl' (by omega) el el'
    subst hij
    refine ⟨fun e' => absurd (e.symm.trans e') (by decide), fun e' => absurd (e.symm.trans e') (by decide), fun _ => by
      rw [show mJ (sJ M 122 0 (mJ M (84 + 4 * i + 3) l)) 114 (24 * i + l) = mJ M (84 + 4 * i + 3) l by simp (disch := omega) only [mI_row, mI_k, mI_s, mI_J, mI_D, mI_F, mI_rJ, mI_rn, mI_rs, mJ_row, mJ_k, mJ_s, mJ_I, mJ_D, mJ_F, mJ_rI, mJ_rn, mJ_rs, c7_I, c7_J]; rw [(a5 l hl).2.2]]
      exact k _ (h0.same hF (fun a _ _ _ _ => by simp (disch := omega) only [mI_row, mI_k, mI_s, mI_J, mI_D, mI_F, mI_rJ, mI_rn, mI_rs, mJ_row, mJ_k, mJ_s, mJ_I, mJ_D, mJ_F, mJ_rI, mJ_rn, mJ_rs, c7_I, c7_J]) (fun k hk => by simp (disch := omega) only [mI_row, mI_k, mI_s, mI_J, mI_D, mI_F, mI_rJ, mI_rn, mI_rs, mJ_row, mJ_k, mJ_s, mJ_I, mJ_D, mJ_F, mJ_rI, mJ_rn, mJ_rs, c7_I, c7_J]) (fun a _ _ _ _ => by simp (disch := omega) only [mI_row, mI_k, mI_s, mI_J, mI_D, mI_F, mI_rJ, mI_rn, mI_rs, mJ_row, mJ_k, mJ_s, mJ_I, mJ_D, mJ_F, mJ_rI, mJ_rn, mJ_rs, c7_I, c7_J])) (by simp (disch := omega) only [mI_row, mI_k, mI_s, mI_J, mI_D, mI_F, mI_rJ, mI_rn, mI_rs, mJ_row, mJ_k, mJ_s, mJ_I, mJ_D, mJ_F, mJ_rI, mJ_rn, mJ_rs, c7_I, c7_J]) (by simp (disch := omega) only [mI_row, mI_k, mI_s, mI_J, mI_D, mI_F, mI_rJ, mI_rn, mI_rs, mJ_row, mJ_k, mJ_s, mJ_I, mJ_D, mJ_F, mJ_rI, mJ_rn, mJ_rs, c7_I, c7_J])⟩
