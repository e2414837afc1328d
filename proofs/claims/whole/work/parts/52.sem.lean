/-! CODE THAT WORKS OUT TO A VALUE, PIECE BY PIECE -/
theorem opB_mk {o dp : Nat} {n : Int32} (h1 : o ≤ 10) (h2 : opD o dp ≤ 48) (h3 : o ≤ 2 ∨ 1 ≤ dp) (h4 : o ≤ 2 ∨ o = 5 ∨ o = 6 ∨ 2 ≤ dp) (h5 : o = 1 ∨ o = 2 → ¬ n < 0 ∧ n < 12) (h6 : o = 5 → ¬ n < 0 ∧ n < 3) : opB o n dp = true := by
  unfold opB
  simp only [Bool.and_eq_true, Bool.or_eq_true, decide_eq_true_eq]
  refine ⟨⟨⟨⟨⟨h1, h2⟩, h3⟩, h4⟩, ?_⟩, ?_⟩
  · by_cases q : o = 1 ∨ o = 2
    · exact Or.inr (h5 q)
    · exact Or.inl q
  · by_cases q : o = 5
    · exact Or.inr (h6 q)
    · exact Or.inl q
theorem rng_nI {i n : Nat} {N : Int32} (hN : nI n = N) (hn : n < 2 ^ 31) (hi : i < n) : ¬ nI i < 0 ∧ nI i < N := ⟨nI_pos (by omega), by rw [← hN, nI_ltI (by omega) hn]; exact hi⟩
/-- a step that pushes a value *-/
theorem sem_push {stp wth : Nat → Int32} {m o : Nat} {nm : Int32} {val : VV → Int64} (hS : stp m = nI o) (ho : o ≤ 2) (hn : o = 1 ∨ o = 2 → ¬ wth m < 0 ∧ wth m < 12)
    (hv : ∀ VC VR, Agr VC VR nm → inR (val VC) = true ∧ ∀ x y, opG VR o (wth m) x y = val VC) : Sem stp wth m (m + 1) nm val (fun _ => false) := by
  refine ⟨Nat.lt_succ_self m, fun S A st VC VR hr h1 h2 ha => ⟨fun _ => ?_, fun q => absurd (show false = true from q) (by decide)⟩⟩
  obtain ⟨v1, v2⟩ := hv VC VR ha
  obtain ⟨r1, r2⟩ := hr m (Nat.le_refl _) (Nat.lt_succ_self _)
  refine ⟨v1, fun dp sk hd => ?_⟩
  have hD : opD o dp = dp + 1 := if_pos ho
  have hB : opB o (A m) dp = true := opB_mk (by omega) (by rw [hD]; omega) (Or.inl ho) (Or.inl ho) (by rw [r2]; exact hn) (fun q => by omega)
  have e : opG VR o (A m) (sk (dp - 2)) (sk (dp - 1)) = val VC := by rw [r2]; exact v2 _ _
  have hr := Run.op (S := S) (A := A) (st := st) (V := VR) (k := m) (dp := dp) (o := o) (sk := sk) (by omega) (r1.trans hS) (by omega) hB (by rw [e]; exact v1)
  rw [e, hD] at hr
  exact ⟨_, hr, va_up_self _ _ _, fun j hj => va_up_ne _ _ (by omega)⟩
/-- a step on the value before it *-/
theorem sem_un {stp wth : Nat → Int32} {m m1 o : Nat} {nm : Int32} {val val' : VV → Int64} {ovf ovf' : VV → Bool} (h : Sem stp wth m m1 nm val ovf) (hS : stp m1 = nI o) (ho : o = 5 ∨ o = 6) (hn : o = 5 → ¬ wth m1 < 0 ∧ wth m1 < 3)
    (ht : ∀ VC VR, Agr VC VR nm → (ovf' VC = false → ovf VC = false) ∧ (ovf VC = false → inR (val VC) = true → ∀ x, (ovf' VC = false → opG VR o (wth m1) x (val VC) = val' VC ∧ inR (val' VC) = true) ∧ (ovf' VC = true → inR (opG VR o (wth m1) x (val VC)) = false))) : Sem stp wth m (m1 + 1) nm val' ovf' := by
  refine ⟨by have := h.1; omega, fun S A st VC VR hr h1 h2 ha => ?_⟩
  have hm := h.1
  obtain ⟨s1, s2⟩ := h.2 S A st VC VR (fun k q1 q2 => hr k q1 (by omega)) (by omega) h2 ha
  obtain ⟨t1, t2⟩ := ht VC VR ha
  obtain ⟨r1, r2⟩ := hr m1 (by omega) (by omega)
  have hD : ∀ dp, opD o (dp + 1) = dp + 1 := fun dp => by unfold opD; rw [if_neg (by omega), if_pos ho]
  have hB : ∀ dp, dp ≤ m → opB o (A m1) (dp + 1) = true := fun dp hd => opB_mk (by omega) (by rw [hD]; omega) (Or.inr (by omega)) (by rcases ho with z | z; exact Or.inr (Or.inl z); exact Or.inr (Or.inr (Or.inl z))) (fun q => by omega) (fun q => by rw [r2]; exact hn q)
  refine ⟨fun q => ?_, fun q dp sk hd => ?_⟩
  · obtain ⟨i1, i2⟩ := s1 (t1 q)
    refine ⟨((t2 (t1 q) i1 0).1 q).2, fun dp sk hd => ?_⟩
    obtain ⟨sk', g1, g2, g3⟩ := i2 dp sk hd
    obtain ⟨e1, e2⟩ := (t2 (t1 q) i1 (sk' (dp + 1 - 2))).1 q
    have e : opG VR o (A m1) (sk' (dp + 1 - 2)) (sk' (dp + 1 - 1)) = val' VC := by rw [r2, show dp + 1 - 1 = dp from rfl, g2]; exact e1
    have hr2 := Run.op (S := S) (A := A) (st := st) (V := VR) (k := m1) (dp := dp + 1) (o := o) (sk := sk') (by omega) (r1.trans hS) (by omega) (hB dp hd) (by rw [e]; exact e2)
    rw [e, hD] at hr2
    exact ⟨_, g1.trans hr2, va_up_self _ _ _, fun j hj => by rw [va_up_ne _ _ (by omega)]; exact g3 j hj⟩
  · cases hov : ovf VC with
    | true => exact s2 hov dp sk hd
    | false =>
      obtain ⟨i1, i2⟩ := s1 hov
      obtain ⟨sk', g1, g2, g3⟩ := i2 dp sk hd
      have e1 := (t2 hov i1 (sk' (dp + 1 - 2))).2 q
      exact Ovf.run g1 (Ovf.op (by omega) (r1.trans hS) (by omega) (hB dp hd) (by rw [r2, show dp + 1 - 1 = dp from rfl, g2]; exact e1))
/-- a step on the two values before it *-/
theorem sem_bin {stp wth : Nat → Int32} {m m1 m2 o : Nat} {nm : Int32} {v1 v2 val' : VV → Int64} {o1 o2 ovf' : VV → Bool} (h1 : Sem stp wth m m1 nm v1 o1) (h2 : Sem stp wth m1 m2 nm v2 o2) (hS : stp m2 = nI o) (ho : o ≤ 10) (ho2 : ¬ o ≤ 2 ∧ ¬ (o = 5 ∨ o = 6))
    (ht : ∀ VC VR, Agr VC VR nm → (ovf' VC = false → o1 VC = false ∧ o2 VC = false) ∧ (o1 VC = false → o2 VC = false → inR (v1 VC) = true → inR (v2 VC) = true → (ovf' VC = false → opG VR o (wth m2) (v1 VC) (v2 VC) = val' VC ∧ inR (val' VC) = true) ∧ (ovf' VC = true → inR (opG VR o (wth m2) (v1 VC) (v2 VC)) = false))) : Sem stp wth m (m2 + 1) nm val' ovf' := by
  have hm1 := h1.1
  have hm2 := h2.1
  refine ⟨by omega, fun S A st VC VR hr hst hst2 ha => ?_⟩
  obtain ⟨s1, s2⟩ := h1.2 S A st VC VR (fun k q1 q2 => hr k q1 (by omega)) (by omega) hst2 ha
  obtain ⟨s3, s4⟩ := h2.2 S A st VC VR (fun k q1 q2 => hr k (by omega) (by omega)) (by omega) hst2 ha
  obtain ⟨t1, t2⟩ := ht VC VR ha
  obtain ⟨r1, r2⟩ := hr m2 (by omega) (by omega)
  have hD : ∀ dp, opD o (dp + 1 + 1) = dp + 1 := fun dp => by unfold opD; rw [if_neg ho2.1, if_neg ho2.2]; rfl
  have hB : ∀ dp, dp ≤ m → opB o (A m2) (dp + 1 + 1) = true := fun dp hd => opB_mk ho (by rw [hD]; omega) (Or.inr (by omega)) (Or.inr (Or.inr (Or.inr (by omega)))) (fun q => by omega) (fun q => by omega)
  have run2 : ∀ dp sk, dp ≤ m → o1 VC = false → o2 VC = false → inR (v1 VC) = true ∧ inR (v2 VC) = true ∧ ∃ sk', Run S A st VR m dp sk m2 (dp + 1 + 1) sk' ∧ sk' (dp + 1) = v2 VC ∧ sk' dp = v1 VC ∧ ∀ j, j < dp → sk' j = sk j := by
    intro dp sk hd q1 q2
    obtain ⟨i1, i2⟩ := s1 q1
    obtain ⟨i3, i4⟩ := s3 q2
    obtain ⟨sk1, g1, g2, g3⟩ := i2 dp sk hd
    obtain ⟨sk2, g4, g5, g6⟩ := i4 (dp + 1) sk1 (by omega)
    exact ⟨i1, i3, sk2, g1.trans g4, g5, by rw [g6 dp (by omega)]; exact g2, fun j hj => by rw [g6 j (by omega)]; exact g3 j hj⟩
  refine ⟨fun q => ?_, fun q dp sk hd => ?_⟩
  · obtain ⟨q1, q2⟩ := t1 q
    obtain ⟨j1, j2, -⟩ := run2 0 (fun _ => 0) (Nat.zero_le _) q1 q2
    obtain ⟨e1, e2⟩ := (t2 q1 q2 j1 j2).1 q
    refine ⟨e2, fun dp sk hd => ?_⟩
    obtain ⟨-, -, sk', g1, g2, g3, g4⟩ := run2 dp sk hd q1 q2
    have e : opG VR o (A m2) (sk' (dp + 1 + 1 - 2)) (sk' (dp + 1 + 1 - 1)) = val' VC := by rw [r2, show dp + 1 + 1 - 2 = dp from rfl, show dp + 1 + 1 - 1 = dp + 1 from rfl, g2, g3]; exact e1
    have hr2 := Run.op (S := S) (A := A) (st := st) (V := VR) (k := m2) (dp := dp + 1 + 1) (o := o) (sk := sk') (by omega) (r1.trans hS) ho (hB dp hd) (by rw [e]; exact e2)
    rw [e, hD] at hr2
    exact ⟨_, g1.trans hr2, va_up_self _ _ _, fun j hj => by rw [va_up_ne _ _ (by omega)]; exact g4 j hj⟩
  · cases q1 : o1 VC with
    | true => exact s2 q1 dp sk hd
    | false =>
      cases q2 : o2 VC with
      | true =>
        obtain ⟨i1, i2⟩ := s1 q1
        obtain ⟨sk1, g1, g2, g3⟩ := i2 dp sk hd
        exact Ovf.run g1 (s4 q2 (dp + 1) sk1 (by omega))
      | false =>
        obtain ⟨j1, j2, sk', g1, g2, g3, g4⟩ := run2 dp sk hd q1 q2
        have e1 := (t2 q1 q2 j1 j2).2 q
        exact Ovf.run g1 (Ovf.op (by omega) (r1.trans hS) ho (hB dp hd) (by rw [r2, show dp + 1 + 1 - 2 = dp from rfl, show dp + 1 + 1 - 1 = dp + 1 from rfl, g2, g3]; exact e1))
/-- a condition *-/
theorem sem_cond {stp wth : Nat → Int32} {m m1 m2 m3 m5 o : Nat} {nm : Int32} {v1 v2 v3 v4 : VV → Int64} {o1 o2 o3 o4 hold : VV → Bool} (h1 : Sem stp wth m m1 nm v1 o1) (h2 : Sem stp wth m1 m2 nm v2 o2) (hS : stp m2 = nI o) (ho : o = 9 ∨ o = 10) (hZ : stp (m2 + 1) = 11) (hZw : wth (m2 + 1) = nI (m3 + 1)) (h3 : Sem stp wth (m2 + 2) m3 nm v3 o3) (hJ : stp m3 = 12) (hJw : wth m3 = nI m5) (h4 : Sem stp wth (m3 + 1) m5 nm v4 o4)
    (hh : ∀ VR VC n, opG VR o n (v1 VC) (v2 VC) = if hold VC = true then 1 else 0) : Sem stp wth m m5 nm (fun V => if hold V = true then v3 V else v4 V) (fun V => o1 V || o2 V || (if hold V = true then o3 V else o4 V)) := by
  have hm1 := h1.1
  have hm2 := h2.1
  have hm3 := h3.1
  have hm4 := h4.1
  refine ⟨by omega, fun S A st VC VR hr hst hst2 ha => ?_⟩
  obtain ⟨s1, s2⟩ := h1.2 S A st VC VR (fun k q1 q2 => hr k q1 (by omega)) (by omega) hst2 ha
  obtain ⟨s3, s4⟩ := h2.2 S A st VC VR (fun k q1 q2 => hr k (by omega) (by omega)) (by omega) hst2 ha
  obtain ⟨s5, s6⟩ := h3.2 S A st VC VR (fun k q1 q2 => hr k (by omega) (by omega)) (by omega) hst2 ha
  obtain ⟨s7, s8⟩ := h4.2 S A st VC VR (fun k q1 q2 => hr k (by omega) (by omega)) (by omega) hst2 ha
  obtain ⟨r1, r2⟩ := hr m2 (by omega) (by omega)
  obtain ⟨z1, z2⟩ := hr (m2 + 1) (by omega) (by omega)
  obtain ⟨y1, y2⟩ := hr m3 (by omega) (by omega)
  have hD : ∀ dp, opD o (dp + 1 + 1) = dp + 1 := fun dp => by unfold opD; rw [if_neg (by omega), if_neg (by omega)]; rfl
  have hB : ∀ dp, dp ≤ m → opB o (A m2) (dp + 1 + 1) = true := fun dp hd => opB_mk (by omega) (by rw [hD]; omega) (Or.inr (by omega)) (Or.inr (Or.inr (Or.inr (by omega)))) (fun q => by omega) (fun q => by omega)
  have run2 : ∀ dp sk, dp ≤ m → o1 VC = false → o2 VC = false → ∃ sk', Run S A st VR m dp sk (if hold VC = true then m2 + 2 else m3 + 1) dp sk' ∧ ∀ j, j < dp → sk' j = sk j := by
    intro dp sk hd q1 q2
    obtain ⟨i1, i2⟩ := s1 q1
    obtain ⟨i3, i4⟩ := s3 q2
    obtain ⟨sk1, g1, g2, g3⟩ := i2 dp sk hd
    obtain ⟨sk2, g4, g5, g6⟩ := i4 (dp + 1) sk1 (by omega)
    have e : opG VR o (A m2) (sk2 (dp + 1 + 1 - 2)) (sk2 (dp + 1 + 1 - 1)) = if hold VC = true then 1 else 0 := by rw [show dp + 1 + 1 - 2 = dp from rfl, show dp + 1 + 1 - 1 = dp + 1 from rfl, g5, g6 dp (by omega), g2]; exact hh VR VC _
    have e2 : inR (if hold VC = true then (1 : Int64) else 0) = true := by split <;> decide
    have hr2 := Run.op (S := S) (A := A) (st := st) (V := VR) (k := m2) (dp := dp + 1 + 1) (o := o) (sk := sk2) (by omega) (r1.trans hS) (by omega) (hB dp hd) (by rw [e]; exact e2)
    rw [e, hD] at hr2
    have hb : ∀ j, j < dp → va_up sk2 (dp + 1 - 1) (if hold VC = true then (1 : Int64) else 0) j = sk j := fun j hj => by rw [va_up_ne _ _ (by omega), g6 j (by omega)]; exact g3 j hj
    have ht : va_up sk2 (dp + 1 - 1) (if hold VC = true then (1 : Int64) else 0) (dp + 1 - 1) = if hold VC = true then 1 else 0 := va_up_self _ _ _
    by_cases hc : hold VC = true
    · rw [if_pos hc] at ht hr2 hb ⊢
      exact ⟨_, (g1.trans g4).trans (hr2.trans (Run.nzero (k := m2 + 1) (dp := dp + 1) (by omega) (z1.trans hZ) (by omega) (by rw [ht]; decide))), hb⟩
    · rw [if_neg hc] at ht hr2 hb ⊢
      exact ⟨_, (g1.trans g4).trans (hr2.trans (Run.zero (k := m2 + 1) (dp := dp + 1) (j := m3 + 1) (by omega) (z1.trans hZ) (by omega) (z2.trans hZw) (by omega) (by omega) ht)), hb⟩
  refine ⟨fun q => ?_, fun q dp sk hd => ?_⟩
  · have q' : (o1 VC = false ∧ o2 VC = false) ∧ (if hold VC = true then o3 VC else o4 VC) = false := by
      have q2 : (o1 VC || o2 VC || (if hold VC = true then o3 VC else o4 VC)) = false := q
      rw [Bool.or_eq_false_iff, Bool.or_eq_false_iff] at q2
      exact q2
    obtain ⟨⟨q1, q2⟩, q3⟩ := q'
    by_cases hc : hold VC = true
    · rw [if_pos hc] at q3
      obtain ⟨i1, i2⟩ := s5 q3
      refine ⟨by show inR (if hold VC = true then v3 VC else v4 VC) = true; rw [if_pos hc]; exact i1, fun dp sk hd => ?_⟩
      obtain ⟨sk1, g1, g2⟩ := run2 dp sk hd q1 q2
      rw [if_pos hc] at g1
      obtain ⟨sk2, g3, g4, g5⟩ := i2 dp sk1 (by omega)
      exact ⟨sk2, g1.trans (g3.trans (Run.jump (by omega) (y1.trans hJ) (y2.trans hJw) (by omega) (by omega))), by show sk2 dp = if hold VC = true then v3 VC else v4 VC; rw [if_pos hc]; exact g4, fun j hj => by rw [g5 j hj]; exact g2 j hj⟩
    · rw [if_neg hc] at q3
      obtain ⟨i1, i2⟩ := s7 q3
      refine ⟨by show inR (if hold VC = true then v3 VC else v4 VC) = true; rw [if_neg hc]; exact i1, fun dp sk hd => ?_⟩
      obtain ⟨sk1, g1, g2⟩ := run2 dp sk hd q1 q2
      rw [if_neg hc] at g1
      obtain ⟨sk2, g3, g4, g5⟩ := i2 dp sk1 (by omega)
      exact ⟨sk2, g1.trans g3, by show sk2 dp = if hold VC = true then v3 VC else v4 VC; rw [if_neg hc]; exact g4, fun j hj => by rw [g5 j hj]; exact g2 j hj⟩
  · have q' : (o1 VC || o2 VC || (if hold VC = true then o3 VC else o4 VC)) = true := q
    cases q1 : o1 VC with
    | true => exact s2 q1 dp sk hd
    | false =>
      cases q2 : o2 VC with
      | true =>
        obtain ⟨i1, i2⟩ := s1 q1
        obtain ⟨sk1, g1, g2, g3⟩ := i2 dp sk hd
        exact Ovf.run g1 (s4 q2 (dp + 1) sk1 (by omega))
      | false =>
        rw [q1, q2, Bool.false_or, Bool.false_or] at q'
        obtain ⟨sk1, g1, g2⟩ := run2 dp sk hd q1 q2
        by_cases hc : hold VC = true
        · rw [if_pos hc] at q' g1
          exact Ovf.run g1 (s6 q' dp sk1 (by omega))
        · rw [if_neg hc] at q' g1
          exact Ovf.run g1 (s8 q' dp sk1 (by omega))
