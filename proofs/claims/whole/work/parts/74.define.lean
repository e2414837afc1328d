/-! DEFINITIONS: both sides *-/
section
variable {E E' : CE} {R : RR}
theorem cg_ex (h : nx E = nx E') : ex E = ex E' := by
  funext c s
  simp only [ex, h]
theorem cg_numL (h : nx E = nx E') : ∀ (n : Nat) (x : Int64) (s : St), rNumL E n x s = rNumL E' n x s
  | 0, _, _ => rfl
  | n + 1, x, s => by simp only [rNumL, h, cg_numL h n]
theorem cg_num (h : nx E = nx E') : rNum E = rNum E' := by
  funext n s
  simp only [rNum, h, cg_numL h]
theorem cg_name (h : nx E = nx E') (h2 : E.2.2 = E'.2.2) : rName E = rName E' := by
  funext i s
  simp only [rName, h, h2]
theorem cg_unit (h : nx E = nx E') (h2 : E.2.2 = E'.2.2) : rUnit E R = rUnit E' R := by
  funext d lv s
  simp only [rUnit, rBr, rTwo, rTwoA, rTwoB, rTab, h, h2, cg_ex h, cg_num h, cg_name h h2]
theorem cg_part (h : nx E = nx E') (h2 : E.2.2 = E'.2.2) : rPart E R = rPart E' R := by
  funext d lv s
  simp only [rPart, rPartN, h, cg_unit h h2, cg_num h, cg_ex h]
theorem cg_sumL (h : nx E = nx E') (h2 : E.2.2 = E'.2.2) (d : Nat) (lv : Bool) : ∀ (n : Nat) (x : Int64) (s : St), rSumL E R d lv n x s = rSumL E' R d lv n x s
  | 0, _, _ => rfl
  | n + 1, x, s => by simp only [rSumL, rAdd, rSub, h, cg_part h h2, cg_sumL h h2 d lv n]
theorem cg_sum (h : nx E = nx E') (h2 : E.2.2 = E'.2.2) : rSum E R = rSum E' R := by
  funext d lv s
  simp only [rSum, cg_part h h2, cg_sumL h h2]
theorem cg_form1 (h : nx E = nx E') (h2 : E.2.2 = E'.2.2) : rForm1 E R = rForm1 E' R := by
  funext d lv s
  simp only [rForm1, rCon, rCon1, rCon2, h, cg_sum h h2, cg_ex h]
theorem cg_form (h : nx E = nx E') (h2 : E.2.2 = E'.2.2) : ∀ n, rForm E n = rForm E' n
  | 0 => rfl
  | n + 1 => by
    show rForm1 E (rForm E n) = rForm1 E' (rForm E' n)
    rw [cg_form h h2 n, cg_form1 h h2]
end
theorem form_cg {tx tx' : Nat → Int32} {len : Nat} (h : ∀ j, j < len → tx j = tx' j) (V : VV) (n : Nat) : rForm (mkE tx len V) n = rForm (mkE tx' len V) n := by
  refine cg_form (E := mkE tx len V) (E' := mkE tx' len V) ?_ rfl n
  funext s
  unfold nx
  show (if s.2.1 = true ∨ len ≤ s.1 then (0 : Int32) else tx s.1) = if s.2.1 = true ∨ len ≤ s.1 then (0 : Int32) else tx' s.1
  by_cases q : s.2.1 = true ∨ len ≤ s.1
  · rw [if_pos q, if_pos q]
  · rw [if_neg q, if_neg q, h s.1 (by omega)]
theorem LineOk.cg {tx tx' : Nat → Int32} {len : Nat} {S A S' A' : Nat → Int32} {st : Nat} {nm : Int32} (h : LineOk tx len S A st nm) (h1 : ∀ j, j < len → tx' j = tx j) (h2 : ∀ k, k < st → S' k = S k ∧ A' k = A k) : LineOk tx' len S' A' st nm := by
  obtain ⟨a1, a2, val, ovf, a3, a4⟩ := h
  exact ⟨a1, a2, val, ovf, fun V lv => by rw [form_cg h1]; exact a3 V lv, a4.fr (fun k _ hk => h2 k hk) (fun _ _ q => q)⟩
theorem sign_ok : ∀ c ∈ signBy, narrow .char (.int c) = .int c ∧ fits .char (.int c) = true := by
  intro c hc
  simp only [signBy, List.mem_cons, List.not_mem_nil, or_false] at hc
  rcases hc with rfl | rfl | rfl | rfl | rfl | rfl | rfl | rfl | rfl | rfl | rfl | rfl | rfl | rfl | rfl | rfl | rfl | rfl | rfl | rfl | rfl | rfl | rfl | rfl | rfl | rfl | rfl | rfl | rfl | rfl | rfl | rfl | rfl | rfl | rfl | rfl | rfl <;> exact ⟨rfl, rfl⟩
theorem def_eq {M : Mem} {tx : Nat → Int32} {len : Nat} (h40 : len ≤ 40) (h : ∀ j, j < len → mI M 2 j = tx j) (st0 : RS) (e1 : st0.1 = 0) (e2 : st0.2.1 = 0) (e3 : st0.2.2.2.2.1 = 0) (e4 : st0.2.2.2.2.2.2.2 = 0) :
    (tB len (rdL tx len 41 2 st0) = false ∧ fOk M 1 len = false) ∨ (tB len (rdL tx len 41 2 st0) = true ∧ fOk M 1 len = true ∧ (rdT M 1 len).2.2.2.1 = (tZ len (rdL tx len 41 2 st0)).2.2.2.2.2.2.2) := by
  have er : rdT M 1 len = rForm (mkE tx len (mJ M 9, mJ M 9, tabC M)) 41 0 false s0 := by
    rw [← form_cg h]
    rfl
  unfold fOk
  rw [er]
  rcases top_read (tx := tx) pct h40 st0 e1 e2 e3 e4 with ⟨q1, q2⟩ | ⟨q1, nm, val, ovf, q2, q3, q4⟩
  · refine Or.inl ⟨q1, ?_⟩
    rcases q2 (mJ M 9, mJ M 9, tabC M) false with z | z
    · have z' : (rForm (mkE tx len (mJ M 9, mJ M 9, tabC M)) 41 0 false s0).2.2.1 = true := z
      rw [z']
      rfl
    · have z' : ¬ (rForm (mkE tx len (mJ M 9, mJ M 9, tabC M)) 41 0 false s0).2.1 = len := z
      rw [decide_eq_false z', Bool.and_false]
  · refine Or.inr ⟨q1, ?_, ?_⟩
    · rw [show rForm (mkE tx len (mJ M 9, mJ M 9, tabC M)) 41 0 false s0 = _ from q2 (mJ M 9, mJ M 9, tabC M) false]
      simp
    · rw [show rForm (mkE tx len (mJ M 9, mJ M 9, tabC M)) 41 0 false s0 = _ from q2 (mJ M 9, mJ M 9, tabC M) false, q3]
theorem rdE_eq {N : Mem} {tx : Nat → Int32} {len : Nat} (h : mI N 97 = tx) : rdE N len = rdL tx len 41 2 (rd0 N) := by
  unfold rdE
  rw [h]
theorem rS_o {M : Mem} {s : RS} {a : Nat} (h : a ≠ 96) (h' : ¬ (115 ≤ a ∧ a ≤ 118)) : mI (rS M s) a = mI M a := by
  show rsF M.1 s a = M.1 a
  unfold rsF
  rw [if_neg h, if_neg (by omega), if_neg (by omega), if_neg (by omega), if_neg (by omega)]
theorem rS_96 {M : Mem} {s : RS} {k : Nat} (h1 : k ≠ 22) (h2 : k ≠ 23) (h3 : k ≠ 26) (h4 : k ≠ 27) : mI (rS M s) 96 k = mI M 96 k := by
  show rsF M.1 s 96 k = M.1 96 k
  unfold rsF modF
  rw [if_pos rfl, if_neg h1, if_neg h2, if_neg h3, if_neg h4]
theorem rS_J {M : Mem} {s : RS} : mJ (rS M s) = mJ M := rfl
theorem tB_pos {tx : Nat → Int32} {len : Nat} {s : RS} (e1 : s.1 = 0) (h : tB len (rdL tx len 41 2 s) = true) : 0 < len := by
  rcases Nat.eq_zero_or_pos len with z | z
  · exfalso
    subst z
    rw [rdL_end (fun q => absurd q.2 (by omega))] at h
    unfold tB at h
    rw [if_neg (fun q => q.1.elim (fun z => absurd (show (2 : Int32) = 1 from z) (by decide)) (fun z => absurd (show (2 : Int32) = 3 from z) (by decide)))] at h
    exact absurd h (by decide)
  · exact z
theorem tab_of {M : Mem} (hT : IT M) : TabOk M := fun t ht => by
  obtain ⟨k, o, t1, t2, t3, _⟩ := hT t ht
  exact ⟨k, t1, t3⟩
theorem s_define {M : Mem} (h : Inv M) {x : Int32} {Q : PQ} {X : PX} (hQ : ∀ (rv : Int32) M1, MidI T_mDefine [.ref 96, .int x] rv M1 → Q (some (.int rv)) M1) (hX : ∀ E c M1, (E, c) ∈ [("java/util/NoSuchElementException", (1 : Int32)), ("java/lang/IllegalArgumentException", (2 : Int32))] → MidX T_mDefine [.ref 96, .int x] (.int 0) c M1 → X E M1) : T_define [.ref 0, .int x] M Q X := by
  have h0 := h
  obtain ⟨hF, hP, hL, hT, hO, hR, hA, hN⟩ := h
  have hNN := hN
  obtain ⟨len, hl, e1, e2, he⟩ := hP
  have htx : TxtOk M 1 len := ⟨⟨ob rfl, rfl, ar rfl⟩, ⟨by decide, by decide⟩, e1, hl, fun i hi => sign_ok _ (he i hi).2⟩
  refine ⟨x, len, rfl, hF, tab_of hT, htx, fun q => hX _ 1 _ List.mem_cons_self (fun Q2 X2 k => ?_), fun q1 q2 f F => hX _ 2 _ (List.mem_cons_of_mem _ List.mem_cons_self) (fun Q2 X2 k => ?_), fun i hi ei q f F => hQ _ _ (fun Q2 X2 k => ?_)⟩
  · exact ⟨x, len, rfl, ⟨hF, e2, hl⟩, fun _ => k _ (h0.same hF (fun a _ _ _ _ => by unfold thr; simp (disch := omega) only [mI_row, mI_k, mI_s, mI_J, mI_D, mI_F, mI_rJ, mI_rn, mI_rs, mJ_row, mJ_k, mJ_s, mJ_I, mJ_D, mJ_F, mJ_rI, mJ_rn, mJ_rs, c7_I, c7_J]) (fun k hk => by unfold thr; simp (disch := omega) only [mI_row, mI_k, mI_s, mI_J, mI_D, mI_F, mI_rJ, mI_rn, mI_rs, mJ_row, mJ_k, mJ_s, mJ_I, mJ_D, mJ_F, mJ_rI, mJ_rn, mJ_rs, c7_I, c7_J]) (fun a _ _ _ _ => by unfold thr; simp (disch := omega) only [mI_row, mI_k, mI_s, mI_J, mI_D, mI_F, mI_rJ, mI_rn, mI_rs, mJ_row, mJ_k, mJ_s, mJ_I, mJ_D, mJ_F, mJ_rI, mJ_rn, mJ_rs, c7_I, c7_J])) mI_s, fun z => absurd z q, fun i hi ei => absurd ⟨i, hi, ei⟩ q⟩
  · have hE : rdE (sI (c7 M f F) 96 0 0) len = rdL (mI M 97) len 41 2 (rd0 (sI (c7 M f F) 96 0 0)) := rdE_eq (by simp (disch := omega) only [mI_row, mI_k, mI_s, mI_J, mI_D, mI_F, mI_rJ, mI_rn, mI_rs, mJ_row, mJ_k, mJ_s, mJ_I, mJ_D, mJ_F, mJ_rI, mJ_rn, mJ_rs, c7_I, c7_J])
    rcases def_eq (M := M) (tx := mI M 97) hl (fun j hj => (he j hj).1) (rd0 (sI (c7 M f F) 96 0 0)) rfl rfl rfl rfl with ⟨d1, d2⟩ | ⟨d1, d2, d3⟩
    · rw [← hE] at d1
      exact ⟨x, len, rfl, ⟨hF, by simp (disch := omega) only [mI_row, mI_k, mI_s, mI_J, mI_D, mI_F, mI_rJ, mI_rn, mI_rs, mJ_row, mJ_k, mJ_s, mJ_I, mJ_D, mJ_F, mJ_rI, mJ_rn, mJ_rs, c7_I, c7_J]; exact e2, hl⟩, fun z => absurd q1 z, fun _ _ Z => k _ (h0.same hF (fun a _ _ _ _ => by simp (disch := omega) only [mI_row, mI_k, mI_s, mI_J, mI_D, mI_F, mI_rJ, mI_rn, mI_rs, mJ_row, mJ_k, mJ_s, mJ_I, mJ_D, mJ_F, mJ_rI, mJ_rn, mJ_rs, c7_I, c7_J, rS_o, rS_96, rS_J]) (fun k hk => by simp (disch := omega) only [mI_row, mI_k, mI_s, mI_J, mI_D, mI_F, mI_rJ, mI_rn, mI_rs, mJ_row, mJ_k, mJ_s, mJ_I, mJ_D, mJ_F, mJ_rI, mJ_rn, mJ_rs, c7_I, c7_J, rS_o, rS_96, rS_J]) (fun a _ _ _ _ => by simp (disch := omega) only [mI_row, mI_k, mI_s, mI_J, mI_D, mI_F, mI_rJ, mI_rn, mI_rs, mJ_row, mJ_k, mJ_s, mJ_I, mJ_D, mJ_F, mJ_rI, mJ_rn, mJ_rs, c7_I, c7_J, rS_o, rS_96, rS_J])) mI_s, fun i hi ei z => absurd (d1.symm.trans z) (by decide)⟩
    · rw [q2] at d2; exact absurd d2 (by decide)
  · generalize hnm : (rdT M 1 len).2.2.2.1 = nm at k ⊢
    have ed : defM (c7 M f F) i nm = sI (sI (sI (rI (c7 M f F) (24 + 2 * i + 1) (va_cpy (mI M 2) (mI M (24 + 2 * i + 1)) 0 0 len)) (24 + 2 * i) 1 (nI len)) 4 i nm) 1 1 0 := by
      unfold defM copT
      have w1 : mI (c7 M f F) (1 + 1) = mI M 2 := c7_I (by decide)
      have w2 : mI (c7 M f F) (24 + 2 * i + 1) = mI M (24 + 2 * i + 1) := c7_I (by omega)
      have w3 : mI (c7 M f F) 1 1 = nI len := by rw [c7_I (by decide)]; exact e1
      rw [w1, w2, w3, clN (by omega), mI_rn (by omega), w3]
    rw [ed]
    generalize hn : bitC nm = n at k ⊢
    generalize hN : sJ (sI (sI (sI (rI (c7 M f F) (24 + 2 * i + 1) (va_cpy (mI M 2) (mI M (24 + 2 * i + 1)) 0 0 len)) (24 + 2 * i) 1 (nI len)) 4 i nm) 1 1 0) 122 0 n.toInt64 = N0
    have hE : rdE (sI N0 96 0 0) len = rdL (mI M 97) len 41 2 (rd0 (sI N0 96 0 0)) := rdE_eq (by rw [← hN]; simp (disch := omega) only [mI_row, mI_k, mI_s, mI_J, mI_D, mI_F, mI_rJ, mI_rn, mI_rs, mJ_row, mJ_k, mJ_s, mJ_I, mJ_D, mJ_F, mJ_rI, mJ_rn, mJ_rs, c7_I, c7_J])
    rcases def_eq (M := M) (tx := mI M 97) hl (fun j hj => (he j hj).1) (rd0 (sI N0 96 0 0)) rfl rfl rfl rfl with ⟨d1, d2⟩ | ⟨d1, d2, d3⟩
    · rw [q] at d2; exact absurd d2 (by decide)
    rw [← hE] at d1 d3
    have hlp : 0 < len := tB_pos (tx := mI M 97) (s := rd0 (sI N0 96 0 0)) rfl (by rw [← hE]; exact d1)
    have z1 := tZ_inv (M := sI N0 96 0 0) hl
    have z2 := tZ_at d1
    have z3 : (tZ len (rdE (sI N0 96 0 0) len)).2.2.2.2.1 ≤ 40 := by
      have := z1.2.1
      omega
    have hlo := line_def (tx := mI M 97) hl (st0 := rd0 (sI N0 96 0 0)) rfl rfl rfl rfl (by rw [← hE]; omega) (by rw [← hE]; exact d1)
    rw [← hE] at hlo
    have hF0 : Full N0 := by rw [← hN]; exact hF
    refine ⟨x, len, rfl, ⟨hF0, by rw [← hN]; simp (disch := omega) only [mI_row, mI_k, mI_s, mI_J, mI_D, mI_F, mI_rJ, mI_rn, mI_rs, mJ_row, mJ_k, mJ_s, mJ_I, mJ_D, mJ_F, mJ_rI, mJ_rn, mJ_rs, c7_I, c7_J]; exact e2, hl⟩, fun z => absurd ⟨i, hi, ei⟩ z, fun _ z => absurd (d1.symm.trans z) (by decide), fun i' hi' ei' _ => ?_⟩
    have hij := nI_same hi hi' (by decide) ei ei'
    subst hij
    generalize tZ len (rdE (sI N0 96 0 0) len) = Z at d3 z3 hlo ⊢
    have hnz : nm = Z.2.2.2.2.2.2.2 := hnm.symm.trans d3
    obtain ⟨b, hb, eb⟩ := hlo.2.1
    have hbc : n = nI (bcN Z.2.2.2.2.2.2.2 12) := by rw [← hn, hnz, eb, bit_eq hb]
    rw [← hbc]
    unfold dfM dfL dfD
    refine k _ ⟨hF0, ?_, ?_, hT.same (fun a ha => by rw [← hN]; simp (disch := omega) only [mI_row, mI_k, mI_s, mI_J, mI_D, mI_F, mI_rJ, mI_rn, mI_rs, mJ_row, mJ_k, mJ_s, mJ_I, mJ_D, mJ_F, mJ_rI, mJ_rn, mJ_rs, c7_I, c7_J, rS_o, rS_96, rS_J]), hO.same (by rw [← hN]; simp (disch := omega) only [mI_row, mI_k, mI_s, mI_J, mI_D, mI_F, mI_rJ, mI_rn, mI_rs, mJ_row, mJ_k, mJ_s, mJ_I, mJ_D, mJ_F, mJ_rI, mJ_rn, mJ_rs, c7_I, c7_J, rS_o, rS_96, rS_J]) (by rw [← hN]; simp (disch := omega) only [mI_row, mI_k, mI_s, mI_J, mI_D, mI_F, mI_rJ, mI_rn, mI_rs, mJ_row, mJ_k, mJ_s, mJ_I, mJ_D, mJ_F, mJ_rI, mJ_rn, mJ_rs, c7_I, c7_J, rS_o, rS_96, rS_J]) (by rw [← hN]; simp (disch := omega) only [mI_row, mI_k, mI_s, mI_J, mI_D, mI_F, mI_rJ, mI_rn, mI_rs, mJ_row, mJ_k, mJ_s, mJ_I, mJ_D, mJ_F, mJ_rI, mJ_rn, mJ_rs, c7_I, c7_J, rS_o, rS_96, rS_J]), hR.same (fun a ha => by rw [← hN]; simp (disch := omega) only [mI_row, mI_k, mI_s, mI_J, mI_D, mI_F, mI_rJ, mI_rn, mI_rs, mJ_row, mJ_k, mJ_s, mJ_I, mJ_D, mJ_F, mJ_rI, mJ_rn, mJ_rs, c7_I, c7_J, rS_o, rS_96, rS_J]) (fun a ha => by rw [← hN]; simp (disch := omega) only [mI_row, mI_k, mI_s, mI_J, mI_D, mI_F, mI_rJ, mI_rn, mI_rs, mJ_row, mJ_k, mJ_s, mJ_I, mJ_D, mJ_F, mJ_rI, mJ_rn, mJ_rs, c7_I, c7_J, rS_o, rS_96, rS_J]), hA.same (fun a ha => by rw [← hN]; simp (disch := omega) only [mI_row, mI_k, mI_s, mI_J, mI_D, mI_F, mI_rJ, mI_rn, mI_rs, mJ_row, mJ_k, mJ_s, mJ_I, mJ_D, mJ_F, mJ_rI, mJ_rn, mJ_rs, c7_I, c7_J, rS_o, rS_96, rS_J]) (fun a ha => by rw [← hN]; simp (disch := omega) only [mI_row, mI_k, mI_s, mI_J, mI_D, mI_F, mI_rJ, mI_rn, mI_rs, mJ_row, mJ_k, mJ_s, mJ_I, mJ_D, mJ_F, mJ_rI, mJ_rn, mJ_rs, c7_I, c7_J, rS_o, rS_96, rS_J]), hNN.same (by rw [← hN]; simp (disch := omega) only [mI_row, mI_k, mI_s, mI_J, mI_D, mI_F, mI_rJ, mI_rn, mI_rs, mJ_row, mJ_k, mJ_s, mJ_I, mJ_D, mJ_F, mJ_rI, mJ_rn, mJ_rs, c7_I, c7_J, rS_o, rS_96, rS_J])⟩ (by rw [← hN]; simp (disch := omega) only [mI_row, mI_k, mI_s, mI_J, mI_D, mI_F, mI_rJ, mI_rn, mI_rs, mJ_row, mJ_k, mJ_s, mJ_I, mJ_D, mJ_F, mJ_rI, mJ_rn, mJ_rs, c7_I, c7_J, rS_o, rS_96, rS_J]) (by rw [← hN]; simp (disch := omega) only [mI_row, mI_k, mI_s, mI_J, mI_D, mI_F, mI_rJ, mI_rn, mI_rs, mJ_row, mJ_k, mJ_s, mJ_I, mJ_D, mJ_F, mJ_rI, mJ_rn, mJ_rs, c7_I, c7_J, rS_o, rS_96, rS_J])
    · refine ⟨0, by omega, ?_, ?_, fun j hj => absurd hj (by omega)⟩
      · rw [← hN]; simp (disch := omega) only [mI_row, mI_k, mI_s, mI_J, mI_D, mI_F, mI_rJ, mI_rn, mI_rs, mJ_row, mJ_k, mJ_s, mJ_I, mJ_D, mJ_F, mJ_rI, mJ_rn, mJ_rs, c7_I, c7_J, rS_o, rS_96, rS_J]; rfl
      · simp (disch := omega) only [mI_row, mI_k, mI_s, mI_J, mI_D, mI_F, mI_rJ, mI_rn, mI_rs, mJ_row, mJ_k, mJ_s, mJ_I, mJ_D, mJ_F, mJ_rI, mJ_rn, mJ_rs, c7_I, c7_J, rS_o, rS_96, rS_J]; rfl
    · intro j hj
      by_cases hji : j = i
      · subst hji
        refine ⟨len, Z.2.2.2.2.1, hl, by omega, by rw [← hN]; simp (disch := omega) only [mI_row, mI_k, mI_s, mI_J, mI_D, mI_F, mI_rJ, mI_rn, mI_rs, mJ_row, mJ_k, mJ_s, mJ_I, mJ_D, mJ_F, mJ_rI, mJ_rn, mJ_rs, c7_I, c7_J, rS_o, rS_96, rS_J], by simp (disch := omega) only [mI_row, mI_k, mI_s, mI_J, mI_D, mI_F, mI_rJ, mI_rn, mI_rs, mJ_row, mJ_k, mJ_s, mJ_I, mJ_D, mJ_F, mJ_rI, mJ_rn, mJ_rs, c7_I, c7_J, rS_o, rS_96, rS_J], fun w hw => ?_, Or.inr ⟨by simp (disch := omega) only [mI_row, mI_k, mI_s, mI_J, mI_D, mI_F, mI_rJ, mI_rn, mI_rs, mJ_row, mJ_k, mJ_s, mJ_I, mJ_D, mJ_F, mJ_rI, mJ_rn, mJ_rs, c7_I, c7_J, rS_o, rS_96, rS_J], hlp, by rw [← hN]; simp (disch := omega) only [mI_row, mI_k, mI_s, mI_J, mI_D, mI_F, mI_rJ, mI_rn, mI_rs, mJ_row, mJ_k, mJ_s, mJ_I, mJ_D, mJ_F, mJ_rI, mJ_rn, mJ_rs, c7_I, c7_J, rS_o, rS_96, rS_J]; exact hnz, ?_⟩⟩
        · rw [← hN]
          simp (disch := omega) only [mI_row, mI_k, mI_s, mI_J, mI_D, mI_F, mI_rJ, mI_rn, mI_rs, mJ_row, mJ_k, mJ_s, mJ_I, mJ_D, mJ_F, mJ_rI, mJ_rn, mJ_rs, c7_I, c7_J, rS_o, rS_96, rS_J]
          unfold va_cpy
          rw [if_pos (by omega), show 0 + (w - 0) = w by omega]
          exact (he w hw).2
        · have et : mI (sI (rI (rI (sI (sI (sI (rS (sI N0 96 0 0) Z) 98 j 1) 99 j Z.2.2.2.2.2.2.2) 100 j (nI Z.2.2.2.2.1)) 101 (cpR (mI (sI N0 96 0 0) 101) Z.2.2.2.2.2.1 j Z.2.2.2.2.1)) 102 (cpR (mI (sI N0 96 0 0) 102) Z.2.2.2.2.2.2.1 j Z.2.2.2.2.1)) 96 2 0) 99 j = Z.2.2.2.2.2.2.2 := by simp (disch := omega) only [mI_row, mI_k, mI_s, mI_J, mI_D, mI_F, mI_rJ, mI_rn, mI_rs, mJ_row, mJ_k, mJ_s, mJ_I, mJ_D, mJ_F, mJ_rI, mJ_rn, mJ_rs, c7_I, c7_J, rS_o, rS_96, rS_J]
          rw [et]
          refine hlo.cg (fun w hw => ?_) (fun w hw => ?_)
          · rw [← hN]
            simp (disch := omega) only [mI_row, mI_k, mI_s, mI_J, mI_D, mI_F, mI_rJ, mI_rn, mI_rs, mJ_row, mJ_k, mJ_s, mJ_I, mJ_D, mJ_F, mJ_rI, mJ_rn, mJ_rs, c7_I, c7_J, rS_o, rS_96, rS_J]
            unfold va_cpy
            rw [if_pos (by omega), show 0 + (w - 0) = w by omega]
            exact (he w hw).1
          · simp (disch := omega) only [mI_row, mI_k, mI_s, mI_J, mI_D, mI_F, mI_rJ, mI_rn, mI_rs, mJ_row, mJ_k, mJ_s, mJ_I, mJ_D, mJ_F, mJ_rI, mJ_rn, mJ_rs, c7_I, c7_J, rS_o, rS_96, rS_J]
            unfold cpR
            rw [if_pos (by omega), if_pos (by omega), show 48 * j + w - 48 * j = w by omega]
            exact ⟨rfl, rfl⟩
      · obtain ⟨len', st', l1, l2, l3, l4, l5, l6⟩ := hL j hj
        refine ⟨len', st', l1, l2, by rw [← hN]; simp (disch := omega) only [mI_row, mI_k, mI_s, mI_J, mI_D, mI_F, mI_rJ, mI_rn, mI_rs, mJ_row, mJ_k, mJ_s, mJ_I, mJ_D, mJ_F, mJ_rI, mJ_rn, mJ_rs, c7_I, c7_J, rS_o, rS_96, rS_J]; exact l3, by rw [← hN]; simp (disch := omega) only [mI_row, mI_k, mI_s, mI_J, mI_D, mI_F, mI_rJ, mI_rn, mI_rs, mJ_row, mJ_k, mJ_s, mJ_I, mJ_D, mJ_F, mJ_rI, mJ_rn, mJ_rs, c7_I, c7_J, rS_o, rS_96, rS_J]; exact l4, fun w hw => by rw [← hN]; simp (disch := omega) only [mI_row, mI_k, mI_s, mI_J, mI_D, mI_F, mI_rJ, mI_rn, mI_rs, mJ_row, mJ_k, mJ_s, mJ_I, mJ_D, mJ_F, mJ_rI, mJ_rn, mJ_rs, c7_I, c7_J, rS_o, rS_96, rS_J]; exact l5 w hw, ?_⟩
        rcases l6 with ⟨y1, y2, y3⟩ | ⟨y1, y2, y3, y4⟩
        · exact Or.inl ⟨by rw [← hN]; simp (disch := omega) only [mI_row, mI_k, mI_s, mI_J, mI_D, mI_F, mI_rJ, mI_rn, mI_rs, mJ_row, mJ_k, mJ_s, mJ_I, mJ_D, mJ_F, mJ_rI, mJ_rn, mJ_rs, c7_I, c7_J, rS_o, rS_96, rS_J]; exact y1, y2, by rw [← hN]; simp (disch := omega) only [mI_row, mI_k, mI_s, mI_J, mI_D, mI_F, mI_rJ, mI_rn, mI_rs, mJ_row, mJ_k, mJ_s, mJ_I, mJ_D, mJ_F, mJ_rI, mJ_rn, mJ_rs, c7_I, c7_J, rS_o, rS_96, rS_J]; exact y3⟩
        · refine Or.inr ⟨by rw [← hN]; simp (disch := omega) only [mI_row, mI_k, mI_s, mI_J, mI_D, mI_F, mI_rJ, mI_rn, mI_rs, mJ_row, mJ_k, mJ_s, mJ_I, mJ_D, mJ_F, mJ_rI, mJ_rn, mJ_rs, c7_I, c7_J, rS_o, rS_96, rS_J]; exact y1, y2, by rw [← hN]; simp (disch := omega) only [mI_row, mI_k, mI_s, mI_J, mI_D, mI_F, mI_rJ, mI_rn, mI_rs, mJ_row, mJ_k, mJ_s, mJ_I, mJ_D, mJ_F, mJ_rI, mJ_rn, mJ_rs, c7_I, c7_J, rS_o, rS_96, rS_J]; exact y3, ?_⟩
          have et : mI (sI (rI (rI (sI (sI (sI (rS (sI N0 96 0 0) Z) 98 i 1) 99 i Z.2.2.2.2.2.2.2) 100 i (nI Z.2.2.2.2.1)) 101 (cpR (mI (sI N0 96 0 0) 101) Z.2.2.2.2.2.1 i Z.2.2.2.2.1)) 102 (cpR (mI (sI N0 96 0 0) 102) Z.2.2.2.2.2.2.1 i Z.2.2.2.2.1)) 96 2 0) 99 j = mI M 99 j := by rw [← hN]; simp (disch := omega) only [mI_row, mI_k, mI_s, mI_J, mI_D, mI_F, mI_rJ, mI_rn, mI_rs, mJ_row, mJ_k, mJ_s, mJ_I, mJ_D, mJ_F, mJ_rI, mJ_rn, mJ_rs, c7_I, c7_J, rS_o, rS_96, rS_J]
          rw [et]
          refine y4.cg (fun w hw => by rw [← hN]; simp (disch := omega) only [mI_row, mI_k, mI_s, mI_J, mI_D, mI_F, mI_rJ, mI_rn, mI_rs, mJ_row, mJ_k, mJ_s, mJ_I, mJ_D, mJ_F, mJ_rI, mJ_rn, mJ_rs, c7_I, c7_J, rS_o, rS_96, rS_J]) (fun w hw => ?_)
          have hst := y4.1
          rw [← hN]
          simp (disch := omega) only [mI_row, mI_k, mI_s, mI_J, mI_D, mI_F, mI_rJ, mI_rn, mI_rs, mJ_row, mJ_k, mJ_s, mJ_I, mJ_D, mJ_F, mJ_rI, mJ_rn, mJ_rs, c7_I, c7_J, rS_o, rS_96, rS_J]
          unfold cpR
          rw [if_neg (by omega), if_neg (by omega)]
          exact ⟨rfl, rfl⟩
