/-! UNITS: the lesser and the greater of two *-/
section
variable {tx : Nat → Int32} {len n d : Nat} {s : RS}
theorem bk_2 {b : Int32} (h : b = 2 ∨ b = 3 ∨ b = 4 ∨ b = 5) : bk b := by rcases h with rfl | rfl | rfl | rfl <;> (unfold bk; decide)
theorem min_eq (x y : Int64) : (if x < y then x else y) = minL x y := by
  unfold minL
  by_cases h : x < y
  · rw [if_pos h, if_neg (fun q => Int64.lt_irrefl (Int64.lt_trans h q))]
  · rw [if_neg h]
    by_cases q : y < x
    · rw [if_pos q]
    · rw [if_neg q]
      exact Int64.le_antisymm (Int64.not_lt.mp h) (Int64.not_lt.mp q)
theorem max_eq (x y : Int64) : (if y < x then x else y) = maxL x y := by
  unfold maxL
  by_cases h : y < x
  · rw [if_pos h, if_neg (fun q => Int64.lt_irrefl (Int64.lt_trans q h))]
  · rw [if_neg h]
    by_cases q : x < y
    · rw [if_pos q]
    · rw [if_neg q]
      exact Int64.le_antisymm (Int64.not_lt.mp q) (Int64.not_lt.mp h)
theorem or_ov (ov lv a b : Bool) : ((ov || (lv && a)) || (lv && b)) = (ov || (lv && (a || b))) := by cases lv <;> cases ov <;> cases a <;> cases b <;> rfl
theorem inR_min {x y : Int64} (h1 : inR x = true) (h2 : inR y = true) : inR (minL x y) = true := by unfold minL; split <;> assumption
theorem inR_max {x y : Int64} (h1 : inR x = true) (h2 : inR y = true) : inR (maxL x y) = true := by unfold maxL; split <;> assumption
theorem U_two (hI : IHF tx len n) (h40 : len ≤ 40) (ha : s.1 < len) (hRI : RI s) (hna : 40 ≤ n + s.1) (hd : d < 4) (hdp : dpN s.2.2.1 s.2.1 = d) {c : Int32} (hc : lkR tx len s.1 = c) (hcc : c = 109 ∨ c = 120) : Bd tx len (fU tx len n d) s ∨ Rs tx len (fU tx len n d) s CU := by
  have hbg := bg_inv (tx := tx) h40 ha hRI
  have hnm : isNm c = false := by rcases hcc with rfl | rfl <;> decide
  have hdg : isDg c = false := by rcases hcc with rfl | rfl <;> decide
  have hc40 : ¬ c = 40 := by rcases hcc with rfl | rfl <;> decide
  have hf0 : ∀ V lv ov, fU tx len n d V lv (s.1, false, s.2.2.2.2.2.2.2, ov) = rTwo (mkE tx len V) (rForm (mkE tx len V) n) (d + 1) lv (s.1, false, s.2.2.2.2.2.2.2, ov) := by
    intro V lv ov
    rw [fU_br hc hnm hdg hd, if_neg hc40, if_pos hcc]
  by_cases h40c : lkR tx len (s.1 + 1) = 40
  rotate_left
  · have e0 : bgS tx len s = (0, s) := by
      unfold bgS
      rw [hc, if_neg (by rw [hnm]; decide), if_neg (by rw [hdg]; decide), if_neg (by omega), if_neg hc40, if_neg (fun q => h40c q.2), if_neg (fun q => by rcases hcc with z | z <;> rw [z] at q <;> exact absurd q.1 (by decide))]
    refine Or.inl ⟨fun V lv ov => ?_, Bad.go (by decide) ha (by rw [st_2, e0])⟩
    rw [hf0]
    have w1 : (rTwoA (mkE tx len V) (rForm (mkE tx len V) n) (d + 1) lv (s.1, false, s.2.2.2.2.2.2.2, ov)).2.2.1 = true := rForm_w n (ex_no (a := s.1 + 1) h40c)
    have w2 : (rTwoB (mkE tx len V) (rForm (mkE tx len V) n) (d + 1) lv (s.1, false, s.2.2.2.2.2.2.2, ov)).2.2.1 = true := rForm_w n (ex_w w1 (by decide))
    exact ex_w w2 (by decide)
  generalize hbd : (if c = 109 then (2 : Int32) else 3) = b
  have hb23 : b = 2 ∨ b = 3 := by rw [← hbd]; split; exact Or.inl rfl; exact Or.inr rfl
  have e0 : bgS tx len s = (2, atS (ptS s b 0) (s.1 + 2)) := by
    unfold bgS
    rw [hc, if_neg (by rw [hnm]; decide), if_neg (by rw [hdg]; decide), if_neg (by omega), if_neg hc40, if_pos ⟨hcc, h40c⟩, hbd]
  rw [e0] at hbg
  have hl2 := lk_lt (tx := tx) (len := len) (i := s.1 + 1) (by rw [h40c]; decide)
  have hrc : Rch tx len 2 s 2 (atS (ptS s b 0) (s.1 + 2)) := Rch.one (by decide) ha (by rw [st_2]; exact e0) (by show s.1 < s.1 + 2; omega) (by show s.1 + 2 ≤ len; omega)
  have hfA : ∀ V lv ov, rTwoA (mkE tx len V) (rForm (mkE tx len V) n) (d + 1) lv (s.1, false, s.2.2.2.2.2.2.2, ov) = fF tx len n (d + 1) V lv (s.1 + 2, false, s.2.2.2.2.2.2.2, ov) := by
    intro V lv ov
    unfold rTwoA
    rw [show inc1 (s.1, false, s.2.2.2.2.2.2.2, ov) = (s.1 + 1, false, s.2.2.2.2.2.2.2, ov) from rfl, ex_ok h40c]
    rfl
  rcases br_one (b := b) (mj := 0) (a := s.1 + 2) hI hd (bk_2 (by rcases hb23 with z | z; exact Or.inl z; exact Or.inr (Or.inl z))) (by rcases hb23 with z | z <;> rw [z] <;> decide) hdp (by omega) (by omega) hbg.1 with hB | hR
  · refine Or.inl ⟨fun V lv ov => ?_, Bad.rch hrc hB.2⟩
    rw [hf0]
    have w1 : (rTwoA (mkE tx len V) (rForm (mkE tx len V) n) (d + 1) lv (s.1, false, s.2.2.2.2.2.2.2, ov)).2.2.1 = true := by rw [hfA]; exact hB.1 V lv ov
    have w2 : (rTwoB (mkE tx len V) (rForm (mkE tx len V) n) (d + 1) lv (s.1, false, s.2.2.2.2.2.2.2, ov)).2.2.1 = true := rForm_w n (ex_w w1 (by decide))
    exact ex_w w2 (by decide)
  obtain ⟨nm1, v1, o1, x, s', s'', r1, r2, r3, r4, r5, r6, r7, r8, r9, r10, r11⟩ := hR
  obtain ⟨⟨f1, f2⟩, f3, f4, f5⟩ := fr_in r7
  have hk := r3.2.1.keep
  have hb : s'.2.2.1 s.2.1 = b := by rw [← hk.2.2.1]; exact f1
  have hbb : bk (s'.2.2.1 s.2.1) := by rw [hb]; exact bk_2 (by rcases hb23 with z | z; exact Or.inl z; exact Or.inr (Or.inl z))
  have hal : s'.1 ≤ len := by obtain ⟨_, _, q, _⟩ := r2; exact q
  have r4' : s.1 + 2 < s'.1 := r4
  have hA1 : ∀ V lv ov, rTwoA (mkE tx len V) (rForm (mkE tx len V) n) (d + 1) lv (s.1, false, s.2.2.2.2.2.2.2, ov) = (v1 V, (s'.1, false, nm1, ov || (lv && o1 V))) := fun V lv ov => by rw [hfA]; exact r1 V lv ov
  by_cases hc2 : lkR tx len s'.1 = 44
  rotate_left
  · refine Or.inl ⟨fun V lv ov => ?_, Bad.rch (hrc.trans r2) (end_bad r3 hbb hal (by rw [hb]; rintro (q | q | q); (rcases hb23 with z | z <;> rw [z] at q <;> exact absurd q.2 (by decide)); exact hc2 q.1; (rcases hb23 with z | z <;> rw [z] at q <;> exact absurd q.2 (by decide))))⟩
    rw [hf0]
    have w2 : (rTwoB (mkE tx len V) (rForm (mkE tx len V) n) (d + 1) lv (s.1, false, s.2.2.2.2.2.2.2, ov)).2.2.1 = true := by
      unfold rTwoB
      rw [hA1]
      exact rForm_w n (ex_no hc2)
    exact ex_w w2 (by decide)
  have hlt := lk_lt (tx := tx) (len := len) (i := s'.1) (by rw [hc2]; decide)
  have est := end_ok r3 hbb (Or.inr (Or.inl hc2))
  have hst := st_inv (tx := tx) (x := x) h40 hlt r10
  have htp : tpS (atS s'' (s'.1 + 1)) = b := (cl_ok r3.2.1 hbb).2.2.trans hb
  have hsg : s''.2.1 = s.2.1 + 1 := hk.2.1
  have een : enT 44 (atS s'' (s'.1 + 1)) = (2, atS (ptS (popS s'') (b + 2) 0) (s'.1 + 1)) := by
    unfold enT
    rw [htp, if_neg (fun q => absurd q.1 (by decide)), if_pos ⟨rfl, hb23⟩]
    rfl
  rw [hc2, een] at est
  rw [est] at hst
  have hrc2 := hrc.trans (r2.trans (Rch.one (x_pos r3.1) hlt est (Nat.lt_succ_self _) hlt))
  have hb45 : b + 2 = 4 ∨ b + 2 = 5 := by rcases hb23 with z | z <;> rw [z] <;> decide
  have hpg : (popS s'').2.1 = s.2.1 := by show s''.2.1 - 1 = s.2.1; rw [hsg]; rfl
  have hfB : ∀ V lv ov, rTwoB (mkE tx len V) (rForm (mkE tx len V) n) (d + 1) lv (s.1, false, s.2.2.2.2.2.2.2, ov) = fF tx len n (d + 1) V lv (s'.1 + 1, false, nm1, ov || (lv && o1 V)) := by
    intro V lv ov
    unfold rTwoB
    rw [hA1, ex_ok hc2]
    rfl
  have hli : (atS (ptS (popS s'') (b + 2) 0) (s'.1 + 1)).2.2.2.2.2.2.2 = nm1 := r6
  rcases br_one (s := popS s'') (b := b + 2) (mj := 0) (a := s'.1 + 1) hI hd (bk_2 (by rcases hb45 with z | z; exact Or.inr (Or.inr (Or.inl z)); exact Or.inr (Or.inr (Or.inr z)))) (by rcases hb45 with z | z <;> rw [z] <;> decide) (by rw [hpg, ← hdp]; exact dpN_congr _ (fun k hk9 => (f3 k hk9).1)) hlt (by omega) hst.1 with hB | hR
  · refine Or.inl ⟨fun V lv ov => ?_, Bad.rch hrc2 hB.2⟩
    rw [hf0]
    have w2 : (rTwoB (mkE tx len V) (rForm (mkE tx len V) n) (d + 1) lv (s.1, false, s.2.2.2.2.2.2.2, ov)).2.2.1 = true := by
      rw [hfB]
      have z := hB.1 V lv (ov || (lv && o1 V))
      rw [hli] at z
      exact z
    exact ex_w w2 (by decide)
  obtain ⟨nm2, v2, o2, y, t', t'', p1, p2, p3, p4, p5, p6, p7, p8, p9, p10, p11⟩ := hR
  obtain ⟨⟨u1, u2⟩, u3, u4, u5⟩ := fr_in p7
  rw [hpg] at u1 u2 u3 p3
  have hk2 := p3.2.1.keep
  have hb2 : t'.2.2.1 s.2.1 = b + 2 := by rw [← hk2.2.2.1]; exact u1
  have hbb2 : bk (t'.2.2.1 s.2.1) := by rw [hb2]; exact bk_2 (by rcases hb45 with z | z; exact Or.inr (Or.inr (Or.inl z)); exact Or.inr (Or.inr (Or.inr z)))
  have hal2 : t'.1 ≤ len := by obtain ⟨_, _, q, _⟩ := p2; exact q
  have p4' : s'.1 + 1 < t'.1 := p4
  have hB2 : ∀ V lv ov, rTwoB (mkE tx len V) (rForm (mkE tx len V) n) (d + 1) lv (s.1, false, s.2.2.2.2.2.2.2, ov) = (v2 V, (t'.1, false, nm2, (ov || (lv && o1 V)) || (lv && o2 V))) := fun V lv ov => by
    rw [hfB]
    have z := p1 V lv (ov || (lv && o1 V))
    rw [hli] at z
    exact z
  by_cases hc3 : lkR tx len t'.1 = 41
  rotate_left
  · refine Or.inl ⟨fun V lv ov => ?_, Bad.rch (hrc2.trans p2) (end_bad p3 hbb2 hal2 (by rw [hb2]; rintro (q | q | q); (rcases hb45 with z | z <;> rw [z] at q <;> exact absurd q.2 (by decide)); (rcases hb45 with z | z <;> rw [z] at q <;> exact absurd q.2 (by decide)); exact hc3 q.1))⟩
    rw [hf0]
    show (ex _ 41 (rTwoB (mkE tx len V) (rForm (mkE tx len V) n) (d + 1) lv (s.1, false, s.2.2.2.2.2.2.2, ov)).2).2.1 = true
    rw [hB2]
    exact ex_no hc3
  have hlt2 := lk_lt (tx := tx) (len := len) (i := t'.1) (by rw [hc3]; decide)
  have est2 := end_ok p3 hbb2 (Or.inl hc3)
  have hst2 := st_inv (tx := tx) (x := y) h40 hlt2 p10
  have htp2 : tpS (atS t'' (t'.1 + 1)) = b + 2 := (cl_ok p3.2.1 hbb2).2.2.trans hb2
  have hsg2 : t''.2.1 = s.2.1 + 1 := hk2.2.1
  generalize hod : (if b + 2 = 4 then (3 : Nat) else 4) = o
  have ho : o = 3 ∨ o = 4 := by rw [← hod]; split; exact Or.inl rfl; exact Or.inr rfl
  have een2 : enT 41 (atS t'' (t'.1 + 1)) = (1, mkS (popS (atS t'' (t'.1 + 1))) (nI o) 0) := by
    unfold enT
    rw [htp2, if_neg (fun q => absurd q.1 (by decide)), if_neg (fun q => absurd q.1 (by decide)), if_pos ⟨rfl, (by rcases hb45 with z | z; exact Or.inr (Or.inl z); exact Or.inr (Or.inr (Or.inl z)))⟩, if_neg (by rcases hb45 with z | z <;> rw [z] <;> decide), show (atS t'' (t'.1 + 1)).2.2.2.1 ((atS t'' (t'.1 + 1)).2.1 - 1) = t''.2.2.2.1 (t''.2.1 - 1) from rfl, hsg2, Nat.add_sub_cancel, u2]
    rcases hb45 with z | z
    · rw [← hod, if_pos z, if_pos z]; rfl
    · rw [← hod, if_neg (by rw [z]; decide), if_pos z, if_neg (by rw [z]; decide)]; rfl
  rw [hc3, een2] at est2
  rw [est2] at hst2
  have u4' : s''.2.2.2.2.1 ≤ t''.2.2.2.2.1 := u4
  refine Or.inr ⟨nm2, fun V => if c = 109 then minL (v1 V) (v2 V) else maxL (v1 V) (v2 V), fun V => o1 V || o2 V, 1, mkS (popS (atS t'' (t'.1 + 1))) (nI o) 0, mkS (popS (atS t'' (t'.1 + 1))) (nI o) 0, fun V lv ov => ?_, hrc2.trans (p2.trans (Rch.one (x_pos p3.1) hlt2 est2 (Nat.lt_succ_self _) hlt2)), ⟨rfl, rfl⟩, by show s.1 < t'.1 + 1; omega, rfl, p6, ⟨by show t''.2.1 - 1 = s.2.1; rw [hsg2]; rfl, fun k hk9 => ?_, by show s.2.2.2.2.1 ≤ t''.2.2.2.2.1 + 1; omega, fun k hk9 => ?_⟩, ?_, fun i hi q => p9 i hi (by rw [hli]; exact r9 i hi q), hst2.1, hst2.1⟩
  · rw [hf0]
    unfold rTwo
    rw [nx_k, hc, hA1, hB2, ex_ok hc3, or_ov]
    rfl
  · have q1 := u3 k hk9
    have q2 := f3 k hk9
    exact ⟨q1.1.trans q2.1, q1.2.trans q2.2⟩
  · have q1 := u5 k (by show k < s''.2.2.2.2.1; omega)
    have q2 := f5 k hk9
    exact ⟨(va_up_ne _ _ (by show k ≠ t''.2.2.2.2.1; omega)).trans (q1.1.trans q2.1), (va_up_ne _ _ (by show k ≠ t''.2.2.2.2.1; omega)).trans (q1.2.trans q2.2)⟩
  · have hs1 : Sem (mkS (popS (atS t'' (t'.1 + 1))) (nI o) 0).2.2.2.2.2.1 (mkS (popS (atS t'' (t'.1 + 1))) (nI o) 0).2.2.2.2.2.2.1 s.2.2.2.2.1 s''.2.2.2.2.1 nm2 v1 o1 := by
      refine r8.fr (fun k q1 q2 => ?_) (fun i hi q => p9 i hi (by rw [hli]; exact q))
      have z := u5 k q2
      exact ⟨(va_up_ne _ _ (by show k ≠ t''.2.2.2.2.1; omega)).trans z.1, (va_up_ne _ _ (by show k ≠ t''.2.2.2.2.1; omega)).trans z.2⟩
    have hs2 : Sem (mkS (popS (atS t'' (t'.1 + 1))) (nI o) 0).2.2.2.2.2.1 (mkS (popS (atS t'' (t'.1 + 1))) (nI o) 0).2.2.2.2.2.2.1 s''.2.2.2.2.1 t''.2.2.2.2.1 nm2 v2 o2 :=
      Sem.fr p8 (fun k q1 q2 => ⟨va_up_ne _ _ (by show k ≠ t''.2.2.2.2.1; omega), va_up_ne _ _ (by show k ≠ t''.2.2.2.2.1; omega)⟩) (fun _ _ q => q)
    refine sem_bin (o := o) hs1 hs2 (va_up_self _ _ _) (by omega) (by omega) (fun VC VR hA => ⟨fun q => by rw [Bool.or_eq_false_iff] at q; exact q, fun q1 q2 i1 i2 => ⟨fun _ => ?_, fun q => absurd q (by show ¬ (o1 VC || o2 VC) = true; rw [q1, q2]; decide)⟩⟩)
    by_cases h9 : c = 109
    · have hb2' : b = 2 := by rw [← hbd, if_pos h9]
      have ho3 : o = 3 := by rw [← hod, hb2']; rfl
      subst ho3
      show (if v1 VC < v2 VC then v1 VC else v2 VC) = (if c = 109 then minL (v1 VC) (v2 VC) else maxL (v1 VC) (v2 VC)) ∧ inR (if c = 109 then minL (v1 VC) (v2 VC) else maxL (v1 VC) (v2 VC)) = true
      rw [if_pos h9, min_eq]
      exact ⟨rfl, inR_min i1 i2⟩
    · have hb3' : b = 3 := by rw [← hbd, if_neg h9]
      have ho4 : o = 4 := by rw [← hod, hb3']; rfl
      subst ho4
      show (if v2 VC < v1 VC then v1 VC else v2 VC) = (if c = 109 then minL (v1 VC) (v2 VC) else maxL (v1 VC) (v2 VC)) ∧ inR (if c = 109 then minL (v1 VC) (v2 VC) else maxL (v1 VC) (v2 VC)) = true
      rw [if_neg h9, max_eq]
      exact ⟨rfl, inR_max i1 i2⟩
end
