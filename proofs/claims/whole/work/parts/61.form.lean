/-! FORMULAS *-/
section
variable {tx : Nat → Int32} {len n d : Nat}
theorem bk_9 : bk 9 := by unfold bk; decide
theorem elP_1 : ∀ (j : Nat) (s : RS), elP (j + 1) s = elP 1 (elP j s)
  | 0, _ => rfl
  | j + 1, s => elP_1 j (wiS (popS s) (s.2.2.2.1 (s.2.1 - 1)).toNatClampNeg (nI s.2.2.2.2.1))
theorem pend_else {g : Nat} {p' p'' : RS} (h : PendF (g + 1) p' p'') (hg : p'.2.2.1 g = 10) : PendF g p' (elP 1 p'') := by
  obtain ⟨j, s1, h1, h2, rfl⟩ := h
  refine ⟨j + 1, s1, by rw [show g + (j + 1) = g + 1 + j by omega]; exact h1, fun k q1 q2 => ?_, (elP_1 j s1).symm⟩
  by_cases hk : k = g
  · rw [hk]; exact hg
  · exact h2 k (by omega) (by omega)
theorem dp_put {s : RS} {w mj : Int32} {a : Nat} (hw : 6 < w) (h : dpN s.2.2.1 s.2.1 = d) : dpN (atS (ptS s w mj) a).2.2.1 (atS (ptS s w mj) a).2.1 = d := by
  show dpN (va_up s.2.2.1 s.2.1 w) (s.2.1 + 1) = d
  unfold dpN
  rw [va_up_self, if_neg (fun q => q hw), dpN_congr (g := s.2.2.1) s.2.1 (fun k hk => va_up_ne _ _ (by omega)), h]
/-- a comparison whose ? is missing *-/
theorem cmp_bad {g : Nat} {y : Int32} {t' t'' : RS} (hC : CS2 tx len (g + 1) y t' t'') (hw : t'.2.2.1 g = 7 ∨ t'.2.2.1 g = 8) (ha : t'.1 ≤ len) (hc : ¬ lkR tx len t'.1 = 63) : Bad tx len y t' := by
  obtain ⟨hy, hP, h42, h43⟩ := hC
  have hno : NoS t' (g + 1) := Or.inr (by show ¬ (t'.2.2.1 g = 11 ∨ t'.2.2.1 g = 12); rcases hw with z | z <;> rw [z] <;> decide)
  have hcl : clS t' = t'' := cl_pend ⟨0, t'', hP, fun k q1 q2 => by omega, rfl⟩ (Or.inr (by show ¬ (t'.2.2.1 g = 10 ∨ t'.2.2.1 g = 11 ∨ t'.2.2.1 g = 12); rcases hw with z | z <;> rw [z] <;> decide))
  have hk := hP.keep
  have htp : tpS t'' = t'.2.2.1 g := by rw [tp_at hk.2.1, hk.2.2.1]
  have hcb : clB t' = false := by
    unfold clB
    rw [hcl, htp]
    rcases hw with z | z <;> rw [z] <;> decide
  by_cases hl : t'.1 < len
  · refine Bad.go (x_pos hy) hl ?_
    rw [st_go hy]
    by_cases q1 : lkR tx len t'.1 = 42
    · rw [h42 q1]
      unfold goS
      rw [if_pos q1]
      show (if decide ((3 : Int32) = 3) = false ∧ t'.1 + 1 < (goN tx len t').2 ∧ lkR tx len (goN tx len t').2 = 37 then (3 : Int32) else 0) = 0
      rw [if_neg (fun z => absurd z.1 (by decide))]
    unfold goS
    rw [if_neg q1, if_neg h43]
    by_cases q3 : lkR tx len t'.1 = 60 ∨ lkR tx len t'.1 = 62
    · rw [if_pos q3, if_pos (by rw [go_T hP hno]; show tpS t'' = 7 ∨ tpS t'' = 8; rw [htp]; exact hw)]
    rw [if_neg q3, if_neg hc]
    unfold enS
    rw [clB_at, hcb, if_neg (by decide)]
  · refine Bad.fin (by omega) ?_
    unfold tB
    split
    · show (clB t' && decide ((clS t').2.1 = 0)) = false
      rw [hcb, Bool.false_and]
    · rfl
theorem or_con (ov lv a b h c e : Bool) : (((ov || (lv && a)) || (lv && b)) || ((lv && h) && c) || ((lv && !h) && e)) = (ov || (lv && (a || b || (if h = true then c else e)))) := by cases lv <;> cases ov <;> cases a <;> cases b <;> cases h <;> cases c <;> cases e <;> rfl
theorem F_step (hp : Pct) (h40 : len ≤ 40) (hI : IHF tx len n) : IHF tx len (n + 1) := by
  intro d s hd hRI hal hna hdp htop
  have hno : NoS s s.2.1 := by
    rcases htop with q | q
    · exact Or.inl q
    · exact Or.inr (by rintro (z | z); exact q.2.2.1 z; exact q.2.2.2 z)
  have hf : ∀ V lv st, fF tx len (n + 1) d V lv st = rForm1 (mkE tx len V) (rForm (mkE tx len V) n) d lv st := fun _ _ _ => rfl
  rcases S_all hp hI h40 hal hRI (by omega) hd hdp hno with hB | hR
  · refine Or.inl ⟨fun V lv ov => ?_, hB.2⟩
    have hw : (rSum (mkE tx len V) (rForm (mkE tx len V) n) d lv (s.1, false, s.2.2.2.2.2.2.2, ov)).2.2.1 = true := hB.1 V lv ov
    rw [hf]
    unfold rForm1
    rw [if_neg (by rw [nx_w hw]; decide), if_neg (by rw [nx_w hw]; decide)]
    exact hw
  obtain ⟨nm1, v1, o1, x, s', s'', a1, a2, a3, a4, a5, a6, a7, a8, a9, a10, a11⟩ := hR
  have hS1 : ∀ V lv ov, rSum (mkE tx len V) (rForm (mkE tx len V) n) d lv (s.1, false, s.2.2.2.2.2.2.2, ov) = (v1 V, (s'.1, false, nm1, ov || (lv && o1 V))) := a1
  have hsl : s'.1 ≤ len := by obtain ⟨_, _, q, _⟩ := a2; exact q
  by_cases hc : lkR tx len s'.1 = 60 ∨ lkR tx len s'.1 = 62
  rotate_left
  · refine Or.inr ⟨nm1, v1, o1, x, s', s'', fun V lv ov => ?_, a2, ⟨a3.1, ⟨0, s'', a3.2.1, fun k q1 q2 => by omega, rfl⟩, a3.2.2.1, a3.2.2.2, hc⟩, a4, a5, a6, a7, a8, a9, a10, a11⟩
    rw [hf]
    unfold rForm1
    rw [hS1, nx_k, if_neg (fun q => hc (Or.inl q)), if_neg (fun q => hc (Or.inr q))]
  -- a comparison
  have hlt := lk_lt (tx := tx) (len := len) (i := s'.1) (by rcases hc with z | z <;> rw [z] <;> decide)
  have hkp := a3.2.1.keep
  have hsg : s''.2.1 = s.2.1 := a7.1
  have hno' : NoS s' s.2.1 := by
    rcases nos_of a7 hno with q | q
    · exact Or.inl q
    · exact Or.inr (by rw [← hkp.2.2.1]; exact q)
  generalize hw : (if lkR tx len s'.1 = 60 then (7 : Int32) else 8) = w
  have hw2 : w = 7 ∨ w = 8 := by rw [← hw]; split; exact Or.inl rfl; exact Or.inr rfl
  have est : rdSt tx len x s' = (2, atS (ptS s'' w 0) (s'.1 + 1)) := by
    rw [st_go a3.1]
    unfold goS
    rw [if_neg (by rcases hc with z | z <;> rw [z] <;> decide), if_neg (by rcases hc with z | z <;> rw [z] <;> decide), if_pos hc, go_T a3.2.1 hno', if_neg, hw]
    · rfl
    · show ¬ (tpS s'' = 7 ∨ tpS s'' = 8)
      unfold tpS
      rw [hsg]
      by_cases hg : s.2.1 = 0
      · rw [if_pos hg]; decide
      · rw [if_neg hg, (a7.2.1 (s.2.1 - 1) (by omega)).1]
        rcases htop with q | q
        · exact absurd q hg
        · rintro (z | z); exact q.1 z; exact q.2.1 z
  have hst := st_inv (tx := tx) (x := x) h40 hlt a10
  rw [est] at hst
  have hrc := a2.trans (Rch.one (x_pos a3.1) hlt est (Nat.lt_succ_self _) hlt)
  have hdp1 : dpN s''.2.2.1 s''.2.1 = d := by rw [hsg, ← hdp]; exact dpN_congr _ (fun k hk => (a7.2.1 k hk).1)
  have hli1 : (atS (ptS s'' w 0) (s'.1 + 1)).2.2.2.2.2.2.2 = nm1 := a6
  -- the class at a comparison
  have hrow : ∀ V lv ov, fF tx len (n + 1) d V lv (s.1, false, s.2.2.2.2.2.2.2, ov) = rCon (mkE tx len V) (rForm (mkE tx len V) n) d lv (if w = 7 then decide (v1 V < (fS tx len n d V lv (s'.1 + 1, false, nm1, ov || (lv && o1 V))).1) else decide ((fS tx len n d V lv (s'.1 + 1, false, nm1, ov || (lv && o1 V))).1 < v1 V)) (fS tx len n d V lv (s'.1 + 1, false, nm1, ov || (lv && o1 V))).2 := by
    intro V lv ov
    rw [hf]
    unfold rForm1
    rw [hS1, nx_k]
    by_cases q : lkR tx len s'.1 = 60
    · rw [if_pos q, ← hw, if_pos q, if_pos rfl]
      rfl
    · rw [if_neg q, if_pos (hc.resolve_left q), ← hw, if_neg q, if_neg (by decide)]
      rfl
  rcases S_all (s := atS (ptS s'' w 0) (s'.1 + 1)) hp hI h40 hlt hst.1 (by show 40 ≤ n + (s'.1 + 1); omega) hd (dp_put (by rcases hw2 with z | z <;> rw [z] <;> decide) hdp1) (Or.inr (by show ¬ (va_up s''.2.2.1 s''.2.1 w s''.2.1 = 11 ∨ va_up s''.2.2.1 s''.2.1 w s''.2.1 = 12); rw [va_up_self]; rcases hw2 with z | z <;> rw [z] <;> decide)) with hB | hR
  · refine Or.inl ⟨fun V lv ov => ?_, Bad.rch hrc hB.2⟩
    rw [hrow]
    refine rCon_w (Or.inl ?_)
    have z := hB.1 V lv (ov || (lv && o1 V))
    rw [hli1] at z
    exact z
  obtain ⟨nm2, v2, o2, y, t', t'', b1, b2, b3, b4, b5, b6, b7, b8, b9, b10, b11⟩ := hR
  have b1' : ∀ V lv ov, fS tx len n d V lv (s'.1 + 1, false, nm1, ov) = (v2 V, (t'.1, false, nm2, ov || (lv && o2 V))) := fun V lv ov => by
    have z := b1 V lv ov
    rw [hli1] at z
    exact z
  have b4' : s'.1 + 1 < t'.1 := b4
  have htl : t'.1 ≤ len := by obtain ⟨_, _, q, _⟩ := b2; exact q
  have hCt : CS2 tx len (s.2.1 + 1) y t' t'' := by
    have z := b3
    rw [show (atS (ptS s'' w 0) (s'.1 + 1)).2.1 = s.2.1 + 1 from by show s''.2.1 + 1 = _; rw [hsg]] at z
    exact z
  have hkt := hCt.2.1.keep
  have b7r : Fr (atS (ptS s'' w 0) (s'.1 + 1)) t'' (s''.2.1 + 1) := b7
  obtain ⟨⟨g1, g2⟩, g3, g4, g5⟩ := fr_in b7r
  rw [hsg] at g1 g2 g3
  have htw : t'.2.2.1 s.2.1 = w := by rw [← hkt.2.2.1]; exact g1
  have htw2 : t'.2.2.1 s.2.1 = 7 ∨ t'.2.2.1 s.2.1 = 8 := by rw [htw]; exact hw2
  generalize hhold : (fun V : VV => if w = 7 then decide (v1 V < v2 V) else decide (v2 V < v1 V)) = hold
  have hrow2 : ∀ V lv ov, fF tx len (n + 1) d V lv (s.1, false, s.2.2.2.2.2.2.2, ov) = rCon (mkE tx len V) (rForm (mkE tx len V) n) d lv (hold V) (t'.1, false, nm2, (ov || (lv && o1 V)) || (lv && o2 V)) := by
    intro V lv ov
    rw [hrow, b1', ← hhold]
  by_cases h63 : lkR tx len t'.1 = 63
  rotate_left
  · refine Or.inl ⟨fun V lv ov => ?_, Bad.rch (hrc.trans b2) (cmp_bad hCt htw2 htl h63)⟩
    rw [hrow2]
    exact rCon_w (Or.inr (Or.inl (by rw [nx_k]; exact h63)))
  have hlt2 := lk_lt (tx := tx) (len := len) (i := t'.1) (by rw [h63]; decide)
  have hnot : NoS t' (s.2.1 + 1) := Or.inr (by show ¬ (t'.2.2.1 s.2.1 = 11 ∨ t'.2.2.1 s.2.1 = 12); rw [htw]; rcases hw2 with z | z <;> rw [z] <;> decide)
  have htp : tpS t'' = w := by rw [tp_at hkt.2.1, hkt.2.2.1]; exact htw
  generalize hod : (if w = 7 then (9 : Nat) else 10) = o
  have ho : o = 9 ∨ o = 10 := by rw [← hod]; split; exact Or.inl rfl; exact Or.inr rfl
  have hoI : (if w = 7 then (9 : Int32) else 10) = nI o := by rw [← hod]; split <;> rfl
  have est2 : rdSt tx len y t' = (2, atS (ptS (mkS (mkS (popS t'') (nI o) 0) 11 0) 9 (nI (t''.2.2.2.2.1 + 1))) (t'.1 + 1)) := by
    rw [st_go hCt.1]
    unfold goS
    rw [h63, if_neg (by decide), if_neg (by decide), if_neg (by decide), if_pos rfl, go_T hCt.2.1 hnot, if_pos (by show tpS t'' = 7 ∨ tpS t'' = 8; rw [htp]; exact hw2), show tpS (atS t'' (t'.1 + 1)) = w from htp, hoI]
    rfl
  have hst2 := st_inv (tx := tx) (x := y) h40 hlt2 b10
  rw [est2] at hst2
  have hrc2 := (hrc.trans b2).trans (Rch.one (x_pos hCt.1) hlt2 est2 (Nat.lt_succ_self _) hlt2)
  have hg1 : (popS t'').2.1 = s.2.1 := by show t''.2.1 - 1 = s.2.1; rw [hkt.2.1]; rfl
  have hdp2 : dpN (mkS (mkS (popS t'') (nI o) 0) 11 0).2.2.1 (mkS (mkS (popS t'') (nI o) 0) 11 0).2.1 = d := by
    show dpN t''.2.2.1 (popS t'').2.1 = d
    rw [hg1, ← hdp]
    exact dpN_congr _ (fun k hk => (g3 k hk).1.trans (a7.2.1 k hk).1)
  have hli2 : (atS (ptS (mkS (mkS (popS t'') (nI o) 0) 11 0) 9 (nI (t''.2.2.2.2.1 + 1))) (t'.1 + 1)).2.2.2.2.2.2.2 = nm2 := b6
  have hc1 : ∀ V lv ov, rCon1 (mkE tx len V) (rForm (mkE tx len V) n) d lv (hold V) (t'.1, false, nm2, ov) = fF tx len n d V (lv && hold V) (t'.1 + 1, false, nm2, ov) := by
    intro V lv ov
    unfold rCon1
    rw [ex_ok h63]
    rfl
  rcases hI d (atS (ptS (mkS (mkS (popS t'') (nI o) 0) 11 0) 9 (nI (t''.2.2.2.2.1 + 1))) (t'.1 + 1)) hd hst2.1 hlt2 (by show 41 ≤ n + (t'.1 + 1); omega) (dp_put (by decide) hdp2) (Or.inr (by show ¬ va_up _ (popS t'').2.1 9 (popS t'').2.1 = 7 ∧ ¬ va_up _ (popS t'').2.1 9 (popS t'').2.1 = 8 ∧ ¬ va_up _ (popS t'').2.1 9 (popS t'').2.1 = 11 ∧ ¬ va_up _ (popS t'').2.1 9 (popS t'').2.1 = 12; rw [va_up_self]; decide)) with hB | hR
  · refine Or.inl ⟨fun V lv ov => ?_, Bad.rch hrc2 hB.2⟩
    rw [hrow2]
    refine rCon_w (Or.inr (Or.inr (Or.inl ?_)))
    rw [hc1]
    have z := hB.1 V (lv && hold V) ((ov || (lv && o1 V)) || (lv && o2 V))
    rw [hli2] at z
    exact z
  obtain ⟨nm3, v3, o3, z, q', q'', c1, c2, c3, c4, c5, c6, c7, c8, c9, c10, c11⟩ := hR
  have c1' : ∀ V lv ov, fF tx len n d V lv (t'.1 + 1, false, nm2, ov) = (v3 V, (q'.1, false, nm3, ov || (lv && o3 V))) := fun V lv ov => by
    have z := c1 V lv ov
    rw [hli2] at z
    exact z
  have c4' : t'.1 + 1 < q'.1 := c4
  have hql : q'.1 ≤ len := by obtain ⟨_, _, u, _⟩ := c2; exact u
  have c7r : Fr (atS (ptS (mkS (mkS (popS t'') (nI o) 0) 11 0) 9 (nI (t''.2.2.2.2.1 + 1))) (t'.1 + 1)) q'' ((mkS (mkS (popS t'') (nI o) 0) 11 0).2.1 + 1) := c7
  obtain ⟨⟨e1, e2⟩, e3, e4, e5⟩ := fr_in c7r
  have hg2 : (mkS (mkS (popS t'') (nI o) 0) 11 0).2.1 = s.2.1 := hg1
  rw [hg2] at e1 e2 e3
  have hCq : CF tx len (s.2.1 + 1) z q' q'' := by
    have u := c3
    rw [show (atS (ptS (mkS (mkS (popS t'') (nI o) 0) 11 0) 9 (nI (t''.2.2.2.2.1 + 1))) (t'.1 + 1)).2.1 = s.2.1 + 1 from by show (popS t'').2.1 + 1 = _; rw [hg1]] at u
    exact u
  have hkq := hCq.2.1.keep
  have hq9 : q'.2.2.1 s.2.1 = 9 := by rw [← hkq.2.2.1]; exact e1
  have hbq : bk (q'.2.2.1 s.2.1) := by rw [hq9]; exact bk_9
  have hc1'' : ∀ V lv ov, rCon1 (mkE tx len V) (rForm (mkE tx len V) n) d lv (hold V) (t'.1, false, nm2, ov) = (v3 V, (q'.1, false, nm3, ov || ((lv && hold V) && o3 V))) := fun V lv ov => by rw [hc1, c1']
  by_cases h58 : lkR tx len q'.1 = 58
  rotate_left
  · refine Or.inl ⟨fun V lv ov => ?_, Bad.rch (hrc2.trans c2) (end_bad hCq hbq hql (by rw [hq9]; rintro (u | u | u); exact h58 u.1; exact absurd u.2 (by decide); exact absurd u.2 (by decide)))⟩
    rw [hrow2]
    exact rCon_w (Or.inr (Or.inr (Or.inr (Or.inl (by rw [hc1'', nx_k]; exact h58)))))
  have hlt3 := lk_lt (tx := tx) (len := len) (i := q'.1) (by rw [h58]; decide)
  have htq : tpS (atS q'' (q'.1 + 1)) = 9 := (cl_ok hCq.2.1 hbq).2.2.trans hq9
  have hsq : q''.2.1 = s.2.1 + 1 := hkq.2.1
  have hmt : t''.2.2.2.2.1 + 1 + 1 ≤ q''.2.2.2.2.1 := e4
  have hm40 : q''.2.2.2.2.1 ≤ 41 := by have u := c11.2.1; have u2 : q''.1 = q'.1 := c5; omega
  have est3 := end_ok hCq hbq (Or.inr (Or.inr h58))
  have een : enT 58 (atS q'' (q'.1 + 1)) = (2, atS (ptS (wiS (mkS (popS q'') 12 0) (t''.2.2.2.2.1 + 1) (nI (q''.2.2.2.2.1 + 1))) 10 (nI q''.2.2.2.2.1)) (q'.1 + 1)) := by
    unfold enT
    rw [htq, if_pos ⟨rfl, rfl⟩, show (atS q'' (q'.1 + 1)).2.2.2.1 ((atS q'' (q'.1 + 1)).2.1 - 1) = q''.2.2.2.1 (q''.2.1 - 1) from rfl, hsq, Nat.add_sub_cancel, e2, clN (by omega)]
    rfl
  rw [h58, een] at est3
  have hst3 := st_inv (tx := tx) (x := z) h40 hlt3 c10
  rw [est3] at hst3
  have hrc3 := (hrc2.trans c2).trans (Rch.one (x_pos hCq.1) hlt3 est3 (Nat.lt_succ_self _) hlt3)
  have hg3 : (popS q'').2.1 = s.2.1 := by show q''.2.1 - 1 = s.2.1; rw [hsq]; rfl
  have hdp3 : dpN (wiS (mkS (popS q'') 12 0) (t''.2.2.2.2.1 + 1) (nI (q''.2.2.2.2.1 + 1))).2.2.1 (wiS (mkS (popS q'') 12 0) (t''.2.2.2.2.1 + 1) (nI (q''.2.2.2.2.1 + 1))).2.1 = d := by
    show dpN q''.2.2.1 (popS q'').2.1 = d
    rw [hg3, ← hdp]
    exact dpN_congr _ (fun k hk => (e3 k hk).1.trans ((g3 k hk).1.trans (a7.2.1 k hk).1))
  have hli3 : (atS (ptS (wiS (mkS (popS q'') 12 0) (t''.2.2.2.2.1 + 1) (nI (q''.2.2.2.2.1 + 1))) 10 (nI q''.2.2.2.2.1)) (q'.1 + 1)).2.2.2.2.2.2.2 = nm3 := c6
  have hc2 : ∀ V lv ov, rCon2 (mkE tx len V) (rForm (mkE tx len V) n) d lv (hold V) (t'.1, false, nm2, ov) = fF tx len n d V (lv && !(hold V)) (q'.1 + 1, false, nm3, ov || ((lv && hold V) && o3 V)) := by
    intro V lv ov
    unfold rCon2
    rw [hc1'', ex_ok h58]
    rfl
  rcases hI d (atS (ptS (wiS (mkS (popS q'') 12 0) (t''.2.2.2.2.1 + 1) (nI (q''.2.2.2.2.1 + 1))) 10 (nI q''.2.2.2.2.1)) (q'.1 + 1)) hd hst3.1 hlt3 (by show 41 ≤ n + (q'.1 + 1); omega) (dp_put (by decide) hdp3) (Or.inr (by show ¬ va_up _ (popS q'').2.1 10 (popS q'').2.1 = 7 ∧ ¬ va_up _ (popS q'').2.1 10 (popS q'').2.1 = 8 ∧ ¬ va_up _ (popS q'').2.1 10 (popS q'').2.1 = 11 ∧ ¬ va_up _ (popS q'').2.1 10 (popS q'').2.1 = 12; rw [va_up_self]; decide)) with hB | hR
  · refine Or.inl ⟨fun V lv ov => ?_, Bad.rch hrc3 hB.2⟩
    rw [hrow2]
    refine rCon_w (Or.inr (Or.inr (Or.inr (Or.inr ?_))))
    rw [hc2]
    have u := hB.1 V (lv && !(hold V)) (((ov || (lv && o1 V)) || (lv && o2 V)) || ((lv && hold V) && o3 V))
    rw [hli3] at u
    exact u
  obtain ⟨nm4, v4, o4, z2, p', p'', d1, d2, d3, d4, d5, d6, d7, d8, d9, d10, d11⟩ := hR
  have d1' : ∀ V lv ov, fF tx len n d V lv (q'.1 + 1, false, nm3, ov) = (v4 V, (p'.1, false, nm4, ov || (lv && o4 V))) := fun V lv ov => by
    have u := d1 V lv ov
    rw [hli3] at u
    exact u
  have d4' : q'.1 + 1 < p'.1 := d4
  have d7r : Fr (atS (ptS (wiS (mkS (popS q'') 12 0) (t''.2.2.2.2.1 + 1) (nI (q''.2.2.2.2.1 + 1))) 10 (nI q''.2.2.2.2.1)) (q'.1 + 1)) p'' ((wiS (mkS (popS q'') 12 0) (t''.2.2.2.2.1 + 1) (nI (q''.2.2.2.2.1 + 1))).2.1 + 1) := d7
  obtain ⟨⟨i1, i2⟩, i3, i4, i5⟩ := fr_in d7r
  have hg4 : (wiS (mkS (popS q'') 12 0) (t''.2.2.2.2.1 + 1) (nI (q''.2.2.2.2.1 + 1))).2.1 = s.2.1 := hg3
  rw [hg4] at i1 i2 i3
  have hCp : CF tx len (s.2.1 + 1) z2 p' p'' := by
    have u := d3
    rw [show (atS (ptS (wiS (mkS (popS q'') 12 0) (t''.2.2.2.2.1 + 1) (nI (q''.2.2.2.2.1 + 1))) 10 (nI q''.2.2.2.2.1)) (q'.1 + 1)).2.1 = s.2.1 + 1 from by show (popS q'').2.1 + 1 = _; rw [hg3]] at u
    exact u
  have hkp2 := hCp.2.1.keep
  have hp10 : p'.2.2.1 s.2.1 = 10 := by rw [← hkp2.2.2.1]; exact i1
  have hsp : p''.2.1 = s.2.1 + 1 := hkp2.2.1
  have hmp : q''.2.2.2.2.1 + 1 ≤ p''.2.2.2.2.1 := i4
  have i5' : ∀ k, k < q''.2.2.2.2.1 + 1 → p''.2.2.2.2.2.1 k = va_up q''.2.2.2.2.2.1 q''.2.2.2.2.1 12 k ∧ p''.2.2.2.2.2.2.1 k = va_up (va_up q''.2.2.2.2.2.2.1 q''.2.2.2.2.1 0) (t''.2.2.2.2.1 + 1) (nI (q''.2.2.2.2.1 + 1)) k := i5
  have e5' : ∀ k, k < t''.2.2.2.2.1 + 1 + 1 → q''.2.2.2.2.2.1 k = va_up (va_up t''.2.2.2.2.2.1 t''.2.2.2.2.1 (nI o)) (t''.2.2.2.2.1 + 1) 11 k ∧ q''.2.2.2.2.2.2.1 k = va_up (va_up t''.2.2.2.2.2.2.1 t''.2.2.2.2.1 0) (t''.2.2.2.2.1 + 1) 0 k := e5
  have g5' : ∀ k, k < s''.2.2.2.2.1 → t''.2.2.2.2.2.1 k = s''.2.2.2.2.2.1 k ∧ t''.2.2.2.2.2.2.1 k = s''.2.2.2.2.2.2.1 k := g5
  have g4' : s''.2.2.2.2.1 ≤ t''.2.2.2.2.1 := g4
  have hms := a7.2.2.1
  generalize hFd : elP 1 p'' = pF
  have eF : pF = wiS (popS p'') q''.2.2.2.2.1 (nI p''.2.2.2.2.1) := by
    rw [← hFd]
    show wiS (popS p'') (p''.2.2.2.1 (p''.2.1 - 1)).toNatClampNeg (nI p''.2.2.2.2.1) = _
    rw [hsp, Nat.add_sub_cancel, i2, clN (by omega)]
  have hFs : ∀ k, pF.2.2.2.2.2.1 k = p''.2.2.2.2.2.1 k := fun k => by rw [eF]; rfl
  have hFw : ∀ k, k ≠ q''.2.2.2.2.1 → pF.2.2.2.2.2.2.1 k = p''.2.2.2.2.2.2.1 k := fun k hk => by rw [eF]; exact va_up_ne _ _ hk
  have hlo : ∀ k, k < t''.2.2.2.2.1 → pF.2.2.2.2.2.1 k = t''.2.2.2.2.2.1 k ∧ pF.2.2.2.2.2.2.1 k = t''.2.2.2.2.2.2.1 k := by
    intro k hk
    have u1 := i5' k (by omega)
    have u2 := e5' k (by omega)
    rw [hFs, hFw k (by omega), u1.1, u1.2, va_up_ne _ _ (by omega), va_up_ne _ _ (by omega), va_up_ne _ _ (by omega), u2.1, u2.2, va_up_ne _ _ (by omega), va_up_ne _ _ (by omega), va_up_ne _ _ (by omega), va_up_ne _ _ (by omega)]
    exact ⟨rfl, rfl⟩
  have hmono2 : ∀ i, i < 12 → tb nm1 i = true → tb nm2 i = true := fun i hi u => b9 i hi (by rw [hli1]; exact u)
  have hmono3 : ∀ i, i < 12 → tb nm2 i = true → tb nm3 i = true := fun i hi u => c9 i hi (by rw [hli2]; exact u)
  have hmono4 : ∀ i, i < 12 → tb nm3 i = true → tb nm4 i = true := fun i hi u => d9 i hi (by rw [hli3]; exact u)
  have k1 : Sem pF.2.2.2.2.2.1 pF.2.2.2.2.2.2.1 s.2.2.2.2.1 s''.2.2.2.2.1 nm4 v1 o1 := a8.fr (fun k u1 u2 => by rw [(hlo k (by omega)).1, (hlo k (by omega)).2]; exact g5' k u2) (fun i hi u => hmono4 i hi (hmono3 i hi (hmono2 i hi u)))
  have k2 : Sem pF.2.2.2.2.2.1 pF.2.2.2.2.2.2.1 s''.2.2.2.2.1 t''.2.2.2.2.1 nm4 v2 o2 := Sem.fr b8 (fun k u1 u2 => hlo k u2) (fun i hi u => hmono4 i hi (hmono3 i hi u))
  have k3 : Sem pF.2.2.2.2.2.1 pF.2.2.2.2.2.2.1 (t''.2.2.2.2.1 + 2) q''.2.2.2.2.1 nm4 v3 o3 := Sem.fr c8 (fun k u1 u2 => by
    have u1' : t''.2.2.2.2.1 + 1 + 1 ≤ k := u1
    have u := i5' k (by omega)
    rw [hFs, hFw k (by omega), u.1, u.2, va_up_ne _ _ (by omega), va_up_ne _ _ (by omega), va_up_ne _ _ (by omega)]
    exact ⟨rfl, rfl⟩) hmono4
  have k4 : Sem pF.2.2.2.2.2.1 pF.2.2.2.2.2.2.1 (q''.2.2.2.2.1 + 1) p''.2.2.2.2.1 nm4 v4 o4 := Sem.fr d8 (fun k u1 u2 => by
    have u1' : q''.2.2.2.2.1 + 1 ≤ k := u1
    exact ⟨hFs k, hFw k (by omega)⟩) (fun _ _ u => u)
  have hmF : pF.2.2.2.2.1 = p''.2.2.2.2.1 := by rw [eF]; rfl
  refine Or.inr ⟨nm4, fun V => if hold V = true then v3 V else v4 V, fun V => o1 V || o2 V || (if hold V = true then o3 V else o4 V), z2, p', pF, fun V lv ov => ?_, hrc3.trans d2, ⟨hCp.1, by rw [← hFd]; exact pend_else hCp.2.1 hp10, hCp.2.2.1, hCp.2.2.2.1, hCp.2.2.2.2⟩, by omega, by rw [eF]; exact d5, by rw [eF]; exact d6, ⟨by rw [eF]; show p''.2.1 - 1 = s.2.1; rw [hsp]; rfl, fun k hk => ?_, by rw [hmF]; omega, fun k hk => ?_⟩, ?_, fun i hi u => hmono4 i hi (hmono3 i hi (hmono2 i hi (a9 i hi u))), d10, ?_⟩
  · rw [hrow2]
    unfold rCon
    rw [hc1'', hc2, d1', or_con]
  · have u1 := i3 k hk
    have u2 := e3 k hk
    have u3 := g3 k hk
    have u4 := a7.2.1 k hk
    rw [eF]
    exact ⟨u1.1.trans (u2.1.trans (u3.1.trans u4.1)), u1.2.trans (u2.2.trans (u3.2.trans u4.2))⟩
  · have u1 := hlo k (by omega)
    have u2 := g5' k (by omega)
    have u3 := a7.2.2.2 k hk
    exact ⟨u1.1.trans (u2.1.trans u3.1), u1.2.trans (u2.2.trans u3.2)⟩
  · rw [hmF]
    have uz := e5' (t''.2.2.2.2.1 + 1) (by omega)
    have um := e5' t''.2.2.2.2.1 (by omega)
    have vz := i5' (t''.2.2.2.2.1 + 1) (by omega)
    have vm := i5' t''.2.2.2.2.1 (by omega)
    have vq := i5' q''.2.2.2.2.1 (by omega)
    refine sem_cond (o := o) k1 k2 ?_ ho ?_ ?_ k3 ?_ ?_ k4 ?_
    · rw [hFs, vm.1, va_up_ne _ _ (by omega), um.1, va_up_ne _ _ (by omega), va_up_self]
    · rw [hFs, vz.1, va_up_ne _ _ (by omega), uz.1, va_up_self]
    · rw [hFw _ (by omega), vz.2, va_up_self]
    · rw [hFs, vq.1, va_up_self]
    · rw [eF]; exact va_up_self _ _ _
    · intro VR VC nn
      rw [← hhold, ← hod]
      by_cases u : w = 7
      · rw [if_pos u]
        show (if v1 VC < v2 VC then (1 : Int64) else 0) = if (if w = 7 then decide (v1 VC < v2 VC) else decide (v2 VC < v1 VC)) = true then 1 else 0
        rw [if_pos u]
        simp only [decide_eq_true_eq]
      · rw [if_neg u]
        show (if v2 VC < v1 VC then (1 : Int64) else 0) = if (if w = 7 then decide (v1 VC < v2 VC) else decide (v2 VC < v1 VC)) = true then 1 else 0
        rw [if_neg u]
        simp only [decide_eq_true_eq]
  · obtain ⟨j1, j2, j3⟩ := d11
    rw [eF]
    refine ⟨?_, ?_, fun k hk => j3 k (by have : k < p''.2.1 - 1 := hk; omega)⟩
    · show p''.2.1 - 1 ≤ p''.1; omega
    · show p''.2.2.2.2.1 + wtN p''.2.2.1 (p''.2.1 - 1) ≤ p''.1
      have := wt_le p''.2.2.1 (Nat.sub_le p''.2.1 1)
      omega
theorem F_all (hp : Pct) (h40 : len ≤ 40) : ∀ n, IHF tx len n
  | 0 => fun d s _ _ h1 h2 _ _ => by omega
  | n + 1 => F_step hp h40 (F_all hp h40 n)
end
