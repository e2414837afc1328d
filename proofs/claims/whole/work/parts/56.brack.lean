/-! UNITS IN BRACKETS *-/
section
variable {tx : Nat → Int32} {len n d : Nat} {s : RS}
/-- what a unit's first sign is, if it is no name and no digit *-/
theorem fU_br {c : Int32} (hc : lkR tx len s.1 = c) (h1 : isNm c = false) (h2 : isDg c = false) (hd : d < 4) (V : VV) (lv : Bool) (nm : Int32) (ov : Bool) : fU tx len n d V lv (s.1, false, nm, ov) = (if c = 40 then rBr (mkE tx len V) (rForm (mkE tx len V) n) (d + 1) lv (s.1, false, nm, ov) else if c = 109 ∨ c = 120 then rTwo (mkE tx len V) (rForm (mkE tx len V) n) (d + 1) lv (s.1, false, nm, ov) else if c = 116 then rTab (mkE tx len V) (rForm (mkE tx len V) n) (d + 1) lv (s.1, false, nm, ov) else (0, rfu (s.1, false, nm, ov))) := by
  unfold fU rUnit
  rw [nx_k, hc, if_neg (fun q => by unfold isNm at h1; rw [decide_eq_true q.1, decide_eq_true q.2] at h1; exact absurd h1 (by decide)), if_neg (by rw [h2]; decide), if_neg (by omega)]
theorem fr_in {b mj : Int32} {a : Nat} {s'' : RS} (h : Fr (atS (ptS s b mj) a) s'' (s.2.1 + 1)) : (s''.2.2.1 s.2.1 = b ∧ s''.2.2.2.1 s.2.1 = mj) ∧ (∀ k, k < s.2.1 → s''.2.2.1 k = s.2.2.1 k ∧ s''.2.2.2.1 k = s.2.2.2.1 k) ∧ s.2.2.2.2.1 ≤ s''.2.2.2.2.1 ∧ ∀ k, k < s.2.2.2.2.1 → s''.2.2.2.2.2.1 k = s.2.2.2.2.2.1 k ∧ s''.2.2.2.2.2.2.1 k = s.2.2.2.2.2.2.1 k := by
  obtain ⟨h1, h2, h3, h4⟩ := h
  refine ⟨?_, fun k hk => ?_, h3, h4⟩
  · obtain ⟨q1, q2⟩ := h2 s.2.1 (by omega)
    exact ⟨q1.trans (va_up_self _ _ _), q2.trans (va_up_self _ _ _)⟩
  · obtain ⟨q1, q2⟩ := h2 k (by omega)
    exact ⟨q1.trans (va_up_ne _ _ (by omega)), q2.trans (va_up_ne _ _ (by omega))⟩
theorem bk_1 : bk 1 := by unfold bk; decide
theorem U_br (hI : IHF tx len n) (h40 : len ≤ 40) (ha : s.1 < len) (hRI : RI s) (hna : 40 ≤ n + s.1) (hd : d < 4) (hdp : dpN s.2.2.1 s.2.1 = d) (hc : lkR tx len s.1 = 40) : Bd tx len (fU tx len n d) s ∨ Rs tx len (fU tx len n d) s CU := by
  have hbg := bg_inv (tx := tx) h40 ha hRI
  have e : bgS tx len s = (2, atS (ptS s 1 0) (s.1 + 1)) := by
    unfold bgS
    rw [hc, if_neg (by decide), if_neg (by decide), if_neg (by omega), if_pos rfl]
  rw [e] at hbg
  have hrc : Rch tx len 2 s 2 (atS (ptS s 1 0) (s.1 + 1)) := Rch.one (by decide) ha (by rw [st_2]; exact e) (Nat.lt_succ_self _) ha
  have hf : ∀ V lv ov, fU tx len n d V lv (s.1, false, s.2.2.2.2.2.2.2, ov) = ((fF tx len n (d + 1) V lv (s.1 + 1, false, s.2.2.2.2.2.2.2, ov)).1, ex (mkE tx len V) 41 (fF tx len n (d + 1) V lv (s.1 + 1, false, s.2.2.2.2.2.2.2, ov)).2) := by
    intro V lv ov
    rw [fU_br hc (by decide) (by decide) hd, if_pos rfl]
    unfold rBr
    rw [ex_ok hc]
    rfl
  rcases br_one (b := 1) (mj := 0) (a := s.1 + 1) hI hd bk_1 (by decide) hdp ha (by omega) hbg.1 with hB | hR
  · refine Or.inl ⟨fun V lv ov => ?_, Bad.rch hrc hB.2⟩
    rw [hf]
    exact ex_w (hB.1 V lv ov) (by decide)
  · obtain ⟨nm', val, ovf, x, s', s'', r1, r2, r3, r4, r5, r6, r7, r8, r9, r10, r11⟩ := hR
    obtain ⟨⟨f1, f2⟩, f3, f4, f5⟩ := fr_in r7
    have hk := r3.2.1.keep
    have hb : s'.2.2.1 s.2.1 = 1 := by rw [← hk.2.2.1]; exact f1
    have hbb : bk (s'.2.2.1 s.2.1) := by rw [hb]; exact bk_1
    have hal : s'.1 ≤ len := by obtain ⟨_, _, q, _⟩ := r2; exact q
    have r4' : s.1 + 1 < s'.1 := r4
    by_cases hc2 : lkR tx len s'.1 = 41
    · have hlt := lk_lt (tx := tx) (len := len) (i := s'.1) (by rw [hc2]; decide)
      have est := end_ok r3 hbb (Or.inl hc2)
      have hst := st_inv (tx := tx) (x := x) h40 hlt r10
      have htp : tpS (atS s'' (s'.1 + 1)) = 1 := (cl_ok r3.2.1 hbb).2.2.trans hb
      have een : enT 41 (atS s'' (s'.1 + 1)) = (1, popS (atS s'' (s'.1 + 1))) := by
        unfold enT
        rw [htp, if_neg (by decide), if_neg (by decide), if_pos ⟨rfl, Or.inl rfl⟩, if_pos rfl]
      rw [hc2, een] at est
      rw [est] at hst
      refine Or.inr ⟨nm', val, ovf, 1, popS (atS s'' (s'.1 + 1)), popS (atS s'' (s'.1 + 1)), fun V lv ov => ?_, hrc.trans (r2.trans (Rch.one (x_pos r3.1) hlt est (Nat.lt_succ_self _) hlt)), ⟨rfl, rfl⟩, by show s.1 < s'.1 + 1; omega, rfl, r6, ⟨by show s''.2.1 - 1 = s.2.1; rw [hk.2.1]; rfl, f3, f4, f5⟩, r8, r9, hst.1, hst.1⟩
      rw [hf, show fF tx len n (d + 1) V lv (s.1 + 1, false, s.2.2.2.2.2.2.2, ov) = _ from r1 V lv ov]
      show (val V, ex (mkE tx len V) 41 (s'.1, false, nm', ov || (lv && ovf V))) = _
      rw [ex_ok hc2]
      rfl
    · refine Or.inl ⟨fun V lv ov => ?_, Bad.rch (hrc.trans r2) (end_bad r3 hbb hal (by rw [hb]; rintro (q | q | q); exact absurd q.2 (by decide); exact absurd q.2 (by decide); exact hc2 q.1))⟩
      rw [hf, show fF tx len n (d + 1) V lv (s.1 + 1, false, s.2.2.2.2.2.2.2, ov) = _ from r1 V lv ov]
      exact ex_no hc2
end
