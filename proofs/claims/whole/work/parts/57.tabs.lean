/-! UNITS: tables *-/
section
variable {tx : Nat → Int32} {len n d : Nat} {s : RS}
theorem lt3 {t : Int32} : ¬ t < 3 ↔ 2 < t := by
  rw [Int32.lt_iff_toInt_lt, Int32.lt_iff_toInt_lt]
  have e1 : (3 : Int32).toInt = 3 := by decide
  have e2 : (2 : Int32).toInt = 2 := by decide
  rw [e1, e2]
  omega
theorem bk_6 : bk 6 := by unfold bk; decide
theorem U_tab (hI : IHF tx len n) (h40 : len ≤ 40) (ha : s.1 < len) (hRI : RI s) (hna : 40 ≤ n + s.1) (hd : d < 4) (hdp : dpN s.2.2.1 s.2.1 = d) (hc : lkR tx len s.1 = 116) : Bd tx len (fU tx len n d) s ∨ Rs tx len (fU tx len n d) s CU := by
  have hbg := bg_inv (tx := tx) h40 ha hRI
  have hf0 : ∀ V lv ov, fU tx len n d V lv (s.1, false, s.2.2.2.2.2.2.2, ov) = rTab (mkE tx len V) (rForm (mkE tx len V) n) (d + 1) lv (s.1, false, s.2.2.2.2.2.2.2, ov) := by
    intro V lv ov
    rw [fU_br hc (by decide) (by decide) hd, if_neg (by decide), if_neg (by decide), if_pos rfl]
  have e0 : bgS tx len s = if (¬ lkR tx len (s.1 + 1) - 48 < 0 ∧ ¬ 2 < lkR tx len (s.1 + 1) - 48) ∧ lkR tx len (s.1 + 2) = 40 then (2, atS (ptS s 6 (lkR tx len (s.1 + 1) - 48)) (s.1 + 3)) else (0, s) := by
    unfold bgS
    rw [hc, if_neg (by decide), if_neg (by decide), if_neg (by omega), if_neg (by decide), if_neg (by rintro ⟨q | q, -⟩ <;> exact absurd q (by decide))]
    by_cases q : (¬ lkR tx len (s.1 + 1) - 48 < 0 ∧ ¬ 2 < lkR tx len (s.1 + 1) - 48) ∧ lkR tx len (s.1 + 2) = 40
    · rw [if_pos ⟨rfl, q⟩, if_pos q]
    · rw [if_neg (fun z => q z.2), if_neg q]
  have nx1 : ∀ V ov, nx (mkE tx len V) (inc1 (s.1, false, s.2.2.2.2.2.2.2, ov)) = lkR tx len (s.1 + 1) := fun V ov => nx_k
  by_cases ht : ¬ lkR tx len (s.1 + 1) - 48 < 0 ∧ ¬ 2 < lkR tx len (s.1 + 1) - 48
  rotate_left
  · rw [if_neg (fun q => ht q.1)] at e0
    refine Or.inl ⟨fun V lv ov => ?_, Bad.go (by decide) ha (by rw [st_2, e0])⟩
    rw [hf0]
    unfold rTab
    rw [nx1, if_pos]
    · rfl
    · by_cases q : lkR tx len (s.1 + 1) - 48 < 0
      · exact Or.inl q
      · exact Or.inr (lt3.mpr (Classical.not_not.mp (fun z => ht ⟨q, z⟩)))
  obtain ⟨t, ht3, et⟩ := ix_in (n := 2) (N := 2) rfl (by decide) ht
  have hf1 : ∀ V lv ov, fU tx len n d V lv (s.1, false, s.2.2.2.2.2.2.2, ov) = (V.2.2 t (rBr (mkE tx len V) (rForm (mkE tx len V) n) (d + 1) lv (s.1 + 1 + 1, false, s.2.2.2.2.2.2.2, ov)).1, (rBr (mkE tx len V) (rForm (mkE tx len V) n) (d + 1) lv (s.1 + 1 + 1, false, s.2.2.2.2.2.2.2, ov)).2) := by
    intro V lv ov
    rw [hf0]
    unfold rTab
    rw [nx1, if_neg (by rintro (q | q); exact ht.1 q; exact ht.2 (lt3.mp q)), et, clN (by omega)]
    rfl
  by_cases h40c : lkR tx len (s.1 + 2) = 40
  rotate_left
  · rw [if_neg (fun q => h40c q.2)] at e0
    refine Or.inl ⟨fun V lv ov => ?_, Bad.go (by decide) ha (by rw [st_2, e0])⟩
    rw [hf1]
    exact ex_w (rForm_w n (ex_no h40c)) (by decide)
  rw [if_pos ⟨ht, h40c⟩, et] at e0
  rw [e0] at hbg
  have hl2 := lk_lt (tx := tx) (len := len) (i := s.1 + 2) (by rw [h40c]; decide)
  have hrc : Rch tx len 2 s 2 (atS (ptS s 6 (nI t)) (s.1 + 3)) := Rch.one (by decide) ha (by rw [st_2]; exact e0) (by show s.1 < s.1 + 3; omega) (by show s.1 + 3 ≤ len; omega)
  have hf : ∀ V lv ov, fU tx len n d V lv (s.1, false, s.2.2.2.2.2.2.2, ov) = (V.2.2 t (fF tx len n (d + 1) V lv (s.1 + 3, false, s.2.2.2.2.2.2.2, ov)).1, ex (mkE tx len V) 41 (fF tx len n (d + 1) V lv (s.1 + 3, false, s.2.2.2.2.2.2.2, ov)).2) := by
    intro V lv ov
    rw [hf1]
    unfold rBr
    rw [ex_ok h40c]
    rfl
  rcases br_one (b := 6) (mj := nI t) (a := s.1 + 3) hI hd bk_6 (by decide) hdp (by omega) (by omega) hbg.1 with hB | hR
  · refine Or.inl ⟨fun V lv ov => ?_, Bad.rch hrc hB.2⟩
    rw [hf]
    exact ex_w (hB.1 V lv ov) (by decide)
  · obtain ⟨nm', val, ovf, x, s', s'', r1, r2, r3, r4, r5, r6, r7, r8, r9, r10, r11⟩ := hR
    obtain ⟨⟨f1, f2⟩, f3, f4, f5⟩ := fr_in r7
    have hk := r3.2.1.keep
    have hb : s'.2.2.1 s.2.1 = 6 := by rw [← hk.2.2.1]; exact f1
    have hbb : bk (s'.2.2.1 s.2.1) := by rw [hb]; exact bk_6
    have hal : s'.1 ≤ len := by obtain ⟨_, _, q, _⟩ := r2; exact q
    have r4' : s.1 + 3 < s'.1 := r4
    by_cases hc2 : lkR tx len s'.1 = 41
    · have hlt := lk_lt (tx := tx) (len := len) (i := s'.1) (by rw [hc2]; decide)
      have est := end_ok r3 hbb (Or.inl hc2)
      have hst := st_inv (tx := tx) (x := x) h40 hlt r10
      have htp : tpS (atS s'' (s'.1 + 1)) = 6 := (cl_ok r3.2.1 hbb).2.2.trans hb
      have hsg : s''.2.1 = s.2.1 + 1 := hk.2.1
      have een : enT 41 (atS s'' (s'.1 + 1)) = (1, mkS (popS (atS s'' (s'.1 + 1))) 5 (nI t)) := by
        unfold enT
        rw [htp, if_neg (by decide), if_neg (by decide), if_pos ⟨rfl, Or.inr (Or.inr (Or.inr rfl))⟩, if_neg (by decide), if_neg (by decide), if_neg (by decide), show (atS s'' (s'.1 + 1)).2.2.2.1 ((atS s'' (s'.1 + 1)).2.1 - 1) = s''.2.2.2.1 (s''.2.1 - 1) from rfl, hsg, Nat.add_sub_cancel, f2]
      rw [hc2, een] at est
      rw [est] at hst
      refine Or.inr ⟨nm', fun V => V.2.2 t (val V), ovf, 1, mkS (popS (atS s'' (s'.1 + 1))) 5 (nI t), mkS (popS (atS s'' (s'.1 + 1))) 5 (nI t), fun V lv ov => ?_, hrc.trans (r2.trans (Rch.one (x_pos r3.1) hlt est (Nat.lt_succ_self _) hlt)), ⟨rfl, rfl⟩, by show s.1 < s'.1 + 1; omega, rfl, r6, ⟨by show s''.2.1 - 1 = s.2.1; rw [hsg]; rfl, f3, by show s.2.2.2.2.1 ≤ s''.2.2.2.2.1 + 1; omega, fun k hk2 => ?_⟩, ?_, r9, hst.1, hst.1⟩
      · rw [hf, show fF tx len n (d + 1) V lv (s.1 + 3, false, s.2.2.2.2.2.2.2, ov) = _ from r1 V lv ov]
        show (V.2.2 t (val V), ex (mkE tx len V) 41 (s'.1, false, nm', ov || (lv && ovf V))) = _
        rw [ex_ok hc2]
        rfl
      · have q := f5 k hk2
        exact ⟨(va_up_ne _ _ (by show k ≠ s''.2.2.2.2.1; omega)).trans q.1, (va_up_ne _ _ (by show k ≠ s''.2.2.2.2.1; omega)).trans q.2⟩
      · refine sem_un (o := 5) (r8.fr (fun k q1 q2 => ⟨va_up_ne _ _ (by show k ≠ s''.2.2.2.2.1; omega), va_up_ne _ _ (by show k ≠ s''.2.2.2.2.1; omega)⟩) (fun _ _ q => q)) (va_up_self _ _ _) (Or.inl rfl) (fun _ => ?_) (fun VC VR hA => ⟨fun q => q, fun q1 q2 y => ⟨fun _ => ?_, fun q3 => absurd q3 (by rw [q1]; decide)⟩⟩)
        · show ¬ va_up s''.2.2.2.2.2.2.1 s''.2.2.2.2.1 (nI t) s''.2.2.2.2.1 < 0 ∧ va_up s''.2.2.2.2.2.2.1 s''.2.2.2.2.1 (nI t) s''.2.2.2.2.1 < 3
          rw [va_up_self]
          exact rng_nI rfl (by decide) ht3
        · obtain ⟨z1, z2⟩ := hA.2.2 t ht3 (val VC) q2
          refine ⟨?_, z2⟩
          show VR.2.2 (Int32.toNatClampNeg (va_up s''.2.2.2.2.2.2.1 s''.2.2.2.2.1 (nI t) s''.2.2.2.2.1)) (val VC) = _
          rw [va_up_self, clN (by omega)]
          exact z1.symm
    · refine Or.inl ⟨fun V lv ov => ?_, Bad.rch (hrc.trans r2) (end_bad r3 hbb hal (by rw [hb]; rintro (q | q | q); exact absurd q.2 (by decide); exact absurd q.2 (by decide); exact hc2 q.1))⟩
      rw [hf, show fF tx len n (d + 1) V lv (s.1 + 3, false, s.2.2.2.2.2.2.2, ov) = _ from r1 V lv ov]
      exact ex_no hc2
end
