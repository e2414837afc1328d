/-! ALL UNITS; PARTS *-/
section
variable {tx : Nat → Int32} {len n d : Nat} {s : RS}
theorem U_all (hI : IHF tx len n) (h40 : len ≤ 40) (hal : s.1 ≤ len) (hRI : RI s) (hna : 40 ≤ n + s.1) (hd : d ≤ 4) (hdp : dpN s.2.2.1 s.2.1 = d) : Bd tx len (fU tx len n d) s ∨ Rs tx len (fU tx len n d) s CU := by
  by_cases ha : s.1 < len
  rotate_left
  · have h0 : lkR tx len s.1 = 0 := if_pos (by omega)
    refine Or.inl ⟨fun V lv ov => ?_, Bad.fin (by omega) (if_neg (fun q => q.1.elim (fun z => absurd (show (2 : Int32) = 1 from z) (by decide)) (fun z => absurd (show (2 : Int32) = 3 from z) (by decide))))⟩
    unfold fU rUnit
    rw [nx_k, h0, if_neg (by decide), if_neg (by decide)]
    by_cases q : 4 ≤ d
    · rw [if_pos q]; rfl
    · rw [if_neg q, if_neg (by decide), if_neg (by decide), if_neg (by decide)]; rfl
  generalize hc : lkR tx len s.1 = c
  by_cases h1 : isNm c = true
  · exact Or.inr (U_name h40 ha hRI (by rw [hc]; exact h1))
  by_cases h2 : isDg c = true
  · exact Or.inr (U_num h40 ha hRI (by rw [hc]; exact h1) (by rw [hc]; exact h2))
  by_cases h4 : d = 4
  · have e0 : bgS tx len s = (0, s) := by
      unfold bgS
      rw [hc, if_neg h1, if_neg h2, if_pos (by omega)]
    refine Or.inl ⟨fun V lv ov => ?_, Bad.go (by decide) ha (by rw [st_2, e0])⟩
    unfold fU rUnit
    rw [nx_k, hc, if_neg (fun q => h1 (by unfold isNm; rw [decide_eq_true q.1, decide_eq_true q.2]; rfl)), if_neg h2, if_pos (by omega)]
    rfl
  have hd4 : d < 4 := by omega
  by_cases h5 : c = 40
  · exact U_br hI h40 ha hRI hna hd4 hdp (by rw [hc]; exact h5)
  by_cases h6 : c = 109 ∨ c = 120
  · exact U_two hI h40 ha hRI hna hd4 hdp hc h6
  by_cases h7 : c = 116
  · exact U_tab hI h40 ha hRI hna hd4 hdp (by rw [hc]; exact h7)
  have e0 : bgS tx len s = (0, s) := by
    unfold bgS
    rw [hc, if_neg h1, if_neg h2, if_neg (by omega), if_neg h5, if_neg (fun q => h6 q.1), if_neg (fun q => h7 q.1)]
  refine Or.inl ⟨fun V lv ov => ?_, Bad.go (by decide) ha (by rw [st_2, e0])⟩
  rw [fU_br hc (by cases q : isNm c with | true => exact absurd q h1 | false => rfl) (by cases q : isDg c with | true => exact absurd q h2 | false => rfl) hd4, if_neg h5, if_neg h6, if_neg h7]
  rfl
def fP (tx : Nat → Int32) (len n d : Nat) : VV → Bool → St → Int64 × St := fun V lv st => rPart (mkE tx len V) (rForm (mkE tx len V) n) d lv st
/-- hundredths, the class's and the reference's *-/
def Pct : Prop := ∀ (v : Int64) (k : Nat), inR v = true → k < 1000 → divV (v * (nI k).toInt64) 100 2 = hdT (v * (nI k).toInt64)
theorem ov_ck (ov lv a b : Bool) : ((ov || (lv && a)) || (lv && !b)) = (ov || (lv && (a || !b))) := by cases lv <;> cases ov <;> cases a <;> cases b <;> rfl
theorem ck_eq {w : Int64} {lv ov a : Bool} {p : Nat} {nm : Int32} : ck w lv (p, false, nm, ov || (lv && a)) = ((if inR w = true then w else 0), (p, false, nm, ov || (lv && (a || !(inR w))))) := by
  unfold ck
  rw [show okR w = inR w from rfl]
  cases h : inR w with
  | true => rw [if_pos rfl, if_pos rfl]; simp
  | false =>
    rw [if_neg (by decide), if_neg (by decide)]
    show (0, (p, false, nm, (ov || (lv && a)) || lv)) = _
    cases lv <;> cases ov <;> cases a <;> rfl
theorem P_all (hp : Pct) (hI : IHF tx len n) (h40 : len ≤ 40) (hal : s.1 ≤ len) (hRI : RI s) (hna : 40 ≤ n + s.1) (hd : d ≤ 4) (hdp : dpN s.2.2.1 s.2.1 = d) : Bd tx len (fP tx len n d) s ∨ Rs tx len (fP tx len n d) s (CP tx len) := by
  rcases U_all hI h40 hal hRI hna hd hdp with hB | hR
  · refine Or.inl ⟨fun V lv ov => ?_, hB.2⟩
    have hw : (rUnit (mkE tx len V) (rForm (mkE tx len V) n) d lv (s.1, false, s.2.2.2.2.2.2.2, ov)).2.2.1 = true := hB.1 V lv ov
    unfold fP rPart
    rw [if_neg (by rw [nx_w hw]; decide)]
    exact hw
  obtain ⟨nm', val, ovf, x, s', s'', r1, r2, ⟨rfl, rfl⟩, r4, r5, r6, r7, r8, r9, r10, r11⟩ := hR
  have hU : ∀ V lv ov, rUnit (mkE tx len V) (rForm (mkE tx len V) n) d lv (s.1, false, s.2.2.2.2.2.2.2, ov) = (val V, (s''.1, false, nm', ov || (lv && ovf V))) := r1
  by_cases h42 : lkR tx len s''.1 = 42
  rotate_left
  · refine Or.inr ⟨nm', val, ovf, 1, s'', s'', fun V lv ov => ?_, r2, ⟨Or.inl rfl, rfl, fun q => absurd q h42⟩, r4, r5, r6, r7, r8, r9, r10, r11⟩
    unfold fP rPart
    rw [hU, nx_k, if_neg h42]
  have hlt := lk_lt (tx := tx) (len := len) (i := s''.1) (by rw [h42]; decide)
  have hst := st_inv (tx := tx) (x := 1) h40 hlt r10
  have ego : rdSt tx len 1 s'' = (if s''.1 + 1 < (goN tx len s'').2 ∧ lkR tx len (goN tx len s'').2 = 37 then 3 else 0, mkS (atS s'' ((goN tx len s'').2 + 1)) 6 (goN tx len s'').1) := by
    rw [st_go (Or.inl rfl)]
    unfold goS
    rw [if_pos h42]
    by_cases q : s''.1 + 1 < (goN tx len s'').2 ∧ lkR tx len (goN tx len s'').2 = 37
    · rw [if_pos ⟨by decide, q⟩, if_pos q]
    · rw [if_neg (fun z => q z.2), if_neg q]
  have hP : ∀ V lv ov, fP tx len n d V lv (s.1, false, s.2.2.2.2.2.2.2, ov) = ck (hdT (val V * (rNum (mkE tx len V) 3 (s''.1 + 1, false, nm', ov || (lv && ovf V))).1)) lv (ex (mkE tx len V) 37 (rNum (mkE tx len V) 3 (s''.1 + 1, false, nm', ov || (lv && ovf V))).2) := by
    intro V lv ov
    unfold fP rPart
    rw [hU, nx_k, if_pos h42]
    unfold rPartN
    rw [hU]
    rfl
  by_cases hdg : isDg (lkR tx len (s''.1 + 1)) = true
  rotate_left
  · have eN : goN tx len s'' = (0, s''.1 + 1) := by unfold goN; rw [nmR, if_neg hdg]
    refine Or.inl ⟨fun V lv ov => ?_, Bad.rch r2 (Bad.go (by decide) hlt (by rw [ego, eN]; exact if_neg (fun q => Nat.lt_irrefl _ q.1)))⟩
    rw [hP, ck_w]
    refine ex_w ?_ (by decide)
    unfold rNum
    rw [nx_k, if_neg hdg]
    rfl
  have hN1 : s''.1 + 1 < (goN tx len s'').2 := by
    unfold goN
    rw [nmR, if_pos hdg]
    exact nmR_ge 2 _ _
  have hNl : (goN tx len s'').2 ≤ len := nmR_le (Nat.le_refl _) 3 0 (s''.1 + 1) hlt
  have hnum : ∀ V ov, rNum (mkE tx len V) 3 (s''.1 + 1, false, nm', ov) = ((goN tx len s'').1.toInt64, ((goN tx len s'').2, false, nm', ov)) := by
    intro V ov
    unfold rNum
    rw [nx_k, if_pos hdg, show (0 : Int64) = Int64.ofNat 0 from rfl, num_eq 3 0 (s''.1 + 1) 1 (by decide) (by decide)]
    rfl
  by_cases h37 : lkR tx len (goN tx len s'').2 = 37
  rotate_left
  · refine Or.inl ⟨fun V lv ov => ?_, Bad.rch r2 (Bad.go (by decide) hlt (by rw [ego]; exact if_neg (fun q => h37 q.2)))⟩
    rw [hP, ck_w, hnum]
    exact ex_no h37
  rw [if_pos ⟨hN1, h37⟩] at ego
  rw [ego] at hst
  have hlt2 := lk_lt (tx := tx) (len := len) (i := (goN tx len s'').2) (by rw [h37]; decide)
  obtain ⟨k, hk, ek⟩ := nmR_bd (tx := tx) (len := len) 3 0 (s''.1 + 1) 1 (by decide) (by decide)
  have ek1 : (goN tx len s'').1 = nI k := congrArg Prod.fst ek
  rw [ek1] at ego hst
  refine Or.inr ⟨nm', fun V => if inR (hdT (val V * (nI k).toInt64)) = true then hdT (val V * (nI k).toInt64) else 0, fun V => ovf V || !(inR (hdT (val V * (nI k).toInt64))), 3, atS (mkS s'' 6 (nI k)) ((goN tx len s'').2 + 1), atS (mkS s'' 6 (nI k)) ((goN tx len s'').2 + 1), fun V lv ov => ?_, r2.trans (Rch.one (by decide) hlt ego (by show s''.1 < (goN tx len s'').2 + 1; omega) hlt2), ⟨Or.inr rfl, rfl, fun _ => rfl⟩, by show s.1 < (goN tx len s'').2 + 1; omega, rfl, r6, ⟨r7.1, r7.2.1, Nat.le_succ_of_le r7.2.2.1, fun j hj => ?_⟩, ?_, r9, hst.1, hst.1⟩
  · rw [hP, hnum, ex_ok h37, ek1, ck_eq]
    rfl
  · have hm := r7.2.2.1
    have q := r7.2.2.2 j hj
    exact ⟨(va_up_ne _ _ (by show j ≠ s''.2.2.2.2.1; omega)).trans q.1, (va_up_ne _ _ (by show j ≠ s''.2.2.2.2.1; omega)).trans q.2⟩
  · refine sem_un (o := 6) (r8.fr (fun k q1 q2 => ⟨va_up_ne _ _ (by show k ≠ s''.2.2.2.2.1; omega), va_up_ne _ _ (by show k ≠ s''.2.2.2.2.1; omega)⟩) (fun _ _ q => q)) (va_up_self _ _ _) (Or.inr rfl) (fun q => absurd q (by decide)) (fun VC VR hA => ⟨fun q => by rw [Bool.or_eq_false_iff] at q; exact q.1, fun q1 q2 y => ?_⟩)
    have e : opG VR 6 (va_up s''.2.2.2.2.2.2.1 s''.2.2.2.2.1 (nI k) s''.2.2.2.2.1) y (val VC) = hdT (val VC * (nI k).toInt64) := by
      rw [va_up_self]
      exact hp (val VC) k q2 (by omega)
    refine ⟨fun q => ?_, fun q => ?_⟩
    · have hin : inR (hdT (val VC * (nI k).toInt64)) = true := by
        rw [Bool.or_eq_false_iff] at q
        cases z : inR (hdT (val VC * (nI k).toInt64)) with
        | true => rfl
        | false => rw [z] at q; exact absurd q.2 (by decide)
      refine ⟨?_, ?_⟩
      · show _ = if inR (hdT (val VC * (nI k).toInt64)) = true then _ else _
        rw [if_pos hin]
        exact e
      · show inR (if inR (hdT (val VC * (nI k).toInt64)) = true then hdT (val VC * (nI k).toInt64) else 0) = true
        rw [if_pos hin]
        exact hin
    · have q' : (ovf VC || !(inR (hdT (val VC * (nI k).toInt64)))) = true := q
      rw [q1, Bool.false_or] at q'
      have : inR (hdT (val VC * (nI k).toInt64)) = false := by
        cases z : inR (hdT (val VC * (nI k).toInt64)) with
        | true => rw [z] at q'; exact absurd q' (by decide)
        | false => rfl
      rw [← e] at this
      exact this
end
