/-! SUMS *-/
section
variable {tx : Nat → Int32} {len n d : Nat}
theorem ri_pend {g : Nat} {s' s'' : RS} (h : PendS g s' s'') (hi : RI s') : RI s'' := by
  rcases h with ⟨h1, rfl⟩ | ⟨h1, h2, rfl⟩
  · exact hi
  · obtain ⟨i1, i2, i3⟩ := hi
    have ht : tpS s' = s'.2.2.1 g := tp_at h1
    obtain ⟨w1, w2⟩ := wt_pop (s := s') (by rw [ht]; exact h2)
    refine ⟨?_, ?_, fun k hk => i3 k (by have : k < s'.2.1 - 1 := hk; omega)⟩
    · show s'.2.1 - 1 ≤ s'.1; omega
    · show s'.2.2.2.2.1 + 1 + wtN s'.2.2.1 (s'.2.1 - 1) ≤ s'.1; omega
def NoS (s : RS) (g : Nat) : Prop := g = 0 ∨ ¬ (s.2.2.1 (g - 1) = 11 ∨ s.2.2.1 (g - 1) = 12)
theorem go_T {g : Nat} {s' s'' : RS} (h : PendS g s' s'') (ht : NoS s' g) : goT s' = atS s'' (s'.1 + 1) := by
  unfold goT
  rw [stS_at, st_pend h ht]
theorem go_add {g : Nat} {x : Int32} {s' s'' : RS} (hx : x = 1 ∨ x = 3) (h : PendS g s' s'') (ht : NoS s' g) (hc : lkR tx len s'.1 = 43 ∨ lkR tx len s'.1 = 45) : rdSt tx len x s' = (2, atS (ptS s'' (if lkR tx len s'.1 = 43 then 11 else 12) 0) (s'.1 + 1)) := by
  rw [st_go hx]
  unfold goS
  rw [if_neg (by rcases hc with z | z <;> rw [z] <;> decide), if_pos hc, go_T h ht]
  rfl
theorem nos_of {s s'' : RS} {g : Nat} (h : Fr s s'' g) (ht : NoS s g) : NoS s'' g := by
  rcases ht with q | q
  · exact Or.inl q
  · by_cases hg : g = 0
    · exact Or.inl hg
    · exact Or.inr (by rw [(h.2.1 (g - 1) (by omega)).1]; exact q)
theorem sumL (hp : Pct) (hI : IHF tx len n) (h40 : len ≤ 40) (hd : d ≤ 4) {s : RS} (hdp : dpN s.2.2.1 s.2.1 = d) (hno : NoS s s.2.1) (hna : 40 ≤ n + s.1) : ∀ (k : Nat) (x : Int32) (s' s'' : RS) (nm' : Int32) (val : VV → Int64) (ovf : VV → Bool), s.1 ≤ s'.1 → s'.1 ≤ len → len ≤ s'.1 + k → (x = 1 ∨ x = 3) → PendS s.2.1 s' s'' → (lkR tx len s'.1 = 42 → x = 3) → s''.2.2.2.2.2.2.2 = nm' → Fr s s'' s.2.1 → Sem s''.2.2.2.2.2.1 s''.2.2.2.2.2.2.1 s.2.2.2.2.1 s''.2.2.2.2.1 nm' val ovf → RI s' →
    ((∀ V lv ov, (rSumL (mkE tx len V) (rForm (mkE tx len V) n) d lv k (val V) (s'.1, false, nm', ov || (lv && ovf V))).2.2.1 = true) ∧ Bad tx len x s') ∨
    ∃ (nm2 : Int32) (v2 : VV → Int64) (o2 : VV → Bool) (y : Int32) (t' t'' : RS), (∀ V lv ov, rSumL (mkE tx len V) (rForm (mkE tx len V) n) d lv k (val V) (s'.1, false, nm', ov || (lv && ovf V)) = (v2 V, (t'.1, false, nm2, ov || (lv && o2 V)))) ∧ Rch tx len x s' y t' ∧ CS2 tx len s.2.1 y t' t'' ∧ s'.1 ≤ t'.1 ∧ t''.2.2.2.2.2.2.2 = nm2 ∧ Fr s t'' s.2.1 ∧ Sem t''.2.2.2.2.2.1 t''.2.2.2.2.2.2.1 s.2.2.2.2.1 t''.2.2.2.2.1 nm2 v2 o2 ∧ (∀ i, i < 12 → tb nm' i = true → tb nm2 i = true) ∧ RI t' := by
  intro k
  induction k with
  | zero =>
    intro x s' s'' nm' val ovf h1 h2 h3 hx hP h42 hl hF hS hi
    have h0 : lkR tx len s'.1 = 0 := if_pos (by omega)
    exact Or.inr ⟨nm', val, ovf, x, s', s'', fun V lv ov => rfl, Rch.rf h2, ⟨hx, hP, h42, by rw [h0]; decide⟩, Nat.le_refl _, hl, hF, hS, fun _ _ q => q, hi⟩
  | succ k ih =>
    intro x s' s'' nm' val ovf h1 h2 h3 hx hP h42 hl hF hS hi
    by_cases hc : lkR tx len s'.1 = 43 ∨ lkR tx len s'.1 = 45
    rotate_left
    · refine Or.inr ⟨nm', val, ovf, x, s', s'', fun V lv ov => ?_, Rch.rf h2, ⟨hx, hP, h42, hc⟩, Nat.le_refl _, hl, hF, hS, fun _ _ q => q, hi⟩
      rw [rSumL, nx_k, if_neg (fun q => hc (Or.inl q)), if_neg (fun q => hc (Or.inr q))]
    have hlt := lk_lt (tx := tx) (len := len) (i := s'.1) (by rcases hc with z | z <;> rw [z] <;> decide)
    have hkp := hP.keep
    have hno' : NoS s' s.2.1 := by
      have := nos_of hF hno
      rcases this with q | q
      · exact Or.inl q
      · exact Or.inr (by rw [← hkp.2.2.1]; exact q)
    have est := go_add (tx := tx) (len := len) hx hP hno' hc
    have hst := st_inv (tx := tx) (x := x) h40 hlt hi
    rw [est] at hst
    generalize hw : (if lkR tx len s'.1 = 43 then (11 : Int32) else 12) = w at est hst
    have hw2 : w = 11 ∨ w = 12 := by rw [← hw]; split; exact Or.inl rfl; exact Or.inr rfl
    have hsg : s''.2.1 = s.2.1 := hF.1
    have hrc := Rch.one (x_pos hx) hlt est (Nat.lt_succ_self _) hlt
    have hdp1 : dpN (atS (ptS s'' w 0) (s'.1 + 1)).2.2.1 (atS (ptS s'' w 0) (s'.1 + 1)).2.1 = d := by
      show dpN (va_up s''.2.2.1 s''.2.1 w) (s''.2.1 + 1) = d
      unfold dpN
      rw [va_up_self, if_neg (by rcases hw2 with z | z <;> rw [z] <;> decide), dpN_congr (g := s.2.2.1) s''.2.1 (fun k hk => by rw [va_up_ne _ _ (by omega)]; exact (hF.2.1 k (by omega)).1), hsg, hdp]
    have hli : (atS (ptS s'' w 0) (s'.1 + 1)).2.2.2.2.2.2.2 = nm' := hl
    have hrow : ∀ V lv ov, rSumL (mkE tx len V) (rForm (mkE tx len V) n) d lv (k + 1) (val V) (s'.1, false, nm', ov || (lv && ovf V)) = rSumL (mkE tx len V) (rForm (mkE tx len V) n) d lv k (ck (if w = 11 then val V + (fP tx len n d V lv (s'.1 + 1, false, nm', ov || (lv && ovf V))).1 else val V - (fP tx len n d V lv (s'.1 + 1, false, nm', ov || (lv && ovf V))).1) lv (fP tx len n d V lv (s'.1 + 1, false, nm', ov || (lv && ovf V))).2).1 (ck (if w = 11 then val V + (fP tx len n d V lv (s'.1 + 1, false, nm', ov || (lv && ovf V))).1 else val V - (fP tx len n d V lv (s'.1 + 1, false, nm', ov || (lv && ovf V))).1) lv (fP tx len n d V lv (s'.1 + 1, false, nm', ov || (lv && ovf V))).2).2 := by
      intro V lv ov
      rw [rSumL, nx_k]
      by_cases q : lkR tx len s'.1 = 43
      · rw [if_pos q, ← hw, if_pos q, if_pos rfl]
        rfl
      · rw [if_neg q, if_pos (hc.resolve_left q), ← hw, if_neg q, if_neg (by decide)]
        rfl
    rcases P_all (s := atS (ptS s'' w 0) (s'.1 + 1)) hp hI h40 hlt hst.1 (by show 40 ≤ n + (s'.1 + 1); omega) hd hdp1 with hB | hR
    · refine Or.inl ⟨fun V lv ov => ?_, Bad.rch hrc hB.2⟩
      rw [hrow]
      refine rSumL_w k ?_
      rw [ck_w]
      have z := hB.1 V lv (ov || (lv && ovf V))
      rw [hli] at z
      exact z
    obtain ⟨nm1, v1, o1, y, t', t0, p1, p2, ⟨c1, rfl, c3⟩, p4, p5, p6, p7, p8, p9, p10, p11⟩ := hR
    have p1' : ∀ V lv ov, fP tx len n d V lv (s'.1 + 1, false, nm', ov) = (v1 V, (t0.1, false, nm1, ov || (lv && o1 V))) := fun V lv ov => by
      have z := p1 V lv ov
      rw [hli] at z
      exact z
    have p4' : s'.1 + 1 < t0.1 := p4
    have htl : t0.1 ≤ len := by obtain ⟨_, _, q, _⟩ := p2; exact q
    have hg0 : t0.2.1 = s.2.1 + 1 := by have := p7.1; rw [this]; show s''.2.1 + 1 = _; rw [hsg]
    have hsw : t0.2.2.1 s.2.1 = w := by
      have := (p7.2.1 s.2.1 (by show s.2.1 < s''.2.1 + 1; omega)).1
      rw [this]
      show va_up s''.2.2.1 s''.2.1 w s.2.1 = w
      rw [hsg, va_up_self]
    have hm0 : s''.2.2.2.2.1 ≤ t0.2.2.2.2.1 := p7.2.2.1
    have hms := hF.2.2.1
    generalize hod : (if w = 11 then (7 : Nat) else 8) = o
    have ho : o = 7 ∨ o = 8 := by rw [← hod]; split; exact Or.inl rfl; exact Or.inr rfl
    have hoI : (if w = 11 then (7 : Int32) else 8) = nI o := by rw [← hod]; split <;> rfl
    have hP2 : PendS s.2.1 t0 (mkS (popS t0) (nI o) 0) := Or.inr ⟨hg0, by rw [hsw]; exact hw2, by rw [hsw, hoI]⟩
    have hF2 : Fr s (mkS (popS t0) (nI o) 0) s.2.1 := by
      refine ⟨by show t0.2.1 - 1 = s.2.1; omega, fun j hj => ?_, by show s.2.2.2.2.1 ≤ t0.2.2.2.2.1 + 1; omega, fun j hj => ?_⟩
      · have q1 := p7.2.1 j (by show j < s''.2.1 + 1; omega)
        have q2 := hF.2.1 j hj
        exact ⟨(q1.1.trans (va_up_ne _ _ (by omega))).trans q2.1, (q1.2.trans (va_up_ne _ _ (by omega))).trans q2.2⟩
      · have q1 := p7.2.2.2 j (by show j < s''.2.2.2.2.1; omega)
        have q2 := hF.2.2.2 j hj
        exact ⟨(va_up_ne _ _ (by show j ≠ t0.2.2.2.2.1; omega)).trans (q1.1.trans q2.1), (va_up_ne _ _ (by show j ≠ t0.2.2.2.2.1; omega)).trans (q1.2.trans q2.2)⟩
    have hmono : ∀ i, i < 12 → tb nm' i = true → tb nm1 i = true := fun i hi' q => p9 i hi' (by rw [hli]; exact q)
    have hS2 : Sem (mkS (popS t0) (nI o) 0).2.2.2.2.2.1 (mkS (popS t0) (nI o) 0).2.2.2.2.2.2.1 s.2.2.2.2.1 (mkS (popS t0) (nI o) 0).2.2.2.2.1 nm1 (fun V => if inR (if w = 11 then val V + v1 V else val V - v1 V) = true then (if w = 11 then val V + v1 V else val V - v1 V) else 0) (fun V => (ovf V || o1 V) || !(inR (if w = 11 then val V + v1 V else val V - v1 V))) := by
      have q1 : Sem (mkS (popS t0) (nI o) 0).2.2.2.2.2.1 (mkS (popS t0) (nI o) 0).2.2.2.2.2.2.1 s.2.2.2.2.1 s''.2.2.2.2.1 nm1 val ovf := by
        refine hS.fr (fun j z1 z2 => ?_) hmono
        have z := p7.2.2.2 j (by show j < s''.2.2.2.2.1; exact z2)
        exact ⟨(va_up_ne _ _ (by show j ≠ t0.2.2.2.2.1; omega)).trans z.1, (va_up_ne _ _ (by show j ≠ t0.2.2.2.2.1; omega)).trans z.2⟩
      have q2 : Sem (mkS (popS t0) (nI o) 0).2.2.2.2.2.1 (mkS (popS t0) (nI o) 0).2.2.2.2.2.2.1 s''.2.2.2.2.1 t0.2.2.2.2.1 nm1 v1 o1 := Sem.fr p8 (fun j z1 z2 => ⟨va_up_ne _ _ (by show j ≠ t0.2.2.2.2.1; omega), va_up_ne _ _ (by show j ≠ t0.2.2.2.2.1; omega)⟩) (fun _ _ q => q)
      refine sem_bin (o := o) q1 q2 (va_up_self _ _ _) (by omega) (by omega) (fun VC VR hA => ⟨fun q => by rw [Bool.or_eq_false_iff, Bool.or_eq_false_iff] at q; exact q.1, fun z1 z2 i1 i2 => ?_⟩)
      have e : ∀ nn, opG VR o nn (val VC) (v1 VC) = if w = 11 then val VC + v1 VC else val VC - v1 VC := by
        intro nn
        rw [← hod]
        by_cases q : w = 11
        · rw [if_pos q, if_pos q]; rfl
        · rw [if_neg q, if_neg q]; rfl
      refine ⟨fun q => ?_, fun q => ?_⟩
      · have hin : inR (if w = 11 then val VC + v1 VC else val VC - v1 VC) = true := by
          rw [Bool.or_eq_false_iff] at q
          cases z : inR (if w = 11 then val VC + v1 VC else val VC - v1 VC) with
          | true => rfl
          | false => rw [z] at q; exact absurd q.2 (by decide)
        refine ⟨?_, ?_⟩
        · rw [e]
          show _ = if inR (if w = 11 then val VC + v1 VC else val VC - v1 VC) = true then _ else _
          rw [if_pos hin]
        · show inR (if inR (if w = 11 then val VC + v1 VC else val VC - v1 VC) = true then (if w = 11 then val VC + v1 VC else val VC - v1 VC) else 0) = true
          rw [if_pos hin]
          exact hin
      · have q' : ((ovf VC || o1 VC) || !(inR (if w = 11 then val VC + v1 VC else val VC - v1 VC))) = true := q
        rw [z1, z2, Bool.false_or, Bool.false_or] at q'
        rw [e]
        cases z : inR (if w = 11 then val VC + v1 VC else val VC - v1 VC) with
        | true => rw [z] at q'; exact absurd q' (by decide)
        | false => rfl
    have hrow2 : ∀ V lv ov, rSumL (mkE tx len V) (rForm (mkE tx len V) n) d lv (k + 1) (val V) (s'.1, false, nm', ov || (lv && ovf V)) = rSumL (mkE tx len V) (rForm (mkE tx len V) n) d lv k (if inR (if w = 11 then val V + v1 V else val V - v1 V) = true then (if w = 11 then val V + v1 V else val V - v1 V) else 0) (t0.1, false, nm1, ov || (lv && ((ovf V || o1 V) || !(inR (if w = 11 then val V + v1 V else val V - v1 V))))) := by
      intro V lv ov
      rw [hrow, p1', or_ov, ck_eq]
    rcases ih y t0 (mkS (popS t0) (nI o) 0) nm1 _ _ (by omega) htl (by omega) c1 hP2 c3 p6 hF2 hS2 p10 with hB | hR
    · refine Or.inl ⟨fun V lv ov => ?_, Bad.rch (hrc.trans p2) hB.2⟩
      rw [hrow2]
      exact hB.1 V lv ov
    · obtain ⟨nm2, v2, o2, z, t', t'', u1, u2, u3, u4, u5, u6, u7, u8, u9⟩ := hR
      refine Or.inr ⟨nm2, v2, o2, z, t', t'', fun V lv ov => ?_, (hrc.trans p2).trans u2, u3, by omega, u5, u6, u7, fun i hi' q => u8 i hi' (hmono i hi' q), u9⟩
      rw [hrow2]
      exact u1 V lv ov
def fS (tx : Nat → Int32) (len n d : Nat) : VV → Bool → St → Int64 × St := fun V lv st => rSum (mkE tx len V) (rForm (mkE tx len V) n) d lv st
theorem S_all (hp : Pct) (hI : IHF tx len n) (h40 : len ≤ 40) {s : RS} (hal : s.1 ≤ len) (hRI : RI s) (hna : 40 ≤ n + s.1) (hd : d ≤ 4) (hdp : dpN s.2.2.1 s.2.1 = d) (hno : NoS s s.2.1) : Bd tx len (fS tx len n d) s ∨ Rs tx len (fS tx len n d) s (CS2 tx len s.2.1) := by
  rcases P_all hp hI h40 hal hRI hna hd hdp with hB | hR
  · exact Or.inl ⟨fun V lv ov => rSumL_w 40 (hB.1 V lv ov), hB.2⟩
  obtain ⟨nm1, v1, o1, y, t', t0, p1, p2, ⟨c1, rfl, c3⟩, p4, p5, p6, p7, p8, p9, p10, p11⟩ := hR
  have htl : t0.1 ≤ len := by obtain ⟨_, _, q, _⟩ := p2; exact q
  have hrow : ∀ V lv ov, fS tx len n d V lv (s.1, false, s.2.2.2.2.2.2.2, ov) = rSumL (mkE tx len V) (rForm (mkE tx len V) n) d lv 40 (v1 V) (t0.1, false, nm1, ov || (lv && o1 V)) := by
    intro V lv ov
    unfold fS rSum
    rw [show rPart (mkE tx len V) (rForm (mkE tx len V) n) d lv (s.1, false, s.2.2.2.2.2.2.2, ov) = _ from p1 V lv ov]
  rcases sumL hp hI h40 hd hdp hno hna 40 y t0 t0 nm1 v1 o1 (by omega) htl (by omega) c1 (Or.inl ⟨p7.1, rfl⟩) c3 p6 p7 p8 p10 with hB | hR
  · refine Or.inl ⟨fun V lv ov => ?_, Bad.rch p2 hB.2⟩
    rw [hrow]
    exact hB.1 V lv ov
  · obtain ⟨nm2, v2, o2, z, u', u'', u1, u2, u3, u4, u5, u6, u7, u8, u9⟩ := hR
    refine Or.inr ⟨nm2, v2, o2, z, u', u'', fun V lv ov => ?_, p2.trans u2, u3, by omega, u3.2.1.keep.1, u5, u6, u7, fun i hi' q => u8 i hi' (p9 i hi' q), u9, ri_pend u3.2.1 u9⟩
    rw [hrow]
    exact u1 V lv ov
end
