/-! A WHOLE TEXT: both take it or neither does; its code works out to the class's value *-/
section
variable {tx : Nat → Int32} {len : Nat}
theorem top_bad {x : Int32} {s' s'' : RS} (hC : CF tx len 0 x s' s'') (ha : s'.1 < len) : Bad tx len x s' := by
  obtain ⟨hx, hp, h1, h2, h3⟩ := hC
  have hcl : clS s' = s'' := cl_pend hp (Or.inl rfl)
  have hk := hp.keep
  have ht : tpS s'' = 0 := if_pos hk.2.1
  refine Bad.go (x_pos hx) ha ?_
  rw [st_go hx]
  by_cases q1 : lkR tx len s'.1 = 42
  · rw [h1 q1]
    unfold goS
    rw [if_pos q1]
    show (if decide ((3 : Int32) = 3) = false ∧ s'.1 + 1 < (goN tx len s').2 ∧ lkR tx len (goN tx len s').2 = 37 then (3 : Int32) else 0) = 0
    rw [if_neg (fun z => absurd z.1 (by decide))]
  unfold goS
  rw [if_neg q1, if_neg h2, if_neg h3]
  by_cases q4 : lkR tx len s'.1 = 63
  · rw [if_pos q4]
    obtain ⟨j, s1, p1, p2, p3⟩ := hp
    have hg : goT s' = atS s1 (s'.1 + 1) := go_T p1 (by
      by_cases hj : j = 0
      · exact Or.inl (by omega)
      · exact Or.inr (by rw [p2 (0 + j - 1) (by omega) (by omega)]; decide))
    obtain ⟨k1, k2, k3, k4, k5⟩ := p1.keep
    rw [if_neg]
    rw [hg]
    show ¬ (tpS s1 = 7 ∨ tpS s1 = 8)
    by_cases hj : j = 0
    · rw [show tpS s1 = 0 from if_pos (by omega)]; decide
    · rw [tp_at (g := j - 1) (by omega), k3, p2 (j - 1) (by omega) (by omega)]; decide
  rw [if_neg q4]
  unfold enS
  have hcb : clB s' = true := by unfold clB; rw [hcl, ht]; decide
  rw [clB_at, hcb, if_pos rfl, clS_at, hcl]
  exact en_no (by show ¬ okE _ (tpS s''); rw [ht]; rintro (q | q | q) <;> exact absurd q.2 (by decide))
theorem top_read (hp : Pct) (h40 : len ≤ 40) (s0 : RS) (e1 : s0.1 = 0) (e2 : s0.2.1 = 0) (e3 : s0.2.2.2.2.1 = 0) (e4 : s0.2.2.2.2.2.2.2 = 0) :
    (tB len (rdL tx len 41 2 s0) = false ∧ ∀ V lv, (rForm (mkE tx len V) 41 0 lv (0, false, 0, false)).2.2.1 = true ∨ ¬ (rForm (mkE tx len V) 41 0 lv (0, false, 0, false)).2.1 = len) ∨
    (tB len (rdL tx len 41 2 s0) = true ∧ ∃ (nm : Int32) (val : VV → Int64) (ovf : VV → Bool), (∀ V lv, rForm (mkE tx len V) 41 0 lv (0, false, 0, false) = (val V, (len, false, nm, lv && ovf V))) ∧ (tZ len (rdL tx len 41 2 s0)).2.2.2.2.2.2.2 = nm ∧ Sem (tZ len (rdL tx len 41 2 s0)).2.2.2.2.2.1 (tZ len (rdL tx len 41 2 s0)).2.2.2.2.2.2.1 0 (tZ len (rdL tx len 41 2 s0)).2.2.2.2.1 nm val ovf) := by
  have hRI : RI s0 := ⟨by omega, by rw [e3, e2, e1]; exact Nat.le_refl _, fun k hk => by omega⟩
  rcases F_all (tx := tx) hp h40 41 0 s0 (by decide) hRI (by omega) (by omega) (by rw [e2]; rfl) (Or.inl e2) with hB | hR
  · refine Or.inl ⟨hB.2 41 (by omega), fun V lv => Or.inl ?_⟩
    have z := hB.1 V lv false
    rw [e1, e4] at z
    exact z
  obtain ⟨nm, val, ovf, x, s', s'', r1, r2, r3, r4, r5, r6, r7, r8, r9, r10, r11⟩ := hR
  rw [e2] at r3
  have r1' : ∀ V lv, rForm (mkE tx len V) 41 0 lv (0, false, 0, false) = (val V, (s'.1, false, nm, lv && ovf V)) := fun V lv => by
    have z := r1 V lv false
    rw [e1, e4, Bool.false_or] at z
    exact z
  have hal : s'.1 ≤ len := by obtain ⟨_, _, q, _⟩ := r2; exact q
  by_cases hl : s'.1 = len
  rotate_left
  · refine Or.inl ⟨Bad.rch r2 (top_bad r3 (by omega)) 41 (by omega), fun V lv => Or.inr ?_⟩
    rw [r1']
    exact hl
  have hcl : clS s' = s'' := cl_pend r3.2.1 (Or.inl rfl)
  have hk := r3.2.1.keep
  have ht : tpS s'' = 0 := if_pos hk.2.1
  have hcb : clB s' = true := by unfold clB; rw [hcl, ht]; decide
  have hrd : rdL tx len 41 2 s0 = (x, s') := by
    obtain ⟨k, q1, q2, q3⟩ := r2
    have := q3 (41 - k)
    rw [show 41 - k + k = 41 by omega] at this
    rw [this, rdL_end (by omega)]
  have hy : ((x, s').1 = 1 ∨ (x, s').1 = 3) ∧ (x, s').2.1 = len := ⟨r3.1, hl⟩
  have htZ : tZ len (rdL tx len 41 2 s0) = s'' := by rw [hrd]; unfold tZ; rw [if_pos hy]; exact hcl
  refine Or.inr ⟨?_, nm, val, ovf, fun V lv => by rw [r1', hl], by rw [htZ]; exact r6, by rw [htZ]; rw [e3] at r8; exact r8⟩
  rw [hrd]
  unfold tB
  rw [if_pos hy]
  show (clB s' && decide ((clS s').2.1 = 0)) = true
  rw [hcb, hcl, hk.2.1]
  rfl
/-- 64 steps are enough *-/
theorem ex_sem {S A stp wth : Nat → Int32} {st : Nat} {nm : Int32} {val : VV → Int64} {ovf : VV → Bool} {VC VR : VV} (h : Sem stp wth 0 st nm val ovf) (hst : st ≤ 48) (hr : ∀ k, k < st → S k = stp k ∧ A k = wth k) (ha : Agr VC VR nm) (sk : Nat → Int64) :
    (ovf VC = false → inR (val VC) = true ∧ ∃ dp sk', exG S A st VR 64 0 0 sk = some (true, dp, sk') ∧ sk' 0 = val VC) ∧ (ovf VC = true → ∃ r, exG S A st VR 64 0 0 sk = some (false, r)) := by
  obtain ⟨h1, h2⟩ := h.2 S A st VC VR (fun k _ q => hr k q) (Nat.le_refl _) hst ha
  refine ⟨fun q => ?_, fun q => ?_⟩
  · obtain ⟨i1, i2⟩ := h1 q
    obtain ⟨sk', ⟨c, g1, g2⟩, g3, -⟩ := i2 0 sk (Nat.le_refl _)
    refine ⟨i1, 1, sk', ?_, g3⟩
    have := g2 (63 - c + 1)
    rw [show 63 - c + 1 + c = 64 by omega] at this
    rw [this, exG, if_pos (Nat.le_refl _)]
  · obtain ⟨c, g1, g2⟩ := h2 q 0 sk (Nat.le_refl _)
    obtain ⟨r, hr2⟩ := g2 (64 - c)
    rw [show 64 - c + c = 64 by omega] at hr2
    exact ⟨r, hr2⟩
end
