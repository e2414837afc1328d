/-! ENDS OF FORMULAS: what the reference makes of the sign behind one *-/
section
variable {tx : Nat → Int32} {len g : Nat} {x : Int32} {s' s'' : RS}
/-- a sign that closing doesn't take away *-/
def bk (b : Int32) : Prop := ¬ b = 7 ∧ ¬ b = 8 ∧ ¬ b = 10 ∧ ¬ b = 11 ∧ ¬ b = 12
theorem tp_at {s : RS} (hg : s.2.1 = g + 1) : tpS s = s.2.2.1 g := by unfold tpS; rw [if_neg (by omega), hg]; rfl
theorem cl_ok (h : PendF (g + 1) s' s'') (hb : bk (s'.2.2.1 g)) : clS s' = s'' ∧ clB s' = true ∧ tpS s'' = s'.2.2.1 g := by
  obtain ⟨b1, b2, b3, b4, b5⟩ := hb
  have h1 : clS s' = s'' := cl_pend h (Or.inr (by rintro (z | z | z); exact b3 z; exact b4 z; exact b5 z))
  obtain ⟨k1, k2, k3, k4, k5⟩ := h.keep
  have ht : tpS s'' = s'.2.2.1 g := by rw [tp_at k2, k3]
  refine ⟨h1, ?_, ht⟩
  unfold clB
  rw [h1, ht, decide_eq_true b1, decide_eq_true b2]
  rfl
theorem go_en {pt : Bool} (h1 : ¬ lkR tx len s'.1 = 42) (h2 : ¬ (lkR tx len s'.1 = 43 ∨ lkR tx len s'.1 = 45)) (h3 : ¬ (lkR tx len s'.1 = 60 ∨ lkR tx len s'.1 = 62)) (h4 : ¬ lkR tx len s'.1 = 63) (h : PendF (g + 1) s' s'') (hb : bk (s'.2.2.1 g)) : goS tx len pt s' = enT (lkR tx len s'.1) (atS s'' (s'.1 + 1)) := by
  obtain ⟨c1, c2, c3⟩ := cl_ok h hb
  unfold goS
  rw [if_neg h1, if_neg h2, if_neg h3, if_neg h4]
  unfold enS
  rw [clB_at, c2, if_pos rfl, clS_at, c1]
theorem st_go (hx : x = 1 ∨ x = 3) : rdSt tx len x s' = goS tx len (decide (x = 3)) s' := if_neg (by rcases hx with rfl | rfl <;> decide)
theorem x_pos (hx : x = 1 ∨ x = 3) : 0 < x := by rcases hx with rfl | rfl <;> decide
/-- the sign goes on *-/
theorem end_ok (hC : CF tx len (g + 1) x s' s'') (hb : bk (s'.2.2.1 g)) (hc : lkR tx len s'.1 = 41 ∨ lkR tx len s'.1 = 44 ∨ lkR tx len s'.1 = 58) : rdSt tx len x s' = enT (lkR tx len s'.1) (atS s'' (s'.1 + 1)) := by
  obtain ⟨hx, hp, -, h2, h3⟩ := hC
  rw [st_go hx]
  refine go_en ?_ h2 h3 ?_ hp hb
  · rcases hc with z | z | z <;> rw [z] <;> decide
  · rcases hc with z | z | z <;> rw [z] <;> decide
/-- what may come behind, by the sign below *-/
def okE (c b : Int32) : Prop := (c = 58 ∧ b = 9) ∨ (c = 44 ∧ (b = 2 ∨ b = 3)) ∨ (c = 41 ∧ (b = 1 ∨ b = 4 ∨ b = 5 ∨ b = 6))
theorem en_no {c : Int32} {s : RS} (h : ¬ okE c (tpS s)) : (enT c s).1 = 0 := by
  unfold enT
  rw [if_neg (fun q => h (Or.inl q)), if_neg (fun q => h (Or.inr (Or.inl q))), if_neg (fun q => h (Or.inr (Or.inr q)))]
theorem end_bad (hC : CF tx len (g + 1) x s' s'') (hb : bk (s'.2.2.1 g)) (ha : s'.1 ≤ len) (hc : ¬ okE (lkR tx len s'.1) (s'.2.2.1 g)) : Bad tx len x s' := by
  obtain ⟨hx, hp, h1, h2, h3⟩ := hC
  obtain ⟨c1, c2, c3⟩ := cl_ok hp hb
  by_cases hl : s'.1 < len
  · refine Bad.go (x_pos hx) hl ?_
    rw [st_go hx]
    by_cases q1 : lkR tx len s'.1 = 42
    · rw [h1 q1]
      unfold goS
      rw [if_pos q1]
      show (if decide ((3 : Int32) = 3) = false ∧ s'.1 + 1 < (goN tx len s').2 ∧ lkR tx len (goN tx len s').2 = 37 then (3 : Int32) else 0) = 0
      rw [if_neg (fun z => absurd z.1 (by decide))]
    by_cases q4 : lkR tx len s'.1 = 63
    · unfold goS
      rw [if_neg q1, if_neg h2, if_neg h3, if_pos q4]
      obtain ⟨j, s1, p1, p2, p3⟩ := hp
      have hg : goT s' = atS s1 (s'.1 + 1) := by
        unfold goT
        rw [stS_at, st_pend p1 (Or.inr (by
          by_cases hj : j = 0
          · subst hj
            rintro (z | z)
            · exact hb.2.2.2.1 z
            · exact hb.2.2.2.2 z
          · rw [p2 (g + 1 + j - 1) (by omega) (by omega)]; decide))]
      obtain ⟨k1, k2, k3, k4, k5⟩ := p1.keep
      have ht : tpS (goT s') = s'.2.2.1 (g + j) := by
        rw [hg]
        show tpS s1 = _
        rw [tp_at (g := g + j) (by omega), k3]
      rw [if_neg]
      rw [ht]
      by_cases hj : j = 0
      · subst hj
        rintro (z | z)
        · exact hb.1 z
        · exact hb.2.1 z
      · rw [p2 (g + j) (by omega) (by omega)]; decide
    rw [go_en q1 h2 h3 q4 hp hb]
    exact en_no (by show ¬ okE _ (tpS s''); rw [c3]; exact hc)
  · refine Bad.fin (by omega) ?_
    unfold tB
    split
    · show (clB s' && decide ((clS s').2.1 = 0)) = false
      rw [c1, hp.keep.2.1, decide_eq_false (by omega), Bool.and_false]
    · rfl
end
section
variable {tx : Nat → Int32} {len n d : Nat}
def fF (tx : Nat → Int32) (len n d : Nat) : VV → Bool → St → Int64 × St := fun V lv st => rForm (mkE tx len V) n d lv st
def TopOk (s : RS) : Prop := s.2.1 = 0 ∨ (¬ s.2.2.1 (s.2.1 - 1) = 7 ∧ ¬ s.2.2.1 (s.2.1 - 1) = 8 ∧ ¬ s.2.2.1 (s.2.1 - 1) = 11 ∧ ¬ s.2.2.1 (s.2.1 - 1) = 12)
/-- formulas read with this fuel are read alike *-/
def IHF (tx : Nat → Int32) (len n : Nat) : Prop := ∀ (d : Nat) (s : RS), d ≤ 4 → RI s → s.1 ≤ len → 41 ≤ n + s.1 → dpN s.2.2.1 s.2.1 = d → TopOk s → Bd tx len (fF tx len n d) s ∨ Rs tx len (fF tx len n d) s (CF tx len s.2.1)
/-- a formula behind a sign b that was put, and one of its ends: what both do *-/
theorem br_one (hI : IHF tx len n) {s : RS} {b mj : Int32} {a : Nat} (hd : d < 4) (hb : bk b) (hb6 : ¬ 6 < b) (hdp : dpN s.2.2.1 s.2.1 = d) (ha : a ≤ len) (hna : 41 ≤ n + a) (hRI : RI (atS (ptS s b mj) a)) :
    Bd tx len (fF tx len n (d + 1)) (atS (ptS s b mj) a) ∨ Rs tx len (fF tx len n (d + 1)) (atS (ptS s b mj) a) (CF tx len (s.2.1 + 1)) := by
  refine hI (d + 1) (atS (ptS s b mj) a) (by omega) hRI ha hna ?_ ?_
  · show dpN (va_up s.2.2.1 s.2.1 b) (s.2.1 + 1) = d + 1
    unfold dpN
    rw [va_up_self, if_pos hb6, dpN_congr (g := s.2.2.1) s.2.1 (fun k hk => va_up_ne _ _ (by omega)), hdp]
  · refine Or.inr ?_
    show ¬ va_up s.2.2.1 s.2.1 b s.2.1 = 7 ∧ ¬ va_up s.2.2.1 s.2.1 b s.2.1 = 8 ∧ ¬ va_up s.2.2.1 s.2.1 b s.2.1 = 11 ∧ ¬ va_up s.2.2.1 s.2.1 b s.2.1 = 12
    rw [va_up_self]
    exact ⟨hb.1, hb.2.1, hb.2.2.2.1, hb.2.2.2.2⟩
end
