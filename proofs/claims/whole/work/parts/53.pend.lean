/-! SIGNS THAT WAIT ON THE REFERENCE'S STACK, AND THEIR CLOSING -/
theorem stS_at {a : Nat} : ∀ (n : Nat) (s : RS), stS n (atS s a) = atS (stS n s) a
  | 0, _ => rfl
  | n + 1, s => by
    rw [stS, stS]
    have e : tpS (atS s a) = tpS s := rfl
    rw [e]
    by_cases h : tpS s = 11 ∨ tpS s = 12
    · rw [if_pos h, if_pos h]
      exact stS_at n (mkS (popS s) (if tpS s = 11 then 7 else 8) 0)
    · rw [if_neg h, if_neg h]
theorem elS_at {a : Nat} : ∀ (n : Nat) (s : RS), elS n (atS s a) = atS (elS n s) a
  | 0, _ => rfl
  | n + 1, s => by
    rw [elS, elS]
    have e : tpS (atS s a) = tpS s := rfl
    rw [e]
    by_cases h : tpS s = 10
    · rw [if_pos h, if_pos h]
      exact elS_at n (wiS (popS s) (s.2.2.2.1 (s.2.1 - 1)).toNatClampNeg (nI s.2.2.2.2.1))
    · rw [if_neg h, if_neg h]
theorem clS_at {a : Nat} {s : RS} : clS (atS s a) = atS (clS s) a := by
  unfold clS
  rw [show (atS s a).2.1 = s.2.1 from rfl, stS_at, show (atS (stS s.2.1 s) a).2.1 = (stS s.2.1 s).2.1 from rfl, elS_at]
theorem clB_at {a : Nat} {s : RS} : clB (atS s a) = clB s := by
  unfold clB
  rw [clS_at]
  rfl
/-- behind a sum: nothing waits above g, or one plus or minus *-/
def PendS (g : Nat) (s' s'' : RS) : Prop := (s'.2.1 = g ∧ s'' = s') ∨ (s'.2.1 = g + 1 ∧ (s'.2.2.1 g = 11 ∨ s'.2.2.1 g = 12) ∧ s'' = mkS (popS s') (if s'.2.2.1 g = 11 then 7 else 8) 0)
theorem PendS.keep {g : Nat} {s' s'' : RS} (h : PendS g s' s'') : s''.1 = s'.1 ∧ s''.2.1 = g ∧ s''.2.2.1 = s'.2.2.1 ∧ s''.2.2.2.1 = s'.2.2.2.1 ∧ s''.2.2.2.2.2.2.2 = s'.2.2.2.2.2.2.2 := by
  rcases h with ⟨h1, rfl⟩ | ⟨h1, h2, rfl⟩
  · exact ⟨rfl, h1, rfl, rfl, rfl⟩
  · exact ⟨rfl, by show s'.2.1 - 1 = g; omega, rfl, rfl, rfl⟩
theorem st_none {s : RS} (h : s.2.1 = 0 ∨ ¬ (s.2.2.1 (s.2.1 - 1) = 11 ∨ s.2.2.1 (s.2.1 - 1) = 12)) (n : Nat) (hn : s.2.1 = n) : stS n s = s := by
  cases n with
  | zero => rfl
  | succ n =>
    have ht : tpS s = s.2.2.1 (s.2.1 - 1) := if_neg (by omega)
    rw [stS, ht, if_neg]
    rcases h with q | q
    · omega
    · exact q
theorem st_pend {g : Nat} {s' s'' : RS} (h : PendS g s' s'') (ht : g = 0 ∨ ¬ (s'.2.2.1 (g - 1) = 11 ∨ s'.2.2.1 (g - 1) = 12)) : stS s'.2.1 s' = s'' := by
  rcases h with ⟨h1, rfl⟩ | ⟨h1, h2, rfl⟩
  · exact st_none (by rw [h1]; exact ht) _ rfl
  · have hp : tpS s' = s'.2.2.1 g := by unfold tpS; rw [if_neg (by omega), h1]; rfl
    rw [h1, stS, hp, if_pos h2]
    exact st_none (by show s'.2.1 - 1 = 0 ∨ ¬ (s'.2.2.1 (s'.2.1 - 1 - 1) = 11 ∨ s'.2.2.1 (s'.2.1 - 1 - 1) = 12); rw [h1]; exact ht) _ (by show s'.2.1 - 1 = g; omega)
def elP : Nat → RS → RS
  | 0, s => s
  | j + 1, s => elP j (wiS (popS s) (s.2.2.2.1 (s.2.1 - 1)).toNatClampNeg (nI s.2.2.2.2.1))
theorem elP_keep : ∀ (j : Nat) (s : RS), (elP j s).1 = s.1 ∧ (elP j s).2.1 = s.2.1 - j ∧ (elP j s).2.2.1 = s.2.2.1 ∧ (elP j s).2.2.2.1 = s.2.2.2.1 ∧ (elP j s).2.2.2.2.1 = s.2.2.2.2.1 ∧ (elP j s).2.2.2.2.2.1 = s.2.2.2.2.2.1 ∧ (elP j s).2.2.2.2.2.2.2 = s.2.2.2.2.2.2.2
  | 0, s => ⟨rfl, rfl, rfl, rfl, rfl, rfl, rfl⟩
  | j + 1, s => by
    obtain ⟨h1, h2, h3, h4, h5, h6, h7⟩ := elP_keep j (wiS (popS s) (s.2.2.2.1 (s.2.1 - 1)).toNatClampNeg (nI s.2.2.2.2.1))
    refine ⟨h1, ?_, h3, h4, h5, h6, h7⟩
    have h2' : (elP j (wiS (popS s) (s.2.2.2.1 (s.2.1 - 1)).toNatClampNeg (nI s.2.2.2.2.1))).2.1 = s.2.1 - 1 - j := h2
    show (elP j (wiS (popS s) (s.2.2.2.1 (s.2.1 - 1)).toNatClampNeg (nI s.2.2.2.2.1))).2.1 = s.2.1 - (j + 1)
    omega
/-- behind a formula: j elses wait above g, and perhaps a plus or minus above them *-/
def PendF (g : Nat) (s' s'' : RS) : Prop := ∃ j s1, PendS (g + j) s' s1 ∧ (∀ k, g ≤ k → k < g + j → s'.2.2.1 k = 10) ∧ s'' = elP j s1
theorem PendF.keep {g : Nat} {s' s'' : RS} (h : PendF g s' s'') : s''.1 = s'.1 ∧ s''.2.1 = g ∧ s''.2.2.1 = s'.2.2.1 ∧ s''.2.2.2.1 = s'.2.2.2.1 ∧ s''.2.2.2.2.2.2.2 = s'.2.2.2.2.2.2.2 := by
  obtain ⟨j, s1, h1, h2, rfl⟩ := h
  obtain ⟨k1, k2, k3, k4, k5⟩ := h1.keep
  obtain ⟨e1, e2, e3, e4, e5, e6, e7⟩ := elP_keep j s1
  exact ⟨e1.trans k1, by rw [e2, k2]; omega, e3.trans k3, e4.trans k4, e7.trans k5⟩
theorem el_pend {g : Nat} : ∀ (j : Nat) (s : RS), s.2.1 = g + j → (∀ k, g ≤ k → k < g + j → s.2.2.1 k = 10) → (g = 0 ∨ ¬ s.2.2.1 (g - 1) = 10) → elS (g + j) s = elP j s
  | 0, s, h, _, ht => by
    cases g with
    | zero => rfl
    | succ g =>
      have e : tpS s = s.2.2.1 g := by unfold tpS; rw [if_neg (by omega), h]; rfl
      show elS (g + 1) s = s
      rw [elS, e, if_neg]
      rcases ht with q | q
      · omega
      · exact q
  | j + 1, s, h, h2, ht => by
    have e : tpS s = 10 := by unfold tpS; rw [if_neg (by omega), h]; exact h2 (g + j) (by omega) (by omega)
    show elS (g + j + 1) s = _
    rw [elS, if_pos e]
    exact el_pend j _ (by show s.2.1 - 1 = g + j; omega) (fun k q1 q2 => h2 k q1 (by omega)) ht
theorem cl_pend {g : Nat} {s' s'' : RS} (h : PendF g s' s'') (ht : g = 0 ∨ ¬ (s'.2.2.1 (g - 1) = 10 ∨ s'.2.2.1 (g - 1) = 11 ∨ s'.2.2.1 (g - 1) = 12)) : clS s' = s'' := by
  obtain ⟨j, s1, h1, h2, rfl⟩ := h
  obtain ⟨k1, k2, k3, k4, k5⟩ := h1.keep
  have hst : stS s'.2.1 s' = s1 := st_pend h1 (by
    by_cases hj : j = 0
    · subst hj
      rcases ht with q | q
      · exact Or.inl (by omega)
      · exact Or.inr (fun z => q (Or.inr z))
    · refine Or.inr (fun z => ?_)
      rw [h2 (g + j - 1) (by omega) (by omega)] at z
      rcases z with z | z <;> exact absurd z (by decide))
  unfold clS
  rw [hst, k2]
  exact el_pend j s1 k2 (fun k q1 q2 => by rw [k3]; exact h2 k q1 q2) (by
    rcases ht with q | q
    · exact Or.inl q
    · exact Or.inr (fun z => q (Or.inl (by rw [← k3]; exact z))))
/-! frames -/
def Fr (s s' : RS) (g : Nat) : Prop := s'.2.1 = g ∧ (∀ k, k < g → s'.2.2.1 k = s.2.2.1 k ∧ s'.2.2.2.1 k = s.2.2.2.1 k) ∧ s.2.2.2.2.1 ≤ s'.2.2.2.2.1 ∧ ∀ k, k < s.2.2.2.2.1 → s'.2.2.2.2.2.1 k = s.2.2.2.2.2.1 k ∧ s'.2.2.2.2.2.2.1 k = s.2.2.2.2.2.2.1 k
theorem dpN_congr {f g : Nat → Int32} : ∀ n, (∀ k, k < n → f k = g k) → dpN f n = dpN g n
  | 0, _ => rfl
  | n + 1, h => by
    unfold dpN
    rw [h n (by omega), dpN_congr n (fun k hk => h k (by omega))]
def CU : Int32 → RS → RS → Prop := fun x s' s'' => x = 1 ∧ s'' = s'
def CP (tx : Nat → Int32) (len : Nat) : Int32 → RS → RS → Prop := fun x s' s'' => (x = 1 ∨ x = 3) ∧ s'' = s' ∧ (lkR tx len s'.1 = 42 → x = 3)
def CS2 (tx : Nat → Int32) (len g : Nat) : Int32 → RS → RS → Prop := fun x s' s'' => (x = 1 ∨ x = 3) ∧ PendS g s' s'' ∧ (lkR tx len s'.1 = 42 → x = 3) ∧ ¬ (lkR tx len s'.1 = 43 ∨ lkR tx len s'.1 = 45)
def CF (tx : Nat → Int32) (len g : Nat) : Int32 → RS → RS → Prop := fun x s' s'' => (x = 1 ∨ x = 3) ∧ PendF g s' s'' ∧ (lkR tx len s'.1 = 42 → x = 3) ∧ ¬ (lkR tx len s'.1 = 43 ∨ lkR tx len s'.1 = 45) ∧ ¬ (lkR tx len s'.1 = 60 ∨ lkR tx len s'.1 = 62)
/-- both read on alike *-/
def Rs (tx : Nat → Int32) (len : Nat) (f : VV → Bool → St → Int64 × St) (s : RS) (C : Int32 → RS → RS → Prop) : Prop :=
  ∃ (nm' : Int32) (val : VV → Int64) (ovf : VV → Bool) (x : Int32) (s' s'' : RS), RdTo tx len f s.1 s.2.2.2.2.2.2.2 s'.1 nm' val ovf ∧ Rch tx len 2 s x s' ∧ C x s' s'' ∧ s.1 < s'.1 ∧ s''.1 = s'.1 ∧ s''.2.2.2.2.2.2.2 = nm' ∧ Fr s s'' s.2.1 ∧ Sem s''.2.2.2.2.2.1 s''.2.2.2.2.2.2.1 s.2.2.2.2.1 s''.2.2.2.2.1 nm' val ovf ∧ (∀ i, i < 12 → tb s.2.2.2.2.2.2.2 i = true → tb nm' i = true) ∧ RI s' ∧ RI s''
/-- both refuse *-/
def Bd (tx : Nat → Int32) (len : Nat) (f : VV → Bool → St → Int64 × St) (s : RS) : Prop := RdBad f s.1 s.2.2.2.2.2.2.2 ∧ Bad tx len 2 s
