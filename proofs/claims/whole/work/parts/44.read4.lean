/-! THE REFERENCE'S READING: read, define -/
def rd0 (M : Mem) : RS := (0, 0, mI M 115, mI M 116, 0, mI M 117, mI M 118, 0)
theorem rs_start {M : Mem} : sI (sI (sI (sI M 96 22 0) 96 23 0) 96 26 0) 96 27 0 = rS M (rd0 M) := by
  have e : up2 (up2 (up2 (up2 M.1 96 22 0) 96 23 0) 96 26 0) 96 27 0 = rsF M.1 (rd0 M) := by
    funext a j
    by_cases h : a = 96
    · subst h
      show _ = modF (M.1 96) (rd0 M) j
      unfold up2 modF rd0
      by_cases h1 : j = 22
      · subst h1; rfl
      by_cases h2 : j = 23
      · subst h2; rfl
      by_cases h3 : j = 26
      · subst h3; rfl
      by_cases h4 : j = 27
      · subst h4; rfl
      simp [h1, h2, h3, h4]
    · have e0 : up2 (up2 (up2 (up2 M.1 96 22 0) 96 23 0) 96 26 0) 96 27 0 a j = M.1 a j := by
        rw [up2_n _ _ (fun q => h q.1), up2_n _ _ (fun q => h q.1), up2_n _ _ (fun q => h q.1), up2_n _ _ (fun q => h q.1)]
      rw [e0]
      unfold rsF
      rw [if_neg h]
      by_cases h1 : a = 115
      · subst h1; rfl
      by_cases h2 : a = 116
      · subst h2; rfl
      by_cases h3 : a = 117
      · subst h3; rfl
      by_cases h4 : a = 118
      · subst h4; rfl
      rw [if_neg h1, if_neg h2, if_neg h3, if_neg h4]
  show (up2 (up2 (up2 (up2 M.1 96 22 0) 96 23 0) 96 26 0) 96 27 0, M.2) = (rsF M.1 (rd0 M), M.2)
  rw [e]
/-- what holds between two characters -/
def RI (s : RS) : Prop := s.2.1 ≤ s.1 ∧ s.2.2.2.2.1 + wtN s.2.2.1 s.2.1 ≤ s.1 ∧ MeOk s
theorem wt_up (f : Nat → Int32) (v : Int32) : ∀ (n k : Nat), k ≤ n → wtN (va_up f n v) k = wtN f k
  | n, 0, _ => rfl
  | n, k + 1, h => by
    show wtN (va_up f n v) k + wtV (va_up f n v k) = wtN f k + wtV (f k)
    rw [wt_up f v n k (by omega), va_up_ne _ _ (by omega)]
theorem wt_put (f : Nat → Int32) (n : Nat) (v : Int32) : wtN (va_up f n v) (n + 1) = wtN f n + wtV v := by
  show wtN (va_up f n v) n + wtV (va_up f n v n) = _
  rw [wt_up f v n n (Nat.le_refl _), va_up_self]
theorem wt_1 (v : Int32) : wtV v ≤ 1 := by unfold wtV; split <;> omega
theorem me_put {s : RS} {w : Int32} {j : Nat} (h : MeOk s) (hj : j < 48) : MeOk (ptS s w (nI j)) := by
  intro k hk
  have hk' : k < s.2.1 + 1 := hk
  show ∃ j', j' < 48 ∧ va_up s.2.2.2.1 s.2.1 (nI j) k = nI j'
  by_cases q : k = s.2.1
  · subst q; exact ⟨j, hj, va_up_self _ _ _⟩
  · obtain ⟨j', h1, h2⟩ := h k (by omega)
    exact ⟨j', h1, by rw [va_up_ne _ _ q]; exact h2⟩
/-- a put, with the place moved on -/
theorem ri_put {s : RS} {a j : Nat} {w : Int32} (h1 : s.2.1 + 1 ≤ a) (h2 : s.2.2.2.2.1 + wtN s.2.2.1 s.2.1 + wtV w ≤ a) (h3 : MeOk s) (hj : j < 48) : RI (atS (ptS s w (nI j)) a) := by
  refine ⟨h1, ?_, me_put h3 hj⟩
  show s.2.2.2.2.1 + wtN (va_up s.2.2.1 s.2.1 w) (s.2.1 + 1) ≤ a
  rw [wt_put]
  omega
theorem nmR_ge {tx : Nat → Int32} {len : Nat} : ∀ (k : Nat) (x : Int32) (i : Nat), i ≤ (nmR tx len k x i).2
  | 0, _, _ => Nat.le_refl _
  | k + 1, x, i => by
    rw [nmR]
    split
    · exact Nat.le_trans (Nat.le_succ i) (nmR_ge k _ (i + 1))
    · exact Nat.le_refl _
theorem bg_inv {tx : Nat → Int32} {len : Nat} {s : RS} (h40 : len ≤ 40) (ha : s.1 < len) (h : RI s) : RI (bgS tx len s).2 ∧ ((bgS tx len s).1 = 0 ∨ s.1 < (bgS tx len s).2.1) ∧ (bgS tx len s).2.1 ≤ 41 := by
  obtain ⟨h1, h2, h3⟩ := h
  unfold bgS
  by_cases c1 : isNm (lkR tx len s.1) = true
  · rw [if_pos c1]
    by_cases c2 : lkR tx len (s.1 + 1) = 39
    · rw [if_pos c2]
      have := lk_lt (tx := tx) (len := len) (i := s.1 + 1) (by rw [c2]; decide)
      refine ⟨⟨?_, ?_, h3⟩, Or.inr ?_, ?_⟩
      · show s.2.1 ≤ s.1 + 2; omega
      · show s.2.2.2.2.1 + 1 + wtN s.2.2.1 s.2.1 ≤ s.1 + 2; omega
      · show s.1 < s.1 + 2; omega
      · show s.1 + 2 ≤ 41; omega
    · rw [if_neg c2]
      refine ⟨⟨?_, ?_, h3⟩, Or.inr ?_, ?_⟩
      · show s.2.1 ≤ s.1 + 1; omega
      · show s.2.2.2.2.1 + 1 + wtN s.2.2.1 s.2.1 ≤ s.1 + 1; omega
      · show s.1 < s.1 + 1; omega
      · show s.1 + 1 ≤ 41; omega
  rw [if_neg c1]
  by_cases c2 : isDg (lkR tx len s.1) = true
  · rw [if_pos c2]
    have e : nmR tx len 6 0 s.1 = nmR tx len 5 (10 * 0 + tx s.1 - 48) (s.1 + 1) := by rw [nmR, if_pos c2]
    have g1 : s.1 + 1 ≤ (nmR tx len 6 0 s.1).2 := by rw [e]; exact nmR_ge 5 _ _
    have g2 : (nmR tx len 6 0 s.1).2 ≤ 41 := nmR_le (by omega) 6 0 s.1 (by omega)
    refine ⟨⟨?_, ?_, h3⟩, Or.inr g1, g2⟩
    · show s.2.1 ≤ (nmR tx len 6 0 s.1).2; omega
    · show s.2.2.2.2.1 + 1 + wtN s.2.2.1 s.2.1 ≤ (nmR tx len 6 0 s.1).2; omega
  rw [if_neg c2]
  by_cases c3 : dpN s.2.2.1 s.2.1 = 4
  · rw [if_pos c3]; exact ⟨⟨h1, h2, h3⟩, Or.inl rfl, by show s.1 ≤ 41; omega⟩
  rw [if_neg c3]
  by_cases c4 : lkR tx len s.1 = 40
  · rw [if_pos c4]
    refine ⟨ri_put (j := 0) (by omega) (by have := wt_1 1; omega) h3 (by decide), Or.inr ?_, ?_⟩
    · show s.1 < s.1 + 1; omega
    · show s.1 + 1 ≤ 41; omega
  rw [if_neg c4]
  by_cases c5 : (lkR tx len s.1 = 109 ∨ lkR tx len s.1 = 120) ∧ lkR tx len (s.1 + 1) = 40
  · rw [if_pos c5]
    have := lk_lt (tx := tx) (len := len) (i := s.1 + 1) (by rw [c5.2]; decide)
    refine ⟨ri_put (j := 0) (by omega) (by have := wt_1 (if lkR tx len s.1 = 109 then 2 else 3); omega) h3 (by decide), Or.inr ?_, ?_⟩
    · show s.1 < s.1 + 2; omega
    · show s.1 + 2 ≤ 41; omega
  rw [if_neg c5]
  by_cases c6 : lkR tx len s.1 = 116 ∧ (¬ lkR tx len (s.1 + 1) - 48 < 0 ∧ ¬ 2 < lkR tx len (s.1 + 1) - 48) ∧ lkR tx len (s.1 + 2) = 40
  · rw [if_pos c6]
    have := lk_lt (tx := tx) (len := len) (i := s.1 + 2) (by rw [c6.2.2]; decide)
    obtain ⟨t, ht, et⟩ := ix_in (n := 2) (N := 2) rfl (by decide) c6.2.1
    rw [et]
    refine ⟨ri_put (j := t) (by omega) (by have := wt_1 6; omega) h3 (by omega), Or.inr ?_, ?_⟩
    · show s.1 < s.1 + 3; omega
    · show s.1 + 3 ≤ 41; omega
  rw [if_neg c6]
  exact ⟨⟨h1, h2, h3⟩, Or.inl rfl, by show s.1 ≤ 41; omega⟩
theorem wt_top {s : RS} (hp : 0 < s.2.1) : wtN s.2.2.1 s.2.1 = wtN s.2.2.1 (s.2.1 - 1) + wtV (tpS s) := by
  unfold tpS
  rw [if_neg (by omega)]
  obtain ⟨k, hk⟩ : ∃ k, s.2.1 = k + 1 := ⟨s.2.1 - 1, by omega⟩
  rw [hk]
  rfl
theorem en_inv {s : RS} {c : Int32} {a : Nat} (ha : s.1 = a + 1) (h1 : s.2.1 ≤ a) (h2 : s.2.2.2.2.1 + wtN s.2.2.1 s.2.1 ≤ a) (h3 : MeOk s) (h4 : a ≤ 40) : RI (enT c s).2 ∧ (enT c s).2.1 = s.1 := by
  have pp : s.2.1 - 1 ≤ s.2.1 := Nat.sub_le _ _
  have hw := wt_le s.2.2.1 pp
  have h3' : MeOk (popS s) := fun k hk => h3 k (by have : k < s.2.1 - 1 := hk; omega)
  unfold enT
  by_cases c1 : c = 58 ∧ tpS s = 9
  · rw [if_pos c1]
    refine ⟨ri_put (s := wiS (mkS (popS s) 12 0) (s.2.2.2.1 (s.2.1 - 1)).toNatClampNeg (nI (s.2.2.2.2.1 + 1))) (a := s.1) ?_ ?_ h3' (by omega), rfl⟩
    · show s.2.1 - 1 + 1 ≤ s.1
      have := tp_pos (s := s) (by rw [c1.2]; decide)
      omega
    · show s.2.2.2.2.1 + 1 + wtN s.2.2.1 (s.2.1 - 1) + wtV 10 ≤ s.1
      have : wtV 10 = 0 := rfl
      omega
  rw [if_neg c1]
  by_cases c2 : c = 44 ∧ (tpS s = 2 ∨ tpS s = 3)
  · rw [if_pos c2]
    have hp := tp_pos (s := s) (by rcases c2.2 with z | z <;> rw [z] <;> decide)
    have ht := wt_top hp
    have : wtV (tpS s) = 1 := by rcases c2.2 with z | z <;> rw [z] <;> rfl
    refine ⟨ri_put (s := popS s) (a := s.1) (j := 0) ?_ ?_ h3' (by decide), rfl⟩
    · show s.2.1 - 1 + 1 ≤ s.1; omega
    · show s.2.2.2.2.1 + wtN s.2.2.1 (s.2.1 - 1) + wtV (tpS s + 2) ≤ s.1
      have := wt_1 (tpS s + 2)
      omega
  rw [if_neg c2]
  by_cases c3 : c = 41 ∧ (tpS s = 1 ∨ tpS s = 4 ∨ tpS s = 5 ∨ tpS s = 6)
  · rw [if_pos c3]
    by_cases c4 : tpS s = 1
    · rw [if_pos c4]
      refine ⟨⟨?_, ?_, h3'⟩, rfl⟩
      · show s.2.1 - 1 ≤ s.1; omega
      · show s.2.2.2.2.1 + wtN s.2.2.1 (s.2.1 - 1) ≤ s.1; omega
    · rw [if_neg c4]
      refine ⟨⟨?_, ?_, h3'⟩, rfl⟩
      · show s.2.1 - 1 ≤ s.1; omega
      · show s.2.2.2.2.1 + 1 + wtN s.2.2.1 (s.2.1 - 1) ≤ s.1; omega
  rw [if_neg c3]
  refine ⟨⟨?_, ?_, h3'⟩, rfl⟩
  · show s.2.1 - 1 ≤ s.1; omega
  · show s.2.2.2.2.1 + wtN s.2.2.1 (s.2.1 - 1) ≤ s.1; omega
theorem go_inv {tx : Nat → Int32} {len : Nat} {pt : Bool} {s : RS} (h40 : len ≤ 40) (ha : s.1 < len) (h : RI s) : RI (goS tx len pt s).2 ∧ s.1 < (goS tx len pt s).2.1 ∧ (goS tx len pt s).2.1 ≤ 41 := by
  obtain ⟨h1, h2, h3⟩ := h
  have hT : (goT s).1 = s.1 + 1 ∧ (goT s).2.1 ≤ s.2.1 ∧ (goT s).2.2.1 = s.2.2.1 ∧ (goT s).2.2.2.1 = s.2.2.2.1 ∧ (goT s).2.2.2.2.1 + wtN s.2.2.1 (goT s).2.1 = s.2.2.2.2.1 + wtN s.2.2.1 s.2.1 ∧ (goT s).2.2.2.2.2.2.2 = s.2.2.2.2.2.2.2 := stS_inv s.2.1 (atS s (s.1 + 1)) rfl
  obtain ⟨g1, g2, g3, g4, g5, g6⟩ := hT
  have hm : MeOk (goT s) := fun k hk => by rw [g4]; exact h3 k (by omega)
  unfold goS
  by_cases c1 : lkR tx len s.1 = 42
  · rw [if_pos c1]
    have e1 : s.1 + 1 ≤ (goN tx len s).2 := nmR_ge 3 0 _
    have e2 : (goN tx len s).2 ≤ 40 := nmR_le h40 3 0 (s.1 + 1) (by omega)
    refine ⟨⟨?_, ?_, h3⟩, ?_, ?_⟩
    · show s.2.1 ≤ (goN tx len s).2 + 1; omega
    · show s.2.2.2.2.1 + 1 + wtN s.2.2.1 s.2.1 ≤ (goN tx len s).2 + 1; omega
    · show s.1 < (goN tx len s).2 + 1; omega
    · show (goN tx len s).2 + 1 ≤ 41; omega
  rw [if_neg c1]
  have base : RI (goT s) ∧ s.1 < (goT s).1 ∧ (goT s).1 ≤ 41 := ⟨⟨by omega, by rw [g3]; omega, hm⟩, by omega, by omega⟩
  have put1 : ∀ w : Int32, RI (ptS (goT s) w 0) ∧ s.1 < (ptS (goT s) w 0).1 ∧ (ptS (goT s) w 0).1 ≤ 41 := by
    intro w
    have e0 : atS (ptS (goT s) w (nI 0)) (goT s).1 = ptS (goT s) w 0 := rfl
    refine ⟨by rw [← e0]; exact ri_put (by omega) (by rw [g3]; have := wt_1 w; omega) hm (by decide), ?_, ?_⟩
    · show s.1 < (goT s).1; omega
    · show (goT s).1 ≤ 41; omega
  by_cases c2 : lkR tx len s.1 = 43 ∨ lkR tx len s.1 = 45
  · rw [if_pos c2]; exact put1 _
  rw [if_neg c2]
  by_cases c3 : lkR tx len s.1 = 60 ∨ lkR tx len s.1 = 62
  · rw [if_pos c3]
    by_cases c4 : tpS (goT s) = 7 ∨ tpS (goT s) = 8
    · rw [if_pos c4]; exact base
    · rw [if_neg c4]; exact put1 _
  rw [if_neg c3]
  by_cases c5 : lkR tx len s.1 = 63
  · rw [if_pos c5]
    by_cases c4 : tpS (goT s) = 7 ∨ tpS (goT s) = 8
    · rw [if_pos c4]
      have hp := tp_pos (s := goT s) (by rcases c4 with z | z <;> rw [z] <;> decide)
      have ht := wt_top hp
      rw [g3] at ht
      have hw1 : wtV (tpS (goT s)) = 1 := by rcases c4 with z | z <;> rw [z] <;> rfl
      refine ⟨ri_put (s := mkS (mkS (popS (goT s)) (if tpS (goT s) = 7 then 9 else 10) 0) 11 0) (a := (goT s).1) ?_ ?_ (fun k hk => hm k (by have : k < (goT s).2.1 - 1 := hk; omega)) (by omega), ?_, ?_⟩
      · show (goT s).2.1 - 1 + 1 ≤ (goT s).1; omega
      · show (goT s).2.2.2.2.1 + 1 + 1 + wtN (goT s).2.2.1 ((goT s).2.1 - 1) + wtV 9 ≤ (goT s).1
        have : wtV 9 = 0 := rfl
        rw [g3]
        omega
      · show s.1 < (goT s).1; omega
      · show (goT s).1 ≤ 41; omega
    · rw [if_neg c4]; exact base
  rw [if_neg c5]
  obtain ⟨k1, k2, k3, k4, k5, k6⟩ := clS_inv (atS s (s.1 + 1))
  have k1' : (clS (atS s (s.1 + 1))).1 = s.1 + 1 := k1
  have k2' : (clS (atS s (s.1 + 1))).2.1 ≤ s.2.1 := k2
  have k3' : (clS (atS s (s.1 + 1))).2.2.1 = s.2.2.1 := k3
  have k5' : (clS (atS s (s.1 + 1))).2.2.2.2.1 + wtN s.2.2.1 (clS (atS s (s.1 + 1))).2.1 ≤ s.2.2.2.2.1 + wtN s.2.2.1 s.2.1 := k5
  have km : MeOk (clS (atS s (s.1 + 1))) := fun k hk => by rw [k4]; exact h3 k (by omega)
  unfold enS
  by_cases c6 : clB (atS s (s.1 + 1)) = true
  · rw [if_pos c6]
    obtain ⟨r1, r2⟩ := en_inv (s := clS (atS s (s.1 + 1))) (c := lkR tx len s.1) (a := s.1) k1' (by omega) (by rw [k3']; omega) km (by omega)
    exact ⟨r1, by omega, by omega⟩
  · rw [if_neg c6]
    have base2 : RI (clS (atS s (s.1 + 1))) := ⟨by omega, by rw [k3']; omega, km⟩
    exact ⟨base2, by show s.1 < (clS (atS s (s.1 + 1))).1; omega, by show (clS (atS s (s.1 + 1))).1 ≤ 41; omega⟩
def rdSt (tx : Nat → Int32) (len : Nat) (x : Int32) (s : RS) : Int32 × RS := if x = 2 then bgS tx len s else goS tx len (decide (x = 3)) s
def rdL (tx : Nat → Int32) (len : Nat) : Nat → Int32 → RS → Int32 × RS
  | 0, x, s => (x, s)
  | n + 1, x, s => if 0 < x ∧ s.1 < len then rdL tx len n (rdSt tx len x s).1 (rdSt tx len x s).2 else (x, s)
def tB (len : Nat) (r : Int32 × RS) : Bool := if (r.1 = 1 ∨ r.1 = 3) ∧ r.2.1 = len then (clB r.2 && decide ((clS r.2).2.1 = 0)) else false
def tZ (len : Nat) (r : Int32 × RS) : RS := if (r.1 = 1 ∨ r.1 = 3) ∧ r.2.1 = len then clS r.2 else r.2
def rdE (M : Mem) (len : Nat) : Int32 × RS := rdL (mI M 97) len 41 2 (rd0 M)
theorem st_inv {tx : Nat → Int32} {len : Nat} {x : Int32} {s : RS} (h40 : len ≤ 40) (ha : s.1 < len) (h : RI s) : RI (rdSt tx len x s).2 ∧ ((rdSt tx len x s).1 = 0 ∨ s.1 < (rdSt tx len x s).2.1) ∧ (rdSt tx len x s).2.1 ≤ 41 := by
  unfold rdSt
  split
  · exact bg_inv h40 ha h
  · obtain ⟨h1, h2, h3⟩ := go_inv (pt := decide (x = 3)) (tx := tx) h40 ha h
    exact ⟨h1, Or.inr h2, h3⟩
def T_read : PT := fun as M Q X => ∃ len : Nat, as = [.ref 96] ∧ RdOk M len ∧ Q (some (.int (bi (tB len (rdE M len))))) (rS M (tZ len (rdE M len)))
theorem c_X6_read {l : Launch} (hl : l.stackTraces = false) : Con l yX6_read wX6_read 0 6 (T_read) := by
  refine con_of hl (by decide) ?_ ?_
  · intro as M Q X hpt
    obtain ⟨len, rfl, ⟨hF, el, h40⟩, hQ⟩ := hpt
    exact Nat.le_of_ble_eq_true rfl
  intro G as M Q X hl' hT hd hpt
  obtain ⟨len, rfl, ⟨hF, el, h40⟩, hQ⟩ := hpt
  have hG : (gl G).stackTraces = false := by rw [hl']; exact hl
  show PW G RX6 cX6_read 3 (some .boolean) Q X 0 0 [(0, .ref 96)] [] M
  have t69 : ∀ (x : Int32) (s : RS), RI s → s.1 ≤ 41 → Q (some (.int (bi (tB len (x, s))))) (rS M (tZ len (x, s))) → PW G RX6 cX6_read 3 (some .boolean) Q X 0 69 [(0, .ref 96), (1, .int x)] [] (rS M s) := by
    intro x s hi ha hq
    have t79 : (x = 1 ∨ x = 3) → PW G RX6 cX6_read 3 (some .boolean) Q X 0 79 [(0, .ref 96), (1, .int x)] [] (rS M s) := by
      intro hx
      refine w_aload_n (pc := 79) dX6_read_79 rfl ?_
      refine w_getI (pc := 80) fl_X6_110 hF (by first | assumption | exact ob rfl) rfl dX6_read_80 ?_
      rw [rs_at]
      refine w_aload_n (pc := 83) dX6_read_83 rfl ?_
      refine w_getI (pc := 84) fl_X6_101 hF (by first | assumption | exact ob rfl) rfl dX6_read_84 ?_
      rw [rs_len, el]
      refine w_icmp_ne 108 (pc := 87) dX6_read_87 (by decide) (fun h87 => ?_) (fun h87 => ?_)
      · have hn : ¬ ((x = 1 ∨ x = 3) ∧ s.1 = len) := fun q => h87 (by rw [q.2])
        have hb : tB len (x, s) = false := if_neg hn
        have hz : tZ len (x, s) = s := if_neg hn
        rw [hb, hz] at hq
        refine w_iconst (v := 0) (pc := 108) dX6_read_108 rfl ?_
        refine w_ireturn (pc := 109) dX6_read_109 rfl ?_
        exact hq
      · have h87b : s.1 = len := by rw [nI_eq (by omega) (by omega)] at h87; exact h87
        have hy : (x = 1 ∨ x = 3) ∧ s.1 = len := ⟨hx, h87b⟩
        have hz : tZ len (x, s) = clS s := if_pos hy
        rw [hz, show tB len (x, s) = (clB s && decide ((clS s).2.1 = 0)) from if_pos hy] at hq
        refine w_aload_n (pc := 90) dX6_read_90 rfl ?_
        refine w_callV0 (n' := 0) (pc := 91) (c_X6_close hG) cv_X6_150 (by first | assumption | exact ob rfl) hF hT (by omega) (by decide) (Nat.le_of_ble_eq_true rfl) dX6_read_91 ?_
        refine ⟨M, len, s, rfl, rfl, ⟨hF, el, h40⟩, (by have := hi.1; omega), (by have := hi.2.1; omega), hi.2.2, ?_⟩
        dsimp only [psh]
        refine w_if_eq 108 (pc := 94) dX6_read_94 (by decide) (fun h94 => ?_) (fun h94 => ?_)
        · rw [bi_0] at h94
          rw [h94, Bool.false_and] at hq
          refine w_iconst (v := 0) (pc := 108) dX6_read_108 rfl ?_
          refine w_ireturn (pc := 109) dX6_read_109 rfl ?_
          exact hq
        · rw [bi_1] at h94
          rw [h94, Bool.true_and] at hq
          refine w_aload_n (pc := 97) dX6_read_97 rfl ?_
          refine w_getI (pc := 98) fl_X6_107 hF (by first | assumption | exact ob rfl) rfl dX6_read_98 ?_
          rw [rs_sg]
          refine w_if_ne 108 (pc := 101) dX6_read_101 (by decide) (fun h101 => ?_) (fun h101 => ?_)
          · rw [decide_eq_false (fun q => h101 (by rw [q]; rfl))] at hq
            refine w_iconst (v := 0) (pc := 108) dX6_read_108 rfl ?_
            refine w_ireturn (pc := 109) dX6_read_109 rfl ?_
            exact hq
          · rw [decide_eq_true (by have := (clS_inv s).2.1; have := hi.1; rw [show (0 : Int32) = nI 0 from rfl, nI_eq (by omega) (by decide)] at h101; exact h101)] at hq
            refine w_iconst (v := 1) (pc := 104) dX6_read_104 rfl ?_
            refine w_goto 109 (pc := 105) dX6_read_105 (by decide) ?_
            refine w_ireturn (pc := 109) dX6_read_109 rfl ?_
            exact hq
    refine w_iload_n (pc := 69) dX6_read_69 rfl ?_
    refine w_iconst (v := 1) (pc := 70) dX6_read_70 rfl ?_
    refine w_icmp_eq 79 (pc := 71) dX6_read_71 (by decide) (fun h71 => ?_) (fun h71 => ?_)
    · exact w_lk (t79 (by first | exact Or.inl h71 | exact Or.inr h76)) (lkc rfl (lkc rfl lkn))
    · refine w_iload_n (pc := 74) dX6_read_74 rfl ?_
      refine w_iconst (v := 3) (pc := 75) dX6_read_75 rfl ?_
      refine w_icmp_ne 108 (pc := 76) dX6_read_76 (by decide) (fun h76 => ?_) (fun h76 => ?_)
      · have hn : ¬ ((x = 1 ∨ x = 3) ∧ s.1 = len) := fun q => by rcases q.1 with z | z; exact h71 z; exact h76 z
        have hb : tB len (x, s) = false := if_neg hn
        have hz : tZ len (x, s) = s := if_neg hn
        rw [hb, hz] at hq
        refine w_iconst (v := 0) (pc := 108) dX6_read_108 rfl ?_
        refine w_ireturn (pc := 109) dX6_read_109 rfl ?_
        exact hq
      · exact w_lk (t79 (by first | exact Or.inl h71 | exact Or.inr h76)) (lkc rfl (lkc rfl lkn))
  have loop : ∀ (n : Nat) (x : Int32) (s : RS), RI s → s.1 ≤ 41 → (x = 0 ∨ len ≤ s.1 + n) → Q (some (.int (bi (tB len (rdL (mI M 97) len n x s))))) (rS M (tZ len (rdL (mI M 97) len n x s))) → PW G RX6 cX6_read 3 (some .boolean) Q X 0 22 [(0, .ref 96), (1, .int x)] [] (rS M s) := by
    intro n
    induction n with
    | zero =>
      intro x s hi ha hn hq
      refine w_iload_n (pc := 22) dX6_read_22 rfl ?_
      refine w_if_le 69 (pc := 23) dX6_read_23 (by decide) (fun h23 => ?_) (fun h23 => ?_)
      · exact w_lk (t69 x s hi ha hq) (lkc rfl (lkc rfl lkn))
      · refine w_aload_n (pc := 26) dX6_read_26 rfl ?_
        refine w_getI (pc := 27) fl_X6_110 hF (by first | assumption | exact ob rfl) rfl dX6_read_27 ?_
        rw [rs_at]
        refine w_aload_n (pc := 30) dX6_read_30 rfl ?_
        refine w_getI (pc := 31) fl_X6_101 hF (by first | assumption | exact ob rfl) rfl dX6_read_31 ?_
        rw [rs_len, el]
        refine w_icmp_ge 69 (pc := 34) dX6_read_34 (by decide) (fun h34 => ?_) (fun h34 => ?_)
        · exact w_lk (t69 x s hi ha hq) (lkc rfl (lkc rfl lkn))
        · rcases hn with q | q
          · exact absurd (by rw [q]; exact Int32.le_refl 0) h23
          · exact absurd (by rw [nI_leI (by omega) (by omega)]; omega) h34
    | succ n ih =>
      intro x s hi ha hn hq
      refine w_iload_n (pc := 22) dX6_read_22 rfl ?_
      refine w_if_le 69 (pc := 23) dX6_read_23 (by decide) (fun h23 => ?_) (fun h23 => ?_)
      · rw [rdL, if_neg (fun q => absurd q.1 (Int32.not_lt.mpr h23))] at hq
        exact w_lk (t69 x s hi ha hq) (lkc rfl (lkc rfl lkn))
      · refine w_aload_n (pc := 26) dX6_read_26 rfl ?_
        refine w_getI (pc := 27) fl_X6_110 hF (by first | assumption | exact ob rfl) rfl dX6_read_27 ?_
        rw [rs_at]
        refine w_aload_n (pc := 30) dX6_read_30 rfl ?_
        refine w_getI (pc := 31) fl_X6_101 hF (by first | assumption | exact ob rfl) rfl dX6_read_31 ?_
        rw [rs_len, el]
        refine w_icmp_ge 69 (pc := 34) dX6_read_34 (by decide) (fun h34 => ?_) (fun h34 => ?_)
        · rw [rdL, if_neg (fun q => by rw [nI_leI (by omega) (by omega)] at h34; omega)] at hq
          exact w_lk (t69 x s hi ha hq) (lkc rfl (lkc rfl lkn))
        · have hl : s.1 < len := by rw [nI_leI (by omega) (by omega)] at h34; omega
          rw [rdL, if_pos ⟨Int32.not_le.mp h23, hl⟩] at hq
          obtain ⟨i1, i2, i3⟩ := st_inv (tx := mI M 97) (x := x) h40 hl hi
          have w1 := hi.2.1
          have w2 := hi.1
          refine w_iload_n (pc := 37) dX6_read_37 rfl ?_
          refine w_istore_n 2 (pc := 38) rfl dX6_read_38 (by decide) ?_
          refine w_iload_n (pc := 39) dX6_read_39 rfl ?_
          refine w_iconst (v := 2) (pc := 40) dX6_read_40 rfl ?_
          refine w_icmp_ne 51 (pc := 41) dX6_read_41 (by decide) (fun h41 => ?_) (fun h41 => ?_)
          · rw [show rdSt (mI M 97) len x s = goS (mI M 97) len (decide (x = 3)) s from if_neg h41] at hq i1 i2 i3
            refine w_aload_n (pc := 51) dX6_read_51 rfl ?_
            refine w_iload_n (pc := 52) dX6_read_52 rfl ?_
            refine w_iconst (v := 3) (pc := 53) dX6_read_53 rfl ?_
            refine w_icmp_ne 61 (pc := 54) dX6_read_54 (by decide) (fun h54 => ?_) (fun h54 => ?_)
            · refine w_iconst (v := 0) (pc := 61) dX6_read_61 rfl ?_
              refine w_callV1 (n' := 0) (pc := 62) (c_X6_goOn hG) cv_X6_157 (by first | assumption | exact ob rfl) hF hT (by omega) (by decide) (Nat.le_of_ble_eq_true rfl) dX6_read_62 ?_
              refine ⟨M, len, s, decide (x = 3), (by first | rw [bi_t h54] | rw [bi_f h54]), rfl, ⟨hF, el, h40⟩, (by omega), (by omega), (by omega), hi.2.2, ?_⟩
              dsimp only [psh]
              refine w_istore_n 1 (pc := 65) rfl dX6_read_65 (by decide) ?_
              refine w_goto 22 (pc := 66) dX6_read_66 (by decide) ?_
              exact w_lk (ih _ _ i1 i3 (by rcases i2 with q | q; exact Or.inl q; exact Or.inr (by rcases hn with z | z; exact absurd (by rw [z]; exact Int32.le_refl 0) h23; omega)) hq) (lkc rfl (lkc rfl lkn))
            · refine w_iconst (v := 1) (pc := 57) dX6_read_57 rfl ?_
              refine w_goto 62 (pc := 58) dX6_read_58 (by decide) ?_
              refine w_callV1 (n' := 0) (pc := 62) (c_X6_goOn hG) cv_X6_157 (by first | assumption | exact ob rfl) hF hT (by omega) (by decide) (Nat.le_of_ble_eq_true rfl) dX6_read_62 ?_
              refine ⟨M, len, s, decide (x = 3), (by first | rw [bi_t h54] | rw [bi_f h54]), rfl, ⟨hF, el, h40⟩, (by omega), (by omega), (by omega), hi.2.2, ?_⟩
              dsimp only [psh]
              refine w_istore_n 1 (pc := 65) rfl dX6_read_65 (by decide) ?_
              refine w_goto 22 (pc := 66) dX6_read_66 (by decide) ?_
              exact w_lk (ih _ _ i1 i3 (by rcases i2 with q | q; exact Or.inl q; exact Or.inr (by rcases hn with z | z; exact absurd (by rw [z]; exact Int32.le_refl 0) h23; omega)) hq) (lkc rfl (lkc rfl lkn))
          · rw [show rdSt (mI M 97) len x s = bgS (mI M 97) len s from if_pos h41] at hq i1 i2 i3
            refine w_aload_n (pc := 44) dX6_read_44 rfl ?_
            refine w_callV0 (n' := 0) (pc := 45) (c_X6_begin hG) cv_X6_154 (by first | assumption | exact ob rfl) hF hT (by omega) (by decide) (Nat.le_of_ble_eq_true rfl) dX6_read_45 ?_
            refine ⟨M, len, s, rfl, rfl, ⟨hF, el, h40⟩, (by omega), (by omega), (by omega), ?_⟩
            dsimp only [psh]
            refine w_goto 65 (pc := 48) dX6_read_48 (by decide) ?_
            refine w_istore_n 1 (pc := 65) rfl dX6_read_65 (by decide) ?_
            refine w_goto 22 (pc := 66) dX6_read_66 (by decide) ?_
            exact w_lk (ih _ _ i1 i3 (by rcases i2 with q | q; exact Or.inl q; exact Or.inr (by rcases hn with z | z; exact absurd (by rw [z]; exact Int32.le_refl 0) h23; omega)) hq) (lkc rfl (lkc rfl lkn))
  refine w_aload_n (pc := 0) dX6_read_0 rfl ?_
  refine w_iconst (v := 0) (pc := 1) dX6_read_1 rfl ?_
  refine w_putI (pc := 2) fp_X6_110 hF (by first | assumption | exact ob rfl) rfl dX6_read_2 ?_
  refine w_aload_n (pc := 5) dX6_read_5 rfl ?_
  refine w_iconst (v := 0) (pc := 6) dX6_read_6 rfl ?_
  refine w_putI (pc := 7) fp_X6_107 hF (by first | assumption | exact ob rfl) rfl dX6_read_7 ?_
  refine w_aload_n (pc := 10) dX6_read_10 rfl ?_
  refine w_iconst (v := 0) (pc := 11) dX6_read_11 rfl ?_
  refine w_putI (pc := 12) fp_X6_104 hF (by first | assumption | exact ob rfl) rfl dX6_read_12 ?_
  refine w_aload_n (pc := 15) dX6_read_15 rfl ?_
  refine w_iconst (v := 0) (pc := 16) dX6_read_16 rfl ?_
  refine w_putI (pc := 17) fp_X6_121 hF (by first | assumption | exact ob rfl) rfl dX6_read_17 ?_
  rw [rs_start]
  refine w_iconst (v := 2) (pc := 20) dX6_read_20 rfl ?_
  refine w_istore_n 1 (pc := 21) rfl dX6_read_21 (by decide) ?_
  exact w_lk (loop 41 2 (rd0 M) ⟨Nat.le_refl _, Nat.le_refl _, fun k hk => absurd hk (Nat.not_lt_zero k)⟩ (Nat.zero_le _) (Or.inr (by omega)) hQ) (lkc rfl (lkc rfl lkn))
theorem tZ_inv {M : Mem} {len : Nat} (h40 : len ≤ 40) : RI (tZ len (rdE M len)) := by
  have hl : ∀ (n : Nat) (x : Int32) (s : RS), RI s → RI (rdL (mI M 97) len n x s).2 := by
    intro n
    induction n with
    | zero => intro x s h; exact h
    | succ n ih =>
      intro x s h
      rw [rdL]
      split
      · rename_i q
        exact ih _ _ (st_inv h40 q.2 h).1
      · exact h
  have h0 : RI (rdE M len).2 := hl 41 2 (rd0 M) ⟨Nat.le_refl _, Nat.le_refl _, fun k hk => absurd hk (Nat.not_lt_zero k)⟩
  unfold tZ
  split
  · obtain ⟨h1, h2, h3⟩ := h0
    obtain ⟨k1, k2, k3, k4, k5, k6⟩ := clS_inv (rdE M len).2
    exact ⟨by omega, by rw [k3]; omega, fun k hk => by rw [k4]; exact h3 k (by omega)⟩
  · exact h0
theorem tZ_at {M : Mem} {len : Nat} (h : tB len (rdE M len) = true) : (tZ len (rdE M len)).1 = len := by
  unfold tB at h
  by_cases q : ((rdE M len).1 = 1 ∨ (rdE M len).1 = 3) ∧ (rdE M len).2.1 = len
  · unfold tZ
    rw [if_pos q, (clS_inv (rdE M len).2).1]
    exact q.2
  · rw [if_neg q] at h
    exact absurd h (by decide)
/-- a row into which another was copied, line i's part, n places -/
def cpR (f g : Nat → Int32) (i n : Nat) : Nat → Int32 := fun j => if 48 * i ≤ j ∧ j < 48 * i + n then g (j - 48 * i) else f j
theorem cpR_0 (f g : Nat → Int32) (i : Nat) : cpR f g i 0 = f := by
  funext j
  unfold cpR
  rw [if_neg (by omega)]
theorem cpR_s (f g : Nat → Int32) (i n : Nat) : va_up (cpR f g i n) (48 * i + n) (g n) = cpR f g i (n + 1) := by
  funext j
  unfold cpR
  by_cases h : j = 48 * i + n
  · subst h
    rw [va_up_self, if_pos (by omega), show 48 * i + n - 48 * i = n by omega]
  · rw [va_up_ne _ _ h]
    by_cases q : 48 * i ≤ j ∧ j < 48 * i + n
    · rw [if_pos q, if_pos (by omega)]
    · rw [if_neg q, if_neg (by omega)]
theorem rI_sI {M : Mem} {a b k : Nat} {f : Nat → Int32} {v : Int32} (h : b ≠ a) : sI (rI M a f) b k v = rI (sI M b k v) a f := by
  show (up2 (va_up M.1 a f) b k v, M.2) = (va_up (up2 M.1 b k v) a f, M.2)
  congr 1
  funext c j
  by_cases q : c = a
  · subst q
    rw [va_up_self, up2_row _ _ (Ne.symm h), va_up_self]
  · rw [va_up_ne _ _ q]
    by_cases z : c = b ∧ j = k
    · obtain ⟨rfl, rfl⟩ := z; rw [up2_s, up2_s]
    · rw [up2_n _ _ z, up2_n _ _ z, va_up_ne _ _ q]
def bcN (x : Int32) : Nat → Nat
  | 0 => 0
  | k + 1 => if tb x k = true then bcN x k + 1 else bcN x k
theorem bcN_le (x : Int32) : ∀ k, bcN x k ≤ k
  | 0 => Nat.le_refl _
  | k + 1 => by unfold bcN; have := bcN_le x k; split <;> omega
theorem bcN_s {x : Int32} {k : Nat} (hk : k < 32) : nI (bcN x k) + ((x >>> (nI k &&& 31)) &&& 1) = nI (bcN x (k + 1)) := by
  obtain ⟨j, hj, ej⟩ := pk_andE (x >>> (nI k &&& 31)) (m := 1) 1 rfl
  have hs := tb_shr x hk
  rw [ej] at hs ⊢
  show _ = nI (if tb x k = true then bcN x k + 1 else bcN x k)
  rcases (show j = 0 ∨ j = 1 by omega) with rfl | rfl
  · rw [if_neg (fun q => absurd (hs.mpr q) (by decide)), nI_add]
    rfl
  · rw [if_pos (hs.mp rfl), nI_add]
/-- the memory behind a definition: N before it (thrown cleared), Z what was read -/
def dfD (N : Mem) (Z : RS) (i : Nat) : Mem := sI (sI (sI (rS N Z) 98 i 1) 99 i Z.2.2.2.2.2.2.2) 100 i (nI Z.2.2.2.2.1)
def dfL (N : Mem) (Z : RS) (i k : Nat) : Mem := rI (rI (dfD N Z i) 101 (cpR (mI N 101) Z.2.2.2.2.2.1 i k)) 102 (cpR (mI N 102) Z.2.2.2.2.2.2.1 i k)
def dfM (N : Mem) (Z : RS) (i : Nat) : Mem := sI (dfL N Z i Z.2.2.2.2.1) 96 2 0
theorem dfL_0 {N : Mem} {Z : RS} {i : Nat} : dfL N Z i 0 = dfD N Z i := by
  have e1 : rI (dfD N Z i) 101 (mI (dfD N Z i) 101) = dfD N Z i := rI_self _ _
  have e2 : rI (dfD N Z i) 102 (mI (dfD N Z i) 102) = dfD N Z i := rI_self _ _
  have q1 : mI (dfD N Z i) 101 = mI N 101 := by unfold dfD; rw [mI_row (by decide), mI_row (by decide), mI_row (by decide)]; rfl
  have q2 : mI (dfD N Z i) 102 = mI N 102 := by unfold dfD; rw [mI_row (by decide), mI_row (by decide), mI_row (by decide)]; rfl
  unfold dfL
  rw [cpR_0, cpR_0, ← q1, e1, ← q2, e2]
theorem dfL_s {N : Mem} {Z : RS} {i k : Nat} : sI (sI (dfL N Z i k) 101 (48 * i + k) (Z.2.2.2.2.2.1 k)) 102 (48 * i + k) (Z.2.2.2.2.2.2.1 k) = dfL N Z i (k + 1) := by
  unfold dfL
  rw [rI_sI (by decide), sI_rw, sI_rw, cpR_s, cpR_s]
theorem dfL_o {N : Mem} {Z : RS} {i k a : Nat} (h : a = 96 ∨ a = 117 ∨ a = 118) : mI (dfL N Z i k) a = mI (rS N Z) a := by
  unfold dfL dfD
  rw [mI_rn (by omega), mI_rn (by omega), mI_row (by omega), mI_row (by omega), mI_row (by omega)]
def T_mDefine : PT := fun as M Q X => ∃ (x : Int32) (len : Nat), as = [.ref 96, .int x] ∧ RdOk M len ∧ (¬ ix x 12 → Q (some (.int 0)) (thr M 1)) ∧ (ix x 12 → tB len (rdE (sI M 96 0 0) len) = false → ∀ Z, Q (some (.int 0)) (sI (rS (sI M 96 0 0) Z) 96 0 2)) ∧ (∀ i, i < 12 → x = nI i → tB len (rdE (sI M 96 0 0) len) = true → Q (some (.int (nI (bcN (tZ len (rdE (sI M 96 0 0) len)).2.2.2.2.2.2.2 12)))) (dfM (sI M 96 0 0) (tZ len (rdE (sI M 96 0 0) len)) i))
theorem c_X6_define {l : Launch} (hl : l.stackTraces = false) : Con l yX6_define wX6_define 0 7 (T_mDefine) := by
  refine con_of hl (by decide) ?_ ?_
  · intro as M Q X hpt
    obtain ⟨x, len, rfl, ⟨hF, el, h40⟩, hX, hX2, hQ⟩ := hpt
    exact Nat.le_of_ble_eq_true rfl
  intro G as M Q X hl' hT hd hpt
  obtain ⟨x, len, rfl, ⟨hF, el, h40⟩, hX, hX2, hQ⟩ := hpt
  have hG : (gl G).stackTraces = false := by rw [hl']; exact hl
  show PW G RX6 cX6_define 4 (some .int) Q X 0 0 [(0, .ref 96), (1, .int x)] [] M
  have t36 : ∀ i, i < 12 → ∀ Z : RS, RI Z → Z.1 = len → Q (some (.int (nI (bcN Z.2.2.2.2.2.2.2 12)))) (dfM (sI M 96 0 0) Z i) → PW G RX6 cX6_define 4 (some .int) Q X 0 36 [(0, .ref 96), (1, .int (nI i))] [] (rS (sI M 96 0 0) Z) := by
    intro i hi Z hz hzl hq
    have hm48 : Z.2.2.2.2.1 ≤ 40 := by have := hz.2.1; omega
    have hble := bcN_le Z.2.2.2.2.2.2.2
    have loop2 : ∀ (n k : Nat), k + n = 12 → PW G RX6 cX6_define 4 (some .int) Q X 0 122 [(0, .ref 96), (2, .int (nI (bcN Z.2.2.2.2.2.2.2 k))), (3, .int (nI k))] [] (dfM (sI M 96 0 0) Z i) := by
      intro n
      induction n with
      | zero =>
        intro k hk
        refine w_iload_n (pc := 122) dX6_define_122 rfl ?_
        refine w_bipush (v := 12) (pc := 123) dX6_define_123 rfl ?_
        refine w_icmp_ge 145 (pc := 125) dX6_define_125 (by decide) (fun h125 => ?_) (fun h125 => ?_)
        · refine w_iload_n (pc := 145) dX6_define_145 rfl ?_
          refine w_ireturn (pc := 146) dX6_define_146 rfl ?_
          rw [show k = 12 by omega]
          exact hq
        · exact absurd (by rw [show k = 12 by omega]; decide) h125
      | succ n ih =>
        intro k hk
        refine w_iload_n (pc := 122) dX6_define_122 rfl ?_
        refine w_bipush (v := 12) (pc := 123) dX6_define_123 rfl ?_
        refine w_icmp_ge 145 (pc := 125) dX6_define_125 (by decide) (fun h125 => ?_) (fun h125 => ?_)
        · exact absurd h125 (by rw [show (12 : Int32) = nI 12 from rfl, nI_leI (by omega) (by omega)]; omega)
        · refine w_iload_n (pc := 128) dX6_define_128 rfl ?_
          refine w_aload_n (pc := 129) dX6_define_129 rfl ?_
          refine w_getI (pc := 130) fl_X6_121 hF (by first | assumption | exact ob rfl) rfl dX6_define_130 ?_
          rw [show mI (dfM (sI M 96 0 0) Z i) 96 27 = Z.2.2.2.2.2.2.2 from (by unfold dfM; rw [mI_k (by decide), dfL_o (Or.inl rfl)]; rfl)]
          refine w_iload_n (pc := 133) dX6_define_133 rfl ?_
          refine w_ishr (pc := 134) dX6_define_134 ?_
          refine w_iconst (v := 1) (pc := 135) dX6_define_135 rfl ?_
          refine w_iand (pc := 136) dX6_define_136 ?_
          refine w_iadd (pc := 137) dX6_define_137 ?_
          rw [bcN_s (by omega)]
          refine w_istore_n 2 (pc := 138) rfl dX6_define_138 (by decide) ?_
          refine w_iinc (v := nI (k + 1)) (pc := 139) dX6_define_139 rfl (nI_1 k) (by decide) ?_
          refine w_goto 122 (pc := 142) dX6_define_142 (by decide) ?_
          exact w_lk (ih (k + 1) (by omega)) (lkc rfl (lkc rfl (lkc rfl lkn)))
    have loop1 : ∀ (n k : Nat), k + n = Z.2.2.2.2.1 → PW G RX6 cX6_define 4 (some .int) Q X 0 65 [(0, .ref 96), (1, .int (nI i)), (2, .int (nI k))] [] (dfL (sI M 96 0 0) Z i k) := by
      intro n
      induction n with
      | zero =>
        intro k hk
        refine w_iload_n (pc := 65) dX6_define_65 rfl ?_
        refine w_aload_n (pc := 66) dX6_define_66 rfl ?_
        refine w_getI (pc := 67) fl_X6_104 hF (by first | assumption | exact ob rfl) rfl dX6_define_67 ?_
        rw [show mI (dfL (sI M 96 0 0) Z i k) 96 26 = nI Z.2.2.2.2.1 from (by rw [dfL_o (Or.inl rfl)]; rfl)]
        refine w_icmp_ge 113 (pc := 70) dX6_define_70 (by decide) (fun h70 => ?_) (fun h70 => ?_)
        · refine w_aload_n (pc := 113) dX6_define_113 rfl ?_
          refine w_iconst (v := 0) (pc := 114) dX6_define_114 rfl ?_
          refine w_putI (pc := 115) fp_X6_101 hF (by first | assumption | exact ob rfl) rfl dX6_define_115 ?_
          refine w_iconst (v := 0) (pc := 118) dX6_define_118 rfl ?_
          refine w_istore_n 2 (pc := 119) rfl dX6_define_119 (by decide) ?_
          refine w_iconst (v := 0) (pc := 120) dX6_define_120 rfl ?_
          refine w_istore_n 3 (pc := 121) rfl dX6_define_121 (by decide) ?_
          rw [show k = Z.2.2.2.2.1 by omega]
          exact w_lk (loop2 12 0 rfl) (lkc rfl (lkc rfl (lkc rfl lkn)))
        · exact absurd (by rw [nI_leI (by omega) (by omega)]; omega) h70
      | succ n ih =>
        intro k hk
        refine w_iload_n (pc := 65) dX6_define_65 rfl ?_
        refine w_aload_n (pc := 66) dX6_define_66 rfl ?_
        refine w_getI (pc := 67) fl_X6_104 hF (by first | assumption | exact ob rfl) rfl dX6_define_67 ?_
        rw [show mI (dfL (sI M 96 0 0) Z i k) 96 26 = nI Z.2.2.2.2.1 from (by rw [dfL_o (Or.inl rfl)]; rfl)]
        refine w_icmp_ge 113 (pc := 70) dX6_define_70 (by decide) (fun h70 => ?_) (fun h70 => ?_)
        · exact absurd h70 (by rw [nI_leI (by omega) (by omega)]; omega)
        · refine w_aload_n (pc := 73) dX6_define_73 rfl ?_
          refine w_getR (b := 101) (pc := 74) fl_X6_23 hF (by first | assumption | exact ob rfl) rfl rfl dX6_define_74 ?_
          refine w_bipush (v := 48) (pc := 77) dX6_define_77 rfl ?_
          refine w_iload_n (pc := 79) dX6_define_79 rfl ?_
          refine w_imul (pc := 80) dX6_define_80 ?_
          refine w_iload_n (pc := 81) dX6_define_81 rfl ?_
          refine w_iadd (pc := 82) dX6_define_82 ?_
          refine w_aload_n (pc := 83) dX6_define_83 rfl ?_
          refine w_getR (b := 117) (pc := 84) fl_X6_76 hF (by first | assumption | exact ob rfl) rfl rfl dX6_define_84 ?_
          refine w_iload_n (pc := 87) dX6_define_87 rfl ?_
          refine w_iald (m := 48) (pc := 88) hF (by first | assumption | exact ar rfl) (vin (by omega) (by decide)) dX6_define_88 ?_
          rw [dfL_o (Or.inr (Or.inl rfl)), clN (by omega), rs_st]
          refine w_iast (m := 576) (pc := 89) hF (by first | assumption | exact ar rfl) (by rw [cm48]; exact vin (by omega) (by decide)) dX6_define_89 ?_
          rw [cm48, clN (by omega)]
          refine w_aload_n (pc := 90) dX6_define_90 rfl ?_
          refine w_getR (b := 102) (pc := 91) fl_X6_26 hF (by first | assumption | exact ob rfl) rfl rfl dX6_define_91 ?_
          refine w_bipush (v := 48) (pc := 94) dX6_define_94 rfl ?_
          refine w_iload_n (pc := 96) dX6_define_96 rfl ?_
          refine w_imul (pc := 97) dX6_define_97 ?_
          refine w_iload_n (pc := 98) dX6_define_98 rfl ?_
          refine w_iadd (pc := 99) dX6_define_99 ?_
          refine w_aload_n (pc := 100) dX6_define_100 rfl ?_
          refine w_getR (b := 118) (pc := 101) fl_X6_79 hF (by first | assumption | exact ob rfl) rfl rfl dX6_define_101 ?_
          refine w_iload_n (pc := 104) dX6_define_104 rfl ?_
          refine w_iald (m := 48) (pc := 105) hF (by first | assumption | exact ar rfl) (vin (by omega) (by decide)) dX6_define_105 ?_
          rw [mI_row (by decide), dfL_o (Or.inr (Or.inr rfl)), clN (by omega), rs_wi]
          refine w_iast (m := 576) (pc := 106) hF (by first | assumption | exact ar rfl) (by rw [cm48]; exact vin (by omega) (by decide)) dX6_define_106 ?_
          rw [cm48, clN (by omega), dfL_s]
          refine w_iinc (v := nI (k + 1)) (pc := 107) dX6_define_107 rfl (nI_1 k) (by decide) ?_
          refine w_goto 65 (pc := 110) dX6_define_110 (by decide) ?_
          exact w_lk (ih (k + 1) (by omega)) (lkc rfl (lkc rfl (lkc rfl lkn)))
    refine w_aload_n (pc := 36) dX6_define_36 rfl ?_
    refine w_getR (b := 98) (pc := 37) fl_X6_13 hF (by first | assumption | exact ob rfl) rfl rfl dX6_define_37 ?_
    refine w_iload_n (pc := 40) dX6_define_40 rfl ?_
    refine w_iconst (v := 1) (pc := 41) dX6_define_41 rfl ?_
    refine w_zast (m := 12) (pc := 42) hF (by first | assumption | exact ar rfl) (vin hi (by decide)) (by first | exact Or.inl rfl | exact Or.inr rfl | assumption) dX6_define_42 ?_
    rw [clN (by omega)]
    refine w_aload_n (pc := 43) dX6_define_43 rfl ?_
    refine w_getR (b := 99) (pc := 44) fl_X6_17 hF (by first | assumption | exact ob rfl) rfl rfl dX6_define_44 ?_
    refine w_iload_n (pc := 47) dX6_define_47 rfl ?_
    refine w_aload_n (pc := 48) dX6_define_48 rfl ?_
    refine w_getI (pc := 49) fl_X6_121 hF (by first | assumption | exact ob rfl) rfl dX6_define_49 ?_
    rw [mI_row (by decide), rs_li]
    refine w_iast (m := 12) (pc := 52) hF (by first | assumption | exact ar rfl) (vin hi (by decide)) dX6_define_52 ?_
    rw [clN (by omega)]
    refine w_aload_n (pc := 53) dX6_define_53 rfl ?_
    refine w_getR (b := 100) (pc := 54) fl_X6_20 hF (by first | assumption | exact ob rfl) rfl rfl dX6_define_54 ?_
    refine w_iload_n (pc := 57) dX6_define_57 rfl ?_
    refine w_aload_n (pc := 58) dX6_define_58 rfl ?_
    refine w_getI (pc := 59) fl_X6_104 hF (by first | assumption | exact ob rfl) rfl dX6_define_59 ?_
    rw [mI_row (by decide), mI_row (by decide), rs_ma]
    refine w_iast (m := 12) (pc := 62) hF (by first | assumption | exact ar rfl) (vin hi (by decide)) dX6_define_62 ?_
    rw [clN (by omega), show sI (sI (sI (rS (sI M 96 0 0) Z) 98 i 1) 99 i Z.2.2.2.2.2.2.2) 100 i (nI Z.2.2.2.2.1) = dfL (sI M 96 0 0) Z i 0 from dfL_0.symm]
    refine w_iconst (v := 0) (pc := 63) dX6_define_63 rfl ?_
    refine w_istore_n 2 (pc := 64) rfl dX6_define_64 (by decide) ?_
    exact w_lk (loop1 Z.2.2.2.2.1 0 (by omega)) (lkc rfl (lkc rfl (lkc rfl lkn)))
  refine w_aload_n (pc := 0) dX6_define_0 rfl ?_
  refine w_iconst (v := 0) (pc := 1) dX6_define_1 rfl ?_
  refine w_putI (pc := 2) fp_X6_91 hF (by first | assumption | exact ob rfl) rfl dX6_define_2 ?_
  refine w_iload_n (pc := 5) dX6_define_5 rfl ?_
  refine w_i2l (pc := 6) dX6_define_6 ?_
  refine w_lconst (v := 0) (pc := 7) dX6_define_7 rfl ?_
  refine w_ldc2 (pc := 8) kl_X6_161 dX6_define_8 ?_
  refine w_callS3 (n' := 0) (pc := 11) (c_X6_in hG) cs_X6_137 hT (by omega) (by decide) (Nat.le_of_ble_eq_true rfl) dX6_define_11 ?_
  refine ⟨_, _, _, rfl, ?_⟩
  dsimp only [psh]
  refine w_if_ne 23 (pc := 14) dX6_define_14 (by decide) (fun h14 => ?_) (fun h14 => ?_)
  · obtain ⟨i, hi, rfl⟩ := ix_in (n := 11) (N := 11) rfl (by decide) (in_t (lo := 0) (hi := 11) rfl rfl h14)
    refine w_aload_n (pc := 23) dX6_define_23 rfl ?_
    refine w_callV0 (n' := 0) (pc := 24) (c_X6_read hG) cv_X6_166 (by first | assumption | exact ob rfl) hF hT (by omega) (by decide) (Nat.le_of_ble_eq_true rfl) dX6_define_24 ?_
    refine ⟨len, rfl, ⟨hF, el, h40⟩, ?_⟩
    dsimp only [psh]
    refine w_if_ne 36 (pc := 27) dX6_define_27 (by decide) (fun h27 => ?_) (fun h27 => ?_)
    · rw [bi_1] at h27
      exact w_lk (t36 i hi _ (tZ_inv h40) (tZ_at h27) (hQ i hi rfl h27)) (lkc rfl (lkc rfl lkn))
    · rw [bi_0] at h27
      refine w_aload_n (pc := 30) dX6_define_30 rfl ?_
      refine w_iconst (v := 2) (pc := 31) dX6_define_31 rfl ?_
      refine w_callV1 (n' := 0) (pc := 32) (c_X6_refuse hG) cv_X6_163 (by first | assumption | exact ob rfl) hF hT (by omega) (by decide) (Nat.le_of_ble_eq_true rfl) dX6_define_32 ?_
      refine ⟨_, rfl, hF, ?_⟩
      dsimp only [psh]
      refine w_ireturn (pc := 35) dX6_define_35 rfl ?_
      exact hX2 ⟨i, hi, rfl⟩ h27 _
  · have hx14 := ix_out (n := 11) (N := 11) rfl (by decide) (in_f (lo := 0) (hi := 11) rfl rfl h14)
    refine w_aload_n (pc := 17) dX6_define_17 rfl ?_
    refine w_iconst (v := 1) (pc := 18) dX6_define_18 rfl ?_
    refine w_callV1 (n' := 0) (pc := 19) (c_X6_refuse hG) cv_X6_163 (by first | assumption | exact ob rfl) hF hT (by omega) (by decide) (Nat.le_of_ble_eq_true rfl) dX6_define_19 ?_
    refine ⟨_, rfl, hF, ?_⟩
    dsimp only [psh]
    refine w_ireturn (pc := 22) dX6_define_22 rfl ?_
    exact hX hx14
