/-! THE REFERENCE'S READING: close, ends, goOn -/
def MeOk (s : RS) : Prop := ∀ k, k < s.2.1 → ∃ j, j < 48 ∧ s.2.2.2.1 k = nI j
/-- what settling keeps -/
theorem stS_inv : ∀ (n : Nat) (s : RS), s.2.1 = n → (stS n s).1 = s.1 ∧ (stS n s).2.1 ≤ s.2.1 ∧ (stS n s).2.2.1 = s.2.2.1 ∧ (stS n s).2.2.2.1 = s.2.2.2.1 ∧ (stS n s).2.2.2.2.1 + wtN s.2.2.1 (stS n s).2.1 = s.2.2.2.2.1 + wtN s.2.2.1 s.2.1 ∧ (stS n s).2.2.2.2.2.2.2 = s.2.2.2.2.2.2.2
  | 0, s, _ => ⟨rfl, Nat.le_refl _, rfl, rfl, rfl, rfl⟩
  | n + 1, s, h => by
    rw [stS]
    by_cases q : tpS s = 11 ∨ tpS s = 12
    · rw [if_pos q]
      obtain ⟨hp, hw⟩ := wt_pop q
      obtain ⟨h1, h2, h3, h4, h5, h6⟩ := stS_inv n (mkS (popS s) (if tpS s = 11 then 7 else 8) 0) (by show s.2.1 - 1 = n; omega)
      refine ⟨h1, Nat.le_trans h2 (Nat.sub_le _ _), h3, h4, ?_, h6⟩
      have h5' : (stS n (mkS (popS s) (if tpS s = 11 then 7 else 8) 0)).2.2.2.2.1 + wtN s.2.2.1 (stS n (mkS (popS s) (if tpS s = 11 then 7 else 8) 0)).2.1 = (s.2.2.2.2.1 + 1) + wtN s.2.2.1 (s.2.1 - 1) := h5
      omega
    · rw [if_neg q]
      exact ⟨rfl, Nat.le_refl _, rfl, rfl, rfl, rfl⟩
def wiS (s : RS) (k : Nat) (v : Int32) : RS := (s.1, s.2.1, s.2.2.1, s.2.2.2.1, s.2.2.2.2.1, s.2.2.2.2.2.1, va_up s.2.2.2.2.2.2.1 k v, s.2.2.2.2.2.2.2)
theorem rs_w118 {M : Mem} {s : RS} {k : Nat} {x : Int32} : sI (rS M s) 118 k x = rS M (wiS s k x) := rs_s118
theorem rs_a22 {M : Mem} {s : RS} {x : Nat} : sI (rS M s) 96 22 (nI x) = rS M (atS s x) := rs_s22
theorem rs_p23 {M : Mem} {s : RS} : sI (rS M s) 96 23 (nI (s.2.1 - 1)) = rS M (popS s) := rs_s23
def elS : Nat → RS → RS
  | 0, s => s
  | n + 1, s => if tpS s = 10 then elS n (wiS (popS s) (s.2.2.2.1 (s.2.1 - 1)).toNatClampNeg (nI s.2.2.2.2.1)) else s
theorem tp_pos {s : RS} (h : tpS s ≠ 0) : 0 < s.2.1 := Nat.pos_of_ne_zero (fun z => h (by unfold tpS; rw [if_pos z]))
theorem wt_le (f : Nat → Int32) : ∀ {a b : Nat}, a ≤ b → wtN f a ≤ wtN f b
  | a, 0, h => by rw [Nat.le_zero.mp h]; exact Nat.le_refl _
  | a, b + 1, h => by
    rcases Nat.lt_or_ge a (b + 1) with q | q
    · have := wt_le f (a := a) (b := b) (by omega)
      show wtN f a ≤ wtN f b + wtV (f b)
      omega
    · rw [show a = b + 1 by omega]; exact Nat.le_refl _
theorem elS_inv : ∀ (n : Nat) (s : RS), s.2.1 = n → (elS n s).1 = s.1 ∧ (elS n s).2.1 ≤ s.2.1 ∧ (elS n s).2.2.1 = s.2.2.1 ∧ (elS n s).2.2.2.1 = s.2.2.2.1 ∧ (elS n s).2.2.2.2.1 = s.2.2.2.2.1 ∧ (elS n s).2.2.2.2.2.2.2 = s.2.2.2.2.2.2.2
  | 0, s, _ => ⟨rfl, Nat.le_refl _, rfl, rfl, rfl, rfl⟩
  | n + 1, s, h => by
    rw [elS]
    by_cases q : tpS s = 10
    · rw [if_pos q]
      obtain ⟨h1, h2, h3, h4, h5, h6⟩ := elS_inv n (wiS (popS s) (s.2.2.2.1 (s.2.1 - 1)).toNatClampNeg (nI s.2.2.2.2.1)) (by show s.2.1 - 1 = n; omega)
      exact ⟨h1, Nat.le_trans h2 (Nat.sub_le _ _), h3, h4, h5, h6⟩
    · rw [if_neg q]
      exact ⟨rfl, Nat.le_refl _, rfl, rfl, rfl, rfl⟩
def clS (s : RS) : RS := elS (stS s.2.1 s).2.1 (stS s.2.1 s)
def clB (s : RS) : Bool := decide (¬ tpS (clS s) = 7) && decide (¬ tpS (clS s) = 8)
theorem clS_inv (s : RS) : (clS s).1 = s.1 ∧ (clS s).2.1 ≤ s.2.1 ∧ (clS s).2.2.1 = s.2.2.1 ∧ (clS s).2.2.2.1 = s.2.2.2.1 ∧ (clS s).2.2.2.2.1 + wtN s.2.2.1 (clS s).2.1 ≤ s.2.2.2.2.1 + wtN s.2.2.1 s.2.1 ∧ (clS s).2.2.2.2.2.2.2 = s.2.2.2.2.2.2.2 := by
  obtain ⟨h1, h2, h3, h4, h5, h6⟩ := stS_inv s.2.1 s rfl
  obtain ⟨g1, g2, g3, g4, g5, g6⟩ := elS_inv (stS s.2.1 s).2.1 (stS s.2.1 s) rfl
  refine ⟨g1.trans h1, Nat.le_trans g2 h2, g3.trans h3, g4.trans h4, ?_, g6.trans h6⟩
  have := wt_le s.2.2.1 g2
  show (elS (stS s.2.1 s).2.1 (stS s.2.1 s)).2.2.2.2.1 + wtN s.2.2.1 (elS (stS s.2.1 s).2.1 (stS s.2.1 s)).2.1 ≤ _
  omega
def T_close : PT := fun as M' Q X => ∃ (M : Mem) (len : Nat) (s : RS), as = [.ref 96] ∧ M' = rS M s ∧ RdOk M len ∧ s.2.1 < 48 ∧ s.2.2.2.2.1 + wtN s.2.2.1 s.2.1 ≤ 47 ∧ MeOk s ∧ Q (some (.int (bi (clB s)))) (rS M (clS s))
theorem c_X6_close {l : Launch} (hl : l.stackTraces = false) : Con l yX6_close wX6_close 0 3 (T_close) := by
  refine con_of hl (by decide) ?_ ?_
  · intro as M Q X hpt
    obtain ⟨M, len, s, rfl, rfl, ⟨hF, el, h40⟩, hsg, hma, hme, hQ⟩ := hpt
    exact Nat.le_of_ble_eq_true rfl
  intro G as M Q X hl' hT hd hpt
  obtain ⟨M, len, s, rfl, rfl, ⟨hF, el, h40⟩, hsg, hma, hme, hQ⟩ := hpt
  have hG : (gl G).stackTraces = false := by rw [hl']; exact hl
  show PW G RX6 cX6_close 1 (some .boolean) Q X 0 0 [(0, .ref 96)] [] (rS M s)
  have t44 : ∀ s : RS, s.2.1 < 48 → Q (some (.int (bi (decide (¬ tpS s = 7) && decide (¬ tpS s = 8))))) (rS M s) → PW G RX6 cX6_close 1 (some .boolean) Q X 0 44 [(0, .ref 96)] [] (rS M s) := by
    intro s hsg hq
    refine w_aload_n (pc := 44) dX6_close_44 rfl ?_
    refine w_callV0 (n' := 0) (pc := 45) (c_X6_top hG) cv_X6_141 (by first | assumption | exact ob rfl) hF hT (by omega) (by decide) (Nat.le_of_ble_eq_true rfl) dX6_close_45 ?_
    refine ⟨rfl, hF, (fun q9 => by have hp : 0 < s.2.1 := Nat.pos_of_ne_zero (fun z => q9 (by rw [rs_sg, z]; exact Int32.le_refl _)); rw [rs_sg, sb1 hp]; exact vin (by omega) (by decide)), ?_⟩
    rw [tp_eq (by omega)]
    dsimp only [psh]
    refine w_bipush (v := 7) (pc := 48) dX6_close_48 rfl ?_
    refine w_icmp_eq 66 (pc := 50) dX6_close_50 (by decide) (fun h50 => ?_) (fun h50 => ?_)
    · have e9 : (decide (¬ tpS s = 7) && decide (¬ tpS s = 8)) = false := by rw [h50]; rfl
      refine w_iconst (v := 0) (pc := 66) dX6_close_66 rfl ?_
      refine w_ireturn (pc := 67) dX6_close_67 rfl ?_
      rw [e9] at hq
      exact hq
    · refine w_aload_n (pc := 53) dX6_close_53 rfl ?_
      refine w_callV0 (n' := 0) (pc := 54) (c_X6_top hG) cv_X6_141 (by first | assumption | exact ob rfl) hF hT (by omega) (by decide) (Nat.le_of_ble_eq_true rfl) dX6_close_54 ?_
      refine ⟨rfl, hF, (fun q9 => by have hp : 0 < s.2.1 := Nat.pos_of_ne_zero (fun z => q9 (by rw [rs_sg, z]; exact Int32.le_refl _)); rw [rs_sg, sb1 hp]; exact vin (by omega) (by decide)), ?_⟩
      rw [tp_eq (by omega)]
      dsimp only [psh]
      refine w_bipush (v := 8) (pc := 57) dX6_close_57 rfl ?_
      refine w_icmp_eq 66 (pc := 59) dX6_close_59 (by decide) (fun h59 => ?_) (fun h59 => ?_)
      · have e9 : (decide (¬ tpS s = 7) && decide (¬ tpS s = 8)) = false := by rw [h59]; rfl
        refine w_iconst (v := 0) (pc := 66) dX6_close_66 rfl ?_
        refine w_ireturn (pc := 67) dX6_close_67 rfl ?_
        rw [e9] at hq
        exact hq
      · have e9 : (decide (¬ tpS s = 7) && decide (¬ tpS s = 8)) = true := by rw [decide_eq_true h50, decide_eq_true h59]; rfl
        refine w_iconst (v := 1) (pc := 62) dX6_close_62 rfl ?_
        refine w_goto 67 (pc := 63) dX6_close_63 (by decide) ?_
        refine w_ireturn (pc := 67) dX6_close_67 rfl ?_
        rw [e9] at hq
        exact hq
  have loop : ∀ (n : Nat) (s : RS), s.2.1 = n → s.2.1 < 48 → MeOk s → Q (some (.int (bi (decide (¬ tpS (elS n s) = 7) && decide (¬ tpS (elS n s) = 8))))) (rS M (elS n s)) → PW G RX6 cX6_close 1 (some .boolean) Q X 0 4 [(0, .ref 96)] [] (rS M s) := by
    intro n
    induction n with
    | zero =>
      intro s hk hsg hme hq
      refine w_aload_n (pc := 4) dX6_close_4 rfl ?_
      refine w_callV0 (n' := 0) (pc := 5) (c_X6_top hG) cv_X6_141 (by first | assumption | exact ob rfl) hF hT (by omega) (by decide) (Nat.le_of_ble_eq_true rfl) dX6_close_5 ?_
      refine ⟨rfl, hF, (fun q9 => by have hp : 0 < s.2.1 := Nat.pos_of_ne_zero (fun z => q9 (by rw [rs_sg, z]; exact Int32.le_refl _)); rw [rs_sg, sb1 hp]; exact vin (by omega) (by decide)), ?_⟩
      rw [tp_eq (by omega)]
      dsimp only [psh]
      refine w_bipush (v := 10) (pc := 8) dX6_close_8 rfl ?_
      refine w_icmp_ne 44 (pc := 10) dX6_close_10 (by decide) (fun h10 => ?_) (fun h10 => ?_)
      · exact w_lk (t44 s hsg hq) (lkc rfl lkn)
      · exact absurd h10 (by unfold tpS; rw [if_pos hk]; decide)
    | succ n ih =>
      intro s hk hsg hme hq
      refine w_aload_n (pc := 4) dX6_close_4 rfl ?_
      refine w_callV0 (n' := 0) (pc := 5) (c_X6_top hG) cv_X6_141 (by first | assumption | exact ob rfl) hF hT (by omega) (by decide) (Nat.le_of_ble_eq_true rfl) dX6_close_5 ?_
      refine ⟨rfl, hF, (fun q9 => by have hp : 0 < s.2.1 := Nat.pos_of_ne_zero (fun z => q9 (by rw [rs_sg, z]; exact Int32.le_refl _)); rw [rs_sg, sb1 hp]; exact vin (by omega) (by decide)), ?_⟩
      rw [tp_eq (by omega)]
      dsimp only [psh]
      refine w_bipush (v := 10) (pc := 8) dX6_close_8 rfl ?_
      refine w_icmp_ne 44 (pc := 10) dX6_close_10 (by decide) (fun h10 => ?_) (fun h10 => ?_)
      · rw [elS, if_neg h10] at hq
        exact w_lk (t44 s hsg hq) (lkc rfl lkn)
      · have hp := tp_pos (s := s) (by rw [h10]; decide)
        obtain ⟨j, hj, ej⟩ := hme (s.2.1 - 1) (by omega)
        rw [elS, if_pos h10, ej, clN (by omega)] at hq
        refine w_aload_n (pc := 13) dX6_close_13 rfl ?_
        refine w_dup (pc := 14) dX6_close_14 rfl ?_
        refine w_getI (pc := 15) fl_X6_107 hF (by first | assumption | exact ob rfl) rfl dX6_close_15 ?_
        rw [rs_sg]
        refine w_iconst (v := 1) (pc := 18) dX6_close_18 rfl ?_
        refine w_isub (pc := 19) dX6_close_19 ?_
        refine w_putI (pc := 20) fp_X6_107 hF (by first | assumption | exact ob rfl) rfl dX6_close_20 ?_
        rw [sb1 (by omega), rs_s23, show (s.1, s.2.1 - 1, s.2.2.1, s.2.2.2.1, s.2.2.2.2.1, s.2.2.2.2.2.1, s.2.2.2.2.2.2.1, s.2.2.2.2.2.2.2) = popS s from rfl]
        refine w_aload_n (pc := 23) dX6_close_23 rfl ?_
        refine w_getR (b := 118) (pc := 24) fl_X6_79 hF (by first | assumption | exact ob rfl) rfl rfl dX6_close_24 ?_
        refine w_aload_n (pc := 27) dX6_close_27 rfl ?_
        refine w_getR (b := 116) (pc := 28) fl_X6_73 hF (by first | assumption | exact ob rfl) rfl rfl dX6_close_28 ?_
        refine w_aload_n (pc := 31) dX6_close_31 rfl ?_
        refine w_getI (pc := 32) fl_X6_107 hF (by first | assumption | exact ob rfl) rfl dX6_close_32 ?_
        rw [rs_sg, show (popS s).2.1 = s.2.1 - 1 from rfl]
        refine w_iald (m := 48) (pc := 35) hF (by first | assumption | exact ar rfl) (vin (by omega) (by decide)) dX6_close_35 ?_
        rw [rs_me, clN (by omega), show (popS s).2.2.2.1 (s.2.1 - 1) = nI j from ej]
        refine w_aload_n (pc := 36) dX6_close_36 rfl ?_
        refine w_getI (pc := 37) fl_X6_104 hF (by first | assumption | exact ob rfl) rfl dX6_close_37 ?_
        rw [rs_ma]
        refine w_iast (m := 48) (pc := 40) hF (by first | assumption | exact ar rfl) (vin hj (by decide)) dX6_close_40 ?_
        rw [clN (by omega), rs_s118]
        refine w_goto 4 (pc := 41) dX6_close_41 (by decide) ?_
        exact w_lk (ih (wiS (popS s) j (nI s.2.2.2.2.1)) (by show s.2.1 - 1 = n; omega) (by show s.2.1 - 1 < 48; omega) (fun k hk => hme k (by have : k < s.2.1 - 1 := hk; omega)) hq) (lkc rfl lkn)
  refine w_aload_n (pc := 0) dX6_close_0 rfl ?_
  refine w_callV0 (n' := 0) (pc := 1) (c_X6_settle hG) cv_X6_144 (by first | assumption | exact ob rfl) hF hT (by omega) (by decide) (Nat.le_of_ble_eq_true rfl) dX6_close_1 ?_
  refine ⟨M, len, s, rfl, rfl, ⟨hF, el, h40⟩, hsg, hma, ?_⟩
  dsimp only [psh]
  obtain ⟨g1, g2, g3, g4, g5, g6⟩ := stS_inv s.2.1 s rfl
  exact w_lk (loop _ (stS s.2.1 s) rfl (by omega) (fun k hk => by rw [g4]; exact hme k (by omega)) hQ) (lkc rfl lkn)
def enT (c : Int32) (s : RS) : Int32 × RS := if c = 58 ∧ tpS s = 9 then (2, ptS (wiS (mkS (popS s) 12 0) (s.2.2.2.1 (s.2.1 - 1)).toNatClampNeg (nI (s.2.2.2.2.1 + 1))) 10 (nI s.2.2.2.2.1)) else if c = 44 ∧ (tpS s = 2 ∨ tpS s = 3) then (2, ptS (popS s) (tpS s + 2) 0) else if c = 41 ∧ (tpS s = 1 ∨ tpS s = 4 ∨ tpS s = 5 ∨ tpS s = 6) then (1, if tpS s = 1 then popS s else mkS (popS s) (if tpS s = 4 then 3 else if tpS s = 5 then 4 else 5) (s.2.2.2.1 (s.2.1 - 1))) else (0, popS s)
def enS (c : Int32) (s : RS) : Int32 × RS := if clB s = true then enT c (clS s) else (0, clS s)
def T_ends : PT := fun as M' Q X => ∃ (M : Mem) (len : Nat) (s : RS) (c : Int32), as = [.ref 96, .int c] ∧ M' = rS M s ∧ RdOk M len ∧ s.2.1 < 48 ∧ s.2.2.2.2.1 + wtN s.2.2.1 s.2.1 ≤ 47 ∧ MeOk s ∧ Q (some (.int (enS c s).1)) (rS M ((enS c s).2))
theorem c_X6_ends {l : Launch} (hl : l.stackTraces = false) : Con l yX6_ends wX6_ends 0 4 (T_ends) := by
  refine con_of hl (by decide) ?_ ?_
  · intro as M Q X hpt
    obtain ⟨M, len, s, c, rfl, rfl, ⟨hF, el, h40⟩, hsg, hma, hme, hQ⟩ := hpt
    exact Nat.le_of_ble_eq_true rfl
  intro G as M Q X hl' hT hd hpt
  obtain ⟨M, len, s, c, rfl, rfl, ⟨hF, el, h40⟩, hsg, hma, hme, hQ⟩ := hpt
  have hG : (gl G).stackTraces = false := by rw [hl']; exact hl
  show PW G RX6 cX6_ends 3 (some .int) Q X 0 0 [(0, .ref 96), (1, .int c)] [] (rS M s)
  have t35 : ∀ q : RS, Q (some (.int (enT c q).1)) (rS M (enT c q).2) → q.2.1 < 48 → q.2.2.2.2.1 + wtN q.2.2.1 q.2.1 ≤ 47 → MeOk q → PW G RX6 cX6_ends 3 (some .int) Q X 0 35 [(0, .ref 96), (1, .int c), (2, .int (tpS q))] [] (rS M (popS q)) := by
    intro q hq hsg hma hme
    have t143 : c = 41 → (tpS q = 1 ∨ tpS q = 4 ∨ tpS q = 5 ∨ tpS q = 6) → ¬ (c = 58 ∧ tpS q = 9) → ¬ (c = 44 ∧ (tpS q = 2 ∨ tpS q = 3)) → PW G RX6 cX6_ends 3 (some .int) Q X 0 143 [(0, .ref 96), (1, .int c), (2, .int (tpS q))] [] (rS M (popS q)) := by
      intro hc h hn1 hn2
      refine w_iload_n (pc := 143) dX6_ends_143 rfl ?_
      refine w_iconst (v := 1) (pc := 144) dX6_ends_144 rfl ?_
      refine w_icmp_eq 180 (pc := 145) dX6_ends_145 (by decide) (fun h145 => ?_) (fun h145 => ?_)
      · refine w_iconst (v := 1) (pc := 180) dX6_ends_180 rfl ?_
        refine w_ireturn (pc := 181) dX6_ends_181 rfl ?_
        unfold enT at hq
        rw [if_neg hn1, if_neg hn2, if_pos ⟨hc, h⟩] at hq
        first | (rw [if_pos h145] at hq; exact hq) | (rw [if_neg h145, if_pos h151] at hq; exact hq) | (rw [if_neg h145, if_neg h151, if_pos h160] at hq; exact hq) | (rw [if_neg h145, if_neg h151, if_neg h160] at hq; exact hq)
      · have hp := tp_pos (s := q) (by rcases h with z | z | z | z; exact absurd z h145; all_goals (rw [z]; decide))
        refine w_aload_n (pc := 148) dX6_ends_148 rfl ?_
        refine w_iload_n (pc := 149) dX6_ends_149 rfl ?_
        refine w_iconst (v := 4) (pc := 150) dX6_ends_150 rfl ?_
        refine w_icmp_ne 158 (pc := 151) dX6_ends_151 (by decide) (fun h151 => ?_) (fun h151 => ?_)
        · refine w_iload_n (pc := 158) dX6_ends_158 rfl ?_
          refine w_iconst (v := 5) (pc := 159) dX6_ends_159 rfl ?_
          refine w_icmp_ne 167 (pc := 160) dX6_ends_160 (by decide) (fun h160 => ?_) (fun h160 => ?_)
          · refine w_iconst (v := 5) (pc := 167) dX6_ends_167 rfl ?_
            refine w_aload_n (pc := 168) dX6_ends_168 rfl ?_
            refine w_getR (b := 116) (pc := 169) fl_X6_73 hF (by first | assumption | exact ob rfl) rfl rfl dX6_ends_169 ?_
            refine w_aload_n (pc := 172) dX6_ends_172 rfl ?_
            refine w_getI (pc := 173) fl_X6_107 hF (by first | assumption | exact ob rfl) rfl dX6_ends_173 ?_
            rw [show mI (rS M (popS q)) 96 23 = nI (q.2.1 - 1) from rfl]
            refine w_iald (m := 48) (pc := 176) hF (by first | assumption | exact ar rfl) (vin (by omega) (by decide)) dX6_ends_176 ?_
            rw [rs_me, clN (by omega), show (popS q).2.2.2.1 = q.2.2.2.1 from rfl]
            refine w_callV2 (n' := 0) (pc := 177) (c_X6_make hG) cv_X6_117 (by first | assumption | exact ob rfl) hF hT (by omega) (by decide) (Nat.le_of_ble_eq_true rfl) dX6_ends_177 ?_
            refine ⟨_, _, rfl, hF, (by rw [rs_ma]; exact vin (show q.2.2.2.2.1 < 48 by omega) (by decide)), ?_⟩
            rw [mk_eq (by show q.2.2.2.2.1 < 2 ^ 31; omega)]
            dsimp only [psh]
            refine w_iconst (v := 1) (pc := 180) dX6_ends_180 rfl ?_
            refine w_ireturn (pc := 181) dX6_ends_181 rfl ?_
            unfold enT at hq
            rw [if_neg hn1, if_neg hn2, if_pos ⟨hc, h⟩] at hq
            first | (rw [if_pos h145] at hq; exact hq) | (rw [if_neg h145, if_pos h151] at hq; exact hq) | (rw [if_neg h145, if_neg h151, if_pos h160] at hq; exact hq) | (rw [if_neg h145, if_neg h151, if_neg h160] at hq; exact hq)
          · refine w_iconst (v := 4) (pc := 163) dX6_ends_163 rfl ?_
            refine w_goto 168 (pc := 164) dX6_ends_164 (by decide) ?_
            refine w_aload_n (pc := 168) dX6_ends_168 rfl ?_
            refine w_getR (b := 116) (pc := 169) fl_X6_73 hF (by first | assumption | exact ob rfl) rfl rfl dX6_ends_169 ?_
            refine w_aload_n (pc := 172) dX6_ends_172 rfl ?_
            refine w_getI (pc := 173) fl_X6_107 hF (by first | assumption | exact ob rfl) rfl dX6_ends_173 ?_
            rw [show mI (rS M (popS q)) 96 23 = nI (q.2.1 - 1) from rfl]
            refine w_iald (m := 48) (pc := 176) hF (by first | assumption | exact ar rfl) (vin (by omega) (by decide)) dX6_ends_176 ?_
            rw [rs_me, clN (by omega), show (popS q).2.2.2.1 = q.2.2.2.1 from rfl]
            refine w_callV2 (n' := 0) (pc := 177) (c_X6_make hG) cv_X6_117 (by first | assumption | exact ob rfl) hF hT (by omega) (by decide) (Nat.le_of_ble_eq_true rfl) dX6_ends_177 ?_
            refine ⟨_, _, rfl, hF, (by rw [rs_ma]; exact vin (show q.2.2.2.2.1 < 48 by omega) (by decide)), ?_⟩
            rw [mk_eq (by show q.2.2.2.2.1 < 2 ^ 31; omega)]
            dsimp only [psh]
            refine w_iconst (v := 1) (pc := 180) dX6_ends_180 rfl ?_
            refine w_ireturn (pc := 181) dX6_ends_181 rfl ?_
            unfold enT at hq
            rw [if_neg hn1, if_neg hn2, if_pos ⟨hc, h⟩] at hq
            first | (rw [if_pos h145] at hq; exact hq) | (rw [if_neg h145, if_pos h151] at hq; exact hq) | (rw [if_neg h145, if_neg h151, if_pos h160] at hq; exact hq) | (rw [if_neg h145, if_neg h151, if_neg h160] at hq; exact hq)
        · refine w_iconst (v := 3) (pc := 154) dX6_ends_154 rfl ?_
          refine w_goto 168 (pc := 155) dX6_ends_155 (by decide) ?_
          refine w_aload_n (pc := 168) dX6_ends_168 rfl ?_
          refine w_getR (b := 116) (pc := 169) fl_X6_73 hF (by first | assumption | exact ob rfl) rfl rfl dX6_ends_169 ?_
          refine w_aload_n (pc := 172) dX6_ends_172 rfl ?_
          refine w_getI (pc := 173) fl_X6_107 hF (by first | assumption | exact ob rfl) rfl dX6_ends_173 ?_
          rw [show mI (rS M (popS q)) 96 23 = nI (q.2.1 - 1) from rfl]
          refine w_iald (m := 48) (pc := 176) hF (by first | assumption | exact ar rfl) (vin (by omega) (by decide)) dX6_ends_176 ?_
          rw [rs_me, clN (by omega), show (popS q).2.2.2.1 = q.2.2.2.1 from rfl]
          refine w_callV2 (n' := 0) (pc := 177) (c_X6_make hG) cv_X6_117 (by first | assumption | exact ob rfl) hF hT (by omega) (by decide) (Nat.le_of_ble_eq_true rfl) dX6_ends_177 ?_
          refine ⟨_, _, rfl, hF, (by rw [rs_ma]; exact vin (show q.2.2.2.2.1 < 48 by omega) (by decide)), ?_⟩
          rw [mk_eq (by show q.2.2.2.2.1 < 2 ^ 31; omega)]
          dsimp only [psh]
          refine w_iconst (v := 1) (pc := 180) dX6_ends_180 rfl ?_
          refine w_ireturn (pc := 181) dX6_ends_181 rfl ?_
          unfold enT at hq
          rw [if_neg hn1, if_neg hn2, if_pos ⟨hc, h⟩] at hq
          first | (rw [if_pos h145] at hq; exact hq) | (rw [if_neg h145, if_pos h151] at hq; exact hq) | (rw [if_neg h145, if_neg h151, if_pos h160] at hq; exact hq) | (rw [if_neg h145, if_neg h151, if_neg h160] at hq; exact hq)
    have t114 : ¬ (c = 58 ∧ tpS q = 9) → ¬ (c = 44 ∧ (tpS q = 2 ∨ tpS q = 3)) → PW G RX6 cX6_ends 3 (some .int) Q X 0 114 [(0, .ref 96), (1, .int c), (2, .int (tpS q))] [] (rS M (popS q)) := by
      intro hn1 hn2
      refine w_iload_n (pc := 114) dX6_ends_114 rfl ?_
      refine w_bipush (v := 41) (pc := 115) dX6_ends_115 rfl ?_
      refine w_icmp_ne 141 (pc := 117) dX6_ends_117 (by decide) (fun h117 => ?_) (fun h117 => ?_)
      · have hn3 : ¬ (c = 41 ∧ (tpS q = 1 ∨ tpS q = 4 ∨ tpS q = 5 ∨ tpS q = 6)) := fun z => h117 z.1
        refine w_iconst (v := 0) (pc := 141) dX6_ends_141 rfl ?_
        refine w_ireturn (pc := 142) dX6_ends_142 rfl ?_
        unfold enT at hq
        rw [if_neg hn1, if_neg hn2, if_neg hn3] at hq
        exact hq
      · refine w_iload_n (pc := 120) dX6_ends_120 rfl ?_
        refine w_iconst (v := 1) (pc := 121) dX6_ends_121 rfl ?_
        refine w_icmp_eq 143 (pc := 122) dX6_ends_122 (by decide) (fun h122 => ?_) (fun h122 => ?_)
        · exact w_lk (t143 h117 (by first | exact Or.inl h122 | exact Or.inr (Or.inl h127) | exact Or.inr (Or.inr (Or.inl h132)) | exact Or.inr (Or.inr (Or.inr h138))) hn1 hn2) (lkc rfl (lkc rfl (lkc rfl lkn)))
        · refine w_iload_n (pc := 125) dX6_ends_125 rfl ?_
          refine w_iconst (v := 4) (pc := 126) dX6_ends_126 rfl ?_
          refine w_icmp_eq 143 (pc := 127) dX6_ends_127 (by decide) (fun h127 => ?_) (fun h127 => ?_)
          · exact w_lk (t143 h117 (by first | exact Or.inl h122 | exact Or.inr (Or.inl h127) | exact Or.inr (Or.inr (Or.inl h132)) | exact Or.inr (Or.inr (Or.inr h138))) hn1 hn2) (lkc rfl (lkc rfl (lkc rfl lkn)))
          · refine w_iload_n (pc := 130) dX6_ends_130 rfl ?_
            refine w_iconst (v := 5) (pc := 131) dX6_ends_131 rfl ?_
            refine w_icmp_eq 143 (pc := 132) dX6_ends_132 (by decide) (fun h132 => ?_) (fun h132 => ?_)
            · exact w_lk (t143 h117 (by first | exact Or.inl h122 | exact Or.inr (Or.inl h127) | exact Or.inr (Or.inr (Or.inl h132)) | exact Or.inr (Or.inr (Or.inr h138))) hn1 hn2) (lkc rfl (lkc rfl (lkc rfl lkn)))
            · refine w_iload_n (pc := 135) dX6_ends_135 rfl ?_
              refine w_bipush (v := 6) (pc := 136) dX6_ends_136 rfl ?_
              refine w_icmp_eq 143 (pc := 138) dX6_ends_138 (by decide) (fun h138 => ?_) (fun h138 => ?_)
              · exact w_lk (t143 h117 (by first | exact Or.inl h122 | exact Or.inr (Or.inl h127) | exact Or.inr (Or.inr (Or.inl h132)) | exact Or.inr (Or.inr (Or.inr h138))) hn1 hn2) (lkc rfl (lkc rfl (lkc rfl lkn)))
              · have hn3 : ¬ (c = 41 ∧ (tpS q = 1 ∨ tpS q = 4 ∨ tpS q = 5 ∨ tpS q = 6)) := fun z => by rcases z.2 with y | y | y | y; exact h122 y; exact h127 y; exact h132 y; exact h138 y
                refine w_iconst (v := 0) (pc := 141) dX6_ends_141 rfl ?_
                refine w_ireturn (pc := 142) dX6_ends_142 rfl ?_
                unfold enT at hq
                rw [if_neg hn1, if_neg hn2, if_neg hn3] at hq
                exact hq
    have t87 : ¬ (c = 58 ∧ tpS q = 9) → PW G RX6 cX6_ends 3 (some .int) Q X 0 87 [(0, .ref 96), (1, .int c), (2, .int (tpS q))] [] (rS M (popS q)) := by
      intro hn1
      refine w_iload_n (pc := 87) dX6_ends_87 rfl ?_
      refine w_bipush (v := 44) (pc := 88) dX6_ends_88 rfl ?_
      refine w_icmp_ne 114 (pc := 90) dX6_ends_90 (by decide) (fun h90 => ?_) (fun h90 => ?_)
      · have hn2 : ¬ (c = 44 ∧ (tpS q = 2 ∨ tpS q = 3)) := fun z => h90 z.1
        exact w_lk (t114 hn1 hn2) (lkc rfl (lkc rfl (lkc rfl lkn)))
      · refine w_iload_n (pc := 93) dX6_ends_93 rfl ?_
        refine w_iconst (v := 2) (pc := 94) dX6_ends_94 rfl ?_
        refine w_icmp_eq 103 (pc := 95) dX6_ends_95 (by decide) (fun h95 => ?_) (fun h95 => ?_)
        · refine w_aload_n (pc := 103) dX6_ends_103 rfl ?_
          refine w_iload_n (pc := 104) dX6_ends_104 rfl ?_
          refine w_iconst (v := 2) (pc := 105) dX6_ends_105 rfl ?_
          refine w_iadd (pc := 106) dX6_ends_106 ?_
          refine w_iconst (v := 0) (pc := 107) dX6_ends_107 rfl ?_
          refine w_callV2 (n' := 0) (pc := 108) (c_X6_put hG) cv_X6_131 (by first | assumption | exact ob rfl) hF hT (by omega) (by decide) (Nat.le_of_ble_eq_true rfl) dX6_ends_108 ?_
          refine ⟨_, _, rfl, hF, (by rw [rs_sg]; exact vin (show q.2.1 - 1 < 48 by omega) (by decide)), ?_⟩
          rw [pt_eq (by show q.2.1 - 1 < 2 ^ 31; omega)]
          dsimp only [psh]
          refine w_pop (pc := 111) dX6_ends_111 rfl ?_
          refine w_iconst (v := 2) (pc := 112) dX6_ends_112 rfl ?_
          refine w_ireturn (pc := 113) dX6_ends_113 rfl ?_
          unfold enT at hq
          rw [if_neg hn1, if_pos ⟨h90, (by first | exact Or.inl h95 | exact Or.inr h100)⟩] at hq
          exact hq
        · refine w_iload_n (pc := 98) dX6_ends_98 rfl ?_
          refine w_iconst (v := 3) (pc := 99) dX6_ends_99 rfl ?_
          refine w_icmp_ne 114 (pc := 100) dX6_ends_100 (by decide) (fun h100 => ?_) (fun h100 => ?_)
          · have hn2 : ¬ (c = 44 ∧ (tpS q = 2 ∨ tpS q = 3)) := fun z => by rcases z.2 with y | y; exact h95 y; exact h100 y
            exact w_lk (t114 hn1 hn2) (lkc rfl (lkc rfl (lkc rfl lkn)))
          · refine w_aload_n (pc := 103) dX6_ends_103 rfl ?_
            refine w_iload_n (pc := 104) dX6_ends_104 rfl ?_
            refine w_iconst (v := 2) (pc := 105) dX6_ends_105 rfl ?_
            refine w_iadd (pc := 106) dX6_ends_106 ?_
            refine w_iconst (v := 0) (pc := 107) dX6_ends_107 rfl ?_
            refine w_callV2 (n' := 0) (pc := 108) (c_X6_put hG) cv_X6_131 (by first | assumption | exact ob rfl) hF hT (by omega) (by decide) (Nat.le_of_ble_eq_true rfl) dX6_ends_108 ?_
            refine ⟨_, _, rfl, hF, (by rw [rs_sg]; exact vin (show q.2.1 - 1 < 48 by omega) (by decide)), ?_⟩
            rw [pt_eq (by show q.2.1 - 1 < 2 ^ 31; omega)]
            dsimp only [psh]
            refine w_pop (pc := 111) dX6_ends_111 rfl ?_
            refine w_iconst (v := 2) (pc := 112) dX6_ends_112 rfl ?_
            refine w_ireturn (pc := 113) dX6_ends_113 rfl ?_
            unfold enT at hq
            rw [if_neg hn1, if_pos ⟨h90, (by first | exact Or.inl h95 | exact Or.inr h100)⟩] at hq
            exact hq
    refine w_iload_n (pc := 35) dX6_ends_35 rfl ?_
    refine w_bipush (v := 58) (pc := 36) dX6_ends_36 rfl ?_
    refine w_icmp_ne 87 (pc := 38) dX6_ends_38 (by decide) (fun h38 => ?_) (fun h38 => ?_)
    · have hn1 : ¬ (c = 58 ∧ tpS q = 9) := fun z => h38 z.1
      exact w_lk (t87 hn1) (lkc rfl (lkc rfl (lkc rfl lkn)))
    · refine w_iload_n (pc := 41) dX6_ends_41 rfl ?_
      refine w_bipush (v := 9) (pc := 42) dX6_ends_42 rfl ?_
      refine w_icmp_ne 87 (pc := 44) dX6_ends_44 (by decide) (fun h44 => ?_) (fun h44 => ?_)
      · have hn1 : ¬ (c = 58 ∧ tpS q = 9) := fun z => h44 z.2
        exact w_lk (t87 hn1) (lkc rfl (lkc rfl (lkc rfl lkn)))
      · have hp := tp_pos (s := q) (by rw [h44]; decide)
        obtain ⟨j, hj, ej⟩ := hme (q.2.1 - 1) (by omega)
        refine w_aload_n (pc := 47) dX6_ends_47 rfl ?_
        refine w_bipush (v := 12) (pc := 48) dX6_ends_48 rfl ?_
        refine w_iconst (v := 0) (pc := 50) dX6_ends_50 rfl ?_
        refine w_callV2 (n' := 0) (pc := 51) (c_X6_make hG) cv_X6_117 (by first | assumption | exact ob rfl) hF hT (by omega) (by decide) (Nat.le_of_ble_eq_true rfl) dX6_ends_51 ?_
        refine ⟨_, _, rfl, hF, (by rw [rs_ma]; exact vin (show q.2.2.2.2.1 < 48 by omega) (by decide)), ?_⟩
        rw [mk_eq (by show q.2.2.2.2.1 < 2 ^ 31; omega)]
        dsimp only [psh]
        refine w_aload_n (pc := 54) dX6_ends_54 rfl ?_
        refine w_getR (b := 118) (pc := 55) fl_X6_79 hF (by first | assumption | exact ob rfl) rfl rfl dX6_ends_55 ?_
        refine w_aload_n (pc := 58) dX6_ends_58 rfl ?_
        refine w_getR (b := 116) (pc := 59) fl_X6_73 hF (by first | assumption | exact ob rfl) rfl rfl dX6_ends_59 ?_
        refine w_aload_n (pc := 62) dX6_ends_62 rfl ?_
        refine w_getI (pc := 63) fl_X6_107 hF (by first | assumption | exact ob rfl) rfl dX6_ends_63 ?_
        rw [show ∀ w n, mI (rS M (mkS (popS q) w n)) 96 23 = nI (q.2.1 - 1) from fun _ _ => rfl]
        refine w_iald (m := 48) (pc := 66) hF (by first | assumption | exact ar rfl) (vin (by omega) (by decide)) dX6_ends_66 ?_
        rw [rs_me, clN (by omega), show (mkS (popS q) 12 0).2.2.2.1 (q.2.1 - 1) = nI j from ej]
        refine w_aload_n (pc := 67) dX6_ends_67 rfl ?_
        refine w_getI (pc := 68) fl_X6_104 hF (by first | assumption | exact ob rfl) rfl dX6_ends_68 ?_
        rw [rs_ma, show (mkS (popS q) 12 0).2.2.2.2.1 = q.2.2.2.2.1 + 1 from rfl]
        refine w_iast (m := 48) (pc := 71) hF (by first | assumption | exact ar rfl) (vin hj (by decide)) dX6_ends_71 ?_
        rw [clN (by omega), rs_w118]
        refine w_aload_n (pc := 72) dX6_ends_72 rfl ?_
        refine w_bipush (v := 10) (pc := 73) dX6_ends_73 rfl ?_
        refine w_aload_n (pc := 75) dX6_ends_75 rfl ?_
        refine w_getI (pc := 76) fl_X6_104 hF (by first | assumption | exact ob rfl) rfl dX6_ends_76 ?_
        rw [rs_ma, show (wiS (mkS (popS q) 12 0) j (nI (q.2.2.2.2.1 + 1))).2.2.2.2.1 = q.2.2.2.2.1 + 1 from rfl]
        refine w_iconst (v := 1) (pc := 79) dX6_ends_79 rfl ?_
        refine w_isub (pc := 80) dX6_ends_80 ?_
        rw [show ∀ x : Nat, nI (x + 1) - 1 = nI x from fun x => by rw [sb1 (by omega)]; rfl]
        refine w_callV2 (n' := 0) (pc := 81) (c_X6_put hG) cv_X6_131 (by first | assumption | exact ob rfl) hF hT (by omega) (by decide) (Nat.le_of_ble_eq_true rfl) dX6_ends_81 ?_
        refine ⟨_, _, rfl, hF, (by rw [rs_sg]; exact vin (show q.2.1 - 1 < 48 by omega) (by decide)), ?_⟩
        rw [pt_eq (by show q.2.1 - 1 < 2 ^ 31; omega)]
        dsimp only [psh]
        refine w_pop (pc := 84) dX6_ends_84 rfl ?_
        refine w_iconst (v := 2) (pc := 85) dX6_ends_85 rfl ?_
        refine w_ireturn (pc := 86) dX6_ends_86 rfl ?_
        unfold enT at hq
        rw [if_pos ⟨h38, h44⟩, ej, clN (by omega)] at hq
        exact hq
  refine w_aload_n (pc := 0) dX6_ends_0 rfl ?_
  refine w_callV0 (n' := 0) (pc := 1) (c_X6_close hG) cv_X6_150 (by first | assumption | exact ob rfl) hF hT (by omega) (by decide) (Nat.le_of_ble_eq_true rfl) dX6_ends_1 ?_
  refine ⟨M, len, s, rfl, rfl, ⟨hF, el, h40⟩, hsg, hma, hme, ?_⟩
  dsimp only [psh]
  refine w_if_ne 9 (pc := 4) dX6_ends_4 (by decide) (fun h4 => ?_) (fun h4 => ?_)
  · rw [bi_1] at h4
    have hq : Q (some (.int (enT c (clS s)).1)) (rS M (enT c (clS s)).2) := by rw [enS, if_pos h4] at hQ; exact hQ
    obtain ⟨g1, g2, g3, g4, g5, g6⟩ := clS_inv s
    have hsgq : (clS s).2.1 < 48 := by omega
    have hmaq : (clS s).2.2.2.2.1 + wtN (clS s).2.2.1 (clS s).2.1 ≤ 47 := by rw [g3]; omega
    have hmeq : MeOk (clS s) := fun k hk => by rw [g4]; exact hme k (by omega)
    generalize clS s = q at hq hsgq hmaq hmeq g2 ⊢
    have t35 := t35 q hq hsgq hmaq hmeq
    refine w_aload_n (pc := 9) dX6_ends_9 rfl ?_
    refine w_callV0 (n' := 0) (pc := 10) (c_X6_top hG) cv_X6_141 (by first | assumption | exact ob rfl) hF hT (by omega) (by decide) (Nat.le_of_ble_eq_true rfl) dX6_ends_10 ?_
    refine ⟨rfl, hF, (fun q9 => by have hp : 0 < q.2.1 := Nat.pos_of_ne_zero (fun z => q9 (by rw [rs_sg, z]; exact Int32.le_refl _)); rw [rs_sg, sb1 hp]; exact vin (by omega) (by decide)), ?_⟩
    rw [tp_eq (by omega)]
    dsimp only [psh]
    refine w_istore_n 2 (pc := 13) rfl dX6_ends_13 (by decide) ?_
    refine w_aload_n (pc := 14) dX6_ends_14 rfl ?_
    refine w_aload_n (pc := 15) dX6_ends_15 rfl ?_
    refine w_getI (pc := 16) fl_X6_107 hF (by first | assumption | exact ob rfl) rfl dX6_ends_16 ?_
    rw [rs_sg]
    refine w_if_le 31 (pc := 19) dX6_ends_19 (by decide) (fun h19 => ?_) (fun h19 => ?_)
    · have hz : q.2.1 = 0 := by rw [show (0 : Int32) = nI 0 from rfl, nI_leI (by omega) (by decide)] at h19; omega
      refine w_iconst (v := 0) (pc := 31) dX6_ends_31 rfl ?_
      refine w_putI (pc := 32) fp_X6_107 hF (by first | assumption | exact ob rfl) rfl dX6_ends_32 ?_
      first | rw [sb1 (by omega), rs_s23] | rw [show (0 : Int32) = nI 0 from rfl, rs_s23]
      first | exact w_lk t35 (lkc rfl (lkc rfl (lkc rfl lkn))) | (have e9 : (q.1, 0, q.2.2) = popS q := (by unfold popS; rw [hz]); rw [show (q.1, 0, q.2.2.1, q.2.2.2.1, q.2.2.2.2.1, q.2.2.2.2.2.1, q.2.2.2.2.2.2.1, q.2.2.2.2.2.2.2) = popS q from e9]; exact w_lk t35 (lkc rfl (lkc rfl (lkc rfl lkn))))
    · have hz : 0 < q.2.1 := Nat.pos_of_ne_zero (fun z => h19 (by rw [z]; exact Int32.le_refl _))
      refine w_aload_n (pc := 22) dX6_ends_22 rfl ?_
      refine w_getI (pc := 23) fl_X6_107 hF (by first | assumption | exact ob rfl) rfl dX6_ends_23 ?_
      rw [rs_sg]
      refine w_iconst (v := 1) (pc := 26) dX6_ends_26 rfl ?_
      refine w_isub (pc := 27) dX6_ends_27 ?_
      refine w_goto 32 (pc := 28) dX6_ends_28 (by decide) ?_
      refine w_putI (pc := 32) fp_X6_107 hF (by first | assumption | exact ob rfl) rfl dX6_ends_32 ?_
      first | rw [sb1 (by omega), rs_s23] | rw [show (0 : Int32) = nI 0 from rfl, rs_s23]
      first | exact w_lk t35 (lkc rfl (lkc rfl (lkc rfl lkn))) | (have e9 : (q.1, 0, q.2.2) = popS q := (by unfold popS; rw [hz]); rw [show (q.1, 0, q.2.2.1, q.2.2.2.1, q.2.2.2.2.1, q.2.2.2.2.2.1, q.2.2.2.2.2.2.1, q.2.2.2.2.2.2.2) = popS q from e9]; exact w_lk t35 (lkc rfl (lkc rfl (lkc rfl lkn))))
  · rw [bi_0] at h4
    rw [enS, if_neg (by rw [h4]; decide)] at hQ
    refine w_iconst (v := 0) (pc := 7) dX6_ends_7 rfl ?_
    refine w_ireturn (pc := 8) dX6_ends_8 rfl ?_
    exact hQ
