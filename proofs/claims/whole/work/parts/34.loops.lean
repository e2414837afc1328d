/-! THE ORDER AND THE TABLES: LOOPS -/
theorem rdy_f1 {nd : Nat → Int32} {m : Int32} {k : Nat} (hk : k < 12) (h : ¬ (m &&& ((1 : Int32) <<< (nI k &&& 31))) = 0) : rdy nd m k = false := by
  rw [tb_and m (by omega)] at h
  unfold rdy
  cases hb : tb m k
  · exact absurd hb h
  · rfl
theorem rdy_f2 {nd : Nat → Int32} {m : Int32} {k : Nat} (h : ¬ nd k &&& (m ^^^ -1) = 0) : rdy nd m k = false := by
  unfold rdy
  rw [decide_eq_false h, Bool.and_false]
theorem rdy_t {nd : Nat → Int32} {m : Int32} {k : Nat} (hk : k < 12) (h : (m &&& ((1 : Int32) <<< (nI k &&& 31))) = 0) (h2 : nd k &&& (m ^^^ -1) = 0) : rdy nd m k = true := by
  rw [tb_and m (by omega)] at h
  unfold rdy
  rw [h, decide_eq_true h2]
  rfl
theorem rdy_f3 {nd : Nat → Int32} {m : Int32} {k : Nat} (hk : k < 12) (h : ((m >>> (nI k &&& 31)) &&& 1) = 1) : rdy nd m k = false := by
  rw [tb_shr m (by omega)] at h
  unfold rdy
  rw [h]
  rfl
theorem rdy_t3 {nd : Nat → Int32} {m : Int32} {k : Nat} (hk : k < 12) (h : ¬ ((m >>> (nI k &&& 31)) &&& 1) = 1) (h2 : nd k &&& (m ^^^ -1) = 0) : rdy nd m k = true := by
  rw [tb_shr m (by omega)] at h
  unfold rdy
  rw [decide_eq_true h2]
  cases hb : tb m k
  · rfl
  · exact absurd hb h
theorem lowF_1 {f : Nat → Bool} {n k : Nat} (h : f k = true) : lowF f (n + 1) k = k := if_pos h
theorem lowF_0 {f : Nat → Bool} {n k : Nat} (h : f k = false) : lowF f (n + 1) k = lowF f n (k + 1) := if_neg (by rw [h]; decide)
theorem nI12 {k : Nat} (hk : k ≤ 12) (h : (12 : Int32) ≤ nI k) : k = 12 := by
  rw [show (12 : Int32) = nI 12 from rfl, nI_leI (by decide) (by omega)] at h
  omega
def T_lowest : PT := fun as M Q X => ∃ m : Int32, as = [.ref 0, .int m] ∧ Full M ∧ Q (some (.int (nI (lowF (rdy (mI M 4) m) 12 0)))) M
theorem c_X5_lowestReady {l : Launch} (hl : l.stackTraces = false) : Con l yX5_lowestReady wX5_lowestReady 0 1 (T_lowest) := by
  refine con_of hl (by decide) ?_ ?_
  · intro as M Q X hpt
    obtain ⟨m, rfl, hF, hQ⟩ := hpt
    exact Nat.le_of_ble_eq_true rfl
  intro G as M Q X hl' hT hd hpt
  obtain ⟨m, rfl, hF, hQ⟩ := hpt
  have hG : (gl G).stackTraces = false := by rw [hl']; exact hl
  show PW G RX5 cX5_lowestReady 3 (some .int) Q X 0 0 [(0, .ref 0), (1, .int m)] [] M
  have loop : ∀ (n k : Nat), k + n = 12 → Q (some (.int (nI (lowF (rdy (mI M 4) m) n k)))) M → PW G RX5 cX5_lowestReady 3 (some .int) Q X 0 2 [(0, .ref 0), (1, .int m), (2, .int (nI k))] [] M := by
    intro n
    induction n with
    | zero =>
      intro k hk hq
      refine w_iload_n (pc := 2) dX5_lowestReady_2 rfl ?_
      refine w_bipush (v := 12) (pc := 3) dX5_lowestReady_3 rfl ?_
      refine w_icmp_ge 37 (pc := 5) dX5_lowestReady_5 (by decide) (fun h5 => ?_) (fun h5 => ?_)
      · refine w_bipush (v := 12) (pc := 37) dX5_lowestReady_37 rfl ?_
        refine w_ireturn (pc := 39) dX5_lowestReady_39 rfl ?_
        rw [show k = 12 by omega] at hq
        exact hq
      · exact absurd (by rw [show k = 12 by omega]; decide) h5
    | succ n ih =>
      intro k hk hq
      refine w_iload_n (pc := 2) dX5_lowestReady_2 rfl ?_
      refine w_bipush (v := 12) (pc := 3) dX5_lowestReady_3 rfl ?_
      refine w_icmp_ge 37 (pc := 5) dX5_lowestReady_5 (by decide) (fun h5 => ?_) (fun h5 => ?_)
      · exact absurd (nI12 (by omega) h5) (by omega)
      · refine w_iload_n (pc := 8) dX5_lowestReady_8 rfl ?_
        refine w_iconst (v := 1) (pc := 9) dX5_lowestReady_9 rfl ?_
        refine w_iload_n (pc := 10) dX5_lowestReady_10 rfl ?_
        refine w_ishl (pc := 11) dX5_lowestReady_11 ?_
        refine w_iand (pc := 12) dX5_lowestReady_12 ?_
        refine w_if_ne 31 (pc := 13) dX5_lowestReady_13 (by decide) (fun h13 => ?_) (fun h13 => ?_)
        · refine w_iinc (v := nI (k + 1)) (pc := 31) dX5_lowestReady_31 rfl (nI_1 k) (by decide) ?_
          refine w_goto 2 (pc := 34) dX5_lowestReady_34 (by decide) ?_
          exact w_lk (ih (k + 1) (by omega) (by rw [lowF_0 (by first | exact rdy_f1 (by omega) h13 | exact rdy_f2 h26)] at hq; exact hq)) (lkc rfl (lkc rfl (lkc rfl lkn)))
        · refine w_aload_n (pc := 16) dX5_lowestReady_16 rfl ?_
          refine w_getR (b := 4) (pc := 17) fl_X5_20 hF (by first | assumption | exact ob rfl) rfl rfl dX5_lowestReady_17 ?_
          refine w_iload_n (pc := 20) dX5_lowestReady_20 rfl ?_
          refine w_iald (m := 12) (pc := 21) hF (by first | assumption | exact ar rfl) (vin (by omega) (by decide)) dX5_lowestReady_21 ?_
          refine w_iload_n (pc := 22) dX5_lowestReady_22 rfl ?_
          refine w_iconst (v := -1) (pc := 23) dX5_lowestReady_23 rfl ?_
          refine w_ixor (pc := 24) dX5_lowestReady_24 ?_
          refine w_iand (pc := 25) dX5_lowestReady_25 ?_
          refine w_if_ne 31 (pc := 26) dX5_lowestReady_26 (by decide) (fun h26 => ?_) (fun h26 => ?_)
          · rw [clN (by omega)] at h26
            refine w_iinc (v := nI (k + 1)) (pc := 31) dX5_lowestReady_31 rfl (nI_1 k) (by decide) ?_
            refine w_goto 2 (pc := 34) dX5_lowestReady_34 (by decide) ?_
            exact w_lk (ih (k + 1) (by omega) (by rw [lowF_0 (by first | exact rdy_f1 (by omega) h13 | exact rdy_f2 h26)] at hq; exact hq)) (lkc rfl (lkc rfl (lkc rfl lkn)))
          · rw [clN (by omega)] at h26
            refine w_iload_n (pc := 29) dX5_lowestReady_29 rfl ?_
            refine w_ireturn (pc := 30) dX5_lowestReady_30 rfl ?_
            rw [lowF_1 (rdy_t (by omega) h13 h26)] at hq
            exact hq
  refine w_iconst (v := 0) (pc := 0) dX5_lowestReady_0 rfl ?_
  refine w_istore_n 2 (pc := 1) rfl dX5_lowestReady_1 (by decide) ?_
  exact w_lk (loop 12 0 rfl hQ) (lkc rfl (lkc rfl (lkc rfl lkn)))
def T_arrange : PT := fun as M Q X => as = [.ref 0] ∧ Full M ∧ Q (some (.int (nI (ordL (mI M 4) 12 0).length))) (rI M 21 (rowA 0 (ordL (mI M 4) 12 0) (mI M 21)))
theorem c_X5_arrangeLines {l : Launch} (hl : l.stackTraces = false) : Con l yX5_arrangeLines wX5_arrangeLines 0 2 (T_arrange) := by
  refine con_of hl (by decide) ?_ ?_
  · intro as M Q X hpt
    obtain ⟨rfl, hF, hQ⟩ := hpt
    exact Nat.le_of_ble_eq_true rfl
  intro G as M Q X hl' hT hd hpt
  obtain ⟨rfl, hF, hQ⟩ := hpt
  have hG : (gl G).stackTraces = false := by rw [hl']; exact hl
  show PW G RX5 cX5_arrangeLines 4 (some .int) Q X 0 0 [(0, .ref 0)] [] M
  have loop : ∀ (n p : Nat) (m : Int32) (row : Nat → Int32), p + n = 12 → Q (some (.int (nI (p + (ordL (mI M 4) n m).length)))) (rI M 21 (rowA p (ordL (mI M 4) n m) row)) → PW G RX5 cX5_arrangeLines 4 (some .int) Q X 0 4 [(0, .ref 0), (1, .int m), (2, .int (nI p))] [] (rI M 21 row) := by
    intro n
    induction n with
    | zero =>
      intro p m row hp hq
      refine w_iload_n (pc := 4) dX5_arrangeLines_4 rfl ?_
      refine w_bipush (v := 12) (pc := 5) dX5_arrangeLines_5 rfl ?_
      refine w_icmp_ge 43 (pc := 7) dX5_arrangeLines_7 (by decide) (fun h7 => ?_) (fun h7 => ?_)
      · refine w_bipush (v := 12) (pc := 43) dX5_arrangeLines_43 rfl ?_
        refine w_ireturn (pc := 45) dX5_arrangeLines_45 rfl ?_
        rw [show p = 12 by omega] at hq
        exact hq
      · exact absurd (by rw [show p = 12 by omega]; decide) h7
    | succ n ih =>
      intro p m row hp hq
      refine w_iload_n (pc := 4) dX5_arrangeLines_4 rfl ?_
      refine w_bipush (v := 12) (pc := 5) dX5_arrangeLines_5 rfl ?_
      refine w_icmp_ge 43 (pc := 7) dX5_arrangeLines_7 (by decide) (fun h7 => ?_) (fun h7 => ?_)
      · exact absurd (nI12 (by omega) h7) (by omega)
      · refine w_aload_n (pc := 10) dX5_arrangeLines_10 rfl ?_
        refine w_iload_n (pc := 11) dX5_arrangeLines_11 rfl ?_
        refine w_callV1 (n' := 0) (pc := 12) (c_X5_lowestReady hG) cv_X5_244 (by first | assumption | exact ob rfl) hF hT (by omega) (by decide) (Nat.le_of_ble_eq_true rfl) dX5_arrangeLines_12 ?_
        refine ⟨_, rfl, hF, ?_⟩
        dsimp only [psh]
        refine w_istore_n 3 (pc := 15) rfl dX5_arrangeLines_15 (by decide) ?_
        refine w_iload_n (pc := 16) dX5_arrangeLines_16 rfl ?_
        refine w_bipush (v := 12) (pc := 17) dX5_arrangeLines_17 rfl ?_
        refine w_icmp_ne 24 (pc := 19) dX5_arrangeLines_19 (by decide) (fun h19 => ?_) (fun h19 => ?_)
        · have hk : ¬ lowF (rdy (mI M 4) m) 12 0 = 12 := fun q => h19 (by show nI (lowF (rdy (mI M 4) m) 12 0) = 12; rw [q]; rfl)
          have hs := ord_step hk
          refine w_aload_n (pc := 24) dX5_arrangeLines_24 rfl ?_
          refine w_getR (b := 21) (pc := 25) fl_X5_43 hF (by first | assumption | exact ob rfl) rfl rfl dX5_arrangeLines_25 ?_
          refine w_iload_n (pc := 28) dX5_arrangeLines_28 rfl ?_
          refine w_iload_n (pc := 29) dX5_arrangeLines_29 rfl ?_
          refine w_iast (m := 12) (pc := 30) hF (by first | assumption | exact ar rfl) (vin (by omega) (by decide)) dX5_arrangeLines_30 ?_
          refine w_iload_n (pc := 31) dX5_arrangeLines_31 rfl ?_
          refine w_iconst (v := 1) (pc := 32) dX5_arrangeLines_32 rfl ?_
          refine w_iload_n (pc := 33) dX5_arrangeLines_33 rfl ?_
          refine w_ishl (pc := 34) dX5_arrangeLines_34 ?_
          refine w_ior (pc := 35) dX5_arrangeLines_35 ?_
          refine w_istore_n 1 (pc := 36) rfl dX5_arrangeLines_36 (by decide) ?_
          refine w_iinc (v := nI (p + 1)) (pc := 37) dX5_arrangeLines_37 rfl (nI_1 p) (by decide) ?_
          refine w_goto 4 (pc := 40) dX5_arrangeLines_40 (by decide) ?_
          rw [clN (by omega), sI_rI]
          rw [ordL_succ, if_neg hk] at hq
          exact w_lk (ih (p + 1) _ _ (by omega) (by have ee : ∀ x : Nat, p + (x + 1) = p + 1 + x := fun x => (by omega); rw [List.length_cons, ee] at hq; exact hq)) (lkc rfl (lkc rfl (lkc rfl lkn)))
        · have hk : lowF (rdy (mI M 4) m) 12 0 = 12 := by have h9 : nI (lowF (rdy (mI M 4) m) 12 0) = nI 12 := h19; rw [nI_eq (by have := lowF_le (rdy (mI M 4) m) 12 0; omega) (by decide)] at h9; exact h9
          refine w_iload_n (pc := 22) dX5_arrangeLines_22 rfl ?_
          refine w_ireturn (pc := 23) dX5_arrangeLines_23 rfl ?_
          rw [ordL_succ, if_pos hk] at hq
          exact hq
  refine w_iconst (v := 0) (pc := 0) dX5_arrangeLines_0 rfl ?_
  refine w_istore_n 1 (pc := 1) rfl dX5_arrangeLines_1 (by decide) ?_
  refine w_iconst (v := 0) (pc := 2) dX5_arrangeLines_2 rfl ?_
  refine w_istore_n 2 (pc := 3) rfl dX5_arrangeLines_3 (by decide) ?_
  have h0 := loop 12 0 0 (mI M 21) rfl (by rw [Nat.zero_add]; exact hQ)
  rw [rI_self] at h0
  exact w_lk h0 (lkc rfl (lkc rfl (lkc rfl lkn)))
/-- the class's order, and the memory behind its making -/
def ordC (M : Mem) : List Nat := ordL (mI M 4) 12 0
def arrM (M : Mem) : Mem := rI M 21 (rowA 0 (ordC M) (mI M 21))
def T_order : PT := fun as M Q X => ∃ x : Int32, as = [.ref 0, .int x] ∧ Full M ∧ (¬ ix x 12 → X "java/lang/IllegalArgumentException" M) ∧ (∀ i, i < 12 → x = nI i → ((ordC M).length ≤ i → X "java/lang/IllegalStateException" (arrM M)) ∧ (i < (ordC M).length → Q (some (.int (nI ((ordC M).getD i 0)))) (arrM M)))
theorem c_X5_order {l : Launch} (hl : l.stackTraces = false) : Con l yX5_order wX5_order 1 10 (T_order) := by
  refine con_of hl (by decide) ?_ ?_
  · intro as M Q X hpt
    obtain ⟨x, rfl, hF, hX, hQ0⟩ := hpt
    exact Nat.le_of_ble_eq_true rfl
  intro G as M Q X hl' hT hd hpt
  obtain ⟨x, rfl, hF, hX, hQ0⟩ := hpt
  have hG : (gl G).stackTraces = false := by rw [hl']; exact hl
  show PW G RX5 cX5_order 2 (some .int) Q X 1 0 [(0, .ref 0), (1, .int x)] [] M
  refine w_iload_n (pc := 0) dX5_order_0 rfl ?_
  refine w_if_lt 10 (pc := 1) dX5_order_1 (by decide) (fun h1 => ?_) (fun h1 => ?_)
  · refine w_throw (pc := 10) (ik := 89) (is := 143) (ic := 93) (cls := "java/lang/IllegalArgumentException") (ix := 7) (text := "no such place") (List.mem_of_getElem? (i := 1) rfl) (List.mem_of_getElem? (i := 6) rfl) hT (by omega) (by decide) (Nat.le_of_ble_eq_true rfl) dX5_order_10 dX5_order_13 dX5_order_14 dX5_order_16 dX5_order_19 ?_
    exact hX (ix_no (N := 12) rfl (by decide) (by first | exact Or.inl h1 | exact Or.inr h7))
  · refine w_iload_n (pc := 4) dX5_order_4 rfl ?_
    refine w_bipush (v := 12) (pc := 5) dX5_order_5 rfl ?_
    refine w_icmp_lt 20 (pc := 7) dX5_order_7 (by decide) (fun h7 => ?_) (fun h7 => ?_)
    · obtain ⟨i, hi, rfl⟩ := lt_nat 12 rfl (by decide) h1 h7
      obtain ⟨hX2, hQ⟩ := hQ0 i hi rfl
      have hlen := ordL_len (mI M 4) 12 0
      refine w_iload_n (pc := 20) dX5_order_20 rfl ?_
      refine w_aload_n (pc := 21) dX5_order_21 rfl ?_
      refine w_callV0 (n' := 1) (pc := 22) (c_X5_arrangeLines hG) cv_X5_145 (by first | assumption | exact ob rfl) hF hT (by omega) (by decide) (Nat.le_of_ble_eq_true rfl) dX5_order_22 ?_
      refine ⟨rfl, hF, ?_⟩
      dsimp only [psh]
      refine w_icmp_lt 38 (pc := 25) dX5_order_25 (by decide) (fun h25 => ?_) (fun h25 => ?_)
      · have h9 : i < (ordC M).length := by rw [nI_ltI (by omega) (by omega)] at h25; exact h25
        refine w_aload_n (pc := 38) dX5_order_38 rfl ?_
        refine w_getR (b := 21) (pc := 39) fl_X5_43 hF (by first | assumption | exact ob rfl) rfl rfl dX5_order_39 ?_
        refine w_iload_n (pc := 42) dX5_order_42 rfl ?_
        refine w_iald (m := 12) (pc := 43) hF (by first | assumption | exact ar rfl) (vin hi (by decide)) dX5_order_43 ?_
        refine w_ireturn (pc := 44) dX5_order_44 rfl ?_
        have e2 : mI (arrM M) 21 (nI i).toNatClampNeg = nI ((ordC M).getD i 0) := by rw [clN (by omega)]; have h8 := rowA_in (ordC M) 0 (mI M 21) i h9; rw [Nat.zero_add] at h8; exact h8
        have h7q := hQ h9
        rw [← e2] at h7q
        exact h7q
      · have h9 : (ordC M).length ≤ i := by rw [nI_ltI (by omega) (by omega)] at h25; exact Nat.not_lt.mp h25
        refine w_throw (pc := 28) (ik := 127) (is := 149) (ic := 131) (cls := "java/lang/IllegalStateException") (ix := 7) (text := "the order does not go so far") (List.mem_of_getElem? (i := 2) rfl) (List.mem_of_getElem? (i := 7) rfl) hT (by omega) (by decide) (Nat.le_of_ble_eq_true rfl) dX5_order_28 dX5_order_31 dX5_order_32 dX5_order_34 dX5_order_37 ?_
        exact hX2 h9
    · refine w_throw (pc := 10) (ik := 89) (is := 143) (ic := 93) (cls := "java/lang/IllegalArgumentException") (ix := 7) (text := "no such place") (List.mem_of_getElem? (i := 1) rfl) (List.mem_of_getElem? (i := 6) rfl) hT (by omega) (by decide) (Nat.le_of_ble_eq_true rfl) dX5_order_10 dX5_order_13 dX5_order_14 dX5_order_16 dX5_order_19 ?_
      exact hX (ix_no (N := 12) rfl (by decide) (by first | exact Or.inl h1 | exact Or.inr h7))
/-- what a line needs, for the reference: nothing if it has no formula -/
def ndM (M : Mem) (k : Nat) : Int32 := if mI M 98 k = 0 then 0 else mI M 99 k
theorem ndM_0 {M : Mem} {k : Nat} (h : mI M 98 k = 0) (x : Int32) : ndM M k &&& x = 0 := by unfold ndM; rw [if_pos h]; exact Int32.zero_and
theorem ndM_1 {M : Mem} {k : Nat} (h : ¬ mI M 98 k = 0) : ndM M k = mI M 99 k := if_neg h
def T_makeOrder : PT := fun as M Q X => as = [.ref 96] ∧ Full M ∧ Q (some (.int (nI (ordL (ndM M) 12 0).length))) (rI M 119 (rowA 0 (ordL (ndM M) 12 0) (mI M 119)))
theorem c_X6_makeOrder {l : Launch} (hl : l.stackTraces = false) : Con l yX6_makeOrder wX6_makeOrder 0 1 (T_makeOrder) := by
  refine con_of hl (by decide) ?_ ?_
  · intro as M Q X hpt
    obtain ⟨rfl, hF, hQ⟩ := hpt
    exact Nat.le_of_ble_eq_true rfl
  intro G as M Q X hl' hT hd hpt
  obtain ⟨rfl, hF, hQ⟩ := hpt
  have hG : (gl G).stackTraces = false := by rw [hl']; exact hl
  show PW G RX6 cX6_makeOrder 4 (some .int) Q X 0 0 [(0, .ref 96)] [] M
  have inner : ∀ (n k : Nat) (m : Int32) (p : Nat) (row : Nat → Int32), k + n = 12 → PW G RX6 cX6_makeOrder 4 (some .int) Q X 0 57 [(0, .ref 96), (1, .int m), (2, .int (nI p)), (3, .int (nI (lowF (rdy (ndM M) m) n k)))] [] (rI M 119 row) → PW G RX6 cX6_makeOrder 4 (some .int) Q X 0 14 [(0, .ref 96), (1, .int m), (2, .int (nI p)), (3, .int (nI k))] [] (rI M 119 row) := by
    intro n
    induction n with
    | zero =>
      intro k m p row hk hq
      refine w_iload_n (pc := 14) dX6_makeOrder_14 rfl ?_
      refine w_bipush (v := 12) (pc := 15) dX6_makeOrder_15 rfl ?_
      refine w_icmp_ge 57 (pc := 17) dX6_makeOrder_17 (by decide) (fun h17 => ?_) (fun h17 => ?_)
      · exact w_lk hq (lkc rfl (lkc rfl (lkc rfl (lkc rfl lkn))))
      · exact absurd (by rw [show k = 12 by omega]; decide) h17
    | succ n ih =>
      intro k m p row hk hq
      refine w_iload_n (pc := 14) dX6_makeOrder_14 rfl ?_
      refine w_bipush (v := 12) (pc := 15) dX6_makeOrder_15 rfl ?_
      refine w_icmp_ge 57 (pc := 17) dX6_makeOrder_17 (by decide) (fun h17 => ?_) (fun h17 => ?_)
      · exact absurd (nI12 (by omega) h17) (by omega)
      · refine w_iload_n (pc := 20) dX6_makeOrder_20 rfl ?_
        refine w_iload_n (pc := 21) dX6_makeOrder_21 rfl ?_
        refine w_ishr (pc := 22) dX6_makeOrder_22 ?_
        refine w_iconst (v := 1) (pc := 23) dX6_makeOrder_23 rfl ?_
        refine w_iand (pc := 24) dX6_makeOrder_24 ?_
        refine w_iconst (v := 1) (pc := 25) dX6_makeOrder_25 rfl ?_
        refine w_icmp_eq 51 (pc := 26) dX6_makeOrder_26 (by decide) (fun h26 => ?_) (fun h26 => ?_)
        · refine w_iinc (v := nI (k + 1)) (pc := 51) dX6_makeOrder_51 rfl (nI_1 k) (by decide) ?_
          refine w_goto 14 (pc := 54) dX6_makeOrder_54 (by decide) ?_
          exact w_lk (ih (k + 1) m p row (by omega) (by rw [lowF_0 (by first | exact rdy_f3 (by omega) h26 | exact rdy_f2 (by rw [ndM_1 (M := M) h35]; exact h48))] at hq; exact hq)) (lkc rfl (lkc rfl (lkc rfl (lkc rfl lkn))))
        · refine w_aload_n (pc := 29) dX6_makeOrder_29 rfl ?_
          refine w_getR (b := 98) (pc := 30) fl_X6_13 hF (by first | assumption | exact ob rfl) rfl rfl dX6_makeOrder_30 ?_
          refine w_iload_n (pc := 33) dX6_makeOrder_33 rfl ?_
          refine w_zald (m := 12) (pc := 34) hF (by first | assumption | exact ar rfl) (vin (by omega) (by decide)) dX6_makeOrder_34 ?_
          refine w_if_eq 57 (pc := 35) dX6_makeOrder_35 (by decide) (fun h35 => ?_) (fun h35 => ?_)
          · rw [clN (by omega)] at h35
            rw [lowF_1 (by first | exact rdy_t3 (by omega) h26 (ndM_0 (M := M) h35 _) | exact rdy_t3 (by omega) h26 (by rw [ndM_1 (M := M) h35]; exact h48))] at hq
            exact w_lk hq (lkc rfl (lkc rfl (lkc rfl (lkc rfl lkn))))
          · rw [clN (by omega)] at h35
            refine w_aload_n (pc := 38) dX6_makeOrder_38 rfl ?_
            refine w_getR (b := 99) (pc := 39) fl_X6_17 hF (by first | assumption | exact ob rfl) rfl rfl dX6_makeOrder_39 ?_
            refine w_iload_n (pc := 42) dX6_makeOrder_42 rfl ?_
            refine w_iald (m := 12) (pc := 43) hF (by first | assumption | exact ar rfl) (vin (by omega) (by decide)) dX6_makeOrder_43 ?_
            refine w_iload_n (pc := 44) dX6_makeOrder_44 rfl ?_
            refine w_iconst (v := -1) (pc := 45) dX6_makeOrder_45 rfl ?_
            refine w_ixor (pc := 46) dX6_makeOrder_46 ?_
            refine w_iand (pc := 47) dX6_makeOrder_47 ?_
            refine w_if_eq 57 (pc := 48) dX6_makeOrder_48 (by decide) (fun h48 => ?_) (fun h48 => ?_)
            · rw [clN (by omega)] at h48
              rw [lowF_1 (by first | exact rdy_t3 (by omega) h26 (ndM_0 (M := M) h35 _) | exact rdy_t3 (by omega) h26 (by rw [ndM_1 (M := M) h35]; exact h48))] at hq
              exact w_lk hq (lkc rfl (lkc rfl (lkc rfl (lkc rfl lkn))))
            · rw [clN (by omega)] at h48
              refine w_iinc (v := nI (k + 1)) (pc := 51) dX6_makeOrder_51 rfl (nI_1 k) (by decide) ?_
              refine w_goto 14 (pc := 54) dX6_makeOrder_54 (by decide) ?_
              exact w_lk (ih (k + 1) m p row (by omega) (by rw [lowF_0 (by first | exact rdy_f3 (by omega) h26 | exact rdy_f2 (by rw [ndM_1 (M := M) h35]; exact h48))] at hq; exact hq)) (lkc rfl (lkc rfl (lkc rfl (lkc rfl lkn))))
  have outer : ∀ (n p : Nat) (m : Int32) (row : Nat → Int32), c12 (tb m) = p → 12 < p + n → Q (some (.int (nI (p + (ordL (ndM M) n m).length)))) (rI M 119 (rowA p (ordL (ndM M) n m) row)) → PW G RX6 cX6_makeOrder 4 (some .int) Q X 0 12 [(0, .ref 96), (1, .int m), (2, .int (nI p))] [] (rI M 119 row) := by
    intro n
    induction n with
    | zero =>
      intro p m row hp hn hq
      have := c12_le (tb m)
      omega
    | succ n ih =>
      intro p m row hp hn hq
      refine w_iconst (v := 0) (pc := 12) dX6_makeOrder_12 rfl ?_
      refine w_istore_n 3 (pc := 13) rfl dX6_makeOrder_13 (by decide) ?_
      refine w_lk (inner 12 0 m p row rfl ?_) (lkc rfl (lkc rfl (lkc rfl (lkc rfl lkn))))
      refine w_iload_n (pc := 57) dX6_makeOrder_57 rfl ?_
      refine w_bipush (v := 12) (pc := 58) dX6_makeOrder_58 rfl ?_
      refine w_icmp_ge 6 (pc := 60) dX6_makeOrder_60 (by decide) (fun h60 => ?_) (fun h60 => ?_)
      · have hk : lowF (rdy (ndM M) m) 12 0 = 12 := nI12 (by have := lowF_le (rdy (ndM M) m) 12 0; omega) h60
        refine w_iload_n (pc := 6) dX6_makeOrder_6 rfl ?_
        refine w_bipush (v := 12) (pc := 7) dX6_makeOrder_7 rfl ?_
        refine w_icmp_ge 82 (pc := 9) dX6_makeOrder_9 (by decide) (fun h9 => ?_) (fun h9 => ?_)
        · refine w_iload_n (pc := 82) dX6_makeOrder_82 rfl ?_
          refine w_ireturn (pc := 83) dX6_makeOrder_83 rfl ?_
          rw [ordL_succ, if_pos hk] at hq
          exact hq
        · exact absurd h60 h9
      · have hk : ¬ lowF (rdy (ndM M) m) 12 0 = 12 := fun q => h60 (by rw [q]; decide)
        have hs := ord_step hk
        have hc := c12_le (tb (m ||| ((1 : Int32) <<< (nI (lowF (rdy (ndM M) m) 12 0) &&& 31))))
        have hl2 := ordL_len (ndM M) n (m ||| ((1 : Int32) <<< (nI (lowF (rdy (ndM M) m) 12 0) &&& 31)))
        refine w_aload_n (pc := 63) dX6_makeOrder_63 rfl ?_
        refine w_getR (b := 119) (pc := 64) fl_X6_82 hF (by first | assumption | exact ob rfl) rfl rfl dX6_makeOrder_64 ?_
        refine w_iload_n (pc := 67) dX6_makeOrder_67 rfl ?_
        refine w_iload_n (pc := 68) dX6_makeOrder_68 rfl ?_
        refine w_iast (m := 12) (pc := 69) hF (by first | assumption | exact ar rfl) (vin (by omega) (by decide)) dX6_makeOrder_69 ?_
        refine w_iinc (v := nI (p + 1)) (pc := 70) dX6_makeOrder_70 rfl (nI_1 p) (by decide) ?_
        refine w_iload_n (pc := 73) dX6_makeOrder_73 rfl ?_
        refine w_iconst (v := 1) (pc := 74) dX6_makeOrder_74 rfl ?_
        refine w_iload_n (pc := 75) dX6_makeOrder_75 rfl ?_
        refine w_ishl (pc := 76) dX6_makeOrder_76 ?_
        refine w_ior (pc := 77) dX6_makeOrder_77 ?_
        refine w_istore_n 1 (pc := 78) rfl dX6_makeOrder_78 (by decide) ?_
        refine w_goto 6 (pc := 79) dX6_makeOrder_79 (by decide) ?_
        refine w_iload_n (pc := 6) dX6_makeOrder_6 rfl ?_
        refine w_bipush (v := 12) (pc := 7) dX6_makeOrder_7 rfl ?_
        refine w_icmp_ge 82 (pc := 9) dX6_makeOrder_9 (by decide) (fun h9 => ?_) (fun h9 => ?_)
        · exact absurd (nI12 (by omega) h9) hk
        · rw [clN (by omega), sI_rI]
          rw [ordL_succ, if_neg hk] at hq
          exact w_lk (ih (p + 1) _ _ (by rw [hs.2, hp]) (by omega) (by have ee : ∀ x : Nat, p + (x + 1) = p + 1 + x := fun x => (by omega); rw [List.length_cons, ee] at hq; exact hq)) (lkc rfl (lkc rfl (lkc rfl lkn)))
  refine w_iconst (v := 0) (pc := 0) dX6_makeOrder_0 rfl ?_
  refine w_istore_n 1 (pc := 1) rfl dX6_makeOrder_1 (by decide) ?_
  refine w_iconst (v := 0) (pc := 2) dX6_makeOrder_2 rfl ?_
  refine w_istore_n 2 (pc := 3) rfl dX6_makeOrder_3 (by decide) ?_
  refine w_iconst (v := 0) (pc := 4) dX6_makeOrder_4 rfl ?_
  refine w_istore_n 3 (pc := 5) rfl dX6_makeOrder_5 (by decide) ?_
  refine w_iload_n (pc := 6) dX6_makeOrder_6 rfl ?_
  refine w_bipush (v := 12) (pc := 7) dX6_makeOrder_7 rfl ?_
  refine w_icmp_ge 82 (pc := 9) dX6_makeOrder_9 (by decide) (fun h9 => ?_) (fun h9 => ?_)
  · exact absurd h9 (by decide)
  · have h0 := outer 13 0 0 (mI M 119) c12_0 (by decide) (by rw [Nat.zero_add, ordL_stable (ndM M) 12 0 (by omega)]; exact hQ)
    rw [rI_self] at h0
    exact w_lk h0 (lkc rfl (lkc rfl (lkc rfl lkn)))
def ordM (M : Mem) : List Nat := ordL (ndM M) 12 0
def plM (M : Mem) : Mem := rI M 119 (rowA 0 (ordM M) (mI M 119))
def T_mOrder : PT := fun as M Q X => ∃ x : Int32, as = [.ref 96, .int x] ∧ Full M ∧ (¬ ix x 12 → Q (some (.int 0)) (thr M 1)) ∧ (∀ i, i < 12 → x = nI i → ((ordM M).length ≤ i → Q (some (.int 0)) (sI (plM (sI M 96 0 0)) 96 0 2)) ∧ (i < (ordM M).length → Q (some (.int (nI ((ordM M).getD i 0)))) (plM (sI M 96 0 0))))
theorem c_X6_order {l : Launch} (hl : l.stackTraces = false) : Con l yX6_order wX6_order 0 2 (T_mOrder) := by
  refine con_of hl (by decide) ?_ ?_
  · intro as M Q X hpt
    obtain ⟨x, rfl, hF, hX, hQ0⟩ := hpt
    exact Nat.le_of_ble_eq_true rfl
  intro G as M Q X hl' hT hd hpt
  obtain ⟨x, rfl, hF, hX, hQ0⟩ := hpt
  have hG : (gl G).stackTraces = false := by rw [hl']; exact hl
  show PW G RX6 cX6_order 2 (some .int) Q X 0 0 [(0, .ref 96), (1, .int x)] [] M
  refine w_aload_n (pc := 0) dX6_order_0 rfl ?_
  refine w_iconst (v := 0) (pc := 1) dX6_order_1 rfl ?_
  refine w_putI (pc := 2) fp_X6_91 hF (by first | assumption | exact ob rfl) rfl dX6_order_2 ?_
  refine w_iload_n (pc := 5) dX6_order_5 rfl ?_
  refine w_i2l (pc := 6) dX6_order_6 ?_
  refine w_lconst (v := 0) (pc := 7) dX6_order_7 rfl ?_
  refine w_ldc2 (pc := 8) kl_X6_161 dX6_order_8 ?_
  refine w_callS3 (n' := 0) (pc := 11) (c_X6_in hG) cs_X6_137 hT (by omega) (by decide) (Nat.le_of_ble_eq_true rfl) dX6_order_11 ?_
  refine ⟨_, _, _, rfl, ?_⟩
  dsimp only [psh]
  refine w_if_ne 23 (pc := 14) dX6_order_14 (by decide) (fun h14 => ?_) (fun h14 => ?_)
  · obtain ⟨i, hi, rfl⟩ := ix_in (n := 11) (N := 11) rfl (by decide) (in_t (lo := 0) (hi := 11) rfl rfl h14)
    obtain ⟨hX2, hQ⟩ := hQ0 i hi rfl
    have hlen := ordL_len (ndM M) 12 0
    refine w_iload_n (pc := 23) dX6_order_23 rfl ?_
    refine w_aload_n (pc := 24) dX6_order_24 rfl ?_
    refine w_callV0 (n' := 0) (pc := 25) (c_X6_makeOrder hG) cv_X6_177 (by first | assumption | exact ob rfl) hF hT (by omega) (by decide) (Nat.le_of_ble_eq_true rfl) dX6_order_25 ?_
    refine ⟨rfl, hF, ?_⟩
    dsimp only [psh]
    refine w_icmp_lt 39 (pc := 28) dX6_order_28 (by decide) (fun h28 => ?_) (fun h28 => ?_)
    · have hm : (ordM M).length ≤ 12 := by unfold ordM; omega
      have h9 : i < (ordM M).length := by have h8 : nI i < nI (ordM M).length := h28; rw [nI_ltI (by omega) (by omega)] at h8; exact h8
      refine w_aload_n (pc := 39) dX6_order_39 rfl ?_
      refine w_getR (b := 119) (pc := 40) fl_X6_82 hF (by first | assumption | exact ob rfl) rfl rfl dX6_order_40 ?_
      refine w_iload_n (pc := 43) dX6_order_43 rfl ?_
      refine w_iald (m := 12) (pc := 44) hF (by first | assumption | exact ar rfl) (vin hi (by decide)) dX6_order_44 ?_
      refine w_ireturn (pc := 45) dX6_order_45 rfl ?_
      first | exact hX2 h9 | (have e2 : mI (plM (sI M 96 0 0)) 119 (nI i).toNatClampNeg = nI ((ordM M).getD i 0) := (by rw [clN (by omega)]; have h8 := rowA_in (ordM M) 0 (mI M 119) i h9; rw [Nat.zero_add] at h8; exact h8); have h7q := hQ h9; rw [← e2] at h7q; exact h7q)
    · have hm : (ordM M).length ≤ 12 := by unfold ordM; omega
      have h9 : (ordM M).length ≤ i := by have h8 : ¬ nI i < nI (ordM M).length := h28; rw [nI_ltI (by omega) (by omega)] at h8; exact Nat.not_lt.mp h8
      refine w_aload_n (pc := 31) dX6_order_31 rfl ?_
      refine w_iconst (v := 2) (pc := 32) dX6_order_32 rfl ?_
      refine w_callV1 (n' := 0) (pc := 33) (c_X6_refuse hG) cv_X6_163 (by first | assumption | exact ob rfl) hF hT (by omega) (by decide) (Nat.le_of_ble_eq_true rfl) dX6_order_33 ?_
      refine ⟨_, rfl, hF, ?_⟩
      dsimp only [psh]
      refine w_goto 45 (pc := 36) dX6_order_36 (by decide) ?_
      refine w_ireturn (pc := 45) dX6_order_45 rfl ?_
      first | exact hX2 h9 | (have e2 : mI (plM (sI M 96 0 0)) 119 (nI i).toNatClampNeg = nI ((ordM M).getD i 0) := (by rw [clN (by omega)]; have h8 := rowA_in (ordM M) 0 (mI M 119) i h9; rw [Nat.zero_add] at h8; exact h8); have h7q := hQ h9; rw [← e2] at h7q; exact h7q)
  · have hx14 := ix_out (n := 11) (N := 11) rfl (by decide) (in_f (lo := 0) (hi := 11) rfl rfl h14)
    refine w_aload_n (pc := 17) dX6_order_17 rfl ?_
    refine w_iconst (v := 1) (pc := 18) dX6_order_18 rfl ?_
    refine w_callV1 (n' := 0) (pc := 19) (c_X6_refuse hG) cv_X6_163 (by first | assumption | exact ob rfl) hF hT (by omega) (by decide) (Nat.le_of_ble_eq_true rfl) dX6_order_19 ?_
    refine ⟨_, rfl, hF, ?_⟩
    dsimp only [psh]
    refine w_ireturn (pc := 22) dX6_order_22 rfl ?_
    exact hX hx14
