/-! ASSESSMENTS: both sides *-/
theorem rdy_nd {nd : Nat → Int32} {m : Int32} {l : Nat} (h : rdy nd m l = true) {i : Nat} (hi : i < 12) (ht : tb (nd l) i = true) : tb m i = true := by
  unfold rdy at h
  rw [Bool.and_eq_true, decide_eq_true_eq] at h
  have h2 := congrArg (fun z : Int32 => z.toBitVec.getLsbD i) h.2
  simp only [Int32.toBitVec_and, Int32.toBitVec_xor, BitVec.getLsbD_and, BitVec.getLsbD_xor] at h2
  have e1 : (-1 : Int32).toBitVec.getLsbD i = true := by
    rw [show (-1 : Int32).toBitVec = BitVec.allOnes 32 from by decide +kernel, BitVec.getLsbD_allOnes]
    exact decide_eq_true (by omega)
  have e2 : (0 : Int32).toBitVec.getLsbD i = false := by
    rw [show (0 : Int32).toBitVec = 0#32 from rfl]
    simp
  unfold tb at ht ⊢
  rw [ht, e1, e2] at h2
  cases hb : m.toBitVec.getLsbD i with
  | true => rfl
  | false => rw [hb] at h2; exact absurd h2 (by decide)
theorem brkEM_cg {sz : Nat} {b b' : Nat → Int32} {v : Int64} {j : Nat} (h : ∀ j, j < sz → b j = b' j) (hj : j < sz) : brkEM sz b v j = brkEM sz b' v j := by
  unfold brkEM
  by_cases q : j + 1 = sz
  · rw [if_pos q, if_pos q]
  · rw [if_neg q, if_neg q, h (j + 1) (by omega)]
theorem brkSM_cg {sz : Nat} {b b' r r' : Nat → Int32} {v : Int64} (h : ∀ j, j < sz → b j = b' j ∧ r j = r' j) : ∀ j, j ≤ sz → brkSM sz b r v j = brkSM sz b' r' v j
  | 0, _ => rfl
  | j + 1, hj => by
    rw [brkSM, brkSM, brkSM_cg h j (by omega), brkEM_cg (fun j hj => (h j hj).1) (show j < sz by omega), (h j (by omega)).1, (h j (by omega)).2]
/-- a number that was filed is within range *-/
theorem in_fil {v : Int32} (h1 : ¬ v < -1000000000) (h2 : ¬ 1000000000 < v) : inR v.toInt64 = true := by
  rw [Int32.lt_iff_toInt_lt] at h1 h2
  have w1 : (-1000000000 : Int32).toInt = -1000000000 := by decide
  have w2 : (1000000000 : Int32).toInt = 1000000000 := by decide
  have e1 : (-1000000000000 : Int64).toInt = -1000000000000 := by decide
  have e2 : (1000000000000 : Int64).toInt = 1000000000000 := by decide
  rw [w1] at h1
  rw [w2] at h2
  unfold inR
  rw [Bool.and_eq_true, decide_eq_true_eq, decide_eq_true_eq, Int64.lt_iff_toInt_lt, Int64.lt_iff_toInt_lt, e1, e2, Int32.toInt_toInt64]
  omega
theorem in_0 : inR 0 = true := by decide
/-- the values of the year before *-/
theorem bef_eq {M : Mem} (hR : IR M) (hN : IN M) {i j : Nat} (hi : i < 3) (hj : j < 4) {N : Mem} (h1 : mI N 108 = mI M 108) (h2 : mJ N 109 = mJ M 109) : ∀ k, k < 12 → mJ M (bA i j) k = befV N (4 * i + j) k ∧ inR (mJ M (bA i j) k) = true := by
  intro k hk
  unfold bA befV
  rw [h1, h2]
  by_cases hz : j = 0
  · rw [if_pos hz, if_pos (by omega), hN k hk]
    exact ⟨rfl, in_0⟩
  · rw [if_neg hz, if_neg (by omega)]
    obtain ⟨-, r2⟩ := hR (4 * i + (j - 1)) (by omega)
    rw [show 4 * i + j - 1 = 4 * i + (j - 1) by omega]
    rcases r2 with ⟨w1, w2, w3, w4⟩ | ⟨w1, w2, w3, w4⟩
    · rw [if_pos w2, w4 k hk]
      exact ⟨rfl, in_0⟩
    · rw [if_neg (by rw [w2]; decide)]
      exact w4 k hk
theorem tabs_eq {M : Mem} (hT : IT M) {N C : Mem} (h1 : ∀ a, 103 ≤ a → a ≤ 106 → mI N a = mI M a) (h2 : ∀ a, 12 ≤ a → a < 21 → mI C a = mI M a) : ∀ t, t < 3 → ∀ v, inR v = true → tabC C t v = tabR N t v ∧ inR (tabC C t v) = true := by
  intro t ht v hv
  obtain ⟨k, o, t1, t2, t3, t4, t5, t6, t7, t8⟩ := hT t ht
  unfold tabC tabR tabM
  rw [h2 (12 + 3 * t) (by omega) (by omega), h2 (12 + 3 * t + 1) (by omega) (by omega), h2 (12 + 3 * t + 2) (by omega) (by omega), h1 103 (by omega) (by omega), h1 104 (by omega) (by omega), h1 105 (by omega) (by omega), h1 106 (by omega) (by omega), t3, t4, t5, t6, clN (by omega)]
  rw [← brkSM_cg (b := mI M (12 + 3 * t + 1)) (r := mI M (12 + 3 * t + 2)) t8 k (Nat.le_refl _)]
  exact tab_ok t7 t2 hv
/-- the lines one by one: what the class works out is what the reference works out *-/
theorem as_loop {M N : Mem} (hL : IL M) (hT : IT M) (hR : IR M) (hN : IN M) {i j : Nat} (hi : i < 3) (hj : j < 4) (h1 : ∀ a, 98 ≤ a → a ≤ 108 → mI N a = mI M a) (h2 : mJ N 109 = mJ M 109) (h3 : ∀ k, k < 12 → plc N k = lnC (arrM M) k) :
    ∀ (n k : Nat) (m : Int32) (w wk sk : Nat → Int64) (d : Int32), n + k = 12 → (ordL (mI M 4) n m).length = n → (∀ z, z < n → lnC (arrM M) (k + z) = (ordL (mI M 4) n m).getD z 0) → c12 (tb m) = k → (∀ l, l < 12 → tb m l = true → w l = wk l ∧ inR (w l) = true) →
      ∃ r, asL N (4 * i + j) n k d sk wk = some r ∧ r.1 = (wkC (arrM M) (bA i j) (48 + 3 * (4 * i + j)) n k w).2 ∧ (r.1 = true → ∀ l, l < 12 → (wkC (arrM M) (bA i j) (48 + 3 * (4 * i + j)) n k w).1 l = r.2.2.2 l ∧ inR (r.2.2.2 l) = true)
  | 0, k, m, w, wk, sk, d, hnk, hlen, hd, hc, hag => by
    refine ⟨_, rfl, rfl, fun _ l hl => ?_⟩
    have := hag l hl (c12_full (by rw [hc]; omega) l hl)
    exact ⟨this.1, by show inR (wk l) = true; rw [← this.1]; exact this.2⟩
  | n + 1, k, m, w, wk, sk, d, hnk, hlen, hd, hc, hag => by
    have hne : ¬ lowF (rdy (mI M 4) m) 12 0 = 12 := fun q => by
      rw [ordL_succ, if_pos q] at hlen
      exact absurd hlen (by simp)
    have hrdy := lowF_t (rdy (mI M 4) m) 12 0 (by have := lowF_le (rdy (mI M 4) m) 12 0; omega)
    obtain ⟨hl12, hcs⟩ := ord_step hne
    rw [ordL_succ, if_neg hne] at hlen hd
    generalize lowF (rdy (mI M 4) m) 12 0 = l at hne hrdy hl12 hcs hlen hd
    have hlen' : (ordL (mI M 4) n (m ||| ((1 : Int32) <<< (nI l &&& 31)))).length = n := by
      rw [List.length_cons] at hlen
      omega
    have hk0 : lnC (arrM M) k = l := by
      have := hd 0 (by omega)
      simpa using this
    have hk1 : plc N k = l := by rw [h3 k (by omega), hk0]
    have hd' : ∀ z, z < n → lnC (arrM M) (k + 1 + z) = (ordL (mI M 4) n (m ||| ((1 : Int32) <<< (nI l &&& 31)))).getD z 0 := fun z hz => by
      have := hd (z + 1) (by omega)
      rw [show k + 1 + z = k + (z + 1) by omega, this]
      simp
    have hag' : ∀ v : Int64, inR v = true → ∀ x, x < 12 → tb (m ||| ((1 : Int32) <<< (nI l &&& 31))) x = true → va_up w l v x = va_up wk l v x ∧ inR (va_up w l v x) = true := by
      intro v hv x hx hxt
      by_cases hxl : x = l
      · subst hxl
        rw [va_up_self, va_up_self]
        exact ⟨rfl, hv⟩
      · rw [va_up_ne _ _ hxl, va_up_ne _ _ hxl]
        rw [tb_or m (by omega) (by omega), decide_eq_false hxl, Bool.or_false] at hxt
        exact hag x hx hxt
    have ih := fun (v : Int64) (hv : inR v = true) (sk' : Nat → Int64) (d' : Int32) => as_loop hL hT hR hN hi hj h1 h2 h3 n (k + 1) _ (va_up w l v) (va_up wk l v) sk' d' (by omega) hlen' hd' (by rw [hcs, hc]) (hag' v hv)
    have hfo := (fo_eq hL l hl12).2
    have hhf : hasF (arrM M) l = hasF M l := by
      unfold hasF arrM
      simp (disch := omega) only [mI_row, mI_k, mI_s, mI_J, mI_D, mI_F, mI_rJ, mI_rn, mI_rs, mJ_row, mJ_k, mJ_s, mJ_I, mJ_D, mJ_F, mJ_rI, mJ_rn, mJ_rs, c7_I, c7_J]
    rw [wkC, asL, hk0, hk1, hhf, h1 98 (by omega) (by omega), hfo]
    cases hh : hasF M l with
    | false =>
      rw [if_pos (show bi false = 0 from rfl), if_neg (show ¬ false = true by decide), h1 107 (by omega) (by omega)]
      obtain ⟨r1, r2⟩ := hR (4 * i + j) (by omega)
      obtain ⟨n1, n2, n3⟩ := r1 l hl12
      have n1 : mI M (48 + 3 * (4 * i + j) + 1) l = mI M 107 (12 * (4 * i + j) + l) := n1
      rw [show mI (arrM M) (48 + 3 * (4 * i + j) + 1) l = mI M (48 + 3 * (4 * i + j) + 1) l by unfold arrM; simp (disch := omega) only [mI_row, mI_k, mI_s, mI_J, mI_D, mI_F, mI_rJ, mI_rn, mI_rs, mJ_row, mJ_k, mJ_s, mJ_I, mJ_D, mJ_F, mJ_rI, mJ_rn, mJ_rs, c7_I, c7_J], ← n1]
      exact ih _ (in_fil n2 n3) sk d
    | true =>
      rw [if_neg (show ¬ bi true = 0 by decide), if_pos (show true = true from rfl)]
      obtain ⟨len, st, l1, l2, l3, l4, l5, l6⟩ := hL l hl12
      have hLo : mI M 4 l = mI M 99 l ∧ LineOk (mI M (24 + 2 * l + 1)) len (fun k => mI M 101 (48 * l + k)) (fun k => mI M 102 (48 * l + k)) st (mI M 99 l) := by
        rcases l6 with ⟨z1, z2, z3⟩ | ⟨z1, z2, z3, z4⟩
        · rw [hfo, hh] at z1; exact absurd z1 (by decide)
        · exact ⟨z3, z4⟩
      have hwr : wkR (arrM M) (bA i j) l w = rForm (mkE (mI M (24 + 2 * l + 1)) len (w, mJ M (bA i j), tabC (arrM M))) 41 0 true s0 := by
        unfold wkR
        rw [show mI (arrM M) (24 + 2 * l + 1) = mI M (24 + 2 * l + 1) by unfold arrM; simp (disch := omega) only [mI_row, mI_k, mI_s, mI_J, mI_D, mI_F, mI_rJ, mI_rn, mI_rs, mJ_row, mJ_k, mJ_s, mJ_I, mJ_D, mJ_F, mJ_rI, mJ_rn, mJ_rs, c7_I, c7_J], show mI (arrM M) (24 + 2 * l) = mI M (24 + 2 * l) by unfold arrM; simp (disch := omega) only [mI_row, mI_k, mI_s, mI_J, mI_D, mI_F, mI_rJ, mI_rn, mI_rs, mJ_row, mJ_k, mJ_s, mJ_I, mJ_D, mJ_F, mJ_rI, mJ_rn, mJ_rs, c7_I, c7_J], l3, clN (by omega)]
        rfl
      have hex : exR (rJ N 120 wk) (4 * i + j) l 64 0 0 sk = exG (fun k => mI M 101 (48 * l + k)) (fun k => mI M 102 (48 * l + k)) st (wk, befV (rJ N 120 wk) (4 * i + j), tabR (rJ N 120 wk)) 64 0 0 sk := by
        rw [exR_G, mI_rJ, h1 100 (by omega) (by omega), h1 101 (by omega) (by omega), h1 102 (by omega) (by omega), l4, clN (by omega)]
        unfold envR
        rw [mJ_rs]
      have hA : Agr (w, mJ M (bA i j), tabC (arrM M)) (wk, befV (rJ N 120 wk) (4 * i + j), tabR (rJ N 120 wk)) (mI M 99 l) := by
        refine ⟨fun x hx hxt => hag x hx (rdy_nd hrdy hx (by rw [hLo.1]; exact hxt)), bef_eq hR hN hi hj (by rw [mI_rJ]; exact h1 108 (by omega) (by omega)) (by rw [mJ_rn (by decide)]; exact h2), tabs_eq hT (fun a q1 q2 => by rw [mI_rJ]; exact h1 a (by omega) (by omega)) (fun a q1 q2 => by unfold arrM; simp (disch := omega) only [mI_row, mI_k, mI_s, mI_J, mI_D, mI_F, mI_rJ, mI_rn, mI_rs, mJ_row, mJ_k, mJ_s, mJ_I, mJ_D, mJ_F, mJ_rI, mJ_rn, mJ_rs, c7_I, c7_J])⟩
      rcases line_work hLo.2 hA sk with ⟨g1, g2, dp, sk', g3, g4⟩ | ⟨g1, r, g3⟩
      · rw [hwr, hex, g3]
        dsimp only
        have g1' := Bool.eq_false_iff.mp g1
        rw [if_pos (show true = true from rfl), if_neg g1', g4]
        exact ih _ g2 sk' _
      · rw [hwr, hex, g3]
        dsimp only
        rw [if_neg (show ¬ false = true by decide), if_pos g1]
        refine ⟨(false, nI r.1, r.2, wk), rfl, rfl, fun z => ?_⟩
        exact absurd (show false = true from z) (by decide)
theorem as_run {M N : Mem} (hL : IL M) (hT : IT M) (hR : IR M) (hN : IN M) {i j : Nat} (hi : i < 3) (hj : j < 4) (h1 : ∀ a, 98 ≤ a → a ≤ 108 → mI N a = mI M a) (h2 : mJ N 109 = mJ M 109) (hlen : (ordC M).length = 12) (d : Int32) (sk wk : Nat → Int64) :
    ∃ r, asL (plM (sI N 96 0 0)) (4 * i + j) 12 0 d sk wk = some r ∧ r.1 = (wkA M i j).2 ∧ (r.1 = true → ∀ l, l < 12 → (wkA M i j).1 l = r.2.2.2 l ∧ inR (r.2.2.2 l) = true) := by
  have eo : ordM (sI N 96 0 0) = ordC M := ord_eq hL (by rw [mI_row (by decide)]; exact h1 98 (by omega) (by omega)) (by rw [mI_row (by decide)]; exact h1 99 (by omega) (by omega))
  have hln : ∀ z, z < 12 → lnC (arrM M) z = (ordC M).getD z 0 := fun z hz => by
    have h8 := rowA_in (ordC M) 0 (mI M 21) z (by omega)
    rw [Nat.zero_add] at h8
    have h9 : (ordC M).getD z 0 < 12 := by
      have hk2 : z < (ordC M).length := by omega
      rw [List.getD_eq_getElem?_getD, List.getElem?_eq_getElem hk2]
      exact ordL_lt (mI M 4) 12 0 _ (List.getElem_mem hk2)
    unfold lnC arrM
    rw [mI_rs, h8, clN (by omega)]
  refine as_loop hL hT hR hN hi hj (fun a q1 q2 => ?_) ?_ (fun z hz => ?_) 12 0 0 (mJ M 22) wk sk d rfl hlen (fun z hz => by rw [Nat.zero_add]; exact hln z hz) c12_0 (fun l _ q => by rw [tb_0] at q; exact absurd q (by decide))
  · unfold plM
    simp (disch := omega) only [mI_row, mI_k, mI_s, mI_J, mI_D, mI_F, mI_rJ, mI_rn, mI_rs, mJ_row, mJ_k, mJ_s, mJ_I, mJ_D, mJ_F, mJ_rI, mJ_rn, mJ_rs, c7_I, c7_J]
    exact h1 a q1 q2
  · unfold plM
    simp (disch := omega) only [mI_row, mI_k, mI_s, mI_J, mI_D, mI_F, mI_rJ, mI_rn, mI_rs, mJ_row, mJ_k, mJ_s, mJ_I, mJ_D, mJ_F, mJ_rI, mJ_rn, mJ_rs, c7_I, c7_J]
    exact h2
  · rw [hln z hz]
    have h8 := rowA_in (ordC M) 0 (mI (sI N 96 0 0) 119) z (by omega)
    rw [Nat.zero_add] at h8
    have h9 : (ordC M).getD z 0 < 12 := by
      have hk2 : z < (ordC M).length := by omega
      rw [List.getD_eq_getElem?_getD, List.getElem?_eq_getElem hk2]
      exact ordL_lt (mI M 4) 12 0 _ (List.getElem_mem hk2)
    unfold plc plM
    rw [mI_rs, eo, h8, clN (by omega)]
theorem s_assess {M : Mem} (h : Inv M) {t y : Int32} {Q : PQ} {X : PX} (hQ : ∀ (rv : Int64) M1, MidJ T_mAssess [.ref 96, .int t, .int y] rv M1 → Q (some (.long rv)) M1) (hX : ∀ E c M1, (E, c) ∈ [("java/util/NoSuchElementException", (1 : Int32)), ("java/lang/IllegalStateException", (2 : Int32)), ("java/lang/ArithmeticException", (3 : Int32))] → MidX T_mAssess [.ref 96, .int t, .int y] (.long 0) c M1 → X E M1) : T_assess [.ref 0, .int t, .int y] M Q X := by
  have h0 := h
  obtain ⟨hF, hP, hL, hT, hO, hR, hA, hN⟩ := h
  have hTM : ∀ N : Mem, mI N 103 = mI M 103 → TabOkM N := fun N e t ht => by
    obtain ⟨k, o, t1, t2, t3, t4, _⟩ := hT t ht
    exact ⟨k, t1, by rw [e]; exact t4⟩
  have hST : ∀ N : Mem, mI N 100 = mI M 100 → StOk N := fun N e i hi => by
    obtain ⟨len, k, l1, l2, l3, l4, _⟩ := hL i hi
    exact ⟨k, l2, by rw [e]; exact l4⟩
  have hTx : TxtsOk M := fun i hi => by
    obtain ⟨len, k, l1, l2, l3, l4, l5, _⟩ := hL i hi
    refine ⟨len, ⟨ob_text hi, rf_x (by omega), ar_text hi⟩, ⟨by omega, by omega⟩, l3, l1, fun z hz => sign_ok _ (l5 z hz)⟩
  refine ⟨t, y, rfl, hF, tab_of hT, hTx, fun q => hX _ 1 _ List.mem_cons_self (fun Q2 X2 k => ?_), fun i j hi hj ei ej => ?_⟩
  · exact ⟨t, y, rfl, hF, hTM M rfl, hST M rfl, fun _ => k _ (h0.same hF (fun a _ _ _ _ => by unfold thr; simp (disch := omega) only [mI_row, mI_k, mI_s, mI_J, mI_D, mI_F, mI_rJ, mI_rn, mI_rs, mJ_row, mJ_k, mJ_s, mJ_I, mJ_D, mJ_F, mJ_rI, mJ_rn, mJ_rs, c7_I, c7_J]) (fun k hk => by unfold thr; simp (disch := omega) only [mI_row, mI_k, mI_s, mI_J, mI_D, mI_F, mI_rJ, mI_rn, mI_rs, mJ_row, mJ_k, mJ_s, mJ_I, mJ_D, mJ_F, mJ_rI, mJ_rn, mJ_rs, c7_I, c7_J]) (fun a _ _ _ _ => by unfold thr; simp (disch := omega) only [mI_row, mI_k, mI_s, mI_J, mI_D, mI_F, mI_rJ, mI_rn, mI_rs, mJ_row, mJ_k, mJ_s, mJ_I, mJ_D, mJ_F, mJ_rI, mJ_rn, mJ_rs, c7_I, c7_J])) mI_s, fun i j hi hj ei ej => absurd ⟨⟨i, hi, ei⟩, ⟨j, hj, ej⟩⟩ q⟩
  have hac := hA i hi
  obtain ⟨p, a1, a2, a3, a4, a5⟩ := hA i hi
  obtain ⟨⟨tl, htl, o1, o2⟩, hI⟩ := hO
  have hO : IU M := ⟨⟨tl, htl, o1, o2⟩, hI⟩
  refine ⟨p, tl, a1, htl, a2, o1, fun q => hX _ 2 _ (List.mem_cons_of_mem _ List.mem_cons_self) (fun Q2 X2 k => ?_), fun q1 q2 => ⟨fun q f F => hX _ 3 _ (List.mem_cons_of_mem _ (List.mem_cons_of_mem _ List.mem_cons_self)) (fun Q2 X2 k => ?_), fun q f F => hQ _ _ (fun Q2 X2 k => ?_)⟩⟩
  · have eo : ordM (arrM M) = ordC M := ord_eq hL (by unfold arrM; simp (disch := omega) only [mI_row, mI_k, mI_s, mI_J, mI_D, mI_F, mI_rJ, mI_rn, mI_rs, mJ_row, mJ_k, mJ_s, mJ_I, mJ_D, mJ_F, mJ_rI, mJ_rn, mJ_rs, c7_I, c7_J]) (by unfold arrM; simp (disch := omega) only [mI_row, mI_k, mI_s, mI_J, mI_D, mI_F, mI_rJ, mI_rn, mI_rs, mJ_row, mJ_k, mJ_s, mJ_I, mJ_D, mJ_F, mJ_rI, mJ_rn, mJ_rs, c7_I, c7_J])
    refine ⟨t, y, rfl, hF, hTM _ (by unfold arrM; simp (disch := omega) only [mI_row, mI_k, mI_s, mI_J, mI_D, mI_F, mI_rJ, mI_rn, mI_rs, mJ_row, mJ_k, mJ_s, mJ_I, mJ_D, mJ_F, mJ_rI, mJ_rn, mJ_rs, c7_I, c7_J]), hST _ (by unfold arrM; simp (disch := omega) only [mI_row, mI_k, mI_s, mI_J, mI_D, mI_F, mI_rJ, mI_rn, mI_rs, mJ_row, mJ_k, mJ_s, mJ_I, mJ_D, mJ_F, mJ_rI, mJ_rn, mJ_rs, c7_I, c7_J]), fun z => absurd ⟨⟨i, hi, ei⟩, ⟨j, hj, ej⟩⟩ z, fun i' j' hi' hj' ei' ej' => ?_⟩
    have b1 := nI_same hi hi' (by decide) ei ei'
    subst b1
    have b1 := nI_same hj hj' (by decide) ej ej'
    subst b1
    refine ⟨p, tl, a1, htl, by unfold arrM; simp (disch := omega) only [mI_row, mI_k, mI_s, mI_J, mI_D, mI_F, mI_rJ, mI_rn, mI_rs, mJ_row, mJ_k, mJ_s, mJ_I, mJ_D, mJ_F, mJ_rI, mJ_rn, mJ_rs, c7_I, c7_J]; exact a3, by unfold arrM; simp (disch := omega) only [mI_row, mI_k, mI_s, mI_J, mI_D, mI_F, mI_rJ, mI_rn, mI_rs, mJ_row, mJ_k, mJ_s, mJ_I, mJ_D, mJ_F, mJ_rI, mJ_rn, mJ_rs, c7_I, c7_J]; exact o2, fun _ => k _ (h0.same hF (fun a _ _ _ _ => by unfold plM arrM; simp (disch := omega) only [mI_row, mI_k, mI_s, mI_J, mI_D, mI_F, mI_rJ, mI_rn, mI_rs, mJ_row, mJ_k, mJ_s, mJ_I, mJ_D, mJ_F, mJ_rI, mJ_rn, mJ_rs, c7_I, c7_J]) (fun k hk => by unfold plM arrM; simp (disch := omega) only [mI_row, mI_k, mI_s, mI_J, mI_D, mI_F, mI_rJ, mI_rn, mI_rs, mJ_row, mJ_k, mJ_s, mJ_I, mJ_D, mJ_F, mJ_rI, mJ_rn, mJ_rs, c7_I, c7_J]) (fun a _ _ _ _ => by unfold plM arrM; simp (disch := omega) only [mI_row, mI_k, mI_s, mI_J, mI_D, mI_F, mI_rJ, mI_rn, mI_rs, mJ_row, mJ_k, mJ_s, mJ_I, mJ_D, mJ_F, mJ_rI, mJ_rn, mJ_rs, c7_I, c7_J])) mI_s, fun z1 z2 => ?_⟩
    exfalso
    rw [eo] at z1
    omega
  · have eo : ordM (c7 (rJ (arrM M) 22 (wkA M i j).1) f F) = ordC M := ord_eq hL (by unfold arrM; simp (disch := omega) only [mI_row, mI_k, mI_s, mI_J, mI_D, mI_F, mI_rJ, mI_rn, mI_rs, mJ_row, mJ_k, mJ_s, mJ_I, mJ_D, mJ_F, mJ_rI, mJ_rn, mJ_rs, c7_I, c7_J]) (by unfold arrM; simp (disch := omega) only [mI_row, mI_k, mI_s, mI_J, mI_D, mI_F, mI_rJ, mI_rn, mI_rs, mJ_row, mJ_k, mJ_s, mJ_I, mJ_D, mJ_F, mJ_rI, mJ_rn, mJ_rs, c7_I, c7_J])
    refine ⟨t, y, rfl, hF, hTM _ (by unfold arrM; simp (disch := omega) only [mI_row, mI_k, mI_s, mI_J, mI_D, mI_F, mI_rJ, mI_rn, mI_rs, mJ_row, mJ_k, mJ_s, mJ_I, mJ_D, mJ_F, mJ_rI, mJ_rn, mJ_rs, c7_I, c7_J]), hST _ (by unfold arrM; simp (disch := omega) only [mI_row, mI_k, mI_s, mI_J, mI_D, mI_F, mI_rJ, mI_rn, mI_rs, mJ_row, mJ_k, mJ_s, mJ_I, mJ_D, mJ_F, mJ_rI, mJ_rn, mJ_rs, c7_I, c7_J]), fun z => absurd ⟨⟨i, hi, ei⟩, ⟨j, hj, ej⟩⟩ z, fun i' j' hi' hj' ei' ej' => ?_⟩
    have b1 := nI_same hi hi' (by decide) ei ei'
    subst b1
    have b1 := nI_same hj hj' (by decide) ej ej'
    subst b1
    refine ⟨p, tl, a1, htl, by unfold arrM; simp (disch := omega) only [mI_row, mI_k, mI_s, mI_J, mI_D, mI_F, mI_rJ, mI_rn, mI_rs, mJ_row, mJ_k, mJ_s, mJ_I, mJ_D, mJ_F, mJ_rI, mJ_rn, mJ_rs, c7_I, c7_J]; exact a3, by unfold arrM; simp (disch := omega) only [mI_row, mI_k, mI_s, mI_J, mI_D, mI_F, mI_rJ, mI_rn, mI_rs, mJ_row, mJ_k, mJ_s, mJ_I, mJ_D, mJ_F, mJ_rI, mJ_rn, mJ_rs, c7_I, c7_J]; exact o2, fun z => ?_, fun _ _ => ?_⟩
    · exfalso
      rw [eo] at z
      omega
    obtain ⟨r, g1, g2, g3⟩ := as_run hL hT hR hN hi hj (N := c7 (rJ (arrM M) 22 (wkA M i j).1) f F) (fun a q1 q2 => by unfold arrM; simp (disch := omega) only [mI_row, mI_k, mI_s, mI_J, mI_D, mI_F, mI_rJ, mI_rn, mI_rs, mJ_row, mJ_k, mJ_s, mJ_I, mJ_D, mJ_F, mJ_rI, mJ_rn, mJ_rs, c7_I, c7_J]) (by unfold arrM; simp (disch := omega) only [mI_row, mI_k, mI_s, mI_J, mI_D, mI_F, mI_rJ, mI_rn, mI_rs, mJ_row, mJ_k, mJ_s, mJ_I, mJ_D, mJ_F, mJ_rI, mJ_rn, mJ_rs, c7_I, c7_J]) q1 (mI (c7 (rJ (arrM M) 22 (wkA M i j).1) f F) 96 32) (mJ (c7 (rJ (arrM M) 22 (wkA M i j).1) f F) 121) (mJ (c7 (rJ (arrM M) 22 (wkA M i j).1) f F) 120)
    refine ⟨r, g1, fun _ => k _ (h0.same hF (fun a _ _ _ _ => by unfold zS plM arrM; simp (disch := omega) only [mI_row, mI_k, mI_s, mI_J, mI_D, mI_F, mI_rJ, mI_rn, mI_rs, mJ_row, mJ_k, mJ_s, mJ_I, mJ_D, mJ_F, mJ_rI, mJ_rn, mJ_rs, c7_I, c7_J]) (fun k hk => by unfold zS plM arrM; simp (disch := omega) only [mI_row, mI_k, mI_s, mI_J, mI_D, mI_F, mI_rJ, mI_rn, mI_rs, mJ_row, mJ_k, mJ_s, mJ_I, mJ_D, mJ_F, mJ_rI, mJ_rn, mJ_rs, c7_I, c7_J]) (fun a _ _ _ _ => by unfold zS plM arrM; simp (disch := omega) only [mI_row, mI_k, mI_s, mI_J, mI_D, mI_F, mI_rJ, mI_rn, mI_rs, mJ_row, mJ_k, mJ_s, mJ_I, mJ_D, mJ_F, mJ_rI, mJ_rn, mJ_rs, c7_I, c7_J])) mI_s, fun z => ?_⟩
    rw [g2, q] at z
    exact absurd z (by decide)
  · generalize hv : (wkA M i j).1 tl = v at k ⊢
    have hq12 : 4 * i + j < 12 := by omega
    obtain ⟨r1, r2⟩ := hR (4 * i + j) hq12
    have ea : assM M i j (wkA M i j).1 v f F = sI (sJ (rJ (sJ (sI (sJ (sI (sI (c7 (rJ (arrM M) 22 (wkA M i j).1) f F) (84 + 4 * i + 1) p 0) (84 + 4 * i + 2) p (nI j)) (84 + 4 * i + 3) p (v - mJ M (48 + 3 * (4 * i + j)) 2)) (84 + 4 * i) 3 (nI (p + 1))) (84 + 4 * i) 4 (mJ M (84 + 4 * i) 4 + (v - mJ M (48 + 3 * (4 * i + j)) 2))) (48 + 3 * (4 * i + j) + 2) (va_cpy (wkA M i j).1 (mJ M (48 + 3 * (4 * i + j) + 2)) 0 0 12)) (48 + 3 * (4 * i + j)) 2 v) (48 + 3 * (4 * i + j)) 3 1 := by
      unfold assM
      rw [posA_eq (p := p) (by unfold arrM; simp (disch := omega) only [mI_row, mI_k, mI_s, mI_J, mI_D, mI_F, mI_rJ, mI_rn, mI_rs, mJ_row, mJ_k, mJ_s, mJ_I, mJ_D, mJ_F, mJ_rI, mJ_rn, mJ_rs, c7_I, c7_J]; exact a2) q2]
      unfold kepR
      have w1 : mJ (sJ (sI (sJ (sI (sI (c7 (rJ (arrM M) 22 (wkA M i j).1) f F) (84 + 4 * i + 1) p 0) (84 + 4 * i + 2) p (nI j)) (84 + 4 * i + 3) p (v - mJ M (48 + 3 * (4 * i + j)) 2)) (84 + 4 * i) 3 (nI (p + 1))) (84 + 4 * i) 4 (mJ (c7 (rJ (arrM M) 22 (wkA M i j).1) f F) (84 + 4 * i) 4 + (v - mJ M (48 + 3 * (4 * i + j)) 2))) 22 = (wkA M i j).1 := by unfold arrM; simp (disch := omega) only [mI_row, mI_k, mI_s, mI_J, mI_D, mI_F, mI_rJ, mI_rn, mI_rs, mJ_row, mJ_k, mJ_s, mJ_I, mJ_D, mJ_F, mJ_rI, mJ_rn, mJ_rs, c7_I, c7_J]
      have w2 : mJ (sJ (sI (sJ (sI (sI (c7 (rJ (arrM M) 22 (wkA M i j).1) f F) (84 + 4 * i + 1) p 0) (84 + 4 * i + 2) p (nI j)) (84 + 4 * i + 3) p (v - mJ M (48 + 3 * (4 * i + j)) 2)) (84 + 4 * i) 3 (nI (p + 1))) (84 + 4 * i) 4 (mJ (c7 (rJ (arrM M) 22 (wkA M i j).1) f F) (84 + 4 * i) 4 + (v - mJ M (48 + 3 * (4 * i + j)) 2))) (48 + 3 * (4 * i + j) + 2) = mJ M (48 + 3 * (4 * i + j) + 2) := by unfold arrM; simp (disch := omega) only [mI_row, mI_k, mI_s, mI_J, mI_D, mI_F, mI_rJ, mI_rn, mI_rs, mJ_row, mJ_k, mJ_s, mJ_I, mJ_D, mJ_F, mJ_rI, mJ_rn, mJ_rs, c7_I, c7_J]
      have w3 : mJ (c7 (rJ (arrM M) 22 (wkA M i j).1) f F) (84 + 4 * i) 4 = mJ M (84 + 4 * i) 4 := by unfold arrM; simp (disch := omega) only [mI_row, mI_k, mI_s, mI_J, mI_D, mI_F, mI_rJ, mI_rn, mI_rs, mJ_row, mJ_k, mJ_s, mJ_I, mJ_D, mJ_F, mJ_rI, mJ_rn, mJ_rs, c7_I, c7_J]
      rw [w1, w2, w3]
    rw [ea]
    generalize hNd : sJ (sI (sJ (rJ (sJ (sI (sJ (sI (sI (c7 (rJ (arrM M) 22 (wkA M i j).1) f F) (84 + 4 * i + 1) p 0) (84 + 4 * i + 2) p (nI j)) (84 + 4 * i + 3) p (v - mJ M (48 + 3 * (4 * i + j)) 2)) (84 + 4 * i) 3 (nI (p + 1))) (84 + 4 * i) 4 (mJ M (84 + 4 * i) 4 + (v - mJ M (48 + 3 * (4 * i + j)) 2))) (48 + 3 * (4 * i + j) + 2) (va_cpy (wkA M i j).1 (mJ M (48 + 3 * (4 * i + j) + 2)) 0 0 12)) (48 + 3 * (4 * i + j)) 2 v) (48 + 3 * (4 * i + j)) 3 1) 122 0 v = N0
    have hF0 : Full N0 := by rw [← hNd]; exact hF
    have mI0 : ∀ a, a ≠ 7 → a ≠ 21 → ¬ (84 + 4 * i ≤ a ∧ a < 88 + 4 * i) → a ≠ 48 + 3 * (4 * i + j) → mI N0 a = mI M a := fun a z1 z2 z3 z4 => by rw [← hNd]; unfold arrM; simp (disch := omega) only [mI_row, mI_k, mI_s, mI_J, mI_D, mI_F, mI_rJ, mI_rn, mI_rs, mJ_row, mJ_k, mJ_s, mJ_I, mJ_D, mJ_F, mJ_rI, mJ_rn, mJ_rs, c7_I, c7_J]
    have mJ0 : ∀ a, a ≠ 22 → a ≠ 122 → ¬ (84 + 4 * i ≤ a ∧ a < 88 + 4 * i) → a ≠ 48 + 3 * (4 * i + j) → a ≠ 48 + 3 * (4 * i + j) + 2 → mJ N0 a = mJ M a := fun a z1 z2 z3 z4 z5 => by rw [← hNd]; unfold arrM; simp (disch := omega) only [mI_row, mI_k, mI_s, mI_J, mI_D, mI_F, mI_rJ, mI_rn, mI_rs, mJ_row, mJ_k, mJ_s, mJ_I, mJ_D, mJ_F, mJ_rI, mJ_rn, mJ_rs, c7_I, c7_J]
    have eo : ordM N0 = ordC M := ord_eq hL (mI0 98 (by omega) (by omega) (by omega) (by omega)) (mI0 99 (by omega) (by omega) (by omega) (by omega))
    obtain ⟨r, g1, g2, g3⟩ := as_run hL hT hR hN hi hj (N := N0) (fun a z1 z2 => mI0 a (by omega) (by omega) (by omega) (by omega)) (mJ0 109 (by omega) (by omega) (by omega) (by omega) (by omega)) q1 (mI N0 96 32) (mJ N0 121) (mJ N0 120)
    have g4 : r.1 = true := g2.trans q
    have g5 := g3 g4
    refine ⟨t, y, rfl, hF0, hTM _ (mI0 103 (by omega) (by omega) (by omega) (by omega)), hST _ (mI0 100 (by omega) (by omega) (by omega) (by omega)), fun z => absurd ⟨⟨i, hi, ei⟩, ⟨j, hj, ej⟩⟩ z, fun i' j' hi' hj' ei' ej' => ?_⟩
    have b1 := nI_same hi hi' (by decide) ei ei'
    subst b1
    have b1 := nI_same hj hj' (by decide) ej ej'
    subst b1
    refine ⟨p, tl, a1, htl, by rw [mI0 111 (by omega) (by omega) (by omega) (by omega)]; exact a3, by rw [mI0 96 (by omega) (by omega) (by omega) (by omega)]; exact o2, fun z => ?_, fun _ _ => ⟨r, g1, fun z => absurd (g4.symm.trans z) (by decide), fun _ => ?_⟩⟩
    · exfalso
      rw [eo] at z
      omega
    have hvr : r.2.2.2 tl = v := by rw [← (g5 tl htl).1]; exact hv
    rw [hvr]
    have hold : oldM (plM (sI N0 96 0 0)) (4 * i + j) = mJ M (48 + 3 * (4 * i + j)) 2 := by
      unfold oldM plM
      simp (disch := omega) only [mI_row, mI_k, mI_s, mI_J, mI_D, mI_F, mI_rJ, mI_rn, mI_rs, mJ_row, mJ_k, mJ_s, mJ_I, mJ_D, mJ_F, mJ_rI, mJ_rn, mJ_rs, c7_I, c7_J]
      rw [mI0 108 (by omega) (by omega) (by omega) (by omega), mJ0 110 (by omega) (by omega) (by omega) (by omega) (by omega)]
      rcases r2 with ⟨w1, w2, w3, w4⟩ | ⟨w1, w2, w3, w4⟩
      · rw [if_pos w2, w3]
      · rw [if_neg (by rw [w2]; decide), w3]
    unfold asM asVa asPo mPost
    rw [hold]
    generalize r.2.1 = dd at *
    generalize r.2.2.1 = sk at *
    generalize r.2.2.2 = wk at *
    have hNN : mJ (plM (sI N0 96 0 0)) 109 = mJ M 109 := by
      unfold plM
      simp (disch := omega) only [mI_row, mI_k, mI_s, mI_J, mI_D, mI_F, mI_rJ, mI_rn, mI_rs, mJ_row, mJ_k, mJ_s, mJ_I, mJ_D, mJ_F, mJ_rI, mJ_rn, mJ_rs, c7_I, c7_J]
      exact mJ0 109 (by omega) (by omega) (by omega) (by omega) (by omega)
    rw [hNN]
    unfold zS plM
    refine k _ ⟨hF0, hP.same (fun a ha => ?_) ?_, hL.same (fun a ha => ?_), hT.same (fun a ha => ?_), hO.same ?_ ?_ ?_, fun q hq => ?_, fun u hu => ?_, hN.same ?_⟩ ?_ ?_
    · simp (disch := omega) only [mI_row, mI_k, mI_s, mI_J, mI_D, mI_F, mI_rJ, mI_rn, mI_rs, mJ_row, mJ_k, mJ_s, mJ_I, mJ_D, mJ_F, mJ_rI, mJ_rn, mJ_rs, c7_I, c7_J]; exact mI0 a (by omega) (by omega) (by omega) (by omega)
    · simp (disch := omega) only [mI_row, mI_k, mI_s, mI_J, mI_D, mI_F, mI_rJ, mI_rn, mI_rs, mJ_row, mJ_k, mJ_s, mJ_I, mJ_D, mJ_F, mJ_rI, mJ_rn, mJ_rs, c7_I, c7_J]; rw [mI0 96 (by omega) (by omega) (by omega) (by omega)]
    · simp (disch := omega) only [mI_row, mI_k, mI_s, mI_J, mI_D, mI_F, mI_rJ, mI_rn, mI_rs, mJ_row, mJ_k, mJ_s, mJ_I, mJ_D, mJ_F, mJ_rI, mJ_rn, mJ_rs, c7_I, c7_J]; exact mI0 a (by omega) (by omega) (by omega) (by omega)
    · simp (disch := omega) only [mI_row, mI_k, mI_s, mI_J, mI_D, mI_F, mI_rJ, mI_rn, mI_rs, mJ_row, mJ_k, mJ_s, mJ_I, mJ_D, mJ_F, mJ_rI, mJ_rn, mJ_rs, c7_I, c7_J]; exact mI0 a (by omega) (by omega) (by omega) (by omega)
    · simp (disch := omega) only [mI_row, mI_k, mI_s, mI_J, mI_D, mI_F, mI_rJ, mI_rn, mI_rs, mJ_row, mJ_k, mJ_s, mJ_I, mJ_D, mJ_F, mJ_rI, mJ_rn, mJ_rs, c7_I, c7_J]; exact mI0 0 (by omega) (by omega) (by omega) (by omega)
    · simp (disch := omega) only [mI_row, mI_k, mI_s, mI_J, mI_D, mI_F, mI_rJ, mI_rn, mI_rs, mJ_row, mJ_k, mJ_s, mJ_I, mJ_D, mJ_F, mJ_rI, mJ_rn, mJ_rs, c7_I, c7_J]; rw [mI0 96 (by omega) (by omega) (by omega) (by omega)]
    · simp (disch := omega) only [mI_row, mI_k, mI_s, mI_J, mI_D, mI_F, mI_rJ, mI_rn, mI_rs, mJ_row, mJ_k, mJ_s, mJ_I, mJ_D, mJ_F, mJ_rI, mJ_rn, mJ_rs, c7_I, c7_J]; rw [mI0 96 (by omega) (by omega) (by omega) (by omega)]
    · obtain ⟨s1, s2⟩ := hR q hq
      by_cases hqq : q = 4 * i + j
      · subst hqq
        refine ⟨fun z hz => ?_, Or.inr ⟨?_, ?_, ?_, fun z hz => ?_⟩⟩
        · simp (disch := omega) only [mI_row, mI_k, mI_s, mI_J, mI_D, mI_F, mI_rJ, mI_rn, mI_rs, mJ_row, mJ_k, mJ_s, mJ_I, mJ_D, mJ_F, mJ_rI, mJ_rn, mJ_rs, c7_I, c7_J]
          rw [mI0 107 (by omega) (by omega) (by omega) (by omega), mI0 (48 + 3 * (4 * i + j) + 1) (by omega) (by omega) (by omega) (by omega)]
          exact s1 z hz
        · rw [← hNd]; unfold arrM; simp (disch := omega) only [mI_row, mI_k, mI_s, mI_J, mI_D, mI_F, mI_rJ, mI_rn, mI_rs, mJ_row, mJ_k, mJ_s, mJ_I, mJ_D, mJ_F, mJ_rI, mJ_rn, mJ_rs, c7_I, c7_J]
        · simp (disch := omega) only [mI_row, mI_k, mI_s, mI_J, mI_D, mI_F, mI_rJ, mI_rn, mI_rs, mJ_row, mJ_k, mJ_s, mJ_I, mJ_D, mJ_F, mJ_rI, mJ_rn, mJ_rs, c7_I, c7_J]
        · rw [← hNd]; unfold arrM; simp (disch := omega) only [mI_row, mI_k, mI_s, mI_J, mI_D, mI_F, mI_rJ, mI_rn, mI_rs, mJ_row, mJ_k, mJ_s, mJ_I, mJ_D, mJ_F, mJ_rI, mJ_rn, mJ_rs, c7_I, c7_J]
        · have e1 : ∀ X : Nat → Int64, mJ N0 (48 + 3 * (4 * i + j) + 2) = va_cpy (wkA M i j).1 (mJ M (48 + 3 * (4 * i + j) + 2)) 0 0 12 := fun _ => by rw [← hNd]; unfold arrM; simp (disch := omega) only [mI_row, mI_k, mI_s, mI_J, mI_D, mI_F, mI_rJ, mI_rn, mI_rs, mJ_row, mJ_k, mJ_s, mJ_I, mJ_D, mJ_F, mJ_rI, mJ_rn, mJ_rs, c7_I, c7_J]
          simp (disch := omega) only [mI_row, mI_k, mI_s, mI_J, mI_D, mI_F, mI_rJ, mI_rn, mI_rs, mJ_row, mJ_k, mJ_s, mJ_I, mJ_D, mJ_F, mJ_rI, mJ_rn, mJ_rs, c7_I, c7_J]
          rw [e1 (fun _ => 0)]
          unfold va_cpy cpJ
          rw [if_pos (by omega), if_pos (by omega), show 0 + (z - 0) = z by omega, show 12 * (4 * i + j) + z - 12 * (4 * i + j) = z by omega, (g5 z hz).1]
          exact ⟨rfl, (g5 z hz).2⟩
      · refine ⟨fun z hz => ?_, ?_⟩
        · simp (disch := omega) only [mI_row, mI_k, mI_s, mI_J, mI_D, mI_F, mI_rJ, mI_rn, mI_rs, mJ_row, mJ_k, mJ_s, mJ_I, mJ_D, mJ_F, mJ_rI, mJ_rn, mJ_rs, c7_I, c7_J]
          rw [mI0 107 (by omega) (by omega) (by omega) (by omega), mI0 (48 + 3 * q + 1) (by omega) (by omega) (by omega) (by omega)]
          exact s1 z hz
        · have e0 : mI N0 (48 + 3 * q) = mI M (48 + 3 * q) := mI0 _ (by omega) (by omega) (by omega) (by omega)
          have e1 : mI N0 108 = mI M 108 := mI0 _ (by omega) (by omega) (by omega) (by omega)
          have e2 : mJ N0 (48 + 3 * q) = mJ M (48 + 3 * q) := mJ0 _ (by omega) (by omega) (by omega) (by omega) (by omega)
          have e3 : mJ N0 110 = mJ M 110 := mJ0 _ (by omega) (by omega) (by omega) (by omega) (by omega)
          have e4 : mJ N0 (48 + 3 * q + 2) = mJ M (48 + 3 * q + 2) := mJ0 _ (by omega) (by omega) (by omega) (by omega) (by omega)
          simp (disch := omega) only [mI_row, mI_k, mI_s, mI_J, mI_D, mI_F, mI_rJ, mI_rn, mI_rs, mJ_row, mJ_k, mJ_s, mJ_I, mJ_D, mJ_F, mJ_rI, mJ_rn, mJ_rs, c7_I, c7_J]
          rw [e0, e1, e2, e3, e4]
          rcases s2 with ⟨w1, w2, w3, w4⟩ | ⟨w1, w2, w3, w4⟩
          · exact Or.inl ⟨w1, w2, w3, w4⟩
          · refine Or.inr ⟨w1, w2, w3, fun z hz => ?_⟩
            unfold cpJ
            rw [if_neg (by omega)]
            exact w4 z hz
    · by_cases hui : u = i
      · subst hui
        have e1 : mI N0 (84 + 4 * u) 3 = nI (p + 1) := by rw [← hNd]; unfold arrM; simp (disch := omega) only [mI_row, mI_k, mI_s, mI_J, mI_D, mI_F, mI_rJ, mI_rn, mI_rs, mJ_row, mJ_k, mJ_s, mJ_I, mJ_D, mJ_F, mJ_rI, mJ_rn, mJ_rs, c7_I, c7_J]
        have e2 : mJ N0 (84 + 4 * u) 4 = mJ M (84 + 4 * u) 4 + (v - mJ M (48 + 3 * (4 * u + j)) 2) := by rw [← hNd]; unfold arrM; simp (disch := omega) only [mI_row, mI_k, mI_s, mI_J, mI_D, mI_F, mI_rJ, mI_rn, mI_rs, mJ_row, mJ_k, mJ_s, mJ_I, mJ_D, mJ_F, mJ_rI, mJ_rn, mJ_rs, c7_I, c7_J]
        have e3 : ∀ z, z < p → mI N0 (84 + 4 * u + 1) z = mI M (84 + 4 * u + 1) z ∧ mI N0 (84 + 4 * u + 2) z = mI M (84 + 4 * u + 2) z ∧ mJ N0 (84 + 4 * u + 3) z = mJ M (84 + 4 * u + 3) z := fun z hz => by
          rw [← hNd]
          unfold arrM
          simp (disch := omega) only [mI_row, mI_k, mI_s, mI_J, mI_D, mI_F, mI_rJ, mI_rn, mI_rs, mJ_row, mJ_k, mJ_s, mJ_I, mJ_D, mJ_F, mJ_rI, mJ_rn, mJ_rs, c7_I, c7_J]
          exact ⟨trivial, trivial, trivial⟩
        have e4 : mI N0 (84 + 4 * u + 1) p = 0 ∧ mI N0 (84 + 4 * u + 2) p = nI j ∧ mJ N0 (84 + 4 * u + 3) p = v - mJ M (48 + 3 * (4 * u + j)) 2 := by
          rw [← hNd]
          unfold arrM
          simp (disch := omega) only [mI_row, mI_k, mI_s, mI_J, mI_D, mI_F, mI_rJ, mI_rn, mI_rs, mJ_row, mJ_k, mJ_s, mJ_I, mJ_D, mJ_F, mJ_rI, mJ_rn, mJ_rs, c7_I, c7_J]
          exact ⟨trivial, trivial, trivial⟩
        have e5 : mI N0 112 = mI M 112 ∧ mI N0 113 = mI M 113 ∧ mJ N0 114 = mJ M 114 := ⟨mI0 112 (by omega) (by omega) (by omega) (by omega), mI0 113 (by omega) (by omega) (by omega) (by omega), mJ0 114 (by omega) (by omega) (by omega) (by omega) (by omega)⟩
        refine IAcc.post hac a2 q2 ?_ ?_ ?_ (fun z hz => ?_) (fun z hz => ?_) ?_
        · simp (disch := omega) only [mI_row, mI_k, mI_s, mI_J, mI_D, mI_F, mI_rJ, mI_rn, mI_rs, mJ_row, mJ_k, mJ_s, mJ_I, mJ_D, mJ_F, mJ_rI, mJ_rn, mJ_rs, c7_I, c7_J]; exact e1
        · simp (disch := omega) only [mI_row, mI_k, mI_s, mI_J, mI_D, mI_F, mI_rJ, mI_rn, mI_rs, mJ_row, mJ_k, mJ_s, mJ_I, mJ_D, mJ_F, mJ_rI, mJ_rn, mJ_rs, c7_I, c7_J]
        · simp (disch := omega) only [mI_row, mI_k, mI_s, mI_J, mI_D, mI_F, mI_rJ, mI_rn, mI_rs, mJ_row, mJ_k, mJ_s, mJ_I, mJ_D, mJ_F, mJ_rI, mJ_rn, mJ_rs, c7_I, c7_J]; exact e2
        · simp (disch := omega) only [mI_row, mI_k, mI_s, mI_J, mI_D, mI_F, mI_rJ, mI_rn, mI_rs, mJ_row, mJ_k, mJ_s, mJ_I, mJ_D, mJ_F, mJ_rI, mJ_rn, mJ_rs, c7_I, c7_J]; exact e3 z hz
        · simp (disch := omega) only [mI_row, mI_k, mI_s, mI_J, mI_D, mI_F, mI_rJ, mI_rn, mI_rs, mJ_row, mJ_k, mJ_s, mJ_I, mJ_D, mJ_F, mJ_rI, mJ_rn, mJ_rs, c7_I, c7_J]; rw [e5.1, e5.2.1, e5.2.2]; exact ⟨rfl, rfl, rfl⟩
        · simp (disch := omega) only [mI_row, mI_k, mI_s, mI_J, mI_D, mI_F, mI_rJ, mI_rn, mI_rs, mJ_row, mJ_k, mJ_s, mJ_I, mJ_D, mJ_F, mJ_rI, mJ_rn, mJ_rs, c7_I, c7_J]; exact e4
      · have e0 : mI N0 (84 + 4 * u) = mI M (84 + 4 * u) := mI0 _ (by omega) (by omega) (by omega) (by omega)
        have e1 : mI N0 (84 + 4 * u + 1) = mI M (84 + 4 * u + 1) := mI0 _ (by omega) (by omega) (by omega) (by omega)
        have e2 : mI N0 (84 + 4 * u + 2) = mI M (84 + 4 * u + 2) := mI0 _ (by omega) (by omega) (by omega) (by omega)
        have e3 : mJ N0 (84 + 4 * u) = mJ M (84 + 4 * u) := mJ0 _ (by omega) (by omega) (by omega) (by omega) (by omega)
        have e4 : mJ N0 (84 + 4 * u + 3) = mJ M (84 + 4 * u + 3) := mJ0 _ (by omega) (by omega) (by omega) (by omega) (by omega)
        have e5 : mI N0 111 = mI M 111 := mI0 _ (by omega) (by omega) (by omega) (by omega)
        have e6 : mI N0 112 = mI M 112 ∧ mI N0 113 = mI M 113 ∧ mJ N0 114 = mJ M 114 := ⟨mI0 112 (by omega) (by omega) (by omega) (by omega), mI0 113 (by omega) (by omega) (by omega) (by omega), mJ0 114 (by omega) (by omega) (by omega) (by omega) (by omega)⟩
        simp (disch := omega) only [mI_row, mI_k, mI_s, mI_J, mI_D, mI_F, mI_rJ, mI_rn, mI_rs, mJ_row, mJ_k, mJ_s, mJ_I, mJ_D, mJ_F, mJ_rI, mJ_rn, mJ_rs, c7_I, c7_J]
        rw [e0, e1, e2, e3, e4, e5]
        refine (hA u hu).cg rfl (fun z hz => ?_)
        simp (disch := omega) only [mI_row, mI_k, mI_s, mI_J, mI_D, mI_F, mI_rJ, mI_rn, mI_rs, mJ_row, mJ_k, mJ_s, mJ_I, mJ_D, mJ_F, mJ_rI, mJ_rn, mJ_rs, c7_I, c7_J]
        rw [e6.1, e6.2.1, e6.2.2]
        exact ⟨rfl, rfl, rfl⟩
    · simp (disch := omega) only [mI_row, mI_k, mI_s, mI_J, mI_D, mI_F, mI_rJ, mI_rn, mI_rs, mJ_row, mJ_k, mJ_s, mJ_I, mJ_D, mJ_F, mJ_rI, mJ_rn, mJ_rs, c7_I, c7_J]; exact mJ0 23 (by omega) (by omega) (by omega) (by omega) (by omega)
    · simp (disch := omega) only [mI_row, mI_k, mI_s, mI_J, mI_D, mI_F, mI_rJ, mI_rn, mI_rs, mJ_row, mJ_k, mJ_s, mJ_I, mJ_D, mJ_F, mJ_rI, mJ_rn, mJ_rs, c7_I, c7_J]
    · simp (disch := omega) only [mI_row, mI_k, mI_s, mI_J, mI_D, mI_F, mI_rJ, mI_rn, mI_rs, mJ_row, mJ_k, mJ_s, mJ_I, mJ_D, mJ_F, mJ_rI, mJ_rn, mJ_rs, c7_I, c7_J]
      rw [← hNd]
      exact mJ_s
