/-! UNITS: names and numbers *-/
theorem toL {x : Nat} (h : x < 2 ^ 31) : (nI x).toInt64 = Int64.ofNat x := by
  apply Int64.toInt_inj.mp
  rw [Int32.toInt_toInt64, nI_toInt h, Int64.toInt_ofNat_of_lt (by omega)]
theorem dg_j {c : Int32} (h : isDg c = true) : ∃ j, 48 ≤ j ∧ j ≤ 57 ∧ c = nI j := by
  unfold isDg at h
  rw [Bool.and_eq_true, decide_eq_true_eq, decide_eq_true_eq] at h
  obtain ⟨j, hj, ej⟩ := nI_of (x := c) (fun q => h.1 (Int32.lt_trans q (by decide)))
  rw [ej, show (48 : Int32) = nI 48 from rfl, nI_ltI hj (by decide), show (57 : Int32) = nI 57 from rfl, nI_ltI (by decide) hj] at h
  exact ⟨j, by omega, by omega, ej⟩
theorem num_eq {tx : Nat → Int32} {len : Nat} {V : VV} {nm : Int32} {ov : Bool} : ∀ (k x a b : Nat), x < b → b * 10 ^ k < 2 ^ 31 → rNumL (mkE tx len V) k (Int64.ofNat x) (a, false, nm, ov) = ((nmR tx len k (nI x) a).1.toInt64, ((nmR tx len k (nI x) a).2, false, nm, ov))
  | 0, x, a, b, hx, hb => by
    show (Int64.ofNat x, _) = ((nI x).toInt64, _)
    rw [toL (by simp at hb; omega)]
    rfl
  | k + 1, x, a, b, hx, hb => by
    rw [rNumL, nmR, nx_k]
    by_cases h : isDg (lkR tx len a) = true
    · rw [if_pos h, if_pos h]
      have hl := lk_lt (dg_ne h)
      have ht : lkR tx len a = tx a := if_neg (by omega)
      obtain ⟨j, j1, j2, ej⟩ := dg_j h
      have ej' : tx a = nI j := by rw [← ht]; exact ej
      have hp : b * 10 ^ (k + 1) = (b * 10) * 10 ^ k := by rw [Nat.pow_succ, Nat.mul_comm (10 ^ k) 10, Nat.mul_assoc]
      rw [hp] at hb
      have e1 : (10 : Int32) * nI x + tx a - 48 = nI (10 * x + (j - 48)) := by
        rw [ej', show (10 : Int32) = nI 10 from rfl, pk_mul, nI_add, show (48 : Int32) = nI 48 from rfl, pk_sub (by omega)]
        congr 1
        omega
      have e2 : Int64.ofNat x * 10 + (lkR tx len a - 48).toInt64 = Int64.ofNat (10 * x + (j - 48)) := by
        rw [ej, show (48 : Int32) = nI 48 from rfl, pk_sub (by omega), toL (by omega), show (10 : Int64) = Int64.ofNat 10 from rfl, ← Int64.ofNat_mul, ← Int64.ofNat_add]
        congr 1
        omega
      rw [e1, e2]
      exact num_eq k (10 * x + (j - 48)) (a + 1) (b * 10) (by omega) hb
    · rw [if_neg h, if_neg h]
      have h1 : 1 ≤ 10 ^ (k + 1) := Nat.one_le_pow _ _ (by decide)
      have h2 : b * 1 ≤ b * 10 ^ (k + 1) := Nat.mul_le_mul_left b h1
      rw [toL (by omega)]
theorem inR_nat {y : Nat} (h : y ≤ 1000000000000) : inR (Int64.ofNat y) = true := by
  unfold inR
  rw [Bool.and_eq_true, decide_eq_true_eq, decide_eq_true_eq, Int64.lt_iff_toInt_lt, Int64.lt_iff_toInt_lt, Int64.toInt_ofNat_of_lt (by omega)]
  have e1 : (-1000000000000 : Int64).toInt = -1000000000000 := by decide
  have e2 : (1000000000000 : Int64).toInt = 1000000000000 := by decide
  rw [e1, e2]
  omega
section
variable {tx : Nat → Int32} {len n d : Nat} {s : RS}
def fU (tx : Nat → Int32) (len n d : Nat) : VV → Bool → St → Int64 × St := fun V lv st => rUnit (mkE tx len V) (rForm (mkE tx len V) n) d lv st
theorem st_2 : rdSt tx len 2 s = bgS tx len s := if_pos rfl
theorem nm_cl {c : Int32} (h : isNm c = true) : (¬ c < 65 ∧ ¬ 76 < c) ∧ ∃ i, i < 12 ∧ c - 65 = nI i := by
  unfold isNm at h
  rw [Bool.and_eq_true, decide_eq_true_eq, decide_eq_true_eq] at h
  exact ⟨h, c65 h.1 h.2⟩
theorem U_name (h40 : len ≤ 40) (ha : s.1 < len) (hI : RI s) (hc : isNm (lkR tx len s.1) = true) : Rs tx len (fU tx len n d) s CU := by
  obtain ⟨hb, i, hi, ei⟩ := nm_cl hc
  have hbg := bg_inv (tx := tx) h40 ha hI
  have hU : ∀ V lv ov, fU tx len n d V lv (s.1, false, s.2.2.2.2.2.2.2, ov) = rName (mkE tx len V) i (s.1, false, s.2.2.2.2.2.2.2, ov) := by
    intro V lv ov
    unfold fU rUnit
    rw [nx_k, if_pos hb, ei, clN (by omega)]
  by_cases h39 : lkR tx len (s.1 + 1) = 39
  · have e : bgS tx len s = (1, atS (mkS s 2 (lkR tx len s.1 - 65)) (s.1 + 2)) := by unfold bgS; rw [if_pos hc, if_pos h39]
    rw [e] at hbg
    have hl := lk_lt (tx := tx) (len := len) (i := s.1 + 1) (by rw [h39]; decide)
    refine ⟨s.2.2.2.2.2.2.2, fun V => V.2.1 i, fun _ => false, 1, atS (mkS s 2 (lkR tx len s.1 - 65)) (s.1 + 2), atS (mkS s 2 (lkR tx len s.1 - 65)) (s.1 + 2), ?_, Rch.one (by decide) ha (by rw [st_2]; exact e) (by show s.1 < s.1 + 2; omega) (by show s.1 + 2 ≤ len; omega), ⟨rfl, rfl⟩, by show s.1 < s.1 + 2; omega, rfl, rfl, ⟨rfl, fun _ _ => ⟨rfl, rfl⟩, Nat.le_succ _, fun k hk => ⟨va_up_ne _ _ (by omega), va_up_ne _ _ (by omega)⟩⟩, ?_, fun _ _ q => q, hbg.1, hbg.1⟩
    · intro V lv ov
      rw [hU]
      unfold rName
      rw [if_pos (by show nx (mkE tx len V) (s.1 + 1, false, s.2.2.2.2.2.2.2, ov) = 39; rw [nx_k]; exact h39)]
      show (V.2.1 i, (s.1 + 1 + 1, false, s.2.2.2.2.2.2.2, ov)) = _
      rw [Bool.and_false, Bool.or_false]
      rfl
    · refine sem_push (o := 2) (va_up_self _ _ _) (by decide) (fun _ => ?_) (fun VC VR hA => ?_)
      · show ¬ va_up _ _ _ _ < 0 ∧ va_up _ _ _ _ < 12
        rw [va_up_self, ei]
        exact rng_nI rfl (by decide) hi
      · obtain ⟨q1, q2⟩ := hA.2.1 i hi
        refine ⟨q2, fun x y => ?_⟩
        show VR.2.1 (Int32.toNatClampNeg (va_up _ _ _ _)) = VC.2.1 i
        rw [va_up_self, ei, clN (by omega)]
        exact q1.symm
  · have e : bgS tx len s = (1, atS (liS (mkS s 1 (lkR tx len s.1 - 65)) (s.2.2.2.2.2.2.2 ||| ((1 : Int32) <<< ((lkR tx len s.1 - 65) &&& 31)))) (s.1 + 1)) := by unfold bgS; rw [if_pos hc, if_neg h39]
    rw [e] at hbg
    refine ⟨s.2.2.2.2.2.2.2 ||| ((1 : Int32) <<< ((lkR tx len s.1 - 65) &&& 31)), fun V => V.1 i, fun _ => false, 1, atS (liS (mkS s 1 (lkR tx len s.1 - 65)) (s.2.2.2.2.2.2.2 ||| ((1 : Int32) <<< ((lkR tx len s.1 - 65) &&& 31)))) (s.1 + 1), atS (liS (mkS s 1 (lkR tx len s.1 - 65)) (s.2.2.2.2.2.2.2 ||| ((1 : Int32) <<< ((lkR tx len s.1 - 65) &&& 31)))) (s.1 + 1), ?_, Rch.one (by decide) ha (by rw [st_2]; exact e) (by show s.1 < s.1 + 1; omega) (by show s.1 + 1 ≤ len; omega), ⟨rfl, rfl⟩, by show s.1 < s.1 + 1; omega, rfl, rfl, ⟨rfl, fun _ _ => ⟨rfl, rfl⟩, Nat.le_succ _, fun k hk => ⟨va_up_ne _ _ (by omega), va_up_ne _ _ (by omega)⟩⟩, ?_, ?_, hbg.1, hbg.1⟩
    · intro V lv ov
      rw [hU]
      unfold rName
      rw [if_neg (by show ¬ nx (mkE tx len V) (s.1 + 1, false, s.2.2.2.2.2.2.2, ov) = 39; rw [nx_k]; exact h39), Bool.and_false, Bool.or_false, ei]
      rfl
    · refine sem_push (o := 1) (va_up_self _ _ _) (by decide) (fun _ => ?_) (fun VC VR hA => ?_)
      · show ¬ va_up _ _ _ _ < 0 ∧ va_up _ _ _ _ < 12
        rw [va_up_self, ei]
        exact rng_nI rfl (by decide) hi
      · obtain ⟨q1, q2⟩ := hA.1 i hi (by rw [ei, tb_or _ (by omega) (by omega), decide_eq_true rfl, Bool.or_true])
        refine ⟨q2, fun x y => ?_⟩
        show VR.1 (Int32.toNatClampNeg (va_up _ _ _ _)) = VC.1 i
        rw [va_up_self, ei, clN (by omega)]
        exact q1.symm
    · intro k hk q
      rw [ei, tb_or _ (by omega) (by omega), q, Bool.true_or]
theorem U_num (h40 : len ≤ 40) (ha : s.1 < len) (hI : RI s) (hn : ¬ isNm (lkR tx len s.1) = true) (hc : isDg (lkR tx len s.1) = true) : Rs tx len (fU tx len n d) s CU := by
  have hbg := bg_inv (tx := tx) h40 ha hI
  have e : bgS tx len s = (1, atS (mkS s 0 (nmR tx len 6 0 s.1).1) (nmR tx len 6 0 s.1).2) := by unfold bgS; rw [if_neg hn, if_pos hc]; rfl
  have e6 : nmR tx len 6 0 s.1 = nmR tx len 5 (10 * 0 + tx s.1 - 48) (s.1 + 1) := by rw [nmR, if_pos hc]
  have g1 : s.1 + 1 ≤ (nmR tx len 6 0 s.1).2 := by rw [e6]; exact nmR_ge 5 _ _
  have g2 : (nmR tx len 6 0 s.1).2 ≤ len := nmR_le (Nat.le_refl _) 6 0 s.1 (by omega)
  obtain ⟨y, hy, ey⟩ := nmR_bd (tx := tx) (len := len) 6 0 s.1 1 (by decide) (by decide)
  have ey1 : (nmR tx len 6 0 s.1).1 = nI y := congrArg Prod.fst ey
  rw [e] at hbg
  refine ⟨s.2.2.2.2.2.2.2, fun _ => (nmR tx len 6 0 s.1).1.toInt64, fun _ => false, 1, atS (mkS s 0 (nmR tx len 6 0 s.1).1) (nmR tx len 6 0 s.1).2, atS (mkS s 0 (nmR tx len 6 0 s.1).1) (nmR tx len 6 0 s.1).2, ?_, Rch.one (by decide) ha (by rw [st_2]; exact e) (by show s.1 < (nmR tx len 6 0 s.1).2; omega) g2, ⟨rfl, rfl⟩, by show s.1 < (nmR tx len 6 0 s.1).2; omega, rfl, rfl, ⟨rfl, fun _ _ => ⟨rfl, rfl⟩, Nat.le_succ _, fun k hk => ⟨va_up_ne _ _ (by omega), va_up_ne _ _ (by omega)⟩⟩, ?_, fun _ _ q => q, hbg.1, hbg.1⟩
  · intro V lv ov
    have hnn : ¬ (¬ lkR tx len s.1 < 65 ∧ ¬ 76 < lkR tx len s.1) := fun q => hn (by unfold isNm; rw [decide_eq_true q.1, decide_eq_true q.2]; rfl)
    unfold fU rUnit
    rw [nx_k, if_neg hnn, if_pos hc]
    unfold rNum
    rw [nx_k, if_pos hc, show (0 : Int64) = Int64.ofNat 0 from rfl, num_eq 6 0 s.1 1 (by decide) (by decide), Bool.and_false, Bool.or_false]
    rfl
  · refine sem_push (o := 0) (va_up_self _ _ _) (by decide) (fun q => by omega) (fun VC VR hA => ⟨?_, fun x y => ?_⟩)
    · show inR (nmR tx len 6 0 s.1).1.toInt64 = true
      rw [ey1, toL (by omega)]
      exact inR_nat (by omega)
    · show Int32.toInt64 (va_up _ _ _ _) = (nmR tx len 6 0 s.1).1.toInt64
      rw [va_up_self]
end
