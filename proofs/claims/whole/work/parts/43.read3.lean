/-! THE REFERENCE'S READING: goOn, read, define -/
theorem nmR_le {tx : Nat → Int32} {len b : Nat} (hl : len ≤ b) : ∀ (k : Nat) (x : Int32) (i : Nat), i ≤ b → (nmR tx len k x i).2 ≤ b
  | 0, _, _, h => h
  | k + 1, x, i, h => by
    rw [nmR]
    split
    · rename_i q
      exact nmR_le hl k _ (i + 1) (by have := lk_lt (dg_ne q); omega)
    · exact h
def goN (tx : Nat → Int32) (len : Nat) (s : RS) : Int32 × Nat := nmR tx len 3 0 (s.1 + 1)
def goT (s : RS) : RS := stS s.2.1 (atS s (s.1 + 1))
def goS (tx : Nat → Int32) (len : Nat) (pt : Bool) (s : RS) : Int32 × RS :=
  if lkR tx len s.1 = 42 then (if pt = false ∧ s.1 + 1 < (goN tx len s).2 ∧ lkR tx len (goN tx len s).2 = 37 then 3 else 0, mkS (atS s ((goN tx len s).2 + 1)) 6 (goN tx len s).1)
  else if lkR tx len s.1 = 43 ∨ lkR tx len s.1 = 45 then (2, ptS (goT s) (if lkR tx len s.1 = 43 then 11 else 12) 0)
  else if lkR tx len s.1 = 60 ∨ lkR tx len s.1 = 62 then (if tpS (goT s) = 7 ∨ tpS (goT s) = 8 then (0, goT s) else (2, ptS (goT s) (if lkR tx len s.1 = 60 then 7 else 8) 0))
  else if lkR tx len s.1 = 63 then (if tpS (goT s) = 7 ∨ tpS (goT s) = 8 then (2, ptS (mkS (mkS (popS (goT s)) (if tpS (goT s) = 7 then 9 else 10) 0) 11 0) 9 (nI ((goT s).2.2.2.2.1 + 1))) else (0, goT s))
  else enS (lkR tx len s.1) (atS s (s.1 + 1))
def T_goOn : PT := fun as M' Q X => ∃ (M : Mem) (len : Nat) (s : RS) (pt : Bool), as = [.ref 96, .int (bi pt)] ∧ M' = rS M s ∧ RdOk M len ∧ s.1 ≤ 40 ∧ s.2.1 < 47 ∧ s.2.2.2.2.1 + wtN s.2.2.1 s.2.1 ≤ 46 ∧ MeOk s ∧ Q (some (.int (goS (mI M 97) len pt s).1)) (rS M ((goS (mI M 97) len pt s).2))
theorem c_X6_goOn {l : Launch} (hl : l.stackTraces = false) : Con l yX6_goOn wX6_goOn 0 5 (T_goOn) := by
  refine con_of hl (by decide) ?_ ?_
  · intro as M Q X hpt
    obtain ⟨M, len, s, pt, rfl, rfl, ⟨hF, el, h40⟩, hat, hsg, hma, hme, hQ⟩ := hpt
    exact Nat.le_of_ble_eq_true rfl
  intro G as M Q X hl' hT hd hpt
  obtain ⟨M, len, s, pt, rfl, rfl, ⟨hF, el, h40⟩, hat, hsg, hma, hme, hQ⟩ := hpt
  have hG : (gl G).stackTraces = false := by rw [hl']; exact hl
  show PW G RX6 cX6_goOn 6 (some .int) Q X 0 0 [(0, .ref 96), (1, .int (bi pt))] [] (rS M s)
  have t42 : (lkR (mI M 97) len s.1) = 42 → PW G RX6 cX6_goOn 6 (some .int) Q X 0 25 [(0, .ref 96), (1, .int (bi pt)), (2, .int (lkR (mI M 97) len s.1))] [] (rS M (atS s (s.1 + 1))) := by
    intro hc
    unfold goS at hQ
    rw [if_pos hc] at hQ
    have t67 : ∀ g : Bool, g = decide (pt = false ∧ s.1 + 1 < (goN (mI M 97) len s).2 ∧ lkR (mI M 97) len (goN (mI M 97) len s).2 = 37) → PW G RX6 cX6_goOn 6 (some .int) Q X 0 67 [(0, .ref 96), (1, .int (bi pt)), (4, .int (goN (mI M 97) len s).1)] [.int (bi g)] (rS M (atS s (goN (mI M 97) len s).2)) := by
      intro g eg
      refine w_istore 5 (pc := 67) dX6_goOn_67 (by decide) ?_
      refine w_aload_n (pc := 69) dX6_goOn_69 rfl ?_
      refine w_dup (pc := 70) dX6_goOn_70 rfl ?_
      refine w_getI (pc := 71) fl_X6_110 hF (by first | assumption | exact ob rfl) rfl dX6_goOn_71 ?_
      rw [rs_at, show (atS s (goN (mI M 97) len s).2).1 = (goN (mI M 97) len s).2 from rfl]
      refine w_iconst (v := 1) (pc := 74) dX6_goOn_74 rfl ?_
      refine w_iadd (pc := 75) dX6_goOn_75 ?_
      refine w_putI (pc := 76) fp_X6_110 hF (by first | assumption | exact ob rfl) rfl dX6_goOn_76 ?_
      rw [nI_1, rs_a22, show atS (atS s (goN (mI M 97) len s).2) ((goN (mI M 97) len s).2 + 1) = atS s ((goN (mI M 97) len s).2 + 1) from rfl]
      refine w_aload_n (pc := 79) dX6_goOn_79 rfl ?_
      refine w_bipush (v := 6) (pc := 80) dX6_goOn_80 rfl ?_
      refine w_iload (pc := 82) dX6_goOn_82 rfl ?_
      refine w_callV2 (n' := 0) (pc := 84) (c_X6_make hG) cv_X6_117 (by first | assumption | exact ob rfl) hF hT (by omega) (by decide) (Nat.le_of_ble_eq_true rfl) dX6_goOn_84 ?_
      refine ⟨_, _, rfl, hF, (by rw [rs_ma]; exact vin (show s.2.2.2.2.1 < 48 by omega) (by decide)), ?_⟩
      rw [mk_eq (by show s.2.2.2.2.1 < 2 ^ 31; omega)]
      dsimp only [psh]
      refine w_iload (pc := 87) dX6_goOn_87 rfl ?_
      refine w_if_eq 96 (pc := 89) dX6_goOn_89 (by decide) (fun h89 => ?_) (fun h89 => ?_)
      · rw [bi_0] at h89
        subst h89
        rw [if_neg (of_decide_eq_false eg.symm)] at hQ
        refine w_iconst (v := 0) (pc := 96) dX6_goOn_96 rfl ?_
        refine w_ireturn (pc := 97) dX6_goOn_97 rfl ?_
        exact hQ
      · rw [bi_1] at h89
        subst h89
        rw [if_pos (of_decide_eq_true eg.symm)] at hQ
        refine w_iconst (v := 3) (pc := 92) dX6_goOn_92 rfl ?_
        refine w_goto 97 (pc := 93) dX6_goOn_93 (by decide) ?_
        refine w_ireturn (pc := 97) dX6_goOn_97 rfl ?_
        exact hQ
    refine w_aload_n (pc := 25) dX6_goOn_25 rfl ?_
    refine w_getI (pc := 26) fl_X6_110 hF (by first | assumption | exact ob rfl) rfl dX6_goOn_26 ?_
    rw [rs_at, show (atS s (s.1 + 1)).1 = s.1 + 1 from rfl]
    refine w_istore_n 3 (pc := 29) rfl dX6_goOn_29 (by decide) ?_
    refine w_aload_n (pc := 30) dX6_goOn_30 rfl ?_
    refine w_iconst (v := 3) (pc := 31) dX6_goOn_31 rfl ?_
    refine w_callV1 (n' := 0) (pc := 32) (c_X6_number hG) cv_X6_124 (by first | assumption | exact ob rfl) hF hT (by omega) (by decide) (Nat.le_of_ble_eq_true rfl) dX6_goOn_32 ?_
    refine ⟨M, len, (atS s (s.1 + 1)), 3, rfl, rfl, ⟨hF, el, h40⟩, (by show s.1 + 1 ≤ 41; omega), (by decide), ?_⟩
    rw [show nmR (mI M 97) len 3 0 (atS s (s.1 + 1)).1 = (goN (mI M 97) len s) from rfl, show atS (atS s (s.1 + 1)) (goN (mI M 97) len s).2 = atS s (goN (mI M 97) len s).2 from rfl]
    have hN : (goN (mI M 97) len s).2 ≤ 41 := nmR_le (by omega) 3 0 (s.1 + 1) (by omega)
    dsimp only [psh]
    refine w_istore 4 (pc := 35) dX6_goOn_35 (by decide) ?_
    refine w_iload_n (pc := 37) dX6_goOn_37 rfl ?_
    refine w_if_ne 66 (pc := 38) dX6_goOn_38 (by decide) (fun h38 => ?_) (fun h38 => ?_)
    · rw [bi_1] at h38
      have hg : false = decide (pt = false ∧ s.1 + 1 < (goN (mI M 97) len s).2 ∧ lkR (mI M 97) len (goN (mI M 97) len s).2 = 37) := (decide_eq_false (fun q => by rw [h38] at q; exact absurd q.1 (by decide))).symm
      refine w_iconst (v := 0) (pc := 66) dX6_goOn_66 rfl ?_
      exact w_lk (t67 _ hg) (lkc rfl (lkc rfl (lkc rfl lkn)))
    · rw [bi_0] at h38
      refine w_aload_n (pc := 41) dX6_goOn_41 rfl ?_
      refine w_getI (pc := 42) fl_X6_110 hF (by first | assumption | exact ob rfl) rfl dX6_goOn_42 ?_
      rw [rs_at, show (atS s (goN (mI M 97) len s).2).1 = (goN (mI M 97) len s).2 from rfl]
      refine w_iload_n (pc := 45) dX6_goOn_45 rfl ?_
      refine w_icmp_le 66 (pc := 46) dX6_goOn_46 (by decide) (fun h46 => ?_) (fun h46 => ?_)
      · have hg : false = decide (pt = false ∧ s.1 + 1 < (goN (mI M 97) len s).2 ∧ lkR (mI M 97) len (goN (mI M 97) len s).2 = 37) := (decide_eq_false (fun q => by rw [nI_leI (by omega) (by omega)] at h46; omega)).symm
        refine w_iconst (v := 0) (pc := 66) dX6_goOn_66 rfl ?_
        exact w_lk (t67 _ hg) (lkc rfl (lkc rfl (lkc rfl lkn)))
      · have h46b : s.1 + 1 < (goN (mI M 97) len s).2 := by rw [nI_leI (by omega) (by omega)] at h46; omega
        refine w_aload_n (pc := 49) dX6_goOn_49 rfl ?_
        refine w_aload_n (pc := 50) dX6_goOn_50 rfl ?_
        refine w_getI (pc := 51) fl_X6_110 hF (by first | assumption | exact ob rfl) rfl dX6_goOn_51 ?_
        rw [rs_at, show (atS s (goN (mI M 97) len s).2).1 = (goN (mI M 97) len s).2 from rfl]
        refine w_callV1 (n' := 0) (pc := 54) (c_X6_look hG) cv_X6_113 (by first | assumption | exact ob rfl) hF hT (by omega) (by decide) (Nat.le_of_ble_eq_true rfl) dX6_goOn_54 ?_
        refine ⟨nI ((goN (mI M 97) len s).2), (by first | rfl | rw [nI_1] | (rw [show (2 : Int32) = nI 2 from rfl, nI_add])), hF, (fun q => by rw [rs_len, el, nI_leI (by omega) (by omega)] at q; exact vin (by omega) (by decide)), ?_⟩
        rw [lk_eq el (by omega) (by omega)]
        dsimp only [psh]
        refine w_bipush (v := 37) (pc := 57) dX6_goOn_57 rfl ?_
        refine w_icmp_ne 66 (pc := 59) dX6_goOn_59 (by decide) (fun h59 => ?_) (fun h59 => ?_)
        · have hg : false = decide (pt = false ∧ s.1 + 1 < (goN (mI M 97) len s).2 ∧ lkR (mI M 97) len (goN (mI M 97) len s).2 = 37) := (decide_eq_false (fun q => h59 q.2.2)).symm
          refine w_iconst (v := 0) (pc := 66) dX6_goOn_66 rfl ?_
          exact w_lk (t67 _ hg) (lkc rfl (lkc rfl (lkc rfl lkn)))
        · have hg : true = decide (pt = false ∧ s.1 + 1 < (goN (mI M 97) len s).2 ∧ lkR (mI M 97) len (goN (mI M 97) len s).2 = 37) := (decide_eq_true ⟨h38, h46b, h59⟩).symm
          refine w_iconst (v := 1) (pc := 62) dX6_goOn_62 rfl ?_
          refine w_goto 67 (pc := 63) dX6_goOn_63 (by decide) ?_
          exact w_lk (t67 _ hg) (lkc rfl (lkc rfl (lkc rfl lkn)))
  have t110 : ¬ (lkR (mI M 97) len s.1) = 42 → ((lkR (mI M 97) len s.1) = 43 ∨ (lkR (mI M 97) len s.1) = 45) → PW G RX6 cX6_goOn 6 (some .int) Q X 0 110 [(0, .ref 96), (1, .int (bi pt)), (2, .int (lkR (mI M 97) len s.1))] [] (rS M (atS s (s.1 + 1))) := by
    intro n1 hc
    unfold goS at hQ
    rw [if_neg n1, if_pos hc] at hQ
    obtain ⟨g1, g2, g3, g4, g5, g6⟩ := stS_inv s.2.1 (atS s (s.1 + 1)) rfl
    have hq2 : (goT s).2.1 ≤ s.2.1 := g2
    have hq5 : (goT s).2.2.2.2.1 + wtN s.2.2.1 (goT s).2.1 = s.2.2.2.2.1 + wtN s.2.2.1 s.2.1 := g5
    have hq3 : (goT s).2.2.1 = s.2.2.1 := g3
    refine w_aload_n (pc := 110) dX6_goOn_110 rfl ?_
    refine w_callV0 (n' := 0) (pc := 111) (c_X6_settle hG) cv_X6_144 (by first | assumption | exact ob rfl) hF hT (by omega) (by decide) (Nat.le_of_ble_eq_true rfl) dX6_goOn_111 ?_
    refine ⟨M, len, (atS s (s.1 + 1)), rfl, rfl, ⟨hF, el, h40⟩, (by show s.2.1 < 48; omega), (by show s.2.2.2.2.1 + wtN s.2.2.1 s.2.1 ≤ 47; omega), ?_⟩
    rw [show stS (atS s (s.1 + 1)).2.1 (atS s (s.1 + 1)) = goT s from rfl]
    dsimp only [psh]
    refine w_aload_n (pc := 114) dX6_goOn_114 rfl ?_
    refine w_iload_n (pc := 115) dX6_goOn_115 rfl ?_
    refine w_bipush (v := 43) (pc := 116) dX6_goOn_116 rfl ?_
    refine w_icmp_ne 126 (pc := 118) dX6_goOn_118 (by decide) (fun h118 => ?_) (fun h118 => ?_)
    · refine w_bipush (v := 12) (pc := 126) dX6_goOn_126 rfl ?_
      refine w_iconst (v := 0) (pc := 128) dX6_goOn_128 rfl ?_
      refine w_callV2 (n' := 0) (pc := 129) (c_X6_put hG) cv_X6_131 (by first | assumption | exact ob rfl) hF hT (by omega) (by decide) (Nat.le_of_ble_eq_true rfl) dX6_goOn_129 ?_
      refine ⟨_, _, rfl, hF, (by rw [rs_sg]; exact vin (show (goT s).2.1 < 48 by omega) (by decide)), ?_⟩
      rw [pt_eq (by show (goT s).2.1 < 2 ^ 31; omega)]
      dsimp only [psh]
      refine w_pop (pc := 132) dX6_goOn_132 rfl ?_
      refine w_iconst (v := 2) (pc := 133) dX6_goOn_133 rfl ?_
      refine w_ireturn (pc := 134) dX6_goOn_134 rfl ?_
      first | (rw [if_pos h118] at hQ; exact hQ) | (rw [if_neg h118] at hQ; exact hQ)
    · refine w_bipush (v := 11) (pc := 121) dX6_goOn_121 rfl ?_
      refine w_goto 128 (pc := 123) dX6_goOn_123 (by decide) ?_
      refine w_iconst (v := 0) (pc := 128) dX6_goOn_128 rfl ?_
      refine w_callV2 (n' := 0) (pc := 129) (c_X6_put hG) cv_X6_131 (by first | assumption | exact ob rfl) hF hT (by omega) (by decide) (Nat.le_of_ble_eq_true rfl) dX6_goOn_129 ?_
      refine ⟨_, _, rfl, hF, (by rw [rs_sg]; exact vin (show (goT s).2.1 < 48 by omega) (by decide)), ?_⟩
      rw [pt_eq (by show (goT s).2.1 < 2 ^ 31; omega)]
      dsimp only [psh]
      refine w_pop (pc := 132) dX6_goOn_132 rfl ?_
      refine w_iconst (v := 2) (pc := 133) dX6_goOn_133 rfl ?_
      refine w_ireturn (pc := 134) dX6_goOn_134 rfl ?_
      first | (rw [if_pos h118] at hQ; exact hQ) | (rw [if_neg h118] at hQ; exact hQ)
  have t147 : ¬ (lkR (mI M 97) len s.1) = 42 → ¬ ((lkR (mI M 97) len s.1) = 43 ∨ (lkR (mI M 97) len s.1) = 45) → ((lkR (mI M 97) len s.1) = 60 ∨ (lkR (mI M 97) len s.1) = 62) → PW G RX6 cX6_goOn 6 (some .int) Q X 0 147 [(0, .ref 96), (1, .int (bi pt)), (2, .int (lkR (mI M 97) len s.1))] [] (rS M (atS s (s.1 + 1))) := by
    intro n1 n2 hc
    unfold goS at hQ
    rw [if_neg n1, if_neg n2, if_pos hc] at hQ
    obtain ⟨g1, g2, g3, g4, g5, g6⟩ := stS_inv s.2.1 (atS s (s.1 + 1)) rfl
    have hq2 : (goT s).2.1 ≤ s.2.1 := g2
    have hq5 : (goT s).2.2.2.2.1 + wtN s.2.2.1 (goT s).2.1 = s.2.2.2.2.1 + wtN s.2.2.1 s.2.1 := g5
    have hq3 : (goT s).2.2.1 = s.2.2.1 := g3
    refine w_aload_n (pc := 147) dX6_goOn_147 rfl ?_
    refine w_callV0 (n' := 0) (pc := 148) (c_X6_settle hG) cv_X6_144 (by first | assumption | exact ob rfl) hF hT (by omega) (by decide) (Nat.le_of_ble_eq_true rfl) dX6_goOn_148 ?_
    refine ⟨M, len, (atS s (s.1 + 1)), rfl, rfl, ⟨hF, el, h40⟩, (by show s.2.1 < 48; omega), (by show s.2.2.2.2.1 + wtN s.2.2.1 s.2.1 ≤ 47; omega), ?_⟩
    rw [show stS (atS s (s.1 + 1)).2.1 (atS s (s.1 + 1)) = goT s from rfl]
    dsimp only [psh]
    refine w_aload_n (pc := 151) dX6_goOn_151 rfl ?_
    refine w_callV0 (n' := 0) (pc := 152) (c_X6_top hG) cv_X6_141 (by first | assumption | exact ob rfl) hF hT (by omega) (by decide) (Nat.le_of_ble_eq_true rfl) dX6_goOn_152 ?_
    refine ⟨rfl, hF, (fun q9 => by have hp : 0 < (goT s).2.1 := Nat.pos_of_ne_zero (fun z => q9 (by rw [rs_sg, z]; exact Int32.le_refl _)); rw [rs_sg, sb1 hp]; exact vin (by omega) (by decide)), ?_⟩
    rw [tp_eq (by omega)]
    dsimp only [psh]
    refine w_bipush (v := 7) (pc := 155) dX6_goOn_155 rfl ?_
    refine w_icmp_eq 169 (pc := 157) dX6_goOn_157 (by decide) (fun h157 => ?_) (fun h157 => ?_)
    · rw [if_pos (Or.inl h157)] at hQ
      refine w_iconst (v := 0) (pc := 169) dX6_goOn_169 rfl ?_
      refine w_ireturn (pc := 170) dX6_goOn_170 rfl ?_
      exact hQ
    · refine w_aload_n (pc := 160) dX6_goOn_160 rfl ?_
      refine w_callV0 (n' := 0) (pc := 161) (c_X6_top hG) cv_X6_141 (by first | assumption | exact ob rfl) hF hT (by omega) (by decide) (Nat.le_of_ble_eq_true rfl) dX6_goOn_161 ?_
      refine ⟨rfl, hF, (fun q9 => by have hp : 0 < (goT s).2.1 := Nat.pos_of_ne_zero (fun z => q9 (by rw [rs_sg, z]; exact Int32.le_refl _)); rw [rs_sg, sb1 hp]; exact vin (by omega) (by decide)), ?_⟩
      rw [tp_eq (by omega)]
      dsimp only [psh]
      refine w_bipush (v := 8) (pc := 164) dX6_goOn_164 rfl ?_
      refine w_icmp_ne 171 (pc := 166) dX6_goOn_166 (by decide) (fun h166 => ?_) (fun h166 => ?_)
      · rw [if_neg (by rintro (z | z); exact h157 z; exact h166 z)] at hQ
        refine w_aload_n (pc := 171) dX6_goOn_171 rfl ?_
        refine w_iload_n (pc := 172) dX6_goOn_172 rfl ?_
        refine w_bipush (v := 60) (pc := 173) dX6_goOn_173 rfl ?_
        refine w_icmp_ne 183 (pc := 175) dX6_goOn_175 (by decide) (fun h175 => ?_) (fun h175 => ?_)
        · refine w_bipush (v := 8) (pc := 183) dX6_goOn_183 rfl ?_
          refine w_iconst (v := 0) (pc := 185) dX6_goOn_185 rfl ?_
          refine w_callV2 (n' := 0) (pc := 186) (c_X6_put hG) cv_X6_131 (by first | assumption | exact ob rfl) hF hT (by omega) (by decide) (Nat.le_of_ble_eq_true rfl) dX6_goOn_186 ?_
          refine ⟨_, _, rfl, hF, (by rw [rs_sg]; exact vin (show (goT s).2.1 < 48 by omega) (by decide)), ?_⟩
          rw [pt_eq (by show (goT s).2.1 < 2 ^ 31; omega)]
          dsimp only [psh]
          refine w_pop (pc := 189) dX6_goOn_189 rfl ?_
          refine w_iconst (v := 2) (pc := 190) dX6_goOn_190 rfl ?_
          refine w_ireturn (pc := 191) dX6_goOn_191 rfl ?_
          first | (rw [if_pos h175] at hQ; exact hQ) | (rw [if_neg h175] at hQ; exact hQ)
        · refine w_bipush (v := 7) (pc := 178) dX6_goOn_178 rfl ?_
          refine w_goto 185 (pc := 180) dX6_goOn_180 (by decide) ?_
          refine w_iconst (v := 0) (pc := 185) dX6_goOn_185 rfl ?_
          refine w_callV2 (n' := 0) (pc := 186) (c_X6_put hG) cv_X6_131 (by first | assumption | exact ob rfl) hF hT (by omega) (by decide) (Nat.le_of_ble_eq_true rfl) dX6_goOn_186 ?_
          refine ⟨_, _, rfl, hF, (by rw [rs_sg]; exact vin (show (goT s).2.1 < 48 by omega) (by decide)), ?_⟩
          rw [pt_eq (by show (goT s).2.1 < 2 ^ 31; omega)]
          dsimp only [psh]
          refine w_pop (pc := 189) dX6_goOn_189 rfl ?_
          refine w_iconst (v := 2) (pc := 190) dX6_goOn_190 rfl ?_
          refine w_ireturn (pc := 191) dX6_goOn_191 rfl ?_
          first | (rw [if_pos h175] at hQ; exact hQ) | (rw [if_neg h175] at hQ; exact hQ)
      · rw [if_pos (Or.inr h166)] at hQ
        refine w_iconst (v := 0) (pc := 169) dX6_goOn_169 rfl ?_
        refine w_ireturn (pc := 170) dX6_goOn_170 rfl ?_
        exact hQ
  have t198 : ¬ (lkR (mI M 97) len s.1) = 42 → ¬ ((lkR (mI M 97) len s.1) = 43 ∨ (lkR (mI M 97) len s.1) = 45) → ¬ ((lkR (mI M 97) len s.1) = 60 ∨ (lkR (mI M 97) len s.1) = 62) → (lkR (mI M 97) len s.1) = 63 → PW G RX6 cX6_goOn 6 (some .int) Q X 0 198 [(0, .ref 96), (1, .int (bi pt)), (2, .int (lkR (mI M 97) len s.1))] [] (rS M (atS s (s.1 + 1))) := by
    intro n1 n2 n3 hc
    unfold goS at hQ
    rw [if_neg n1, if_neg n2, if_neg n3, if_pos hc] at hQ
    obtain ⟨g1, g2, g3, g4, g5, g6⟩ := stS_inv s.2.1 (atS s (s.1 + 1)) rfl
    have hq2 : (goT s).2.1 ≤ s.2.1 := g2
    have hq5 : (goT s).2.2.2.2.1 + wtN s.2.2.1 (goT s).2.1 = s.2.2.2.2.1 + wtN s.2.2.1 s.2.1 := g5
    have hq3 : (goT s).2.2.1 = s.2.2.1 := g3
    have t222 : tpS (goT s) = 7 ∨ tpS (goT s) = 8 → PW G RX6 cX6_goOn 6 (some .int) Q X 0 222 [(0, .ref 96), (1, .int (bi pt)), (2, .int (lkR (mI M 97) len s.1))] [] (rS M (goT s)) := by
      intro h
      rw [if_pos h] at hQ
      have hp := tp_pos (s := goT s) (by rcases h with z | z <;> rw [z] <;> decide)
      have hw : 1 + wtN s.2.2.1 ((goT s).2.1 - 1) = wtN s.2.2.1 (goT s).2.1 := by
        obtain ⟨k, hk⟩ : ∃ k, (goT s).2.1 = k + 1 := ⟨(goT s).2.1 - 1, by omega⟩
        have h2 : (goT s).2.2.1 ((goT s).2.1 - 1) = 7 ∨ (goT s).2.2.1 ((goT s).2.1 - 1) = 8 := by
          unfold tpS at h
          rw [if_neg (by omega)] at h
          exact h
        rw [hq3, hk] at h2
        rw [hk]
        show 1 + wtN s.2.2.1 k = wtN s.2.2.1 k + wtV (s.2.2.1 k)
        have : wtV (s.2.2.1 k) = 1 := by rcases h2 with z | z <;> (rw [show k + 1 - 1 = k from rfl] at z; rw [z]; rfl)
        omega
      refine w_aload_n (pc := 222) dX6_goOn_222 rfl ?_
      refine w_dup (pc := 223) dX6_goOn_223 rfl ?_
      refine w_getI (pc := 224) fl_X6_107 hF (by first | assumption | exact ob rfl) rfl dX6_goOn_224 ?_
      rw [rs_sg]
      refine w_iconst (v := 1) (pc := 227) dX6_goOn_227 rfl ?_
      refine w_isub (pc := 228) dX6_goOn_228 ?_
      refine w_putI (pc := 229) fp_X6_107 hF (by first | assumption | exact ob rfl) rfl dX6_goOn_229 ?_
      rw [sb1 hp, rs_p23]
      refine w_aload_n (pc := 232) dX6_goOn_232 rfl ?_
      refine w_aload_n (pc := 233) dX6_goOn_233 rfl ?_
      refine w_getR (b := 115) (pc := 234) fl_X6_70 hF (by first | assumption | exact ob rfl) rfl rfl dX6_goOn_234 ?_
      refine w_aload_n (pc := 237) dX6_goOn_237 rfl ?_
      refine w_getI (pc := 238) fl_X6_107 hF (by first | assumption | exact ob rfl) rfl dX6_goOn_238 ?_
      rw [show mI (rS M (popS (goT s))) 96 23 = nI ((goT s).2.1 - 1) from rfl]
      refine w_iald (m := 48) (pc := 241) hF (by first | assumption | exact ar rfl) (vin (by omega) (by decide)) dX6_goOn_241 ?_
      rw [rs_si, clN (by omega), show (popS (goT s)).2.2.1 ((goT s).2.1 - 1) = tpS (goT s) from (by unfold tpS; rw [if_neg (by omega)]; rfl)]
      refine w_bipush (v := 7) (pc := 242) dX6_goOn_242 rfl ?_
      refine w_icmp_ne 252 (pc := 244) dX6_goOn_244 (by decide) (fun h244 => ?_) (fun h244 => ?_)
      · refine w_bipush (v := 10) (pc := 252) dX6_goOn_252 rfl ?_
        refine w_iconst (v := 0) (pc := 254) dX6_goOn_254 rfl ?_
        refine w_callV2 (n' := 0) (pc := 255) (c_X6_make hG) cv_X6_117 (by first | assumption | exact ob rfl) hF hT (by omega) (by decide) (Nat.le_of_ble_eq_true rfl) dX6_goOn_255 ?_
        refine ⟨_, _, rfl, hF, (by rw [rs_ma]; exact vin (show (goT s).2.2.2.2.1 < 48 by omega) (by decide)), ?_⟩
        rw [mk_eq (by show (goT s).2.2.2.2.1 < 2 ^ 31; omega)]
        dsimp only [psh]
        refine w_aload_n (pc := 258) dX6_goOn_258 rfl ?_
        refine w_bipush (v := 11) (pc := 259) dX6_goOn_259 rfl ?_
        refine w_iconst (v := 0) (pc := 261) dX6_goOn_261 rfl ?_
        refine w_callV2 (n' := 0) (pc := 262) (c_X6_make hG) cv_X6_117 (by first | assumption | exact ob rfl) hF hT (by omega) (by decide) (Nat.le_of_ble_eq_true rfl) dX6_goOn_262 ?_
        refine ⟨_, _, rfl, hF, (by rw [rs_ma]; exact vin (show (goT s).2.2.2.2.1 + 1 < 48 by omega) (by decide)), ?_⟩
        rw [mk_eq (by show (goT s).2.2.2.2.1 + 1 < 2 ^ 31; omega)]
        dsimp only [psh]
        refine w_aload_n (pc := 265) dX6_goOn_265 rfl ?_
        refine w_bipush (v := 9) (pc := 266) dX6_goOn_266 rfl ?_
        refine w_aload_n (pc := 268) dX6_goOn_268 rfl ?_
        refine w_getI (pc := 269) fl_X6_104 hF (by first | assumption | exact ob rfl) rfl dX6_goOn_269 ?_
        rw [show ∀ w n w2 n2, mI (rS M (mkS (mkS (popS (goT s)) w n) w2 n2)) 96 26 = nI ((goT s).2.2.2.2.1 + 1 + 1) from fun _ _ _ _ => rfl]
        refine w_iconst (v := 1) (pc := 272) dX6_goOn_272 rfl ?_
        refine w_isub (pc := 273) dX6_goOn_273 ?_
        rw [sb1 (by omega), Nat.add_sub_cancel]
        refine w_callV2 (n' := 0) (pc := 274) (c_X6_put hG) cv_X6_131 (by first | assumption | exact ob rfl) hF hT (by omega) (by decide) (Nat.le_of_ble_eq_true rfl) dX6_goOn_274 ?_
        refine ⟨_, _, rfl, hF, (by rw [rs_sg]; exact vin (show (goT s).2.1 - 1 < 48 by omega) (by decide)), ?_⟩
        rw [pt_eq (by show (goT s).2.1 - 1 < 2 ^ 31; omega)]
        dsimp only [psh]
        refine w_pop (pc := 277) dX6_goOn_277 rfl ?_
        refine w_iconst (v := 2) (pc := 278) dX6_goOn_278 rfl ?_
        refine w_ireturn (pc := 279) dX6_goOn_279 rfl ?_
        first | (rw [if_pos h244] at hQ; exact hQ) | (rw [if_neg h244] at hQ; exact hQ)
      · refine w_bipush (v := 9) (pc := 247) dX6_goOn_247 rfl ?_
        refine w_goto 254 (pc := 249) dX6_goOn_249 (by decide) ?_
        refine w_iconst (v := 0) (pc := 254) dX6_goOn_254 rfl ?_
        refine w_callV2 (n' := 0) (pc := 255) (c_X6_make hG) cv_X6_117 (by first | assumption | exact ob rfl) hF hT (by omega) (by decide) (Nat.le_of_ble_eq_true rfl) dX6_goOn_255 ?_
        refine ⟨_, _, rfl, hF, (by rw [rs_ma]; exact vin (show (goT s).2.2.2.2.1 < 48 by omega) (by decide)), ?_⟩
        rw [mk_eq (by show (goT s).2.2.2.2.1 < 2 ^ 31; omega)]
        dsimp only [psh]
        refine w_aload_n (pc := 258) dX6_goOn_258 rfl ?_
        refine w_bipush (v := 11) (pc := 259) dX6_goOn_259 rfl ?_
        refine w_iconst (v := 0) (pc := 261) dX6_goOn_261 rfl ?_
        refine w_callV2 (n' := 0) (pc := 262) (c_X6_make hG) cv_X6_117 (by first | assumption | exact ob rfl) hF hT (by omega) (by decide) (Nat.le_of_ble_eq_true rfl) dX6_goOn_262 ?_
        refine ⟨_, _, rfl, hF, (by rw [rs_ma]; exact vin (show (goT s).2.2.2.2.1 + 1 < 48 by omega) (by decide)), ?_⟩
        rw [mk_eq (by show (goT s).2.2.2.2.1 + 1 < 2 ^ 31; omega)]
        dsimp only [psh]
        refine w_aload_n (pc := 265) dX6_goOn_265 rfl ?_
        refine w_bipush (v := 9) (pc := 266) dX6_goOn_266 rfl ?_
        refine w_aload_n (pc := 268) dX6_goOn_268 rfl ?_
        refine w_getI (pc := 269) fl_X6_104 hF (by first | assumption | exact ob rfl) rfl dX6_goOn_269 ?_
        rw [show ∀ w n w2 n2, mI (rS M (mkS (mkS (popS (goT s)) w n) w2 n2)) 96 26 = nI ((goT s).2.2.2.2.1 + 1 + 1) from fun _ _ _ _ => rfl]
        refine w_iconst (v := 1) (pc := 272) dX6_goOn_272 rfl ?_
        refine w_isub (pc := 273) dX6_goOn_273 ?_
        rw [sb1 (by omega), Nat.add_sub_cancel]
        refine w_callV2 (n' := 0) (pc := 274) (c_X6_put hG) cv_X6_131 (by first | assumption | exact ob rfl) hF hT (by omega) (by decide) (Nat.le_of_ble_eq_true rfl) dX6_goOn_274 ?_
        refine ⟨_, _, rfl, hF, (by rw [rs_sg]; exact vin (show (goT s).2.1 - 1 < 48 by omega) (by decide)), ?_⟩
        rw [pt_eq (by show (goT s).2.1 - 1 < 2 ^ 31; omega)]
        dsimp only [psh]
        refine w_pop (pc := 277) dX6_goOn_277 rfl ?_
        refine w_iconst (v := 2) (pc := 278) dX6_goOn_278 rfl ?_
        refine w_ireturn (pc := 279) dX6_goOn_279 rfl ?_
        first | (rw [if_pos h244] at hQ; exact hQ) | (rw [if_neg h244] at hQ; exact hQ)
    refine w_aload_n (pc := 198) dX6_goOn_198 rfl ?_
    refine w_callV0 (n' := 0) (pc := 199) (c_X6_settle hG) cv_X6_144 (by first | assumption | exact ob rfl) hF hT (by omega) (by decide) (Nat.le_of_ble_eq_true rfl) dX6_goOn_199 ?_
    refine ⟨M, len, (atS s (s.1 + 1)), rfl, rfl, ⟨hF, el, h40⟩, (by show s.2.1 < 48; omega), (by show s.2.2.2.2.1 + wtN s.2.2.1 s.2.1 ≤ 47; omega), ?_⟩
    rw [show stS (atS s (s.1 + 1)).2.1 (atS s (s.1 + 1)) = goT s from rfl]
    dsimp only [psh]
    refine w_aload_n (pc := 202) dX6_goOn_202 rfl ?_
    refine w_callV0 (n' := 0) (pc := 203) (c_X6_top hG) cv_X6_141 (by first | assumption | exact ob rfl) hF hT (by omega) (by decide) (Nat.le_of_ble_eq_true rfl) dX6_goOn_203 ?_
    refine ⟨rfl, hF, (fun q9 => by have hp : 0 < (goT s).2.1 := Nat.pos_of_ne_zero (fun z => q9 (by rw [rs_sg, z]; exact Int32.le_refl _)); rw [rs_sg, sb1 hp]; exact vin (by omega) (by decide)), ?_⟩
    rw [tp_eq (by omega)]
    dsimp only [psh]
    refine w_bipush (v := 7) (pc := 206) dX6_goOn_206 rfl ?_
    refine w_icmp_eq 222 (pc := 208) dX6_goOn_208 (by decide) (fun h208 => ?_) (fun h208 => ?_)
    · exact w_lk (t222 (by first | exact Or.inl h208 | exact Or.inr h217)) (lkc rfl (lkc rfl (lkc rfl lkn)))
    · refine w_aload_n (pc := 211) dX6_goOn_211 rfl ?_
      refine w_callV0 (n' := 0) (pc := 212) (c_X6_top hG) cv_X6_141 (by first | assumption | exact ob rfl) hF hT (by omega) (by decide) (Nat.le_of_ble_eq_true rfl) dX6_goOn_212 ?_
      refine ⟨rfl, hF, (fun q9 => by have hp : 0 < (goT s).2.1 := Nat.pos_of_ne_zero (fun z => q9 (by rw [rs_sg, z]; exact Int32.le_refl _)); rw [rs_sg, sb1 hp]; exact vin (by omega) (by decide)), ?_⟩
      rw [tp_eq (by omega)]
      dsimp only [psh]
      refine w_bipush (v := 8) (pc := 215) dX6_goOn_215 rfl ?_
      refine w_icmp_eq 222 (pc := 217) dX6_goOn_217 (by decide) (fun h217 => ?_) (fun h217 => ?_)
      · exact w_lk (t222 (by first | exact Or.inl h208 | exact Or.inr h217)) (lkc rfl (lkc rfl (lkc rfl lkn)))
      · rw [if_neg (by rintro (z | z); exact h208 z; exact h217 z)] at hQ
        refine w_iconst (v := 0) (pc := 220) dX6_goOn_220 rfl ?_
        refine w_ireturn (pc := 221) dX6_goOn_221 rfl ?_
        exact hQ
  refine w_aload_n (pc := 0) dX6_goOn_0 rfl ?_
  refine w_aload_n (pc := 1) dX6_goOn_1 rfl ?_
  refine w_getI (pc := 2) fl_X6_110 hF (by first | assumption | exact ob rfl) rfl dX6_goOn_2 ?_
  rw [rs_at]
  refine w_callV1 (n' := 0) (pc := 5) (c_X6_look hG) cv_X6_113 (by first | assumption | exact ob rfl) hF hT (by omega) (by decide) (Nat.le_of_ble_eq_true rfl) dX6_goOn_5 ?_
  refine ⟨nI (s.1), (by first | rfl | rw [nI_1] | (rw [show (2 : Int32) = nI 2 from rfl, nI_add])), hF, (fun q => by rw [rs_len, el, nI_leI (by omega) (by omega)] at q; exact vin (by omega) (by decide)), ?_⟩
  rw [lk_eq el (by omega) (by omega)]
  dsimp only [psh]
  refine w_istore_n 2 (pc := 8) rfl dX6_goOn_8 (by decide) ?_
  refine w_aload_n (pc := 9) dX6_goOn_9 rfl ?_
  refine w_dup (pc := 10) dX6_goOn_10 rfl ?_
  refine w_getI (pc := 11) fl_X6_110 hF (by first | assumption | exact ob rfl) rfl dX6_goOn_11 ?_
  rw [rs_at]
  refine w_iconst (v := 1) (pc := 14) dX6_goOn_14 rfl ?_
  refine w_iadd (pc := 15) dX6_goOn_15 ?_
  refine w_putI (pc := 16) fp_X6_110 hF (by first | assumption | exact ob rfl) rfl dX6_goOn_16 ?_
  rw [nI_1, rs_a22]
  refine w_iload_n (pc := 19) dX6_goOn_19 rfl ?_
  refine w_bipush (v := 42) (pc := 20) dX6_goOn_20 rfl ?_
  refine w_icmp_ne 98 (pc := 22) dX6_goOn_22 (by decide) (fun h22 => ?_) (fun h22 => ?_)
  · refine w_iload_n (pc := 98) dX6_goOn_98 rfl ?_
    refine w_bipush (v := 43) (pc := 99) dX6_goOn_99 rfl ?_
    refine w_icmp_eq 110 (pc := 101) dX6_goOn_101 (by decide) (fun h101 => ?_) (fun h101 => ?_)
    · exact w_lk (t110 h22 (by first | exact Or.inl h101 | exact Or.inr h107)) (lkc rfl (lkc rfl (lkc rfl lkn)))
    · refine w_iload_n (pc := 104) dX6_goOn_104 rfl ?_
      refine w_bipush (v := 45) (pc := 105) dX6_goOn_105 rfl ?_
      refine w_icmp_ne 135 (pc := 107) dX6_goOn_107 (by decide) (fun h107 => ?_) (fun h107 => ?_)
      · have hn2 : ¬ ((lkR (mI M 97) len s.1) = 43 ∨ (lkR (mI M 97) len s.1) = 45) := by rintro (z | z); exact h101 z; exact h107 z
        refine w_iload_n (pc := 135) dX6_goOn_135 rfl ?_
        refine w_bipush (v := 60) (pc := 136) dX6_goOn_136 rfl ?_
        refine w_icmp_eq 147 (pc := 138) dX6_goOn_138 (by decide) (fun h138 => ?_) (fun h138 => ?_)
        · exact w_lk (t147 h22 hn2 (by first | exact Or.inl h138 | exact Or.inr h144)) (lkc rfl (lkc rfl (lkc rfl lkn)))
        · refine w_iload_n (pc := 141) dX6_goOn_141 rfl ?_
          refine w_bipush (v := 62) (pc := 142) dX6_goOn_142 rfl ?_
          refine w_icmp_ne 192 (pc := 144) dX6_goOn_144 (by decide) (fun h144 => ?_) (fun h144 => ?_)
          · have hn3 : ¬ ((lkR (mI M 97) len s.1) = 60 ∨ (lkR (mI M 97) len s.1) = 62) := by rintro (z | z); exact h138 z; exact h144 z
            refine w_iload_n (pc := 192) dX6_goOn_192 rfl ?_
            refine w_bipush (v := 63) (pc := 193) dX6_goOn_193 rfl ?_
            refine w_icmp_ne 280 (pc := 195) dX6_goOn_195 (by decide) (fun h195 => ?_) (fun h195 => ?_)
            · refine w_aload_n (pc := 280) dX6_goOn_280 rfl ?_
              refine w_iload_n (pc := 281) dX6_goOn_281 rfl ?_
              refine w_callV1 (n' := 0) (pc := 282) (c_X6_ends hG) cv_X6_147 (by first | assumption | exact ob rfl) hF hT (by omega) (by decide) (Nat.le_of_ble_eq_true rfl) dX6_goOn_282 ?_
              refine ⟨M, len, (atS s (s.1 + 1)), _, rfl, rfl, ⟨hF, el, h40⟩, (by show s.2.1 < 48; omega), (by show s.2.2.2.2.1 + wtN s.2.2.1 s.2.1 ≤ 47; omega), hme, ?_⟩
              dsimp only [psh]
              refine w_ireturn (pc := 285) dX6_goOn_285 rfl ?_
              unfold goS at hQ
              rw [if_neg h22, if_neg hn2, if_neg hn3, if_neg h195] at hQ
              exact hQ
            · exact w_lk (t198 h22 hn2 hn3 h195) (lkc rfl (lkc rfl (lkc rfl lkn)))
          · exact w_lk (t147 h22 hn2 (by first | exact Or.inl h138 | exact Or.inr h144)) (lkc rfl (lkc rfl (lkc rfl lkn)))
      · exact w_lk (t110 h22 (by first | exact Or.inl h101 | exact Or.inr h107)) (lkc rfl (lkc rfl (lkc rfl lkn)))
  · exact w_lk (t42 h22) (lkc rfl (lkc rfl (lkc rfl lkn)))
