/-! ASSESSMENTS OF THE REFERENCE -/
theorem opV_congr {M1 M2 : Mem} (h1 : ∀ a, a ≠ 96 → mI M1 a = mI M2 a) (h2 : ∀ a, a ≠ 121 → mJ M1 a = mJ M2 a) (q k : Nat) (n : Int32) (x y : Int64) : opV M1 q k n x y = opV M2 q k n x y := by
  unfold opV tabR tabM befV
  rw [h1 103 (by decide), h1 104 (by decide), h1 105 (by decide), h1 106 (by decide), h1 108 (by decide), h2 120 (by decide), h2 109 (by decide)]
theorem exR_congr {M1 M2 : Mem} (h1 : ∀ a, a ≠ 96 → mI M1 a = mI M2 a) (h2 : ∀ a, a ≠ 121 → mJ M1 a = mJ M2 a) (q i : Nat) : ∀ (f k dp : Nat) (sk : Nat → Int64), exR M1 q i f k dp sk = exR M2 q i f k dp sk
  | 0, _, _, _ => rfl
  | f + 1, k, dp, sk => by
    rw [exR, exR, h1 100 (by decide), h1 101 (by decide), h1 102 (by decide)]
    unfold opR
    simp only [opV_congr h1 h2, exR_congr h1 h2 q i f]
/-- the memory while lines are worked out: depth, stack, values so far -/
def zS (M : Mem) (d : Int32) (sk wk : Nat → Int64) : Mem := rJ (sI (rJ M 120 wk) 96 32 d) 121 sk
theorem z_I {M : Mem} {d : Int32} {sk wk : Nat → Int64} {a : Nat} (h : a ≠ 96) : mI (zS M d sk wk) a = mI M a := mI_row h
theorem z_Ik {M : Mem} {d : Int32} {sk wk : Nat → Int64} {k : Nat} (h : k ≠ 32) : mI (zS M d sk wk) 96 k = mI M 96 k := (mI_k h : mI (sI M 96 32 d) 96 k = mI M 96 k)
theorem z_J {M : Mem} {d : Int32} {sk wk : Nat → Int64} {a : Nat} (h : a ≠ 120) (h' : a ≠ 121) : mJ (zS M d sk wk) a = mJ M a := by
  unfold zS
  rw [mJ_rn h', mJ_I, mJ_rn h]
theorem z_w {M : Mem} {d : Int32} {sk wk : Nat → Int64} : mJ (zS M d sk wk) 120 = wk := by
  unfold zS
  rw [mJ_rn (by decide), mJ_I, mJ_rs]
theorem z_k {M : Mem} {d : Int32} {sk wk : Nat → Int64} : mJ (zS M d sk wk) 121 = sk := mJ_rs
theorem z_self {M : Mem} : zS M (mI M 96 32) (mJ M 121) (mJ M 120) = M := by
  have e1 : up2 M.1 96 32 (M.1 96 32) = M.1 := by
    funext b j
    unfold up2
    split
    · rename_i h; rw [h.1, h.2]
    · rfl
  have e2 : va_up M.2.1 120 (M.2.1 120) = M.2.1 := by funext b; unfold va_up; by_cases h : b = 120 <;> simp [h]
  have e3 : va_up M.2.1 121 (M.2.1 121) = M.2.1 := by funext b; unfold va_up; by_cases h : b = 121 <;> simp [h]
  show (up2 M.1 96 32 (M.1 96 32), va_up (va_up M.2.1 120 (M.2.1 120)) 121 (M.2.1 121), M.2.2) = M
  rw [e1, e2, e3]
theorem z_up {M : Mem} {d : Int32} {sk wk : Nat → Int64} {i : Nat} {v : Int64} : sJ (zS M d sk wk) 120 i v = zS M d sk (va_up wk i v) := by
  show (up2 M.1 96 32 d, up2 (va_up (va_up M.2.1 120 wk) 121 sk) 120 i v, M.2.2) = (up2 M.1 96 32 d, va_up (va_up M.2.1 120 (va_up wk i v)) 121 sk, M.2.2)
  congr 2
  funext b j
  by_cases h : b = 121
  · subst h
    rw [up2_n _ _ (by omega), va_up_self, va_up_self]
  · rw [va_up_ne _ _ h]
    by_cases h0 : b = 120
    · subst h0
      rw [va_up_self]
      by_cases hj : j = i
      · subst hj; rw [up2_s, va_up_self]
      · rw [up2_n _ _ (fun q => hj q.2), va_up_ne _ _ h, va_up_self, va_up_ne _ _ hj]
    · rw [up2_n _ _ (fun q => h0 q.1), va_up_ne _ _ h, va_up_ne _ _ h0, va_up_ne _ _ h0]
theorem z_x {M : Mem} {d : Int32} {sk wk : Nat → Int64} {dp : Nat} {sk' : Nat → Int64} : xS (zS M d sk wk) dp sk' = zS M (nI dp) sk' wk := by
  show (up2 (up2 M.1 96 32 d) 96 32 (nI dp), va_up (va_up (va_up M.2.1 120 wk) 121 sk) 121 sk', M.2.2) = (up2 M.1 96 32 (nI dp), va_up (va_up M.2.1 120 wk) 121 sk', M.2.2)
  rw [up2_up2, va_upup]
theorem exZ {M : Mem} {d : Int32} {sk wk : Nat → Int64} (q i f : Nat) : exR (zS M d sk wk) q i f 0 0 (mJ (zS M d sk wk) 121) = exR (rJ M 120 wk) q i f 0 0 sk := by
  rw [z_k]
  exact exR_congr (M1 := zS M d sk wk) (M2 := rJ M 120 wk) (fun a ha => z_I ha) (fun a ha => by unfold zS; rw [mJ_rn ha, mJ_I]) q i f 0 0 sk
def plc (M : Mem) (k : Nat) : Nat := (mI M 119 k).toNatClampNeg
def asL (M : Mem) (q : Nat) : Nat → Nat → Int32 → (Nat → Int64) → (Nat → Int64) → Option (Bool × Int32 × (Nat → Int64) × (Nat → Int64))
  | 0, _, d, sk, wk => some (true, d, sk, wk)
  | n + 1, k, d, sk, wk => if mI M 98 (plc M k) = 0 then asL M q n (k + 1) d sk (va_up wk (plc M k) (mI M 107 (12 * q + plc M k)).toInt64) else
    match exR (rJ M 120 wk) q (plc M k) 64 0 0 sk with
    | none => none
    | some r => if r.1 = true then asL M q n (k + 1) (nI r.2.1) r.2.2 (va_up wk (plc M k) (r.2.2 0)) else some (false, nI r.2.1, r.2.2, wk)
def cpJ (f g : Nat → Int64) (q n : Nat) : Nat → Int64 := fun j => if 12 * q ≤ j ∧ j < 12 * q + n then g (j - 12 * q) else f j
theorem cpJ_0 (f g : Nat → Int64) (q : Nat) : cpJ f g q 0 = f := by
  funext j
  unfold cpJ
  rw [if_neg (by omega)]
theorem cpJ_s (f g : Nat → Int64) (q n : Nat) : va_up (cpJ f g q n) (12 * q + n) (g n) = cpJ f g q (n + 1) := by
  funext j
  unfold cpJ
  by_cases h : j = 12 * q + n
  · subst h
    rw [va_up_self, if_pos (by omega), show 12 * q + n - 12 * q = n by omega]
  · rw [va_up_ne _ _ h]
    by_cases z : 12 * q ≤ j ∧ j < 12 * q + n
    · rw [if_pos z, if_pos (by omega)]
    · rw [if_neg z, if_neg (by omega)]
def oldM (M : Mem) (q : Nat) : Int64 := if mI M 108 q = 0 then 0 else mJ M 110 q
/-- behind an assessment: N the memory with the order made, r what was worked out *-/
def asPo (N : Mem) (i j p : Nat) (d : Int32) (sk wk : Nat → Int64) (v : Int64) : Mem := mPost (zS N d sk wk) i p 0 (nI j) (v - oldM N (4 * i + j))
def asVa (N : Mem) (i j p : Nat) (d : Int32) (sk wk : Nat → Int64) (v : Int64) (k : Nat) : Mem := rJ (asPo N i j p d sk wk v) 109 (cpJ (mJ N 109) wk (4 * i + j) k)
def asM (N : Mem) (i j p : Nat) (d : Int32) (sk wk : Nat → Int64) (v : Int64) : Mem := sJ (sI (asVa N i j p d sk wk v 12) 108 (4 * i + j) 1) 110 (4 * i + j) v
theorem asVa_0 {N : Mem} {i j p : Nat} {d : Int32} {sk wk : Nat → Int64} {v : Int64} : asVa N i j p d sk wk v 0 = asPo N i j p d sk wk v := by
  have q1 : mJ (asPo N i j p d sk wk v) 109 = mJ N 109 := by
    unfold asPo mPost
    rw [mJ_I, mJ_row (by decide), mJ_I, mJ_I, z_J (by decide) (by decide)]
  unfold asVa
  rw [cpJ_0, ← q1, rJ_self]
theorem asVa_s {N : Mem} {i j p : Nat} {d : Int32} {sk wk : Nat → Int64} {v : Int64} {k : Nat} : sJ (asVa N i j p d sk wk v k) 109 (12 * (4 * i + j) + k) (wk k) = asVa N i j p d sk wk v (k + 1) := by
  unfold asVa
  rw [sJ_rw, cpJ_s]
theorem asVa_w {N : Mem} {i j p : Nat} {d : Int32} {sk wk : Nat → Int64} {v : Int64} {k : Nat} : mJ (asVa N i j p d sk wk v k) 120 = wk := by
  unfold asVa asPo mPost
  rw [mJ_rn (by decide), mJ_I, mJ_row (by decide), mJ_I, mJ_I, z_w]
def StOk (M : Mem) : Prop := ∀ i, i < 12 → ∃ st, st ≤ 48 ∧ mI M 100 i = nI st
def T_mAssess : PT := fun as M Q X => ∃ t y : Int32, as = [.ref 96, .int t, .int y] ∧ Full M ∧ TabOkM M ∧ StOk M ∧ (¬ (ix t 3 ∧ ix y 4) → Q (some (.long 0)) (thr M 1)) ∧ (∀ i j, i < 3 → j < 4 → t = nI i → y = nI j → ∃ p tl, p ≤ 24 ∧ tl < 12 ∧ mI M 111 i = nI p ∧ mI M 96 8 = nI tl ∧ (((ordM M).length < 12 ∨ p = 24) → Q (some (.long 0)) (sI (plM (sI M 96 0 0)) 96 0 2)) ∧
  ((ordM M).length = 12 → p < 24 → ∃ r, asL (plM (sI M 96 0 0)) (4 * i + j) 12 0 (mI M 96 32) (mJ M 121) (mJ M 120) = some r ∧ (r.1 = false → Q (some (.long 0)) (sI (zS (plM (sI M 96 0 0)) r.2.1 r.2.2.1 r.2.2.2) 96 0 3)) ∧ (r.1 = true → Q (some (.long (r.2.2.2 tl))) (asM (plM (sI M 96 0 0)) i j p r.2.1 r.2.2.1 r.2.2.2 (r.2.2.2 tl)))))
theorem pl_ln {M : Mem} (h : (ordM M).length = 12) : ∀ k, k < 12 → ∃ i, i < 12 ∧ mI (plM (sI M 96 0 0)) 119 k = nI i := by
  intro k hk
  refine ⟨(ordM M).getD k 0, ?_, ?_⟩
  · have hk2 : k < (ordM M).length := by omega
    rw [List.getD_eq_getElem?_getD, List.getElem?_eq_getElem hk2]
    exact ordL_lt (ndM M) 12 0 _ (List.getElem_mem hk2)
  · have h8 := rowA_in (ordM M) 0 (mI M 119) k (by omega)
    rw [Nat.zero_add] at h8
    exact h8
theorem c_X6_assess {l : Launch} (hl : l.stackTraces = false) : Con l yX6_assess wX6_assess 0 5 (T_mAssess) := by
  refine con_of hl (by decide) ?_ ?_
  · intro as M Q X hpt
    obtain ⟨t, y, rfl, hF, htab, hstk, hX1, hQ0⟩ := hpt
    exact Nat.le_of_ble_eq_true rfl
  intro G as M Q X hl' hT hd hpt
  obtain ⟨t, y, rfl, hF, htab, hstk, hX1, hQ0⟩ := hpt
  have hG : (gl G).stackTraces = false := by rw [hl']; exact hl
  show PW G RX6 cX6_assess 7 (some .long) Q X 0 0 [(0, .ref 96), (1, .int t), (2, .int y)] [] M
  have t63 : ∀ i j p tl : Nat, i < 3 → j < 4 → tl < 12 → (ordM M).length = 12 → p < 24 → mI (plM (sI M 96 0 0)) 111 i = nI p → mI M 96 8 = nI tl → (∃ r, asL (plM (sI M 96 0 0)) (4 * i + j) 12 0 (mI M 96 32) (mJ M 121) (mJ M 120) = some r ∧ (r.1 = false → Q (some (.long 0)) (sI (zS (plM (sI M 96 0 0)) r.2.1 r.2.2.1 r.2.2.2) 96 0 3)) ∧ (r.1 = true → Q (some (.long (r.2.2.2 tl))) (asM (plM (sI M 96 0 0)) i j p r.2.1 r.2.2.1 r.2.2.2 (r.2.2.2 tl)))) → PW G RX6 cX6_assess 7 (some .long) Q X 0 63 [(0, .ref 96), (1, .int (nI i)), (2, .int (nI j))] [] (plM (sI M 96 0 0)) := by
    intro i j p tl hi hj htl hlen hp24 ep3 etl hr
    obtain ⟨r, hres, hF1, hT1⟩ := hr
    have t144 : ∀ (d : Int32) (sk wk : Nat → Int64), Q (some (.long (wk tl))) (asM (plM (sI M 96 0 0)) i j p d sk wk (wk tl)) → PW G RX6 cX6_assess 7 (some .long) Q X 0 144 [(0, .ref 96), (1, .int (nI i)), (2, .int (nI j)), (3, .int (nI (4 * i + j)))] [] (zS (plM (sI M 96 0 0)) d sk wk) := by
      intro d sk wk hq
      generalize ev : wk tl = v at hq
      have loop2 : ∀ (n k : Nat), k + n = 12 → PW G RX6 cX6_assess 7 (some .long) Q X 0 187 [(0, .ref 96), (3, .int (nI (4 * i + j))), (4, .long v), (6, .int (nI k))] [] ((asVa (plM (sI M 96 0 0)) i j p d sk wk v k)) := by
        intro n
        induction n with
        | zero =>
          intro k hk
          refine w_iload (pc := 187) dX6_assess_187 rfl ?_
          refine w_bipush (v := 12) (pc := 189) dX6_assess_189 rfl ?_
          refine w_icmp_ge 219 (pc := 191) dX6_assess_191 (by decide) (fun h191 => ?_) (fun h191 => ?_)
          · refine w_aload_n (pc := 219) dX6_assess_219 rfl ?_
            refine w_getR (b := 108) (pc := 220) fl_X6_48 hF (by first | assumption | exact ob rfl) rfl rfl dX6_assess_220 ?_
            refine w_iload_n (pc := 223) dX6_assess_223 rfl ?_
            refine w_iconst (v := 1) (pc := 224) dX6_assess_224 rfl ?_
            refine w_zast (m := 12) (pc := 225) hF (by first | assumption | exact ar rfl) (vin (by omega) (by decide)) (by first | exact Or.inl rfl | exact Or.inr rfl | assumption) dX6_assess_225 ?_
            rw [clN (by omega)]
            refine w_aload_n (pc := 226) dX6_assess_226 rfl ?_
            refine w_getR (b := 110) (pc := 227) fl_X6_55 hF (by first | assumption | exact ob rfl) rfl rfl dX6_assess_227 ?_
            refine w_iload_n (pc := 230) dX6_assess_230 rfl ?_
            refine w_lload (pc := 231) dX6_assess_231 rfl ?_
            refine w_last (m := 12) (pc := 233) hF (by first | assumption | exact ar rfl) (vin (by omega) (by decide)) dX6_assess_233 ?_
            rw [clN (by omega)]
            refine w_lload (pc := 234) dX6_assess_234 rfl ?_
            refine w_lreturn (pc := 236) dX6_assess_236 ?_
            rw [show k = 12 by omega]
            exact hq
          · exact absurd (by rw [show k = 12 by omega]; decide) h191
        | succ n ih =>
          intro k hk
          refine w_iload (pc := 187) dX6_assess_187 rfl ?_
          refine w_bipush (v := 12) (pc := 189) dX6_assess_189 rfl ?_
          refine w_icmp_ge 219 (pc := 191) dX6_assess_191 (by decide) (fun h191 => ?_) (fun h191 => ?_)
          · exact absurd h191 (by rw [show (12 : Int32) = nI 12 from rfl, nI_leI (by omega) (by omega)]; omega)
          · refine w_aload_n (pc := 194) dX6_assess_194 rfl ?_
            refine w_getR (b := 109) (pc := 195) fl_X6_51 hF (by first | assumption | exact ob rfl) rfl rfl dX6_assess_195 ?_
            refine w_bipush (v := 12) (pc := 198) dX6_assess_198 rfl ?_
            refine w_iload_n (pc := 200) dX6_assess_200 rfl ?_
            refine w_imul (pc := 201) dX6_assess_201 ?_
            refine w_iload (pc := 202) dX6_assess_202 rfl ?_
            refine w_iadd (pc := 204) dX6_assess_204 ?_
            refine w_aload_n (pc := 205) dX6_assess_205 rfl ?_
            refine w_getR (b := 120) (pc := 206) fl_X6_85 hF (by first | assumption | exact ob rfl) rfl rfl dX6_assess_206 ?_
            refine w_iload (pc := 209) dX6_assess_209 rfl ?_
            refine w_lald (m := 12) (pc := 211) hF (by first | assumption | exact ar rfl) (vin (by omega) (by decide)) dX6_assess_211 ?_
            rw [asVa_w, clN (by omega)]
            refine w_last (m := 144) (pc := 212) hF (by first | assumption | exact ar rfl) (by rw [cm12]; exact vin (by omega) (by decide)) dX6_assess_212 ?_
            rw [cm12, clN (by omega), asVa_s]
            refine w_iinc (v := nI (k + 1)) (pc := 213) dX6_assess_213 rfl (nI_1 k) (by decide) ?_
            refine w_goto 187 (pc := 216) dX6_assess_216 (by decide) ?_
            exact w_lk (ih (k + 1) (by omega)) (lkc rfl (lkc rfl (lkc rfl (lkc rfl lkn))))
      have t180 : ∀ x : Int64, x = oldM (plM (sI M 96 0 0)) (4 * i + j) → PW G RX6 cX6_assess 7 (some .long) Q X 0 180 [(0, .ref 96), (1, .int (nI i)), (2, .int (nI j)), (3, .int (nI (4 * i + j))), (4, .long v)] [.long x, .long v, .int (nI j), .int 0, .int (nI i), .ref 96] (zS (plM (sI M 96 0 0)) d sk wk) := by
        intro x eo
        refine w_lsub (pc := 180) dX6_assess_180 ?_
        refine w_callV4 (n' := 0) (pc := 181) (c_X6_post hG) cv_X6_208 (by first | assumption | exact ob rfl) hF hT (by omega) (by decide) (Nat.le_of_ble_eq_true rfl) dX6_assess_181 ?_
        refine ⟨i, p, _, _, _, rfl, hF, hi, hp24, (by rw [z_I (by decide)]; exact ep3), ?_⟩
        rw [eo, show mPost (zS (plM (sI M 96 0 0)) d sk wk) i p 0 (nI j) (v - oldM (plM (sI M 96 0 0)) (4 * i + j)) = (asVa (plM (sI M 96 0 0)) i j p d sk wk v 0) from asVa_0.symm]
        dsimp only [psh]
        refine w_iconst (v := 0) (pc := 184) dX6_assess_184 rfl ?_
        refine w_istore 6 (pc := 185) dX6_assess_185 (by decide) ?_
        exact w_lk (loop2 12 0 rfl) (lkc rfl (lkc rfl (lkc rfl (lkc rfl lkn))))
      refine w_aload_n (pc := 144) dX6_assess_144 rfl ?_
      refine w_getR (b := 120) (pc := 145) fl_X6_85 hF (by first | assumption | exact ob rfl) rfl rfl dX6_assess_145 ?_
      refine w_aload_n (pc := 148) dX6_assess_148 rfl ?_
      refine w_getI (pc := 149) fl_X6_29 hF (by first | assumption | exact ob rfl) rfl dX6_assess_149 ?_
      rw [z_Ik (by decide), show mI (plM (sI M 96 0 0)) 96 8 = nI tl from etl]
      refine w_lald (m := 12) (pc := 152) hF (by first | assumption | exact ar rfl) (vin htl (by decide)) dX6_assess_152 ?_
      rw [z_w, clN (by omega), ev]
      refine w_lstore 4 (pc := 153) dX6_assess_153 (by decide) ?_
      refine w_aload_n (pc := 155) dX6_assess_155 rfl ?_
      refine w_iload_n (pc := 156) dX6_assess_156 rfl ?_
      refine w_iconst (v := 0) (pc := 157) dX6_assess_157 rfl ?_
      refine w_iload_n (pc := 158) dX6_assess_158 rfl ?_
      refine w_lload (pc := 159) dX6_assess_159 rfl ?_
      refine w_aload_n (pc := 161) dX6_assess_161 rfl ?_
      refine w_getR (b := 108) (pc := 162) fl_X6_48 hF (by first | assumption | exact ob rfl) rfl rfl dX6_assess_162 ?_
      refine w_iload_n (pc := 165) dX6_assess_165 rfl ?_
      refine w_zald (m := 12) (pc := 166) hF (by first | assumption | exact ar rfl) (vin (by omega) (by decide)) dX6_assess_166 ?_
      refine w_if_eq 179 (pc := 167) dX6_assess_167 (by decide) (fun h167 => ?_) (fun h167 => ?_)
      · rw [z_I (by decide), clN (by omega)] at h167
        have eo : oldM (plM (sI M 96 0 0)) (4 * i + j) = 0 := if_pos h167
        refine w_lconst (v := 0) (pc := 179) dX6_assess_179 rfl ?_
        exact w_lk (t180 _ eo.symm) (lkc rfl (lkc rfl (lkc rfl (lkc rfl (lkc rfl lkn)))))
      · rw [z_I (by decide), clN (by omega)] at h167
        have eo : oldM (plM (sI M 96 0 0)) (4 * i + j) = mJ (plM (sI M 96 0 0)) 110 (4 * i + j) := if_neg h167
        refine w_aload_n (pc := 170) dX6_assess_170 rfl ?_
        refine w_getR (b := 110) (pc := 171) fl_X6_55 hF (by first | assumption | exact ob rfl) rfl rfl dX6_assess_171 ?_
        refine w_iload_n (pc := 174) dX6_assess_174 rfl ?_
        refine w_lald (m := 12) (pc := 175) hF (by first | assumption | exact ar rfl) (vin (by omega) (by decide)) dX6_assess_175 ?_
        rw [z_J (by decide) (by decide), clN (by omega)]
        refine w_goto 180 (pc := 176) dX6_assess_176 (by decide) ?_
        exact w_lk (t180 _ eo.symm) (lkc rfl (lkc rfl (lkc rfl (lkc rfl (lkc rfl lkn)))))
    have loop1 : ∀ (n k : Nat) (d : Int32) (sk wk : Nat → Int64), k + n = 12 → asL (plM (sI M 96 0 0)) (4 * i + j) n k d sk wk = some r → PW G RX6 cX6_assess 7 (some .long) Q X 0 72 [(0, .ref 96), (1, .int (nI i)), (2, .int (nI j)), (3, .int (nI (4 * i + j))), (4, .int (nI k))] [] (zS (plM (sI M 96 0 0)) d sk wk) := by
      intro n
      induction n with
      | zero =>
        intro k d sk wk hk hres
        refine w_iload (pc := 72) dX6_assess_72 rfl ?_
        refine w_bipush (v := 12) (pc := 74) dX6_assess_74 rfl ?_
        refine w_icmp_ge 144 (pc := 76) dX6_assess_76 (by decide) (fun h76 => ?_) (fun h76 => ?_)
        · have hres := Option.some.inj hres
          subst hres
          exact w_lk (t144 d sk wk (hT1 rfl)) (lkc rfl (lkc rfl (lkc rfl (lkc rfl lkn))))
        · exact absurd (by rw [show k = 12 by omega]; decide) h76
      | succ n ih =>
        intro k d sk wk hk hres
        obtain ⟨ln, hln, eln⟩ := pl_ln hlen k (by omega)
        have epl : plc (plM (sI M 96 0 0)) k = ln := by unfold plc; rw [eln, clN (by omega)]
        refine w_iload (pc := 72) dX6_assess_72 rfl ?_
        refine w_bipush (v := 12) (pc := 74) dX6_assess_74 rfl ?_
        refine w_icmp_ge 144 (pc := 76) dX6_assess_76 (by decide) (fun h76 => ?_) (fun h76 => ?_)
        · exact absurd h76 (by rw [show (12 : Int32) = nI 12 from rfl, nI_leI (by omega) (by omega)]; omega)
        · refine w_aload_n (pc := 79) dX6_assess_79 rfl ?_
          refine w_getR (b := 119) (pc := 80) fl_X6_82 hF (by first | assumption | exact ob rfl) rfl rfl dX6_assess_80 ?_
          refine w_iload (pc := 83) dX6_assess_83 rfl ?_
          refine w_iald (m := 12) (pc := 85) hF (by first | assumption | exact ar rfl) (vin (by omega) (by decide)) dX6_assess_85 ?_
          rw [clN (by omega), show mI (zS (plM (sI M 96 0 0)) d sk wk) 119 k = nI ln from (by rw [z_I (by decide)]; exact eln)]
          refine w_istore 5 (pc := 86) dX6_assess_86 (by decide) ?_
          refine w_aload_n (pc := 88) dX6_assess_88 rfl ?_
          refine w_getR (b := 98) (pc := 89) fl_X6_13 hF (by first | assumption | exact ob rfl) rfl rfl dX6_assess_89 ?_
          refine w_iload (pc := 92) dX6_assess_92 rfl ?_
          refine w_zald (m := 12) (pc := 94) hF (by first | assumption | exact ar rfl) (vin hln (by decide)) dX6_assess_94 ?_
          refine w_if_ne 121 (pc := 95) dX6_assess_95 (by decide) (fun h95 => ?_) (fun h95 => ?_)
          · rw [z_I (by decide), clN (by omega)] at h95
            rw [asL, epl, if_neg h95] at hres
            obtain ⟨st, hst, est⟩ := hstk ln hln
            have ex9 := exZ (M := (plM (sI M 96 0 0))) (d := d) (sk := sk) (wk := wk) (4 * i + j) ln 64
            cases er : exR (rJ (plM (sI M 96 0 0)) 120 wk) (4 * i + j) ln 64 0 0 sk with
            | none => rw [er] at hres; exact absurd hres (by simp)
            | some r9 =>
            rw [er] at hres
            dsimp only at hres
            refine w_aload_n (pc := 121) dX6_assess_121 rfl ?_
            refine w_iload_n (pc := 122) dX6_assess_122 rfl ?_
            refine w_iload (pc := 123) dX6_assess_123 rfl ?_
            refine w_callV2 (n' := 0) (pc := 125) (c_X6_workOut hG) cv_X6_205 (by first | assumption | exact ob rfl) hF hT (by omega) (by decide) (Nat.le_of_ble_eq_true rfl) dX6_assess_125 ?_
            refine ⟨(4 * i + j), ln, st, 64, r9, rfl, hF, (by omega), hln, (fun t ht => by rw [z_I (by decide)]; exact htab t ht), hst, (by rw [z_I (by decide)]; exact est), ex9.trans er, (fun hr => ?_), (fun hr => ?_)⟩
            · dsimp only [psh]
              rw [if_pos hr] at hres
              rw [z_x, z_up]
              refine w_if_ne 138 (pc := 128) dX6_assess_128 (by decide) (fun h128 => ?_) (fun h128 => ?_)
              · refine w_iinc (v := nI (k + 1)) (pc := 138) dX6_assess_138 rfl (nI_1 k) (by decide) ?_
                refine w_goto 72 (pc := 141) dX6_assess_141 (by decide) ?_
                exact w_lk (ih (k + 1) _ _ _ (by omega) hres) (lkc rfl (lkc rfl (lkc rfl (lkc rfl (lkc rfl lkn)))))
              · exact absurd h128 (by decide)
            · dsimp only [psh]
              rw [if_neg (by rw [hr]; decide)] at hres
              have hres := Option.some.inj hres
              subst hres
              rw [z_x]
              refine w_if_ne 138 (pc := 128) dX6_assess_128 (by decide) (fun h128 => ?_) (fun h128 => ?_)
              · exact absurd rfl h128
              · refine w_aload_n (pc := 131) dX6_assess_131 rfl ?_
                refine w_iconst (v := 3) (pc := 132) dX6_assess_132 rfl ?_
                refine w_callV1 (n' := 0) (pc := 133) (c_X6_refuse hG) cv_X6_163 (by first | assumption | exact ob rfl) hF hT (by omega) (by decide) (Nat.le_of_ble_eq_true rfl) dX6_assess_133 ?_
                refine ⟨_, rfl, hF, ?_⟩
                dsimp only [psh]
                refine w_i2l (pc := 136) dX6_assess_136 ?_
                refine w_lreturn (pc := 137) dX6_assess_137 ?_
                exact hF1 rfl
          · rw [z_I (by decide), clN (by omega)] at h95
            rw [asL, epl, if_pos h95] at hres
            refine w_aload_n (pc := 98) dX6_assess_98 rfl ?_
            refine w_getR (b := 120) (pc := 99) fl_X6_85 hF (by first | assumption | exact ob rfl) rfl rfl dX6_assess_99 ?_
            refine w_iload (pc := 102) dX6_assess_102 rfl ?_
            refine w_aload_n (pc := 104) dX6_assess_104 rfl ?_
            refine w_getR (b := 107) (pc := 105) fl_X6_45 hF (by first | assumption | exact ob rfl) rfl rfl dX6_assess_105 ?_
            refine w_bipush (v := 12) (pc := 108) dX6_assess_108 rfl ?_
            refine w_iload_n (pc := 110) dX6_assess_110 rfl ?_
            refine w_imul (pc := 111) dX6_assess_111 ?_
            refine w_iload (pc := 112) dX6_assess_112 rfl ?_
            refine w_iadd (pc := 114) dX6_assess_114 ?_
            refine w_iald (m := 144) (pc := 115) hF (by first | assumption | exact ar rfl) (by rw [cm12]; exact vin (by omega) (by decide)) dX6_assess_115 ?_
            rw [z_I (by decide), cm12, clN (by omega)]
            refine w_i2l (pc := 116) dX6_assess_116 ?_
            refine w_last (m := 12) (pc := 117) hF (by first | assumption | exact ar rfl) (vin hln (by decide)) dX6_assess_117 ?_
            rw [clN (by omega), z_up]
            refine w_goto 138 (pc := 118) dX6_assess_118 (by decide) ?_
            refine w_iinc (v := nI (k + 1)) (pc := 138) dX6_assess_138 rfl (nI_1 k) (by decide) ?_
            refine w_goto 72 (pc := 141) dX6_assess_141 (by decide) ?_
            exact w_lk (ih (k + 1) _ _ _ (by omega) hres) (lkc rfl (lkc rfl (lkc rfl (lkc rfl (lkc rfl lkn)))))
    refine w_iconst (v := 4) (pc := 63) dX6_assess_63 rfl ?_
    refine w_iload_n (pc := 64) dX6_assess_64 rfl ?_
    refine w_imul (pc := 65) dX6_assess_65 ?_
    refine w_iload_n (pc := 66) dX6_assess_66 rfl ?_
    refine w_iadd (pc := 67) dX6_assess_67 ?_
    rw [cm4]
    refine w_istore_n 3 (pc := 68) rfl dX6_assess_68 (by decide) ?_
    refine w_iconst (v := 0) (pc := 69) dX6_assess_69 rfl ?_
    refine w_istore 4 (pc := 70) dX6_assess_70 (by decide) ?_
    have h0 := loop1 12 0 (mI (plM (sI M 96 0 0)) 96 32) (mJ (plM (sI M 96 0 0)) 121) (mJ (plM (sI M 96 0 0)) 120) rfl hres
    rw [z_self] at h0
    exact w_lk h0 (lkc rfl (lkc rfl (lkc rfl (lkc rfl (lkc rfl lkn)))))
  refine w_aload_n (pc := 0) dX6_assess_0 rfl ?_
  refine w_iconst (v := 0) (pc := 1) dX6_assess_1 rfl ?_
  refine w_putI (pc := 2) fp_X6_91 hF (by first | assumption | exact ob rfl) rfl dX6_assess_2 ?_
  refine w_iload_n (pc := 5) dX6_assess_5 rfl ?_
  refine w_i2l (pc := 6) dX6_assess_6 ?_
  refine w_lconst (v := 0) (pc := 7) dX6_assess_7 rfl ?_
  refine w_ldc2 (pc := 8) kl_X6_135 dX6_assess_8 ?_
  refine w_callS3 (n' := 0) (pc := 11) (c_X6_in hG) cs_X6_137 hT (by omega) (by decide) (Nat.le_of_ble_eq_true rfl) dX6_assess_11 ?_
  refine ⟨_, _, _, rfl, ?_⟩
  dsimp only [psh]
  refine w_if_eq 29 (pc := 14) dX6_assess_14 (by decide) (fun h14 => ?_) (fun h14 => ?_)
  · have hx14 := ix_out (n := 2) (N := 2) rfl (by decide) (in_f (lo := 0) (hi := 2) rfl rfl h14)
    have hx : ¬ (ix t 3 ∧ ix y 4) := fun q => hx14 q.1
    refine w_aload_n (pc := 29) dX6_assess_29 rfl ?_
    refine w_iconst (v := 1) (pc := 30) dX6_assess_30 rfl ?_
    refine w_callV1 (n' := 0) (pc := 31) (c_X6_refuse hG) cv_X6_163 (by first | assumption | exact ob rfl) hF hT (by omega) (by decide) (Nat.le_of_ble_eq_true rfl) dX6_assess_31 ?_
    refine ⟨_, rfl, hF, ?_⟩
    dsimp only [psh]
    refine w_i2l (pc := 34) dX6_assess_34 ?_
    refine w_lreturn (pc := 35) dX6_assess_35 ?_
    exact hX1 hx
  · obtain ⟨i, hi, rfl⟩ := ix_in (n := 2) (N := 2) rfl (by decide) (in_t (lo := 0) (hi := 2) rfl rfl h14)
    refine w_iload_n (pc := 17) dX6_assess_17 rfl ?_
    refine w_i2l (pc := 18) dX6_assess_18 ?_
    refine w_lconst (v := 0) (pc := 19) dX6_assess_19 rfl ?_
    refine w_ldc2 (pc := 20) kl_X6_180 dX6_assess_20 ?_
    refine w_callS3 (n' := 0) (pc := 23) (c_X6_in hG) cs_X6_137 hT (by omega) (by decide) (Nat.le_of_ble_eq_true rfl) dX6_assess_23 ?_
    refine ⟨_, _, _, rfl, ?_⟩
    dsimp only [psh]
    refine w_if_ne 36 (pc := 26) dX6_assess_26 (by decide) (fun h26 => ?_) (fun h26 => ?_)
    · obtain ⟨j, hj, rfl⟩ := ix_in (n := 3) (N := 3) rfl (by decide) (in_t (lo := 0) (hi := 3) rfl rfl h26)
      obtain ⟨p, tl, hp, htl, ep, etl, hX2, hQ1⟩ := hQ0 i j hi hj rfl rfl
      have ep3 : mI (plM (sI M 96 0 0)) 111 i = nI p := ep
      refine w_aload_n (pc := 36) dX6_assess_36 rfl ?_
      refine w_callV0 (n' := 0) (pc := 37) (c_X6_makeOrder hG) cv_X6_177 (by first | assumption | exact ob rfl) hF hT (by omega) (by decide) (Nat.le_of_ble_eq_true rfl) dX6_assess_37 ?_
      refine ⟨rfl, hF, ?_⟩
      rw [show rI (sI M 96 0 0) 119 (rowA 0 (ordL (ndM (sI M 96 0 0)) 12 0) (mI (sI M 96 0 0) 119)) = (plM (sI M 96 0 0)) from rfl, show ordL (ndM (sI M 96 0 0)) 12 0 = ordM M from rfl]
      have hol : (ordM M).length ≤ 12 := by have := ordL_len (ndM M) 12 0; unfold ordM; omega
      dsimp only [psh]
      refine w_bipush (v := 12) (pc := 40) dX6_assess_40 rfl ?_
      refine w_icmp_lt 56 (pc := 42) dX6_assess_42 (by decide) (fun h42 => ?_) (fun h42 => ?_)
      · have h9 : (ordM M).length < 12 := by rw [show (12 : Int32) = nI 12 from rfl, nI_ltI (by omega) (by omega)] at h42; exact h42
        refine w_aload_n (pc := 56) dX6_assess_56 rfl ?_
        refine w_iconst (v := 2) (pc := 57) dX6_assess_57 rfl ?_
        refine w_callV1 (n' := 0) (pc := 58) (c_X6_refuse hG) cv_X6_163 (by first | assumption | exact ob rfl) hF hT (by omega) (by decide) (Nat.le_of_ble_eq_true rfl) dX6_assess_58 ?_
        refine ⟨_, rfl, hF, ?_⟩
        dsimp only [psh]
        refine w_i2l (pc := 61) dX6_assess_61 ?_
        refine w_lreturn (pc := 62) dX6_assess_62 ?_
        exact hX2 (by first | exact Or.inl h9 | exact Or.inr h8)
      · have h9 : (ordM M).length = 12 := by rw [show (12 : Int32) = nI 12 from rfl, nI_ltI (by omega) (by omega)] at h42; omega
        refine w_aload_n (pc := 45) dX6_assess_45 rfl ?_
        refine w_getR (b := 111) (pc := 46) fl_X6_58 hF (by first | assumption | exact ob rfl) rfl rfl dX6_assess_46 ?_
        refine w_iload_n (pc := 49) dX6_assess_49 rfl ?_
        refine w_iald (m := 3) (pc := 50) hF (by first | assumption | exact ar rfl) (vin hi (by decide)) dX6_assess_50 ?_
        rw [clN (by omega), show mI (plM (sI M 96 0 0)) 111 i = nI p from ep3]
        refine w_bipush (v := 24) (pc := 51) dX6_assess_51 rfl ?_
        refine w_icmp_ne 63 (pc := 53) dX6_assess_53 (by decide) (fun h53 => ?_) (fun h53 => ?_)
        · have h8 : p < 24 := by rw [show (24 : Int32) = nI 24 from rfl, nI_eq (by omega) (by omega)] at h53; omega
          exact w_lk (t63 i j p tl hi hj htl h9 h8 ep3 etl (hQ1 h9 h8)) (lkc rfl (lkc rfl (lkc rfl lkn)))
        · have h8 : p = 24 := by rw [show (24 : Int32) = nI 24 from rfl, nI_eq (by omega) (by omega)] at h53; exact h53
          refine w_aload_n (pc := 56) dX6_assess_56 rfl ?_
          refine w_iconst (v := 2) (pc := 57) dX6_assess_57 rfl ?_
          refine w_callV1 (n' := 0) (pc := 58) (c_X6_refuse hG) cv_X6_163 (by first | assumption | exact ob rfl) hF hT (by omega) (by decide) (Nat.le_of_ble_eq_true rfl) dX6_assess_58 ?_
          refine ⟨_, rfl, hF, ?_⟩
          dsimp only [psh]
          refine w_i2l (pc := 61) dX6_assess_61 ?_
          refine w_lreturn (pc := 62) dX6_assess_62 ?_
          exact hX2 (by first | exact Or.inl h9 | exact Or.inr h8)
    · have hx26 := ix_out (n := 3) (N := 3) rfl (by decide) (in_f (lo := 0) (hi := 3) rfl rfl h26)
      have hx : ¬ (ix (nI i) 3 ∧ ix y 4) := fun q => hx26 q.2
      refine w_aload_n (pc := 29) dX6_assess_29 rfl ?_
      refine w_iconst (v := 1) (pc := 30) dX6_assess_30 rfl ?_
      refine w_callV1 (n' := 0) (pc := 31) (c_X6_refuse hG) cv_X6_163 (by first | assumption | exact ob rfl) hF hT (by omega) (by decide) (Nat.le_of_ble_eq_true rfl) dX6_assess_31 ?_
      refine ⟨_, rfl, hF, ?_⟩
      dsimp only [psh]
      refine w_i2l (pc := 34) dX6_assess_34 ?_
      refine w_lreturn (pc := 35) dX6_assess_35 ?_
      exact hX1 hx
