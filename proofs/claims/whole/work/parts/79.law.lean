/-! THE LAW: its script, its cases -/
/-- the script: an array outside, by the id 200 -/
def ScrOk (G : Cx) (L : Nat) (xs : Nat → Int32) : Prop := va_X (gr G 200) L xs (gs G) (gs G).heap ∧ gr G 200 < (gs G).heap.size ∧ ¬ gA G (gr G 200)
section
variable {G : Cx} {own : String} {cc : ByteArray} {nL : Nat} {rt : Option FieldType} {Post : Option Value → Mem → Prop} {PostX : String → Mem → Prop} {n pc : Nat} {ls : List (Nat × Value)} {st : List Value} {M : Mem}
theorem w_sld {L : Nat} {xs : Nat → Int32} {i : Int32} (sc : ScrOk G L xs) (hin : vp_in i L) (d : decode cc pc = .ok (.iaload, 1)) (kk : PW G own cc nL rt Post PostX n (pc + 1) ls (.int (xs i.toNatClampNeg) :: st) M) : PW G own cc nL rt Post PostX n pc ls (.int i :: .ref 200 :: st) M := fun n0 H locs lsA cells slots ok h1 h2 hP hD hS hl =>
  va_sld ok.hx ok.hb sc.1 sc.2.1 sc.2.2 hS hin d (kk n0 H locs lsA cells slots ok h1 h2 hP hD hS hl)
theorem w_scL {L : Nat} {xs : Nat → Int32} (sc : ScrOk G L xs) (d : decode cc pc = .ok (.arraylength, 1)) (kk : PW G own cc nL rt Post PostX n (pc + 1) ls (.int (nI L) :: st) M) : PW G own cc nL rt Post PostX n pc ls (.ref 200 :: st) M := fun n0 H locs lsA cells slots ok h1 h2 hP hD hS hl =>
  va_slen ok.hx ok.hb sc.1 sc.2.1 sc.2.2 hS d (kk n0 H locs lsA cells slots ok h1 h2 hP hD hS hl)
theorem w_n {n' : Nat} (h : n' ≤ n) (kk : PW G own cc nL rt Post PostX n' pc ls st M) : PW G own cc nL rt Post PostX n pc ls st M := fun n0 H locs lsA cells slots ok h1 h2 hP hD hS hl =>
  kk n0 H locs lsA cells slots ok (by omega) (by omega) hP hD hS hl
end
def PQ1 : PQ := fun r _ => r = some (.int 1)
def PX0 : PX := fun _ _ => False
theorem nar_c (x : Int32) : vp_nar .char ((x.toUInt32 % 65536).toInt32) = (x.toUInt32 % 65536).toInt32 := by
  unfold vp_nar
  simp only [narrow]
  have h1 : (x.toUInt32 % 65536).toInt32.toUInt32 = x.toUInt32 % 65536 := rfl
  rw [h1]
  congr 1
  apply UInt32.toNat_inj.mp
  rw [UInt16.toNat_toUInt32, UInt32.toNat_toUInt16, UInt32.toNat_mod]
  have h2 : (65536 : UInt32).toNat = 65536 := rfl
  rw [h2]
  omega
theorem dcmp_0 {v : UInt64} (h : vf_n64 v) : Op.cmpValue (FP.dcmp v v) .l = 0 := by
  have h2 : FP.cmpInt (-1) (FP.dcmp v v) = 0 := Fl.dcmp_of_noNaN64 h
  rw [← h2]
  rcases FP.dcmp v v with _ | (_ | _ | _) <;> rfl
theorem fu_Type {as : List Value} {M : Mem} {Q : PQ} {X : PX} (h : T_mType as M Q X) : Full M := by
  obtain ⟨_, _, _, h, _⟩ := h
  exact h
theorem fu_Clear {as : List Value} {M : Mem} {Q : PQ} {X : PX} (h : T_mClear as M Q X) : Full M := by
  obtain ⟨_, h, _⟩ := h
  exact h
theorem fu_Define {as : List Value} {M : Mem} {Q : PQ} {X : PX} (h : T_mDefine as M Q X) : Full M := by
  obtain ⟨_, _, _, ⟨h, _⟩, _⟩ := h
  exact h
theorem fu_Input {as : List Value} {M : Mem} {Q : PQ} {X : PX} (h : T_mInput as M Q X) : Full M := by
  obtain ⟨_, _, h, _⟩ := h
  exact h
theorem fu_Total {as : List Value} {M : Mem} {Q : PQ} {X : PX} (h : T_mTotal as M Q X) : Full M := by
  obtain ⟨_, _, h, _⟩ := h
  exact h
theorem fu_Bracket {as : List Value} {M : Mem} {Q : PQ} {X : PX} (h : T_mBracket as M Q X) : Full M := by
  obtain ⟨_, _, _, _, h, _⟩ := h
  exact h
theorem fu_Reset {as : List Value} {M : Mem} {Q : PQ} {X : PX} (h : T_mReset as M Q X) : Full M := by
  obtain ⟨_, _, _, h, _⟩ := h
  exact h
theorem fu_Order {as : List Value} {M : Mem} {Q : PQ} {X : PX} (h : T_mOrder as M Q X) : Full M := by
  obtain ⟨_, _, h, _⟩ := h
  exact h
theorem fu_File {as : List Value} {M : Mem} {Q : PQ} {X : PX} (h : T_mFile as M Q X) : Full M := by
  obtain ⟨_, _, _, _, _, h, _⟩ := h
  exact h
theorem fu_Assess {as : List Value} {M : Mem} {Q : PQ} {X : PX} (h : T_mAssess as M Q X) : Full M := by
  obtain ⟨_, _, _, h, _⟩ := h
  exact h
theorem fu_Value {as : List Value} {M : Mem} {Q : PQ} {X : PX} (h : T_mValue as M Q X) : Full M := by
  obtain ⟨_, _, _, _, h, _⟩ := h
  exact h
theorem fu_Share {as : List Value} {M : Mem} {Q : PQ} {X : PX} (h : T_mShare as M Q X) : Full M := by
  obtain ⟨_, _, _, _, h, _⟩ := h
  exact h
theorem fu_Pay {as : List Value} {M : Mem} {Q : PQ} {X : PX} (h : T_mPay as M Q X) : Full M := by
  obtain ⟨_, _, _, h, _⟩ := h
  exact h
theorem fu_Interest {as : List Value} {M : Mem} {Q : PQ} {X : PX} (h : T_mInterest as M Q X) : Full M := by
  obtain ⟨_, _, h, _⟩ := h
  exact h
theorem fu_Pass {as : List Value} {M : Mem} {Q : PQ} {X : PX} (h : T_mPass as M Q X) : Full M := by
  obtain ⟨_, _, h, _⟩ := h
  exact h
theorem fu_Balance {as : List Value} {M : Mem} {Q : PQ} {X : PX} (h : T_mBalance as M Q X) : Full M := by
  obtain ⟨_, _, h, _⟩ := h
  exact h
theorem fu_Posting {as : List Value} {M : Mem} {Q : PQ} {X : PX} (h : T_mPosting as M Q X) : Full M := by
  obtain ⟨_, _, _, _, h, _⟩ := h
  exact h

theorem lc_type {G : Cx} {L r f : Nat} {xs : Nat → Int32} {M : Mem} (hT : gt G = []) (hd : gd G = 1300) (hNc : NcAll (gs G)) (hG : (gl G).stackTraces = false) (sc : ScrOk G L xs) (hL : L ≤ 2560) (hr : 5 * r + 5 ≤ L) (hI : Inv M)
    (tl : ∀ M, Inv M → PW G RL cL_law 9 (some .boolean) PQ1 PX0 (4 * f) 1199 [(0, .ref 200), (1, .ref 0), (2, .ref 96), (3, .ref 122), (4, .ref 123), (5, .int (nI (5 * r)))] [] M) : PW G RL cL_law 9 (some .boolean) PQ1 PX0 (4 * f + 4) 128 [(0, .ref 200), (1, .ref 0), (2, .ref 96), (3, .ref 122), (4, .ref 123), (5, .int (nI (5 * r)))] [] M := by
  have hi1 : vp_in (nI (5 * r) + 1) L := by rw [show (1 : Int32) = nI 1 from rfl, nI_add]; exact vin (by omega) (by omega)
  refine w_aload_n (pc := 128) dL_law_128 rfl ?_
  refine w_aload_n (pc := 129) dL_law_129 rfl ?_
  refine w_iload (pc := 130) dL_law_130 rfl ?_
  refine w_iconst (v := 1) (pc := 132) dL_law_132 rfl ?_
  refine w_iadd (pc := 133) dL_law_133 ?_
  refine w_sld (pc := 134) sc hi1 dL_law_134 ?_
  refine w_i2c (pc := 135) dL_law_135 ?_
  refine w_callV1 (n' := 4 * f) (pc := 136) (c_X5_type hG) cv_L_75 (ob rfl) hI.1 hT (by omega) (by omega) (Nat.le_of_ble_eq_true rfl) dL_law_136 ?_
  refine s_type hI (nar_c _) (fun b M1 mid => ?_)
  dsimp only [psh]
  refine w_aload_n (pc := 139) dL_law_139 rfl ?_
  refine w_aload_n (pc := 140) dL_law_140 rfl ?_
  refine w_iload (pc := 141) dL_law_141 rfl ?_
  refine w_iconst (v := 1) (pc := 143) dL_law_143 rfl ?_
  refine w_iadd (pc := 144) dL_law_144 ?_
  refine w_sld (pc := 145) sc hi1 dL_law_145 ?_
  refine w_i2c (pc := 146) dL_law_146 ?_
  refine w_callV1 (n' := 4 * f) (pc := 147) (c_X6_type hG) cv_L_79 (ob rfl) (fu_Type (mid (fun _ _ => True) (fun _ _ => True) (fun _ _ => trivial))) hT (by omega) (by omega) (Nat.le_of_ble_eq_true rfl) dL_law_147 ?_
  refine mid _ _ (fun M2 hI2 => ?_)
  dsimp only [psh]
  refine w_icmp_eq 1199 (pc := 150) dL_law_150 (by decide) (fun h150 => ?_) (fun h150 => ?_)
  · exact w_lk (tl _ hI2) (lkc rfl (lkc rfl (lkc rfl (lkc rfl (lkc rfl (lkc rfl lkn))))))
  · exact absurd rfl h150
theorem lc_clear {G : Cx} {L r f : Nat} {xs : Nat → Int32} {M : Mem} (hT : gt G = []) (hd : gd G = 1300) (hNc : NcAll (gs G)) (hG : (gl G).stackTraces = false) (sc : ScrOk G L xs) (hL : L ≤ 2560) (hr : 5 * r + 5 ≤ L) (hI : Inv M)
    (tl : ∀ M, Inv M → PW G RL cL_law 9 (some .boolean) PQ1 PX0 (4 * f) 1199 [(0, .ref 200), (1, .ref 0), (2, .ref 96), (3, .ref 122), (4, .ref 123), (5, .int (nI (5 * r)))] [] M) : PW G RL cL_law 9 (some .boolean) PQ1 PX0 (4 * f + 4) 155 [(0, .ref 200), (1, .ref 0), (2, .ref 96), (3, .ref 122), (4, .ref 123), (5, .int (nI (5 * r)))] [] M := by
  refine w_aload_n (pc := 155) dL_law_155 rfl ?_
  refine w_callV0 (n' := 4 * f) (pc := 156) (c_X5_clear hG) cv_L_80 (ob rfl) hI.1 hT (by omega) (by omega) (Nat.le_of_ble_eq_true rfl) dL_law_156 ?_
  refine s_clear hI (fun b M1 mid => ?_)
  dsimp only [psh]
  refine w_aload_n (pc := 159) dL_law_159 rfl ?_
  refine w_callV0 (n' := 4 * f) (pc := 160) (c_X6_clear hG) cv_L_84 (ob rfl) (fu_Clear (mid (fun _ _ => True) (fun _ _ => True) (fun _ _ => trivial))) hT (by omega) (by omega) (Nat.le_of_ble_eq_true rfl) dL_law_160 ?_
  refine mid _ _ (fun M2 hI2 => ?_)
  dsimp only [psh]
  refine w_icmp_eq 1199 (pc := 163) dL_law_163 (by decide) (fun h163 => ?_) (fun h163 => ?_)
  · exact w_lk (tl _ hI2) (lkc rfl (lkc rfl (lkc rfl (lkc rfl (lkc rfl (lkc rfl lkn))))))
  · exact absurd rfl h163
theorem lc_define {G : Cx} {L r f : Nat} {xs : Nat → Int32} {M : Mem} (hT : gt G = []) (hd : gd G = 1300) (hNc : NcAll (gs G)) (hG : (gl G).stackTraces = false) (sc : ScrOk G L xs) (hL : L ≤ 2560) (hr : 5 * r + 5 ≤ L) (hI : Inv M)
    (tl : ∀ M, Inv M → PW G RL cL_law 9 (some .boolean) PQ1 PX0 (4 * f) 1199 [(0, .ref 200), (1, .ref 0), (2, .ref 96), (3, .ref 122), (4, .ref 123), (5, .int (nI (5 * r)))] [] M) : PW G RL cL_law 9 (some .boolean) PQ1 PX0 (4 * f + 4) 168 [(0, .ref 200), (1, .ref 0), (2, .ref 96), (3, .ref 122), (4, .ref 123), (5, .int (nI (5 * r)))] [] M := by
  have hi1 : vp_in (nI (5 * r) + 1) L := by rw [show (1 : Int32) = nI 1 from rfl, nI_add]; exact vin (by omega) (by omega)
  refine w_aload_n (pc := 168) dL_law_168 rfl ?_
  refine w_aload_n (pc := 169) dL_law_169 rfl ?_
  refine w_iload (pc := 170) dL_law_170 rfl ?_
  refine w_iconst (v := 1) (pc := 172) dL_law_172 rfl ?_
  refine w_iadd (pc := 173) dL_law_173 ?_
  refine w_sld (pc := 174) sc hi1 dL_law_174 ?_
  refine w_aload_n (pc := 175) dL_law_175 rfl ?_
  refine w_callSW (n' := 4 * f) (As := [.ref 0, .int (xs (nI (5 * r) + 1).toNatClampNeg), .ref 122]) (st := []) (pc := 176) (cw_define hG) csw_85 hNc hT (by omega) rfl (by omega) rfl (Nat.le_of_ble_eq_true rfl) dL_law_176 ?_
  refine ⟨_, rfl, hI.1, s_define hI (fun n M1 mid => ⟨(by have z := fu_Define (mid (fun _ _ => True) (fun _ _ => True) (fun _ _ _ _ => trivial)); exact z), n, rfl, ?_⟩) (fun E c M1 hm mid => ⟨c, hm, ?_⟩)⟩
  · show PW G RL cL_law 9 (some .boolean) PQ1 PX0 (4 * f) 179 [(0, .ref 200), (1, .ref 0), (2, .ref 96), (3, .ref 122), (4, .ref 123), (5, .int (nI (5 * r)))] [.int 0] (sJ M1 122 0 n.toInt64)
    refine w_istore 6 (pc := 179) dL_law_179 (by decide) ?_
    refine w_aload_n (pc := 181) dL_law_181 rfl ?_
    refine w_aload_n (pc := 182) dL_law_182 rfl ?_
    refine w_iload (pc := 183) dL_law_183 rfl ?_
    refine w_iconst (v := 1) (pc := 185) dL_law_185 rfl ?_
    refine w_iadd (pc := 186) dL_law_186 ?_
    refine w_sld (pc := 187) sc hi1 dL_law_187 ?_
    refine w_callV1 (n' := 4 * f) (pc := 188) (c_X6_define hG) cv_L_90 (ob rfl) (fu_Define (mid (fun _ _ => True) (fun _ _ => True) (fun _ _ _ _ => trivial))) hT (by omega) (by omega) (Nat.le_of_ble_eq_true rfl) dL_law_188 ?_
    refine mid _ _ (fun M2 hI2 ht hj => ?_)
    dsimp only [psh]
    refine w_istore 7 (pc := 191) dL_law_191 (by decide) ?_
    refine w_aload_n (pc := 193) dL_law_193 rfl ?_
    refine w_callV0 (n' := 4 * f) (pc := 194) (c_X6_thrown hG) cv_L_91 (ob rfl) hI2.1 hT (by omega) (by omega) (Nat.le_of_ble_eq_true rfl) dL_law_194 ?_
    refine ⟨rfl, hI2.1, ?_⟩
    dsimp only [psh]
    rw [ht]
    refine w_iload (pc := 197) dL_law_197 rfl ?_
    refine w_icmp_eq 204 (pc := 199) dL_law_199 (by decide) (fun h199 => ?_) (fun h199 => ?_)
    · refine w_iload (pc := 204) dL_law_204 rfl ?_
      refine w_if_ne 221 (pc := 206) dL_law_206 (by decide) (fun h206 => ?_) (fun h206 => ?_)
      · exact absurd rfl h206
      · refine w_aload_n (pc := 209) dL_law_209 rfl ?_
        refine w_iconst (v := 0) (pc := 210) dL_law_210 rfl ?_
        refine w_lald (m := 1) (pc := 211) hI2.1 (by first | assumption | exact ar rfl) (vin (i := 0) (n := 1) (by decide) (by decide)) dL_law_211 ?_
        rw [show mJ M2 122 (0 : Int32).toNatClampNeg = n.toInt64 from hj]
        refine w_iload (pc := 212) dL_law_212 rfl ?_
        refine w_i2l (pc := 214) dL_law_214 ?_
        refine w_lcmp_eq 221 (pc := 215) dL_law_215 dL_law_216 (by decide) (fun h215 => ?_) (fun h215 => ?_)
        · refine w_goto 1199 (pc := 221) dL_law_221 (by decide) ?_
          exact w_lk (tl _ hI2) (lkc rfl (lkc rfl (lkc rfl (lkc rfl (lkc rfl (lkc rfl lkn))))))
        · exact absurd rfl h215
    · exact absurd rfl h199
  · have hc0 : ¬ c = 0 := by
      simp only [List.mem_cons, Prod.mk.injEq, List.not_mem_nil, or_false] at hm
      rcases hm with ⟨-, rfl⟩ | ⟨-, rfl⟩ <;> decide
    show PW G RL cL_law 9 (some .boolean) PQ1 PX0 (4 * f) 179 [(0, .ref 200), (1, .ref 0), (2, .ref 96), (3, .ref 122), (4, .ref 123), (5, .int (nI (5 * r)))] [.int c] M1
    refine w_istore 6 (pc := 179) dL_law_179 (by decide) ?_
    refine w_aload_n (pc := 181) dL_law_181 rfl ?_
    refine w_aload_n (pc := 182) dL_law_182 rfl ?_
    refine w_iload (pc := 183) dL_law_183 rfl ?_
    refine w_iconst (v := 1) (pc := 185) dL_law_185 rfl ?_
    refine w_iadd (pc := 186) dL_law_186 ?_
    refine w_sld (pc := 187) sc hi1 dL_law_187 ?_
    refine w_callV1 (n' := 4 * f) (pc := 188) (c_X6_define hG) cv_L_90 (ob rfl) (fu_Define (mid (fun _ _ => True) (fun _ _ => True) (fun _ _ _ => trivial))) hT (by omega) (by omega) (Nat.le_of_ble_eq_true rfl) dL_law_188 ?_
    refine mid _ _ (fun M2 hI2 ht => ?_)
    dsimp only [psh]
    refine w_istore 7 (pc := 191) dL_law_191 (by decide) ?_
    refine w_aload_n (pc := 193) dL_law_193 rfl ?_
    refine w_callV0 (n' := 4 * f) (pc := 194) (c_X6_thrown hG) cv_L_91 (ob rfl) hI2.1 hT (by omega) (by omega) (Nat.le_of_ble_eq_true rfl) dL_law_194 ?_
    refine ⟨rfl, hI2.1, ?_⟩
    dsimp only [psh]
    rw [ht]
    refine w_iload (pc := 197) dL_law_197 rfl ?_
    refine w_icmp_eq 204 (pc := 199) dL_law_199 (by decide) (fun h199 => ?_) (fun h199 => ?_)
    · refine w_iload (pc := 204) dL_law_204 rfl ?_
      refine w_if_ne 221 (pc := 206) dL_law_206 (by decide) (fun h206 => ?_) (fun h206 => ?_)
      · refine w_goto 1199 (pc := 221) dL_law_221 (by decide) ?_
        exact w_lk (tl _ hI2) (lkc rfl (lkc rfl (lkc rfl (lkc rfl (lkc rfl (lkc rfl lkn))))))
      · exact absurd h206 hc0
    · exact absurd rfl h199
theorem lc_input {G : Cx} {L r f : Nat} {xs : Nat → Int32} {M : Mem} (hT : gt G = []) (hd : gd G = 1300) (hNc : NcAll (gs G)) (hG : (gl G).stackTraces = false) (sc : ScrOk G L xs) (hL : L ≤ 2560) (hr : 5 * r + 5 ≤ L) (hI : Inv M)
    (tl : ∀ M, Inv M → PW G RL cL_law 9 (some .boolean) PQ1 PX0 (4 * f) 1199 [(0, .ref 200), (1, .ref 0), (2, .ref 96), (3, .ref 122), (4, .ref 123), (5, .int (nI (5 * r)))] [] M) : PW G RL cL_law 9 (some .boolean) PQ1 PX0 (4 * f + 4) 224 [(0, .ref 200), (1, .ref 0), (2, .ref 96), (3, .ref 122), (4, .ref 123), (5, .int (nI (5 * r)))] [] M := by
  have hi1 : vp_in (nI (5 * r) + 1) L := by rw [show (1 : Int32) = nI 1 from rfl, nI_add]; exact vin (by omega) (by omega)
  refine w_aload_n (pc := 224) dL_law_224 rfl ?_
  refine w_aload_n (pc := 225) dL_law_225 rfl ?_
  refine w_iload (pc := 226) dL_law_226 rfl ?_
  refine w_iconst (v := 1) (pc := 228) dL_law_228 rfl ?_
  refine w_iadd (pc := 229) dL_law_229 ?_
  refine w_sld (pc := 230) sc hi1 dL_law_230 ?_
  refine w_aload_n (pc := 231) dL_law_231 rfl ?_
  refine w_callSW (n' := 4 * f) (As := [.ref 0, .int (xs (nI (5 * r) + 1).toNatClampNeg), .ref 122]) (st := []) (pc := 232) (cw_input hG) csw_94 hNc hT (by omega) rfl (by omega) rfl (Nat.le_of_ble_eq_true rfl) dL_law_232 ?_
  refine ⟨_, rfl, hI.1, s_input hI (fun n M1 mid => ⟨(by have z := fu_Input (mid (fun _ _ => True) (fun _ _ => True) (fun _ _ _ _ => trivial)); exact z), n, rfl, ?_⟩) (fun E c M1 hm mid => ⟨c, hm, ?_⟩)⟩
  · show PW G RL cL_law 9 (some .boolean) PQ1 PX0 (4 * f) 235 [(0, .ref 200), (1, .ref 0), (2, .ref 96), (3, .ref 122), (4, .ref 123), (5, .int (nI (5 * r)))] [.int 0] (sJ M1 122 0 (if n = true then 1 else 0))
    refine w_istore 6 (pc := 235) dL_law_235 (by decide) ?_
    refine w_aload_n (pc := 237) dL_law_237 rfl ?_
    refine w_aload_n (pc := 238) dL_law_238 rfl ?_
    refine w_iload (pc := 239) dL_law_239 rfl ?_
    refine w_iconst (v := 1) (pc := 241) dL_law_241 rfl ?_
    refine w_iadd (pc := 242) dL_law_242 ?_
    refine w_sld (pc := 243) sc hi1 dL_law_243 ?_
    refine w_callV1 (n' := 4 * f) (pc := 244) (c_X6_input hG) cv_L_96 (ob rfl) (fu_Input (mid (fun _ _ => True) (fun _ _ => True) (fun _ _ _ _ => trivial))) hT (by omega) (by omega) (Nat.le_of_ble_eq_true rfl) dL_law_244 ?_
    refine mid _ _ (fun M2 hI2 ht hj => ?_)
    dsimp only [psh]
    refine w_istore 7 (pc := 247) dL_law_247 (by decide) ?_
    refine w_aload_n (pc := 249) dL_law_249 rfl ?_
    refine w_callV0 (n' := 4 * f) (pc := 250) (c_X6_thrown hG) cv_L_91 (ob rfl) hI2.1 hT (by omega) (by omega) (Nat.le_of_ble_eq_true rfl) dL_law_250 ?_
    refine ⟨rfl, hI2.1, ?_⟩
    dsimp only [psh]
    rw [ht]
    refine w_iload (pc := 253) dL_law_253 rfl ?_
    refine w_icmp_eq 260 (pc := 255) dL_law_255 (by decide) (fun h255 => ?_) (fun h255 => ?_)
    · refine w_iload (pc := 260) dL_law_260 rfl ?_
      refine w_if_ne 284 (pc := 262) dL_law_262 (by decide) (fun h262 => ?_) (fun h262 => ?_)
      · exact absurd rfl h262
      · refine w_aload_n (pc := 265) dL_law_265 rfl ?_
        refine w_iconst (v := 0) (pc := 266) dL_law_266 rfl ?_
        refine w_lald (m := 1) (pc := 267) hI2.1 (by first | assumption | exact ar rfl) (vin (i := 0) (n := 1) (by decide) (by decide)) dL_law_267 ?_
        rw [show mJ M2 122 (0 : Int32).toNatClampNeg = (if n = true then 1 else 0) from hj]
        refine w_iload (pc := 268) dL_law_268 rfl ?_
        refine w_if_eq 277 (pc := 270) dL_law_270 (by decide) (fun h270 => ?_) (fun h270 => ?_)
        · have hb : n = false := bi_0.mp h270
          subst hb
          refine w_lconst (v := 0) (pc := 277) dL_law_277 rfl ?_
          refine w_lcmp_eq 284 (pc := 278) dL_law_278 dL_law_279 (by decide) (fun h278 => ?_) (fun h278 => ?_)
          · refine w_goto 1199 (pc := 284) dL_law_284 (by decide) ?_
            exact w_lk (tl _ hI2) (lkc rfl (lkc rfl (lkc rfl (lkc rfl (lkc rfl (lkc rfl lkn))))))
          · exact absurd rfl h278
        · have hb : n = true := bi_1.mp h270
          subst hb
          refine w_lconst (v := 1) (pc := 273) dL_law_273 rfl ?_
          refine w_goto 278 (pc := 274) dL_law_274 (by decide) ?_
          refine w_lcmp_eq 284 (pc := 278) dL_law_278 dL_law_279 (by decide) (fun h278 => ?_) (fun h278 => ?_)
          · refine w_goto 1199 (pc := 284) dL_law_284 (by decide) ?_
            exact w_lk (tl _ hI2) (lkc rfl (lkc rfl (lkc rfl (lkc rfl (lkc rfl (lkc rfl lkn))))))
          · exact absurd rfl h278
    · exact absurd rfl h255
  · have hc0 : ¬ c = 0 := by
      simp only [List.mem_cons, Prod.mk.injEq, List.not_mem_nil, or_false] at hm
      rw [hm.2]; decide
    show PW G RL cL_law 9 (some .boolean) PQ1 PX0 (4 * f) 235 [(0, .ref 200), (1, .ref 0), (2, .ref 96), (3, .ref 122), (4, .ref 123), (5, .int (nI (5 * r)))] [.int c] M1
    refine w_istore 6 (pc := 235) dL_law_235 (by decide) ?_
    refine w_aload_n (pc := 237) dL_law_237 rfl ?_
    refine w_aload_n (pc := 238) dL_law_238 rfl ?_
    refine w_iload (pc := 239) dL_law_239 rfl ?_
    refine w_iconst (v := 1) (pc := 241) dL_law_241 rfl ?_
    refine w_iadd (pc := 242) dL_law_242 ?_
    refine w_sld (pc := 243) sc hi1 dL_law_243 ?_
    refine w_callV1 (n' := 4 * f) (pc := 244) (c_X6_input hG) cv_L_96 (ob rfl) (fu_Input (mid (fun _ _ => True) (fun _ _ => True) (fun _ _ _ => trivial))) hT (by omega) (by omega) (Nat.le_of_ble_eq_true rfl) dL_law_244 ?_
    refine mid _ _ (fun M2 hI2 ht => ?_)
    dsimp only [psh]
    refine w_istore 7 (pc := 247) dL_law_247 (by decide) ?_
    refine w_aload_n (pc := 249) dL_law_249 rfl ?_
    refine w_callV0 (n' := 4 * f) (pc := 250) (c_X6_thrown hG) cv_L_91 (ob rfl) hI2.1 hT (by omega) (by omega) (Nat.le_of_ble_eq_true rfl) dL_law_250 ?_
    refine ⟨rfl, hI2.1, ?_⟩
    dsimp only [psh]
    rw [ht]
    refine w_iload (pc := 253) dL_law_253 rfl ?_
    refine w_icmp_eq 260 (pc := 255) dL_law_255 (by decide) (fun h255 => ?_) (fun h255 => ?_)
    · refine w_iload (pc := 260) dL_law_260 rfl ?_
      refine w_if_ne 284 (pc := 262) dL_law_262 (by decide) (fun h262 => ?_) (fun h262 => ?_)
      · refine w_goto 1199 (pc := 284) dL_law_284 (by decide) ?_
        exact w_lk (tl _ hI2) (lkc rfl (lkc rfl (lkc rfl (lkc rfl (lkc rfl (lkc rfl lkn))))))
      · exact absurd h262 hc0
    · exact absurd rfl h255
theorem lc_total {G : Cx} {L r f : Nat} {xs : Nat → Int32} {M : Mem} (hT : gt G = []) (hd : gd G = 1300) (hNc : NcAll (gs G)) (hG : (gl G).stackTraces = false) (sc : ScrOk G L xs) (hL : L ≤ 2560) (hr : 5 * r + 5 ≤ L) (hI : Inv M)
    (tl : ∀ M, Inv M → PW G RL cL_law 9 (some .boolean) PQ1 PX0 (4 * f) 1199 [(0, .ref 200), (1, .ref 0), (2, .ref 96), (3, .ref 122), (4, .ref 123), (5, .int (nI (5 * r)))] [] M) : PW G RL cL_law 9 (some .boolean) PQ1 PX0 (4 * f + 4) 287 [(0, .ref 200), (1, .ref 0), (2, .ref 96), (3, .ref 122), (4, .ref 123), (5, .int (nI (5 * r)))] [] M := by
  have hi1 : vp_in (nI (5 * r) + 1) L := by rw [show (1 : Int32) = nI 1 from rfl, nI_add]; exact vin (by omega) (by omega)
  refine w_aload_n (pc := 287) dL_law_287 rfl ?_
  refine w_aload_n (pc := 288) dL_law_288 rfl ?_
  refine w_iload (pc := 289) dL_law_289 rfl ?_
  refine w_iconst (v := 1) (pc := 291) dL_law_291 rfl ?_
  refine w_iadd (pc := 292) dL_law_292 ?_
  refine w_sld (pc := 293) sc hi1 dL_law_293 ?_
  refine w_aload_n (pc := 294) dL_law_294 rfl ?_
  refine w_callSW (n' := 4 * f) (As := [.ref 0, .int (xs (nI (5 * r) + 1).toNatClampNeg), .ref 122]) (st := []) (pc := 295) (cw_total hG) csw_97 hNc hT (by omega) rfl (by omega) rfl (Nat.le_of_ble_eq_true rfl) dL_law_295 ?_
  refine ⟨_, rfl, hI.1, s_total hI (fun n M1 mid => ⟨(by have z := fu_Total (mid (fun _ _ => True) (fun _ _ => True) (fun _ _ _ _ => trivial)); exact z), n, rfl, ?_⟩) (fun E c M1 hm mid => ⟨c, hm, ?_⟩)⟩
  · show PW G RL cL_law 9 (some .boolean) PQ1 PX0 (4 * f) 298 [(0, .ref 200), (1, .ref 0), (2, .ref 96), (3, .ref 122), (4, .ref 123), (5, .int (nI (5 * r)))] [.int 0] (sJ M1 122 0 n.toInt64)
    refine w_istore 6 (pc := 298) dL_law_298 (by decide) ?_
    refine w_aload_n (pc := 300) dL_law_300 rfl ?_
    refine w_aload_n (pc := 301) dL_law_301 rfl ?_
    refine w_iload (pc := 302) dL_law_302 rfl ?_
    refine w_iconst (v := 1) (pc := 304) dL_law_304 rfl ?_
    refine w_iadd (pc := 305) dL_law_305 ?_
    refine w_sld (pc := 306) sc hi1 dL_law_306 ?_
    refine w_callV1 (n' := 4 * f) (pc := 307) (c_X6_total hG) cv_L_99 (ob rfl) (fu_Total (mid (fun _ _ => True) (fun _ _ => True) (fun _ _ _ _ => trivial))) hT (by omega) (by omega) (Nat.le_of_ble_eq_true rfl) dL_law_307 ?_
    refine mid _ _ (fun M2 hI2 ht hj => ?_)
    dsimp only [psh]
    refine w_istore 7 (pc := 310) dL_law_310 (by decide) ?_
    refine w_aload_n (pc := 312) dL_law_312 rfl ?_
    refine w_callV0 (n' := 4 * f) (pc := 313) (c_X6_thrown hG) cv_L_91 (ob rfl) hI2.1 hT (by omega) (by omega) (Nat.le_of_ble_eq_true rfl) dL_law_313 ?_
    refine ⟨rfl, hI2.1, ?_⟩
    dsimp only [psh]
    rw [ht]
    refine w_iload (pc := 316) dL_law_316 rfl ?_
    refine w_icmp_eq 323 (pc := 318) dL_law_318 (by decide) (fun h318 => ?_) (fun h318 => ?_)
    · refine w_iload (pc := 323) dL_law_323 rfl ?_
      refine w_if_ne 340 (pc := 325) dL_law_325 (by decide) (fun h325 => ?_) (fun h325 => ?_)
      · exact absurd rfl h325
      · refine w_aload_n (pc := 328) dL_law_328 rfl ?_
        refine w_iconst (v := 0) (pc := 329) dL_law_329 rfl ?_
        refine w_lald (m := 1) (pc := 330) hI2.1 (by first | assumption | exact ar rfl) (vin (i := 0) (n := 1) (by decide) (by decide)) dL_law_330 ?_
        rw [show mJ M2 122 (0 : Int32).toNatClampNeg = n.toInt64 from hj]
        refine w_iload (pc := 331) dL_law_331 rfl ?_
        refine w_i2l (pc := 333) dL_law_333 ?_
        refine w_lcmp_eq 340 (pc := 334) dL_law_334 dL_law_335 (by decide) (fun h334 => ?_) (fun h334 => ?_)
        · refine w_goto 1199 (pc := 340) dL_law_340 (by decide) ?_
          exact w_lk (tl _ hI2) (lkc rfl (lkc rfl (lkc rfl (lkc rfl (lkc rfl (lkc rfl lkn))))))
        · exact absurd rfl h334
    · exact absurd rfl h318
  · have hc0 : ¬ c = 0 := by
      simp only [List.mem_cons, Prod.mk.injEq, List.not_mem_nil, or_false] at hm
      rw [hm.2]; decide
    show PW G RL cL_law 9 (some .boolean) PQ1 PX0 (4 * f) 298 [(0, .ref 200), (1, .ref 0), (2, .ref 96), (3, .ref 122), (4, .ref 123), (5, .int (nI (5 * r)))] [.int c] M1
    refine w_istore 6 (pc := 298) dL_law_298 (by decide) ?_
    refine w_aload_n (pc := 300) dL_law_300 rfl ?_
    refine w_aload_n (pc := 301) dL_law_301 rfl ?_
    refine w_iload (pc := 302) dL_law_302 rfl ?_
    refine w_iconst (v := 1) (pc := 304) dL_law_304 rfl ?_
    refine w_iadd (pc := 305) dL_law_305 ?_
    refine w_sld (pc := 306) sc hi1 dL_law_306 ?_
    refine w_callV1 (n' := 4 * f) (pc := 307) (c_X6_total hG) cv_L_99 (ob rfl) (fu_Total (mid (fun _ _ => True) (fun _ _ => True) (fun _ _ _ => trivial))) hT (by omega) (by omega) (Nat.le_of_ble_eq_true rfl) dL_law_307 ?_
    refine mid _ _ (fun M2 hI2 ht => ?_)
    dsimp only [psh]
    refine w_istore 7 (pc := 310) dL_law_310 (by decide) ?_
    refine w_aload_n (pc := 312) dL_law_312 rfl ?_
    refine w_callV0 (n' := 4 * f) (pc := 313) (c_X6_thrown hG) cv_L_91 (ob rfl) hI2.1 hT (by omega) (by omega) (Nat.le_of_ble_eq_true rfl) dL_law_313 ?_
    refine ⟨rfl, hI2.1, ?_⟩
    dsimp only [psh]
    rw [ht]
    refine w_iload (pc := 316) dL_law_316 rfl ?_
    refine w_icmp_eq 323 (pc := 318) dL_law_318 (by decide) (fun h318 => ?_) (fun h318 => ?_)
    · refine w_iload (pc := 323) dL_law_323 rfl ?_
      refine w_if_ne 340 (pc := 325) dL_law_325 (by decide) (fun h325 => ?_) (fun h325 => ?_)
      · refine w_goto 1199 (pc := 340) dL_law_340 (by decide) ?_
        exact w_lk (tl _ hI2) (lkc rfl (lkc rfl (lkc rfl (lkc rfl (lkc rfl (lkc rfl lkn))))))
      · exact absurd h325 hc0
    · exact absurd rfl h318
theorem lc_bracket {G : Cx} {L r f : Nat} {xs : Nat → Int32} {M : Mem} (hT : gt G = []) (hd : gd G = 1300) (hNc : NcAll (gs G)) (hG : (gl G).stackTraces = false) (sc : ScrOk G L xs) (hL : L ≤ 2560) (hr : 5 * r + 5 ≤ L) (hI : Inv M)
    (tl : ∀ M, Inv M → PW G RL cL_law 9 (some .boolean) PQ1 PX0 (4 * f) 1199 [(0, .ref 200), (1, .ref 0), (2, .ref 96), (3, .ref 122), (4, .ref 123), (5, .int (nI (5 * r)))] [] M) : PW G RL cL_law 9 (some .boolean) PQ1 PX0 (4 * f + 4) 343 [(0, .ref 200), (1, .ref 0), (2, .ref 96), (3, .ref 122), (4, .ref 123), (5, .int (nI (5 * r)))] [] M := by
  have hi1 : vp_in (nI (5 * r) + 1) L := by rw [show (1 : Int32) = nI 1 from rfl, nI_add]; exact vin (by omega) (by omega)
  have hi2 : vp_in (nI (5 * r) + 2) L := by rw [show (2 : Int32) = nI 2 from rfl, nI_add]; exact vin (by omega) (by omega)
  have hi3 : vp_in (nI (5 * r) + 3) L := by rw [show (3 : Int32) = nI 3 from rfl, nI_add]; exact vin (by omega) (by omega)
  refine w_aload_n (pc := 343) dL_law_343 rfl ?_
  refine w_aload_n (pc := 344) dL_law_344 rfl ?_
  refine w_iload (pc := 345) dL_law_345 rfl ?_
  refine w_iconst (v := 1) (pc := 347) dL_law_347 rfl ?_
  refine w_iadd (pc := 348) dL_law_348 ?_
  refine w_sld (pc := 349) sc hi1 dL_law_349 ?_
  refine w_aload_n (pc := 350) dL_law_350 rfl ?_
  refine w_iload (pc := 351) dL_law_351 rfl ?_
  refine w_iconst (v := 2) (pc := 353) dL_law_353 rfl ?_
  refine w_iadd (pc := 354) dL_law_354 ?_
  refine w_sld (pc := 355) sc hi2 dL_law_355 ?_
  refine w_aload_n (pc := 356) dL_law_356 rfl ?_
  refine w_iload (pc := 357) dL_law_357 rfl ?_
  refine w_iconst (v := 3) (pc := 359) dL_law_359 rfl ?_
  refine w_iadd (pc := 360) dL_law_360 ?_
  refine w_sld (pc := 361) sc hi3 dL_law_361 ?_
  refine w_aload_n (pc := 362) dL_law_362 rfl ?_
  refine w_callSW (n' := 4 * f) (As := [.ref 0, .int (xs (nI (5 * r) + 1).toNatClampNeg), .int (xs (nI (5 * r) + 2).toNatClampNeg), .int (xs (nI (5 * r) + 3).toNatClampNeg), .ref 122]) (st := []) (pc := 363) (cw_bracket hG) csw_100 hNc hT (by omega) rfl (by omega) rfl (Nat.le_of_ble_eq_true rfl) dL_law_363 ?_
  refine ⟨_, _, _, rfl, hI.1, s_bracket hI (fun n M1 mid => ⟨(by have z := fu_Bracket (mid (fun _ _ => True) (fun _ _ => True) (fun _ _ _ _ => trivial)); exact z), n, rfl, ?_⟩) (fun E c M1 hm mid => ⟨c, hm, ?_⟩)⟩
  · show PW G RL cL_law 9 (some .boolean) PQ1 PX0 (4 * f) 366 [(0, .ref 200), (1, .ref 0), (2, .ref 96), (3, .ref 122), (4, .ref 123), (5, .int (nI (5 * r)))] [.int 0] (sJ M1 122 0 n.toInt64)
    refine w_istore 6 (pc := 366) dL_law_366 (by decide) ?_
    refine w_aload_n (pc := 368) dL_law_368 rfl ?_
    refine w_aload_n (pc := 369) dL_law_369 rfl ?_
    refine w_iload (pc := 370) dL_law_370 rfl ?_
    refine w_iconst (v := 1) (pc := 372) dL_law_372 rfl ?_
    refine w_iadd (pc := 373) dL_law_373 ?_
    refine w_sld (pc := 374) sc hi1 dL_law_374 ?_
    refine w_aload_n (pc := 375) dL_law_375 rfl ?_
    refine w_iload (pc := 376) dL_law_376 rfl ?_
    refine w_iconst (v := 2) (pc := 378) dL_law_378 rfl ?_
    refine w_iadd (pc := 379) dL_law_379 ?_
    refine w_sld (pc := 380) sc hi2 dL_law_380 ?_
    refine w_aload_n (pc := 381) dL_law_381 rfl ?_
    refine w_iload (pc := 382) dL_law_382 rfl ?_
    refine w_iconst (v := 3) (pc := 384) dL_law_384 rfl ?_
    refine w_iadd (pc := 385) dL_law_385 ?_
    refine w_sld (pc := 386) sc hi3 dL_law_386 ?_
    refine w_callV3 (n' := 4 * f) (pc := 387) (c_X6_bracket hG) cv_L_103 (ob rfl) (fu_Bracket (mid (fun _ _ => True) (fun _ _ => True) (fun _ _ _ _ => trivial))) hT (by omega) (by omega) (Nat.le_of_ble_eq_true rfl) dL_law_387 ?_
    refine mid _ _ (fun M2 hI2 ht hj => ?_)
    dsimp only [psh]
    refine w_istore 7 (pc := 390) dL_law_390 (by decide) ?_
    refine w_aload_n (pc := 392) dL_law_392 rfl ?_
    refine w_callV0 (n' := 4 * f) (pc := 393) (c_X6_thrown hG) cv_L_91 (ob rfl) hI2.1 hT (by omega) (by omega) (Nat.le_of_ble_eq_true rfl) dL_law_393 ?_
    refine ⟨rfl, hI2.1, ?_⟩
    dsimp only [psh]
    rw [ht]
    refine w_iload (pc := 396) dL_law_396 rfl ?_
    refine w_icmp_eq 403 (pc := 398) dL_law_398 (by decide) (fun h398 => ?_) (fun h398 => ?_)
    · refine w_iload (pc := 403) dL_law_403 rfl ?_
      refine w_if_ne 420 (pc := 405) dL_law_405 (by decide) (fun h405 => ?_) (fun h405 => ?_)
      · exact absurd rfl h405
      · refine w_aload_n (pc := 408) dL_law_408 rfl ?_
        refine w_iconst (v := 0) (pc := 409) dL_law_409 rfl ?_
        refine w_lald (m := 1) (pc := 410) hI2.1 (by first | assumption | exact ar rfl) (vin (i := 0) (n := 1) (by decide) (by decide)) dL_law_410 ?_
        rw [show mJ M2 122 (0 : Int32).toNatClampNeg = n.toInt64 from hj]
        refine w_iload (pc := 411) dL_law_411 rfl ?_
        refine w_i2l (pc := 413) dL_law_413 ?_
        refine w_lcmp_eq 420 (pc := 414) dL_law_414 dL_law_415 (by decide) (fun h414 => ?_) (fun h414 => ?_)
        · refine w_goto 1199 (pc := 420) dL_law_420 (by decide) ?_
          exact w_lk (tl _ hI2) (lkc rfl (lkc rfl (lkc rfl (lkc rfl (lkc rfl (lkc rfl lkn))))))
        · exact absurd rfl h414
    · exact absurd rfl h398
  · have hc0 : ¬ c = 0 := by
      simp only [List.mem_cons, Prod.mk.injEq, List.not_mem_nil, or_false] at hm
      rcases hm with ⟨-, rfl⟩ | ⟨-, rfl⟩ | ⟨-, rfl⟩ <;> decide
    show PW G RL cL_law 9 (some .boolean) PQ1 PX0 (4 * f) 366 [(0, .ref 200), (1, .ref 0), (2, .ref 96), (3, .ref 122), (4, .ref 123), (5, .int (nI (5 * r)))] [.int c] M1
    refine w_istore 6 (pc := 366) dL_law_366 (by decide) ?_
    refine w_aload_n (pc := 368) dL_law_368 rfl ?_
    refine w_aload_n (pc := 369) dL_law_369 rfl ?_
    refine w_iload (pc := 370) dL_law_370 rfl ?_
    refine w_iconst (v := 1) (pc := 372) dL_law_372 rfl ?_
    refine w_iadd (pc := 373) dL_law_373 ?_
    refine w_sld (pc := 374) sc hi1 dL_law_374 ?_
    refine w_aload_n (pc := 375) dL_law_375 rfl ?_
    refine w_iload (pc := 376) dL_law_376 rfl ?_
    refine w_iconst (v := 2) (pc := 378) dL_law_378 rfl ?_
    refine w_iadd (pc := 379) dL_law_379 ?_
    refine w_sld (pc := 380) sc hi2 dL_law_380 ?_
    refine w_aload_n (pc := 381) dL_law_381 rfl ?_
    refine w_iload (pc := 382) dL_law_382 rfl ?_
    refine w_iconst (v := 3) (pc := 384) dL_law_384 rfl ?_
    refine w_iadd (pc := 385) dL_law_385 ?_
    refine w_sld (pc := 386) sc hi3 dL_law_386 ?_
    refine w_callV3 (n' := 4 * f) (pc := 387) (c_X6_bracket hG) cv_L_103 (ob rfl) (fu_Bracket (mid (fun _ _ => True) (fun _ _ => True) (fun _ _ _ => trivial))) hT (by omega) (by omega) (Nat.le_of_ble_eq_true rfl) dL_law_387 ?_
    refine mid _ _ (fun M2 hI2 ht => ?_)
    dsimp only [psh]
    refine w_istore 7 (pc := 390) dL_law_390 (by decide) ?_
    refine w_aload_n (pc := 392) dL_law_392 rfl ?_
    refine w_callV0 (n' := 4 * f) (pc := 393) (c_X6_thrown hG) cv_L_91 (ob rfl) hI2.1 hT (by omega) (by omega) (Nat.le_of_ble_eq_true rfl) dL_law_393 ?_
    refine ⟨rfl, hI2.1, ?_⟩
    dsimp only [psh]
    rw [ht]
    refine w_iload (pc := 396) dL_law_396 rfl ?_
    refine w_icmp_eq 403 (pc := 398) dL_law_398 (by decide) (fun h398 => ?_) (fun h398 => ?_)
    · refine w_iload (pc := 403) dL_law_403 rfl ?_
      refine w_if_ne 420 (pc := 405) dL_law_405 (by decide) (fun h405 => ?_) (fun h405 => ?_)
      · refine w_goto 1199 (pc := 420) dL_law_420 (by decide) ?_
        exact w_lk (tl _ hI2) (lkc rfl (lkc rfl (lkc rfl (lkc rfl (lkc rfl (lkc rfl lkn))))))
      · exact absurd h405 hc0
    · exact absurd rfl h398
theorem lc_reset {G : Cx} {L r f : Nat} {xs : Nat → Int32} {M : Mem} (hT : gt G = []) (hd : gd G = 1300) (hNc : NcAll (gs G)) (hG : (gl G).stackTraces = false) (sc : ScrOk G L xs) (hL : L ≤ 2560) (hr : 5 * r + 5 ≤ L) (hI : Inv M)
    (tl : ∀ M, Inv M → PW G RL cL_law 9 (some .boolean) PQ1 PX0 (4 * f) 1199 [(0, .ref 200), (1, .ref 0), (2, .ref 96), (3, .ref 122), (4, .ref 123), (5, .int (nI (5 * r)))] [] M) : PW G RL cL_law 9 (some .boolean) PQ1 PX0 (4 * f + 4) 423 [(0, .ref 200), (1, .ref 0), (2, .ref 96), (3, .ref 122), (4, .ref 123), (5, .int (nI (5 * r)))] [] M := by
  have hi1 : vp_in (nI (5 * r) + 1) L := by rw [show (1 : Int32) = nI 1 from rfl, nI_add]; exact vin (by omega) (by omega)
  have hi2 : vp_in (nI (5 * r) + 2) L := by rw [show (2 : Int32) = nI 2 from rfl, nI_add]; exact vin (by omega) (by omega)
  refine w_aload_n (pc := 423) dL_law_423 rfl ?_
  refine w_aload_n (pc := 424) dL_law_424 rfl ?_
  refine w_iload (pc := 425) dL_law_425 rfl ?_
  refine w_iconst (v := 1) (pc := 427) dL_law_427 rfl ?_
  refine w_iadd (pc := 428) dL_law_428 ?_
  refine w_sld (pc := 429) sc hi1 dL_law_429 ?_
  refine w_aload_n (pc := 430) dL_law_430 rfl ?_
  refine w_iload (pc := 431) dL_law_431 rfl ?_
  refine w_iconst (v := 2) (pc := 433) dL_law_433 rfl ?_
  refine w_iadd (pc := 434) dL_law_434 ?_
  refine w_sld (pc := 435) sc hi2 dL_law_435 ?_
  refine w_aload_n (pc := 436) dL_law_436 rfl ?_
  refine w_callSW (n' := 4 * f) (As := [.ref 0, .int (xs (nI (5 * r) + 1).toNatClampNeg), .int (xs (nI (5 * r) + 2).toNatClampNeg), .ref 122]) (st := []) (pc := 437) (cw_reset hG) csw_104 hNc hT (by omega) rfl (by omega) rfl (Nat.le_of_ble_eq_true rfl) dL_law_437 ?_
  refine ⟨_, _, rfl, hI.1, s_reset hI (fun n M1 mid => ⟨(by have z := fu_Reset (mid (fun _ _ => True) (fun _ _ => True) (fun _ _ _ _ => trivial)); exact z), n, rfl, ?_⟩) (fun E c M1 hm mid => ⟨c, hm, ?_⟩)⟩
  · show PW G RL cL_law 9 (some .boolean) PQ1 PX0 (4 * f) 440 [(0, .ref 200), (1, .ref 0), (2, .ref 96), (3, .ref 122), (4, .ref 123), (5, .int (nI (5 * r)))] [.int 0] (sJ M1 122 0 n.toInt64)
    refine w_istore 6 (pc := 440) dL_law_440 (by decide) ?_
    refine w_aload_n (pc := 442) dL_law_442 rfl ?_
    refine w_aload_n (pc := 443) dL_law_443 rfl ?_
    refine w_iload (pc := 444) dL_law_444 rfl ?_
    refine w_iconst (v := 1) (pc := 446) dL_law_446 rfl ?_
    refine w_iadd (pc := 447) dL_law_447 ?_
    refine w_sld (pc := 448) sc hi1 dL_law_448 ?_
    refine w_aload_n (pc := 449) dL_law_449 rfl ?_
    refine w_iload (pc := 450) dL_law_450 rfl ?_
    refine w_iconst (v := 2) (pc := 452) dL_law_452 rfl ?_
    refine w_iadd (pc := 453) dL_law_453 ?_
    refine w_sld (pc := 454) sc hi2 dL_law_454 ?_
    refine w_callV2 (n' := 4 * f) (pc := 455) (c_X6_reset hG) cv_L_107 (ob rfl) (fu_Reset (mid (fun _ _ => True) (fun _ _ => True) (fun _ _ _ _ => trivial))) hT (by omega) (by omega) (Nat.le_of_ble_eq_true rfl) dL_law_455 ?_
    refine mid _ _ (fun M2 hI2 ht hj => ?_)
    dsimp only [psh]
    refine w_istore 7 (pc := 458) dL_law_458 (by decide) ?_
    refine w_aload_n (pc := 460) dL_law_460 rfl ?_
    refine w_callV0 (n' := 4 * f) (pc := 461) (c_X6_thrown hG) cv_L_91 (ob rfl) hI2.1 hT (by omega) (by omega) (Nat.le_of_ble_eq_true rfl) dL_law_461 ?_
    refine ⟨rfl, hI2.1, ?_⟩
    dsimp only [psh]
    rw [ht]
    refine w_iload (pc := 464) dL_law_464 rfl ?_
    refine w_icmp_eq 471 (pc := 466) dL_law_466 (by decide) (fun h466 => ?_) (fun h466 => ?_)
    · refine w_iload (pc := 471) dL_law_471 rfl ?_
      refine w_if_ne 488 (pc := 473) dL_law_473 (by decide) (fun h473 => ?_) (fun h473 => ?_)
      · exact absurd rfl h473
      · refine w_aload_n (pc := 476) dL_law_476 rfl ?_
        refine w_iconst (v := 0) (pc := 477) dL_law_477 rfl ?_
        refine w_lald (m := 1) (pc := 478) hI2.1 (by first | assumption | exact ar rfl) (vin (i := 0) (n := 1) (by decide) (by decide)) dL_law_478 ?_
        rw [show mJ M2 122 (0 : Int32).toNatClampNeg = n.toInt64 from hj]
        refine w_iload (pc := 479) dL_law_479 rfl ?_
        refine w_i2l (pc := 481) dL_law_481 ?_
        refine w_lcmp_eq 488 (pc := 482) dL_law_482 dL_law_483 (by decide) (fun h482 => ?_) (fun h482 => ?_)
        · refine w_goto 1199 (pc := 488) dL_law_488 (by decide) ?_
          exact w_lk (tl _ hI2) (lkc rfl (lkc rfl (lkc rfl (lkc rfl (lkc rfl (lkc rfl lkn))))))
        · exact absurd rfl h482
    · exact absurd rfl h466
  · have hc0 : ¬ c = 0 := by
      simp only [List.mem_cons, Prod.mk.injEq, List.not_mem_nil, or_false] at hm
      rcases hm with ⟨-, rfl⟩ | ⟨-, rfl⟩ <;> decide
    show PW G RL cL_law 9 (some .boolean) PQ1 PX0 (4 * f) 440 [(0, .ref 200), (1, .ref 0), (2, .ref 96), (3, .ref 122), (4, .ref 123), (5, .int (nI (5 * r)))] [.int c] M1
    refine w_istore 6 (pc := 440) dL_law_440 (by decide) ?_
    refine w_aload_n (pc := 442) dL_law_442 rfl ?_
    refine w_aload_n (pc := 443) dL_law_443 rfl ?_
    refine w_iload (pc := 444) dL_law_444 rfl ?_
    refine w_iconst (v := 1) (pc := 446) dL_law_446 rfl ?_
    refine w_iadd (pc := 447) dL_law_447 ?_
    refine w_sld (pc := 448) sc hi1 dL_law_448 ?_
    refine w_aload_n (pc := 449) dL_law_449 rfl ?_
    refine w_iload (pc := 450) dL_law_450 rfl ?_
    refine w_iconst (v := 2) (pc := 452) dL_law_452 rfl ?_
    refine w_iadd (pc := 453) dL_law_453 ?_
    refine w_sld (pc := 454) sc hi2 dL_law_454 ?_
    refine w_callV2 (n' := 4 * f) (pc := 455) (c_X6_reset hG) cv_L_107 (ob rfl) (fu_Reset (mid (fun _ _ => True) (fun _ _ => True) (fun _ _ _ => trivial))) hT (by omega) (by omega) (Nat.le_of_ble_eq_true rfl) dL_law_455 ?_
    refine mid _ _ (fun M2 hI2 ht => ?_)
    dsimp only [psh]
    refine w_istore 7 (pc := 458) dL_law_458 (by decide) ?_
    refine w_aload_n (pc := 460) dL_law_460 rfl ?_
    refine w_callV0 (n' := 4 * f) (pc := 461) (c_X6_thrown hG) cv_L_91 (ob rfl) hI2.1 hT (by omega) (by omega) (Nat.le_of_ble_eq_true rfl) dL_law_461 ?_
    refine ⟨rfl, hI2.1, ?_⟩
    dsimp only [psh]
    rw [ht]
    refine w_iload (pc := 464) dL_law_464 rfl ?_
    refine w_icmp_eq 471 (pc := 466) dL_law_466 (by decide) (fun h466 => ?_) (fun h466 => ?_)
    · refine w_iload (pc := 471) dL_law_471 rfl ?_
      refine w_if_ne 488 (pc := 473) dL_law_473 (by decide) (fun h473 => ?_) (fun h473 => ?_)
      · refine w_goto 1199 (pc := 488) dL_law_488 (by decide) ?_
        exact w_lk (tl _ hI2) (lkc rfl (lkc rfl (lkc rfl (lkc rfl (lkc rfl (lkc rfl lkn))))))
      · exact absurd h473 hc0
    · exact absurd rfl h466
theorem lc_order {G : Cx} {L r f : Nat} {xs : Nat → Int32} {M : Mem} (hT : gt G = []) (hd : gd G = 1300) (hNc : NcAll (gs G)) (hG : (gl G).stackTraces = false) (sc : ScrOk G L xs) (hL : L ≤ 2560) (hr : 5 * r + 5 ≤ L) (hI : Inv M)
    (tl : ∀ M, Inv M → PW G RL cL_law 9 (some .boolean) PQ1 PX0 (4 * f) 1199 [(0, .ref 200), (1, .ref 0), (2, .ref 96), (3, .ref 122), (4, .ref 123), (5, .int (nI (5 * r)))] [] M) : PW G RL cL_law 9 (some .boolean) PQ1 PX0 (4 * f + 4) 491 [(0, .ref 200), (1, .ref 0), (2, .ref 96), (3, .ref 122), (4, .ref 123), (5, .int (nI (5 * r)))] [] M := by
  have hi1 : vp_in (nI (5 * r) + 1) L := by rw [show (1 : Int32) = nI 1 from rfl, nI_add]; exact vin (by omega) (by omega)
  refine w_aload_n (pc := 491) dL_law_491 rfl ?_
  refine w_aload_n (pc := 492) dL_law_492 rfl ?_
  refine w_iload (pc := 493) dL_law_493 rfl ?_
  refine w_iconst (v := 1) (pc := 495) dL_law_495 rfl ?_
  refine w_iadd (pc := 496) dL_law_496 ?_
  refine w_sld (pc := 497) sc hi1 dL_law_497 ?_
  refine w_aload_n (pc := 498) dL_law_498 rfl ?_
  refine w_callSW (n' := 4 * f) (As := [.ref 0, .int (xs (nI (5 * r) + 1).toNatClampNeg), .ref 122]) (st := []) (pc := 499) (cw_order hG) csw_108 hNc hT (by omega) rfl (by omega) rfl (Nat.le_of_ble_eq_true rfl) dL_law_499 ?_
  refine ⟨_, rfl, hI.1, s_order hI (fun n M1 mid => ⟨(by have z := fu_Order (mid (fun _ _ => True) (fun _ _ => True) (fun _ _ _ _ => trivial)); exact z), n, rfl, ?_⟩) (fun E c M1 hm mid => ⟨c, hm, ?_⟩)⟩
  · show PW G RL cL_law 9 (some .boolean) PQ1 PX0 (4 * f) 502 [(0, .ref 200), (1, .ref 0), (2, .ref 96), (3, .ref 122), (4, .ref 123), (5, .int (nI (5 * r)))] [.int 0] (sJ M1 122 0 n.toInt64)
    refine w_istore 6 (pc := 502) dL_law_502 (by decide) ?_
    refine w_aload_n (pc := 504) dL_law_504 rfl ?_
    refine w_aload_n (pc := 505) dL_law_505 rfl ?_
    refine w_iload (pc := 506) dL_law_506 rfl ?_
    refine w_iconst (v := 1) (pc := 508) dL_law_508 rfl ?_
    refine w_iadd (pc := 509) dL_law_509 ?_
    refine w_sld (pc := 510) sc hi1 dL_law_510 ?_
    refine w_callV1 (n' := 4 * f) (pc := 511) (c_X6_order hG) cv_L_110 (ob rfl) (fu_Order (mid (fun _ _ => True) (fun _ _ => True) (fun _ _ _ _ => trivial))) hT (by omega) (by omega) (Nat.le_of_ble_eq_true rfl) dL_law_511 ?_
    refine mid _ _ (fun M2 hI2 ht hj => ?_)
    dsimp only [psh]
    refine w_istore 7 (pc := 514) dL_law_514 (by decide) ?_
    refine w_aload_n (pc := 516) dL_law_516 rfl ?_
    refine w_callV0 (n' := 4 * f) (pc := 517) (c_X6_thrown hG) cv_L_91 (ob rfl) hI2.1 hT (by omega) (by omega) (Nat.le_of_ble_eq_true rfl) dL_law_517 ?_
    refine ⟨rfl, hI2.1, ?_⟩
    dsimp only [psh]
    rw [ht]
    refine w_iload (pc := 520) dL_law_520 rfl ?_
    refine w_icmp_eq 527 (pc := 522) dL_law_522 (by decide) (fun h522 => ?_) (fun h522 => ?_)
    · refine w_iload (pc := 527) dL_law_527 rfl ?_
      refine w_if_ne 544 (pc := 529) dL_law_529 (by decide) (fun h529 => ?_) (fun h529 => ?_)
      · exact absurd rfl h529
      · refine w_aload_n (pc := 532) dL_law_532 rfl ?_
        refine w_iconst (v := 0) (pc := 533) dL_law_533 rfl ?_
        refine w_lald (m := 1) (pc := 534) hI2.1 (by first | assumption | exact ar rfl) (vin (i := 0) (n := 1) (by decide) (by decide)) dL_law_534 ?_
        rw [show mJ M2 122 (0 : Int32).toNatClampNeg = n.toInt64 from hj]
        refine w_iload (pc := 535) dL_law_535 rfl ?_
        refine w_i2l (pc := 537) dL_law_537 ?_
        refine w_lcmp_eq 544 (pc := 538) dL_law_538 dL_law_539 (by decide) (fun h538 => ?_) (fun h538 => ?_)
        · refine w_goto 1199 (pc := 544) dL_law_544 (by decide) ?_
          exact w_lk (tl _ hI2) (lkc rfl (lkc rfl (lkc rfl (lkc rfl (lkc rfl (lkc rfl lkn))))))
        · exact absurd rfl h538
    · exact absurd rfl h522
  · have hc0 : ¬ c = 0 := by
      simp only [List.mem_cons, Prod.mk.injEq, List.not_mem_nil, or_false] at hm
      rcases hm with ⟨-, rfl⟩ | ⟨-, rfl⟩ <;> decide
    show PW G RL cL_law 9 (some .boolean) PQ1 PX0 (4 * f) 502 [(0, .ref 200), (1, .ref 0), (2, .ref 96), (3, .ref 122), (4, .ref 123), (5, .int (nI (5 * r)))] [.int c] M1
    refine w_istore 6 (pc := 502) dL_law_502 (by decide) ?_
    refine w_aload_n (pc := 504) dL_law_504 rfl ?_
    refine w_aload_n (pc := 505) dL_law_505 rfl ?_
    refine w_iload (pc := 506) dL_law_506 rfl ?_
    refine w_iconst (v := 1) (pc := 508) dL_law_508 rfl ?_
    refine w_iadd (pc := 509) dL_law_509 ?_
    refine w_sld (pc := 510) sc hi1 dL_law_510 ?_
    refine w_callV1 (n' := 4 * f) (pc := 511) (c_X6_order hG) cv_L_110 (ob rfl) (fu_Order (mid (fun _ _ => True) (fun _ _ => True) (fun _ _ _ => trivial))) hT (by omega) (by omega) (Nat.le_of_ble_eq_true rfl) dL_law_511 ?_
    refine mid _ _ (fun M2 hI2 ht => ?_)
    dsimp only [psh]
    refine w_istore 7 (pc := 514) dL_law_514 (by decide) ?_
    refine w_aload_n (pc := 516) dL_law_516 rfl ?_
    refine w_callV0 (n' := 4 * f) (pc := 517) (c_X6_thrown hG) cv_L_91 (ob rfl) hI2.1 hT (by omega) (by omega) (Nat.le_of_ble_eq_true rfl) dL_law_517 ?_
    refine ⟨rfl, hI2.1, ?_⟩
    dsimp only [psh]
    rw [ht]
    refine w_iload (pc := 520) dL_law_520 rfl ?_
    refine w_icmp_eq 527 (pc := 522) dL_law_522 (by decide) (fun h522 => ?_) (fun h522 => ?_)
    · refine w_iload (pc := 527) dL_law_527 rfl ?_
      refine w_if_ne 544 (pc := 529) dL_law_529 (by decide) (fun h529 => ?_) (fun h529 => ?_)
      · refine w_goto 1199 (pc := 544) dL_law_544 (by decide) ?_
        exact w_lk (tl _ hI2) (lkc rfl (lkc rfl (lkc rfl (lkc rfl (lkc rfl (lkc rfl lkn))))))
      · exact absurd h529 hc0
    · exact absurd rfl h522
theorem lc_file {G : Cx} {L r f : Nat} {xs : Nat → Int32} {M : Mem} (hT : gt G = []) (hd : gd G = 1300) (hNc : NcAll (gs G)) (hG : (gl G).stackTraces = false) (sc : ScrOk G L xs) (hL : L ≤ 2560) (hr : 5 * r + 5 ≤ L) (hI : Inv M)
    (tl : ∀ M, Inv M → PW G RL cL_law 9 (some .boolean) PQ1 PX0 (4 * f) 1199 [(0, .ref 200), (1, .ref 0), (2, .ref 96), (3, .ref 122), (4, .ref 123), (5, .int (nI (5 * r)))] [] M) : PW G RL cL_law 9 (some .boolean) PQ1 PX0 (4 * f + 4) 547 [(0, .ref 200), (1, .ref 0), (2, .ref 96), (3, .ref 122), (4, .ref 123), (5, .int (nI (5 * r)))] [] M := by
  have hi1 : vp_in (nI (5 * r) + 1) L := by rw [show (1 : Int32) = nI 1 from rfl, nI_add]; exact vin (by omega) (by omega)
  have hi2 : vp_in (nI (5 * r) + 2) L := by rw [show (2 : Int32) = nI 2 from rfl, nI_add]; exact vin (by omega) (by omega)
  have hi3 : vp_in (nI (5 * r) + 3) L := by rw [show (3 : Int32) = nI 3 from rfl, nI_add]; exact vin (by omega) (by omega)
  have hi4 : vp_in (nI (5 * r) + 4) L := by rw [show (4 : Int32) = nI 4 from rfl, nI_add]; exact vin (by omega) (by omega)
  refine w_aload_n (pc := 547) dL_law_547 rfl ?_
  refine w_aload_n (pc := 548) dL_law_548 rfl ?_
  refine w_iload (pc := 549) dL_law_549 rfl ?_
  refine w_iconst (v := 1) (pc := 551) dL_law_551 rfl ?_
  refine w_iadd (pc := 552) dL_law_552 ?_
  refine w_sld (pc := 553) sc hi1 dL_law_553 ?_
  refine w_aload_n (pc := 554) dL_law_554 rfl ?_
  refine w_iload (pc := 555) dL_law_555 rfl ?_
  refine w_iconst (v := 2) (pc := 557) dL_law_557 rfl ?_
  refine w_iadd (pc := 558) dL_law_558 ?_
  refine w_sld (pc := 559) sc hi2 dL_law_559 ?_
  refine w_aload_n (pc := 560) dL_law_560 rfl ?_
  refine w_iload (pc := 561) dL_law_561 rfl ?_
  refine w_iconst (v := 3) (pc := 563) dL_law_563 rfl ?_
  refine w_iadd (pc := 564) dL_law_564 ?_
  refine w_sld (pc := 565) sc hi3 dL_law_565 ?_
  refine w_aload_n (pc := 566) dL_law_566 rfl ?_
  refine w_iload (pc := 567) dL_law_567 rfl ?_
  refine w_iconst (v := 4) (pc := 569) dL_law_569 rfl ?_
  refine w_iadd (pc := 570) dL_law_570 ?_
  refine w_sld (pc := 571) sc hi4 dL_law_571 ?_
  refine w_aload_n (pc := 572) dL_law_572 rfl ?_
  refine w_callSW (n' := 4 * f) (As := [.ref 0, .int (xs (nI (5 * r) + 1).toNatClampNeg), .int (xs (nI (5 * r) + 2).toNatClampNeg), .int (xs (nI (5 * r) + 3).toNatClampNeg), .int (xs (nI (5 * r) + 4).toNatClampNeg), .ref 122]) (st := []) (pc := 573) (cw_file hG) csw_111 hNc hT (by omega) rfl (by omega) rfl (Nat.le_of_ble_eq_true rfl) dL_law_573 ?_
  refine ⟨_, _, _, _, rfl, hI.1, s_file hI (fun n M1 mid => ⟨(by have z := fu_File (mid (fun _ _ => True) (fun _ _ => True) (fun _ _ _ _ => trivial)); exact z), n, rfl, ?_⟩) (fun E c M1 hm mid => ⟨c, hm, ?_⟩)⟩
  · show PW G RL cL_law 9 (some .boolean) PQ1 PX0 (4 * f) 576 [(0, .ref 200), (1, .ref 0), (2, .ref 96), (3, .ref 122), (4, .ref 123), (5, .int (nI (5 * r)))] [.int 0] (sJ M1 122 0 n.toInt64)
    refine w_istore 6 (pc := 576) dL_law_576 (by decide) ?_
    refine w_aload_n (pc := 578) dL_law_578 rfl ?_
    refine w_aload_n (pc := 579) dL_law_579 rfl ?_
    refine w_iload (pc := 580) dL_law_580 rfl ?_
    refine w_iconst (v := 1) (pc := 582) dL_law_582 rfl ?_
    refine w_iadd (pc := 583) dL_law_583 ?_
    refine w_sld (pc := 584) sc hi1 dL_law_584 ?_
    refine w_aload_n (pc := 585) dL_law_585 rfl ?_
    refine w_iload (pc := 586) dL_law_586 rfl ?_
    refine w_iconst (v := 2) (pc := 588) dL_law_588 rfl ?_
    refine w_iadd (pc := 589) dL_law_589 ?_
    refine w_sld (pc := 590) sc hi2 dL_law_590 ?_
    refine w_aload_n (pc := 591) dL_law_591 rfl ?_
    refine w_iload (pc := 592) dL_law_592 rfl ?_
    refine w_iconst (v := 3) (pc := 594) dL_law_594 rfl ?_
    refine w_iadd (pc := 595) dL_law_595 ?_
    refine w_sld (pc := 596) sc hi3 dL_law_596 ?_
    refine w_aload_n (pc := 597) dL_law_597 rfl ?_
    refine w_iload (pc := 598) dL_law_598 rfl ?_
    refine w_iconst (v := 4) (pc := 600) dL_law_600 rfl ?_
    refine w_iadd (pc := 601) dL_law_601 ?_
    refine w_sld (pc := 602) sc hi4 dL_law_602 ?_
    refine w_callV4 (n' := 4 * f) (pc := 603) (c_X6_file hG) cv_L_114 (ob rfl) (fu_File (mid (fun _ _ => True) (fun _ _ => True) (fun _ _ _ _ => trivial))) hT (by omega) (by omega) (Nat.le_of_ble_eq_true rfl) dL_law_603 ?_
    refine mid _ _ (fun M2 hI2 ht hj => ?_)
    dsimp only [psh]
    refine w_istore 7 (pc := 606) dL_law_606 (by decide) ?_
    refine w_aload_n (pc := 608) dL_law_608 rfl ?_
    refine w_callV0 (n' := 4 * f) (pc := 609) (c_X6_thrown hG) cv_L_91 (ob rfl) hI2.1 hT (by omega) (by omega) (Nat.le_of_ble_eq_true rfl) dL_law_609 ?_
    refine ⟨rfl, hI2.1, ?_⟩
    dsimp only [psh]
    rw [ht]
    refine w_iload (pc := 612) dL_law_612 rfl ?_
    refine w_icmp_eq 619 (pc := 614) dL_law_614 (by decide) (fun h614 => ?_) (fun h614 => ?_)
    · refine w_iload (pc := 619) dL_law_619 rfl ?_
      refine w_if_ne 636 (pc := 621) dL_law_621 (by decide) (fun h621 => ?_) (fun h621 => ?_)
      · exact absurd rfl h621
      · refine w_aload_n (pc := 624) dL_law_624 rfl ?_
        refine w_iconst (v := 0) (pc := 625) dL_law_625 rfl ?_
        refine w_lald (m := 1) (pc := 626) hI2.1 (by first | assumption | exact ar rfl) (vin (i := 0) (n := 1) (by decide) (by decide)) dL_law_626 ?_
        rw [show mJ M2 122 (0 : Int32).toNatClampNeg = n.toInt64 from hj]
        refine w_iload (pc := 627) dL_law_627 rfl ?_
        refine w_i2l (pc := 629) dL_law_629 ?_
        refine w_lcmp_eq 636 (pc := 630) dL_law_630 dL_law_631 (by decide) (fun h630 => ?_) (fun h630 => ?_)
        · refine w_goto 1199 (pc := 636) dL_law_636 (by decide) ?_
          exact w_lk (tl _ hI2) (lkc rfl (lkc rfl (lkc rfl (lkc rfl (lkc rfl (lkc rfl lkn))))))
        · exact absurd rfl h630
    · exact absurd rfl h614
  · have hc0 : ¬ c = 0 := by
      simp only [List.mem_cons, Prod.mk.injEq, List.not_mem_nil, or_false] at hm
      rcases hm with ⟨-, rfl⟩ | ⟨-, rfl⟩ <;> decide
    show PW G RL cL_law 9 (some .boolean) PQ1 PX0 (4 * f) 576 [(0, .ref 200), (1, .ref 0), (2, .ref 96), (3, .ref 122), (4, .ref 123), (5, .int (nI (5 * r)))] [.int c] M1
    refine w_istore 6 (pc := 576) dL_law_576 (by decide) ?_
    refine w_aload_n (pc := 578) dL_law_578 rfl ?_
    refine w_aload_n (pc := 579) dL_law_579 rfl ?_
    refine w_iload (pc := 580) dL_law_580 rfl ?_
    refine w_iconst (v := 1) (pc := 582) dL_law_582 rfl ?_
    refine w_iadd (pc := 583) dL_law_583 ?_
    refine w_sld (pc := 584) sc hi1 dL_law_584 ?_
    refine w_aload_n (pc := 585) dL_law_585 rfl ?_
    refine w_iload (pc := 586) dL_law_586 rfl ?_
    refine w_iconst (v := 2) (pc := 588) dL_law_588 rfl ?_
    refine w_iadd (pc := 589) dL_law_589 ?_
    refine w_sld (pc := 590) sc hi2 dL_law_590 ?_
    refine w_aload_n (pc := 591) dL_law_591 rfl ?_
    refine w_iload (pc := 592) dL_law_592 rfl ?_
    refine w_iconst (v := 3) (pc := 594) dL_law_594 rfl ?_
    refine w_iadd (pc := 595) dL_law_595 ?_
    refine w_sld (pc := 596) sc hi3 dL_law_596 ?_
    refine w_aload_n (pc := 597) dL_law_597 rfl ?_
    refine w_iload (pc := 598) dL_law_598 rfl ?_
    refine w_iconst (v := 4) (pc := 600) dL_law_600 rfl ?_
    refine w_iadd (pc := 601) dL_law_601 ?_
    refine w_sld (pc := 602) sc hi4 dL_law_602 ?_
    refine w_callV4 (n' := 4 * f) (pc := 603) (c_X6_file hG) cv_L_114 (ob rfl) (fu_File (mid (fun _ _ => True) (fun _ _ => True) (fun _ _ _ => trivial))) hT (by omega) (by omega) (Nat.le_of_ble_eq_true rfl) dL_law_603 ?_
    refine mid _ _ (fun M2 hI2 ht => ?_)
    dsimp only [psh]
    refine w_istore 7 (pc := 606) dL_law_606 (by decide) ?_
    refine w_aload_n (pc := 608) dL_law_608 rfl ?_
    refine w_callV0 (n' := 4 * f) (pc := 609) (c_X6_thrown hG) cv_L_91 (ob rfl) hI2.1 hT (by omega) (by omega) (Nat.le_of_ble_eq_true rfl) dL_law_609 ?_
    refine ⟨rfl, hI2.1, ?_⟩
    dsimp only [psh]
    rw [ht]
    refine w_iload (pc := 612) dL_law_612 rfl ?_
    refine w_icmp_eq 619 (pc := 614) dL_law_614 (by decide) (fun h614 => ?_) (fun h614 => ?_)
    · refine w_iload (pc := 619) dL_law_619 rfl ?_
      refine w_if_ne 636 (pc := 621) dL_law_621 (by decide) (fun h621 => ?_) (fun h621 => ?_)
      · refine w_goto 1199 (pc := 636) dL_law_636 (by decide) ?_
        exact w_lk (tl _ hI2) (lkc rfl (lkc rfl (lkc rfl (lkc rfl (lkc rfl (lkc rfl lkn))))))
      · exact absurd h621 hc0
    · exact absurd rfl h614
theorem lc_assess {G : Cx} {L r f : Nat} {xs : Nat → Int32} {M : Mem} (hT : gt G = []) (hd : gd G = 1300) (hNc : NcAll (gs G)) (hG : (gl G).stackTraces = false) (sc : ScrOk G L xs) (hL : L ≤ 2560) (hr : 5 * r + 5 ≤ L) (hI : Inv M)
    (tl : ∀ M, Inv M → PW G RL cL_law 9 (some .boolean) PQ1 PX0 (4 * f) 1199 [(0, .ref 200), (1, .ref 0), (2, .ref 96), (3, .ref 122), (4, .ref 123), (5, .int (nI (5 * r)))] [] M) : PW G RL cL_law 9 (some .boolean) PQ1 PX0 (4 * f + 4) 639 [(0, .ref 200), (1, .ref 0), (2, .ref 96), (3, .ref 122), (4, .ref 123), (5, .int (nI (5 * r)))] [] M := by
  have hi1 : vp_in (nI (5 * r) + 1) L := by rw [show (1 : Int32) = nI 1 from rfl, nI_add]; exact vin (by omega) (by omega)
  have hi2 : vp_in (nI (5 * r) + 2) L := by rw [show (2 : Int32) = nI 2 from rfl, nI_add]; exact vin (by omega) (by omega)
  refine w_aload_n (pc := 639) dL_law_639 rfl ?_
  refine w_aload_n (pc := 640) dL_law_640 rfl ?_
  refine w_iload (pc := 641) dL_law_641 rfl ?_
  refine w_iconst (v := 1) (pc := 643) dL_law_643 rfl ?_
  refine w_iadd (pc := 644) dL_law_644 ?_
  refine w_sld (pc := 645) sc hi1 dL_law_645 ?_
  refine w_aload_n (pc := 646) dL_law_646 rfl ?_
  refine w_iload (pc := 647) dL_law_647 rfl ?_
  refine w_iconst (v := 2) (pc := 649) dL_law_649 rfl ?_
  refine w_iadd (pc := 650) dL_law_650 ?_
  refine w_sld (pc := 651) sc hi2 dL_law_651 ?_
  refine w_aload_n (pc := 652) dL_law_652 rfl ?_
  refine w_callSW (n' := 4 * f) (As := [.ref 0, .int (xs (nI (5 * r) + 1).toNatClampNeg), .int (xs (nI (5 * r) + 2).toNatClampNeg), .ref 122]) (st := []) (pc := 653) (cw_assess hG) csw_115 hNc hT (by omega) rfl (by omega) rfl (Nat.le_of_ble_eq_true rfl) dL_law_653 ?_
  refine ⟨_, _, rfl, hI.1, s_assess hI (fun n M1 mid => ⟨(by have z := fu_Assess (mid (fun _ _ => True) (fun _ _ => True) (fun _ _ _ _ => trivial)); exact z), n, rfl, ?_⟩) (fun E c M1 hm mid => ⟨c, hm, ?_⟩)⟩
  · show PW G RL cL_law 9 (some .boolean) PQ1 PX0 (4 * f) 656 [(0, .ref 200), (1, .ref 0), (2, .ref 96), (3, .ref 122), (4, .ref 123), (5, .int (nI (5 * r)))] [.int 0] (sJ M1 122 0 n)
    refine w_istore 6 (pc := 656) dL_law_656 (by decide) ?_
    refine w_aload_n (pc := 658) dL_law_658 rfl ?_
    refine w_aload_n (pc := 659) dL_law_659 rfl ?_
    refine w_iload (pc := 660) dL_law_660 rfl ?_
    refine w_iconst (v := 1) (pc := 662) dL_law_662 rfl ?_
    refine w_iadd (pc := 663) dL_law_663 ?_
    refine w_sld (pc := 664) sc hi1 dL_law_664 ?_
    refine w_aload_n (pc := 665) dL_law_665 rfl ?_
    refine w_iload (pc := 666) dL_law_666 rfl ?_
    refine w_iconst (v := 2) (pc := 668) dL_law_668 rfl ?_
    refine w_iadd (pc := 669) dL_law_669 ?_
    refine w_sld (pc := 670) sc hi2 dL_law_670 ?_
    refine w_callV2 (n' := 4 * f) (pc := 671) (c_X6_assess hG) cv_L_117 (ob rfl) (fu_Assess (mid (fun _ _ => True) (fun _ _ => True) (fun _ _ _ _ => trivial))) hT (by omega) (by omega) (Nat.le_of_ble_eq_true rfl) dL_law_671 ?_
    refine mid _ _ (fun M2 hI2 ht hj => ?_)
    dsimp only [psh]
    refine w_lstore 7 (pc := 674) dL_law_674 (by decide) ?_
    refine w_aload_n (pc := 676) dL_law_676 rfl ?_
    refine w_callV0 (n' := 4 * f) (pc := 677) (c_X6_thrown hG) cv_L_91 (ob rfl) hI2.1 hT (by omega) (by omega) (Nat.le_of_ble_eq_true rfl) dL_law_677 ?_
    refine ⟨rfl, hI2.1, ?_⟩
    dsimp only [psh]
    rw [ht]
    refine w_iload (pc := 680) dL_law_680 rfl ?_
    refine w_icmp_eq 687 (pc := 682) dL_law_682 (by decide) (fun h682 => ?_) (fun h682 => ?_)
    · refine w_iload (pc := 687) dL_law_687 rfl ?_
      refine w_if_ne 703 (pc := 689) dL_law_689 (by decide) (fun h689 => ?_) (fun h689 => ?_)
      · exact absurd rfl h689
      · refine w_aload_n (pc := 692) dL_law_692 rfl ?_
        refine w_iconst (v := 0) (pc := 693) dL_law_693 rfl ?_
        refine w_lald (m := 1) (pc := 694) hI2.1 (by first | assumption | exact ar rfl) (vin (i := 0) (n := 1) (by decide) (by decide)) dL_law_694 ?_
        rw [show mJ M2 122 (0 : Int32).toNatClampNeg = n from hj]
        refine w_lload (pc := 695) dL_law_695 rfl ?_
        refine w_lcmp_eq 703 (pc := 697) dL_law_697 dL_law_698 (by decide) (fun h697 => ?_) (fun h697 => ?_)
        · refine w_goto 1199 (pc := 703) dL_law_703 (by decide) ?_
          exact w_lk (tl _ hI2) (lkc rfl (lkc rfl (lkc rfl (lkc rfl (lkc rfl (lkc rfl lkn))))))
        · exact absurd rfl h697
    · exact absurd rfl h682
  · have hc0 : ¬ c = 0 := by
      simp only [List.mem_cons, Prod.mk.injEq, List.not_mem_nil, or_false] at hm
      rcases hm with ⟨-, rfl⟩ | ⟨-, rfl⟩ | ⟨-, rfl⟩ <;> decide
    show PW G RL cL_law 9 (some .boolean) PQ1 PX0 (4 * f) 656 [(0, .ref 200), (1, .ref 0), (2, .ref 96), (3, .ref 122), (4, .ref 123), (5, .int (nI (5 * r)))] [.int c] M1
    refine w_istore 6 (pc := 656) dL_law_656 (by decide) ?_
    refine w_aload_n (pc := 658) dL_law_658 rfl ?_
    refine w_aload_n (pc := 659) dL_law_659 rfl ?_
    refine w_iload (pc := 660) dL_law_660 rfl ?_
    refine w_iconst (v := 1) (pc := 662) dL_law_662 rfl ?_
    refine w_iadd (pc := 663) dL_law_663 ?_
    refine w_sld (pc := 664) sc hi1 dL_law_664 ?_
    refine w_aload_n (pc := 665) dL_law_665 rfl ?_
    refine w_iload (pc := 666) dL_law_666 rfl ?_
    refine w_iconst (v := 2) (pc := 668) dL_law_668 rfl ?_
    refine w_iadd (pc := 669) dL_law_669 ?_
    refine w_sld (pc := 670) sc hi2 dL_law_670 ?_
    refine w_callV2 (n' := 4 * f) (pc := 671) (c_X6_assess hG) cv_L_117 (ob rfl) (fu_Assess (mid (fun _ _ => True) (fun _ _ => True) (fun _ _ _ => trivial))) hT (by omega) (by omega) (Nat.le_of_ble_eq_true rfl) dL_law_671 ?_
    refine mid _ _ (fun M2 hI2 ht => ?_)
    dsimp only [psh]
    refine w_lstore 7 (pc := 674) dL_law_674 (by decide) ?_
    refine w_aload_n (pc := 676) dL_law_676 rfl ?_
    refine w_callV0 (n' := 4 * f) (pc := 677) (c_X6_thrown hG) cv_L_91 (ob rfl) hI2.1 hT (by omega) (by omega) (Nat.le_of_ble_eq_true rfl) dL_law_677 ?_
    refine ⟨rfl, hI2.1, ?_⟩
    dsimp only [psh]
    rw [ht]
    refine w_iload (pc := 680) dL_law_680 rfl ?_
    refine w_icmp_eq 687 (pc := 682) dL_law_682 (by decide) (fun h682 => ?_) (fun h682 => ?_)
    · refine w_iload (pc := 687) dL_law_687 rfl ?_
      refine w_if_ne 703 (pc := 689) dL_law_689 (by decide) (fun h689 => ?_) (fun h689 => ?_)
      · refine w_goto 1199 (pc := 703) dL_law_703 (by decide) ?_
        exact w_lk (tl _ hI2) (lkc rfl (lkc rfl (lkc rfl (lkc rfl (lkc rfl (lkc rfl lkn))))))
      · exact absurd h689 hc0
    · exact absurd rfl h682
theorem lc_value {G : Cx} {L r f : Nat} {xs : Nat → Int32} {M : Mem} (hT : gt G = []) (hd : gd G = 1300) (hNc : NcAll (gs G)) (hG : (gl G).stackTraces = false) (sc : ScrOk G L xs) (hL : L ≤ 2560) (hr : 5 * r + 5 ≤ L) (hI : Inv M)
    (tl : ∀ M, Inv M → PW G RL cL_law 9 (some .boolean) PQ1 PX0 (4 * f) 1199 [(0, .ref 200), (1, .ref 0), (2, .ref 96), (3, .ref 122), (4, .ref 123), (5, .int (nI (5 * r)))] [] M) : PW G RL cL_law 9 (some .boolean) PQ1 PX0 (4 * f + 4) 706 [(0, .ref 200), (1, .ref 0), (2, .ref 96), (3, .ref 122), (4, .ref 123), (5, .int (nI (5 * r)))] [] M := by
  have hi1 : vp_in (nI (5 * r) + 1) L := by rw [show (1 : Int32) = nI 1 from rfl, nI_add]; exact vin (by omega) (by omega)
  have hi2 : vp_in (nI (5 * r) + 2) L := by rw [show (2 : Int32) = nI 2 from rfl, nI_add]; exact vin (by omega) (by omega)
  have hi3 : vp_in (nI (5 * r) + 3) L := by rw [show (3 : Int32) = nI 3 from rfl, nI_add]; exact vin (by omega) (by omega)
  refine w_aload_n (pc := 706) dL_law_706 rfl ?_
  refine w_aload_n (pc := 707) dL_law_707 rfl ?_
  refine w_iload (pc := 708) dL_law_708 rfl ?_
  refine w_iconst (v := 1) (pc := 710) dL_law_710 rfl ?_
  refine w_iadd (pc := 711) dL_law_711 ?_
  refine w_sld (pc := 712) sc hi1 dL_law_712 ?_
  refine w_aload_n (pc := 713) dL_law_713 rfl ?_
  refine w_iload (pc := 714) dL_law_714 rfl ?_
  refine w_iconst (v := 2) (pc := 716) dL_law_716 rfl ?_
  refine w_iadd (pc := 717) dL_law_717 ?_
  refine w_sld (pc := 718) sc hi2 dL_law_718 ?_
  refine w_aload_n (pc := 719) dL_law_719 rfl ?_
  refine w_iload (pc := 720) dL_law_720 rfl ?_
  refine w_iconst (v := 3) (pc := 722) dL_law_722 rfl ?_
  refine w_iadd (pc := 723) dL_law_723 ?_
  refine w_sld (pc := 724) sc hi3 dL_law_724 ?_
  refine w_aload_n (pc := 725) dL_law_725 rfl ?_
  refine w_callSW (n' := 4 * f) (As := [.ref 0, .int (xs (nI (5 * r) + 1).toNatClampNeg), .int (xs (nI (5 * r) + 2).toNatClampNeg), .int (xs (nI (5 * r) + 3).toNatClampNeg), .ref 122]) (st := []) (pc := 726) (cw_value hG) csw_118 hNc hT (by omega) rfl (by omega) rfl (Nat.le_of_ble_eq_true rfl) dL_law_726 ?_
  refine ⟨_, _, _, rfl, hI.1, s_value hI (fun n M1 mid => ⟨(by have z := fu_Value (mid (fun _ _ => True) (fun _ _ => True) (fun _ _ _ _ => trivial)); exact z), n, rfl, ?_⟩) (fun E c M1 hm mid => ⟨c, hm, ?_⟩)⟩
  · show PW G RL cL_law 9 (some .boolean) PQ1 PX0 (4 * f) 729 [(0, .ref 200), (1, .ref 0), (2, .ref 96), (3, .ref 122), (4, .ref 123), (5, .int (nI (5 * r)))] [.int 0] (sJ M1 122 0 n)
    refine w_istore 6 (pc := 729) dL_law_729 (by decide) ?_
    refine w_aload_n (pc := 731) dL_law_731 rfl ?_
    refine w_aload_n (pc := 732) dL_law_732 rfl ?_
    refine w_iload (pc := 733) dL_law_733 rfl ?_
    refine w_iconst (v := 1) (pc := 735) dL_law_735 rfl ?_
    refine w_iadd (pc := 736) dL_law_736 ?_
    refine w_sld (pc := 737) sc hi1 dL_law_737 ?_
    refine w_aload_n (pc := 738) dL_law_738 rfl ?_
    refine w_iload (pc := 739) dL_law_739 rfl ?_
    refine w_iconst (v := 2) (pc := 741) dL_law_741 rfl ?_
    refine w_iadd (pc := 742) dL_law_742 ?_
    refine w_sld (pc := 743) sc hi2 dL_law_743 ?_
    refine w_aload_n (pc := 744) dL_law_744 rfl ?_
    refine w_iload (pc := 745) dL_law_745 rfl ?_
    refine w_iconst (v := 3) (pc := 747) dL_law_747 rfl ?_
    refine w_iadd (pc := 748) dL_law_748 ?_
    refine w_sld (pc := 749) sc hi3 dL_law_749 ?_
    refine w_callV3 (n' := 4 * f) (pc := 750) (c_X6_value hG) cv_L_120 (ob rfl) (fu_Value (mid (fun _ _ => True) (fun _ _ => True) (fun _ _ _ _ => trivial))) hT (by omega) (by omega) (Nat.le_of_ble_eq_true rfl) dL_law_750 ?_
    refine mid _ _ (fun M2 hI2 ht hj => ?_)
    dsimp only [psh]
    refine w_lstore 7 (pc := 753) dL_law_753 (by decide) ?_
    refine w_aload_n (pc := 755) dL_law_755 rfl ?_
    refine w_callV0 (n' := 4 * f) (pc := 756) (c_X6_thrown hG) cv_L_91 (ob rfl) hI2.1 hT (by omega) (by omega) (Nat.le_of_ble_eq_true rfl) dL_law_756 ?_
    refine ⟨rfl, hI2.1, ?_⟩
    dsimp only [psh]
    rw [ht]
    refine w_iload (pc := 759) dL_law_759 rfl ?_
    refine w_icmp_eq 766 (pc := 761) dL_law_761 (by decide) (fun h761 => ?_) (fun h761 => ?_)
    · refine w_iload (pc := 766) dL_law_766 rfl ?_
      refine w_if_ne 782 (pc := 768) dL_law_768 (by decide) (fun h768 => ?_) (fun h768 => ?_)
      · exact absurd rfl h768
      · refine w_aload_n (pc := 771) dL_law_771 rfl ?_
        refine w_iconst (v := 0) (pc := 772) dL_law_772 rfl ?_
        refine w_lald (m := 1) (pc := 773) hI2.1 (by first | assumption | exact ar rfl) (vin (i := 0) (n := 1) (by decide) (by decide)) dL_law_773 ?_
        rw [show mJ M2 122 (0 : Int32).toNatClampNeg = n from hj]
        refine w_lload (pc := 774) dL_law_774 rfl ?_
        refine w_lcmp_eq 782 (pc := 776) dL_law_776 dL_law_777 (by decide) (fun h776 => ?_) (fun h776 => ?_)
        · refine w_goto 1199 (pc := 782) dL_law_782 (by decide) ?_
          exact w_lk (tl _ hI2) (lkc rfl (lkc rfl (lkc rfl (lkc rfl (lkc rfl (lkc rfl lkn))))))
        · exact absurd rfl h776
    · exact absurd rfl h761
  · have hc0 : ¬ c = 0 := by
      simp only [List.mem_cons, Prod.mk.injEq, List.not_mem_nil, or_false] at hm
      rcases hm with ⟨-, rfl⟩ | ⟨-, rfl⟩ <;> decide
    show PW G RL cL_law 9 (some .boolean) PQ1 PX0 (4 * f) 729 [(0, .ref 200), (1, .ref 0), (2, .ref 96), (3, .ref 122), (4, .ref 123), (5, .int (nI (5 * r)))] [.int c] M1
    refine w_istore 6 (pc := 729) dL_law_729 (by decide) ?_
    refine w_aload_n (pc := 731) dL_law_731 rfl ?_
    refine w_aload_n (pc := 732) dL_law_732 rfl ?_
    refine w_iload (pc := 733) dL_law_733 rfl ?_
    refine w_iconst (v := 1) (pc := 735) dL_law_735 rfl ?_
    refine w_iadd (pc := 736) dL_law_736 ?_
    refine w_sld (pc := 737) sc hi1 dL_law_737 ?_
    refine w_aload_n (pc := 738) dL_law_738 rfl ?_
    refine w_iload (pc := 739) dL_law_739 rfl ?_
    refine w_iconst (v := 2) (pc := 741) dL_law_741 rfl ?_
    refine w_iadd (pc := 742) dL_law_742 ?_
    refine w_sld (pc := 743) sc hi2 dL_law_743 ?_
    refine w_aload_n (pc := 744) dL_law_744 rfl ?_
    refine w_iload (pc := 745) dL_law_745 rfl ?_
    refine w_iconst (v := 3) (pc := 747) dL_law_747 rfl ?_
    refine w_iadd (pc := 748) dL_law_748 ?_
    refine w_sld (pc := 749) sc hi3 dL_law_749 ?_
    refine w_callV3 (n' := 4 * f) (pc := 750) (c_X6_value hG) cv_L_120 (ob rfl) (fu_Value (mid (fun _ _ => True) (fun _ _ => True) (fun _ _ _ => trivial))) hT (by omega) (by omega) (Nat.le_of_ble_eq_true rfl) dL_law_750 ?_
    refine mid _ _ (fun M2 hI2 ht => ?_)
    dsimp only [psh]
    refine w_lstore 7 (pc := 753) dL_law_753 (by decide) ?_
    refine w_aload_n (pc := 755) dL_law_755 rfl ?_
    refine w_callV0 (n' := 4 * f) (pc := 756) (c_X6_thrown hG) cv_L_91 (ob rfl) hI2.1 hT (by omega) (by omega) (Nat.le_of_ble_eq_true rfl) dL_law_756 ?_
    refine ⟨rfl, hI2.1, ?_⟩
    dsimp only [psh]
    rw [ht]
    refine w_iload (pc := 759) dL_law_759 rfl ?_
    refine w_icmp_eq 766 (pc := 761) dL_law_761 (by decide) (fun h761 => ?_) (fun h761 => ?_)
    · refine w_iload (pc := 766) dL_law_766 rfl ?_
      refine w_if_ne 782 (pc := 768) dL_law_768 (by decide) (fun h768 => ?_) (fun h768 => ?_)
      · refine w_goto 1199 (pc := 782) dL_law_782 (by decide) ?_
        exact w_lk (tl _ hI2) (lkc rfl (lkc rfl (lkc rfl (lkc rfl (lkc rfl (lkc rfl lkn))))))
      · exact absurd h768 hc0
    · exact absurd rfl h761
theorem lc_share {G : Cx} {L r f : Nat} {xs : Nat → Int32} {M : Mem} (hT : gt G = []) (hd : gd G = 1300) (hNc : NcAll (gs G)) (hG : (gl G).stackTraces = false) (sc : ScrOk G L xs) (hL : L ≤ 2560) (hr : 5 * r + 5 ≤ L) (hI : Inv M)
    (tl : ∀ M, Inv M → PW G RL cL_law 9 (some .boolean) PQ1 PX0 (4 * f) 1199 [(0, .ref 200), (1, .ref 0), (2, .ref 96), (3, .ref 122), (4, .ref 123), (5, .int (nI (5 * r)))] [] M) : PW G RL cL_law 9 (some .boolean) PQ1 PX0 (4 * f + 4) 785 [(0, .ref 200), (1, .ref 0), (2, .ref 96), (3, .ref 122), (4, .ref 123), (5, .int (nI (5 * r)))] [] M := by
  have hi1 : vp_in (nI (5 * r) + 1) L := by rw [show (1 : Int32) = nI 1 from rfl, nI_add]; exact vin (by omega) (by omega)
  have hi2 : vp_in (nI (5 * r) + 2) L := by rw [show (2 : Int32) = nI 2 from rfl, nI_add]; exact vin (by omega) (by omega)
  have hi3 : vp_in (nI (5 * r) + 3) L := by rw [show (3 : Int32) = nI 3 from rfl, nI_add]; exact vin (by omega) (by omega)
  refine w_aload_n (pc := 785) dL_law_785 rfl ?_
  refine w_aload_n (pc := 786) dL_law_786 rfl ?_
  refine w_iload (pc := 787) dL_law_787 rfl ?_
  refine w_iconst (v := 1) (pc := 789) dL_law_789 rfl ?_
  refine w_iadd (pc := 790) dL_law_790 ?_
  refine w_sld (pc := 791) sc hi1 dL_law_791 ?_
  refine w_aload_n (pc := 792) dL_law_792 rfl ?_
  refine w_iload (pc := 793) dL_law_793 rfl ?_
  refine w_iconst (v := 2) (pc := 795) dL_law_795 rfl ?_
  refine w_iadd (pc := 796) dL_law_796 ?_
  refine w_sld (pc := 797) sc hi2 dL_law_797 ?_
  refine w_aload_n (pc := 798) dL_law_798 rfl ?_
  refine w_iload (pc := 799) dL_law_799 rfl ?_
  refine w_iconst (v := 3) (pc := 801) dL_law_801 rfl ?_
  refine w_iadd (pc := 802) dL_law_802 ?_
  refine w_sld (pc := 803) sc hi3 dL_law_803 ?_
  refine w_aload (pc := 804) dL_law_804 rfl ?_
  refine w_callSW (n' := 4 * f) (As := [.ref 0, .int (xs (nI (5 * r) + 1).toNatClampNeg), .int (xs (nI (5 * r) + 2).toNatClampNeg), .int (xs (nI (5 * r) + 3).toNatClampNeg), .ref 123]) (st := []) (pc := 806) (cw_share hG) csw_121 hNc hT (by omega) rfl (by omega) rfl (Nat.le_of_ble_eq_true rfl) dL_law_806 ?_
  refine ⟨_, _, _, rfl, hI.1, s_share hI (fun n M1 mid => ⟨(by have z := fu_Share (mid.2 (fun _ _ => True) (fun _ _ => True) (fun _ _ _ _ => trivial)); exact z), n, rfl, ?_⟩) (fun E c M1 hm mid => ⟨c, hm, ?_⟩)⟩
  · show PW G RL cL_law 9 (some .boolean) PQ1 PX0 (4 * f) 809 [(0, .ref 200), (1, .ref 0), (2, .ref 96), (3, .ref 122), (4, .ref 123), (5, .int (nI (5 * r)))] [.int 0] (sD M1 123 0 n)
    refine w_istore 6 (pc := 809) dL_law_809 (by decide) ?_
    refine w_aload_n (pc := 811) dL_law_811 rfl ?_
    refine w_aload_n (pc := 812) dL_law_812 rfl ?_
    refine w_iload (pc := 813) dL_law_813 rfl ?_
    refine w_iconst (v := 1) (pc := 815) dL_law_815 rfl ?_
    refine w_iadd (pc := 816) dL_law_816 ?_
    refine w_sld (pc := 817) sc hi1 dL_law_817 ?_
    refine w_aload_n (pc := 818) dL_law_818 rfl ?_
    refine w_iload (pc := 819) dL_law_819 rfl ?_
    refine w_iconst (v := 2) (pc := 821) dL_law_821 rfl ?_
    refine w_iadd (pc := 822) dL_law_822 ?_
    refine w_sld (pc := 823) sc hi2 dL_law_823 ?_
    refine w_aload_n (pc := 824) dL_law_824 rfl ?_
    refine w_iload (pc := 825) dL_law_825 rfl ?_
    refine w_iconst (v := 3) (pc := 827) dL_law_827 rfl ?_
    refine w_iadd (pc := 828) dL_law_828 ?_
    refine w_sld (pc := 829) sc hi3 dL_law_829 ?_
    refine w_callV3 (n' := 4 * f) (pc := 830) (c_X6_share hG) cv_L_124 (ob rfl) (fu_Share (mid.2 (fun _ _ => True) (fun _ _ => True) (fun _ _ _ _ => trivial))) hT (by omega) (by omega) (Nat.le_of_ble_eq_true rfl) dL_law_830 ?_
    refine mid.2 _ _ (fun M2 hI2 ht hj => ?_)
    dsimp only [psh]
    refine w_dstore 7 (pc := 833) dL_law_833 (by decide) ?_
    refine w_aload_n (pc := 835) dL_law_835 rfl ?_
    refine w_callV0 (n' := 4 * f) (pc := 836) (c_X6_thrown hG) cv_L_91 (ob rfl) hI2.1 hT (by omega) (by omega) (Nat.le_of_ble_eq_true rfl) dL_law_836 ?_
    refine ⟨rfl, hI2.1, ?_⟩
    dsimp only [psh]
    rw [ht]
    refine w_iload (pc := 839) dL_law_839 rfl ?_
    refine w_icmp_eq 846 (pc := 841) dL_law_841 (by decide) (fun h841 => ?_) (fun h841 => ?_)
    · refine w_iload (pc := 846) dL_law_846 rfl ?_
      refine w_if_ne 883 (pc := 848) dL_law_848 (by decide) (fun h848 => ?_) (fun h848 => ?_)
      · exact absurd rfl h848
      · refine w_aload (pc := 851) dL_law_851 rfl ?_
        refine w_iconst (v := 0) (pc := 853) dL_law_853 rfl ?_
        refine w_dald (m := 1) (pc := 854) hI2.1 (by first | assumption | exact ar rfl) (vin (i := 0) (n := 1) (by decide) (by decide)) dL_law_854 ?_
        rw [show mD M2 123 (0 : Int32).toNatClampNeg = n from hj]
        refine w_dload (pc := 855) dL_law_855 rfl ?_
        refine w_dcmp (pc := 857) dL_law_857 ?_
        rw [dcmp_0 mid.1]
        refine w_if_eq 883 (pc := 858) dL_law_858 (by decide) (fun h858 => ?_) (fun h858 => ?_)
        · refine w_goto 1199 (pc := 883) dL_law_883 (by decide) ?_
          exact w_lk (tl _ hI2) (lkc rfl (lkc rfl (lkc rfl (lkc rfl (lkc rfl (lkc rfl lkn))))))
        · exact absurd rfl h858
    · exact absurd rfl h841
  · have hc0 : ¬ c = 0 := by
      simp only [List.mem_cons, Prod.mk.injEq, List.not_mem_nil, or_false] at hm
      rcases hm with ⟨-, rfl⟩ | ⟨-, rfl⟩ <;> decide
    show PW G RL cL_law 9 (some .boolean) PQ1 PX0 (4 * f) 809 [(0, .ref 200), (1, .ref 0), (2, .ref 96), (3, .ref 122), (4, .ref 123), (5, .int (nI (5 * r)))] [.int c] M1
    refine w_istore 6 (pc := 809) dL_law_809 (by decide) ?_
    refine w_aload_n (pc := 811) dL_law_811 rfl ?_
    refine w_aload_n (pc := 812) dL_law_812 rfl ?_
    refine w_iload (pc := 813) dL_law_813 rfl ?_
    refine w_iconst (v := 1) (pc := 815) dL_law_815 rfl ?_
    refine w_iadd (pc := 816) dL_law_816 ?_
    refine w_sld (pc := 817) sc hi1 dL_law_817 ?_
    refine w_aload_n (pc := 818) dL_law_818 rfl ?_
    refine w_iload (pc := 819) dL_law_819 rfl ?_
    refine w_iconst (v := 2) (pc := 821) dL_law_821 rfl ?_
    refine w_iadd (pc := 822) dL_law_822 ?_
    refine w_sld (pc := 823) sc hi2 dL_law_823 ?_
    refine w_aload_n (pc := 824) dL_law_824 rfl ?_
    refine w_iload (pc := 825) dL_law_825 rfl ?_
    refine w_iconst (v := 3) (pc := 827) dL_law_827 rfl ?_
    refine w_iadd (pc := 828) dL_law_828 ?_
    refine w_sld (pc := 829) sc hi3 dL_law_829 ?_
    refine w_callV3 (n' := 4 * f) (pc := 830) (c_X6_share hG) cv_L_124 (ob rfl) (fu_Share (mid (fun _ _ => True) (fun _ _ => True) (fun _ _ _ => trivial))) hT (by omega) (by omega) (Nat.le_of_ble_eq_true rfl) dL_law_830 ?_
    refine mid _ _ (fun M2 hI2 ht => ?_)
    dsimp only [psh]
    refine w_dstore 7 (pc := 833) dL_law_833 (by decide) ?_
    refine w_aload_n (pc := 835) dL_law_835 rfl ?_
    refine w_callV0 (n' := 4 * f) (pc := 836) (c_X6_thrown hG) cv_L_91 (ob rfl) hI2.1 hT (by omega) (by omega) (Nat.le_of_ble_eq_true rfl) dL_law_836 ?_
    refine ⟨rfl, hI2.1, ?_⟩
    dsimp only [psh]
    rw [ht]
    refine w_iload (pc := 839) dL_law_839 rfl ?_
    refine w_icmp_eq 846 (pc := 841) dL_law_841 (by decide) (fun h841 => ?_) (fun h841 => ?_)
    · refine w_iload (pc := 846) dL_law_846 rfl ?_
      refine w_if_ne 883 (pc := 848) dL_law_848 (by decide) (fun h848 => ?_) (fun h848 => ?_)
      · refine w_goto 1199 (pc := 883) dL_law_883 (by decide) ?_
        exact w_lk (tl _ hI2) (lkc rfl (lkc rfl (lkc rfl (lkc rfl (lkc rfl (lkc rfl lkn))))))
      · exact absurd h848 hc0
    · exact absurd rfl h841
theorem lc_pay {G : Cx} {L r f : Nat} {xs : Nat → Int32} {M : Mem} (hT : gt G = []) (hd : gd G = 1300) (hNc : NcAll (gs G)) (hG : (gl G).stackTraces = false) (sc : ScrOk G L xs) (hL : L ≤ 2560) (hr : 5 * r + 5 ≤ L) (hI : Inv M)
    (tl : ∀ M, Inv M → PW G RL cL_law 9 (some .boolean) PQ1 PX0 (4 * f) 1199 [(0, .ref 200), (1, .ref 0), (2, .ref 96), (3, .ref 122), (4, .ref 123), (5, .int (nI (5 * r)))] [] M) : PW G RL cL_law 9 (some .boolean) PQ1 PX0 (4 * f + 4) 886 [(0, .ref 200), (1, .ref 0), (2, .ref 96), (3, .ref 122), (4, .ref 123), (5, .int (nI (5 * r)))] [] M := by
  have hi1 : vp_in (nI (5 * r) + 1) L := by rw [show (1 : Int32) = nI 1 from rfl, nI_add]; exact vin (by omega) (by omega)
  have hi2 : vp_in (nI (5 * r) + 2) L := by rw [show (2 : Int32) = nI 2 from rfl, nI_add]; exact vin (by omega) (by omega)
  refine w_aload_n (pc := 886) dL_law_886 rfl ?_
  refine w_aload_n (pc := 887) dL_law_887 rfl ?_
  refine w_iload (pc := 888) dL_law_888 rfl ?_
  refine w_iconst (v := 1) (pc := 890) dL_law_890 rfl ?_
  refine w_iadd (pc := 891) dL_law_891 ?_
  refine w_sld (pc := 892) sc hi1 dL_law_892 ?_
  refine w_aload_n (pc := 893) dL_law_893 rfl ?_
  refine w_iload (pc := 894) dL_law_894 rfl ?_
  refine w_iconst (v := 2) (pc := 896) dL_law_896 rfl ?_
  refine w_iadd (pc := 897) dL_law_897 ?_
  refine w_sld (pc := 898) sc hi2 dL_law_898 ?_
  refine w_aload_n (pc := 899) dL_law_899 rfl ?_
  refine w_callSW (n' := 4 * f) (As := [.ref 0, .int (xs (nI (5 * r) + 1).toNatClampNeg), .int (xs (nI (5 * r) + 2).toNatClampNeg), .ref 122]) (st := []) (pc := 900) (cw_pay hG) csw_125 hNc hT (by omega) rfl (by omega) rfl (Nat.le_of_ble_eq_true rfl) dL_law_900 ?_
  refine ⟨_, _, rfl, hI.1, s_pay hI (fun n M1 mid => ⟨(by have z := fu_Pay (mid (fun _ _ => True) (fun _ _ => True) (fun _ _ _ _ => trivial)); exact z), n, rfl, ?_⟩) (fun E c M1 hm mid => ⟨c, hm, ?_⟩)⟩
  · show PW G RL cL_law 9 (some .boolean) PQ1 PX0 (4 * f) 903 [(0, .ref 200), (1, .ref 0), (2, .ref 96), (3, .ref 122), (4, .ref 123), (5, .int (nI (5 * r)))] [.int 0] (sJ M1 122 0 n)
    refine w_istore 6 (pc := 903) dL_law_903 (by decide) ?_
    refine w_aload_n (pc := 905) dL_law_905 rfl ?_
    refine w_aload_n (pc := 906) dL_law_906 rfl ?_
    refine w_iload (pc := 907) dL_law_907 rfl ?_
    refine w_iconst (v := 1) (pc := 909) dL_law_909 rfl ?_
    refine w_iadd (pc := 910) dL_law_910 ?_
    refine w_sld (pc := 911) sc hi1 dL_law_911 ?_
    refine w_aload_n (pc := 912) dL_law_912 rfl ?_
    refine w_iload (pc := 913) dL_law_913 rfl ?_
    refine w_iconst (v := 2) (pc := 915) dL_law_915 rfl ?_
    refine w_iadd (pc := 916) dL_law_916 ?_
    refine w_sld (pc := 917) sc hi2 dL_law_917 ?_
    refine w_callV2 (n' := 4 * f) (pc := 918) (c_X6_pay hG) cv_L_127 (ob rfl) (fu_Pay (mid (fun _ _ => True) (fun _ _ => True) (fun _ _ _ _ => trivial))) hT (by omega) (by omega) (Nat.le_of_ble_eq_true rfl) dL_law_918 ?_
    refine mid _ _ (fun M2 hI2 ht hj => ?_)
    dsimp only [psh]
    refine w_lstore 7 (pc := 921) dL_law_921 (by decide) ?_
    refine w_aload_n (pc := 923) dL_law_923 rfl ?_
    refine w_callV0 (n' := 4 * f) (pc := 924) (c_X6_thrown hG) cv_L_91 (ob rfl) hI2.1 hT (by omega) (by omega) (Nat.le_of_ble_eq_true rfl) dL_law_924 ?_
    refine ⟨rfl, hI2.1, ?_⟩
    dsimp only [psh]
    rw [ht]
    refine w_iload (pc := 927) dL_law_927 rfl ?_
    refine w_icmp_eq 934 (pc := 929) dL_law_929 (by decide) (fun h929 => ?_) (fun h929 => ?_)
    · refine w_iload (pc := 934) dL_law_934 rfl ?_
      refine w_if_ne 950 (pc := 936) dL_law_936 (by decide) (fun h936 => ?_) (fun h936 => ?_)
      · exact absurd rfl h936
      · refine w_aload_n (pc := 939) dL_law_939 rfl ?_
        refine w_iconst (v := 0) (pc := 940) dL_law_940 rfl ?_
        refine w_lald (m := 1) (pc := 941) hI2.1 (by first | assumption | exact ar rfl) (vin (i := 0) (n := 1) (by decide) (by decide)) dL_law_941 ?_
        rw [show mJ M2 122 (0 : Int32).toNatClampNeg = n from hj]
        refine w_lload (pc := 942) dL_law_942 rfl ?_
        refine w_lcmp_eq 950 (pc := 944) dL_law_944 dL_law_945 (by decide) (fun h944 => ?_) (fun h944 => ?_)
        · refine w_goto 1199 (pc := 950) dL_law_950 (by decide) ?_
          exact w_lk (tl _ hI2) (lkc rfl (lkc rfl (lkc rfl (lkc rfl (lkc rfl (lkc rfl lkn))))))
        · exact absurd rfl h944
    · exact absurd rfl h929
  · have hc0 : ¬ c = 0 := by
      simp only [List.mem_cons, Prod.mk.injEq, List.not_mem_nil, or_false] at hm
      rcases hm with ⟨-, rfl⟩ | ⟨-, rfl⟩ | ⟨-, rfl⟩ <;> decide
    show PW G RL cL_law 9 (some .boolean) PQ1 PX0 (4 * f) 903 [(0, .ref 200), (1, .ref 0), (2, .ref 96), (3, .ref 122), (4, .ref 123), (5, .int (nI (5 * r)))] [.int c] M1
    refine w_istore 6 (pc := 903) dL_law_903 (by decide) ?_
    refine w_aload_n (pc := 905) dL_law_905 rfl ?_
    refine w_aload_n (pc := 906) dL_law_906 rfl ?_
    refine w_iload (pc := 907) dL_law_907 rfl ?_
    refine w_iconst (v := 1) (pc := 909) dL_law_909 rfl ?_
    refine w_iadd (pc := 910) dL_law_910 ?_
    refine w_sld (pc := 911) sc hi1 dL_law_911 ?_
    refine w_aload_n (pc := 912) dL_law_912 rfl ?_
    refine w_iload (pc := 913) dL_law_913 rfl ?_
    refine w_iconst (v := 2) (pc := 915) dL_law_915 rfl ?_
    refine w_iadd (pc := 916) dL_law_916 ?_
    refine w_sld (pc := 917) sc hi2 dL_law_917 ?_
    refine w_callV2 (n' := 4 * f) (pc := 918) (c_X6_pay hG) cv_L_127 (ob rfl) (fu_Pay (mid (fun _ _ => True) (fun _ _ => True) (fun _ _ _ => trivial))) hT (by omega) (by omega) (Nat.le_of_ble_eq_true rfl) dL_law_918 ?_
    refine mid _ _ (fun M2 hI2 ht => ?_)
    dsimp only [psh]
    refine w_lstore 7 (pc := 921) dL_law_921 (by decide) ?_
    refine w_aload_n (pc := 923) dL_law_923 rfl ?_
    refine w_callV0 (n' := 4 * f) (pc := 924) (c_X6_thrown hG) cv_L_91 (ob rfl) hI2.1 hT (by omega) (by omega) (Nat.le_of_ble_eq_true rfl) dL_law_924 ?_
    refine ⟨rfl, hI2.1, ?_⟩
    dsimp only [psh]
    rw [ht]
    refine w_iload (pc := 927) dL_law_927 rfl ?_
    refine w_icmp_eq 934 (pc := 929) dL_law_929 (by decide) (fun h929 => ?_) (fun h929 => ?_)
    · refine w_iload (pc := 934) dL_law_934 rfl ?_
      refine w_if_ne 950 (pc := 936) dL_law_936 (by decide) (fun h936 => ?_) (fun h936 => ?_)
      · refine w_goto 1199 (pc := 950) dL_law_950 (by decide) ?_
        exact w_lk (tl _ hI2) (lkc rfl (lkc rfl (lkc rfl (lkc rfl (lkc rfl (lkc rfl lkn))))))
      · exact absurd h936 hc0
    · exact absurd rfl h929
theorem lc_interest {G : Cx} {L r f : Nat} {xs : Nat → Int32} {M : Mem} (hT : gt G = []) (hd : gd G = 1300) (hNc : NcAll (gs G)) (hG : (gl G).stackTraces = false) (sc : ScrOk G L xs) (hL : L ≤ 2560) (hr : 5 * r + 5 ≤ L) (hI : Inv M)
    (tl : ∀ M, Inv M → PW G RL cL_law 9 (some .boolean) PQ1 PX0 (4 * f) 1199 [(0, .ref 200), (1, .ref 0), (2, .ref 96), (3, .ref 122), (4, .ref 123), (5, .int (nI (5 * r)))] [] M) : PW G RL cL_law 9 (some .boolean) PQ1 PX0 (4 * f + 4) 953 [(0, .ref 200), (1, .ref 0), (2, .ref 96), (3, .ref 122), (4, .ref 123), (5, .int (nI (5 * r)))] [] M := by
  have hi1 : vp_in (nI (5 * r) + 1) L := by rw [show (1 : Int32) = nI 1 from rfl, nI_add]; exact vin (by omega) (by omega)
  refine w_aload_n (pc := 953) dL_law_953 rfl ?_
  refine w_aload_n (pc := 954) dL_law_954 rfl ?_
  refine w_iload (pc := 955) dL_law_955 rfl ?_
  refine w_iconst (v := 1) (pc := 957) dL_law_957 rfl ?_
  refine w_iadd (pc := 958) dL_law_958 ?_
  refine w_sld (pc := 959) sc hi1 dL_law_959 ?_
  refine w_aload_n (pc := 960) dL_law_960 rfl ?_
  refine w_callSW (n' := 4 * f) (As := [.ref 0, .int (xs (nI (5 * r) + 1).toNatClampNeg), .ref 122]) (st := []) (pc := 961) (cw_interest hG) csw_128 hNc hT (by omega) rfl (by omega) rfl (Nat.le_of_ble_eq_true rfl) dL_law_961 ?_
  refine ⟨_, rfl, hI.1, s_interest hI (fun n M1 mid => ⟨(by have z := fu_Interest (mid (fun _ _ => True) (fun _ _ => True) (fun _ _ _ _ => trivial)); exact z), n, rfl, ?_⟩) (fun E c M1 hm mid => ⟨c, hm, ?_⟩)⟩
  · show PW G RL cL_law 9 (some .boolean) PQ1 PX0 (4 * f) 964 [(0, .ref 200), (1, .ref 0), (2, .ref 96), (3, .ref 122), (4, .ref 123), (5, .int (nI (5 * r)))] [.int 0] (sJ M1 122 0 n.toInt64)
    refine w_istore 6 (pc := 964) dL_law_964 (by decide) ?_
    refine w_aload_n (pc := 966) dL_law_966 rfl ?_
    refine w_aload_n (pc := 967) dL_law_967 rfl ?_
    refine w_iload (pc := 968) dL_law_968 rfl ?_
    refine w_iconst (v := 1) (pc := 970) dL_law_970 rfl ?_
    refine w_iadd (pc := 971) dL_law_971 ?_
    refine w_sld (pc := 972) sc hi1 dL_law_972 ?_
    refine w_callV1 (n' := 4 * f) (pc := 973) (c_X6_interest hG) cv_L_130 (ob rfl) (fu_Interest (mid (fun _ _ => True) (fun _ _ => True) (fun _ _ _ _ => trivial))) hT (by omega) (by omega) (Nat.le_of_ble_eq_true rfl) dL_law_973 ?_
    refine mid _ _ (fun M2 hI2 ht hj => ?_)
    dsimp only [psh]
    refine w_istore 7 (pc := 976) dL_law_976 (by decide) ?_
    refine w_aload_n (pc := 978) dL_law_978 rfl ?_
    refine w_callV0 (n' := 4 * f) (pc := 979) (c_X6_thrown hG) cv_L_91 (ob rfl) hI2.1 hT (by omega) (by omega) (Nat.le_of_ble_eq_true rfl) dL_law_979 ?_
    refine ⟨rfl, hI2.1, ?_⟩
    dsimp only [psh]
    rw [ht]
    refine w_iload (pc := 982) dL_law_982 rfl ?_
    refine w_icmp_eq 989 (pc := 984) dL_law_984 (by decide) (fun h984 => ?_) (fun h984 => ?_)
    · refine w_iload (pc := 989) dL_law_989 rfl ?_
      refine w_if_ne 1006 (pc := 991) dL_law_991 (by decide) (fun h991 => ?_) (fun h991 => ?_)
      · exact absurd rfl h991
      · refine w_aload_n (pc := 994) dL_law_994 rfl ?_
        refine w_iconst (v := 0) (pc := 995) dL_law_995 rfl ?_
        refine w_lald (m := 1) (pc := 996) hI2.1 (by first | assumption | exact ar rfl) (vin (i := 0) (n := 1) (by decide) (by decide)) dL_law_996 ?_
        rw [show mJ M2 122 (0 : Int32).toNatClampNeg = n.toInt64 from hj]
        refine w_iload (pc := 997) dL_law_997 rfl ?_
        refine w_i2l (pc := 999) dL_law_999 ?_
        refine w_lcmp_eq 1006 (pc := 1000) dL_law_1000 dL_law_1001 (by decide) (fun h1000 => ?_) (fun h1000 => ?_)
        · refine w_goto 1199 (pc := 1006) dL_law_1006 (by decide) ?_
          exact w_lk (tl _ hI2) (lkc rfl (lkc rfl (lkc rfl (lkc rfl (lkc rfl (lkc rfl lkn))))))
        · exact absurd rfl h1000
    · exact absurd rfl h984
  · have hc0 : ¬ c = 0 := by
      simp only [List.mem_cons, Prod.mk.injEq, List.not_mem_nil, or_false] at hm
      rw [hm.2]; decide
    show PW G RL cL_law 9 (some .boolean) PQ1 PX0 (4 * f) 964 [(0, .ref 200), (1, .ref 0), (2, .ref 96), (3, .ref 122), (4, .ref 123), (5, .int (nI (5 * r)))] [.int c] M1
    refine w_istore 6 (pc := 964) dL_law_964 (by decide) ?_
    refine w_aload_n (pc := 966) dL_law_966 rfl ?_
    refine w_aload_n (pc := 967) dL_law_967 rfl ?_
    refine w_iload (pc := 968) dL_law_968 rfl ?_
    refine w_iconst (v := 1) (pc := 970) dL_law_970 rfl ?_
    refine w_iadd (pc := 971) dL_law_971 ?_
    refine w_sld (pc := 972) sc hi1 dL_law_972 ?_
    refine w_callV1 (n' := 4 * f) (pc := 973) (c_X6_interest hG) cv_L_130 (ob rfl) (fu_Interest (mid (fun _ _ => True) (fun _ _ => True) (fun _ _ _ => trivial))) hT (by omega) (by omega) (Nat.le_of_ble_eq_true rfl) dL_law_973 ?_
    refine mid _ _ (fun M2 hI2 ht => ?_)
    dsimp only [psh]
    refine w_istore 7 (pc := 976) dL_law_976 (by decide) ?_
    refine w_aload_n (pc := 978) dL_law_978 rfl ?_
    refine w_callV0 (n' := 4 * f) (pc := 979) (c_X6_thrown hG) cv_L_91 (ob rfl) hI2.1 hT (by omega) (by omega) (Nat.le_of_ble_eq_true rfl) dL_law_979 ?_
    refine ⟨rfl, hI2.1, ?_⟩
    dsimp only [psh]
    rw [ht]
    refine w_iload (pc := 982) dL_law_982 rfl ?_
    refine w_icmp_eq 989 (pc := 984) dL_law_984 (by decide) (fun h984 => ?_) (fun h984 => ?_)
    · refine w_iload (pc := 989) dL_law_989 rfl ?_
      refine w_if_ne 1006 (pc := 991) dL_law_991 (by decide) (fun h991 => ?_) (fun h991 => ?_)
      · refine w_goto 1199 (pc := 1006) dL_law_1006 (by decide) ?_
        exact w_lk (tl _ hI2) (lkc rfl (lkc rfl (lkc rfl (lkc rfl (lkc rfl (lkc rfl lkn))))))
      · exact absurd h991 hc0
    · exact absurd rfl h984
theorem lc_pass {G : Cx} {L r f : Nat} {xs : Nat → Int32} {M : Mem} (hT : gt G = []) (hd : gd G = 1300) (hNc : NcAll (gs G)) (hG : (gl G).stackTraces = false) (sc : ScrOk G L xs) (hL : L ≤ 2560) (hr : 5 * r + 5 ≤ L) (hI : Inv M)
    (tl : ∀ M, Inv M → PW G RL cL_law 9 (some .boolean) PQ1 PX0 (4 * f) 1199 [(0, .ref 200), (1, .ref 0), (2, .ref 96), (3, .ref 122), (4, .ref 123), (5, .int (nI (5 * r)))] [] M) : PW G RL cL_law 9 (some .boolean) PQ1 PX0 (4 * f + 4) 1009 [(0, .ref 200), (1, .ref 0), (2, .ref 96), (3, .ref 122), (4, .ref 123), (5, .int (nI (5 * r)))] [] M := by
  have hi1 : vp_in (nI (5 * r) + 1) L := by rw [show (1 : Int32) = nI 1 from rfl, nI_add]; exact vin (by omega) (by omega)
  refine w_aload_n (pc := 1009) dL_law_1009 rfl ?_
  refine w_aload_n (pc := 1010) dL_law_1010 rfl ?_
  refine w_iload (pc := 1011) dL_law_1011 rfl ?_
  refine w_iconst (v := 1) (pc := 1013) dL_law_1013 rfl ?_
  refine w_iadd (pc := 1014) dL_law_1014 ?_
  refine w_sld (pc := 1015) sc hi1 dL_law_1015 ?_
  refine w_aload_n (pc := 1016) dL_law_1016 rfl ?_
  refine w_callSW (n' := 4 * f) (As := [.ref 0, .int (xs (nI (5 * r) + 1).toNatClampNeg), .ref 122]) (st := []) (pc := 1017) (cw_pass hG) csw_131 hNc hT (by omega) rfl (by omega) rfl (Nat.le_of_ble_eq_true rfl) dL_law_1017 ?_
  refine ⟨_, rfl, hI.1, s_pass hI (fun n M1 mid => ⟨(by have z := fu_Pass (mid (fun _ _ => True) (fun _ _ => True) (fun _ _ _ _ => trivial)); exact z), n, rfl, ?_⟩) (fun E c M1 hm mid => ⟨c, hm, ?_⟩)⟩
  · show PW G RL cL_law 9 (some .boolean) PQ1 PX0 (4 * f) 1020 [(0, .ref 200), (1, .ref 0), (2, .ref 96), (3, .ref 122), (4, .ref 123), (5, .int (nI (5 * r)))] [.int 0] (sJ M1 122 0 n.toInt64)
    refine w_istore 6 (pc := 1020) dL_law_1020 (by decide) ?_
    refine w_aload_n (pc := 1022) dL_law_1022 rfl ?_
    refine w_aload_n (pc := 1023) dL_law_1023 rfl ?_
    refine w_iload (pc := 1024) dL_law_1024 rfl ?_
    refine w_iconst (v := 1) (pc := 1026) dL_law_1026 rfl ?_
    refine w_iadd (pc := 1027) dL_law_1027 ?_
    refine w_sld (pc := 1028) sc hi1 dL_law_1028 ?_
    refine w_callV1 (n' := 4 * f) (pc := 1029) (c_X6_pass hG) cv_L_133 (ob rfl) (fu_Pass (mid (fun _ _ => True) (fun _ _ => True) (fun _ _ _ _ => trivial))) hT (by omega) (by omega) (Nat.le_of_ble_eq_true rfl) dL_law_1029 ?_
    refine mid _ _ (fun M2 hI2 ht hj => ?_)
    dsimp only [psh]
    refine w_istore 7 (pc := 1032) dL_law_1032 (by decide) ?_
    refine w_aload_n (pc := 1034) dL_law_1034 rfl ?_
    refine w_callV0 (n' := 4 * f) (pc := 1035) (c_X6_thrown hG) cv_L_91 (ob rfl) hI2.1 hT (by omega) (by omega) (Nat.le_of_ble_eq_true rfl) dL_law_1035 ?_
    refine ⟨rfl, hI2.1, ?_⟩
    dsimp only [psh]
    rw [ht]
    refine w_iload (pc := 1038) dL_law_1038 rfl ?_
    refine w_icmp_eq 1045 (pc := 1040) dL_law_1040 (by decide) (fun h1040 => ?_) (fun h1040 => ?_)
    · refine w_iload (pc := 1045) dL_law_1045 rfl ?_
      refine w_if_ne 1062 (pc := 1047) dL_law_1047 (by decide) (fun h1047 => ?_) (fun h1047 => ?_)
      · exact absurd rfl h1047
      · refine w_aload_n (pc := 1050) dL_law_1050 rfl ?_
        refine w_iconst (v := 0) (pc := 1051) dL_law_1051 rfl ?_
        refine w_lald (m := 1) (pc := 1052) hI2.1 (by first | assumption | exact ar rfl) (vin (i := 0) (n := 1) (by decide) (by decide)) dL_law_1052 ?_
        rw [show mJ M2 122 (0 : Int32).toNatClampNeg = n.toInt64 from hj]
        refine w_iload (pc := 1053) dL_law_1053 rfl ?_
        refine w_i2l (pc := 1055) dL_law_1055 ?_
        refine w_lcmp_eq 1062 (pc := 1056) dL_law_1056 dL_law_1057 (by decide) (fun h1056 => ?_) (fun h1056 => ?_)
        · refine w_goto 1199 (pc := 1062) dL_law_1062 (by decide) ?_
          exact w_lk (tl _ hI2) (lkc rfl (lkc rfl (lkc rfl (lkc rfl (lkc rfl (lkc rfl lkn))))))
        · exact absurd rfl h1056
    · exact absurd rfl h1040
  · have hc0 : ¬ c = 0 := by
      simp only [List.mem_cons, Prod.mk.injEq, List.not_mem_nil, or_false] at hm
      rcases hm with ⟨-, rfl⟩ | ⟨-, rfl⟩ <;> decide
    show PW G RL cL_law 9 (some .boolean) PQ1 PX0 (4 * f) 1020 [(0, .ref 200), (1, .ref 0), (2, .ref 96), (3, .ref 122), (4, .ref 123), (5, .int (nI (5 * r)))] [.int c] M1
    refine w_istore 6 (pc := 1020) dL_law_1020 (by decide) ?_
    refine w_aload_n (pc := 1022) dL_law_1022 rfl ?_
    refine w_aload_n (pc := 1023) dL_law_1023 rfl ?_
    refine w_iload (pc := 1024) dL_law_1024 rfl ?_
    refine w_iconst (v := 1) (pc := 1026) dL_law_1026 rfl ?_
    refine w_iadd (pc := 1027) dL_law_1027 ?_
    refine w_sld (pc := 1028) sc hi1 dL_law_1028 ?_
    refine w_callV1 (n' := 4 * f) (pc := 1029) (c_X6_pass hG) cv_L_133 (ob rfl) (fu_Pass (mid (fun _ _ => True) (fun _ _ => True) (fun _ _ _ => trivial))) hT (by omega) (by omega) (Nat.le_of_ble_eq_true rfl) dL_law_1029 ?_
    refine mid _ _ (fun M2 hI2 ht => ?_)
    dsimp only [psh]
    refine w_istore 7 (pc := 1032) dL_law_1032 (by decide) ?_
    refine w_aload_n (pc := 1034) dL_law_1034 rfl ?_
    refine w_callV0 (n' := 4 * f) (pc := 1035) (c_X6_thrown hG) cv_L_91 (ob rfl) hI2.1 hT (by omega) (by omega) (Nat.le_of_ble_eq_true rfl) dL_law_1035 ?_
    refine ⟨rfl, hI2.1, ?_⟩
    dsimp only [psh]
    rw [ht]
    refine w_iload (pc := 1038) dL_law_1038 rfl ?_
    refine w_icmp_eq 1045 (pc := 1040) dL_law_1040 (by decide) (fun h1040 => ?_) (fun h1040 => ?_)
    · refine w_iload (pc := 1045) dL_law_1045 rfl ?_
      refine w_if_ne 1062 (pc := 1047) dL_law_1047 (by decide) (fun h1047 => ?_) (fun h1047 => ?_)
      · refine w_goto 1199 (pc := 1062) dL_law_1062 (by decide) ?_
        exact w_lk (tl _ hI2) (lkc rfl (lkc rfl (lkc rfl (lkc rfl (lkc rfl (lkc rfl lkn))))))
      · exact absurd h1047 hc0
    · exact absurd rfl h1040
theorem lc_balance {G : Cx} {L r f : Nat} {xs : Nat → Int32} {M : Mem} (hT : gt G = []) (hd : gd G = 1300) (hNc : NcAll (gs G)) (hG : (gl G).stackTraces = false) (sc : ScrOk G L xs) (hL : L ≤ 2560) (hr : 5 * r + 5 ≤ L) (hI : Inv M)
    (tl : ∀ M, Inv M → PW G RL cL_law 9 (some .boolean) PQ1 PX0 (4 * f) 1199 [(0, .ref 200), (1, .ref 0), (2, .ref 96), (3, .ref 122), (4, .ref 123), (5, .int (nI (5 * r)))] [] M) : PW G RL cL_law 9 (some .boolean) PQ1 PX0 (4 * f + 4) 1065 [(0, .ref 200), (1, .ref 0), (2, .ref 96), (3, .ref 122), (4, .ref 123), (5, .int (nI (5 * r)))] [] M := by
  have hi1 : vp_in (nI (5 * r) + 1) L := by rw [show (1 : Int32) = nI 1 from rfl, nI_add]; exact vin (by omega) (by omega)
  refine w_aload_n (pc := 1065) dL_law_1065 rfl ?_
  refine w_aload_n (pc := 1066) dL_law_1066 rfl ?_
  refine w_iload (pc := 1067) dL_law_1067 rfl ?_
  refine w_iconst (v := 1) (pc := 1069) dL_law_1069 rfl ?_
  refine w_iadd (pc := 1070) dL_law_1070 ?_
  refine w_sld (pc := 1071) sc hi1 dL_law_1071 ?_
  refine w_aload_n (pc := 1072) dL_law_1072 rfl ?_
  refine w_callSW (n' := 4 * f) (As := [.ref 0, .int (xs (nI (5 * r) + 1).toNatClampNeg), .ref 122]) (st := []) (pc := 1073) (cw_balance hG) csw_134 hNc hT (by omega) rfl (by omega) rfl (Nat.le_of_ble_eq_true rfl) dL_law_1073 ?_
  refine ⟨_, rfl, hI.1, s_balance hI (fun n M1 mid => ⟨(by have z := fu_Balance (mid (fun _ _ => True) (fun _ _ => True) (fun _ _ _ _ => trivial)); exact z), n, rfl, ?_⟩) (fun E c M1 hm mid => ⟨c, hm, ?_⟩)⟩
  · show PW G RL cL_law 9 (some .boolean) PQ1 PX0 (4 * f) 1076 [(0, .ref 200), (1, .ref 0), (2, .ref 96), (3, .ref 122), (4, .ref 123), (5, .int (nI (5 * r)))] [.int 0] (sJ M1 122 0 n)
    refine w_istore 6 (pc := 1076) dL_law_1076 (by decide) ?_
    refine w_aload_n (pc := 1078) dL_law_1078 rfl ?_
    refine w_aload_n (pc := 1079) dL_law_1079 rfl ?_
    refine w_iload (pc := 1080) dL_law_1080 rfl ?_
    refine w_iconst (v := 1) (pc := 1082) dL_law_1082 rfl ?_
    refine w_iadd (pc := 1083) dL_law_1083 ?_
    refine w_sld (pc := 1084) sc hi1 dL_law_1084 ?_
    refine w_callV1 (n' := 4 * f) (pc := 1085) (c_X6_balance hG) cv_L_136 (ob rfl) (fu_Balance (mid (fun _ _ => True) (fun _ _ => True) (fun _ _ _ _ => trivial))) hT (by omega) (by omega) (Nat.le_of_ble_eq_true rfl) dL_law_1085 ?_
    refine mid _ _ (fun M2 hI2 ht hj => ?_)
    dsimp only [psh]
    refine w_lstore 7 (pc := 1088) dL_law_1088 (by decide) ?_
    refine w_aload_n (pc := 1090) dL_law_1090 rfl ?_
    refine w_callV0 (n' := 4 * f) (pc := 1091) (c_X6_thrown hG) cv_L_91 (ob rfl) hI2.1 hT (by omega) (by omega) (Nat.le_of_ble_eq_true rfl) dL_law_1091 ?_
    refine ⟨rfl, hI2.1, ?_⟩
    dsimp only [psh]
    rw [ht]
    refine w_iload (pc := 1094) dL_law_1094 rfl ?_
    refine w_icmp_eq 1101 (pc := 1096) dL_law_1096 (by decide) (fun h1096 => ?_) (fun h1096 => ?_)
    · refine w_iload (pc := 1101) dL_law_1101 rfl ?_
      refine w_if_ne 1117 (pc := 1103) dL_law_1103 (by decide) (fun h1103 => ?_) (fun h1103 => ?_)
      · exact absurd rfl h1103
      · refine w_aload_n (pc := 1106) dL_law_1106 rfl ?_
        refine w_iconst (v := 0) (pc := 1107) dL_law_1107 rfl ?_
        refine w_lald (m := 1) (pc := 1108) hI2.1 (by first | assumption | exact ar rfl) (vin (i := 0) (n := 1) (by decide) (by decide)) dL_law_1108 ?_
        rw [show mJ M2 122 (0 : Int32).toNatClampNeg = n from hj]
        refine w_lload (pc := 1109) dL_law_1109 rfl ?_
        refine w_lcmp_eq 1117 (pc := 1111) dL_law_1111 dL_law_1112 (by decide) (fun h1111 => ?_) (fun h1111 => ?_)
        · refine w_goto 1199 (pc := 1117) dL_law_1117 (by decide) ?_
          exact w_lk (tl _ hI2) (lkc rfl (lkc rfl (lkc rfl (lkc rfl (lkc rfl (lkc rfl lkn))))))
        · exact absurd rfl h1111
    · exact absurd rfl h1096
  · have hc0 : ¬ c = 0 := by
      simp only [List.mem_cons, Prod.mk.injEq, List.not_mem_nil, or_false] at hm
      rw [hm.2]; decide
    show PW G RL cL_law 9 (some .boolean) PQ1 PX0 (4 * f) 1076 [(0, .ref 200), (1, .ref 0), (2, .ref 96), (3, .ref 122), (4, .ref 123), (5, .int (nI (5 * r)))] [.int c] M1
    refine w_istore 6 (pc := 1076) dL_law_1076 (by decide) ?_
    refine w_aload_n (pc := 1078) dL_law_1078 rfl ?_
    refine w_aload_n (pc := 1079) dL_law_1079 rfl ?_
    refine w_iload (pc := 1080) dL_law_1080 rfl ?_
    refine w_iconst (v := 1) (pc := 1082) dL_law_1082 rfl ?_
    refine w_iadd (pc := 1083) dL_law_1083 ?_
    refine w_sld (pc := 1084) sc hi1 dL_law_1084 ?_
    refine w_callV1 (n' := 4 * f) (pc := 1085) (c_X6_balance hG) cv_L_136 (ob rfl) (fu_Balance (mid (fun _ _ => True) (fun _ _ => True) (fun _ _ _ => trivial))) hT (by omega) (by omega) (Nat.le_of_ble_eq_true rfl) dL_law_1085 ?_
    refine mid _ _ (fun M2 hI2 ht => ?_)
    dsimp only [psh]
    refine w_lstore 7 (pc := 1088) dL_law_1088 (by decide) ?_
    refine w_aload_n (pc := 1090) dL_law_1090 rfl ?_
    refine w_callV0 (n' := 4 * f) (pc := 1091) (c_X6_thrown hG) cv_L_91 (ob rfl) hI2.1 hT (by omega) (by omega) (Nat.le_of_ble_eq_true rfl) dL_law_1091 ?_
    refine ⟨rfl, hI2.1, ?_⟩
    dsimp only [psh]
    rw [ht]
    refine w_iload (pc := 1094) dL_law_1094 rfl ?_
    refine w_icmp_eq 1101 (pc := 1096) dL_law_1096 (by decide) (fun h1096 => ?_) (fun h1096 => ?_)
    · refine w_iload (pc := 1101) dL_law_1101 rfl ?_
      refine w_if_ne 1117 (pc := 1103) dL_law_1103 (by decide) (fun h1103 => ?_) (fun h1103 => ?_)
      · refine w_goto 1199 (pc := 1117) dL_law_1117 (by decide) ?_
        exact w_lk (tl _ hI2) (lkc rfl (lkc rfl (lkc rfl (lkc rfl (lkc rfl (lkc rfl lkn))))))
      · exact absurd h1103 hc0
    · exact absurd rfl h1096
theorem lc_posting {G : Cx} {L r f : Nat} {xs : Nat → Int32} {M : Mem} (hT : gt G = []) (hd : gd G = 1300) (hNc : NcAll (gs G)) (hG : (gl G).stackTraces = false) (sc : ScrOk G L xs) (hL : L ≤ 2560) (hr : 5 * r + 5 ≤ L) (hI : Inv M)
    (tl : ∀ M, Inv M → PW G RL cL_law 9 (some .boolean) PQ1 PX0 (4 * f) 1199 [(0, .ref 200), (1, .ref 0), (2, .ref 96), (3, .ref 122), (4, .ref 123), (5, .int (nI (5 * r)))] [] M) : PW G RL cL_law 9 (some .boolean) PQ1 PX0 (4 * f + 4) 1120 [(0, .ref 200), (1, .ref 0), (2, .ref 96), (3, .ref 122), (4, .ref 123), (5, .int (nI (5 * r)))] [] M := by
  have hi1 : vp_in (nI (5 * r) + 1) L := by rw [show (1 : Int32) = nI 1 from rfl, nI_add]; exact vin (by omega) (by omega)
  have hi2 : vp_in (nI (5 * r) + 2) L := by rw [show (2 : Int32) = nI 2 from rfl, nI_add]; exact vin (by omega) (by omega)
  have hi3 : vp_in (nI (5 * r) + 3) L := by rw [show (3 : Int32) = nI 3 from rfl, nI_add]; exact vin (by omega) (by omega)
  refine w_aload_n (pc := 1120) dL_law_1120 rfl ?_
  refine w_aload_n (pc := 1121) dL_law_1121 rfl ?_
  refine w_iload (pc := 1122) dL_law_1122 rfl ?_
  refine w_iconst (v := 1) (pc := 1124) dL_law_1124 rfl ?_
  refine w_iadd (pc := 1125) dL_law_1125 ?_
  refine w_sld (pc := 1126) sc hi1 dL_law_1126 ?_
  refine w_aload_n (pc := 1127) dL_law_1127 rfl ?_
  refine w_iload (pc := 1128) dL_law_1128 rfl ?_
  refine w_iconst (v := 2) (pc := 1130) dL_law_1130 rfl ?_
  refine w_iadd (pc := 1131) dL_law_1131 ?_
  refine w_sld (pc := 1132) sc hi2 dL_law_1132 ?_
  refine w_aload_n (pc := 1133) dL_law_1133 rfl ?_
  refine w_iload (pc := 1134) dL_law_1134 rfl ?_
  refine w_iconst (v := 3) (pc := 1136) dL_law_1136 rfl ?_
  refine w_iadd (pc := 1137) dL_law_1137 ?_
  refine w_sld (pc := 1138) sc hi3 dL_law_1138 ?_
  refine w_aload_n (pc := 1139) dL_law_1139 rfl ?_
  refine w_callSW (n' := 4 * f) (As := [.ref 0, .int (xs (nI (5 * r) + 1).toNatClampNeg), .int (xs (nI (5 * r) + 2).toNatClampNeg), .int (xs (nI (5 * r) + 3).toNatClampNeg), .ref 122]) (st := []) (pc := 1140) (cw_posting hG) csw_137 hNc hT (by omega) rfl (by omega) rfl (Nat.le_of_ble_eq_true rfl) dL_law_1140 ?_
  refine ⟨_, _, _, rfl, hI.1, s_posting hI (fun n M1 mid => ⟨(by have z := fu_Posting (mid (fun _ _ => True) (fun _ _ => True) (fun _ _ _ _ => trivial)); exact z), n, rfl, ?_⟩) (fun E c M1 hm mid => ⟨c, hm, ?_⟩)⟩
  · show PW G RL cL_law 9 (some .boolean) PQ1 PX0 (4 * f) 1143 [(0, .ref 200), (1, .ref 0), (2, .ref 96), (3, .ref 122), (4, .ref 123), (5, .int (nI (5 * r)))] [.int 0] (sJ M1 122 0 n)
    refine w_istore 6 (pc := 1143) dL_law_1143 (by decide) ?_
    refine w_aload_n (pc := 1145) dL_law_1145 rfl ?_
    refine w_aload_n (pc := 1146) dL_law_1146 rfl ?_
    refine w_iload (pc := 1147) dL_law_1147 rfl ?_
    refine w_iconst (v := 1) (pc := 1149) dL_law_1149 rfl ?_
    refine w_iadd (pc := 1150) dL_law_1150 ?_
    refine w_sld (pc := 1151) sc hi1 dL_law_1151 ?_
    refine w_aload_n (pc := 1152) dL_law_1152 rfl ?_
    refine w_iload (pc := 1153) dL_law_1153 rfl ?_
    refine w_iconst (v := 2) (pc := 1155) dL_law_1155 rfl ?_
    refine w_iadd (pc := 1156) dL_law_1156 ?_
    refine w_sld (pc := 1157) sc hi2 dL_law_1157 ?_
    refine w_aload_n (pc := 1158) dL_law_1158 rfl ?_
    refine w_iload (pc := 1159) dL_law_1159 rfl ?_
    refine w_iconst (v := 3) (pc := 1161) dL_law_1161 rfl ?_
    refine w_iadd (pc := 1162) dL_law_1162 ?_
    refine w_sld (pc := 1163) sc hi3 dL_law_1163 ?_
    refine w_callV3 (n' := 4 * f) (pc := 1164) (c_X6_posting hG) cv_L_139 (ob rfl) (fu_Posting (mid (fun _ _ => True) (fun _ _ => True) (fun _ _ _ _ => trivial))) hT (by omega) (by omega) (Nat.le_of_ble_eq_true rfl) dL_law_1164 ?_
    refine mid _ _ (fun M2 hI2 ht hj => ?_)
    dsimp only [psh]
    refine w_lstore 7 (pc := 1167) dL_law_1167 (by decide) ?_
    refine w_aload_n (pc := 1169) dL_law_1169 rfl ?_
    refine w_callV0 (n' := 4 * f) (pc := 1170) (c_X6_thrown hG) cv_L_91 (ob rfl) hI2.1 hT (by omega) (by omega) (Nat.le_of_ble_eq_true rfl) dL_law_1170 ?_
    refine ⟨rfl, hI2.1, ?_⟩
    dsimp only [psh]
    rw [ht]
    refine w_iload (pc := 1173) dL_law_1173 rfl ?_
    refine w_icmp_eq 1180 (pc := 1175) dL_law_1175 (by decide) (fun h1175 => ?_) (fun h1175 => ?_)
    · refine w_iload (pc := 1180) dL_law_1180 rfl ?_
      refine w_if_ne 1196 (pc := 1182) dL_law_1182 (by decide) (fun h1182 => ?_) (fun h1182 => ?_)
      · exact absurd rfl h1182
      · refine w_aload_n (pc := 1185) dL_law_1185 rfl ?_
        refine w_iconst (v := 0) (pc := 1186) dL_law_1186 rfl ?_
        refine w_lald (m := 1) (pc := 1187) hI2.1 (by first | assumption | exact ar rfl) (vin (i := 0) (n := 1) (by decide) (by decide)) dL_law_1187 ?_
        rw [show mJ M2 122 (0 : Int32).toNatClampNeg = n from hj]
        refine w_lload (pc := 1188) dL_law_1188 rfl ?_
        refine w_lcmp_eq 1196 (pc := 1190) dL_law_1190 dL_law_1191 (by decide) (fun h1190 => ?_) (fun h1190 => ?_)
        · refine w_goto 1199 (pc := 1196) dL_law_1196 (by decide) ?_
          exact w_lk (tl _ hI2) (lkc rfl (lkc rfl (lkc rfl (lkc rfl (lkc rfl (lkc rfl lkn))))))
        · exact absurd rfl h1190
    · exact absurd rfl h1175
  · have hc0 : ¬ c = 0 := by
      simp only [List.mem_cons, Prod.mk.injEq, List.not_mem_nil, or_false] at hm
      rcases hm with ⟨-, rfl⟩ | ⟨-, rfl⟩ <;> decide
    show PW G RL cL_law 9 (some .boolean) PQ1 PX0 (4 * f) 1143 [(0, .ref 200), (1, .ref 0), (2, .ref 96), (3, .ref 122), (4, .ref 123), (5, .int (nI (5 * r)))] [.int c] M1
    refine w_istore 6 (pc := 1143) dL_law_1143 (by decide) ?_
    refine w_aload_n (pc := 1145) dL_law_1145 rfl ?_
    refine w_aload_n (pc := 1146) dL_law_1146 rfl ?_
    refine w_iload (pc := 1147) dL_law_1147 rfl ?_
    refine w_iconst (v := 1) (pc := 1149) dL_law_1149 rfl ?_
    refine w_iadd (pc := 1150) dL_law_1150 ?_
    refine w_sld (pc := 1151) sc hi1 dL_law_1151 ?_
    refine w_aload_n (pc := 1152) dL_law_1152 rfl ?_
    refine w_iload (pc := 1153) dL_law_1153 rfl ?_
    refine w_iconst (v := 2) (pc := 1155) dL_law_1155 rfl ?_
    refine w_iadd (pc := 1156) dL_law_1156 ?_
    refine w_sld (pc := 1157) sc hi2 dL_law_1157 ?_
    refine w_aload_n (pc := 1158) dL_law_1158 rfl ?_
    refine w_iload (pc := 1159) dL_law_1159 rfl ?_
    refine w_iconst (v := 3) (pc := 1161) dL_law_1161 rfl ?_
    refine w_iadd (pc := 1162) dL_law_1162 ?_
    refine w_sld (pc := 1163) sc hi3 dL_law_1163 ?_
    refine w_callV3 (n' := 4 * f) (pc := 1164) (c_X6_posting hG) cv_L_139 (ob rfl) (fu_Posting (mid (fun _ _ => True) (fun _ _ => True) (fun _ _ _ => trivial))) hT (by omega) (by omega) (Nat.le_of_ble_eq_true rfl) dL_law_1164 ?_
    refine mid _ _ (fun M2 hI2 ht => ?_)
    dsimp only [psh]
    refine w_lstore 7 (pc := 1167) dL_law_1167 (by decide) ?_
    refine w_aload_n (pc := 1169) dL_law_1169 rfl ?_
    refine w_callV0 (n' := 4 * f) (pc := 1170) (c_X6_thrown hG) cv_L_91 (ob rfl) hI2.1 hT (by omega) (by omega) (Nat.le_of_ble_eq_true rfl) dL_law_1170 ?_
    refine ⟨rfl, hI2.1, ?_⟩
    dsimp only [psh]
    rw [ht]
    refine w_iload (pc := 1173) dL_law_1173 rfl ?_
    refine w_icmp_eq 1180 (pc := 1175) dL_law_1175 (by decide) (fun h1175 => ?_) (fun h1175 => ?_)
    · refine w_iload (pc := 1180) dL_law_1180 rfl ?_
      refine w_if_ne 1196 (pc := 1182) dL_law_1182 (by decide) (fun h1182 => ?_) (fun h1182 => ?_)
      · refine w_goto 1199 (pc := 1196) dL_law_1196 (by decide) ?_
        exact w_lk (tl _ hI2) (lkc rfl (lkc rfl (lkc rfl (lkc rfl (lkc rfl (lkc rfl lkn))))))
      · exact absurd h1182 hc0
    · exact absurd rfl h1175
