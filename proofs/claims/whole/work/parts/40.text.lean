/-! THE TEXT OF ALL SIGNS: indexOf over it; typing -/
def M0 : Mem := (fun _ _ => 0, fun _ _ => 0, fun _ _ => 0, fun _ => 0, 0, fun _ _ => true)
/-- the text stands at adr 0, its bytes at adr 1 -/
def StrU (adr : Nat → Nat) (A : Nat → Prop) (U : State) : Prop := vk_S 1 [37] [signBy] (fun _ => adr 0) (fun _ => adr 1) A U U.heap
def PreT (D : va_G) (cy : Nat → ClassId) (adr : Nat → Nat) (sz : Nat) (U : State) : Prop := Pre D cy adr M0 sz U ∧ StrU adr (AA adr (mN M0) sz) U
/-- a contract of a method that reads the text: its world is empty -/
def ConS (l : Launch) (y : MethodName) (cw : Cond) (d : Nat) (pt : PT) : Prop :=
  ∀ (D : va_G) (cy : Nat → ClassId) (adr : Nat → Nat) (as : List Value) (Q : Option Value → Mem → Prop) (sz : Nat), pt as M0 Q (fun _ _ => False) → Met l y (cw :: WW) (rmm d 0) (va_Pc (as.map (tv adr)) (PreT D cy adr sz)) (Qn D cy (fun a => a = adr) (AA adr (mN M0) sz) Q) 0 (6 * 0) (AA adr (mN M0) sz)
theorem StrU.to {adr : Nat → Nat} {A B : Nat → Prop} {s U : State} {H : Heap} {locs : List Loc} (h : StrU adr A s) (hS : va_S A s.heap H locs) (hU : U.heap = H) (hW : s.WarmedH U.vm) (hBA : ∀ q, B q → A q) : StrU adr B U := by
  have hq : ∀ a : Nat, a < s.heap.size → ¬ A a → U.heap[a]? = s.heap[a]? := fun a ha hA => by rw [hU]; exact hS.2.1 a ha hA
  exact ((vk_S.kept h hq).moved hW.alike).narrow hBA
theorem PreT.blind {D : va_G} {cy : Nat → ClassId} {adr : Nat → Nat} {sz : Nat} {av : List Value} : FrameBlind (va_Pc av (PreT D cy adr sz)) := by
  intro a U g mk h
  obtain ⟨h0, h1, h2⟩ := h
  obtain ⟨q0, q1⟩ := Pre.blind (av := av) a U g mk ⟨h0, h1⟩
  exact ⟨q0, q1, vk_S.moved (u := U) (U := U.calling g mk a) (Vm.Alike.refl U.vm) h2⟩
theorem con_ofS {l : Launch} {y : MethodName} {cc : ByteArray} {maxL d : Nat} {ret : Option FieldType} {pt : PT} (hl : l.stackTraces = false) (hy : plainFor y = true) (hlen : ∀ as M Q X, pt as M Q X → (lg_sl as).length ≤ maxL)
    (h : ∀ (G : Cx) (as : List Value) (Q : Option Value → Mem → Prop), gl G = l → gt G = [] → gd G = d → StrU (gr G) (gA G) (gs G) → pt as M0 Q (fun _ _ => False) → PW G y.cls cc maxL ret Q (fun _ _ => False) 0 0 (lv_args 0 as) [] M0) : ConS l y (Cond.code y cc maxL ret) d pt := by
  intro D cy adr as Q sz hpt
  refine va_MetF (cc := cc) (maxL := maxL) (ret := ret) hy rfl ?_
  intro p e s m args below meth c s₁ B hml hv
  obtain ⟨rfl, ⟨hsz, hP, hK, hD, hB⟩, hStr⟩ := hv
  subst hsz
  have hts := atoms_spec (ws := Cond.code y cc maxL ret :: WW) B.pre
  have hlen' := hlen as M0 Q _ hpt
  have hsl : ∀ vs : List Value, (lg_sl (vs.map (tv adr))).length = (lg_sl vs).length := by
    intro vs
    induction vs with
    | nil => rfl
    | cons v vs ih =>
      simp only [lg_sl, List.map_cons, List.flatMap_cons, List.length_append] at ih ⊢
      rw [ih, tv_cat]
      split <;> rfl
  have hargs : ∀ (vs : List Value) (i : Nat), lv_args i (vs.map (tv adr)) = lt adr (lv_args i vs) := by
    intro vs
    induction vs with
    | nil => intro i; rfl
    | cons v vs ih =>
      intro i
      simp only [List.map_cons, lv_args, lt, tv_cat] at ih ⊢
      rw [ih]
  have hl2 := lv_entry (as.map (tv adr)) (n := maxL) (by rw [hsl]; exact hlen')
  rw [lg_entry_eq]
  generalize (lg_sl (as.map (tv adr)) ++ List.replicate (maxL - (lg_sl (as.map (tv adr))).length) Slot.unset).toArray = lsA at hl2 ⊢
  rw [hargs] at hl2
  let G : Cx := ((p, l, e, rmm d 0, s, m, (as.map (tv adr)).toArray, below, meth, c), (D, cy, adr, (fun a => a = adr), AA adr (mN M0) s.heap.size, d, []))
  have tab0 : c.exceptionTable.toList = [] := tab_none _ s m meth c (hts _ List.mem_cons_self) B.named B.method (Stand.of_body B).code
  have ok : Ok G y.cls cc maxL ret 0 := ⟨B.exec, B.bytes, hml, B.returns, findClass_of_methodNamed B.named, fun w hw => hts w (List.mem_cons_of_mem _ hw), B.notSynchronized, hK, hB, hl, rfl, rfl, fun q hq => Or.inr hq, tab0⟩
  have hw := h G as Q rfl rfl rfl hStr hpt 0 s.heap [] lsA 0 0 ok (by omega) (by omega) hP hD va_S.rf hl2
  intro T hT Xs
  obtain ⟨t, st, o, z1, z2, z3⟩ := hw T hT Xs
  refine ⟨t, st, o, z1, z2, ?_⟩
  rcases z3 with z3 | ⟨q, -, E, ce, L, hx, -⟩
  · exact z3
  · obtain ⟨⟨_, _, _, hx, _⟩, _⟩ := hx
    exact hx.elim
def CVS (own : String) (idx : Nat) (y : MethodName) (cw : Cond) (n : Nat) : Prop := ∃ (bytes : ByteArray) (maxL : Nat) (ret : Option FieldType), cw = Cond.code y bytes maxL ret ∧ maxL ≤ 40 ∧ y.cls = "java/lang/String" ∧ (y.cls ≠ "java/lang/invoke/MethodHandle" ∧ y.cls ≠ "java/lang/invoke/VarHandle" ∧ (parseMethodDescriptor y.desc).map (fun d => d.parameters.length) = some n) ∧
  Cond.methodLink own idx y ∈ WW ∧ Cond.instanceMethod y ∈ WW ∧ Cond.selects "java/lang/String" y y ∈ WW ∧ Cond.initialized "java/lang/String" ∈ WW ∧ cw ∈ WW
theorem Met.vx {l : Launch} {y : MethodName} {ws : List Cond} {rm : Room} {Pc : Array Value → State → Prop} {Qc : Array Value → State → Outcome → State → Prop} {XC : String → State → State → Prop} {mc ms : Nat} {free : Addr → Prop} (h : Met l y ws rm Pc Qc mc ms free) : vx_Met l y ws rm Pc Qc XC mc ms free := by
  intro p e ha hc hk s m args below hf happ hP hK
  obtain ⟨kk, o, h1, h2, h3, hq⟩ := h p e ha hc hk s m args below hf happ hP hK
  exact ⟨kk, o, h1, h2, h3, Or.inl hq⟩
section
variable {G : Cx} {own : String} {cc : ByteArray} {nL : Nat} {rt : Option FieldType} {Post : Option Value → Mem → Prop} {PostX : String → Mem → Prop} {n pc : Nat} {ls : List (Nat × Value)} {st : List Value}
theorem w_callVS {y : MethodName} {cw : Cond} {d0 idx m : Nat} {pt : PT} {As stk : List Value} (hC : ConS (gl G) y cw d0 pt) (hStr : StrU (gr G) (gA G) (gs G)) (cv : CVS own idx y cw m) (ht : gt G = []) (hd : d0 + 1 ≤ gd G) (hm : As.length = m) (hst : stk = As.reverse ++ .ref 0 :: st) (h8 : (st.map fun v => v.category).sum ≤ 8) (d : decode cc pc = .ok (.invokevirtual idx, 3))
    (hpt : pt (.ref 0 :: As) M0 (fun r M' => PW G own cc nL rt Post PostX n (pc + 3) ls (r.toList ++ st) M') (fun _ _ => False)) : PW G own cc nL rt Post PostX n pc ls stk M0 := by
  intro n0 H locs lsA cells slots ok h1 h2 hP hD hS hl
  obtain ⟨bytes, maxL, ret, rfl, hmax, hyc, hy, w1, w2, w3, w4, w5⟩ := cv
  have hM := (hC (gD G) (gy G) (gr G) (.ref 0 :: As) _ H.size hpt).vx (XC := Xn (gD G) (gy G) (fun a => a = gr G) (AA (gr G) (mN M0) H.size) (fun _ _ => False))
  have hR := ok.room
  have cwf : CallW (gR G) (gs G) (ga G) own "java/lang/String" idx y bytes maxL ret (Cond.code y bytes maxL ret :: WW) (rmm d0 0) 0 (6 * 0) m :=
    cwV m ok.hts (good_c w5 [.methodLink own idx y, .instanceMethod y, .selects "java/lang/String" y y, .initialized "java/lang/String"] (by simp only [List.mem_cons, List.not_mem_nil, or_false]; rintro w (rfl | rfl | rfl | rfl) <;> assumption)) rfl rfl rfl ⟨hyc, hy⟩ (by rw [hR]; simp only [rmm]; constructor <;> omega)
  have hp : PreV (gs G) H "java/lang/String" (gr G 0) (va_Pc ((Value.ref 0 :: As).map (tv (gr G))) (PreT (gD G) (gy G) (gr G) H.size)) (As.map (tv (gr G))) :=
    ⟨PreT.blind, vk_recv (i := 0) (N := 1) (len := [37]) (byt := [signBy]) (adK := fun _ => gr G 0) (adV := fun _ => gr G 1) hStr (by decide) hS, fun U hU hW => ⟨rfl, Pre.of ok hP hD hS hU hW, StrU.to hStr hS hU hW (AA_in ok.hA hD hS)⟩⟩
  have hrun := vx_runV (p := gp G) (e := ge G) (below := gb G) (meth := gh G) (locs := locs) (cells := cells) (slots := slots) (g := F0 (gm G) pc lsA (stk.map (tv (gr G)))) (rest := st.map (tv (gr G))) ⟨ok.hx, ok.hb, ok.hml, ok.hown, ok.hts⟩ hM cwf hp rfl (by rw [List.length_map]; exact hm) hl.1 (by rw [hst]; simp [tv]) (lv_room (by rw [cats]; exact h8)) d (by rw [hR]; simp only [rmm]; constructor <;> omega)
  exact run_to (n' := n) ok hrun hD hS hl h1 h2 (Nat.le_refl _) ht (fun _ _ h => h) (fun _ _ h => h.elim)
theorem w_callSS {y : MethodName} {cw : Cond} {d0 idx m : Nat} {pt : PT} {As stk : List Value} (hC : ConS (gl G) y cw d0 pt) (hStr : StrU (gr G) (gA G) (gs G)) (cs : CS own idx y cw m) (ht : gt G = []) (hd : d0 + 1 ≤ gd G) (hm : As.length = m) (hst : stk = As.reverse ++ st) (h8 : (st.map fun v => v.category).sum ≤ 8) (d : decode cc pc = .ok (.invokestatic idx, 3))
    (hpt : pt As M0 (fun r M' => PW G own cc nL rt Post PostX n (pc + 3) ls (r.toList ++ st) M') (fun _ _ => False)) : PW G own cc nL rt Post PostX n pc ls stk M0 := by
  intro n0 H locs lsA cells slots ok h1 h2 hP hD hS hl
  obtain ⟨bytes, maxL, ret, rfl, hmax, hy, w1, w2, w4, w5⟩ := cs
  have hM := (hC (gD G) (gy G) (gr G) As _ H.size hpt).vx (XC := Xn (gD G) (gy G) (fun a => a = gr G) (AA (gr G) (mN M0) H.size) (fun _ _ => False))
  have hR := ok.room
  have cwf : CallB (gR G) (gs G) (ga G) own idx y bytes maxL ret (Cond.code y bytes maxL ret :: WW) (rmm d0 0) 0 (6 * 0) m ∧ (Cond.static y).before (ga G) (gs G) = true :=
    va_cwS m ok.hts (good_c w5 [.methodLink own idx y, .static y, .initialized y.cls] (by simp only [List.mem_cons, List.not_mem_nil, or_false]; rintro w (rfl | rfl | rfl) <;> assumption)) rfl rfl rfl hy (by rw [hR]; simp only [rmm]; constructor <;> omega)
  have hp : PreS (gs G) H (va_Pc (As.map (tv (gr G))) (PreT (gD G) (gy G) (gr G) H.size)) (As.map (tv (gr G))) :=
    ⟨PreT.blind, fun U hU hW => ⟨rfl, Pre.of ok hP hD hS hU hW, StrU.to hStr hS hU hW (AA_in ok.hA hD hS)⟩⟩
  have hrun := vx_runS (p := gp G) (e := ge G) (below := gb G) (meth := gh G) (locs := locs) (cells := cells) (slots := slots) (g := F0 (gm G) pc lsA (stk.map (tv (gr G)))) (rest := st.map (tv (gr G))) ⟨ok.hx, ok.hb, ok.hml, ok.hown, ok.hts⟩ hM cwf hp rfl (by rw [List.length_map]; exact hm) hl.1 (by rw [hst]; simp) (lv_room (by rw [cats]; exact h8)) d (by rw [hR]; simp only [rmm]; constructor <;> omega)
  exact run_to (n' := n) ok hrun hD hS hl h1 h2 (Nat.le_refl _) ht (fun _ _ h => h) (fun _ _ h => h.elim)
theorem w_gcod (hStr : StrU (gr G) (gA G) (gs G)) (d : decode cc pc = .ok (.getfield 15, 3)) (kk : PW G RJ0 cc nL rt Post PostX n (pc + 3) ls (.int 0 :: st) M0) : PW G RJ0 cc nL rt Post PostX n pc ls (.ref 0 :: st) M0 :=
  fun n0 H locs lsA cells slots ok h1 h2 hP hD hS hl => vk_getf ok.hx ok.hb (hStr.1 0 (by decide)).2.1 hS ok.hown (ok.hts _ (inW 1068 (by decide +kernel) (by decide +kernel))) (fun _ h => h) d (kk n0 H locs lsA cells slots ok h1 h2 hP hD hS hl)
theorem w_gval (hStr : StrU (gr G) (gA G) (gs G)) (d : decode cc pc = .ok (.getfield 9, 3)) (kk : PW G RJ0 cc nL rt Post PostX n (pc + 3) ls (.ref 1 :: st) M0) : PW G RJ0 cc nL rt Post PostX n pc ls (.ref 0 :: st) M0 :=
  fun n0 H locs lsA cells slots ok h1 h2 hP hD hS hl => vk_getf ok.hx ok.hb (hStr.1 0 (by decide)).2.2.1 hS ok.hown (ok.hts _ (inW 1069 (by decide +kernel) (by decide +kernel))) (fun _ h => h) d (kk n0 H locs lsA cells slots ok h1 h2 hP hD hS hl)
theorem w_gcmp (d : decode cc pc = .ok (.getstatic 38, 3)) (kk : PW G RJ0 cc nL rt Post PostX n (pc + 3) ls (.int 1 :: st) M0) : PW G RJ0 cc nL rt Post PostX n pc ls st M0 :=
  fun n0 H locs lsA cells slots ok h1 h2 hP hD hS hl => by
    obtain ⟨-, -, -, -, -, -, ak, av, -, -, hZ⟩ := ok.base
    exact va_gets ok.hx ok.hb hZ hS ok.hown (ok.hts _ (inW 260 (by decide +kernel) (by decide +kernel))) (fun _ h => h) d (kk n0 H locs lsA cells slots ok h1 h2 hP hD hS hl)
theorem w_slen (hStr : StrU (gr G) (gA G) (gs G)) (d : decode cc pc = .ok (.arraylength, 1)) (kk : PW G own cc nL rt Post PostX n (pc + 1) ls (.int 37 :: st) M0) : PW G own cc nL rt Post PostX n pc ls (.ref 1 :: st) M0 :=
  fun n0 H locs lsA cells slots ok h1 h2 hP hD hS hl => va_tlen ok.hx ok.hb (hStr.1 0 (by decide)).2.2.2 hS rfl d (kk n0 H locs lsA cells slots ok h1 h2 hP hD hS hl)
theorem w_sbal (hStr : StrU (gr G) (gA G) (gs G)) {i : Nat} (hi : i < 37) (d : decode cc pc = .ok (.baload, 1)) (kk : PW G own cc nL rt Post PostX n (pc + 1) ls (.int (signBy.getD i 0) :: st) M0) : PW G own cc nL rt Post PostX n pc ls (.int (nI i) :: .ref 1 :: st) M0 :=
  fun n0 H locs lsA cells slots ok h1 h2 hP hD hS hl => va_tb ok.hx ok.hb (hStr.1 0 (by decide)).2.2.2 hS (i := nI i) (v := .int (signBy.getD i 0)) (vin hi (by decide)) (by rw [clN (by omega)]; rfl) d (kk n0 H locs lsA cells slots ok h1 h2 hP hD hS hl)
end
abbrev wwJ0_coder_7d493 : Cond := Cond.code yJ0_coder_7d493 cJ0_coder_7d493 1 (some .byte)
theorem cv_J0_633 : CVS RJ0 633 yJ0_indexOf_7cf53 wJ0_indexOf_7cf53 2 := ⟨cJ0_indexOf_7cf53, 3, (some .int), rfl, by decide, rfl, ⟨by decide +kernel, by decide +kernel, by decide +kernel⟩, (inW 252 (by decide +kernel) (by decide +kernel)), (inW 253 (by decide +kernel) (by decide +kernel)), (inW 254 (by decide +kernel) (by decide +kernel)), (inW 53 (by decide +kernel) (by decide +kernel)), (inW 255 (by decide +kernel) (by decide +kernel))⟩
theorem cv_J0_492 : CVS RJ0 492 yJ0_isLatin1_aae02 wJ0_isLatin1_aae02 0 := ⟨cJ0_isLatin1_aae02, 1, (some .boolean), rfl, by decide, rfl, ⟨by decide +kernel, by decide +kernel, by decide +kernel⟩, (inW 256 (by decide +kernel) (by decide +kernel)), (inW 257 (by decide +kernel) (by decide +kernel)), (inW 258 (by decide +kernel) (by decide +kernel)), (inW 53 (by decide +kernel) (by decide +kernel)), (inW 259 (by decide +kernel) (by decide +kernel))⟩
theorem cv_J0_505 : CVS RJ0 505 yJ0_length_8abf5 wJ0_length_8abf5 0 := ⟨cJ0_length_8abf5, 1, (some .int), rfl, by decide, rfl, ⟨by decide +kernel, by decide +kernel, by decide +kernel⟩, (inW 262 (by decide +kernel) (by decide +kernel)), (inW 263 (by decide +kernel) (by decide +kernel)), (inW 264 (by decide +kernel) (by decide +kernel)), (inW 53 (by decide +kernel) (by decide +kernel)), (inW 265 (by decide +kernel) (by decide +kernel))⟩
theorem cv_J0_335 : CVS RJ0 335 yJ0_coder_7d493 wwJ0_coder_7d493 0 := ⟨cJ0_coder_7d493, 1, (some .byte), rfl, by decide, rfl, ⟨by decide +kernel, by decide +kernel, by decide +kernel⟩, (inW 266 (by decide +kernel) (by decide +kernel)), (inW 267 (by decide +kernel) (by decide +kernel)), (inW 268 (by decide +kernel) (by decide +kernel)), (inW 53 (by decide +kernel) (by decide +kernel)), (inW 269 (by decide +kernel) (by decide +kernel))⟩
theorem cv_X5_64 : CVS RX5 64 yJ0_indexOf_0f7a4 wJ0_indexOf_0f7a4 1 := ⟨cJ0_indexOf_0f7a4, 2, (some .int), rfl, by decide, rfl, ⟨by decide +kernel, by decide +kernel, by decide +kernel⟩, (inW 248 (by decide +kernel) (by decide +kernel)), (inW 249 (by decide +kernel) (by decide +kernel)), (inW 250 (by decide +kernel) (by decide +kernel)), (inW 53 (by decide +kernel) (by decide +kernel)), (inW 251 (by decide +kernel) (by decide +kernel))⟩
theorem cs_J0_637 : CS RJ0 637 yJ1_indexOf_4cfef wJ1_indexOf_4cfef 4 := ⟨cJ1_indexOf_4cfef, 4, (some .int), rfl, by decide, ⟨by decide +kernel, by decide +kernel, by decide +kernel⟩, (inW 270 (by decide +kernel) (by decide +kernel)), (inW 271 (by decide +kernel) (by decide +kernel)), (inW 54 (by decide +kernel) (by decide +kernel)), (inW 272 (by decide +kernel) (by decide +kernel))⟩
theorem cs_J1_88 : CS RJ1 88 yJ1_canEncode_9a6ad wJ1_canEncode_9a6ad 1 := ⟨cJ1_canEncode_9a6ad, 1, (some .boolean), rfl, by decide, ⟨by decide +kernel, by decide +kernel, by decide +kernel⟩, (inW 273 (by decide +kernel) (by decide +kernel)), (inW 274 (by decide +kernel) (by decide +kernel)), (inW 54 (by decide +kernel) (by decide +kernel)), (inW 275 (by decide +kernel) (by decide +kernel))⟩
theorem cs_J1_92 : CS RJ1 92 yJ9_max_7cf53 wJ9_max_7cf53 2 := ⟨cJ9_max_7cf53, 2, (some .int), rfl, by decide, ⟨by decide +kernel, by decide +kernel, by decide +kernel⟩, (inW 276 (by decide +kernel) (by decide +kernel)), (inW 277 (by decide +kernel) (by decide +kernel)), (inW 55 (by decide +kernel) (by decide +kernel)), (inW 278 (by decide +kernel) (by decide +kernel))⟩
theorem cs_J1_38 : CS RJ1 38 yJ9_min_7cf53 wJ9_min_7cf53 2 := ⟨cJ9_min_7cf53, 2, (some .int), rfl, by decide, ⟨by decide +kernel, by decide +kernel, by decide +kernel⟩, (inW 279 (by decide +kernel) (by decide +kernel)), (inW 280 (by decide +kernel) (by decide +kernel)), (inW 55 (by decide +kernel) (by decide +kernel)), (inW 281 (by decide +kernel) (by decide +kernel))⟩
theorem cs_J1_95 : CS RJ1 95 yJ1_indexOfChar_4cfef wJ1_indexOfChar_4cfef 4 := ⟨cJ1_indexOfChar_4cfef, 6, (some .int), rfl, by decide, ⟨by decide +kernel, by decide +kernel, by decide +kernel⟩, (inW 282 (by decide +kernel) (by decide +kernel)), (inW 283 (by decide +kernel) (by decide +kernel)), (inW 54 (by decide +kernel) (by decide +kernel)), (inW 284 (by decide +kernel) (by decide +kernel))⟩
def T_isLat : PT := fun as M Q X => as = [.ref 0] ∧ Q (some (.int 1)) M
def T_coder : PT := fun as M Q X => as = [.ref 0] ∧ Q (some (.int 0)) M
def T_strLen : PT := fun as M Q X => as = [.ref 0] ∧ Q (some (.int 37)) M
def cEnc (c : Int32) : Bool := decide (¬ c < 0) && decide (¬ 255 < c)
def T_canEnc : PT := fun as M Q X => ∃ c : Int32, as = [.int c] ∧ Q (some (.int (bi (cEnc c)))) M
def T_same2 : PT := fun as M Q X => ∃ c : Int32, as = [.int c, .int c] ∧ Q (some (.int c)) M
def T_ixChar : PT := fun as M Q X => ∃ c : Int32, as = [.ref 1, .int c, .int 0, .int 37] ∧ ∀ r : Int32, (r < 0 ↔ ¬ c.toInt8.toInt32 ∈ signBy) → Q (some (.int r)) M
def T_ixL1 : PT := fun as M Q X => ∃ c : Int32, as = [.ref 1, .int c, .int 0, .int 37] ∧ ∀ r : Int32, (r < 0 ↔ ¬ c ∈ signBy) → Q (some (.int r)) M
def T_ix2 : PT := fun as M Q X => ∃ c : Int32, as = [.ref 0, .int c, .int 0] ∧ ∀ r : Int32, (r < 0 ↔ ¬ c ∈ signBy) → Q (some (.int r)) M
def T_ix1 : PT := fun as M Q X => ∃ c : Int32, as = [.ref 0, .int c] ∧ ∀ r : Int32, (r < 0 ↔ ¬ c ∈ signBy) → Q (some (.int r)) M
theorem c_J0_isLatin1_aae02 {l : Launch} (hl : l.stackTraces = false) : ConS l yJ0_isLatin1_aae02 wJ0_isLatin1_aae02 1 (T_isLat) := by
  refine con_ofS hl (by decide +kernel) ?_ ?_
  · intro as M Q X hpt
    obtain ⟨rfl, hQ⟩ := hpt
    exact Nat.le_of_ble_eq_true rfl
  intro G as Q hl' hT hd hStr hpt
  obtain ⟨rfl, hQ⟩ := hpt
  have hG : (gl G).stackTraces = false := by rw [hl']; exact hl
  show PW G RJ0 cJ0_isLatin1_aae02 1 (some .boolean) Q (fun _ _ => False) 0 0 [(0, .ref 0)] [] M0
  refine w_gcmp (pc := 0) dJ0_isLatin1_aae02_0 ?_
  refine w_if_eq 17 (pc := 3) dJ0_isLatin1_aae02_3 (by decide) (fun h3 => ?_) (fun h3 => ?_)
  · exact absurd h3 (by decide)
  · refine w_aload_n (pc := 6) dJ0_isLatin1_aae02_6 rfl ?_
    refine w_gcod (pc := 7) hStr dJ0_isLatin1_aae02_7 ?_
    refine w_if_ne 17 (pc := 10) dJ0_isLatin1_aae02_10 (by decide) (fun h10 => ?_) (fun h10 => ?_)
    · exact absurd rfl h10
    · refine w_iconst (v := 1) (pc := 13) dJ0_isLatin1_aae02_13 rfl ?_
      refine w_goto 18 (pc := 14) dJ0_isLatin1_aae02_14 (by decide) ?_
      refine w_ireturn (pc := 18) dJ0_isLatin1_aae02_18 rfl ?_
      exact hQ
theorem c_J0_coder_7d493 {l : Launch} (hl : l.stackTraces = false) : ConS l yJ0_coder_7d493 wwJ0_coder_7d493 1 (T_coder) := by
  refine con_ofS hl (by decide +kernel) ?_ ?_
  · intro as M Q X hpt
    obtain ⟨rfl, hQ⟩ := hpt
    exact Nat.le_of_ble_eq_true rfl
  intro G as Q hl' hT hd hStr hpt
  obtain ⟨rfl, hQ⟩ := hpt
  have hG : (gl G).stackTraces = false := by rw [hl']; exact hl
  show PW G RJ0 cJ0_coder_7d493 1 (some .byte) Q (fun _ _ => False) 0 0 [(0, .ref 0)] [] M0
  refine w_gcmp (pc := 0) dJ0_coder_7d493_0 ?_
  refine w_if_eq 13 (pc := 3) dJ0_coder_7d493_3 (by decide) (fun h3 => ?_) (fun h3 => ?_)
  · exact absurd h3 (by decide)
  · refine w_aload_n (pc := 6) dJ0_coder_7d493_6 rfl ?_
    refine w_gcod (pc := 7) hStr dJ0_coder_7d493_7 ?_
    refine w_goto 14 (pc := 10) dJ0_coder_7d493_10 (by decide) ?_
    refine w_ireturn (pc := 14) dJ0_coder_7d493_14 rfl ?_
    exact hQ
theorem c_J0_length_8abf5 {l : Launch} (hl : l.stackTraces = false) : ConS l yJ0_length_8abf5 wJ0_length_8abf5 2 (T_strLen) := by
  refine con_ofS hl (by decide +kernel) ?_ ?_
  · intro as M Q X hpt
    obtain ⟨rfl, hQ⟩ := hpt
    exact Nat.le_of_ble_eq_true rfl
  intro G as Q hl' hT hd hStr hpt
  obtain ⟨rfl, hQ⟩ := hpt
  have hG : (gl G).stackTraces = false := by rw [hl']; exact hl
  show PW G RJ0 cJ0_length_8abf5 1 (some .int) Q (fun _ _ => False) 0 0 [(0, .ref 0)] [] M0
  refine w_aload_n (pc := 0) dJ0_length_8abf5_0 rfl ?_
  refine w_gval (pc := 1) hStr dJ0_length_8abf5_1 ?_
  refine w_slen (pc := 4) hStr dJ0_length_8abf5_4 ?_
  refine w_aload_n (pc := 5) dJ0_length_8abf5_5 rfl ?_
  refine w_callVS (pc := 6) (As := []) (c_J0_coder_7d493 hG) hStr cv_J0_335 hT (by omega) rfl rfl (Nat.le_of_ble_eq_true rfl) dJ0_length_8abf5_6 ?_
  refine ⟨rfl, ?_⟩
  dsimp only [Option.toList, List.cons_append, List.nil_append]
  refine w_ishr (pc := 9) dJ0_length_8abf5_9 ?_
  refine w_ireturn (pc := 10) dJ0_length_8abf5_10 rfl ?_
  rw [show (37 : Int32) >>> ((0 : Int32) &&& 31) = 37 from by decide]
  exact hQ
theorem c_J1_canEncode_9a6ad {l : Launch} (hl : l.stackTraces = false) : Con l yJ1_canEncode_9a6ad wJ1_canEncode_9a6ad 0 1 (T_canEnc) := by
  refine con_of hl (by decide) ?_ ?_
  · intro as M Q X hpt
    obtain ⟨c, rfl, hQ⟩ := hpt
    exact Nat.le_of_ble_eq_true rfl
  intro G as M Q X hl' hT hd hpt
  obtain ⟨c, rfl, hQ⟩ := hpt
  have hG : (gl G).stackTraces = false := by rw [hl']; exact hl
  show PW G RJ1 cJ1_canEncode_9a6ad 1 (some .boolean) Q X 0 0 [(0, .int c)] [] M
  refine w_iload_n (pc := 0) dJ1_canEncode_9a6ad_0 rfl ?_
  refine w_if_lt 15 (pc := 1) dJ1_canEncode_9a6ad_1 (by decide) (fun h1 => ?_) (fun h1 => ?_)
  · refine w_iconst (v := 0) (pc := 15) dJ1_canEncode_9a6ad_15 rfl ?_
    refine w_ireturn (pc := 16) dJ1_canEncode_9a6ad_16 rfl ?_
    first | (have hb : cEnc c = true := (by simp [cEnc, h1]; done); rw [hb] at hQ; exact hQ) | (have hb : cEnc c = false := (by simp [cEnc, h1]; done); rw [hb] at hQ; exact hQ)
  · refine w_iload_n (pc := 4) dJ1_canEncode_9a6ad_4 rfl ?_
    refine w_sipush (v := 255) (pc := 5) dJ1_canEncode_9a6ad_5 rfl ?_
    refine w_icmp_gt 15 (pc := 8) dJ1_canEncode_9a6ad_8 (by decide) (fun h8 => ?_) (fun h8 => ?_)
    · refine w_iconst (v := 0) (pc := 15) dJ1_canEncode_9a6ad_15 rfl ?_
      refine w_ireturn (pc := 16) dJ1_canEncode_9a6ad_16 rfl ?_
      first | (have hb : cEnc c = true := (by simp [cEnc, h1, h8]; done); rw [hb] at hQ; exact hQ) | (have hb : cEnc c = false := (by simp [cEnc, h1, h8]; done); rw [hb] at hQ; exact hQ)
    · refine w_iconst (v := 1) (pc := 11) dJ1_canEncode_9a6ad_11 rfl ?_
      refine w_goto 16 (pc := 12) dJ1_canEncode_9a6ad_12 (by decide) ?_
      refine w_ireturn (pc := 16) dJ1_canEncode_9a6ad_16 rfl ?_
      first | (have hb : cEnc c = true := (by simp [cEnc, h1, h8]; done); rw [hb] at hQ; exact hQ) | (have hb : cEnc c = false := (by simp [cEnc, h1, h8]; done); rw [hb] at hQ; exact hQ)
theorem c_J9_max_7cf53 {l : Launch} (hl : l.stackTraces = false) : Con l yJ9_max_7cf53 wJ9_max_7cf53 0 1 (T_same2) := by
  refine con_ofF hl (by decide +kernel) (by intro as M Q X X2 h; exact h) ?_ ?_ tab_none
  · intro as M Q X hpt
    obtain ⟨c, rfl, hQ⟩ := hpt
    exact Nat.le_of_ble_eq_true rfl
  intro G as M Q X hl' hT hd hpt
  obtain ⟨c, rfl, hQ⟩ := hpt
  have hG : (gl G).stackTraces = false := by rw [hl']; exact hl
  show PW G RJ9 cJ9_max_7cf53 2 (some .int) Q X 0 0 [(0, .int c), (1, .int c)] [] M
  refine w_iload_n (pc := 0) dJ9_max_7cf53_0 rfl ?_
  refine w_iload_n (pc := 1) dJ9_max_7cf53_1 rfl ?_
  refine w_icmp_lt 9 (pc := 2) dJ9_max_7cf53_2 (by decide) (fun h2 => ?_) (fun h2 => ?_)
  · refine w_iload_n (pc := 9) dJ9_max_7cf53_9 rfl ?_
    refine w_ireturn (pc := 10) dJ9_max_7cf53_10 rfl ?_
    exact hQ
  · refine w_iload_n (pc := 5) dJ9_max_7cf53_5 rfl ?_
    refine w_goto 10 (pc := 6) dJ9_max_7cf53_6 (by decide) ?_
    refine w_ireturn (pc := 10) dJ9_max_7cf53_10 rfl ?_
    exact hQ
theorem c_J9_min_7cf53 {l : Launch} (hl : l.stackTraces = false) : Con l yJ9_min_7cf53 wJ9_min_7cf53 0 1 (T_same2) := by
  refine con_ofF hl (by decide +kernel) (by intro as M Q X X2 h; exact h) ?_ ?_ tab_none
  · intro as M Q X hpt
    obtain ⟨c, rfl, hQ⟩ := hpt
    exact Nat.le_of_ble_eq_true rfl
  intro G as M Q X hl' hT hd hpt
  obtain ⟨c, rfl, hQ⟩ := hpt
  have hG : (gl G).stackTraces = false := by rw [hl']; exact hl
  show PW G RJ9 cJ9_min_7cf53 2 (some .int) Q X 0 0 [(0, .int c), (1, .int c)] [] M
  refine w_iload_n (pc := 0) dJ9_min_7cf53_0 rfl ?_
  refine w_iload_n (pc := 1) dJ9_min_7cf53_1 rfl ?_
  refine w_icmp_gt 9 (pc := 2) dJ9_min_7cf53_2 (by decide) (fun h2 => ?_) (fun h2 => ?_)
  · refine w_iload_n (pc := 9) dJ9_min_7cf53_9 rfl ?_
    refine w_ireturn (pc := 10) dJ9_min_7cf53_10 rfl ?_
    exact hQ
  · refine w_iload_n (pc := 5) dJ9_min_7cf53_5 rfl ?_
    refine w_goto 10 (pc := 6) dJ9_min_7cf53_6 (by decide) ?_
    refine w_ireturn (pc := 10) dJ9_min_7cf53_10 rfl ?_
    exact hQ
theorem c_J1_indexOfChar_4cfef {l : Launch} (hl : l.stackTraces = false) : ConS l yJ1_indexOfChar_4cfef wJ1_indexOfChar_4cfef 1 (T_ixChar) := by
  refine con_ofS hl (by decide +kernel) ?_ ?_
  · intro as M Q X hpt
    obtain ⟨c, rfl, hQ⟩ := hpt
    exact Nat.le_of_ble_eq_true rfl
  intro G as Q hl' hT hd hStr hpt
  obtain ⟨c, rfl, hQ⟩ := hpt
  have hG : (gl G).stackTraces = false := by rw [hl']; exact hl
  show PW G RJ1 cJ1_indexOfChar_4cfef 6 (some .int) Q (fun _ _ => False) 0 0 [(0, .ref 1), (1, .int c), (2, .int 0), (3, .int 37)] [] M0
  have loop : ∀ (k i : Nat), i + k = 37 → (∀ j, j < i → ¬ signBy.getD j 0 = c.toInt8.toInt32) → PW G RJ1 cJ1_indexOfChar_4cfef 6 (some .int) Q (fun _ _ => False) 0 7 [(0, .ref 1), (3, .int 37), (4, .int c.toInt8.toInt32), (5, .int (nI i))] [] M0 := by
    intro k
    induction k with
    | zero =>
      intro i hi hno
      refine w_iload (pc := 7) dJ1_indexOfChar_4cfef_7 rfl ?_
      refine w_iload_n (pc := 9) dJ1_indexOfChar_4cfef_9 rfl ?_
      refine w_icmp_ge 31 (pc := 10) dJ1_indexOfChar_4cfef_10 (by decide) (fun h10 => ?_) (fun h10 => ?_)
      · refine w_iconst (v := -1) (pc := 31) dJ1_indexOfChar_4cfef_31 rfl ?_
        refine w_ireturn (pc := 32) dJ1_indexOfChar_4cfef_32 rfl ?_
        exact hQ _ ⟨fun _ q => by obtain ⟨j, hj, ej⟩ := List.mem_iff_getElem.mp q; exact hno j (by have : j < 37 := hj; omega) (by rw [List.getD_eq_getElem?_getD, List.getElem?_eq_getElem hj]; exact ej), fun _ => by decide⟩
      · exact absurd (by rw [show i = 37 by omega]; decide) h10
    | succ k ih =>
      intro i hi hno
      refine w_iload (pc := 7) dJ1_indexOfChar_4cfef_7 rfl ?_
      refine w_iload_n (pc := 9) dJ1_indexOfChar_4cfef_9 rfl ?_
      refine w_icmp_ge 31 (pc := 10) dJ1_indexOfChar_4cfef_10 (by decide) (fun h10 => ?_) (fun h10 => ?_)
      · exact absurd h10 (by rw [show (37 : Int32) = nI 37 from rfl, nI_leI (by omega) (by omega)]; omega)
      · refine w_aload_n (pc := 13) dJ1_indexOfChar_4cfef_13 rfl ?_
        refine w_iload (pc := 14) dJ1_indexOfChar_4cfef_14 rfl ?_
        refine w_sbal (pc := 16) hStr (i := i) (by omega) dJ1_indexOfChar_4cfef_16 ?_
        refine w_iload (pc := 17) dJ1_indexOfChar_4cfef_17 rfl ?_
        refine w_icmp_ne 25 (pc := 19) dJ1_indexOfChar_4cfef_19 (by decide) (fun h19 => ?_) (fun h19 => ?_)
        · refine w_iinc (v := nI (i + 1)) (pc := 25) dJ1_indexOfChar_4cfef_25 rfl (nI_1 i) (by decide) ?_
          refine w_goto 7 (pc := 28) dJ1_indexOfChar_4cfef_28 (by decide) ?_
          exact w_lk (ih (i + 1) (by omega) (fun j hj => by rcases Nat.lt_succ_iff_lt_or_eq.mp hj with q | q; exact hno j q; subst q; exact h19)) (lkc rfl (lkc rfl (lkc rfl (lkc rfl lkn))))
        · refine w_iload (pc := 22) dJ1_indexOfChar_4cfef_22 rfl ?_
          refine w_ireturn (pc := 24) dJ1_indexOfChar_4cfef_24 rfl ?_
          exact hQ _ ⟨fun q => absurd q (nI_pos (by omega)), fun q => absurd (by have hi : i < signBy.length := (by show i < 37; omega); rw [← h19, List.getD_eq_getElem?_getD, List.getElem?_eq_getElem hi]; exact List.getElem_mem hi) q⟩
  refine w_iload_n (pc := 0) dJ1_indexOfChar_4cfef_0 rfl ?_
  refine w_i2b (pc := 1) dJ1_indexOfChar_4cfef_1 ?_
  refine w_istore 4 (pc := 2) dJ1_indexOfChar_4cfef_2 (by decide) ?_
  refine w_iload_n (pc := 4) dJ1_indexOfChar_4cfef_4 rfl ?_
  refine w_istore 5 (pc := 5) dJ1_indexOfChar_4cfef_5 (by decide) ?_
  exact w_lk (loop 37 0 rfl (fun j hj => absurd hj (by omega))) (lkc rfl (lkc rfl (lkc rfl (lkc rfl lkn))))
theorem sg_lo : ∀ j, j < 256 → ((nI j).toInt8.toInt32 ∈ signBy ↔ nI j ∈ signBy) := by decide +kernel
theorem sg_rng : ∀ c ∈ signBy, cEnc c = true := by decide +kernel
theorem sg_8 {c : Int32} (h : cEnc c = true) : c.toInt8.toInt32 ∈ signBy ↔ c ∈ signBy := by
  unfold cEnc at h
  rw [Bool.and_eq_true, decide_eq_true_eq, decide_eq_true_eq] at h
  obtain ⟨j, hj, rfl⟩ := nI_of h.1
  have h2 := h.2
  rw [show (255 : Int32) = nI 255 from rfl, nI_ltI (by decide) hj] at h2
  exact sg_lo j (by omega)
theorem c_J1_indexOf_4cfef {l : Launch} (hl : l.stackTraces = false) : ConS l yJ1_indexOf_4cfef wJ1_indexOf_4cfef 2 (T_ixL1) := by
  refine con_ofS hl (by decide +kernel) ?_ ?_
  · intro as M Q X hpt
    obtain ⟨c, rfl, hQ⟩ := hpt
    exact Nat.le_of_ble_eq_true rfl
  intro G as Q hl' hT hd hStr hpt
  obtain ⟨c, rfl, hQ⟩ := hpt
  have hG : (gl G).stackTraces = false := by rw [hl']; exact hl
  show PW G RJ1 cJ1_indexOf_4cfef 4 (some .int) Q (fun _ _ => False) 0 0 [(0, .ref 1), (1, .int c), (2, .int 0), (3, .int 37)] [] M0
  refine w_iload_n (pc := 0) dJ1_indexOf_4cfef_0 rfl ?_
  refine w_callS1 (n' := 0) (pc := 1) (c_J1_canEncode_9a6ad hG) cs_J1_88 hT (by omega) (by decide) (Nat.le_of_ble_eq_true rfl) dJ1_indexOf_4cfef_1 ?_
  refine ⟨_, rfl, ?_⟩
  dsimp only [psh]
  refine w_if_ne 9 (pc := 4) dJ1_indexOf_4cfef_4 (by decide) (fun h4 => ?_) (fun h4 => ?_)
  · rw [bi_1] at h4
    refine w_iload_n (pc := 9) dJ1_indexOf_4cfef_9 rfl ?_
    refine w_iconst (v := 0) (pc := 10) dJ1_indexOf_4cfef_10 rfl ?_
    refine w_callS2 (n' := 0) (pc := 11) (c_J9_max_7cf53 hG) cs_J1_92 hT (by omega) (by decide) (Nat.le_of_ble_eq_true rfl) dJ1_indexOf_4cfef_11 ?_
    refine ⟨_, rfl, ?_⟩
    dsimp only [psh]
    refine w_istore_n 2 (pc := 14) rfl dJ1_indexOf_4cfef_14 (by decide) ?_
    refine w_iload_n (pc := 15) dJ1_indexOf_4cfef_15 rfl ?_
    refine w_aload_n (pc := 16) dJ1_indexOf_4cfef_16 rfl ?_
    refine w_slen (pc := 17) hStr dJ1_indexOf_4cfef_17 ?_
    refine w_callS2 (n' := 0) (pc := 18) (c_J9_min_7cf53 hG) cs_J1_38 hT (by omega) (by decide) (Nat.le_of_ble_eq_true rfl) dJ1_indexOf_4cfef_18 ?_
    refine ⟨_, rfl, ?_⟩
    dsimp only [psh]
    refine w_istore_n 3 (pc := 21) rfl dJ1_indexOf_4cfef_21 (by decide) ?_
    refine w_iload_n (pc := 22) dJ1_indexOf_4cfef_22 rfl ?_
    refine w_iload_n (pc := 23) dJ1_indexOf_4cfef_23 rfl ?_
    refine w_icmp_lt 29 (pc := 24) dJ1_indexOf_4cfef_24 (by decide) (fun h24 => ?_) (fun h24 => ?_)
    · refine w_aload_n (pc := 29) dJ1_indexOf_4cfef_29 rfl ?_
      refine w_iload_n (pc := 30) dJ1_indexOf_4cfef_30 rfl ?_
      refine w_iload_n (pc := 31) dJ1_indexOf_4cfef_31 rfl ?_
      refine w_iload_n (pc := 32) dJ1_indexOf_4cfef_32 rfl ?_
      refine w_callSS (pc := 33) (As := [.ref 1, .int c, .int 0, .int 37]) (c_J1_indexOfChar_4cfef hG) hStr cs_J1_95 hT (by omega) rfl rfl (Nat.le_of_ble_eq_true rfl) dJ1_indexOf_4cfef_33 ?_
      refine ⟨c, rfl, fun r hr => ?_⟩
      dsimp only [Option.toList, List.cons_append, List.nil_append]
      refine w_ireturn (pc := 36) dJ1_indexOf_4cfef_36 rfl ?_
      exact hQ _ (by rw [← sg_8 h4]; exact hr)
    · exact absurd (by decide) h24
  · rw [bi_0] at h4
    refine w_iconst (v := -1) (pc := 7) dJ1_indexOf_4cfef_7 rfl ?_
    refine w_ireturn (pc := 8) dJ1_indexOf_4cfef_8 rfl ?_
    exact hQ _ ⟨fun _ q => by rw [sg_rng c q] at h4; exact absurd h4 (by decide), fun _ => by decide⟩
theorem c_J0_indexOf_7cf53 {l : Launch} (hl : l.stackTraces = false) : ConS l yJ0_indexOf_7cf53 wJ0_indexOf_7cf53 3 (T_ix2) := by
  refine con_ofS hl (by decide +kernel) ?_ ?_
  · intro as M Q X hpt
    obtain ⟨c, rfl, hQ⟩ := hpt
    exact Nat.le_of_ble_eq_true rfl
  intro G as Q hl' hT hd hStr hpt
  obtain ⟨c, rfl, hQ⟩ := hpt
  have hG : (gl G).stackTraces = false := by rw [hl']; exact hl
  show PW G RJ0 cJ0_indexOf_7cf53 3 (some .int) Q (fun _ _ => False) 0 0 [(0, .ref 0), (1, .int c), (2, .int 0)] [] M0
  refine w_aload_n (pc := 0) dJ0_indexOf_7cf53_0 rfl ?_
  refine w_callVS (pc := 1) (As := []) (c_J0_isLatin1_aae02 hG) hStr cv_J0_492 hT (by omega) rfl rfl (Nat.le_of_ble_eq_true rfl) dJ0_indexOf_7cf53_1 ?_
  refine ⟨rfl, ?_⟩
  dsimp only [Option.toList, List.cons_append, List.nil_append]
  refine w_if_eq 23 (pc := 4) dJ0_indexOf_7cf53_4 (by decide) (fun h4 => ?_) (fun h4 => ?_)
  · exact absurd h4 (by decide)
  · refine w_aload_n (pc := 7) dJ0_indexOf_7cf53_7 rfl ?_
    refine w_gval (pc := 8) hStr dJ0_indexOf_7cf53_8 ?_
    refine w_iload_n (pc := 11) dJ0_indexOf_7cf53_11 rfl ?_
    refine w_iload_n (pc := 12) dJ0_indexOf_7cf53_12 rfl ?_
    refine w_aload_n (pc := 13) dJ0_indexOf_7cf53_13 rfl ?_
    refine w_callVS (pc := 14) (As := []) (c_J0_length_8abf5 hG) hStr cv_J0_505 hT (by omega) rfl rfl (Nat.le_of_ble_eq_true rfl) dJ0_indexOf_7cf53_14 ?_
    refine ⟨rfl, ?_⟩
    dsimp only [Option.toList, List.cons_append, List.nil_append]
    refine w_callSS (pc := 17) (As := [.ref 1, .int c, .int 0, .int 37]) (c_J1_indexOf_4cfef hG) hStr cs_J0_637 hT (by omega) rfl rfl (Nat.le_of_ble_eq_true rfl) dJ0_indexOf_7cf53_17 ?_
    refine ⟨c, rfl, fun r hr => ?_⟩
    dsimp only [Option.toList, List.cons_append, List.nil_append]
    refine w_goto 36 (pc := 20) dJ0_indexOf_7cf53_20 (by decide) ?_
    refine w_ireturn (pc := 36) dJ0_indexOf_7cf53_36 rfl ?_
    exact hQ _ hr
theorem c_J0_indexOf_0f7a4 {l : Launch} (hl : l.stackTraces = false) : ConS l yJ0_indexOf_0f7a4 wJ0_indexOf_0f7a4 4 (T_ix1) := by
  refine con_ofS hl (by decide +kernel) ?_ ?_
  · intro as M Q X hpt
    obtain ⟨c, rfl, hQ⟩ := hpt
    exact Nat.le_of_ble_eq_true rfl
  intro G as Q hl' hT hd hStr hpt
  obtain ⟨c, rfl, hQ⟩ := hpt
  have hG : (gl G).stackTraces = false := by rw [hl']; exact hl
  show PW G RJ0 cJ0_indexOf_0f7a4 2 (some .int) Q (fun _ _ => False) 0 0 [(0, .ref 0), (1, .int c)] [] M0
  refine w_aload_n (pc := 0) dJ0_indexOf_0f7a4_0 rfl ?_
  refine w_iload_n (pc := 1) dJ0_indexOf_0f7a4_1 rfl ?_
  refine w_iconst (v := 0) (pc := 2) dJ0_indexOf_0f7a4_2 rfl ?_
  refine w_callVS (pc := 3) (As := [.int c, .int 0]) (c_J0_indexOf_7cf53 hG) hStr cv_J0_633 hT (by omega) rfl rfl (Nat.le_of_ble_eq_true rfl) dJ0_indexOf_0f7a4_3 ?_
  refine ⟨c, rfl, fun r hr => ?_⟩
  dsimp only [Option.toList, List.cons_append, List.nil_append]
  refine w_ireturn (pc := 6) dJ0_indexOf_0f7a4_6 rfl ?_
  exact hQ _ hr
theorem P_lt {D : va_G} {cl : List vw_C} {ws : va_W} {H : Heap} (h : va_P D cl ws H) {k : Nat} {q : Nat × va_E} (hk : ws[k]? = some q) : q.1 < H.size := by
  have hq := h k q hk
  obtain ⟨a, e⟩ := q
  cases e with
  | inl x => exact (Array.getElem?_eq_some_iff.mp hq).1
  | inr x =>
    obtain ⟨r, -, cell, g1, -⟩ := hq
    exact (Array.getElem?_eq_some_iff.mp g1).1
theorem w_signs {G : Cx} {cc : ByteArray} {nL : Nat} {rt : Option FieldType} {Post : Option Value → Mem → Prop} {PostX : String → Mem → Prop} {n pc : Nat} {ls : List (Nat × Value)} {M : Mem} (hG : (gl G).stackTraces = false) (hd : 5 ≤ gd G) {x : Int32} (hx : lk ls 1 = some (.int x)) (d0 : decode cc pc = .ok (.ldc 62, 2)) (d1 : decode cc (pc + 2) = .ok (.iload_n 1, 1)) (d2 : decode cc (pc + 3) = .ok (.invokevirtual 64, 3))
    (kk : ∀ r : Int32, (r < 0 ↔ ¬ x ∈ signBy) → PW G RX5 cc nL rt Post PostX n (pc + 6) ls [.int r] M) : PW G RX5 cc nL rt Post PostX n pc ls [] M := by
  intro n0 H locs lsA cells slots ok h1 h2 hP hD hS hl
  obtain ⟨-, -, -, -, -, -, ak, av, hR0, hSt, -⟩ := ok.base
  refine va_ldcS ok.hx ok.hb ok.hown hR0 d0 ?_
  refine lv_iload_n ok.1 ok.2.1 d1 rfl (lk_at hl hx) ?_
  have hC := c_J0_indexOf_0f7a4 hG
  have hR := ok.room
  obtain ⟨bytes, maxL, ret, hcw, hmax, hyc, hy, w1, w2, w3, w4, w5⟩ := cv_X5_64
  generalize eadr : (fun i : Nat => if i = 0 then ak else av) = adr
  have ea0 : adr 0 = ak := by rw [← eadr]; rfl
  have ea1 : adr 1 = av := by rw [← eadr]; rfl
  have hStr : StrU adr (gA G) (gs G) := by unfold StrU; rw [ea0, ea1]; exact hSt
  have hAA : ∀ q, AA adr (mN M0) H.size q → gA G q := by
    intro q h
    rcases h with ⟨i, hi, -⟩ | h
    · exact absurd hi (Nat.not_lt_zero i)
    · exact ok.hA q (Nat.le_trans hS.1 h)
  have hM := (hC (gD G) (gy G) adr [.ref 0, .int x] (fun r _ => ∃ q, r = some (.int q) ∧ (q < 0 ↔ ¬ x ∈ signBy)) H.size ⟨x, rfl, fun r hr => ⟨r, rfl, hr⟩⟩).vx (XC := Xn (gD G) (gy G) (fun a => a = adr) (AA adr (mN M0) H.size) (fun _ _ => False))
  rw [hcw] at hM w5
  have cwf : CallW (gR G) (gs G) (ga G) RX5 "java/lang/String" 64 yJ0_indexOf_0f7a4 bytes maxL ret (Cond.code yJ0_indexOf_0f7a4 bytes maxL ret :: WW) (rmm 4 0) 0 (6 * 0) 1 :=
    cwV 1 ok.hts (good_c w5 [.methodLink RX5 64 yJ0_indexOf_0f7a4, .instanceMethod yJ0_indexOf_0f7a4, .selects "java/lang/String" yJ0_indexOf_0f7a4 yJ0_indexOf_0f7a4, .initialized "java/lang/String"] (by simp only [List.mem_cons, List.not_mem_nil, or_false]; rintro w (rfl | rfl | rfl | rfl) <;> assumption)) rfl rfl rfl ⟨hyc, hy⟩ (by rw [hR]; simp only [rmm]; constructor <;> omega)
  have hp : PreV (gs G) H "java/lang/String" ak (va_Pc (([.ref 0, .int x] : List Value).map (tv adr)) (PreT (gD G) (gy G) adr H.size)) [.int x] := by
    refine ⟨PreT.blind, vk_recv (i := 0) (N := 1) (len := [37]) (byt := [signBy]) (adK := fun _ => ak) (adV := fun _ => av) hSt (by decide) hS, fun U hU hW => ⟨?_, ⟨by rw [hU], ?_, va_K.moved hW.alike ok.hK, ?_, ok.base.to hS hU hW hAA⟩, StrU.to hStr hS hU hW hAA⟩⟩
    · show _ = [Value.ref (adr 0), .int x].toArray
      rw [ea0]
    · intro k q h
      exact absurd h (by simp [Wd, M0, mN])
    · exact ⟨fun i j p q h => absurd h (by simp [Wd, M0, mN]), fun k q h => absurd h (by simp [Wd, M0, mN])⟩
  have hrun := vx_runV (p := gp G) (e := ge G) (below := gb G) (meth := gh G) (locs := locs) (cells := cells) (slots := slots) (g := F0 (gm G) (pc + 2 + 1) lsA [.int x, .ref ak]) (rest := []) ⟨ok.hx, ok.hb, ok.hml, ok.hown, ok.hts⟩ hM cwf hp rfl rfl hl.1 rfl (lv_room (by decide)) d2 (by rw [hR]; simp only [rmm]; constructor <;> omega)
  intro T hT Xs
  rcases hrun T hT Xs with ⟨v, st0, t, T', L, e0, X', hL, e1, e2, hq, go⟩ | ⟨q, st0, t, T', L, E, cec, e0, X', hL, e1, e2, hxc, hcell, hvn, hcl, steps⟩
  · obtain ⟨⟨adr', r, M', -, hr, ⟨q, rfl, hq2⟩, -, -⟩, hF⟩ := hq
    obtain ⟨hsz, hkeep, hS'⟩ := vx_keep e0 e1 hS (fun q _ h => hAA q h) hAA hL hF
    have hv : v = some (.int q) := Outcome.returned.inj hr
    subst hv
    have hP' : va_P (gD G) vwCl (Wd (gy G) (gr G) M) T'.heap := hP.kept (fun k q hk => hkeep q.1 (P_lt hP hk) (fun h => by
      rcases h with ⟨i, hi, -⟩ | h
      · exact absurd hi (Nat.not_lt_zero i)
      · exact absurd (P_lt hP hk) (by omega)))
    obtain ⟨tt, stt, hz⟩ := kk q hq2 n0 T'.heap (locs ++ L) lsA (cells + 0) (slots + 6 * 0) ok (by omega) (by omega) hP' hD hS' hl T' rfl X'
    exact ⟨tt, go _ stt, hz⟩
  · obtain ⟨⟨_, _, _, hx, _⟩, _⟩ := hxc
    exact hx.elim
/-- typing: the class -/
def T_type : PT := fun as M Q X => ∃ (c : Int32) (len : Nat), as = [.ref 0, .int c] ∧ Full M ∧ len ≤ 40 ∧ mI M 1 1 = nI len ∧ vp_nar .char c = c ∧ ((¬ c ∈ signBy ∨ len = 40) → Q (some (.int 0)) M) ∧ (c ∈ signBy → len < 40 → Q (some (.int 1)) (appT M 1 c))
theorem c_X5_type {l : Launch} (hl : l.stackTraces = false) : Con l yX5_type wX5_type 0 5 (T_type) := by
  refine con_of hl (by decide) ?_ ?_
  · intro as M Q X hpt
    obtain ⟨c, len, rfl, hF, h40, el, hnar, hX, hQ⟩ := hpt
    exact Nat.le_of_ble_eq_true rfl
  intro G as M Q X hl' hT hd hpt
  obtain ⟨c, len, rfl, hF, h40, el, hnar, hX, hQ⟩ := hpt
  have hG : (gl G).stackTraces = false := by rw [hl']; exact hl
  show PW G RX5 cX5_type 2 (some .boolean) Q X 0 0 [(0, .ref 0), (1, .int c)] [] M
  refine w_signs (pc := 0) hG (by omega) rfl dX5_type_0 dX5_type_2 dX5_type_3 (fun r hr => ?_)
  refine w_if_lt 19 (pc := 6) dX5_type_6 (by decide) (fun h6 => ?_) (fun h6 => ?_)
  · have hns : ¬ c ∈ signBy := hr.mp h6
    refine w_iconst (v := 0) (pc := 19) dX5_type_19 rfl ?_
    refine w_ireturn (pc := 20) dX5_type_20 rfl ?_
    exact hX (by first | exact Or.inl hns | exact Or.inr h9)
  · have hsg : c ∈ signBy := Decidable.not_not.mp (fun q => h6 (hr.mpr q))
    refine w_aload_n (pc := 9) dX5_type_9 rfl ?_
    refine w_getR (b := 1) (pc := 10) fl_X5_10 hF (by first | assumption | exact ob rfl) rfl rfl dX5_type_10 ?_
    refine w_callV0 (n' := 0) (pc := 13) (c_X4_isFull hG) cv_X5_70 (by first | assumption | exact ob rfl) hF hT (by omega) (by decide) (Nat.le_of_ble_eq_true rfl) dX5_type_13 ?_
    refine ⟨_, rfl, hF, ob rfl, ?_⟩
    dsimp only [psh]
    refine w_if_eq 21 (pc := 16) dX5_type_16 (by decide) (fun h16 => ?_) (fun h16 => ?_)
    · have h9 : len < 40 := by rw [bi_0, el, show (40 : Int32) = nI 40 from rfl, decide_eq_false_iff_not, nI_leI (by omega) (by omega)] at h16; omega
      refine w_aload_n (pc := 21) dX5_type_21 rfl ?_
      refine w_getR (b := 1) (pc := 22) fl_X5_10 hF (by first | assumption | exact ob rfl) rfl rfl dX5_type_22 ?_
      refine w_iload_n (pc := 25) dX5_type_25 rfl ?_
      refine w_callV1 (n' := 0) (pc := 26) (c_X4_append hG) cv_X5_74 (by first | assumption | exact ob rfl) hF hT (by omega) (by decide) (Nat.le_of_ble_eq_true rfl) dX5_type_26 ?_
      refine ⟨1, c, rfl, hF, ob rfl, rfl, ar rfl, (by rw [el]; exact vin h9 (by decide)), hnar, ?_⟩
      dsimp only [psh]
      refine w_iconst (v := 1) (pc := 29) dX5_type_29 rfl ?_
      refine w_ireturn (pc := 30) dX5_type_30 rfl ?_
      exact hQ hsg h9
    · have h9 : len = 40 := by rw [bi_1, el, show (40 : Int32) = nI 40 from rfl, decide_eq_true_eq, nI_leI (by omega) (by omega)] at h16; omega
      refine w_iconst (v := 0) (pc := 19) dX5_type_19 rfl ?_
      refine w_ireturn (pc := 20) dX5_type_20 rfl ?_
      exact hX (by first | exact Or.inl hns | exact Or.inr h9)
def sg15 : List Int32 := [39, 109, 120, 116, 40, 41, 44, 43, 45, 42, 37, 60, 62, 63, 58]
theorem sg_lo2 : ∀ j, j < 128 → (nI j ∈ signBy ↔ nI j ∈ sg15 ∨ isDg (nI j) = true ∨ isNm (nI j) = true) := by decide +kernel
theorem sg_hi : ∀ c ∈ signBy, ¬ c < 0 ∧ ¬ 127 < c := by decide +kernel
theorem sg_hi2 : ∀ c ∈ sg15, ¬ c < 0 ∧ ¬ 127 < c := by decide +kernel
theorem sg_iff {c : Int32} : c ∈ signBy ↔ c ∈ sg15 ∨ isDg c = true ∨ isNm c = true := by
  by_cases h : ¬ c < 0 ∧ ¬ 127 < c
  · obtain ⟨j, hj, rfl⟩ := nI_of h.1
    have h2 := h.2
    rw [show (127 : Int32) = nI 127 from rfl, nI_ltI (by decide) hj] at h2
    exact sg_lo2 j (by omega)
  · constructor
    · intro q; exact absurd (sg_hi c q) h
    · rintro (q | q | q)
      · exact absurd (sg_hi2 c q) h
      · exfalso
        unfold isDg at q
        rw [Bool.and_eq_true, decide_eq_true_eq, decide_eq_true_eq] at q
        exact h ⟨fun z => q.1 (Int32.lt_trans z (by decide)), fun z => q.2 (Int32.lt_trans (by decide) z)⟩
      · exfalso
        unfold isNm at q
        rw [Bool.and_eq_true, decide_eq_true_eq, decide_eq_true_eq] at q
        exact h ⟨fun z => q.1 (Int32.lt_trans z (by decide)), fun z => q.2 (Int32.lt_trans (by decide) z)⟩
def typM (M : Mem) (len : Nat) (c : Int32) : Mem := sI (sI (sI M 96 0 0) 97 len c) 96 2 (nI (len + 1))
def T_mType : PT := fun as M Q X => ∃ (c : Int32) (len : Nat), as = [.ref 96, .int c] ∧ Full M ∧ len ≤ 40 ∧ mI M 96 2 = nI len ∧ ((¬ c ∈ signBy ∨ len = 40) → Q (some (.int 0)) (sI M 96 0 0)) ∧ (c ∈ signBy → len < 40 → Q (some (.int 1)) (typM M len c))
theorem c_X6_type {l : Launch} (hl : l.stackTraces = false) : Con l yX6_type wX6_type 0 2 (T_mType) := by
  refine con_of hl (by decide) ?_ ?_
  · intro as M Q X hpt
    obtain ⟨c, len, rfl, hF, h40, el, hX, hQ⟩ := hpt
    exact Nat.le_of_ble_eq_true rfl
  intro G as M Q X hl' hT hd hpt
  obtain ⟨c, len, rfl, hF, h40, el, hX, hQ⟩ := hpt
  have hG : (gl G).stackTraces = false := by rw [hl']; exact hl
  show PW G RX6 cX6_type 3 (some .boolean) Q X 0 0 [(0, .ref 96), (1, .int c)] [] M
  have t119 : c ∈ signBy → PW G RX6 cX6_type 3 (some .boolean) Q X 0 119 [(0, .ref 96), (1, .int c)] [] (sI M 96 0 0) := by
    intro hsg
    refine w_aload_n (pc := 119) dX6_type_119 rfl ?_
    refine w_getI (pc := 120) fl_X6_101 hF (by first | assumption | exact ob rfl) rfl dX6_type_120 ?_
    rw [show mI (sI M 96 0 0) 96 2 = nI len from el]
    refine w_bipush (v := 40) (pc := 123) dX6_type_123 rfl ?_
    refine w_icmp_ne 130 (pc := 125) dX6_type_125 (by decide) (fun h125 => ?_) (fun h125 => ?_)
    · have h9 : len < 40 := by rw [show (40 : Int32) = nI 40 from rfl, nI_eq (by omega) (by omega)] at h125; omega
      refine w_aload_n (pc := 130) dX6_type_130 rfl ?_
      refine w_getR (b := 97) (pc := 131) fl_X6_7 hF (by first | assumption | exact ob rfl) rfl rfl dX6_type_131 ?_
      refine w_aload_n (pc := 134) dX6_type_134 rfl ?_
      refine w_getI (pc := 135) fl_X6_101 hF (by first | assumption | exact ob rfl) rfl dX6_type_135 ?_
      rw [show mI (sI M 96 0 0) 96 2 = nI len from el]
      refine w_iload_n (pc := 138) dX6_type_138 rfl ?_
      refine w_iast (m := 40) (pc := 139) hF (by first | assumption | exact ar rfl) (vin h9 (by decide)) dX6_type_139 ?_
      rw [clN (by omega)]
      refine w_aload_n (pc := 140) dX6_type_140 rfl ?_
      refine w_dup (pc := 141) dX6_type_141 rfl ?_
      refine w_getI (pc := 142) fl_X6_101 hF (by first | assumption | exact ob rfl) rfl dX6_type_142 ?_
      rw [show mI (sI (sI M 96 0 0) 97 len c) 96 2 = nI len from el]
      refine w_iconst (v := 1) (pc := 145) dX6_type_145 rfl ?_
      refine w_iadd (pc := 146) dX6_type_146 ?_
      rw [nI_1]
      refine w_putI (pc := 147) fp_X6_101 hF (by first | assumption | exact ob rfl) rfl dX6_type_147 ?_
      refine w_iconst (v := 1) (pc := 150) dX6_type_150 rfl ?_
      refine w_ireturn (pc := 151) dX6_type_151 rfl ?_
      exact hQ hsg h9
    · have h9 : len = 40 := by rw [show (40 : Int32) = nI 40 from rfl, nI_eq (by omega) (by omega)] at h125; omega
      refine w_iconst (v := 0) (pc := 128) dX6_type_128 rfl ?_
      refine w_ireturn (pc := 129) dX6_type_129 rfl ?_
      exact hX (Or.inr h9)
  have t95 : c ∈ sg15 → PW G RX6 cX6_type 3 (some .boolean) Q X 0 95 [(0, .ref 96), (1, .int c)] [] (sI M 96 0 0) := by
    intro h
    refine w_iconst (v := 1) (pc := 95) dX6_type_95 rfl ?_
    refine w_goto 100 (pc := 96) dX6_type_96 (by decide) ?_
    refine w_istore_n 2 (pc := 100) rfl dX6_type_100 (by decide) ?_
    refine w_iload_n (pc := 101) dX6_type_101 rfl ?_
    refine w_if_ne 119 (pc := 102) dX6_type_102 (by decide) (fun h102 => ?_) (fun h102 => ?_)
    · exact w_lk (t119 (sg_iff.mpr (Or.inl h))) (lkc rfl (lkc rfl lkn))
    · exact absurd h102 (by decide)
  have t99 : ¬ c ∈ sg15 → PW G RX6 cX6_type 3 (some .boolean) Q X 0 99 [(0, .ref 96), (1, .int c)] [] (sI M 96 0 0) := by
    intro h
    refine w_iconst (v := 0) (pc := 99) dX6_type_99 rfl ?_
    refine w_istore_n 2 (pc := 100) rfl dX6_type_100 (by decide) ?_
    refine w_iload_n (pc := 101) dX6_type_101 rfl ?_
    refine w_if_ne 119 (pc := 102) dX6_type_102 (by decide) (fun h102 => ?_) (fun h102 => ?_)
    · exact absurd rfl h102
    · refine w_iload_n (pc := 105) dX6_type_105 rfl ?_
      refine w_callS1 (n' := 0) (pc := 106) (c_X6_isDigit hG) cs_X6_94 hT (by omega) (by decide) (Nat.le_of_ble_eq_true rfl) dX6_type_106 ?_
      refine ⟨_, rfl, ?_⟩
      dsimp only [psh]
      refine w_if_ne 119 (pc := 109) dX6_type_109 (by decide) (fun h109 => ?_) (fun h109 => ?_)
      · rw [bi_1] at h109
        exact w_lk (t119 (sg_iff.mpr (Or.inr (by first | exact Or.inl h109 | exact Or.inr h116)))) (lkc rfl (lkc rfl lkn))
      · rw [bi_0] at h109
        refine w_iload_n (pc := 112) dX6_type_112 rfl ?_
        refine w_callS1 (n' := 0) (pc := 113) (c_X6_isName hG) cs_X6_98 hT (by omega) (by decide) (Nat.le_of_ble_eq_true rfl) dX6_type_113 ?_
        refine ⟨_, rfl, ?_⟩
        dsimp only [psh]
        refine w_if_eq 128 (pc := 116) dX6_type_116 (by decide) (fun h116 => ?_) (fun h116 => ?_)
        · rw [bi_0] at h116
          refine w_iconst (v := 0) (pc := 128) dX6_type_128 rfl ?_
          refine w_ireturn (pc := 129) dX6_type_129 rfl ?_
          exact hX (Or.inl (fun q => by rcases sg_iff.mp q with z | z | z; exact h z; rw [h109] at z; exact absurd z (by decide); rw [h116] at z; exact absurd z (by decide)))
        · rw [bi_1] at h116
          exact w_lk (t119 (sg_iff.mpr (Or.inr (by first | exact Or.inl h109 | exact Or.inr h116)))) (lkc rfl (lkc rfl lkn))
  refine w_aload_n (pc := 0) dX6_type_0 rfl ?_
  refine w_iconst (v := 0) (pc := 1) dX6_type_1 rfl ?_
  refine w_putI (pc := 2) fp_X6_91 hF (by first | assumption | exact ob rfl) rfl dX6_type_2 ?_
  refine w_iload_n (pc := 5) dX6_type_5 rfl ?_
  refine w_bipush (v := 39) (pc := 6) dX6_type_6 rfl ?_
  refine w_icmp_eq 95 (pc := 8) dX6_type_8 (by decide) (fun h8 => ?_) (fun h8 => ?_)
  · exact w_lk (t95 (by simp [sg15, h8])) (lkc rfl (lkc rfl lkn))
  · refine w_iload_n (pc := 11) dX6_type_11 rfl ?_
    refine w_bipush (v := 109) (pc := 12) dX6_type_12 rfl ?_
    refine w_icmp_eq 95 (pc := 14) dX6_type_14 (by decide) (fun h14 => ?_) (fun h14 => ?_)
    · exact w_lk (t95 (by simp [sg15, h8, h14])) (lkc rfl (lkc rfl lkn))
    · refine w_iload_n (pc := 17) dX6_type_17 rfl ?_
      refine w_bipush (v := 120) (pc := 18) dX6_type_18 rfl ?_
      refine w_icmp_eq 95 (pc := 20) dX6_type_20 (by decide) (fun h20 => ?_) (fun h20 => ?_)
      · exact w_lk (t95 (by simp [sg15, h8, h14, h20])) (lkc rfl (lkc rfl lkn))
      · refine w_iload_n (pc := 23) dX6_type_23 rfl ?_
        refine w_bipush (v := 116) (pc := 24) dX6_type_24 rfl ?_
        refine w_icmp_eq 95 (pc := 26) dX6_type_26 (by decide) (fun h26 => ?_) (fun h26 => ?_)
        · exact w_lk (t95 (by simp [sg15, h8, h14, h20, h26])) (lkc rfl (lkc rfl lkn))
        · refine w_iload_n (pc := 29) dX6_type_29 rfl ?_
          refine w_bipush (v := 40) (pc := 30) dX6_type_30 rfl ?_
          refine w_icmp_eq 95 (pc := 32) dX6_type_32 (by decide) (fun h32 => ?_) (fun h32 => ?_)
          · exact w_lk (t95 (by simp [sg15, h8, h14, h20, h26, h32])) (lkc rfl (lkc rfl lkn))
          · refine w_iload_n (pc := 35) dX6_type_35 rfl ?_
            refine w_bipush (v := 41) (pc := 36) dX6_type_36 rfl ?_
            refine w_icmp_eq 95 (pc := 38) dX6_type_38 (by decide) (fun h38 => ?_) (fun h38 => ?_)
            · exact w_lk (t95 (by simp [sg15, h8, h14, h20, h26, h32, h38])) (lkc rfl (lkc rfl lkn))
            · refine w_iload_n (pc := 41) dX6_type_41 rfl ?_
              refine w_bipush (v := 44) (pc := 42) dX6_type_42 rfl ?_
              refine w_icmp_eq 95 (pc := 44) dX6_type_44 (by decide) (fun h44 => ?_) (fun h44 => ?_)
              · exact w_lk (t95 (by simp [sg15, h8, h14, h20, h26, h32, h38, h44])) (lkc rfl (lkc rfl lkn))
              · refine w_iload_n (pc := 47) dX6_type_47 rfl ?_
                refine w_bipush (v := 43) (pc := 48) dX6_type_48 rfl ?_
                refine w_icmp_eq 95 (pc := 50) dX6_type_50 (by decide) (fun h50 => ?_) (fun h50 => ?_)
                · exact w_lk (t95 (by simp [sg15, h8, h14, h20, h26, h32, h38, h44, h50])) (lkc rfl (lkc rfl lkn))
                · refine w_iload_n (pc := 53) dX6_type_53 rfl ?_
                  refine w_bipush (v := 45) (pc := 54) dX6_type_54 rfl ?_
                  refine w_icmp_eq 95 (pc := 56) dX6_type_56 (by decide) (fun h56 => ?_) (fun h56 => ?_)
                  · exact w_lk (t95 (by simp [sg15, h8, h14, h20, h26, h32, h38, h44, h50, h56])) (lkc rfl (lkc rfl lkn))
                  · refine w_iload_n (pc := 59) dX6_type_59 rfl ?_
                    refine w_bipush (v := 42) (pc := 60) dX6_type_60 rfl ?_
                    refine w_icmp_eq 95 (pc := 62) dX6_type_62 (by decide) (fun h62 => ?_) (fun h62 => ?_)
                    · exact w_lk (t95 (by simp [sg15, h8, h14, h20, h26, h32, h38, h44, h50, h56, h62])) (lkc rfl (lkc rfl lkn))
                    · refine w_iload_n (pc := 65) dX6_type_65 rfl ?_
                      refine w_bipush (v := 37) (pc := 66) dX6_type_66 rfl ?_
                      refine w_icmp_eq 95 (pc := 68) dX6_type_68 (by decide) (fun h68 => ?_) (fun h68 => ?_)
                      · exact w_lk (t95 (by simp [sg15, h8, h14, h20, h26, h32, h38, h44, h50, h56, h62, h68])) (lkc rfl (lkc rfl lkn))
                      · refine w_iload_n (pc := 71) dX6_type_71 rfl ?_
                        refine w_bipush (v := 60) (pc := 72) dX6_type_72 rfl ?_
                        refine w_icmp_eq 95 (pc := 74) dX6_type_74 (by decide) (fun h74 => ?_) (fun h74 => ?_)
                        · exact w_lk (t95 (by simp [sg15, h8, h14, h20, h26, h32, h38, h44, h50, h56, h62, h68, h74])) (lkc rfl (lkc rfl lkn))
                        · refine w_iload_n (pc := 77) dX6_type_77 rfl ?_
                          refine w_bipush (v := 62) (pc := 78) dX6_type_78 rfl ?_
                          refine w_icmp_eq 95 (pc := 80) dX6_type_80 (by decide) (fun h80 => ?_) (fun h80 => ?_)
                          · exact w_lk (t95 (by simp [sg15, h8, h14, h20, h26, h32, h38, h44, h50, h56, h62, h68, h74, h80])) (lkc rfl (lkc rfl lkn))
                          · refine w_iload_n (pc := 83) dX6_type_83 rfl ?_
                            refine w_bipush (v := 63) (pc := 84) dX6_type_84 rfl ?_
                            refine w_icmp_eq 95 (pc := 86) dX6_type_86 (by decide) (fun h86 => ?_) (fun h86 => ?_)
                            · exact w_lk (t95 (by simp [sg15, h8, h14, h20, h26, h32, h38, h44, h50, h56, h62, h68, h74, h80, h86])) (lkc rfl (lkc rfl lkn))
                            · refine w_iload_n (pc := 89) dX6_type_89 rfl ?_
                              refine w_bipush (v := 58) (pc := 90) dX6_type_90 rfl ?_
                              refine w_icmp_ne 99 (pc := 92) dX6_type_92 (by decide) (fun h92 => ?_) (fun h92 => ?_)
                              · exact w_lk (t99 (by simp [sg15, h8, h14, h20, h26, h32, h38, h44, h50, h56, h62, h68, h74, h80, h86, h92])) (lkc rfl (lkc rfl lkn))
                              · exact w_lk (t95 (by simp [sg15, h8, h14, h20, h26, h32, h38, h44, h50, h56, h62, h68, h74, h80, h86, h92])) (lkc rfl (lkc rfl lkn))
