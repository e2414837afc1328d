/-! CALLS WHOSE THROWS ARE CAUGHT -/
/-- of these classes no object of the first is one of the second -/
def ncs : List (String × String) := [("java/util/NoSuchElementException", "java/lang/IllegalArgumentException"), ("java/util/NoSuchElementException", "java/lang/IllegalStateException"), ("java/util/NoSuchElementException", "java/lang/ArithmeticException"), ("java/lang/IllegalArgumentException", "java/util/NoSuchElementException"), ("java/lang/IllegalArgumentException", "java/lang/IllegalStateException"), ("java/lang/IllegalArgumentException", "java/lang/ArithmeticException"), ("java/lang/IllegalStateException", "java/util/NoSuchElementException"), ("java/lang/IllegalStateException", "java/lang/IllegalArgumentException"), ("java/lang/IllegalStateException", "java/lang/ArithmeticException"), ("java/lang/ArithmeticException", "java/util/NoSuchElementException"), ("java/lang/ArithmeticException", "java/lang/IllegalArgumentException"), ("java/lang/ArithmeticException", "java/lang/IllegalStateException")]
def NcAll (U : State) : Prop := ∀ q ∈ ncs, va_Nc q.1 q.2 U
theorem NcAll.moved {u U : State} (hvm : u.vm.Alike U.vm) (h : NcAll u) : NcAll U := fun q hq => (h q hq).moved hvm
/-- the judgement at a handler's entry: what was thrown lies on the stack -/
def PWx (G : Cx) (own : String) (cc : ByteArray) (nL : Nat) (rt : Option FieldType) (Post : Option Value → Mem → Prop) (PostX : String → Mem → Prop) (n pc : Nat) (ls : List (Nat × Value)) (M : Mem) : Prop :=
  ∀ (q : Nat) (n0 : Nat) (H : Heap) (locs : List Loc) (lsA : Array Slot) (cells slots : Nat), Ok G own cc nL rt n0 → cells + n ≤ n0 → slots + 6 * n ≤ 6 * n0 → va_P (gD G) vwCl (Wd (gy G) (gr G) M) H → va_D (gA G) (Wd (gy G) (gr G) M) → va_S (gA G) (gs G).heap H locs → lv_has lsA nL (lt (gr G) ls) →
    Wg G H locs cells slots (Zn G Post PostX n0) (F0 (gm G) pc lsA [.ref q])
section
variable {G : Cx} {own : String} {cc : ByteArray} {nL : Nat} {rt : Option FieldType} {Post : Option Value → Mem → Prop} {PostX : String → Mem → Prop} {n pc : Nat} {ls : List (Nat × Value)} {st : List Value} {M : Mem}
theorem wx_astore_n {i4 : Fin 4} (i : Nat) (hi : (i4 : Nat) = i) (d : decode cc pc = .ok (.astore_n i4, 1)) (hn : i < nL) (k : PW G own cc nL rt Post PostX n (pc + 1) (dl1 i ls) [] M) : PWx G own cc nL rt Post PostX n pc ls M := fun q n0 H locs lsA cells slots ok h1 h2 hP hD hS hl =>
  lv_astore_n ok.1 ok.2.1 d hi hl hn (congrArg (fun z => (i, Value.ref q) :: z) (dl1_eq _ i ls)) (fun ls' hl' => k n0 H locs ls' cells slots ok h1 h2 hP hD hS ⟨hl'.1, hl'.2.1, fun z hz => hl'.2.2 z (List.mem_cons_of_mem _ hz)⟩)
theorem wx_astore (i : Nat) (d : decode cc pc = .ok (.astore i, 2)) (hn : i < nL) (k : PW G own cc nL rt Post PostX n (pc + 2) (dl1 i ls) [] M) : PWx G own cc nL rt Post PostX n pc ls M := fun q n0 H locs lsA cells slots ok h1 h2 hP hD hS hl =>
  lv_astore ok.1 ok.2.1 d hl hn (congrArg (fun z => (i, Value.ref q) :: z) (dl1_eq _ i ls)) (fun ls' hl' => k n0 H locs ls' cells slots ok h1 h2 hP hD hS ⟨hl'.1, hl'.2.1, fun z hz => hl'.2.2 z (List.mem_cons_of_mem _ hz)⟩)
/-- by which row a throw of class E at pc is caught, and what goes on there -/
def Cgt (G : Cx) (own : String) (cc : ByteArray) (nL : Nat) (rt : Option FieldType) (Post : Option Value → Mem → Prop) (PostX : String → Mem → Prop) (n pc : Nat) (ls : List (Nat × Value)) (E : String) (M : Mem) : Prop :=
  ∃ (pre suf : List ExceptionTableEntry) (x : ExceptionTableEntry), tableOf (gt G) = pre ++ x :: suf ∧ (∀ z ∈ pre, z.catchType ≠ 0 ∧ ∃ nm : String, Cond.classLink own z.catchType nm ∈ WW ∧ (E, nm) ∈ ncs) ∧ covers x pc = true ∧ x.catchType ≠ 0 ∧ Cond.classLink own x.catchType E ∈ WW ∧ E ∈ casts ∧ PWx G own cc nL rt Post PostX n x.handlerPc ls M
theorem run_toC {k n' n0 : Nat} {Q : Option Value → Mem → Prop} {X : String → Mem → Prop} {H : Heap} {locs : List Loc} {lsA : Array Slot} {cells slots : Nat} {stk : List Value} {a0 : Array Value} (ok : Ok G own cc nL rt n0) (hNc : NcAll (gs G))
    (hrun : vx_Run (gp G) (gl G) (ge G) (gR G) (gs G) (gm G) (ga G) (gb G) (gh G) (gc G) H locs cells slots k (6 * k) (F0 (gm G) pc lsA stk) (st.map (tv (gr G))) (Qn (gD G) (gy G) (fun a => a = gr G) (AA (gr G) (mN M) H.size) Q a0) (Xn (gD G) (gy G) (fun a => a = gr G) (AA (gr G) (mN M) H.size) X) (AA (gr G) (mN M) H.size))
    (hD : va_D (gA G) (Wd (gy G) (gr G) M)) (hS : va_S (gA G) (gs G).heap H locs) (hl : lv_has lsA nL (lt (gr G) ls)) (h1 : cells + n ≤ n0) (h2 : slots + 6 * n ≤ 6 * n0) (hn : n' + k ≤ n)
    (hQ : ∀ r M', Q r M' → PW G own cc nL rt Post PostX n' (pc + 3) ls (r.toList ++ st) M') (hX : ∀ E M', X E M' → Cgt G own cc nL rt Post PostX n' pc ls E M') : Wg G H locs cells slots (Zn G Post PostX n0) (F0 (gm G) pc lsA stk) := by
  intro T hT Xs
  have hA := AA_in ok.hA hD hS
  rcases hrun T hT Xs with ⟨v, st0, t, T', L, e0, X', hL, e1, e2, hq, go⟩ | ⟨q, st0, t, T', L, E, cec, e0, X', hL, e1, e2, hxc, hcell, hvn, hcl, steps⟩
  · obtain ⟨⟨adr', r, M', rfl, hr, hpost, hP', hD'⟩, hF⟩ := hq
    obtain ⟨hsz, hkeep, hS'⟩ := vx_keep e0 e1 hS (fun q _ h => hA q h) hA hL hF
    have hv : v = r.map (tv (gr G)) := Outcome.returned.inj hr
    subst hv
    obtain ⟨tt, stt, hz⟩ := hQ r M' hpost n0 T'.heap (locs ++ L) lsA (cells + k) (slots + 6 * k) ok (by omega) (by omega) (by rw [e1]; exact hP') (hD'.weaken (fun _ _ _ h => hA _ h)) hS' hl T' rfl X'
    refine ⟨tt, go _ ?_, hz⟩
    have e : (r.map (tv (gr G))).toList ++ st.map (tv (gr G)) = (r.toList ++ st).map (tv (gr G)) := by cases r <;> rfl
    have e2 : ({ F0 (gm G) pc lsA stk with pc := (F0 (gm G) pc lsA stk).pc + 3, stack := (r.map (tv (gr G))).toList ++ st.map (tv (gr G)) } : JFrame) = F0 (gm G) (pc + 3) lsA ((r.toList ++ st).map (tv (gr G))) := by rw [e]
    rw [e2]
    exact stt
  · obtain ⟨⟨adr', M', rfl, hpost, hP', hD'⟩, hF⟩ := hxc
    obtain ⟨hsz, hkeep, hS'⟩ := vx_keep e0 e1 hS (fun q _ h => hA q h) hA hL hF
    obtain ⟨pre, suf, x, t1, t2, t3, t4, t5, t6, t7⟩ := hX E M' hpost
    have ho := vx_catch (p := gp G) (l := gl G) (e := ge G) (R := gR G) (s := gs G) (m := gm G) (args := ga G) (below := gb G) (meth := gh G) (c := gc G) (H := T'.heap) (locs := locs ++ L) (cells := cells + k) (slots := slots + 6 * k) (pc := pc) (E := E) (ce := cec) (q := q) (ls := lsA) (rest := st.map (tv (gr G))) (Q := Zn G Post PostX n0)
      (own := own) (name := E) ok.hown pre x suf (by rw [ok.tab]; exact t1) (fun z hz => Or.inr ⟨(t2 z hz).1, by obtain ⟨nm, g1, g2⟩ := (t2 z hz).2; exact ⟨nm, ok.hts _ g1, hNc _ g2⟩⟩) t3 t4 (ok.hts _ t5) (va_Nw.use rfl (ok.base.2.2.2.2.2.1 E t6)) (by rw [e1]; exact hcell) hvn hcl
      (t7 q n0 T'.heap (locs ++ L) lsA (cells + k) (slots + 6 * k) ok (by omega) (by omega) (by rw [e1]; exact hP') (hD'.weaken (fun _ _ _ h => hA _ h)) hS' hl)
    obtain ⟨tt, stt, hz⟩ := ho T' rfl X'
    exact ⟨tt, steps.trans stt, hz⟩
theorem w_callVC {y : MethodName} {cw : Cond} {k d0 idx ci m n' b : Nat} {pt : PT} {As stk : List Value} {Q : Option Value → Mem → Prop} {X : String → Mem → Prop} (hC : Con (gl G) y cw k d0 pt) (cv : CV own idx ci y cw m) (ho : OB ci b) (hF : Full M) (hNc : NcAll (gs G)) (hd : d0 + 1 ≤ gd G) (hm : As.length = m) (hn : n' + k ≤ n) (hst : stk = As.reverse ++ .ref b :: st) (h8 : (st.map fun v => v.category).sum ≤ 8) (d : decode cc pc = .ok (.invokevirtual idx, 3))
    (hpt : pt (.ref b :: As) M Q X) (hQ : ∀ r M', Q r M' → PW G own cc nL rt Post PostX n' (pc + 3) ls (r.toList ++ st) M') (hX : ∀ E M', X E M' → Cgt G own cc nL rt Post PostX n' pc ls E M') : PW G own cc nL rt Post PostX n pc ls stk M := by
  intro n0 H locs lsA cells slots ok h1 h2 hP hD hS hl
  obtain ⟨bytes, maxL, ret, ⟨C, T, N⟩, rfl, hmax, hr, hyc, hy, w1, w2, w3, w4, w5⟩ := cv
  have hM := hC (gD G) (gy G) (gr G) M (.ref b :: As) _ _ H.size hpt
  have hR := ok.room
  have hbN : b < mN M := by rw [hF.1]; exact ho.1
  have cwf : CallW (gR G) (gs G) (ga G) own C idx y bytes maxL ret (Cond.code y bytes maxL ret :: WW) (rmm d0 k) k (6 * k) m :=
    cwV m ok.hts (good_c w5 [.methodLink own idx y, .instanceMethod y, .selects C y y, .initialized C] (by simp only [List.mem_cons, List.not_mem_nil, or_false]; rintro w (rfl | rfl | rfl | rfl) <;> assumption)) rfl rfl rfl ⟨hyc, hy⟩ (by rw [hR]; simp only [rmm]; constructor <;> omega)
  have hp : PreV (gs G) H C (gr G b) (va_Pc ((Value.ref b :: As).map (tv (gr G))) (Pre (gD G) (gy G) (gr G) M H.size)) (As.map (tv (gr G))) :=
    ⟨Pre.blind, va_recv ok.hK hP (ci := ci) (q0 := b) hr (by rw [Wd_at hbN, ce_o ho.2]), fun U hU hW => ⟨rfl, Pre.of ok hP hD hS hU hW⟩⟩
  have hrun := vx_runV (p := gp G) (e := ge G) (below := gb G) (meth := gh G) (locs := locs) (cells := cells) (slots := slots) (g := F0 (gm G) pc lsA (stk.map (tv (gr G)))) (rest := st.map (tv (gr G))) ⟨ok.hx, ok.hb, ok.hml, ok.hown, ok.hts⟩ hM cwf hp rfl (by rw [List.length_map]; exact hm) hl.1 (by rw [hst]; simp [tv]) (lv_room (by rw [cats]; exact h8)) d (by rw [hR]; simp only [rmm]; constructor <;> omega)
  exact run_toC ok hNc hrun hD hS hl h1 h2 hn hQ hX
/-- the contract of a method with handlers (nothing is thrown out of it) -/
def ConW (l : Launch) (y : MethodName) (cw : Cond) (k d : Nat) (pt : PT) : Prop :=
  ∀ (D : va_G) (cy : Nat → ClassId) (adr : Nat → Nat) (M : Mem) (as : List Value) (Q : Option Value → Mem → Prop) (X : String → Mem → Prop) (sz : Nat), pt as M Q X →
    vx_Met l y (cw :: WW) (rmm d k) (va_Pc (as.map (tv adr)) (fun U => Pre D cy adr M sz U ∧ NcAll U)) (Qn D cy (fun a => a = adr) (AA adr (mN M) sz) Q) (Xn D cy (fun a => a = adr) (AA adr (mN M) sz) X) k (6 * k) (AA adr (mN M) sz)
/-- the entry idx of own's pool is the static method y, with n parameters and these handlers -/
def CSW (own : String) (idx : Nat) (y : MethodName) (cw : Cond) (n : Nat) : Prop := ∃ (bytes : ByteArray) (maxL : Nat) (ret : Option FieldType) (hh : List (Nat × Nat × Nat × Nat)), cw = Cond.codeWith y bytes maxL ret hh ∧ maxL ≤ 40 ∧ (y.cls ≠ "java/lang/invoke/MethodHandle" ∧ y.cls ≠ "java/lang/invoke/VarHandle" ∧ (parseMethodDescriptor y.desc).map (fun d => d.parameters.length) = some n) ∧
  Cond.methodLink own idx y ∈ WW ∧ Cond.static y ∈ WW ∧ Cond.initialized y.cls ∈ WW ∧ cw ∈ WW
theorem w_callSW {y : MethodName} {cw : Cond} {k d0 idx m n' : Nat} {pt : PT} {As stk : List Value} (hC : ConW (gl G) y cw k d0 pt) (cs : CSW own idx y cw m) (hNc : NcAll (gs G)) (ht : gt G = []) (hd : d0 + 1 ≤ gd G) (hm : As.length = m) (hn : n' + k ≤ n) (hst : stk = As.reverse ++ st) (h8 : (st.map fun v => v.category).sum ≤ 8) (d : decode cc pc = .ok (.invokestatic idx, 3))
    (hpt : pt As M (fun r M' => PW G own cc nL rt Post PostX n' (pc + 3) ls (r.toList ++ st) M') PostX) : PW G own cc nL rt Post PostX n pc ls stk M := by
  intro n0 H locs lsA cells slots ok h1 h2 hP hD hS hl
  obtain ⟨bytes, maxL, ret, hh, rfl, hmax, hy, w1, w2, w4, w5⟩ := cs
  have hM := hC (gD G) (gy G) (gr G) M As _ _ H.size hpt
  have hR := ok.room
  have cwf : vx_CSW (gR G) (gs G) (ga G) own idx y bytes maxL ret hh (Cond.codeWith y bytes maxL ret hh :: WW) (rmm d0 k) k (6 * k) m :=
    vx_cwSW m ok.hts (good_c w5 [.methodLink own idx y, .static y, .initialized y.cls] (by simp only [List.mem_cons, List.not_mem_nil, or_false]; rintro w (rfl | rfl | rfl) <;> assumption)) rfl rfl rfl hy (by rw [hR]; simp only [rmm]; constructor <;> omega)
  have hp : PreS (gs G) H (va_Pc (As.map (tv (gr G))) (fun U => Pre (gD G) (gy G) (gr G) M H.size U ∧ NcAll U)) (As.map (tv (gr G))) := by
    refine ⟨?_, fun U hU hW => ⟨rfl, Pre.of ok hP hD hS hU hW, hNc.moved hW.alike⟩⟩
    intro a U g mk h
    obtain ⟨q0, q1, q2⟩ := h
    have hb := Pre.blind (D := gD G) (cy := gy G) (adr := gr G) (M := M) (sz := H.size) (av := As.map (tv (gr G))) a U g mk ⟨q0, q1⟩
    exact ⟨hb.1, hb.2, q2.moved (Vm.Alike.refl U.vm)⟩
  have hrun := vx_runSX (p := gp G) (e := ge G) (below := gb G) (meth := gh G) (locs := locs) (cells := cells) (slots := slots) (g := F0 (gm G) pc lsA (stk.map (tv (gr G)))) (rest := st.map (tv (gr G))) ⟨ok.hx, ok.hb, ok.hml, ok.hown, ok.hts⟩ hM cwf hp rfl (by rw [List.length_map]; exact hm) hl.1 (by rw [hst]; simp) (lv_room (by rw [cats]; exact h8)) d (by rw [hR]; simp only [rmm]; constructor <;> omega)
  exact run_to ok hrun hD hS hl h1 h2 hn ht (fun _ _ h => h) (fun _ _ h => h)
end
theorem con_ofW {l : Launch} {y : MethodName} {cc : ByteArray} {maxL k d : Nat} {ret : Option FieldType} {hh : List (Nat × Nat × Nat × Nat)} {pt : PT} (hl : l.stackTraces = false) (hy : plainName y.cls = true) (hlen : ∀ as M Q X, pt as M Q X → (lg_sl as).length ≤ maxL)
    (h : ∀ (G : Cx) (as : List Value) (M : Mem) (Q : Option Value → Mem → Prop) (X : String → Mem → Prop), gl G = l → gt G = hh → gd G = d → NcAll (gs G) → pt as M Q X → PW G y.cls cc maxL ret Q X k 0 (lv_args 0 as) [] M) : ConW l y (Cond.codeWith y cc maxL ret hh) k d pt := by
  intro D cy adr M as Q X sz hpt
  refine vx_ofWH (cc := cc) (maxL := maxL) (ret := ret) (hh := hh) hy rfl ?_
  intro p e s m args below meth c s₁ B hml hv
  obtain ⟨rfl, ⟨hsz, hP, hK, hD, hB⟩, hNc⟩ := hv
  subst hsz
  have hts := atoms_spec (ws := Cond.codeWith y cc maxL ret hh :: WW) B.pre
  have hlen' := hlen as M Q X hpt
  have hsl : ∀ vs : List Value, (lg_sl (vs.map (tv adr))).length = (lg_sl vs).length := by
    intro vs
    induction vs with
    | nil => rfl
    | cons v vs ih =>
      simp only [lg_sl, List.map_cons, List.flatMap_cons, List.length_append] at ih ⊢
      rw [ih, tv_cat]
      split <;> rfl
  have hargs : ∀ (vs : List Value) (i : Nat), lv_args i (vs.map (tv adr)) = lt adr (lv_args i vs) := by
    intro vs
    induction vs with
    | nil => intro i; rfl
    | cons v vs ih =>
      intro i
      simp only [List.map_cons, lv_args, lt, tv_cat] at ih ⊢
      rw [ih]
  have hl2 := lv_entry (as.map (tv adr)) (n := maxL) (by rw [hsl]; exact hlen')
  rw [lg_entry_eq]
  generalize (lg_sl (as.map (tv adr)) ++ List.replicate (maxL - (lg_sl (as.map (tv adr))).length) Slot.unset).toArray = lsA at hl2 ⊢
  rw [hargs] at hl2
  let G : Cx := ((p, l, e, rmm d k, s, m, (as.map (tv adr)).toArray, below, meth, c), (D, cy, adr, (fun a => a = adr), AA adr (mN M) s.heap.size, d, hh))
  have tab0 : c.exceptionTable.toList = tableOf hh := vx_table (x := y) B (hts _ List.mem_cons_self)
  have ok : Ok G y.cls cc maxL ret k := ⟨B.exec, B.bytes, hml, B.returns, findClass_of_methodNamed B.named, fun w hw => hts w (List.mem_cons_of_mem _ hw), B.notSynchronized, hK, hB, hl, rfl, rfl, fun q hq => Or.inr hq, tab0⟩
  exact h G as M Q X rfl rfl rfl hNc hpt k s.heap [] lsA 0 0 ok (by omega) (by omega) hP hD va_S.rf hl2
