/-! CONTRACTS AND CALLS -/
/-- a method by what it makes of any wish for its end: arguments, memory, the wish for a return, the wish for a throw -/
abbrev PT : Type := List Value → Mem → (Option Value → Mem → Prop) → (String → Mem → Prop) → Prop
def Pre (D : va_G) (cy : Nat → ClassId) (adr : Nat → Nat) (M : Mem) (sz : Nat) (U : State) : Prop :=
  U.heap.size = sz ∧ va_P D vwCl (Wd cy adr M) U.heap ∧ va_K D vwCl (tysOf cy) U ∧ va_D (AA adr (mN M) sz) (Wd cy adr M) ∧ Base (AA adr (mN M) sz) U
def ConM (l : Launch) (y : MethodName) (cw : Cond) (k d : Nat) (D : va_G) (cy : Nat → ClassId) (adr : Nat → Nat) (M : Mem) (as : List Value) (Q : Option Value → Mem → Prop) (X : String → Mem → Prop) (sz : Nat) : Prop :=
  vx_Met l y (cw :: WW) (rmm d k) (va_Pc (as.map (tv adr)) (Pre D cy adr M sz)) (Qn D cy (fun a => a = adr) (AA adr (mN M) sz) Q) (Xn D cy (fun a => a = adr) (AA adr (mN M) sz) X) k (6 * k) (AA adr (mN M) sz)
/-- the contract: k throws at most, d frames deep -/
def Con (l : Launch) (y : MethodName) (cw : Cond) (k d : Nat) (pt : PT) : Prop :=
  ∀ (D : va_G) (cy : Nat → ClassId) (adr : Nat → Nat) (M : Mem) (as : List Value) (Q : Option Value → Mem → Prop) (X : String → Mem → Prop) (sz : Nat), pt as M Q X → ConM l y cw k d D cy adr M as Q X sz
theorem Base.same {A : Nat → Prop} {U V : State} (h : Base A U) (hh : V.heap = U.heap) (hv : V.vm = U.vm) : Base A V := by
  obtain ⟨h1, h2, h3, h4, h7, h8, ak, av, h5, h6, h9⟩ := h
  have ha : U.vm.Alike V.vm := by rw [hv]; exact Vm.Alike.refl _
  have hq : ∀ a : Nat, a < U.heap.size → ¬ A a → V.heap[a]? = U.heap[a]? := fun a _ _ => by rw [hh]
  exact ⟨(h1.kept hq).moved ha, (h2.kept hq).moved ha, fun q hq => by obtain ⟨a, ha⟩ := h3 q hq; exact ⟨a, ha.same hv⟩, fun q hq => va_Nw.same rfl hv.symm (h4 q hq), fun q hq => va_Nw.same rfl hv.symm (h7 q hq), fun q hq => va_Nw.same rfl hv.symm (h8 q hq), ak, av, h5.same hv, (h6.kept hq).moved ha, (h9.kept hq).moved ha⟩
theorem Pre.blind {D : va_G} {cy : Nat → ClassId} {adr : Nat → Nat} {M : Mem} {sz : Nat} {av : List Value} : FrameBlind (va_Pc av (Pre D cy adr M sz)) := by
  intro a U g mk h
  obtain ⟨h0, h1, h2, h3, h4, h5⟩ := h
  exact ⟨h0, h1, h2, va_K.moved (u := U) (U := U.calling g mk a) (Vm.Alike.refl U.vm) h3, h4, h5.same rfl rfl⟩
theorem AA_in {G : Cx} {M : Mem} {H : Heap} {locs : List Loc} (hA : ∀ q : Nat, (gs G).heap.size ≤ q → gA G q) (hD : va_D (gA G) (Wd (gy G) (gr G) M)) (hS : va_S (gA G) (gs G).heap H locs) : ∀ q, AA (gr G) (mN M) H.size q → gA G q := by
  intro q h
  rcases h with ⟨i, hi, rfl⟩ | h
  · exact hD.2 i _ (Wd_at hi)
  · exact hA q (Nat.le_trans hS.1 h)
theorem Wd_self {cy : Nat → ClassId} {adr : Nat → Nat} {M : Mem} {A : Nat → Prop} {sz : Nat} (h : va_D A (Wd cy adr M)) : va_D (AA adr (mN M) sz) (Wd cy adr M) := by
  refine ⟨h.1, fun k q hk => ?_⟩
  have hk' : k < mN M := by
    have := (List.getElem?_eq_some_iff.mp hk).1
    simpa [Wd] using this
  rw [Wd_at hk'] at hk
  cases hk
  exact Or.inl ⟨k, hk', rfl⟩
theorem Pre.of {G : Cx} {own : String} {cc : ByteArray} {nL n0 : Nat} {rt : Option FieldType} {M : Mem} {H : Heap} {locs : List Loc} (ok : Ok G own cc nL rt n0) (hP : va_P (gD G) vwCl (Wd (gy G) (gr G) M) H) (hD : va_D (gA G) (Wd (gy G) (gr G) M)) (hS : va_S (gA G) (gs G).heap H locs) {U : State} (hU : U.heap = H) (hW : (gs G).WarmedH U.vm) : Pre (gD G) (gy G) (gr G) M H.size U := by
  refine ⟨by rw [hU], by rw [hU]; exact hP, va_K.moved hW.alike ok.hK, Wd_self hD, ?_⟩
  exact ok.base.to hS hU hW (AA_in ok.hA hD hS)
section
variable {G : Cx} {own : String} {cc : ByteArray} {nL : Nat} {rt : Option FieldType} {Post : Option Value → Mem → Prop} {PostX : String → Mem → Prop} {n pc : Nat} {ls : List (Nat × Value)} {st : List Value} {M : Mem}
/-- behind a call: what came back goes on, what was thrown goes out -/
theorem run_to {k n' n0 : Nat} {Q : Option Value → Mem → Prop} {X : String → Mem → Prop} {H : Heap} {locs : List Loc} {lsA : Array Slot} {cells slots : Nat} {stk : List Value} {a0 : Array Value} (ok : Ok G own cc nL rt n0)
    (hrun : vx_Run (gp G) (gl G) (ge G) (gR G) (gs G) (gm G) (ga G) (gb G) (gh G) (gc G) H locs cells slots k (6 * k) (F0 (gm G) pc lsA stk) (st.map (tv (gr G))) (Qn (gD G) (gy G) (fun a => a = gr G) (AA (gr G) (mN M) H.size) Q a0) (Xn (gD G) (gy G) (fun a => a = gr G) (AA (gr G) (mN M) H.size) X) (AA (gr G) (mN M) H.size))
    (hD : va_D (gA G) (Wd (gy G) (gr G) M)) (hS : va_S (gA G) (gs G).heap H locs) (hl : lv_has lsA nL (lt (gr G) ls)) (h1 : cells + n ≤ n0) (h2 : slots + 6 * n ≤ 6 * n0) (hn : n' + k ≤ n) (ht : gt G = [])
    (hQ : ∀ r M', Q r M' → PW G own cc nL rt Post PostX n' (pc + 3) ls (r.toList ++ st) M') (hX : ∀ E M', X E M' → PostX E M') : Wg G H locs cells slots (Zn G Post PostX n0) (F0 (gm G) pc lsA stk) := by
  intro T hT Xs
  have hA := AA_in ok.hA hD hS
  rcases hrun T hT Xs with ⟨v, st0, t, T', L, e0, X', hL, e1, e2, hq, go⟩ | ⟨q, st0, t, T', L, E, cec, e0, X', hL, e1, e2, hxc, hcell, hvn, hcl, steps⟩
  · obtain ⟨⟨adr', r, M', rfl, hr, hpost, hP', hD'⟩, hF⟩ := hq
    obtain ⟨hsz, hkeep, hS'⟩ := vx_keep e0 e1 hS (fun q _ h => hA q h) hA hL hF
    have hv : v = r.map (tv (gr G)) := Outcome.returned.inj hr
    subst hv
    obtain ⟨tt, stt, hz⟩ := hQ r M' hpost n0 T'.heap (locs ++ L) lsA (cells + k) (slots + 6 * k) ok (by omega) (by omega) (by rw [e1]; exact hP') (hD'.weaken (fun _ _ _ h => hA _ h)) hS' hl T' rfl X'
    refine ⟨tt, go _ ?_, hz⟩
    have e : (r.map (tv (gr G))).toList ++ st.map (tv (gr G)) = (r.toList ++ st).map (tv (gr G)) := by cases r <;> rfl
    have e2 : ({ F0 (gm G) pc lsA stk with pc := (F0 (gm G) pc lsA stk).pc + 3, stack := (r.map (tv (gr G))).toList ++ st.map (tv (gr G)) } : JFrame) = F0 (gm G) (pc + 3) lsA ((r.toList ++ st).map (tv (gr G))) := by rw [e]
    rw [e2]
    exact stt
  · obtain ⟨⟨adr', M', rfl, hpost, hP', hD'⟩, hF⟩ := hxc
    obtain ⟨hsz, hkeep, hS'⟩ := vx_keep e0 e1 hS (fun q _ h => hA q h) hA hL hF
    have ho := vx_out (p := gp G) (l := gl G) (e := ge G) (R := gR G) (s := gs G) (m := gm G) (args := ga G) (below := gb G) (meth := gh G) (c := gc G) (H := T'.heap) (locs := locs ++ L) (cells := cells + k) (slots := slots + 6 * k) (pc := pc) (E := E) (ce := cec) (q := q) (mc := n0) (ms := 6 * n0) (free := gA G) (ls := lsA) (rest := st.map (tv (gr G)))
      (Qc := Qn (gD G) (gy G) (gE G) (gA G) Post) (XC := Xn (gD G) (gy G) (gE G) (gA G) PostX) (fun x hx => by rw [ok.tab, ht] at hx; cases hx) ok.hlk (by rw [e1]; exact hcell) hvn hcl
      (fun t' ht' _ => ⟨⟨gr G, M', ok.ext, hX E M' hpost, by rw [ht', e1]; exact hP', hD'.weaken (fun _ _ _ h => hA _ h)⟩, hS'.F ht'⟩) hS'.2.2 (by omega) (by omega)
    obtain ⟨tt, stt, hz⟩ := ho T' rfl X'
    exact ⟨tt, steps.trans stt, hz⟩
/-- the entry idx of own's pool is the method y of class ci, with n parameters -/
def CV (own : String) (idx ci : Nat) (y : MethodName) (cw : Cond) (n : Nat) : Prop := ∃ (bytes : ByteArray) (maxL : Nat) (ret : Option FieldType) (r : vw_C), cw = Cond.code y bytes maxL ret ∧ maxL ≤ 40 ∧ vwCl[ci]? = some r ∧ y.cls = r.1 ∧ (y.cls ≠ "java/lang/invoke/MethodHandle" ∧ y.cls ≠ "java/lang/invoke/VarHandle" ∧ (parseMethodDescriptor y.desc).map (fun d => d.parameters.length) = some n) ∧
  Cond.methodLink own idx y ∈ WW ∧ Cond.instanceMethod y ∈ WW ∧ Cond.selects r.1 y y ∈ WW ∧ Cond.initialized r.1 ∈ WW ∧ cw ∈ WW
def CS (own : String) (idx : Nat) (y : MethodName) (cw : Cond) (n : Nat) : Prop := ∃ (bytes : ByteArray) (maxL : Nat) (ret : Option FieldType), cw = Cond.code y bytes maxL ret ∧ maxL ≤ 40 ∧ (y.cls ≠ "java/lang/invoke/MethodHandle" ∧ y.cls ≠ "java/lang/invoke/VarHandle" ∧ (parseMethodDescriptor y.desc).map (fun d => d.parameters.length) = some n) ∧
  Cond.methodLink own idx y ∈ WW ∧ Cond.static y ∈ WW ∧ Cond.initialized y.cls ∈ WW ∧ cw ∈ WW
/-- .. a static method of a nest mate -/
def CN (own : String) (idx : Nat) (y : MethodName) (cw : Cond) (n : Nat) : Prop := ∃ (bytes : ByteArray) (maxL : Nat) (ret : Option FieldType), cw = Cond.code y bytes maxL ret ∧ maxL ≤ 40 ∧ (y.cls ≠ "java/lang/invoke/MethodHandle" ∧ y.cls ≠ "java/lang/invoke/VarHandle" ∧ (parseMethodDescriptor y.desc).map (fun d => d.parameters.length) = some n) ∧
  (own, idx, y) ∈ nests ∧ Cond.static y ∈ WW ∧ Cond.initialized y.cls ∈ WW ∧ cw ∈ WW
theorem cats (adr : Nat → Nat) (st : List Value) : ((st.map (tv adr)).map fun v => v.category) = st.map fun v => v.category := by
  rw [List.map_map]
  exact List.map_congr_left fun v _ => tv_cat adr v
theorem good_c {cw : Cond} (h : cw ∈ WW) (a : List Cond) (ha : ∀ w ∈ a, w ∈ WW) : GoodIn WW (a ++ (cw :: WW)) := by
  intro w hw
  have hm : w ∈ WW := by
    rcases List.mem_append.mp hw with q | q
    · exact ha w q
    · rcases List.mem_cons.mp q with rfl | q
      · exact h
      · exact q
  exact ⟨hm, WW_good hm⟩
theorem w_callV {y : MethodName} {cw : Cond} {k d0 idx ci m n' b : Nat} {pt : PT} {As stk : List Value} (hC : Con (gl G) y cw k d0 pt) (cv : CV own idx ci y cw m) (ho : OB ci b) (hF : Full M) (ht : gt G = []) (hd : d0 + 1 ≤ gd G) (hm : As.length = m) (hn : n' + k ≤ n) (hst : stk = As.reverse ++ .ref b :: st) (h8 : (st.map fun v => v.category).sum ≤ 8) (d : decode cc pc = .ok (.invokevirtual idx, 3))
    (hpt : pt (.ref b :: As) M (fun r M' => PW G own cc nL rt Post PostX n' (pc + 3) ls (r.toList ++ st) M') PostX) : PW G own cc nL rt Post PostX n pc ls stk M := by
  intro n0 H locs lsA cells slots ok h1 h2 hP hD hS hl
  obtain ⟨bytes, maxL, ret, ⟨C, T, N⟩, rfl, hmax, hr, hyc, hy, w1, w2, w3, w4, w5⟩ := cv
  have hM := hC (gD G) (gy G) (gr G) M (.ref b :: As) _ _ H.size hpt
  have hR := ok.room
  have hbN : b < mN M := by rw [hF.1]; exact ho.1
  have cwf : CallW (gR G) (gs G) (ga G) own C idx y bytes maxL ret (Cond.code y bytes maxL ret :: WW) (rmm d0 k) k (6 * k) m :=
    cwV m ok.hts (good_c w5 [.methodLink own idx y, .instanceMethod y, .selects C y y, .initialized C] (by simp only [List.mem_cons, List.not_mem_nil, or_false]; rintro w (rfl | rfl | rfl | rfl) <;> assumption)) rfl rfl rfl ⟨hyc, hy⟩ (by rw [hR]; simp only [rmm]; constructor <;> omega)
  have hp : PreV (gs G) H C (gr G b) (va_Pc ((Value.ref b :: As).map (tv (gr G))) (Pre (gD G) (gy G) (gr G) M H.size)) (As.map (tv (gr G))) :=
    ⟨Pre.blind, va_recv ok.hK hP (ci := ci) (q0 := b) hr (by rw [Wd_at hbN, ce_o ho.2]), fun U hU hW => ⟨rfl, Pre.of ok hP hD hS hU hW⟩⟩
  have hrun := vx_runV (p := gp G) (e := ge G) (below := gb G) (meth := gh G) (locs := locs) (cells := cells) (slots := slots) (g := F0 (gm G) pc lsA (stk.map (tv (gr G)))) (rest := st.map (tv (gr G))) ⟨ok.hx, ok.hb, ok.hml, ok.hown, ok.hts⟩ hM cwf hp rfl (by rw [List.length_map]; exact hm) hl.1 (by rw [hst]; simp [tv]) (lv_room (by rw [cats]; exact h8)) d (by rw [hR]; simp only [rmm]; constructor <;> omega)
  exact run_to ok hrun hD hS hl h1 h2 hn ht (fun _ _ h => h) (fun _ _ h => h)
theorem w_callS {y : MethodName} {cw : Cond} {k d0 idx m n' : Nat} {pt : PT} {As stk : List Value} (hC : Con (gl G) y cw k d0 pt) (cs : CS own idx y cw m) (ht : gt G = []) (hd : d0 + 1 ≤ gd G) (hm : As.length = m) (hn : n' + k ≤ n) (hst : stk = As.reverse ++ st) (h8 : (st.map fun v => v.category).sum ≤ 8) (d : decode cc pc = .ok (.invokestatic idx, 3))
    (hpt : pt As M (fun r M' => PW G own cc nL rt Post PostX n' (pc + 3) ls (r.toList ++ st) M') PostX) : PW G own cc nL rt Post PostX n pc ls stk M := by
  intro n0 H locs lsA cells slots ok h1 h2 hP hD hS hl
  obtain ⟨bytes, maxL, ret, rfl, hmax, hy, w1, w2, w4, w5⟩ := cs
  have hM := hC (gD G) (gy G) (gr G) M As _ _ H.size hpt
  have hR := ok.room
  have cwf : CallB (gR G) (gs G) (ga G) own idx y bytes maxL ret (Cond.code y bytes maxL ret :: WW) (rmm d0 k) k (6 * k) m ∧ (Cond.static y).before (ga G) (gs G) = true :=
    va_cwS m ok.hts (good_c w5 [.methodLink own idx y, .static y, .initialized y.cls] (by simp only [List.mem_cons, List.not_mem_nil, or_false]; rintro w (rfl | rfl | rfl) <;> assumption)) rfl rfl rfl hy (by rw [hR]; simp only [rmm]; constructor <;> omega)
  have hp : PreS (gs G) H (va_Pc (As.map (tv (gr G))) (Pre (gD G) (gy G) (gr G) M H.size)) (As.map (tv (gr G))) :=
    ⟨Pre.blind, fun U hU hW => ⟨rfl, Pre.of ok hP hD hS hU hW⟩⟩
  have hrun := vx_runS (p := gp G) (e := ge G) (below := gb G) (meth := gh G) (locs := locs) (cells := cells) (slots := slots) (g := F0 (gm G) pc lsA (stk.map (tv (gr G)))) (rest := st.map (tv (gr G))) ⟨ok.hx, ok.hb, ok.hml, ok.hown, ok.hts⟩ hM cwf hp rfl (by rw [List.length_map]; exact hm) hl.1 (by rw [hst]; simp) (lv_room (by rw [cats]; exact h8)) d (by rw [hR]; simp only [rmm]; constructor <;> omega)
  exact run_to ok hrun hD hS hl h1 h2 hn ht (fun _ _ h => h) (fun _ _ h => h)
/-- no throw: the plain contract -/
theorem ConM.met {l : Launch} {y : MethodName} {cw : Cond} {k d : Nat} {D : va_G} {cy : Nat → ClassId} {adr : Nat → Nat} {M : Mem} {as : List Value} {Q : Option Value → Mem → Prop} {sz : Nat} (h : ConM l y cw k d D cy adr M as Q (fun _ _ => False) sz) :
    Met l y (cw :: WW) (rmm d k) (va_Pc (as.map (tv adr)) (Pre D cy adr M sz)) (Qn D cy (fun a => a = adr) (AA adr (mN M) sz) Q) k (6 * k) (AA adr (mN M) sz) := by
  intro p e ha hc hk s m args below hf happ hP hK
  obtain ⟨kk, o, h1, h2, h3, hq⟩ := h p e ha hc hk s m args below hf happ hP hK
  refine ⟨kk, o, h1, h2, h3, ?_⟩
  rcases hq with hq | ⟨q, -, E, ce, L, hx, -⟩
  · exact hq
  · obtain ⟨⟨_, _, _, hx, _⟩, _⟩ := hx
    exact hx.elim
theorem w_callN {y : MethodName} {cw : Cond} {d0 idx m : Nat} {pt : PT} {As stk : List Value} (hC : Con (gl G) y cw 0 d0 pt) (cs : CN own idx y cw m) (ht : gt G = []) (hd : d0 + 1 ≤ gd G) (hm : As.length = m) (hst : stk = As.reverse ++ st) (h8 : (st.map fun v => v.category).sum ≤ 8) (d : decode cc pc = .ok (.invokestatic idx, 3))
    (hpt : pt As M (fun r M' => PW G own cc nL rt Post PostX n (pc + 3) ls (r.toList ++ st) M') (fun _ _ => False)) : PW G own cc nL rt Post PostX n pc ls stk M := by
  intro n0 H locs lsA cells slots ok h1 h2 hP hD hS hl
  obtain ⟨bytes, maxL, ret, rfl, hmax, hy, w1, w2, w4, w5⟩ := cs
  have hM := (hC (gD G) (gy G) (gr G) M As _ _ H.size hpt).met
  have hR := ok.room
  have hp : PreS (gs G) H (va_Pc (As.map (tv (gr G))) (Pre (gD G) (gy G) (gr G) M H.size)) (As.map (tv (gr G))) :=
    ⟨Pre.blind, fun U hU hW => ⟨rfl, Pre.of ok hP hD hS hU hW⟩⟩
  have hb : va_CN (gR G) (gs G) (ga G) own idx y RX5 bytes maxL ret (Cond.code y bytes maxL ret :: WW) (rmm d0 0) 0 (6 * 0) m := va_cnB m ok.hts (good_c w5 [] (fun _ h => by cases h)) rfl rfl rfl (ok.base.2.2.2.1 _ w1) (ok.hts _ w4) hy (by rw [hR]; simp only [rmm]; constructor <;> omega)
  have hrun := va_runSN (p := gp G) (e := ge G) (below := gb G) (meth := gh G) (locs := locs) (cells := cells) (slots := slots) (g := F0 (gm G) pc lsA (stk.map (tv (gr G)))) (rest := st.map (tv (gr G))) ⟨ok.hx, ok.hb, ok.hml, ok.hown, ok.hts⟩ hM ⟨hb, ok.hts _ w2, trivial⟩ hp rfl (by rw [List.length_map]; exact hm) hl.1 (by rw [hst]; simp) (lv_room (by rw [cats]; exact h8)) d (by rw [hR]; simp only [rmm]; constructor <;> omega)
  refine run_to (k := 0) (n' := n) (X := fun _ _ => False) ok (fun T hT Xs => Or.inl (hrun T hT Xs)) hD hS hl h1 h2 (Nat.le_refl _) ht (fun _ _ h => h) (fun _ _ h => h.elim)
end
/-- a contract out of a walk of the body -/
theorem con_of {l : Launch} {y : MethodName} {cc : ByteArray} {maxL k d : Nat} {ret : Option FieldType} {pt : PT} (hl : l.stackTraces = false) (hy : plainName y.cls = true) (hlen : ∀ as M Q X, pt as M Q X → (lg_sl as).length ≤ maxL)
    (h : ∀ (G : Cx) (as : List Value) (M : Mem) (Q : Option Value → Mem → Prop) (X : String → Mem → Prop), gl G = l → gt G = [] → gd G = d → pt as M Q X → PW G y.cls cc maxL ret Q X k 0 (lv_args 0 as) [] M) : Con l y (Cond.code y cc maxL ret) k d pt := by
  intro D cy adr M as Q X sz hpt
  refine vx_ofW (cc := cc) (maxL := maxL) (ret := ret) hy rfl ?_
  intro p e s m args below meth c s₁ B hml htab hv
  obtain ⟨rfl, hsz, hP, hK, hD, hB⟩ := hv
  subst hsz
  have hts := atoms_spec (ws := Cond.code y cc maxL ret :: WW) B.pre
  have hlen' := hlen as M Q X hpt
  have hsl : ∀ vs : List Value, (lg_sl (vs.map (tv adr))).length = (lg_sl vs).length := by
    intro vs
    induction vs with
    | nil => rfl
    | cons v vs ih =>
      simp only [lg_sl, List.map_cons, List.flatMap_cons, List.length_append] at ih ⊢
      rw [ih, tv_cat]
      split <;> rfl
  have hargs : ∀ (vs : List Value) (i : Nat), lv_args i (vs.map (tv adr)) = lt adr (lv_args i vs) := by
    intro vs
    induction vs with
    | nil => intro i; rfl
    | cons v vs ih =>
      intro i
      simp only [List.map_cons, lv_args, lt, tv_cat] at ih ⊢
      rw [ih]
  have hl2 := lv_entry (as.map (tv adr)) (n := maxL) (by rw [hsl]; exact hlen')
  rw [lg_entry_eq]
  generalize (lg_sl (as.map (tv adr)) ++ List.replicate (maxL - (lg_sl (as.map (tv adr))).length) Slot.unset).toArray = lsA at hl2 ⊢
  rw [hargs] at hl2
  let G : Cx := ((p, l, e, rmm d k, s, m, (as.map (tv adr)).toArray, below, meth, c), (D, cy, adr, (fun a => a = adr), AA adr (mN M) s.heap.size, d, []))
  have tab0 : c.exceptionTable.toList = [] := by
    cases hq : c.exceptionTable.toList with
    | nil => rfl
    | cons a b => exact (htab a (by rw [hq]; exact List.mem_cons_self)).elim
  have ok : Ok G y.cls cc maxL ret k := ⟨B.exec, B.bytes, hml, B.returns, findClass_of_methodNamed B.named, fun w hw => hts w (List.mem_cons_of_mem _ hw), B.notSynchronized, hK, hB, hl, rfl, rfl, fun q hq => Or.inr hq, tab0⟩
  exact h G as M Q X rfl rfl rfl hpt k s.heap [] lsA 0 0 ok (by omega) (by omega) hP hD va_S.rf hl2
