/-! MORE RULES: copies of rows, wide constants; truth values -/
/-- a row as a whole -/
def rI (M : Mem) (a : Nat) (f : Nat → Int32) : Mem := (va_up M.1 a f, M.2)
def rJ (M : Mem) (a : Nat) (f : Nat → Int64) : Mem := (M.1, va_up M.2.1 a f, M.2.2)
def bi (b : Bool) : Int32 := if b = true then 1 else 0
theorem bi_t {p : Prop} {h : Decidable p} (q : p) : bi (@decide p h) = 1 := by simp [bi, q]
theorem bi_f {p : Prop} {h : Decidable p} (q : ¬ p) : bi (@decide p h) = 0 := by simp [bi, q]
theorem bi_01 (b : Bool) : bi b = 0 ∨ bi b = 1 := by cases b <;> simp [bi]
theorem bi_0 {b : Bool} : bi b = 0 ↔ b = false := by cases b <;> simp [bi]
theorem bi_1 {b : Bool} : ¬ bi b = 0 ↔ b = true := by cases b <;> simp [bi]
theorem bi_nar (b : Bool) : narrow .boolean (.int (bi b)) = .int (bi b) := by cases b <;> rfl
theorem ac_st : Cond.static arraycopyName ∈ WW := inW 547 (by decide +kernel) (by decide +kernel)
theorem ac_na : Cond.native arraycopyName ∈ WW := inW 548 (by decide +kernel) (by decide +kernel)
theorem ac_in : Cond.initialized "java/lang/System" ∈ WW := inW 64 (by decide +kernel) (by decide +kernel)
theorem ac_X4_19 : Cond.methodLink RX4 19 arraycopyName ∈ WW := inW 546 (by decide +kernel) (by decide +kernel)
theorem ac_X2_27 : Cond.methodLink RX2 27 arraycopyName ∈ WW := inW 707 (by decide +kernel) (by decide +kernel)
theorem rI_ce {cy : Nat → ClassId} {adr : Nat → Nat} {M : Mem} {a : Nat} {f : Nat → Int32} : ∀ b, b ≠ a → ce cy adr (rI M a f) b = ce cy adr M b := fun b hb => ce_same (va_up_ne _ _ hb) rfl rfl rfl (fun _ => rfl)
theorem rJ_ce {cy : Nat → ClassId} {adr : Nat → Nat} {M : Mem} {a : Nat} {f : Nat → Int64} : ∀ b, b ≠ a → ce cy adr (rJ M a f) b = ce cy adr M b := fun b hb => ce_same rfl (va_up_ne _ _ hb) rfl rfl (fun _ => rfl)
section
variable {G : Cx} {own : String} {cc : ByteArray} {nL : Nat} {rt : Option FieldType} {Post : Option Value → Mem → Prop} {PostX : String → Mem → Prop} {n pc : Nat} {ls : List (Nat × Value)} {st : List Value} {M : Mem}
theorem w_copyC {idx a0 a m0 m1 : Nat} {sp dp c : Int32} (hw : Cond.methodLink own idx arraycopyName ∈ WW) (hF : Full M) (ha0 : AR 0 m0 a0) (ha : AR 0 m1 a) (q1 : ¬ sp < 0) (q2 : ¬ dp < 0) (q3 : ¬ c < 0) (q4 : sp.toNatClampNeg + c.toNatClampNeg ≤ m0) (q5 : dp.toNatClampNeg + c.toNatClampNeg ≤ m1) (hfit : ∀ i, i < c.toNatClampNeg → fits .char (.int (mI M a0 (sp.toNatClampNeg + i))) = true) (hd : 1 ≤ gd G) (h8 : (st.map fun v => v.category).sum ≤ 8) (d : decode cc pc = .ok (.invokestatic idx, 3))
    (kk : PW G own cc nL rt Post PostX n (pc + 3) ls st (rI M a (va_cpy (mI M a0) (mI M a) sp.toNatClampNeg dp.toNatClampNeg c.toNatClampNeg))) : PW G own cc nL rt Post PostX n pc ls (.int c :: .int dp :: .ref a :: .int sp :: .ref a0 :: st) M := by
  intro n0 H locs lsA cells slots ok h1 h2 hP hD hS hl
  have hR := ok.room
  have hnw : nativeFrameWords "java/lang/System" "arraycopy" 5 + 11 ≤ 50 := by decide +kernel
  refine va_copyi ok.hx ok.hb (by rw [ok.hml, hl.1]) ok.hown (ok.hts _ hw) (ok.hts _ ac_na) (ok.hts _ ac_st) (ok.hts _ ac_in) ok.hK hP hD hS a0 a 0 0 (c0 := gy G 0) (c1 := gy G 0) (n0 := m0) (n1 := m1) (f := mI M a0) (g := mI M a) (ty := .char) (by rw [Wd_at (by rw [hF.1]; exact ha0.1), ce_a ha0.2]; rfl) (by rw [Wd_at (by rw [hF.1]; exact ha.1), ce_a ha.2]; rfl) rfl rfl rfl q1 q2 q3 q4 q5 hfit (by rw [hR]; exact hd) (by rw [hR, cats]; simp only [rmm]; omega) d (fun H1 locs1 hP1 hD1 hS1 => ?_)
  have e : (Wd (gy G) (gr G) M).set a (gr G a, .inl (gy G 0, m1, .inl (va_cpy (mI M a0) (mI M a) sp.toNatClampNeg dp.toNatClampNeg c.toNatClampNeg))) = Wd (gy G) (gr G) (rI M a (va_cpy (mI M a0) (mI M a) sp.toNatClampNeg dp.toNatClampNeg c.toNatClampNeg)) := Wd_set (M := M) (M' := rI M a (va_cpy (mI M a0) (mI M a) sp.toNatClampNeg dp.toNatClampNeg c.toNatClampNeg)) (cy := gy G) (adr := gr G) rfl rI_ce (by
    rw [ce_a ha.2]
    have : mI (rI M a (va_cpy (mI M a0) (mI M a) sp.toNatClampNeg dp.toNatClampNeg c.toNatClampNeg)) a = va_cpy (mI M a0) (mI M a) sp.toNatClampNeg dp.toNatClampNeg c.toNatClampNeg := va_up_self _ _ _
    simp only [arow, this]
    rfl)
  rw [e] at hP1 hD1
  exact kk n0 H1 locs1 lsA cells slots ok h1 h2 hP1 hD1 hS1 hl
theorem w_copyL {idx a0 a m0 m1 : Nat} {sp dp c : Int32} (hw : Cond.methodLink own idx arraycopyName ∈ WW) (hF : Full M) (ha0 : AR 2 m0 a0) (ha : AR 2 m1 a) (q1 : ¬ sp < 0) (q2 : ¬ dp < 0) (q3 : ¬ c < 0) (q4 : sp.toNatClampNeg + c.toNatClampNeg ≤ m0) (q5 : dp.toNatClampNeg + c.toNatClampNeg ≤ m1) (hd : 1 ≤ gd G) (h8 : (st.map fun v => v.category).sum ≤ 8) (d : decode cc pc = .ok (.invokestatic idx, 3))
    (kk : PW G own cc nL rt Post PostX n (pc + 3) ls st (rJ M a (va_cpy (mJ M a0) (mJ M a) sp.toNatClampNeg dp.toNatClampNeg c.toNatClampNeg))) : PW G own cc nL rt Post PostX n pc ls (.int c :: .int dp :: .ref a :: .int sp :: .ref a0 :: st) M := by
  intro n0 H locs lsA cells slots ok h1 h2 hP hD hS hl
  have hR := ok.room
  have hnw : nativeFrameWords "java/lang/System" "arraycopy" 5 + 11 ≤ 50 := by decide +kernel
  refine va_copyl ok.hx ok.hb (by rw [ok.hml, hl.1]) ok.hown (ok.hts _ hw) (ok.hts _ ac_na) (ok.hts _ ac_st) (ok.hts _ ac_in) ok.hK hP hD hS a0 a 2 2 (c0 := gy G 2) (c1 := gy G 2) (n0 := m0) (n1 := m1) (f := mJ M a0) (g := mJ M a) (ty := .long) (by rw [Wd_at (by rw [hF.1]; exact ha0.1), ce_a ha0.2]; rfl) (by rw [Wd_at (by rw [hF.1]; exact ha.1), ce_a ha.2]; rfl) rfl rfl rfl q1 q2 q3 q4 q5 (fun _ _ => rfl) (by rw [hR]; exact hd) (by rw [hR, cats]; simp only [rmm]; omega) d (fun H1 locs1 hP1 hD1 hS1 => ?_)
  have e : (Wd (gy G) (gr G) M).set a (gr G a, .inl (gy G 2, m1, .inr (.inl (va_cpy (mJ M a0) (mJ M a) sp.toNatClampNeg dp.toNatClampNeg c.toNatClampNeg)))) = Wd (gy G) (gr G) (rJ M a (va_cpy (mJ M a0) (mJ M a) sp.toNatClampNeg dp.toNatClampNeg c.toNatClampNeg)) := Wd_set (M := M) (M' := rJ M a (va_cpy (mJ M a0) (mJ M a) sp.toNatClampNeg dp.toNatClampNeg c.toNatClampNeg)) (cy := gy G) (adr := gr G) rfl rJ_ce (by
    rw [ce_a ha.2]
    have : mJ (rJ M a (va_cpy (mJ M a0) (mJ M a) sp.toNatClampNeg dp.toNatClampNeg c.toNatClampNeg)) a = va_cpy (mJ M a0) (mJ M a) sp.toNatClampNeg dp.toNatClampNeg c.toNatClampNeg := va_up_self _ _ _
    simp only [arow, this]
    rfl)
  rw [e] at hP1 hD1
  exact kk n0 H1 locs1 lsA cells slots ok h1 h2 hP1 hD1 hS1 hl
end
section
variable {G : Cx} {own : String} {cc : ByteArray} {nL : Nat} {rt : Option FieldType} {Post : Option Value → Mem → Prop} {PostX : String → Mem → Prop} {n pc : Nat} {ls : List (Nat × Value)} {st : List Value} {M : Mem}
theorem w_ldcw {i : Nat} {v : Int32} (hw : Cond.constant own i v ∈ WW) (d : decode cc pc = .ok (.ldc_w i, 3)) (k : PW G own cc nL rt Post PostX n (pc + 3) ls (.int v :: st) M) : PW G own cc nL rt Post PostX n pc ls st M := fun n0 H locs lsA cells slots ok h1 h2 hP hD hS hl => lv_ldcw ok.1 ok.2.1 ok.2.2.2.2.1 (ok.2.2.2.2.2.1 _ hw) d (k n0 H locs lsA cells slots ok h1 h2 hP hD hS hl)
end
/-- a number below n, by its Nat -/
theorem lt_nat {x : Int32} (n : Nat) {N : Int32} (hN : nI n = N) (hn : n < 2 ^ 31) (h0 : ¬ x < 0) (h1 : x < N) : ∃ i, i < n ∧ x = nI i := by
  obtain ⟨j, hj, rfl⟩ := nI_of h0
  rw [← hN, nI_ltI hj hn] at h1
  exact ⟨j, h1, rfl⟩
/-! reading what was written -/
theorem mI_n {M : Mem} {a k b j : Nat} {v : Int32} (h : b ≠ a) : mI (sI M a k v) b j = mI M b j := if_neg (fun q => h q.1)
theorem mI_k {M : Mem} {a k b j : Nat} {v : Int32} (h : j ≠ k) : mI (sI M a k v) b j = mI M b j := if_neg (fun q => h q.2)
theorem mI_s {M : Mem} {a k : Nat} {v : Int32} : mI (sI M a k v) a k = v := if_pos ⟨rfl, rfl⟩
theorem mI_J {M : Mem} {a k : Nat} {v : Int64} : mI (sJ M a k v) = mI M := rfl
theorem mI_D {M : Mem} {a k : Nat} {v : UInt64} : mI (sD M a k v) = mI M := rfl
theorem mI_F {M : Mem} {k v : Nat} : mI (sF M k v) = mI M := rfl
theorem mI_rJ {M : Mem} {a : Nat} {f : Nat → Int64} : mI (rJ M a f) = mI M := rfl
theorem mI_rn {M : Mem} {a b : Nat} {f : Nat → Int32} (h : b ≠ a) : mI (rI M a f) b = mI M b := va_up_ne _ _ h
theorem mI_rs {M : Mem} {a : Nat} {f : Nat → Int32} : mI (rI M a f) a = f := va_up_self _ _ _
theorem mI_row {M : Mem} {a k b : Nat} {v : Int32} (h : b ≠ a) : mI (sI M a k v) b = mI M b := up2_row _ _ h
theorem mJ_n {M : Mem} {a k b j : Nat} {v : Int64} (h : b ≠ a) : mJ (sJ M a k v) b j = mJ M b j := if_neg (fun q => h q.1)
theorem mJ_k {M : Mem} {a k b j : Nat} {v : Int64} (h : j ≠ k) : mJ (sJ M a k v) b j = mJ M b j := if_neg (fun q => h q.2)
theorem mJ_s {M : Mem} {a k : Nat} {v : Int64} : mJ (sJ M a k v) a k = v := if_pos ⟨rfl, rfl⟩
theorem mJ_I {M : Mem} {a k : Nat} {v : Int32} : mJ (sI M a k v) = mJ M := rfl
theorem mJ_D {M : Mem} {a k : Nat} {v : UInt64} : mJ (sD M a k v) = mJ M := rfl
theorem mJ_F {M : Mem} {k v : Nat} : mJ (sF M k v) = mJ M := rfl
theorem mJ_rI {M : Mem} {a : Nat} {f : Nat → Int32} : mJ (rI M a f) = mJ M := rfl
theorem mJ_rn {M : Mem} {a b : Nat} {f : Nat → Int64} (h : b ≠ a) : mJ (rJ M a f) b = mJ M b := va_up_ne _ _ h
theorem mJ_rs {M : Mem} {a : Nat} {f : Nat → Int64} : mJ (rJ M a f) a = f := va_up_self _ _ _
theorem mJ_row {M : Mem} {a k b : Nat} {v : Int64} (h : b ≠ a) : mJ (sJ M a k v) b = mJ M b := up2_row _ _ h
theorem mF_I {M : Mem} {a k : Nat} {v : Int32} : mF (sI M a k v) = mF M := rfl
theorem mF_J {M : Mem} {a k : Nat} {v : Int64} : mF (sJ M a k v) = mF M := rfl
theorem mF_s {M : Mem} {k v : Nat} : mF (sF M k v) k = v := va_up_self _ _ _
theorem mF_n {M : Mem} {k j v : Nat} (h : j ≠ k) : mF (sF M k v) j = mF M j := va_up_ne _ _ h
/-- as con_of, for a class of which some methods are the machine's own (Math) -/
theorem con_ofF {l : Launch} {y : MethodName} {cc : ByteArray} {maxL d : Nat} {ret : Option FieldType} {pt : PT} (hl : l.stackTraces = false) (hy : plainFor y = true) (hX : ∀ as M Q X X', pt as M Q X → pt as M Q X') (hlen : ∀ as M Q X, pt as M Q X → (lg_sl as).length ≤ maxL)
    (h : ∀ (G : Cx) (as : List Value) (M : Mem) (Q : Option Value → Mem → Prop) (X : String → Mem → Prop), gl G = l → gt G = [] → gd G = d → pt as M Q X → PW G y.cls cc maxL ret Q X 0 0 (lv_args 0 as) [] M) (htab : ∀ (args : Array Value) (s : State) (m : MethodId) (meth : Method) (c : Code), (Cond.code y cc maxL ret).before args s = true → s.methodNamed? y = some m → s.vm.method? m = some meth → meth.code = some c → c.exceptionTable.toList = []) : Con l y (Cond.code y cc maxL ret) 0 d pt := by
  intro D cy adr M as Q X sz hpt
  have hpt' := hX as M Q X (fun _ _ => False) hpt
  have hM : Met l y (Cond.code y cc maxL ret :: WW) (rmm d 0) (va_Pc (as.map (tv adr)) (Pre D cy adr M sz)) (Qn D cy (fun a => a = adr) (AA adr (mN M) sz) Q) 0 (6 * 0) (AA adr (mN M) sz) := by
    refine va_MetF (cc := cc) (maxL := maxL) (ret := ret) hy rfl ?_
    intro p e s m args below meth c s₁ B hml hv
    obtain ⟨rfl, hsz, hP, hK, hD, hB⟩ := hv
    subst hsz
    have hts := atoms_spec (ws := Cond.code y cc maxL ret :: WW) B.pre
    have hlen' := hlen as M Q X hpt
    have hsl : ∀ vs : List Value, (lg_sl (vs.map (tv adr))).length = (lg_sl vs).length := by
      intro vs
      induction vs with
      | nil => rfl
      | cons v vs ih =>
        simp only [lg_sl, List.map_cons, List.flatMap_cons, List.length_append] at ih ⊢
        rw [ih, tv_cat]
        split <;> rfl
    have hargs : ∀ (vs : List Value) (i : Nat), lv_args i (vs.map (tv adr)) = lt adr (lv_args i vs) := by
      intro vs
      induction vs with
      | nil => intro i; rfl
      | cons v vs ih =>
        intro i
        simp only [List.map_cons, lv_args, lt, tv_cat] at ih ⊢
        rw [ih]
    have hl2 := lv_entry (as.map (tv adr)) (n := maxL) (by rw [hsl]; exact hlen')
    rw [lg_entry_eq]
    generalize (lg_sl (as.map (tv adr)) ++ List.replicate (maxL - (lg_sl (as.map (tv adr))).length) Slot.unset).toArray = lsA at hl2 ⊢
    rw [hargs] at hl2
    let G : Cx := ((p, l, e, rmm d 0, s, m, (as.map (tv adr)).toArray, below, meth, c), (D, cy, adr, (fun a => a = adr), AA adr (mN M) s.heap.size, d, []))
    have tab0 : c.exceptionTable.toList = [] := htab _ s m meth c (hts _ List.mem_cons_self) B.named B.method (Stand.of_body B).code
    have ok : Ok G y.cls cc maxL ret 0 := ⟨B.exec, B.bytes, hml, B.returns, findClass_of_methodNamed B.named, fun w hw => hts w (List.mem_cons_of_mem _ hw), B.notSynchronized, hK, hB, hl, rfl, rfl, fun q hq => Or.inr hq, tab0⟩
    have hw := h G as M Q (fun _ _ => False) rfl rfl rfl hpt' 0 s.heap [] lsA 0 0 ok (by omega) (by omega) hP hD va_S.rf hl2
    intro T hT Xs
    obtain ⟨t, st, o, z1, z2, z3⟩ := hw T hT Xs
    refine ⟨t, st, o, z1, z2, ?_⟩
    rcases z3 with z3 | ⟨q, -, E, ce, L, hx, -⟩
    · exact z3
    · obtain ⟨⟨_, _, _, hx, _⟩, _⟩ := hx
      exact hx.elim
  intro p e ha hc hk s m args below hf happ hP hK
  obtain ⟨kk, o, h1, h2, h3, hq⟩ := hM p e ha hc hk s m args below hf happ hP hK
  exact ⟨kk, o, h1, h2, h3, Or.inl hq⟩
theorem tab_none {y : MethodName} {cc : ByteArray} {maxL : Nat} {ret : Option FieldType} : ∀ (args : Array Value) (s : State) (m : MethodId) (meth : Method) (c : Code), (Cond.code y cc maxL ret).before args s = true → s.methodNamed? y = some m → s.vm.method? m = some meth → meth.code = some c → c.exceptionTable.toList = [] := by
  intro args s m meth c h hn hm hc
  obtain ⟨meth', c', h1, h2, -, -, -, -, h7, -⟩ := Cond.code_spec hn h
  cases h1.symm.trans hm
  cases h2.symm.trans hc
  simpa using h7
/-- locals by what they answer -/
def allLk (ls : List (Nat × Value)) : List (Nat × Value) → Prop
  | [] => True
  | q :: r => lk ls q.1 = some q.2 ∧ allLk ls r
theorem allLk_mem {ls : List (Nat × Value)} : ∀ (ls' : List (Nat × Value)), allLk ls ls' → ∀ q ∈ ls', q ∈ ls
  | [], _, q, h => by cases h
  | x :: r, hh, q, h => by
    rcases List.mem_cons.mp h with rfl | h
    · exact lk_mem ls q.1 q.2 hh.1
    · exact allLk_mem r hh.2 q h
theorem w_ls {G : Cx} {own : String} {cc : ByteArray} {nL : Nat} {rt : Option FieldType} {Post : Option Value → Mem → Prop} {PostX : String → Mem → Prop} {n pc : Nat} {ls ls' : List (Nat × Value)} {st : List Value} {M : Mem} (h : allLk ls ls') (k : PW G own cc nL rt Post PostX n pc ls' st M) : PW G own cc nL rt Post PostX n pc ls st M := fun n0 H locs lsA cells slots ok h1 h2 hP hD hS hl =>
  k n0 H locs lsA cells slots ok h1 h2 hP hD hS ⟨hl.1, hl.2.1, fun q hq => by
    obtain ⟨q0, hq0, rfl⟩ := List.mem_map.mp hq
    exact hl.2.2 _ (List.mem_map.mpr ⟨q0, allLk_mem ls' h q0 hq0, rfl⟩)⟩
/-! indices -/
def ix (x : Int32) (n : Nat) : Prop := ∃ i : Nat, i < n ∧ x = nI i
theorem ix_no {x : Int32} {n : Nat} {N : Int32} (hN : nI n = N) (hn : n < 2 ^ 31) (h : x < 0 ∨ ¬ x < N) : ¬ ix x n := by
  rintro ⟨i, hi, rfl⟩
  rw [← hN, nI_ltI (by omega) hn] at h
  rcases h with h | h
  · exact nI_pos (by omega) h
  · exact h hi
theorem in_t {y lo hi : Int32} {LO HI : Int64} (hlo : lo.toInt64 = LO) (hhi : hi.toInt64 = HI) (h : ¬ bi (decide (¬ y.toInt64 < LO) && decide (¬ HI < y.toInt64)) = 0) : ¬ y < lo ∧ ¬ hi < y := by
  rw [bi_1, Bool.and_eq_true, decide_eq_true_eq, decide_eq_true_eq, ← hlo, ← hhi, Int64.lt_iff_toInt_lt, Int64.lt_iff_toInt_lt] at h
  rw [Int32.lt_iff_toInt_lt, Int32.lt_iff_toInt_lt]
  simpa using h
theorem in_f {y lo hi : Int32} {LO HI : Int64} (hlo : lo.toInt64 = LO) (hhi : hi.toInt64 = HI) (h : bi (decide (¬ y.toInt64 < LO) && decide (¬ HI < y.toInt64)) = 0) : y < lo ∨ hi < y := by
  rw [bi_0, ← hlo, ← hhi, Bool.and_eq_false_iff, decide_eq_false_iff_not, decide_eq_false_iff_not, Int64.lt_iff_toInt_lt, Int64.lt_iff_toInt_lt] at h
  rw [Int32.lt_iff_toInt_lt, Int32.lt_iff_toInt_lt]
  simp only [Int32.toInt_toInt64] at h
  omega
theorem ix_in {x : Int32} {n : Nat} {N : Int32} (hN : nI n = N) (hn : n + 1 < 2 ^ 31) (h : ¬ x < 0 ∧ ¬ N < x) : ∃ i, i < n + 1 ∧ x = nI i := by
  obtain ⟨j, hj, rfl⟩ := nI_of h.1
  have h1 := h.2
  rw [← hN, nI_ltI (by omega) hj] at h1
  exact ⟨j, by omega, rfl⟩
theorem ix_out {x : Int32} {n : Nat} {N : Int32} (hN : nI n = N) (hn : n + 1 < 2 ^ 31) (h : x < 0 ∨ N < x) : ¬ ix x (n + 1) := by
  rintro ⟨i, hi, rfl⟩
  rw [← hN, nI_ltI (by omega) (by omega)] at h
  rcases h with h | h
  · exact nI_pos (by omega) h
  · omega
theorem vin {i n : Nat} (h : i < n) (hn : n < 2 ^ 31) : vp_in (nI i) n := vp_in_nI h hn
theorem clN {i : Nat} (h : i < 2 ^ 31) : (nI i).toNatClampNeg = i := nI_clamp h
theorem cm3 (i k : Nat) : (3 : Int32) * nI i + nI k = nI (3 * i + k) := by rw [show (3 : Int32) = nI 3 from rfl, pk_mul, nI_add]
theorem cm4 (i k : Nat) : (4 : Int32) * nI i + nI k = nI (4 * i + k) := by rw [show (4 : Int32) = nI 4 from rfl, pk_mul, nI_add]
theorem cm12 (i k : Nat) : (12 : Int32) * nI i + nI k = nI (12 * i + k) := by rw [show (12 : Int32) = nI 12 from rfl, pk_mul, nI_add]
theorem cm24 (i k : Nat) : (24 : Int32) * nI i + nI k = nI (24 * i + k) := by rw [show (24 : Int32) = nI 24 from rfl, pk_mul, nI_add]
theorem cm48 (i k : Nat) : (48 : Int32) * nI i + nI k = nI (48 * i + k) := by rw [show (48 : Int32) = nI 48 from rfl, pk_mul, nI_add]
theorem c4 (i : Nat) : (4 : Int32) * nI i = nI (4 * i) := by rw [show (4 : Int32) = nI 4 from rfl, pk_mul]
theorem c24 (i : Nat) : (24 : Int32) * nI i = nI (24 * i) := by rw [show (24 : Int32) = nI 24 from rfl, pk_mul]
theorem sb1 {a : Nat} (h : 1 ≤ a) : nI a - 1 = nI (a - 1) := by rw [show (1 : Int32) = nI 1 from rfl, pk_sub h]
theorem in_t' {y : Int64} {LO HI : Int64} (h : ¬ bi (decide (¬ y < LO) && decide (¬ HI < y)) = 0) : ¬ y < LO ∧ ¬ HI < y := by
  rw [bi_1, Bool.and_eq_true, decide_eq_true_eq, decide_eq_true_eq] at h
  exact h
theorem in_f' {y : Int64} {LO HI : Int64} (h : bi (decide (¬ y < LO) && decide (¬ HI < y)) = 0) : y < LO ∨ HI < y := by
  rw [bi_0, Bool.and_eq_false_iff, decide_eq_false_iff_not, decide_eq_false_iff_not] at h
  rcases h with h | h
  · exact Or.inl (Classical.not_not.mp h)
  · exact Or.inr (Classical.not_not.mp h)
theorem lkn {ls : List (Nat × Value)} : allLk ls [] := trivial
theorem lkc {ls : List (Nat × Value)} {q : Nat × Value} {r : List (Nat × Value)} (h : lk ls q.1 = some q.2) (t : allLk ls r) : allLk ls (q :: r) := ⟨h, t⟩
theorem w_lk {G : Cx} {own : String} {cc : ByteArray} {nL : Nat} {rt : Option FieldType} {Post : Option Value → Mem → Prop} {PostX : String → Mem → Prop} {n pc : Nat} {ls ls' : List (Nat × Value)} {st : List Value} {M : Mem} (k : PW G own cc nL rt Post PostX n pc ls' st M) (h : allLk ls ls') : PW G own cc nL rt Post PostX n pc ls st M := w_ls h k
