/-! FIELDS OF OBJECTS IN THE MAKING; CONSTRUCTORS -/
theorem oi_in : Cond.instanceMethod Lib.objectInit ∈ WW := (inW 74 (by decide +kernel) (by decide +kernel))
theorem oi_co : Cond.code Lib.objectInit ⟨#[0xb1]⟩ 1 none ∈ WW := (inW 75 (by decide +kernel) (by decide +kernel))
section
variable {G : Cx} {own : String} {cc : ByteArray} {nL : Nat} {rt : Option FieldType} {Post : Option Value → Mem → Prop} {PostX : String → Mem → Prop} {nn pc : Nat} {ls : List (Nat × Value)} {st : List Value} {M : Mem} {n t : Nat} {Z : Nat → Nat → Bool} {F : Nat → Nat}
theorem k_obj {idx a : Nat} (hw : Cond.methodLink own idx Lib.objectInit ∈ WW) (hd : 1 ≤ gd G) (h8 : (st.map fun v => v.category).sum ≤ 8) (d : decode cc pc = .ok (.invokespecial idx, 3)) (kk : PW G own cc nL rt Post PostX nn (pc + 3) ls st M) : PW G own cc nL rt Post PostX nn pc ls (.ref a :: st) M := by
  intro n0 H locs lsA cells slots ok h1 h2 hP hD hS hl
  have hR := ok.room
  have hroom : 2 * (F0 (gm G) pc lsA ((Value.ref a :: st).map (tv (gr G)))).monitorRoom + ((st.map (tv (gr G))).map fun v => v.category).sum ≤ 8 := lv_room (by rw [cats]; exact h8)
  exact W.objInit (g := F0 (gm G) pc lsA ((Value.ref a :: st).map (tv (gr G)))) ok.hx ok.hb ok.hown (ok.hts _ hw) (ok.hts _ oi_in) (ok.hts _ oi_co) rfl (by rw [ok.hml]; exact hl.1) (a := gr G a) (rest := st.map (tv (gr G))) rfl d (by rw [hR]; exact hd) (by rw [hR]; simp only [rmm]; omega) (kk n0 H locs lsA cells slots ok h1 h2 hP hD hS hl)
theorem k_put0 {idx ci k a : Nat} {ty : FieldType} (fp : FP own idx ci k ty) (ha : a < n) (hs : sh a = .inr ci) (hk : (ksOf ci)[k]? = some 0) (hz : tI t a k = 0) (hn : narrow ty (.int 0) = .int 0) (hf : fits ty (.int 0) = true) (d : decode cc pc = .ok (.putfield idx, 3)) (kk : PW G own cc nL rt Post PostX nn (pc + 3) ls st (KM n Z F t)) : PW G own cc nL rt Post PostX nn pc ls (.int 0 :: .ref a :: st) (KM n Z F t) :=
  w_put (v := .int 0) (M' := KM n Z F t) fp ha hs hk rfl (by show Value.int (tI t a k) = _; rw [hz]; rfl) (fun _ _ _ _ => rfl) (fun _ _ => rfl) hn hf d kk
theorem k_put0J {idx ci k a : Nat} (fp : FP own idx ci k .long) (ha : a < n) (hs : sh a = .inr ci) (hk : (ksOf ci)[k]? = some 1) (d : decode cc pc = .ok (.putfield idx, 3)) (kk : PW G own cc nL rt Post PostX nn (pc + 3) ls st (KM n Z F t)) : PW G own cc nL rt Post PostX nn pc ls (.long 0 :: .ref a :: st) (KM n Z F t) :=
  w_put (v := .long 0) (M' := KM n Z F t) fp ha hs hk rfl rfl (fun _ _ _ _ => rfl) (fun _ _ => rfl) rfl rfl d kk
theorem k_tot0 {idx : Nat} (fp : FP own idx 5 9 .int) (ha : 0 < n) (d : decode cc pc = .ok (.putfield idx, 3)) (kk : PW G own cc nL rt Post PostX nn (pc + 3) ls st (KM n Z F 1)) : PW G own cc nL rt Post PostX nn pc ls (.int 11 :: .ref 0 :: st) (KM n Z F 0) := by
  refine w_put (v := .int 11) (M' := KM n Z F 1) fp ha rfl rfl rfl rfl (fun j q hj _ => ?_) (fun b hb => ce_same (funext fun j => ?_) rfl rfl rfl (fun _ => rfl)) rfl rfl d kk
  · match q with
    | 0 =>
      show Value.int (tI 1 0 j) = Value.int (tI 0 0 j)
      unfold tI
      rw [if_neg (by omega), if_neg (by omega)]
    | 1 => rfl
    | 2 => rfl
    | (q + 3) => rfl
  · show tI 1 b j = tI 0 b j
    unfold tI
    rw [if_neg (by omega), if_neg (by omega)]
theorem k_tot1 {idx : Nat} (fp : FP own idx 6 8 .int) (ha : 96 < n) (d : decode cc pc = .ok (.putfield idx, 3)) (kk : PW G own cc nL rt Post PostX nn (pc + 3) ls st (KM n Z F 2)) : PW G own cc nL rt Post PostX nn pc ls (.int 11 :: .ref 96 :: st) (KM n Z F 1) := by
  refine w_put (v := .int 11) (M' := KM n Z F 2) fp ha rfl rfl rfl rfl (fun j q hj _ => ?_) (fun b hb => ce_same (funext fun j => ?_) rfl rfl rfl (fun _ => rfl)) rfl rfl d kk
  · match q with
    | 0 =>
      show Value.int (tI 2 96 j) = Value.int (tI 1 96 j)
      unfold tI
      rw [if_neg (by omega), if_neg (by omega)]
    | 1 => rfl
    | 2 => rfl
    | (q + 3) => rfl
  · show tI 2 b j = tI 1 b j
    unfold tI
    by_cases h0 : b = 0 ∧ j = 9
    · rw [if_pos (by omega), if_pos (by omega)]
    · rw [if_neg (by omega), if_neg (by omega)]
theorem w_putFin {idx ci k a q : Nat} {v : Value} {M' : Mem} {ty : FieldType} (fp : FPF own idx ci k ty) (hnm : (gh G).name = "<init>") (ha : a < mN M) (hs : sh a = .inr ci) (hk : (ksOf ci)[k]? = some q) (hN : mN M' = mN M) (hv : fv (gr G) M' a k q = tv (gr G) v) (ho : ∀ j q', j ≠ k → (ksOf ci)[j]? = some q' → fv (gr G) M' a j q' = fv (gr G) M a j q') (hc : ∀ b, b ≠ a → ce (gy G) (gr G) M' b = ce (gy G) (gr G) M b)
    (hn : narrow ty (tv (gr G) v) = tv (gr G) v) (hf : fits ty (tv (gr G) v) = true) (d : decode cc pc = .ok (.putfield idx, 3)) (kk : PW G own cc nL rt Post PostX nn (pc + 3) ls st M') : PW G own cc nL rt Post PostX nn pc ls (v :: .ref a :: st) M := by
  intro n0 H locs lsA cells slots ok h1 h2 hP hD hS hl
  obtain ⟨⟨C, T, N⟩, hr, hkr, hw, hu, hfin, hdecl, hpd, ⟨ty0, hty⟩, hnm2⟩ := fp
  have hlen : k < (flds (gr G) M a (ksOf ci) 0).length := by rw [flds_len]; exact (List.getElem?_eq_some_iff.mp hk).1
  refine va_putF (D := gD G) (ci := ci) (v := tv (gr G) v) (ty := ty) (C := C) (T := T) (N := N) ok.hx ok.hb ok.hts hu ty0 hty hnm2 ok.hown ok.hK hP hD hS a (fs := flds (gr G) M a (ksOf ci) 0) (by rw [Wd_at ha, ce_o hs]) hr k hkr (ok.hts _ hw) (fun _ h => h) hfin hnm hdecl hpd hn hf hlen d (fun H1 locs1 hP1 hD1 hS1 => ?_)
  have e : (Wd (gy G) (gr G) M).set a (gr G a, .inr (ci, (flds (gr G) M a (ksOf ci) 0).set k (tv (gr G) v))) = Wd (gy G) (gr G) M' := Wd_set hN hc (by rw [ce_o hs, flds_set hk hv ho])
  rw [e] at hP1 hD1
  exact kk n0 H1 locs1 lsA cells slots ok h1 h2 hP1 hD1 hS1 hl
theorem Z_ce {cy : Nat → ClassId} {adr : Nat → Nat} {a k b : Nat} (hb : b ≠ a) : ce cy adr (KM n (up2 Z a k true) F t) b = ce cy adr (KM n Z F t) b := ce_same rfl rfl rfl (up2_row _ _ hb) (fun _ => rfl)
theorem k_putR {idx ci k a b : Nat} {ty : FieldType} (fp : FPF own idx ci k ty) (hnm : (gh G).name = "<init>") (ha : a < n) (hs : sh a = .inr ci) (hk : (ksOf ci)[k]? = some 2) (hb : rf a k = b) (hn : narrow ty (.ref (gr G b)) = .ref (gr G b)) (hf : fits ty (.ref (gr G b)) = true) (d : decode cc pc = .ok (.putfield idx, 3)) (kk : PW G own cc nL rt Post PostX nn (pc + 3) ls st (KM n (up2 Z a k true) F t)) : PW G own cc nL rt Post PostX nn pc ls (.ref b :: .ref a :: st) (KM n Z F t) := by
  refine w_putFin (v := .ref b) (M' := KM n (up2 Z a k true) F t) fp hnm ha hs hk rfl ?_ (fun j q hj _ => ?_) (fun c hc => Z_ce hc) hn hf d kk
  · show (bif up2 Z a k true a k then Value.ref (gr G (rf a k)) else .null) = .ref (gr G b)
    rw [up2_s, hb]
    rfl
  · match q with
    | 0 => rfl
    | 1 => rfl
    | 2 => show (bif up2 Z a k true a j then Value.ref (gr G (rf a j)) else .null) = bif Z a j then Value.ref (gr G (rf a j)) else .null; rw [up2_n _ _ (fun z => hj z.2)]
    | (q + 3) => show (bif up2 Z a k true a j then Value.ref (gr G (F j)) else .null) = bif Z a j then Value.ref (gr G (F j)) else .null; rw [up2_n _ _ (fun z => hj z.2)]
theorem k_putF {idx k b : Nat} {ty : FieldType} (fp : FP own idx 1 k ty) (ha : 7 < n) (hk : (ksOf 1)[k]? = some 3) (hn : narrow ty (.ref (gr G b)) = .ref (gr G b)) (hf : fits ty (.ref (gr G b)) = true) (d : decode cc pc = .ok (.putfield idx, 3)) (kk : PW G own cc nL rt Post PostX nn (pc + 3) ls st (KM n (up2 Z 7 k true) (va_up F k b) t)) : PW G own cc nL rt Post PostX nn pc ls (.ref b :: .ref 7 :: st) (KM n Z F t) := by
  refine w_put (v := .ref b) (M' := KM n (up2 Z 7 k true) (va_up F k b) t) fp ha rfl hk rfl ?_ (fun j q hj _ => ?_) (fun c hc => ce_same rfl rfl rfl (up2_row _ _ hc) (fun h => absurd (sh_calc h) hc)) hn hf d kk
  · show (bif up2 Z 7 k true 7 k then Value.ref (gr G (va_up F k b k)) else .null) = .ref (gr G b)
    rw [up2_s, va_up_self]
    rfl
  · match q with
    | 0 => rfl
    | 1 => rfl
    | 2 => show (bif up2 Z 7 k true 7 j then Value.ref (gr G (rf 7 j)) else .null) = bif Z 7 j then Value.ref (gr G (rf 7 j)) else .null; rw [up2_n _ _ (fun z => hj z.2)]
    | (q + 3) => show (bif up2 Z 7 k true 7 j then Value.ref (gr G (va_up F k b j)) else .null) = bif Z 7 j then Value.ref (gr G (F j)) else .null; rw [up2_n _ _ (fun z => hj z.2), va_up_ne _ _ hj]
theorem k_getR {idx ci k a b : Nat} (fl : FL own idx ci k) (ha : a < n) (hs : sh a = .inr ci) (hk : (ksOf ci)[k]? = some 2) (hZ : Z a k = true) (hb : rf a k = b) (d : decode cc pc = .ok (.getfield idx, 3)) (kk : PW G own cc nL rt Post PostX nn (pc + 3) ls (.ref b :: st) (KM n Z F t)) : PW G own cc nL rt Post PostX nn pc ls (.ref a :: st) (KM n Z F t) :=
  w_get (M := KM n Z F t) (v := .ref b) fl ha hs hk (by show (bif Z a k then Value.ref (gr G (rf a k)) else .null) = .ref (gr G b); rw [hZ, hb]; rfl) d kk
theorem k_aast {a b m tt ci : Nat} {i : Int32} {j : Nat} (hrt : ∃ r : vw_C, vwCl[ci]? = some r ∧ (tt, r.1) ∈ [(5, "FormOffice$Account"), (6, "FormOffice$Return"), (7, "FormOffice$Table"), (8, "FormOffice$Text")]) (ha : a < n) (hb : b < n) (hs : sh a = .inl (tt, m)) (hsb : sh b = .inr ci) (hi : i = nI j) (hj : j < m) (hm : m < 1000) (hrf : rf a j = b) (d : decode cc pc = .ok (.aastore, 1)) (kk : PW G own cc nL rt Post PostX nn (pc + 1) ls st (KM n (up2 Z a j true) F t)) : PW G own cc nL rt Post PostX nn pc ls (.ref b :: .int i :: .ref a :: st) (KM n Z F t) := by
  intro n0 H locs lsA cells slots ok h1 h2 hP hD hS hl
  obtain ⟨r, hr, htt⟩ := hrt
  subst hi
  have har : ∀ Z' : Nat → Nat → Bool, arow (gr G) (KM n Z' F t) a tt = .inr (.inr (.inr (.inr (fun k => bif Z' a k then some (gr G (rf a k)) else none)))) := fun Z' => by
    unfold arow
    simp only [List.mem_cons, Prod.mk.injEq, List.not_mem_nil, or_false] at htt
    rw [if_neg (by omega), if_neg (by omega), if_neg (by omega)]
    rfl
  have hty : (tysOf (gy G))[tt]? = some (gy G tt, .object r.1) := by
    simp only [List.mem_cons, Prod.mk.injEq, List.not_mem_nil, or_false] at htt
    rcases htt with ⟨rfl, e⟩ | ⟨rfl, e⟩ | ⟨rfl, e⟩ | ⟨rfl, e⟩ <;> (rw [e]; rfl)
  refine va_astq ok.hx ok.hb ok.hK hP hD hS a tt b ci (cA := gy G tt) (r := r) (n := m) (v := gr G b) (vs := flds (gr G) (KM n Z F t) b (ksOf ci) 0) (f := fun k => bif Z a k then some (gr G (rf a k)) else none) (by rw [Wd_at ha, ce_a hs, har]) hty (by rw [Wd_at hb, ce_o hsb]) hr (vin hj (by omega)) d (fun H1 locs1 hP1 hD1 hS1 => ?_)
  have e : (Wd (gy G) (gr G) (KM n Z F t)).set a (gr G a, .inl (gy G tt, m, .inr (.inr (.inr (.inr (va_up (fun k => bif Z a k then some (gr G (rf a k)) else none) (nI j).toNatClampNeg (some (gr G b)))))))) = Wd (gy G) (gr G) (KM n (up2 Z a j true) F t) := by
    refine Wd_set (M := KM n Z F t) (M' := KM n (up2 Z a j true) F t) rfl (fun c hc => Z_ce hc) ?_
    rw [ce_a hs, har, clN (by omega)]
    congr 7
    funext k
    by_cases hk : k = j
    · subst hk
      rw [up2_s, va_up_self, hrf]
      rfl
    · rw [up2_n _ _ (fun z => hk z.2), va_up_ne _ _ hk]
  rw [e] at hP1 hD1
  exact kk n0 H1 locs1 lsA cells slots ok h1 h2 hP1 hD1 hS1 hl
/-- behind a constructor: new objects stand -/
theorem run_toI {k n' n0 : Nat} {Q : Option Value → Mem → Prop} {H : Heap} {locs : List Loc} {lsA : Array Slot} {cells slots : Nat} {stk : List Value} {a0 : Array Value} (ok : Ok G own cc nL rt n0)
    (hrun : va_Run (gp G) (gl G) (ge G) (gR G) (gs G) (gm G) (ga G) (gb G) (gh G) (gc G) H locs cells slots k (6 * k) (F0 (gm G) pc lsA stk) (st.map (tv (gr G))) (Qn (gD G) (gy G) (Ext (gr G) (mN M)) (AA (gr G) (mN M) H.size) Q a0) (AA (gr G) (mN M) H.size))
    (hD : va_D (gA G) (Wd (gy G) (gr G) M)) (hS : va_S (gA G) (gs G).heap H locs) (hl : lv_has lsA nL (lt (gr G) ls)) (h1 : cells + nn ≤ n0) (h2 : slots + 6 * nn ≤ 6 * n0) (hn : n' + k ≤ nn) (hE : ∀ b, Ext (gr G) (mN M) b → gE G b) (hls : okL (mN M) ls) (hst : okS (mN M) st)
    (hQ : ∀ b r M', Q r M' → PW (setr G b) own cc nL rt Post PostX n' (pc + 3) ls (r.toList ++ st) M') : Wg G H locs cells slots (Zn G Post PostX n0) (F0 (gm G) pc lsA stk) := by
  intro T hT Xs
  have hA := AA_in ok.hA hD hS
  obtain ⟨v, st0, t, T', L, e0, X', hL, e1, e2, hq, go⟩ := hrun T hT Xs
  obtain ⟨⟨b, r, M', hEb, hr, hpost, hP', hD'⟩, hF⟩ := hq
  obtain ⟨hsz, hkeep, hS'⟩ := vx_keep e0 e1 hS (fun q _ h => hA q h) hA hL hF
  have hv : v = r.map (tv b) := Outcome.returned.inj hr
  subst hv
  obtain ⟨tt, stt, hz⟩ := hQ b r M' hpost n0 T'.heap (locs ++ L) lsA (cells + k) (slots + 6 * k) (ok.setr (hE b hEb)) (by omega) (by omega) (by rw [e1]; exact hP') (hD'.weaken (fun _ _ _ h => hA _ h)) hS' (by
    show lv_has lsA nL (lt b ls)
    rw [lt_ext hEb ls hls]
    exact hl) T' rfl X'
  refine ⟨tt, go _ ?_, hz⟩
  have e : (r.map (tv b)).toList ++ st.map (tv (gr G)) = (r.toList ++ st).map (tv b) := by
    rw [List.map_append, st_ext hEb st hst]
    cases r <;> rfl
  have e2 : ({ F0 (gm G) pc lsA stk with pc := (F0 (gm G) pc lsA stk).pc + 3, stack := (r.map (tv b)).toList ++ st.map (tv (gr G)) } : JFrame) = F0 (gm G) (pc + 3) lsA ((r.toList ++ st).map (tv b)) := by rw [e]
  rw [e2]
  exact stt
/-- the contract of a constructor -/
def ConI (l : Launch) (y : MethodName) (cw : Cond) (k d : Nat) (pt : PT) : Prop :=
  ∀ (D : va_G) (cy : Nat → ClassId) (adr : Nat → Nat) (M : Mem) (as : List Value) (Q : Option Value → Mem → Prop) (sz : Nat), pt as M Q (fun _ _ => False) →
    Met l y (cw :: WW) (rmm d k) (va_Pc (as.map (tv adr)) (fun U => Pre D cy adr M sz U ∧ AoAll U)) (Qn D cy (Ext adr (mN M)) (AA adr (mN M) sz) Q) k (6 * k) (AA adr (mN M) sz)
def CIv (own : String) (idx : Nat) (y : MethodName) (cw : Cond) : Prop := ∃ (bytes : ByteArray) (maxL : Nat), cw = Cond.code y bytes maxL none ∧ maxL ≤ 40 ∧ y.name = "<init>" ∧ (y.cls ≠ "java/lang/invoke/MethodHandle" ∧ y.cls ≠ "java/lang/invoke/VarHandle" ∧ (parseMethodDescriptor y.desc).map (fun d => d.parameters.length) = some 0) ∧
  Cond.methodLink own idx y ∈ WW ∧ Cond.instanceMethod y ∈ WW ∧ Cond.initialized y.cls ∈ WW ∧ cw ∈ WW
def CIn (own : String) (idx : Nat) (y : MethodName) (cw : Cond) : Prop := ∃ (bytes : ByteArray) (maxL : Nat), cw = Cond.code y bytes maxL none ∧ maxL ≤ 40 ∧ y.name = "<init>" ∧ (y.cls ≠ "java/lang/invoke/MethodHandle" ∧ y.cls ≠ "java/lang/invoke/VarHandle" ∧ (parseMethodDescriptor y.desc).map (fun d => d.parameters.length) = some 0) ∧
  (own, idx, y) ∈ nests ∧ Cond.instanceMethod y ∈ WW ∧ Cond.initialized y.cls ∈ WW ∧ cw ∈ WW
theorem pre_blI {D : va_G} {cy : Nat → ClassId} {adr : Nat → Nat} {sz : Nat} {av : List Value} : FrameBlind (va_Pc av (fun U => Pre D cy adr M sz U ∧ AoAll U)) := by
  intro a U g mk h
  obtain ⟨q0, q1, q2⟩ := h
  have hb := Pre.blind (D := D) (cy := cy) (adr := adr) (M := M) (sz := sz) (av := av) a U g mk ⟨q0, q1⟩
  exact ⟨hb.1, hb.2, q2.moved (Vm.Alike.refl U.vm)⟩
theorem k_callI {y : MethodName} {cw : Cond} {k d0 idx n' b m0 : Nat} {pt : PT} {Q : Option Value → Mem → Prop} (hC : ConI (gl G) y cw k d0 pt) (ci : CIv own idx y cw) (hAo : AoAll (gs G)) (hd : d0 + 1 ≤ gd G) (hn : n' + k ≤ nn) (h8 : (st.map fun v => v.category).sum ≤ 8) (hcl : ∀ a b, gE G a → Ext a m0 b → gE G b) (hm : m0 ≤ mN M) (hls : okL (mN M) ls) (hst : okS (mN M) st) (d : decode cc pc = .ok (.invokespecial idx, 3))
    (hpt : pt [.ref b] M Q (fun _ _ => False)) (hQ : ∀ b r M', Q r M' → PW (setr G b) own cc nL rt Post PostX n' (pc + 3) ls (r.toList ++ st) M') : PW G own cc nL rt Post PostX nn pc ls (.ref b :: st) M := by
  intro n0 H locs lsA cells slots ok h1 h2 hP hD hS hl
  obtain ⟨bytes, maxL, rfl, hmax, hnm, hy, w1, w2, w4, w5⟩ := ci
  have hM := hC (gD G) (gy G) (gr G) M [.ref b] Q H.size hpt
  have hR := ok.room
  have cwf := cwI (R := gR G) (s := gs G) (args := ga G) (own := own) (index := idx) (y := y) (bytes := bytes) (maxL := maxL) (mc := k) (ms := 6 * k) (rm := rmm d0 k) (ws := Cond.code y bytes maxL none :: WW) 0 ok.hts (good_c w5 [] (fun _ h => by cases h)) rfl rfl rfl (ok.hts _ w4) (ok.hts _ w1) (ok.hts _ w2) hnm hy (by rw [hR]; simp only [rmm]; constructor <;> omega)
  have hp : PreS (gs G) H (va_Pc (([.ref b] : List Value).map (tv (gr G))) (fun U => Pre (gD G) (gy G) (gr G) M H.size U ∧ AoAll U)) (.ref (gr G b) :: []) :=
    ⟨pre_blI, fun U hU hW => ⟨rfl, Pre.of ok hP hD hS hU hW, hAo.moved hW.alike⟩⟩
  have hrun := va_runI (p := gp G) (e := ge G) (below := gb G) (meth := gh G) (locs := locs) (cells := cells) (slots := slots) (g := F0 (gm G) pc lsA ((Value.ref b :: st).map (tv (gr G)))) (rest := st.map (tv (gr G))) (As := []) (b := gr G b) ⟨ok.hx, ok.hb, ok.hml, ok.hown, ok.hts⟩ hM cwf hp rfl rfl hl.1 rfl (lv_room (by rw [cats]; exact h8)) d (by rw [hR]; simp only [rmm]; constructor <;> omega)
  exact run_toI ok hrun hD hS hl h1 h2 hn (fun b hb => hcl _ _ ok.ext (fun i hi => hb i (by omega))) hls hst hQ
theorem k_callIN {y : MethodName} {cw : Cond} {k d0 idx n' b m0 : Nat} {pt : PT} {Q : Option Value → Mem → Prop} (hC : ConI (gl G) y cw k d0 pt) (ci : CIn own idx y cw) (hAo : AoAll (gs G)) (hd : d0 + 1 ≤ gd G) (hn : n' + k ≤ nn) (h8 : (st.map fun v => v.category).sum ≤ 8) (hcl : ∀ a b, gE G a → Ext a m0 b → gE G b) (hm : m0 ≤ mN M) (hls : okL (mN M) ls) (hst : okS (mN M) st) (d : decode cc pc = .ok (.invokespecial idx, 3))
    (hpt : pt [.ref b] M Q (fun _ _ => False)) (hQ : ∀ b r M', Q r M' → PW (setr G b) own cc nL rt Post PostX n' (pc + 3) ls (r.toList ++ st) M') : PW G own cc nL rt Post PostX nn pc ls (.ref b :: st) M := by
  intro n0 H locs lsA cells slots ok h1 h2 hP hD hS hl
  obtain ⟨bytes, maxL, rfl, hmax, hnm, hy, w1, w2, w4, w5⟩ := ci
  have hM := hC (gD G) (gy G) (gr G) M [.ref b] Q H.size hpt
  have hR := ok.room
  have hb : va_CN (gR G) (gs G) (ga G) own idx y RX5 bytes maxL none (Cond.code y bytes maxL none :: WW) (rmm d0 k) k (6 * k) 0 := va_cnB 0 ok.hts (good_c w5 [] (fun _ h => by cases h)) rfl rfl rfl (ok.base.2.2.2.1 _ w1) (ok.hts _ w4) hy (by rw [hR]; simp only [rmm]; constructor <;> omega)
  have hp : PreS (gs G) H (va_Pc (([.ref b] : List Value).map (tv (gr G))) (fun U => Pre (gD G) (gy G) (gr G) M H.size U ∧ AoAll U)) (.ref (gr G b) :: []) :=
    ⟨pre_blI, fun U hU hW => ⟨rfl, Pre.of ok hP hD hS hU hW, hAo.moved hW.alike⟩⟩
  have hrun := va_runIN (p := gp G) (e := ge G) (below := gb G) (meth := gh G) (locs := locs) (cells := cells) (slots := slots) (g := F0 (gm G) pc lsA ((Value.ref b :: st).map (tv (gr G)))) (rest := st.map (tv (gr G))) (As := []) (b := gr G b) ⟨ok.hx, ok.hb, ok.hml, ok.hown, ok.hts⟩ hM ⟨hb, hnm, ok.hts _ w2⟩ hp rfl rfl hl.1 rfl (lv_room (by rw [cats]; exact h8)) d (by rw [hR]; simp only [rmm]; constructor <;> omega)
  exact run_toI ok hrun hD hS hl h1 h2 hn (fun b hb => hcl _ _ ok.ext (fun i hi => hb i (by omega))) hls hst hQ
end
theorem con_ofI {l : Launch} {y : MethodName} {cc : ByteArray} {maxL k d : Nat} {pt : PT} (hl : l.stackTraces = false) (hy : plainName y.cls = true) (hlen : ∀ as M Q X, pt as M Q X → (lg_sl as).length ≤ maxL)
    (h : ∀ (G : Cx) (as : List Value) (M : Mem) (Q : Option Value → Mem → Prop), gl G = l → gd G = d → (gh G).name = y.name → AoAll (gs G) → (∀ a b, gE G a → Ext a (mN M) b → gE G b) → pt as M Q (fun _ _ => False) → PW G y.cls cc maxL none Q (fun _ _ => False) k 0 (lv_args 0 as) [] M) : ConI l y (Cond.code y cc maxL none) k d pt := by
  intro D cy adr M as Q sz hpt
  have key : vx_Met l y (Cond.code y cc maxL none :: WW) (rmm d k) (va_Pc (as.map (tv adr)) (fun U => Pre D cy adr M sz U ∧ AoAll U)) (Qn D cy (Ext adr (mN M)) (AA adr (mN M) sz) Q) (Xn D cy (Ext adr (mN M)) (AA adr (mN M) sz) (fun _ _ => False)) k (6 * k) (AA adr (mN M) sz) := by
    refine vx_ofW (cc := cc) (maxL := maxL) (ret := none) hy rfl ?_
    intro p e s m args below meth c s₁ B hml htab hv
    obtain ⟨rfl, ⟨hsz, hP, hK, hD, hB⟩, hAo⟩ := hv
    subst hsz
    have hts := atoms_spec (ws := Cond.code y cc maxL none :: WW) B.pre
    have hlen' := hlen as M Q _ hpt
    have hsl : ∀ vs : List Value, (lg_sl (vs.map (tv adr))).length = (lg_sl vs).length := by
      intro vs
      induction vs with
      | nil => rfl
      | cons v vs ih =>
        simp only [lg_sl, List.map_cons, List.flatMap_cons, List.length_append] at ih ⊢
        rw [ih, tv_cat]
        split <;> rfl
    have hargs : ∀ (vs : List Value) (i : Nat), lv_args i (vs.map (tv adr)) = lt adr (lv_args i vs) := by
      intro vs
      induction vs with
      | nil => intro i; rfl
      | cons v vs ih =>
        intro i
        simp only [List.map_cons, lv_args, lt, tv_cat] at ih ⊢
        rw [ih]
    have hl2 := lv_entry (as.map (tv adr)) (n := maxL) (by rw [hsl]; exact hlen')
    rw [lg_entry_eq]
    generalize (lg_sl (as.map (tv adr)) ++ List.replicate (maxL - (lg_sl (as.map (tv adr))).length) Slot.unset).toArray = lsA at hl2 ⊢
    rw [hargs] at hl2
    let G : Cx := ((p, l, e, rmm d k, s, m, (as.map (tv adr)).toArray, below, meth, c), (D, cy, adr, Ext adr (mN M), AA adr (mN M) s.heap.size, d, []))
    have tab0 : c.exceptionTable.toList = [] := by
      cases hq : c.exceptionTable.toList with
      | nil => rfl
      | cons a b => exact (htab a (by rw [hq]; exact List.mem_cons_self)).elim
    have ok : Ok G y.cls cc maxL none k := ⟨B.exec, B.bytes, hml, B.returns, findClass_of_methodNamed B.named, fun w hw => hts w (List.mem_cons_of_mem _ hw), B.notSynchronized, hK, hB, hl, rfl, Ext.rf, fun q hq => Or.inr hq, tab0⟩
    exact h G as M Q rfl rfl (name_of_methodNamed B.named B.method).1 hAo (fun a b h1 h2 => Ext.trans (Nat.le_refl _) h1 h2) hpt k s.heap [] lsA 0 0 ok (by omega) (by omega) hP hD va_S.rf hl2
  intro p e ha hc hk s m args below hf happ hP hK
  obtain ⟨kk, o, h1, h2, h3, hq⟩ := key p e ha hc hk s m args below hf happ hP hK
  refine ⟨kk, o, h1, h2, h3, ?_⟩
  rcases hq with hq | ⟨q, -, E, ce, L, hx, -⟩
  · exact hq
  · obtain ⟨⟨_, _, _, hx, _⟩, _⟩ := hx
    exact hx.elim
