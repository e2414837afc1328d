/-! RULES OF PW: fields, arrays, returns -/
theorem Ok.hx {G : Cx} {own : String} {cc : ByteArray} {nL n0 : Nat} {rt : Option FieldType} (h : Ok G own cc nL rt n0) : (gp G).tables.exec = Jvm.exec := h.1
theorem Ok.hb {G : Cx} {own : String} {cc : ByteArray} {nL n0 : Nat} {rt : Option FieldType} (h : Ok G own cc nL rt n0) : (gc G).code = cc := h.2.1
theorem Ok.hml {G : Cx} {own : String} {cc : ByteArray} {nL n0 : Nat} {rt : Option FieldType} (h : Ok G own cc nL rt n0) : (gc G).maxLocals = nL := h.2.2.1
theorem Ok.hr {G : Cx} {own : String} {cc : ByteArray} {nL n0 : Nat} {rt : Option FieldType} (h : Ok G own cc nL rt n0) : (gh G).sig.returnType = rt := h.2.2.2.1
theorem Ok.hown {G : Cx} {own : String} {cc : ByteArray} {nL n0 : Nat} {rt : Option FieldType} (h : Ok G own cc nL rt n0) : (gs G).vm.findClass own = some (gm G).cls := h.2.2.2.2.1
theorem Ok.hts {G : Cx} {own : String} {cc : ByteArray} {nL n0 : Nat} {rt : Option FieldType} (h : Ok G own cc nL rt n0) : ∀ w ∈ WW, w.before (ga G) (gs G) = true := h.2.2.2.2.2.1
theorem Ok.hlk {G : Cx} {own : String} {cc : ByteArray} {nL n0 : Nat} {rt : Option FieldType} (h : Ok G own cc nL rt n0) : (gh G).locks = false := h.2.2.2.2.2.2.1
theorem Ok.hK {G : Cx} {own : String} {cc : ByteArray} {nL n0 : Nat} {rt : Option FieldType} (h : Ok G own cc nL rt n0) : va_K (gD G) vwCl (tysOf (gy G)) (gs G) := h.2.2.2.2.2.2.2.1
theorem Ok.base {G : Cx} {own : String} {cc : ByteArray} {nL n0 : Nat} {rt : Option FieldType} (h : Ok G own cc nL rt n0) : Base (gA G) (gs G) := h.2.2.2.2.2.2.2.2.1
theorem Ok.tr {G : Cx} {own : String} {cc : ByteArray} {nL n0 : Nat} {rt : Option FieldType} (h : Ok G own cc nL rt n0) : (gl G).stackTraces = false := h.2.2.2.2.2.2.2.2.2.1
theorem Ok.room {G : Cx} {own : String} {cc : ByteArray} {nL n0 : Nat} {rt : Option FieldType} (h : Ok G own cc nL rt n0) : gR G = rmm (gd G) n0 := h.2.2.2.2.2.2.2.2.2.2.1
theorem Ok.ext {G : Cx} {own : String} {cc : ByteArray} {nL n0 : Nat} {rt : Option FieldType} (h : Ok G own cc nL rt n0) : gE G (gr G) := h.2.2.2.2.2.2.2.2.2.2.2.1
theorem Ok.hA {G : Cx} {own : String} {cc : ByteArray} {nL n0 : Nat} {rt : Option FieldType} (h : Ok G own cc nL rt n0) : ∀ q : Nat, (gs G).heap.size ≤ q → gA G q := h.2.2.2.2.2.2.2.2.2.2.2.2.1
theorem Ok.tab {G : Cx} {own : String} {cc : ByteArray} {nL n0 : Nat} {rt : Option FieldType} (h : Ok G own cc nL rt n0) : (gc G).exceptionTable.toList = tableOf (gt G) := h.2.2.2.2.2.2.2.2.2.2.2.2.2
/-- the entry idx of own's pool is the field k of class ci -/
def FL (own : String) (idx ci k : Nat) : Prop := ∃ r : vw_C, vwCl[ci]? = some r ∧ k < r.2.2 ∧ Cond.fieldLink own idx (r.2.1 k).1 (r.2.1 k).2.1 (r.2.1 k).2.2.1 ∈ WW ∧ ∀ w ∈ u_ws r.1 r.2.1 r.2.2, w ∈ WW
/-- .. and it may be written, being of type ty -/
def FP (own : String) (idx ci k : Nat) (ty : FieldType) : Prop := ∃ r : vw_C, vwCl[ci]? = some r ∧ k < r.2.2 ∧ Cond.fieldLink own idx (r.2.1 k).1 (r.2.1 k).2.1 (r.2.1 k).2.2.1 ∈ WW ∧ (∀ w ∈ u_ws r.1 r.2.1 r.2.2, w ∈ WW) ∧
  (r.2.1 k).2.2.2 = false ∧ parseFieldDescriptor (r.2.1 k).2.2.1 = some ty ∧ (∃ ty0 : Nat → FieldType, ∀ k, k < r.2.2 → parseFieldDescriptor (r.2.1 k).2.2.1 = some (ty0 k)) ∧ ∀ a, a < r.2.2 → ∀ b, b < r.2.2 → a ≠ b → (r.2.1 a).2.1 ≠ (r.2.1 b).2.1
def OB (ci a : Nat) : Prop := a < NN ∧ sh a = .inr ci
def AR (t n a : Nat) : Prop := a < NN ∧ sh a = .inl (t, n)
section
variable {G : Cx} {own : String} {cc : ByteArray} {nL : Nat} {rt : Option FieldType} {Post : Option Value → Mem → Prop} {PostX : String → Mem → Prop} {n pc : Nat} {ls : List (Nat × Value)} {st : List Value} {M : Mem}
theorem w_get {idx ci k a q : Nat} {v : Value} (fl : FL own idx ci k) (ha : a < mN M) (hs : sh a = .inr ci) (hk : (ksOf ci)[k]? = some q) (hv : fv (gr G) M a k q = tv (gr G) v) (d : decode cc pc = .ok (.getfield idx, 3)) (kk : PW G own cc nL rt Post PostX n (pc + 3) ls (v :: st) M) : PW G own cc nL rt Post PostX n pc ls (.ref a :: st) M := by
  intro n0 H locs lsA cells slots ok h1 h2 hP hD hS hl
  obtain ⟨⟨C, T, N⟩, hr, hkr, hw, hu⟩ := fl
  exact va_get (D := gD G) (ci := ci) (v := tv (gr G) v) (C := C) (T := T) (N := N) ok.hx ok.hb ok.hts hu ok.hown ok.hK hP a (fs := flds (gr G) M a (ksOf ci) 0) (by rw [Wd_at ha, ce_o hs]) hr k hkr (ok.hts _ hw) (fun _ h => h) (by rw [flds_at _ _ _ _ 0 k q hk, Nat.zero_add, hv]) d (kk n0 H locs lsA cells slots ok h1 h2 hP hD hS hl)
theorem w_getI {idx ci k a : Nat} (fl : FL own idx ci k) (hF : Full M) (ho : OB ci a) (hk : (ksOf ci)[k]? = some 0) (d : decode cc pc = .ok (.getfield idx, 3)) (kk : PW G own cc nL rt Post PostX n (pc + 3) ls (.int (mI M a k) :: st) M) : PW G own cc nL rt Post PostX n pc ls (.ref a :: st) M :=
  w_get fl (by rw [hF.1]; exact ho.1) ho.2 hk rfl d kk
theorem w_getJ {idx ci k a : Nat} (fl : FL own idx ci k) (hF : Full M) (ho : OB ci a) (hk : (ksOf ci)[k]? = some 1) (d : decode cc pc = .ok (.getfield idx, 3)) (kk : PW G own cc nL rt Post PostX n (pc + 3) ls (.long (mJ M a k) :: st) M) : PW G own cc nL rt Post PostX n pc ls (.ref a :: st) M :=
  w_get fl (by rw [hF.1]; exact ho.1) ho.2 hk rfl d kk
theorem w_getR {idx ci k a : Nat} (fl : FL own idx ci k) (hF : Full M) (ho : OB ci a) (hk : (ksOf ci)[k]? = some 2) {b : Nat} (hb : rf a k = b) (d : decode cc pc = .ok (.getfield idx, 3)) (kk : PW G own cc nL rt Post PostX n (pc + 3) ls (.ref b :: st) M) : PW G own cc nL rt Post PostX n pc ls (.ref a :: st) M :=
  w_get (v := .ref b) fl (by rw [hF.1]; exact ho.1) ho.2 hk (by rw [← hb]; simp only [fv, hF.2, cond_true, tv]) d kk
theorem w_getF {idx ci k a : Nat} (fl : FL own idx ci k) (hF : Full M) (ho : OB ci a) (hk : (ksOf ci)[k]? = some 3) (d : decode cc pc = .ok (.getfield idx, 3)) (kk : PW G own cc nL rt Post PostX n (pc + 3) ls (.ref (mF M k) :: st) M) : PW G own cc nL rt Post PostX n pc ls (.ref a :: st) M :=
  w_get (v := .ref (mF M k)) fl (by rw [hF.1]; exact ho.1) ho.2 hk (by simp only [fv, hF.2, cond_true, tv]) d kk
theorem w_put {idx ci k a q : Nat} {v : Value} {M' : Mem} {ty : FieldType} (fp : FP own idx ci k ty) (ha : a < mN M) (hs : sh a = .inr ci) (hk : (ksOf ci)[k]? = some q) (hN : mN M' = mN M) (hv : fv (gr G) M' a k q = tv (gr G) v) (ho : ∀ j q', j ≠ k → (ksOf ci)[j]? = some q' → fv (gr G) M' a j q' = fv (gr G) M a j q') (hc : ∀ b, b ≠ a → ce (gy G) (gr G) M' b = ce (gy G) (gr G) M b)
    (hn : narrow ty (tv (gr G) v) = tv (gr G) v) (hf : fits ty (tv (gr G) v) = true) (d : decode cc pc = .ok (.putfield idx, 3)) (kk : PW G own cc nL rt Post PostX n (pc + 3) ls st M') : PW G own cc nL rt Post PostX n pc ls (v :: .ref a :: st) M := by
  intro n0 H locs lsA cells slots ok h1 h2 hP hD hS hl
  obtain ⟨⟨C, T, N⟩, hr, hkr, hw, hu, hfin, hpd, ⟨ty0, hty⟩, hnm⟩ := fp
  have hlen : k < (flds (gr G) M a (ksOf ci) 0).length := by rw [flds_len]; exact (List.getElem?_eq_some_iff.mp hk).1
  refine va_put (D := gD G) (ci := ci) (v := tv (gr G) v) (ty := ty) (C := C) (T := T) (N := N) ok.hx ok.hb ok.hts hu ty0 hty hnm ok.hown ok.hK hP hD hS a (fs := flds (gr G) M a (ksOf ci) 0) (by rw [Wd_at ha, ce_o hs]) hr k hkr (ok.hts _ hw) (fun _ h => h) hfin hpd hn hf hlen d (fun H1 locs1 hP1 hD1 hS1 => ?_)
  have e : (Wd (gy G) (gr G) M).set a (gr G a, .inr (ci, (flds (gr G) M a (ksOf ci) 0).set k (tv (gr G) v))) = Wd (gy G) (gr G) M' := Wd_set hN hc (by rw [ce_o hs, flds_set hk hv ho])
  rw [e] at hP1 hD1
  exact kk n0 H1 locs1 lsA cells slots ok h1 h2 hP1 hD1 hS1 hl
theorem sI_ce {cy : Nat → ClassId} {adr : Nat → Nat} {M : Mem} {a k : Nat} {x : Int32} : ∀ b, b ≠ a → ce cy adr (sI M a k x) b = ce cy adr M b := fun b hb => ce_same (up2_row _ _ hb) rfl rfl rfl (fun _ => rfl)
theorem sJ_ce {cy : Nat → ClassId} {adr : Nat → Nat} {M : Mem} {a k : Nat} {x : Int64} : ∀ b, b ≠ a → ce cy adr (sJ M a k x) b = ce cy adr M b := fun b hb => ce_same rfl (up2_row _ _ hb) rfl rfl (fun _ => rfl)
theorem sD_ce {cy : Nat → ClassId} {adr : Nat → Nat} {M : Mem} {a k : Nat} {x : UInt64} : ∀ b, b ≠ a → ce cy adr (sD M a k x) b = ce cy adr M b := fun b hb => ce_same rfl rfl (up2_row _ _ hb) rfl (fun _ => rfl)
theorem sI_fv {adr : Nat → Nat} {M : Mem} {a k : Nat} {x : Int32} : ∀ j q', j ≠ k → fv adr (sI M a k x) a j q' = fv adr M a j q' := fun j q' hj => by
  match q' with
  | 0 => show Value.int (up2 M.1 a k x a j) = Value.int (M.1 a j); rw [up2_n _ _ (fun q => hj q.2)]
  | 1 => rfl
  | 2 => rfl
  | (q + 3) => rfl
theorem sJ_fv {adr : Nat → Nat} {M : Mem} {a k : Nat} {x : Int64} : ∀ j q', j ≠ k → fv adr (sJ M a k x) a j q' = fv adr M a j q' := fun j q' hj => by
  match q' with
  | 0 => rfl
  | 1 => show Value.long (up2 M.2.1 a k x a j) = Value.long (M.2.1 a j); rw [up2_n _ _ (fun q => hj q.2)]
  | 2 => rfl
  | (q + 3) => rfl
theorem w_putI {idx ci k a : Nat} {x : Int32} (fp : FP own idx ci k .int) (hF : Full M) (ho : OB ci a) (hk : (ksOf ci)[k]? = some 0) (d : decode cc pc = .ok (.putfield idx, 3)) (kk : PW G own cc nL rt Post PostX n (pc + 3) ls st (sI M a k x)) : PW G own cc nL rt Post PostX n pc ls (.int x :: .ref a :: st) M :=
  w_put (v := .int x) (M' := sI M a k x) fp (by rw [hF.1]; exact ho.1) ho.2 hk rfl (by show Value.int (up2 M.1 a k x a k) = _; rw [up2_s]; rfl) (fun j q' hj _ => sI_fv j q' hj) sI_ce rfl rfl d kk
theorem w_putZ {idx ci k a : Nat} {x : Int32} (fp : FP own idx ci k .boolean) (hF : Full M) (ho : OB ci a) (hk : (ksOf ci)[k]? = some 0) (hx : x = 0 ∨ x = 1) (d : decode cc pc = .ok (.putfield idx, 3)) (kk : PW G own cc nL rt Post PostX n (pc + 3) ls st (sI M a k x)) : PW G own cc nL rt Post PostX n pc ls (.int x :: .ref a :: st) M :=
  w_put (v := .int x) (M' := sI M a k x) fp (by rw [hF.1]; exact ho.1) ho.2 hk rfl (by show Value.int (up2 M.1 a k x a k) = _; rw [up2_s]; rfl) (fun j q' hj _ => sI_fv j q' hj) sI_ce (by rcases hx with rfl | rfl <;> rfl) (by rcases hx with rfl | rfl <;> rfl) d kk
theorem w_putJ {idx ci k a : Nat} {x : Int64} (fp : FP own idx ci k .long) (hF : Full M) (ho : OB ci a) (hk : (ksOf ci)[k]? = some 1) (d : decode cc pc = .ok (.putfield idx, 3)) (kk : PW G own cc nL rt Post PostX n (pc + 3) ls st (sJ M a k x)) : PW G own cc nL rt Post PostX n pc ls (.long x :: .ref a :: st) M :=
  w_put (v := .long x) (M' := sJ M a k x) fp (by rw [hF.1]; exact ho.1) ho.2 hk rfl (by show Value.long (up2 M.2.1 a k x a k) = _; rw [up2_s]; rfl) (fun j q' hj _ => sJ_fv j q' hj) sJ_ce rfl rfl d kk
theorem sh_calc {b : Nat} (h : sh b = .inr 1) : b = 7 := by
  unfold sh at h
  split at h
  · rename_i h1
    rcases Nat.lt_or_ge b 22 with h2 | h2
    · have : ∀ b, b < 22 → shA b = .inr 1 → b = 7 := by decide
      exact this b h2 h
    · have : b = 22 ∨ b = 23 := by omega
      rcases this with rfl | rfl <;> cases h
  · split at h
    · split at h <;> cases h
    · split at h
      · split at h
        · cases h
        · split at h <;> cases h
      · split at h
        · split at h
          · cases h
          · split at h <;> cases h
        · exfalso
          unfold shB at h
          split at h <;> cases h
theorem w_putF {idx k b : Nat} {ty : FieldType} (fp : FP own idx 1 k ty) (hF : Full M) (hk : (ksOf 1)[k]? = some 3) (hn : narrow ty (.ref (gr G b)) = .ref (gr G b)) (hf : fits ty (.ref (gr G b)) = true) (d : decode cc pc = .ok (.putfield idx, 3)) (kk : PW G own cc nL rt Post PostX n (pc + 3) ls st (sF M k b)) : PW G own cc nL rt Post PostX n pc ls (.ref b :: .ref 7 :: st) M :=
  w_put (v := .ref b) (M' := sF M k b) fp (by rw [hF.1]; decide) rfl hk rfl (by show (bif mZ M 7 k then Value.ref (gr G (va_up M.2.2.2.1 k b k)) else .null) = _; rw [hF.2, va_up_self]; rfl)
    (fun j q' hj hq => by
      match q' with
      | 0 => rfl
      | 1 => rfl
      | 2 => rfl
      | (q + 3) => show (bif mZ M 7 j then Value.ref (gr G (va_up M.2.2.2.1 k b j)) else .null) = _; rw [va_up_ne _ _ hj]; rfl)
    (fun c hc => ce_same rfl rfl rfl rfl (fun h => absurd (sh_calc h) hc)) hn hf d kk
/-! arrays -/
theorem w_iald {a m : Nat} {i : Int32} (hF : Full M) (ha : AR 1 m a) (hin : vp_in i m) (d : decode cc pc = .ok (.iaload, 1)) (kk : PW G own cc nL rt Post PostX n (pc + 1) ls (.int (mI M a i.toNatClampNeg) :: st) M) : PW G own cc nL rt Post PostX n pc ls (.int i :: .ref a :: st) M := by
  intro n0 H locs lsA cells slots ok h1 h2 hP hD hS hl
  exact va_iald ok.hx ok.hb ok.hK hP a 1 (cA := gy G 1) (n := m) (f := mI M a) (by rw [Wd_at (by rw [hF.1]; exact ha.1), ce_a ha.2]; rfl) rfl hin d (kk n0 H locs lsA cells slots ok h1 h2 hP hD hS hl)
theorem w_zald {a m : Nat} {i : Int32} (hF : Full M) (ha : AR 3 m a) (hin : vp_in i m) (d : decode cc pc = .ok (.baload, 1)) (kk : PW G own cc nL rt Post PostX n (pc + 1) ls (.int (mI M a i.toNatClampNeg) :: st) M) : PW G own cc nL rt Post PostX n pc ls (.int i :: .ref a :: st) M := by
  intro n0 H locs lsA cells slots ok h1 h2 hP hD hS hl
  exact va_zald ok.hx ok.hb ok.hK hP a 3 (cA := gy G 3) (n := m) (f := mI M a) (by rw [Wd_at (by rw [hF.1]; exact ha.1), ce_a ha.2]; rfl) rfl hin d (kk n0 H locs lsA cells slots ok h1 h2 hP hD hS hl)
theorem w_cald {a m : Nat} {i : Int32} (hF : Full M) (ha : AR 0 m a) (hin : vp_in i m) (d : decode cc pc = .ok (.caload, 1)) (kk : PW G own cc nL rt Post PostX n (pc + 1) ls (.int (mI M a i.toNatClampNeg) :: st) M) : PW G own cc nL rt Post PostX n pc ls (.int i :: .ref a :: st) M := by
  intro n0 H locs lsA cells slots ok h1 h2 hP hD hS hl
  exact va_cald ok.hx ok.hb ok.hK hP a 0 (cA := gy G 0) (n := m) (f := mI M a) (by rw [Wd_at (by rw [hF.1]; exact ha.1), ce_a ha.2]; rfl) rfl hin d (kk n0 H locs lsA cells slots ok h1 h2 hP hD hS hl)
theorem w_lald {a m : Nat} {i : Int32} (hF : Full M) (ha : AR 2 m a) (hin : vp_in i m) (d : decode cc pc = .ok (.laload, 1)) (kk : PW G own cc nL rt Post PostX n (pc + 1) ls (.long (mJ M a i.toNatClampNeg) :: st) M) : PW G own cc nL rt Post PostX n pc ls (.int i :: .ref a :: st) M := by
  intro n0 H locs lsA cells slots ok h1 h2 hP hD hS hl
  exact va_lald ok.hx ok.hb ok.hK hP a 2 (cA := gy G 2) (n := m) (f := mJ M a) (by rw [Wd_at (by rw [hF.1]; exact ha.1), ce_a ha.2]; rfl) rfl hin d (kk n0 H locs lsA cells slots ok h1 h2 hP hD hS hl)
theorem w_dald {a m : Nat} {i : Int32} (hF : Full M) (ha : AR 4 m a) (hin : vp_in i m) (d : decode cc pc = .ok (.daload, 1)) (kk : PW G own cc nL rt Post PostX n (pc + 1) ls (.double (mD M a i.toNatClampNeg) :: st) M) : PW G own cc nL rt Post PostX n pc ls (.int i :: .ref a :: st) M := by
  intro n0 H locs lsA cells slots ok h1 h2 hP hD hS hl
  exact va_dald ok.hx ok.hb ok.hK hP a 4 (cA := gy G 4) (n := m) (f := mD M a) (by rw [Wd_at (by rw [hF.1]; exact ha.1), ce_a ha.2]; rfl) rfl hin d (kk n0 H locs lsA cells slots ok h1 h2 hP hD hS hl)
theorem w_aald {a m t : Nat} {i : Int32} {b : Nat} (ht : t = 5 ∨ t = 6 ∨ t = 7 ∨ t = 8) (hF : Full M) (ha : AR t m a) (hin : vp_in i m) (hb : rf a i.toNatClampNeg = b) (d : decode cc pc = .ok (.aaload, 1)) (kk : PW G own cc nL rt Post PostX n (pc + 1) ls (.ref b :: st) M) : PW G own cc nL rt Post PostX n pc ls (.int i :: .ref a :: st) M := by
  intro n0 H locs lsA cells slots ok h1 h2 hP hD hS hl
  have hb' : ∀ f : Nat → Option Nat, f = (fun k => bif mZ M a k then some (gr G (rf a k)) else none) → va_rf (f i.toNatClampNeg) = Value.ref (gr G b) := fun f hf => by
    subst hf
    rw [← hb]
    simp only [hF.2, cond_true, va_rf]
  have hk := kk n0 H locs lsA cells slots ok h1 h2 hP hD hS hl
  have key : ∀ (C : String), (tysOf (gy G))[t]? = some (gy G t, .object C) → arow (gr G) M a t = .inr (.inr (.inr (.inr (fun k => bif mZ M a k then some (gr G (rf a k)) else none)))) → Wg G H locs cells slots (Zn G Post PostX n0) (F0 (gm G) pc lsA ((Value.int i :: .ref a :: st).map (tv (gr G)))) := fun C hC hrow =>
    va_aldq ok.hx ok.hb ok.hK hP a t (cA := gy G t) (C := C) (n := m) (f := fun k => bif mZ M a k then some (gr G (rf a k)) else none) (by rw [Wd_at (by rw [hF.1]; exact ha.1), ce_a ha.2, hrow]) hC hin d (by rw [hb' _ rfl]; exact hk)
  rcases ht with rfl | rfl | rfl | rfl <;> exact key _ rfl rfl
theorem up2_upd (f : Nat → Nat → Int32) (a k : Nat) (v : Int32) : up2 f a k v a = upd (f a) k v := by
  funext j
  simp only [up2, upd, true_and]
theorem up2_updL (f : Nat → Nat → Int64) (a k : Nat) (v : Int64) : up2 f a k v a = vp_updL (f a) k v := by
  funext j
  simp only [up2, vp_updL, true_and]
theorem up2_updD (f : Nat → Nat → UInt64) (a k : Nat) (v : UInt64) : up2 f a k v a = vf_upd (f a) k v := by
  funext j
  simp only [up2, vf_upd, true_and]
theorem w_iast {a m : Nat} {i x : Int32} (hF : Full M) (ha : AR 1 m a) (hin : vp_in i m) (d : decode cc pc = .ok (.iastore, 1)) (kk : PW G own cc nL rt Post PostX n (pc + 1) ls st (sI M a i.toNatClampNeg x)) : PW G own cc nL rt Post PostX n pc ls (.int x :: .int i :: .ref a :: st) M := by
  intro n0 H locs lsA cells slots ok h1 h2 hP hD hS hl
  refine va_iast ok.hx ok.hb ok.hK hP hD hS a 1 (cA := gy G 1) (n := m) (f := mI M a) (by rw [Wd_at (by rw [hF.1]; exact ha.1), ce_a ha.2]; rfl) rfl hin d (fun H1 locs1 hP1 hD1 hS1 => ?_)
  have e : (Wd (gy G) (gr G) M).set a (gr G a, .inl (gy G 1, m, .inl (upd (mI M a) i.toNatClampNeg x))) = Wd (gy G) (gr G) (sI M a i.toNatClampNeg x) := Wd_set (M := M) (M' := sI M a i.toNatClampNeg x) (cy := gy G) (adr := gr G) rfl sI_ce (by rw [ce_a ha.2, ← up2_upd]; rfl)
  rw [e] at hP1 hD1
  exact kk n0 H1 locs1 lsA cells slots ok h1 h2 hP1 hD1 hS1 hl
theorem w_zast {a m : Nat} {i x : Int32} (hF : Full M) (ha : AR 3 m a) (hin : vp_in i m) (hx : x = 0 ∨ x = 1) (d : decode cc pc = .ok (.bastore, 1)) (kk : PW G own cc nL rt Post PostX n (pc + 1) ls st (sI M a i.toNatClampNeg x)) : PW G own cc nL rt Post PostX n pc ls (.int x :: .int i :: .ref a :: st) M := by
  intro n0 H locs lsA cells slots ok h1 h2 hP hD hS hl
  refine va_zast ok.hx ok.hb ok.hK hP hD hS a 3 (cA := gy G 3) (n := m) (f := mI M a) (by rw [Wd_at (by rw [hF.1]; exact ha.1), ce_a ha.2]; rfl) rfl hin d (fun H1 locs1 hP1 hD1 hS1 => ?_)
  have hx' : vp_nar .boolean x = x := by rcases hx with rfl | rfl <;> rfl
  have e : (Wd (gy G) (gr G) M).set a (gr G a, .inl (gy G 3, m, .inl (upd (mI M a) i.toNatClampNeg x))) = Wd (gy G) (gr G) (sI M a i.toNatClampNeg x) := Wd_set (M := M) (M' := sI M a i.toNatClampNeg x) (cy := gy G) (adr := gr G) rfl sI_ce (by rw [ce_a ha.2, ← up2_upd]; rfl)
  rw [hx', e] at hP1 hD1
  exact kk n0 H1 locs1 lsA cells slots ok h1 h2 hP1 hD1 hS1 hl
theorem w_cast {a m : Nat} {i x : Int32} (hF : Full M) (ha : AR 0 m a) (hin : vp_in i m) (hx : vp_nar .char x = x) (d : decode cc pc = .ok (.castore, 1)) (kk : PW G own cc nL rt Post PostX n (pc + 1) ls st (sI M a i.toNatClampNeg x)) : PW G own cc nL rt Post PostX n pc ls (.int x :: .int i :: .ref a :: st) M := by
  intro n0 H locs lsA cells slots ok h1 h2 hP hD hS hl
  refine va_cast ok.hx ok.hb ok.hK hP hD hS a 0 (cA := gy G 0) (n := m) (f := mI M a) (by rw [Wd_at (by rw [hF.1]; exact ha.1), ce_a ha.2]; rfl) rfl hin d (fun H1 locs1 hP1 hD1 hS1 => ?_)
  have e : (Wd (gy G) (gr G) M).set a (gr G a, .inl (gy G 0, m, .inl (upd (mI M a) i.toNatClampNeg x))) = Wd (gy G) (gr G) (sI M a i.toNatClampNeg x) := Wd_set (M := M) (M' := sI M a i.toNatClampNeg x) (cy := gy G) (adr := gr G) rfl sI_ce (by rw [ce_a ha.2, ← up2_upd]; rfl)
  rw [hx, e] at hP1 hD1
  exact kk n0 H1 locs1 lsA cells slots ok h1 h2 hP1 hD1 hS1 hl
theorem w_last {a m : Nat} {i : Int32} {x : Int64} (hF : Full M) (ha : AR 2 m a) (hin : vp_in i m) (d : decode cc pc = .ok (.lastore, 1)) (kk : PW G own cc nL rt Post PostX n (pc + 1) ls st (sJ M a i.toNatClampNeg x)) : PW G own cc nL rt Post PostX n pc ls (.long x :: .int i :: .ref a :: st) M := by
  intro n0 H locs lsA cells slots ok h1 h2 hP hD hS hl
  refine va_last ok.hx ok.hb ok.hK hP hD hS a 2 (cA := gy G 2) (n := m) (f := mJ M a) (by rw [Wd_at (by rw [hF.1]; exact ha.1), ce_a ha.2]; rfl) rfl hin d (fun H1 locs1 hP1 hD1 hS1 => ?_)
  have e : (Wd (gy G) (gr G) M).set a (gr G a, .inl (gy G 2, m, .inr (.inl (vp_updL (mJ M a) i.toNatClampNeg x)))) = Wd (gy G) (gr G) (sJ M a i.toNatClampNeg x) := Wd_set (M := M) (M' := sJ M a i.toNatClampNeg x) (cy := gy G) (adr := gr G) rfl sJ_ce (by rw [ce_a ha.2, ← up2_updL]; rfl)
  rw [e] at hP1 hD1
  exact kk n0 H1 locs1 lsA cells slots ok h1 h2 hP1 hD1 hS1 hl
theorem w_dast {a m : Nat} {i : Int32} {x : UInt64} (hF : Full M) (ha : AR 4 m a) (hin : vp_in i m) (d : decode cc pc = .ok (.dastore, 1)) (kk : PW G own cc nL rt Post PostX n (pc + 1) ls st (sD M a i.toNatClampNeg x)) : PW G own cc nL rt Post PostX n pc ls (.double x :: .int i :: .ref a :: st) M := by
  intro n0 H locs lsA cells slots ok h1 h2 hP hD hS hl
  refine va_dast ok.hx ok.hb ok.hK hP hD hS a 4 (cA := gy G 4) (n := m) (f := mD M a) (by rw [Wd_at (by rw [hF.1]; exact ha.1), ce_a ha.2]; rfl) rfl hin d (fun H1 locs1 hP1 hD1 hS1 => ?_)
  have e : (Wd (gy G) (gr G) M).set a (gr G a, .inl (gy G 4, m, .inr (.inr (.inr (.inl (vf_upd (mD M a) i.toNatClampNeg x)))))) = Wd (gy G) (gr G) (sD M a i.toNatClampNeg x) := Wd_set (M := M) (M' := sD M a i.toNatClampNeg x) (cy := gy G) (adr := gr G) rfl sD_ce (by rw [ce_a ha.2, ← up2_updD]; rfl)
  rw [e] at hP1 hD1
  exact kk n0 H1 locs1 lsA cells slots ok h1 h2 hP1 hD1 hS1 hl
theorem w_alen {a m t : Nat} {v : Int32} (hF : Full M) (ha : AR t m a) (ht : t < 9) (hv : Int32.ofNat m = v) (d : decode cc pc = .ok (.arraylength, 1)) (kk : PW G own cc nL rt Post PostX n (pc + 1) ls (.int v :: st) M) : PW G own cc nL rt Post PostX n pc ls (.ref a :: st) M := by
  intro n0 H locs lsA cells slots ok h1 h2 hP hD hS hl
  obtain ⟨ty, hty⟩ : ∃ ty, (tysOf (gy G))[t]? = some (gy G t, ty) := by
    rcases (show t = 0 ∨ t = 1 ∨ t = 2 ∨ t = 3 ∨ t = 4 ∨ t = 5 ∨ t = 6 ∨ t = 7 ∨ t = 8 by omega) with rfl | rfl | rfl | rfl | rfl | rfl | rfl | rfl | rfl <;> exact ⟨_, rfl⟩
  exact va_alen ok.hx ok.hb ok.hK hP a t (cA := gy G t) (x := (m, arow (gr G) M a t)) (by rw [Wd_at (by rw [hF.1]; exact ha.1), ce_a ha.2]) hty hv d (kk n0 H locs lsA cells slots ok h1 h2 hP hD hS hl)
/-! returns -/
theorem w_ireturn {ty : FieldType} {v : Int32} (d : decode cc pc = .ok (.ireturn, 1)) (hn : narrow ty (.int v) = .int v) (h : Post (some (.int v)) M) : PW G own cc nL (some ty) Post PostX n pc ls [.int v] M := by
  intro n0 H locs lsA cells slots ok h1 h2 hP hD hS hl
  refine W.widen (k := n0) (n := 6 * n0) (by omega) (by omega) (vx_ret (W.zret ok.hx ok.hb ok.hr hn (fun t ht hW => ⟨⟨gr G, some (.int v), M, ok.ext, rfl, h, by rw [ht]; exact hP, hD⟩, hS.F ht⟩) hS.2.2 d ok.hlk))
theorem w_lreturn {v : Int64} (d : decode cc pc = .ok (.lreturn, 1)) (h : Post (some (.long v)) M) : PW G own cc nL (some .long) Post PostX n pc ls [.long v] M := by
  intro n0 H locs lsA cells slots ok h1 h2 hP hD hS hl
  refine W.widen (k := n0) (n := 6 * n0) (by omega) (by omega) (vx_ret (W.lret ok.hx ok.hb ok.hr (fun t ht hW => ⟨⟨gr G, some (.long v), M, ok.ext, rfl, h, by rw [ht]; exact hP, hD⟩, hS.F ht⟩) hS.2.2 d ok.hlk))
theorem w_dreturn {v : UInt64} (d : decode cc pc = .ok (.dreturn, 1)) (h : Post (some (.double v)) M) : PW G own cc nL (some .double) Post PostX n pc ls [.double v] M := by
  intro n0 H locs lsA cells slots ok h1 h2 hP hD hS hl
  refine W.widen (k := n0) (n := 6 * n0) (by omega) (by omega) (vx_ret (W.dret ok.hx ok.hb ok.hr (fun t ht hW => ⟨⟨gr G, some (.double v), M, ok.ext, rfl, h, by rw [ht]; exact hP, hD⟩, hS.F ht⟩) hS.2.2 d ok.hlk))
theorem w_areturn {v : Nat} {C : String} (d : decode cc pc = .ok (.areturn, 1)) (h : Post (some (.ref v)) M) : PW G own cc nL (some (.object C)) Post PostX n pc ls [.ref v] M := by
  intro n0 H locs lsA cells slots ok h1 h2 hP hD hS hl
  refine W.widen (k := n0) (n := 6 * n0) (by omega) (by omega) (vx_ret (W.aret ok.hx ok.hb ok.hr (Or.inl ⟨C, rfl⟩) (Or.inr ⟨gr G v, rfl⟩) (fun t ht hW => ⟨⟨gr G, some (.ref v), M, ok.ext, rfl, h, by rw [ht]; exact hP, hD⟩, hS.F ht⟩) hS.2.2 d ok.hlk))
theorem w_return (d : decode cc pc = .ok (.return_, 1)) (h : Post none M) : PW G own cc nL none Post PostX n pc ls [] M := by
  intro n0 H locs lsA cells slots ok h1 h2 hP hD hS hl
  refine W.widen (k := n0) (n := 6 * n0) (by omega) (by omega) (vx_ret (W.vret ok.hx ok.hb ok.hr (fun t ht hW => ⟨⟨gr G, none, M, ok.ext, rfl, h, by rw [ht]; exact hP, hD⟩, hS.F ht⟩) hS.2.2 d ok.hlk))
end
