/-! OBJECTS IN THE MAKING -/
/-- the context with other addresses -/
def setr (G : Cx) (a : Nat → Nat) : Cx := (G.1, (gD G, gy G, a, gE G, gA G, gd G, gt G))
/-- b goes on where a ended: n objects stand -/
def Ext (a : Nat → Nat) (n : Nat) (b : Nat → Nat) : Prop := ∀ i, i < n ∨ 124 ≤ i → b i = a i
theorem Ext.rf {a : Nat → Nat} {n : Nat} : Ext a n a := fun _ _ => rfl
theorem Ext.trans {a b c : Nat → Nat} {m n : Nat} (h : m ≤ n) (h1 : Ext a m b) (h2 : Ext b n c) : Ext a m c := fun i hi => (h2 i (by omega)).trans (h1 i hi)
def tI (t a k : Nat) : Int32 := if (a = 0 ∧ k = 9 ∧ 1 ≤ t) ∨ (a = 96 ∧ k = 8 ∧ 2 ≤ t) then 11 else 0
/-- n objects, Z: which references are set, F: the calculator's, t: how many totals lines were set -/
def KM (n : Nat) (Z : Nat → Nat → Bool) (F : Nat → Nat) (t : Nat) : Mem := (tI t, fun _ _ => 0, fun _ _ => 0, F, n, Z)
def CK (n : Nat) (Z : Nat → Nat → Bool) (F : Nat → Nat) : Prop := ∀ a k, Z a k = true → a < n ∧ (if a = 7 ∧ 2 ≤ k then F k < n else rf a k < n)
theorem CK.up {n : Nat} {Z : Nat → Nat → Bool} {F : Nat → Nat} (h : CK n Z F) : CK (n + 1) Z F := by
  intro a k hz
  obtain ⟨h1, h2⟩ := h a k hz
  refine ⟨by omega, ?_⟩
  split at h2
  · rename_i q; rw [if_pos q]; omega
  · rename_i q; rw [if_neg q]; omega
theorem CK.set {n : Nat} {Z : Nat → Nat → Bool} {F : Nat → Nat} (h : CK n Z F) {a k : Nat} (ha : a < n) (hk : ¬ (a = 7 ∧ 2 ≤ k)) (hr : rf a k < n) : CK n (up2 Z a k true) F := by
  intro b j hz
  by_cases hb : b = a ∧ j = k
  · obtain ⟨rfl, rfl⟩ := hb
    exact ⟨ha, by rw [if_neg hk]; exact hr⟩
  · rw [up2_n _ _ hb] at hz
    exact h b j hz
theorem CK.setF {n : Nat} {Z : Nat → Nat → Bool} {F : Nat → Nat} (h : CK n Z F) {k v : Nat} (ha : 7 < n) (hk : 2 ≤ k) (hv : v < n) : CK n (up2 Z 7 k true) (va_up F k v) := by
  intro b j hz
  by_cases hb : b = 7 ∧ j = k
  · obtain ⟨rfl, rfl⟩ := hb
    exact ⟨ha, by rw [if_pos ⟨rfl, hk⟩, va_up_self]; exact hv⟩
  · rw [up2_n _ _ hb] at hz
    obtain ⟨h1, h2⟩ := h b j hz
    refine ⟨h1, ?_⟩
    by_cases q : b = 7 ∧ 2 ≤ j
    · rw [if_pos q] at h2 ⊢
      rw [va_up_ne _ _ (fun z => hb ⟨q.1, z⟩)]
      exact h2
    · rw [if_neg q] at h2 ⊢
      exact h2
def okN (n r : Nat) : Prop := r < n ∨ 124 ≤ r
def okV (n : Nat) (v : Value) : Prop := match v with
  | .ref r => okN n r
  | _ => True
def okL (n : Nat) : List (Nat × Value) → Prop
  | [] => True
  | q :: r => okV n q.2 ∧ okL n r
def okS (n : Nat) : List Value → Prop
  | [] => True
  | v :: r => okV n v ∧ okS n r
theorem tv_ext {a b : Nat → Nat} {n : Nat} (h : Ext a n b) {v : Value} (hv : okV n v) : tv b v = tv a v := by
  cases v with
  | ref r => exact congrArg Value.ref (h r hv)
  | _ => rfl
theorem lt_ext {a b : Nat → Nat} {n : Nat} (h : Ext a n b) : ∀ ls : List (Nat × Value), okL n ls → lt b ls = lt a ls
  | [], _ => rfl
  | q :: r, hq => by
    have ih := lt_ext h r hq.2
    unfold lt at ih ⊢
    rw [List.map_cons, List.map_cons, ih, tv_ext h hq.1]
theorem st_ext {a b : Nat → Nat} {n : Nat} (h : Ext a n b) : ∀ st : List Value, okS n st → st.map (tv b) = st.map (tv a)
  | [], _ => rfl
  | v :: r, hq => by rw [List.map_cons, List.map_cons, st_ext h r hq.2, tv_ext h hq.1]
theorem Ok.setr {G : Cx} {own : String} {cc : ByteArray} {nL n0 : Nat} {rt : Option FieldType} (ok : Ok G own cc nL rt n0) {a : Nat → Nat} (h : gE G a) : Ok (setr G a) own cc nL rt n0 :=
  ⟨ok.hx, ok.hb, ok.hml, ok.hr, ok.hown, ok.hts, ok.hlk, ok.hK, ok.base, ok.tr, ok.room, h, ok.hA, ok.tab⟩
theorem ks1 : ∀ k, k < 9 → 2 ≤ k → (ksOf 1)[k]? ≠ some 2 := by decide
theorem ks3 : ∀ k, k < 9 → k < 2 → ∀ q, (ksOf 1)[k]? = some q → q < 3 := by
  intro k _ hk q hq
  rcases (show k = 0 ∨ k = 1 by omega) with rfl | rfl <;> (cases hq; decide)
theorem ksn {ci : Nat} (hc : ci ≠ 1) : ∀ q ∈ ksOf ci, q < 3 := by
  match ci, hc with
  | 0, _ => decide
  | 2, _ => decide
  | 3, _ => decide
  | 4, _ => decide
  | 5, _ => decide
  | (n + 6), _ => simp only [ksOf]; decide
theorem ce_ext {cy : Nat → ClassId} {a b : Nat → Nat} {n t : Nat} {Z : Nat → Nat → Bool} {F : Nat → Nat} (hC : CK n Z F) (h : Ext a n b) (x : Nat) : ce cy b (KM n Z F t) x = ce cy a (KM n Z F t) x := by
  unfold ce
  cases hs : sh x with
  | inl q =>
    have h7 : x ≠ 7 := fun e => by rw [e] at hs; cases hs
    have e : arow b (KM n Z F t) x q.1 = arow a (KM n Z F t) x q.1 := by
      unfold arow
      split
      · rfl
      · split
        · rfl
        · split
          · rfl
          · congr 4
            funext k
            show (bif Z x k then some (b (rf x k)) else none) = bif Z x k then some (a (rf x k)) else none
            cases hz : Z x k with
            | false => rfl
            | true =>
              obtain ⟨h1, h2⟩ := hC x k hz
              rw [if_neg (fun z => h7 z.1)] at h2
              rw [h _ (Or.inl h2)]
    simp only [e]
  | inr ci =>
    have e : flds b (KM n Z F t) x (ksOf ci) 0 = flds a (KM n Z F t) x (ksOf ci) 0 := by
      apply List.ext_getElem?
      intro k
      by_cases hk : k < (ksOf ci).length
      · obtain ⟨q, hq⟩ : ∃ q, (ksOf ci)[k]? = some q := ⟨_, List.getElem?_eq_getElem hk⟩
        rw [flds_at b _ x _ 0 k q hq, flds_at a _ x _ 0 k q hq, Nat.zero_add]
        congr 1
        match q, hq with
        | 0, _ => rfl
        | 1, _ => rfl
        | 2, hq =>
          show (bif Z x k then Value.ref (b (rf x k)) else .null) = bif Z x k then Value.ref (a (rf x k)) else .null
          cases hz : Z x k with
          | false => rfl
          | true =>
            obtain ⟨h1, h2⟩ := hC x k hz
            have h3 : rf x k < n := by
              split at h2
              · rename_i z
                exfalso
                have hc1 : ci = 1 := by rw [z.1] at hs; cases hs; rfl
                subst hc1
                exact ks1 k (by simpa [ksOf] using hk) z.2 hq
              · exact h2
            rw [h _ (Or.inl h3)]
        | (q + 3), hq =>
          show (bif Z x k then Value.ref (b (F k)) else .null) = bif Z x k then Value.ref (a (F k)) else .null
          cases hz : Z x k with
          | false => rfl
          | true =>
            obtain ⟨h1, h2⟩ := hC x k hz
            have hc1 : ci = 1 := Classical.byContradiction fun hc => by
              have := ksn hc (q + 3) (List.mem_of_getElem? hq)
              omega
            subst hc1
            have hx7 := sh_calc hs
            have hk9 : k < 9 := by simpa [ksOf] using hk
            have h3 : F k < n := by
              split at h2
              · exact h2
              · rename_i z
                exfalso
                have := ks3 k hk9 (by omega) (q + 3) hq
                omega
            rw [h _ (Or.inl h3)]
      · rw [List.getElem?_eq_none (by rw [flds_len]; omega), List.getElem?_eq_none (by rw [flds_len]; omega)]
    simp only [e]
theorem Wd_new {cy : Nat → ClassId} {a b : Nat → Nat} {n t : Nat} {Z : Nat → Nat → Bool} {F : Nat → Nat} (hC : CK n Z F) (h : Ext a n b) : Wd cy b (KM (n + 1) Z F t) = Wd cy a (KM n Z F t) ++ [(b n, ce cy b (KM (n + 1) Z F t) n)] := by
  unfold Wd
  rw [show mN (KM (n + 1) Z F t) = n + 1 from rfl, show mN (KM n Z F t) = n from rfl, List.range_succ, List.map_append]
  congr 1
  apply List.map_congr_left
  intro x hx
  have hx' := List.mem_range.mp hx
  have e : ce cy b (KM (n + 1) Z F t) x = ce cy b (KM n Z F t) x := ce_same rfl rfl rfl rfl (fun _ => rfl)
  rw [e, ce_ext hC h x, h x (Or.inl hx')]
theorem ext_new {a : Nat → Nat} {n q : Nat} (h : n < 124) : Ext a n (va_up a n q) := fun i hi => va_up_ne _ _ (by omega)
def dfl (q : Nat) : Value := match q with
  | 0 => .int 0
  | 1 => .long 0
  | _ => .null
theorem fv_new {adr : Nat → Nat} {n t : Nat} {Z : Nat → Nat → Bool} {F : Nat → Nat} (hC : CK n Z F) (hz : ∀ k, tI t n k = 0) (k q : Nat) : fv adr (KM (n + 1) Z F t) n k q = dfl q := by
  have hZ : Z n k = false := by
    cases h : Z n k with
    | false => rfl
    | true => exact absurd (hC n k h).1 (by omega)
  match q with
  | 0 => show Value.int (tI t n k) = .int 0; rw [hz]
  | 1 => rfl
  | 2 => show (bif Z n k then Value.ref (adr (rf n k)) else .null) = .null; rw [hZ]; rfl
  | (q + 3) => show (bif Z n k then Value.ref (adr (F k)) else .null) = .null; rw [hZ]; rfl
/-- the classes of which arrays are made -/
def aos : List String := ["FormOffice$Text", "FormOffice$Return", "FormOffice$Account", "FormOffice$Table"]
def AoAll (U : State) : Prop := ∀ C ∈ aos, va_AO C U
theorem AoAll.moved {u U : State} (hvm : u.vm.Alike U.vm) (h : AoAll u) : AoAll U := fun C hC => (h C hC).moved hvm
/-- the entry idx of own's pool is the class ci, which can be made -/
def NW (own : String) (idx ci : Nat) : Prop := ∃ (r : vw_C) (ty : Nat → FieldType), vwCl[ci]? = some r ∧ Cond.classLink own idx r.1 ∈ WW ∧ Cond.instantiable r.1 r.2.2 ∈ WW ∧ Cond.initialized r.1 ∈ WW ∧ (∀ w ∈ u_ws r.1 r.2.1 r.2.2, w ∈ WW) ∧ (∀ k, k < r.2.2 → parseFieldDescriptor (r.2.1 k).2.2.1 = some (ty k)) ∧ (ksOf ci).length = r.2.2 ∧ ∀ j, j < r.2.2 → defaultValue (ty j) = dfl ((ksOf ci).getD j 0)
/-- a final field of the own class -/
def FPF (own : String) (idx ci k : Nat) (ty : FieldType) : Prop := ∃ r : vw_C, vwCl[ci]? = some r ∧ k < r.2.2 ∧ Cond.fieldLink own idx (r.2.1 k).1 (r.2.1 k).2.1 (r.2.1 k).2.2.1 ∈ WW ∧ (∀ w ∈ u_ws r.1 r.2.1 r.2.2, w ∈ WW) ∧
  (r.2.1 k).2.2.2 = true ∧ (r.2.1 k).1 = own ∧ parseFieldDescriptor (r.2.1 k).2.2.1 = some ty ∧ (∃ ty0 : Nat → FieldType, ∀ k, k < r.2.2 → parseFieldDescriptor (r.2.1 k).2.2.1 = some (ty0 k)) ∧ ∀ a, a < r.2.2 → ∀ b, b < r.2.2 → a ≠ b → (r.2.1 a).2.1 ≠ (r.2.1 b).2.1
section
variable {G : Cx} {own : String} {cc : ByteArray} {nL : Nat} {rt : Option FieldType} {Post : Option Value → Mem → Prop} {PostX : String → Mem → Prop} {nn pc : Nat} {ls : List (Nat × Value)} {st : List Value} {n t : Nat} {Z : Nat → Nat → Bool} {F : Nat → Nat}
theorem k_new {idx ci m0 n' u N : Nat} (nw : NW own idx ci) (hC : CK n Z F) (hs : sh n = .inr ci) (hN : (ksOf ci).length = N) (hz : ∀ k, tI t n k = 0) (h124 : n < 124) (hcl : ∀ a b, gE G a → Ext a m0 b → gE G b) (hm : m0 ≤ n) (hls : okL n ls) (hst : okS n st) (hu : 1 ≤ u ∧ N ≤ 6 * u) (hnn : n' + u ≤ nn) (d : decode cc pc = .ok (.new idx, 3))
    (kk : ∀ b, PW (setr G b) own cc nL rt Post PostX n' (pc + 3) ls (.ref n :: st) (KM (n + 1) Z F t)) : PW G own cc nL rt Post PostX nn pc ls st (KM n Z F t) := by
  intro n0 H locs lsA cells slots ok h1 h2 hP hD hS hl
  obtain ⟨⟨C, T, N'⟩, ty, hr, w1, w2, w3, hu5, hty, hlen, hdf⟩ := nw
  have hNN : N' = N := hlen.symm.trans hN
  subst hNN
  have hR := ok.room
  refine va_new (D := gD G) (ci := ci) (C := C) (T := T) (N := N') (fs := flds (gr G) (KM (n + 1) Z F t) n (ksOf ci) 0) ok.hx ok.hb ok.hts hu5 ty hty ok.hown (ok.hts _ w1) (ok.hts _ w2) (ok.hts _ w3) ok.hK hP hD hS ok.hA hr (fun j hj => ?_) (by rw [hR]; simp only [rmm]; omega) (by rw [hR]; simp only [rmm]; omega) d (fun q H1 hP1 hD1 hS1 => ?_)
  · have hj' : j < (ksOf ci).length := by rw [hN]; exact hj
    rw [hdf j hj]
    have e : (flds (gr G) (KM (n + 1) Z F t) n (ksOf ci) 0)[j]? = some (dfl ((ksOf ci).getD j 0)) := by
      rw [flds_at _ _ _ _ 0 j _ (List.getElem?_eq_getElem hj'), Nat.zero_add, fv_new hC hz]
      congr 2
      rw [List.getD_eq_getElem?_getD, List.getElem?_eq_getElem hj']
      rfl
    exact (congrArg (fun o : Option Value => o.getD Value.null) e).symm
  · have hE : Ext (gr G) n (va_up (gr G) n q) := ext_new h124
    have hg : gE G (va_up (gr G) n q) := hcl _ _ ok.ext (fun i hi => hE i (by omega))
    have hce : ce (gy G) (va_up (gr G) n q) (KM (n + 1) Z F t) n = .inr (ci, flds (gr G) (KM (n + 1) Z F t) n (ksOf ci) 0) := by
      rw [ce_o hs]
      congr 2
      apply List.ext_getElem?
      intro j
      by_cases hj : j < (ksOf ci).length
      · rw [flds_at _ _ _ _ 0 j _ (List.getElem?_eq_getElem hj), flds_at _ _ _ _ 0 j _ (List.getElem?_eq_getElem hj), Nat.zero_add, fv_new hC hz, fv_new hC hz]
      · rw [List.getElem?_eq_none (by rw [flds_len]; omega), List.getElem?_eq_none (by rw [flds_len]; omega)]
    have hW : Wd (gy G) (va_up (gr G) n q) (KM (n + 1) Z F t) = Wd (gy G) (gr G) (KM n Z F t) ++ [(q, .inr (ci, flds (gr G) (KM (n + 1) Z F t) n (ksOf ci) 0))] := by
      rw [Wd_new hC hE, hce, va_up_self]
    rw [← hW] at hP1 hD1
    have := kk (va_up (gr G) n q) n0 H1 locs lsA (cells + 1) (slots + N') (ok.setr hg) (by omega) (by omega) hP1 hD1 hS1 (by
      show lv_has lsA nL (lt (va_up (gr G) n q) ls)
      rw [lt_ext hE ls hls]
      exact hl)
    have e2 : (Value.ref n :: st).map (tv (va_up (gr G) n q)) = .ref q :: st.map (tv (gr G)) := by
      rw [List.map_cons, st_ext hE st hst]
      congr 1
      exact congrArg Value.ref (va_up_self _ _ _)
    have this' : Wg G H1 locs (cells + 1) (slots + N') (Zn G Post PostX n0) (F0 (gm G) (pc + 3) lsA ((Value.ref n :: st).map (tv (va_up (gr G) n q)))) := this
    rw [e2] at this'
    exact this'
/-- the array type of an entry of tysOf, made by newarray -/
theorem arow_new {adr : Nat → Nat} {tt m : Nat} {ty : FieldType} {cA : ClassId} (hC : CK n Z F) (hz : ∀ k, tI t n k = 0) (h : (tt, ty) ∈ [(0, FieldType.char), (1, .int), (2, .long), (3, .boolean), (4, .double)]) : vp_cell cA (m, arow adr (KM (n + 1) Z F t) n tt) = arrV cA m (fun _ => defaultValue ty) := by
  have e : tI t n = fun _ => 0 := funext hz
  simp only [List.mem_cons, Prod.mk.injEq, List.not_mem_nil, or_false] at h
  rcases h with ⟨rfl, rfl⟩ | ⟨rfl, rfl⟩ | ⟨rfl, rfl⟩ | ⟨rfl, rfl⟩ | ⟨rfl, rfl⟩
  · show vp_cell cA (m, .inl (tI t n)) = _; rw [e]; rfl
  · show vp_cell cA (m, .inl (tI t n)) = _; rw [e]; rfl
  · rfl
  · show vp_cell cA (m, .inl (tI t n)) = _; rw [e]; rfl
  · rfl
theorem k_newa {at_ : ArrayType} {tt m m0 n' u : Nat} {ty : FieldType} {v : Int32} (hw : Cond.arrayClass ty ∈ WW) (hty : newarray.typeOf at_ = ty) (htt : (tt, ty) ∈ [(0, FieldType.char), (1, .int), (2, .long), (3, .boolean), (4, .double)]) (hC : CK n Z F) (hs : sh n = .inl (tt, m)) (hz : ∀ k, tI t n k = 0) (h124 : n < 124) (hcl : ∀ a b, gE G a → Ext a m0 b → gE G b) (hm : m0 ≤ n) (hls : okL n ls) (hst : okS n st) (hv : v = nI m) (hmm : m < 1000) (hu : 1 ≤ u ∧ m ≤ 6 * u) (hnn : n' + u ≤ nn) (d : decode cc pc = .ok (.newarray at_, 2))
    (kk : ∀ b, PW (setr G b) own cc nL rt Post PostX n' (pc + 2) ls (.ref n :: st) (KM (n + 1) Z F t)) : PW G own cc nL rt Post PostX nn pc ls (.int v :: st) (KM n Z F t) := by
  intro n0 H locs lsA cells slots ok h1 h2 hP hD hS hl
  have hR := ok.room
  subst hv
  have hcb : componentBytes ty ≤ 8 := by
    simp only [List.mem_cons, Prod.mk.injEq, List.not_mem_nil, or_false] at htt
    rcases htt with ⟨-, rfl⟩ | ⟨-, rfl⟩ | ⟨-, rfl⟩ | ⟨-, rfl⟩ | ⟨-, rfl⟩ <;> decide
  have hmul : m * componentBytes ty ≤ m * 8 := Nat.mul_le_mul_left m hcb
  refine va_newa (D := gD G) (ty := ty) (N' := m) (a0 := (m, arow (gr G) (KM (n + 1) Z F t) n tt)) ok.hx ok.hb (by rw [hty]; exact ok.hts _ hw) hty ok.hK hP hD hS ok.hA (fun cA => arow_new hC hz htt) (nI_pos (by omega)) (clN (by omega)) (by omega) (by rw [hR]; simp only [rmm]; omega) (by rw [hR]; simp only [rmm]; omega) d (fun q cA H1 hK1 hP1 hD1 hS1 => ?_)
  have hcA : cA = gy G tt := by
    have g1 := (hK1.2 9 (cA, ty) rfl).2
    simp only [List.mem_cons, Prod.mk.injEq, List.not_mem_nil, or_false] at htt
    rcases htt with ⟨rfl, rfl⟩ | ⟨rfl, rfl⟩ | ⟨rfl, rfl⟩ | ⟨rfl, rfl⟩ | ⟨rfl, rfl⟩
    · exact Option.some.inj (g1.symm.trans (ok.hK.2 0 (gy G 0, .char) rfl).2)
    · exact Option.some.inj (g1.symm.trans (ok.hK.2 1 (gy G 1, .int) rfl).2)
    · exact Option.some.inj (g1.symm.trans (ok.hK.2 2 (gy G 2, .long) rfl).2)
    · exact Option.some.inj (g1.symm.trans (ok.hK.2 3 (gy G 3, .boolean) rfl).2)
    · exact Option.some.inj (g1.symm.trans (ok.hK.2 4 (gy G 4, .double) rfl).2)
  subst hcA
  have hE : Ext (gr G) n (va_up (gr G) n q) := ext_new h124
  have hg : gE G (va_up (gr G) n q) := hcl _ _ ok.ext (fun i hi => hE i (by omega))
  have har : arow (va_up (gr G) n q) (KM (n + 1) Z F t) n tt = arow (gr G) (KM (n + 1) Z F t) n tt := by
    simp only [List.mem_cons, Prod.mk.injEq, List.not_mem_nil, or_false] at htt
    rcases htt with ⟨rfl, -⟩ | ⟨rfl, -⟩ | ⟨rfl, -⟩ | ⟨rfl, -⟩ | ⟨rfl, -⟩ <;> rfl
  have hce : ce (gy G) (va_up (gr G) n q) (KM (n + 1) Z F t) n = .inl (gy G tt, m, arow (gr G) (KM (n + 1) Z F t) n tt) := by
    rw [ce_a hs, har]
  have hW : Wd (gy G) (va_up (gr G) n q) (KM (n + 1) Z F t) = Wd (gy G) (gr G) (KM n Z F t) ++ [(q, .inl (gy G tt, m, arow (gr G) (KM (n + 1) Z F t) n tt))] := by
    rw [Wd_new hC hE, hce, va_up_self]
  rw [← hW] at hP1 hD1
  have := kk (va_up (gr G) n q) n0 H1 locs lsA (cells + 1) (slots + m) (ok.setr hg) (by omega) (by omega) hP1 hD1 hS1 (by
    show lv_has lsA nL (lt (va_up (gr G) n q) ls)
    rw [lt_ext hE ls hls]
    exact hl)
  have e2 : (Value.ref n :: st).map (tv (va_up (gr G) n q)) = .ref q :: st.map (tv (gr G)) := by
    rw [List.map_cons, st_ext hE st hst]
    congr 1
    exact congrArg Value.ref (va_up_self _ _ _)
  have this' : Wg G H1 locs (cells + 1) (slots + m) (Zn G Post PostX n0) (F0 (gm G) (pc + 2) lsA ((Value.ref n :: st).map (tv (va_up (gr G) n q)))) := this
  rw [e2] at this'
  exact this'
theorem k_newq {idx tt m m0 n' u : Nat} {C : String} {v : Int32} (hw : Cond.classLink own idx C ∈ WW) (hAo : AoAll (gs G)) (hao : C ∈ aos) (htt : (tt, C) ∈ [(5, "FormOffice$Account"), (6, "FormOffice$Return"), (7, "FormOffice$Table"), (8, "FormOffice$Text")]) (hC : CK n Z F) (hs : sh n = .inl (tt, m)) (h124 : n < 124) (hcl : ∀ a b, gE G a → Ext a m0 b → gE G b) (hm : m0 ≤ n) (hls : okL n ls) (hst : okS n st) (hv : v = nI m) (hmm : m < 1000) (hu : 1 ≤ u ∧ m ≤ 6 * u) (hnn : n' + u ≤ nn) (d : decode cc pc = .ok (.anewarray idx, 3))
    (kk : ∀ b, PW (setr G b) own cc nL rt Post PostX n' (pc + 3) ls (.ref n :: st) (KM (n + 1) Z F t)) : PW G own cc nL rt Post PostX nn pc ls (.int v :: st) (KM n Z F t) := by
  intro n0 H locs lsA cells slots ok h1 h2 hP hD hS hl
  have hR := ok.room
  subst hv
  refine va_newq (D := gD G) (C := C) (N' := m) ok.hx ok.hb ok.hown (ok.hts _ hw) (hAo C hao) ok.hK hP hD hS ok.hA (nI_pos (by omega)) (clN (by omega)) (by omega) (by rw [hR]; simp only [rmm]; omega) (by rw [hR]; simp only [rmm]; omega) d (fun q cA H1 hK1 hP1 hD1 hS1 => ?_)
  have hcA : cA = gy G tt := by
    obtain ⟨_, _, _, _, _, g1⟩ := (hK1.2 9 (cA, .object C) rfl).2
    simp only [List.mem_cons, Prod.mk.injEq, List.not_mem_nil, or_false] at htt
    rcases htt with ⟨rfl, rfl⟩ | ⟨rfl, rfl⟩ | ⟨rfl, rfl⟩ | ⟨rfl, rfl⟩
    · obtain ⟨_, _, _, _, _, g2⟩ := (ok.hK.2 5 (gy G 5, .object "FormOffice$Account") rfl).2
      exact Option.some.inj (g1.symm.trans g2)
    · obtain ⟨_, _, _, _, _, g2⟩ := (ok.hK.2 6 (gy G 6, .object "FormOffice$Return") rfl).2
      exact Option.some.inj (g1.symm.trans g2)
    · obtain ⟨_, _, _, _, _, g2⟩ := (ok.hK.2 7 (gy G 7, .object "FormOffice$Table") rfl).2
      exact Option.some.inj (g1.symm.trans g2)
    · obtain ⟨_, _, _, _, _, g2⟩ := (ok.hK.2 8 (gy G 8, .object "FormOffice$Text") rfl).2
      exact Option.some.inj (g1.symm.trans g2)
  subst hcA
  have hE : Ext (gr G) n (va_up (gr G) n q) := ext_new h124
  have hg : gE G (va_up (gr G) n q) := hcl _ _ ok.ext (fun i hi => hE i (by omega))
  have har : arow (va_up (gr G) n q) (KM (n + 1) Z F t) n tt = .inr (.inr (.inr (.inr (fun _ => none)))) := by
    have hno : (fun k => bif mZ (KM (n + 1) Z F t) n k then some (va_up (gr G) n q (rf n k)) else none) = fun _ => none := by
      funext k
      show (bif Z n k then some (va_up (gr G) n q (rf n k)) else none) = none
      cases hz : Z n k with
      | false => rfl
      | true => exact absurd (hC n k hz).1 (by omega)
    unfold arow
    simp only [List.mem_cons, Prod.mk.injEq, List.not_mem_nil, or_false] at htt
    rw [hno, if_neg (by omega), if_neg (by omega), if_neg (by omega)]
  have hce : ce (gy G) (va_up (gr G) n q) (KM (n + 1) Z F t) n = .inl (gy G tt, m, .inr (.inr (.inr (.inr (fun _ => none))))) := by
    rw [ce_a hs, har]
  have hW : Wd (gy G) (va_up (gr G) n q) (KM (n + 1) Z F t) = Wd (gy G) (gr G) (KM n Z F t) ++ [(q, .inl (gy G tt, m, .inr (.inr (.inr (.inr (fun _ => none))))))] := by
    rw [Wd_new hC hE, hce, va_up_self]
  rw [← hW] at hP1 hD1
  have := kk (va_up (gr G) n q) n0 H1 locs lsA (cells + 1) (slots + m) (ok.setr hg) (by omega) (by omega) hP1 hD1 hS1 (by
    show lv_has lsA nL (lt (va_up (gr G) n q) ls)
    rw [lt_ext hE ls hls]
    exact hl)
  have e2 : (Value.ref n :: st).map (tv (va_up (gr G) n q)) = .ref q :: st.map (tv (gr G)) := by
    rw [List.map_cons, st_ext hE st hst]
    congr 1
    exact congrArg Value.ref (va_up_self _ _ _)
  have this' : Wg G H1 locs (cells + 1) (slots + m) (Zn G Post PostX n0) (F0 (gm G) (pc + 3) lsA ((Value.ref n :: st).map (tv (va_up (gr G) n q)))) := this
  rw [e2] at this'
  exact this'
end
