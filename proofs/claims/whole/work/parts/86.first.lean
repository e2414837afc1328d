/-! THE MEMORY BEHIND THE CONSTRUCTORS -/
def Zf : Nat → Nat → Bool := zM (lpA (lpR (lpT (zO (fun _ _ => false)) 12) 12) 3)
def Ff : Nat → Nat := fO (fun _ => 0)
def need (a k : Nat) : Bool := match sh a with
  | .inl q => Nat.ble 5 q.1 && Nat.blt k q.2
  | .inr ci => Nat.ble 2 ((ksOf ci).getD k 0)
def allZ : Bool := (List.range 124).all (fun a => (List.range 34).all (fun k => !(need a k) || Zf a k))
theorem allZ_t : allZ = true := by decide +kernel
theorem Zf_t {a k : Nat} (ha : a < 124) (hk : k < 34) (h : need a k = true) : Zf a k = true := by
  have h1 := List.all_eq_true.mp (List.all_eq_true.mp allZ_t a (List.mem_range.mpr ha)) k (List.mem_range.mpr hk)
  rw [h] at h1
  simpa using h1
def M0f : Mem := (tI 2, fun _ _ => 0, fun _ _ => 0, Ff, 124, fun _ _ => true)
theorem arrV_cg {c : ClassId} {n : Nat} {f g : Nat → Value} (h : ∀ j, j < n → f j = g j) : arrV c n f = arrV c n g := by
  unfold arrV
  have e : (fun j : Fin n => f j.val) = fun j : Fin n => g j.val := funext fun j => h j.val j.isLt
  rw [e]
theorem ks_len (ci : Nat) : (ksOf ci).length ≤ 34 := by
  match ci with
  | 0 => decide
  | 1 => decide
  | 2 => decide
  | 3 => decide
  | 4 => decide
  | 5 => decide
  | (n + 6) => simp only [ksOf]; decide
def m40 : Bool := (List.range 124).all (fun a => match sh a with | .inl q => Nat.ble q.1 4 || Nat.ble q.2 12 | .inr _ => true)
theorem m40_t : m40 = true := by decide +kernel
theorem at_full {D : va_G} {cy : Nat → ClassId} {adr : Nat → Nat} {H : Heap} {a : Nat} (ha : a < 124) (h : va_at D vwCl (adr a, ce cy adr (KM 124 Zf Ff 2) a) H) : va_at D vwCl (adr a, ce cy adr M0f a) H := by
  cases hs : sh a with
  | inl q =>
    obtain ⟨t, m⟩ := q
    rw [ce_a hs] at h ⊢
    by_cases h5 : 5 ≤ t
    · have e1 : ∀ M : Mem, arow adr M a t = .inr (.inr (.inr (.inr (fun k => bif mZ M a k then some (adr (rf a k)) else none)))) := fun M => by
        unfold arow
        rw [if_neg (by omega), if_neg (by omega), if_neg (by omega)]
      rw [e1] at h ⊢
      have hm : m ≤ 12 := by
        have z := List.all_eq_true.mp m40_t a (List.mem_range.mpr ha)
        rw [hs] at z
        simp only [Bool.or_eq_true, Nat.ble_eq] at z
        omega
      show H[adr a]? = some (vp_cell (cy t) (m, _))
      have h' : H[adr a]? = some (vp_cell (cy t) (m, .inr (.inr (.inr (.inr (fun k => bif Zf a k then some (adr (rf a k)) else none)))))) := h
      rw [h', vp_cell_q, vp_cell_q]
      congr 1
      refine arrV_cg (fun j hj => ?_)
      have hz : Zf a j = true := Zf_t ha (by omega) (by unfold need; rw [hs]; simp only [Bool.and_eq_true, Nat.ble_eq, Nat.blt_eq]; exact ⟨h5, hj⟩)
      rw [hz]
      rfl
    · have e1 : arow adr M0f a t = arow adr (KM 124 Zf Ff 2) a t := by
        rcases (show t = 0 ∨ t = 1 ∨ t = 2 ∨ t = 3 ∨ t = 4 by omega) with rfl | rfl | rfl | rfl | rfl <;> rfl
      rw [e1]
      exact h
  | inr ci =>
    rw [ce_o hs] at h ⊢
    have e : flds adr M0f a (ksOf ci) 0 = flds adr (KM 124 Zf Ff 2) a (ksOf ci) 0 := by
      apply List.ext_getElem?
      intro k
      by_cases hk : k < (ksOf ci).length
      · have hk34 : k < 34 := Nat.lt_of_lt_of_le hk (ks_len ci)
        rw [flds_at _ _ _ _ 0 k _ (List.getElem?_eq_getElem hk), flds_at _ _ _ _ 0 k _ (List.getElem?_eq_getElem hk), Nat.zero_add]
        congr 1
        have hg : (ksOf ci).getD k 0 = (ksOf ci)[k] := by
          rw [List.getD_eq_getElem?_getD, List.getElem?_eq_getElem hk]
          rfl
        generalize hq : (ksOf ci)[k] = q at hg ⊢
        match q, hg with
        | 0, _ => rfl
        | 1, _ => rfl
        | 2, hg =>
          have hz : Zf a k = true := Zf_t ha hk34 (by unfold need; rw [hs]; simp only [hg]; rfl)
          show Value.ref (adr (rf a k)) = bif Zf a k then Value.ref (adr (rf a k)) else .null
          rw [hz]
          rfl
        | (q + 3), hg =>
          have hz : Zf a k = true := Zf_t ha hk34 (by unfold need; rw [hs]; simp only [hg, Nat.ble_eq]; omega)
          show Value.ref (adr (Ff k)) = bif Zf a k then Value.ref (adr (Ff k)) else .null
          rw [hz]
          rfl
      · rw [List.getElem?_eq_none (by rw [flds_len]; omega), List.getElem?_eq_none (by rw [flds_len]; omega)]
    rw [e]
    exact h
theorem w_full {G : Cx} {own : String} {cc : ByteArray} {nL : Nat} {rt : Option FieldType} {Post : Option Value → Mem → Prop} {PostX : String → Mem → Prop} {n pc : Nat} {ls : List (Nat × Value)} {st : List Value} (k : PW G own cc nL rt Post PostX n pc ls st M0f) : PW G own cc nL rt Post PostX n pc ls st (KM 124 Zf Ff 2) := by
  intro n0 H locs lsA cells slots ok h1 h2 hP hD hS hl
  refine k n0 H locs lsA cells slots ok h1 h2 ?_ ?_ hS hl
  · intro j q hq
    have hj : j < 124 := by
      have := (List.getElem?_eq_some_iff.mp hq).1
      simp only [Wd, List.length_map, List.length_range] at this; exact this
    rw [Wd_at (show j < mN M0f from hj)] at hq
    cases hq
    exact at_full hj (hP j _ (Wd_at (show j < mN (KM 124 Zf Ff 2) from hj)))
  · refine ⟨fun i j p q hp hq e => ?_, fun j q hq => ?_⟩
    · have hi : i < 124 := by
        have := (List.getElem?_eq_some_iff.mp hp).1
        simp only [Wd, List.length_map, List.length_range] at this; exact this
      have hj : j < 124 := by
        have := (List.getElem?_eq_some_iff.mp hq).1
        simp only [Wd, List.length_map, List.length_range] at this; exact this
      rw [Wd_at (show i < mN M0f from hi)] at hp
      rw [Wd_at (show j < mN M0f from hj)] at hq
      cases hp
      cases hq
      exact hD.1 i j _ _ (Wd_at (show i < mN (KM 124 Zf Ff 2) from hi)) (Wd_at (show j < mN (KM 124 Zf Ff 2) from hj)) e
    · have hj : j < 124 := by
        have := (List.getElem?_eq_some_iff.mp hq).1
        simp only [Wd, List.length_map, List.length_range] at this; exact this
      rw [Wd_at (show j < mN M0f from hj)] at hq
      cases hq
      exact hD.2 j (gr G j, ce (gy G) (gr G) (KM 124 Zf Ff 2) j) (Wd_at (show j < mN (KM 124 Zf Ff 2) from hj))
theorem tI_z {a k : Nat} (h : ¬ (a = 0 ∧ k = 9)) (h' : ¬ (a = 96 ∧ k = 8)) : mI M0f a k = 0 := by
  show tI 2 a k = 0
  unfold tI
  rw [if_neg (by omega)]
theorem inv_0 : Inv M0f := by
  refine ⟨⟨rfl, rfl⟩, ⟨0, by omega, tI_z (by omega) (by omega), tI_z (by omega) (by omega), fun j hj => absurd hj (by omega)⟩, fun i hi => ?_, fun t ht => ?_, ⟨⟨11, by omega, rfl, rfl⟩, ⟨0, by omega, rfl, rfl⟩⟩, fun q hq => ?_, fun t ht => ?_, fun k hk => rfl⟩
  · exact ⟨0, 0, by omega, by omega, tI_z (by omega) (by omega), tI_z (by omega) (by omega), fun j hj => absurd hj (by omega), Or.inl ⟨tI_z (by omega) (by omega), rfl, tI_z (by omega) (by omega)⟩⟩
  · exact ⟨0, 0, by omega, by omega, tI_z (by omega) (by omega), tI_z (by omega) (by omega), tI_z (by omega) (by omega), tI_z (by omega) (by omega), ⟨fun z hz => absurd hz (by omega), fun z hz => absurd hz (by omega)⟩, fun z hz => absurd hz (by omega)⟩
  · refine ⟨fun k hk => ?_, Or.inl ⟨tI_z (by omega) (by omega), tI_z (by omega) (by omega), rfl, fun k hk => rfl⟩⟩
    have e1 : mI M0f (48 + 3 * q + 1) k = 0 := tI_z (by omega) (by omega)
    have e2 : mI M0f 107 (12 * q + k) = 0 := tI_z (by omega) (by omega)
    rw [e1]
    exact ⟨e2.symm, by decide, by decide⟩
  · exact ⟨0, by omega, tI_z (by omega) (by omega), tI_z (by omega) (by omega), rfl, fun j hj => absurd hj (by omega)⟩
