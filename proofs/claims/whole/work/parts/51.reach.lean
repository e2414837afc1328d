/-! THE REFERENCE'S AUTOMATON: what it reaches, what it refuses; working out code by rows -/
def Rch (tx : Nat → Int32) (len : Nat) (x : Int32) (s : RS) (x' : Int32) (s' : RS) : Prop := ∃ k, s.1 + k ≤ s'.1 ∧ s'.1 ≤ len ∧ ∀ n, rdL tx len (n + k) x s = rdL tx len n x' s'
theorem Rch.rf {tx : Nat → Int32} {len : Nat} {x : Int32} {s : RS} (h : s.1 ≤ len) : Rch tx len x s x s := ⟨0, Nat.le_refl _, h, fun _ => rfl⟩
theorem Rch.trans {tx : Nat → Int32} {len : Nat} {x y z : Int32} {s t u : RS} (h : Rch tx len x s y t) (h' : Rch tx len y t z u) : Rch tx len x s z u := by
  obtain ⟨k, h1, h2, h3⟩ := h
  obtain ⟨k', g1, g2, g3⟩ := h'
  exact ⟨k' + k, by omega, g2, fun n => by rw [← Nat.add_assoc, h3, g3]⟩
theorem rdL_s {tx : Nat → Int32} {len : Nat} {x : Int32} {s : RS} (hx : 0 < x) (ha : s.1 < len) (n : Nat) : rdL tx len (n + 1) x s = rdL tx len n (rdSt tx len x s).1 (rdSt tx len x s).2 := by
  rw [rdL, if_pos ⟨hx, ha⟩]
theorem rdL_end {tx : Nat → Int32} {len : Nat} {x : Int32} {s : RS} (h : ¬ (0 < x ∧ s.1 < len)) : ∀ n, rdL tx len n x s = (x, s)
  | 0 => rfl
  | n + 1 => by rw [rdL, if_neg h]
theorem Rch.one {tx : Nat → Int32} {len : Nat} {x x' : Int32} {s s' : RS} (hx : 0 < x) (ha : s.1 < len) (h : rdSt tx len x s = (x', s')) (h1 : s.1 < s'.1) (h2 : s'.1 ≤ len) : Rch tx len x s x' s' :=
  ⟨1, h1, h2, fun n => by rw [rdL_s hx ha, h]⟩
def Bad (tx : Nat → Int32) (len : Nat) (x : Int32) (s : RS) : Prop := ∀ n, len ≤ s.1 + n → tB len (rdL tx len n x s) = false
theorem Bad.rch {tx : Nat → Int32} {len : Nat} {x x' : Int32} {s s' : RS} (h : Rch tx len x s x' s') (hb : Bad tx len x' s') : Bad tx len x s := by
  obtain ⟨k, h1, h2, h3⟩ := h
  intro n hn
  obtain ⟨m, rfl⟩ : ∃ m, n = m + k := ⟨n - k, by omega⟩
  rw [h3]
  exact hb m (by omega)
theorem tB_0 {len : Nat} {s : RS} : tB len ((0 : Int32), s) = false := if_neg (fun q => q.1.elim (fun z => absurd (show (0 : Int32) = 1 from z) (by decide)) (fun z => absurd (show (0 : Int32) = 3 from z) (by decide)))
theorem Bad.zero {tx : Nat → Int32} {len : Nat} {s : RS} : Bad tx len 0 s := fun n _ => by rw [rdL_end (fun q => absurd q.1 (by decide))]; exact tB_0
theorem Bad.go {tx : Nat → Int32} {len : Nat} {x : Int32} {s : RS} (hx : 0 < x) (ha : s.1 < len) (h : (rdSt tx len x s).1 = 0) : Bad tx len x s := by
  intro n hn
  obtain ⟨m, rfl⟩ : ∃ m, n = m + 1 := ⟨n - 1, by omega⟩
  rw [rdL_s hx ha, h, rdL_end (fun q => absurd q.1 (by decide))]
  exact tB_0
theorem Bad.fin {tx : Nat → Int32} {len : Nat} {x : Int32} {s : RS} (ha : len ≤ s.1) (h : tB len (x, s) = false) : Bad tx len x s := fun n _ => by rw [rdL_end (fun q => absurd q.2 (by omega))]; exact h
/-! code by rows -/
def opG (V : VV) (k : Nat) (n : Int32) (x y : Int64) : Int64 := match k with
  | 0 => n.toInt64
  | 1 => V.1 n.toNatClampNeg
  | 2 => V.2.1 n.toNatClampNeg
  | 3 => if x < y then x else y
  | 4 => if y < x then x else y
  | 5 => V.2.2 n.toNatClampNeg y
  | 6 => divV (y * n.toInt64) 100 2
  | 7 => x + y
  | 8 => x - y
  | 9 => if x < y then 1 else 0
  | _ => if y < x then 1 else 0
def exG (S A : Nat → Int32) (st : Nat) (V : VV) : Nat → Nat → Nat → (Nat → Int64) → Option (Bool × Nat × (Nat → Int64))
  | 0, _, _, _ => none
  | f + 1, k, dp, sk =>
    if st ≤ k then some (true, dp, sk)
    else if S k = 12 then (if A k < 0 then none else exG S A st V f (A k).toNatClampNeg dp sk)
    else if S k = 11 then (if dp = 0 then none else if sk (dp - 1) = 0 then (if A k < 0 then none else exG S A st V f (A k).toNatClampNeg (dp - 1) sk) else exG S A st V f (k + 1) (dp - 1) sk)
    else if S k < 0 then none
    else if opB (S k).toNatClampNeg (A k) dp = true then
      (if inR (opG V (S k).toNatClampNeg (A k) (sk (dp - 2)) (sk (dp - 1))) = true
        then exG S A st V f (k + 1) (opD (S k).toNatClampNeg dp) (va_up sk (opD (S k).toNatClampNeg dp - 1) (opG V (S k).toNatClampNeg (A k) (sk (dp - 2)) (sk (dp - 1))))
        else some (false, opD (S k).toNatClampNeg dp, va_up sk (opD (S k).toNatClampNeg dp - 1) (opG V (S k).toNatClampNeg (A k) (sk (dp - 2)) (sk (dp - 1)))))
    else none
def envR (M : Mem) (q : Nat) : VV := (mJ M 120, befV M q, tabR M)
theorem opV_G (M : Mem) (q k : Nat) (n : Int32) (x y : Int64) : opV M q k n x y = opG (envR M q) k n x y := rfl
theorem exR_G (M : Mem) (q i : Nat) : ∀ (f k dp : Nat) (sk : Nat → Int64), exR M q i f k dp sk = exG (fun k => mI M 101 (48 * i + k)) (fun k => mI M 102 (48 * i + k)) (mI M 100 i).toNatClampNeg (envR M q) f k dp sk
  | 0, _, _, _ => rfl
  | f + 1, k, dp, sk => by
    rw [exR, exG]
    unfold opR
    simp only [exR_G M q i f, opV_G]
def Run (S A : Nat → Int32) (st : Nat) (V : VV) (k dp : Nat) (sk : Nat → Int64) (k' dp' : Nat) (sk' : Nat → Int64) : Prop := ∃ c, k + c ≤ k' ∧ ∀ f, exG S A st V (f + c) k dp sk = exG S A st V f k' dp' sk'
def Ovf (S A : Nat → Int32) (st : Nat) (V : VV) (k dp : Nat) (sk : Nat → Int64) : Prop := ∃ c, k + c ≤ st ∧ ∀ f, ∃ r, exG S A st V (f + c) k dp sk = some (false, r)
theorem Run.trans {S A : Nat → Int32} {st : Nat} {V : VV} {k dp k1 d1 k2 d2 : Nat} {sk s1 s2 : Nat → Int64} (h : Run S A st V k dp sk k1 d1 s1) (h' : Run S A st V k1 d1 s1 k2 d2 s2) : Run S A st V k dp sk k2 d2 s2 := by
  obtain ⟨c, h1, h2⟩ := h
  obtain ⟨c', g1, g2⟩ := h'
  exact ⟨c' + c, by omega, fun f => by rw [← Nat.add_assoc, h2, g2]⟩
theorem Ovf.run {S A : Nat → Int32} {st : Nat} {V : VV} {k dp k1 d1 : Nat} {sk s1 : Nat → Int64} (h : Run S A st V k dp sk k1 d1 s1) (h' : Ovf S A st V k1 d1 s1) : Ovf S A st V k dp sk := by
  obtain ⟨c, h1, h2⟩ := h
  obtain ⟨c', g1, g2⟩ := h'
  refine ⟨c' + c, by omega, fun f => ?_⟩
  obtain ⟨r, hr⟩ := g2 f
  exact ⟨r, by rw [← Nat.add_assoc, h2, hr]⟩
/-- one operation -/
theorem Run.op {S A : Nat → Int32} {st : Nat} {V : VV} {k dp o : Nat} {sk : Nat → Int64} (hk : k < st) (hS : S k = nI o) (ho : o ≤ 10) (hB : opB o (A k) dp = true) (hin : inR (opG V o (A k) (sk (dp - 2)) (sk (dp - 1))) = true) :
    Run S A st V k dp sk (k + 1) (opD o dp) (va_up sk (opD o dp - 1) (opG V o (A k) (sk (dp - 2)) (sk (dp - 1)))) := by
  refine ⟨1, Nat.le_refl _, fun f => ?_⟩
  have e := clN (i := o) (by omega)
  rw [exG, if_neg (by omega), hS, if_neg (by rw [show (12 : Int32) = nI 12 from rfl, nI_eq (by omega) (by omega)]; omega), if_neg (by rw [show (11 : Int32) = nI 11 from rfl, nI_eq (by omega) (by omega)]; omega), if_neg (nI_pos (by omega)), e, if_pos hB, if_pos hin]
theorem Ovf.op {S A : Nat → Int32} {st : Nat} {V : VV} {k dp o : Nat} {sk : Nat → Int64} (hk : k < st) (hS : S k = nI o) (ho : o ≤ 10) (hB : opB o (A k) dp = true) (hin : inR (opG V o (A k) (sk (dp - 2)) (sk (dp - 1))) = false) : Ovf S A st V k dp sk := by
  refine ⟨1, hk, fun f => ⟨(opD o dp, va_up sk (opD o dp - 1) (opG V o (A k) (sk (dp - 2)) (sk (dp - 1)))), ?_⟩⟩
  have e := clN (i := o) (by omega)
  rw [exG, if_neg (by omega), hS, if_neg (by rw [show (12 : Int32) = nI 12 from rfl, nI_eq (by omega) (by omega)]; omega), if_neg (by rw [show (11 : Int32) = nI 11 from rfl, nI_eq (by omega) (by omega)]; omega), if_neg (nI_pos (by omega)), e, if_pos hB, if_neg (by rw [hin]; decide)]
theorem Run.jump {S A : Nat → Int32} {st : Nat} {V : VV} {k dp j : Nat} {sk : Nat → Int64} (hk : k < st) (hS : S k = 12) (hA : A k = nI j) (hj : k < j) (hj2 : j < 2 ^ 31) : Run S A st V k dp sk j dp sk := by
  refine ⟨1, hj, fun f => ?_⟩
  rw [exG, if_neg (by omega), if_pos hS, hA, if_neg (nI_pos hj2), clN hj2]
theorem Run.zero {S A : Nat → Int32} {st : Nat} {V : VV} {k dp j : Nat} {sk : Nat → Int64} (hk : k < st) (hS : S k = 11) (hd : 0 < dp) (hA : A k = nI j) (hj : k < j) (hj2 : j < 2 ^ 31) (hz : sk (dp - 1) = 0) : Run S A st V k dp sk j (dp - 1) sk := by
  refine ⟨1, hj, fun f => ?_⟩
  rw [exG, if_neg (by omega), if_neg (by rw [hS]; decide), if_pos hS, if_neg (by omega), if_pos hz, hA, if_neg (nI_pos hj2), clN hj2]
theorem Run.nzero {S A : Nat → Int32} {st : Nat} {V : VV} {k dp : Nat} {sk : Nat → Int64} (hk : k < st) (hS : S k = 11) (hd : 0 < dp) (hz : ¬ sk (dp - 1) = 0) : Run S A st V k dp sk (k + 1) (dp - 1) sk := by
  refine ⟨1, Nat.le_refl _, fun f => ?_⟩
  rw [exG, if_neg (by omega), if_neg (by rw [hS]; decide), if_pos hS, if_neg (by omega), if_neg hz]
/-- the class's values and the reference's agree where they are read *-/
def Agr (VC VR : VV) (nm : Int32) : Prop := (∀ i, i < 12 → tb nm i = true → VC.1 i = VR.1 i ∧ inR (VC.1 i) = true) ∧ (∀ i, i < 12 → VC.2.1 i = VR.2.1 i ∧ inR (VC.2.1 i) = true) ∧ ∀ t, t < 3 → ∀ v, inR v = true → VC.2.2 t v = VR.2.2 t v ∧ inR (VC.2.2 t v) = true
theorem Agr.mono {VC VR : VV} {nm nm' : Int32} (h : ∀ i, i < 12 → tb nm i = true → tb nm' i = true) (ha : Agr VC VR nm') : Agr VC VR nm := ⟨fun i hi q => ha.1 i hi (h i hi q), ha.2⟩
/-- code between m and m' that works out to a value *-/
def Sem (stp wth : Nat → Int32) (m m' : Nat) (nm : Int32) (val : VV → Int64) (ovf : VV → Bool) : Prop :=
  m < m' ∧ ∀ (S A : Nat → Int32) (st : Nat) (VC VR : VV), (∀ k, m ≤ k → k < m' → S k = stp k ∧ A k = wth k) → m' ≤ st → st ≤ 48 → Agr VC VR nm →
    (ovf VC = false → inR (val VC) = true ∧ ∀ (dp : Nat) (sk : Nat → Int64), dp ≤ m → ∃ sk', Run S A st VR m dp sk m' (dp + 1) sk' ∧ sk' dp = val VC ∧ ∀ j, j < dp → sk' j = sk j) ∧
    (ovf VC = true → ∀ (dp : Nat) (sk : Nat → Int64), dp ≤ m → Ovf S A st VR m dp sk)
theorem Sem.fr {stp wth stp' wth' : Nat → Int32} {m m' : Nat} {nm nm' : Int32} {val : VV → Int64} {ovf : VV → Bool} (h : Sem stp wth m m' nm val ovf) (hr : ∀ k, m ≤ k → k < m' → stp' k = stp k ∧ wth' k = wth k) (hn : ∀ i, i < 12 → tb nm i = true → tb nm' i = true) : Sem stp' wth' m m' nm' val ovf :=
  ⟨h.1, fun S A st VC VR hS h1 h2 ha => h.2 S A st VC VR (fun k q1 q2 => by rw [(hS k q1 q2).1, (hS k q1 q2).2]; exact hr k q1 q2) h1 h2 (ha.mono hn)⟩
