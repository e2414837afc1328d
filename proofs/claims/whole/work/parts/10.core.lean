/-! THE PURE MACHINE'S WORLD: memory by numbers (ids) of objects, a fixed shape, an address for each id -/
/-- ints by object and place, longs, doubles, the calculator's three references, how many objects stand, which references are set -/
abbrev Mem : Type := (Nat → Nat → Int32) × (Nat → Nat → Int64) × (Nat → Nat → UInt64) × (Nat → Nat) × Nat × (Nat → Nat → Bool)
def mI (M : Mem) : Nat → Nat → Int32 := M.1
def mJ (M : Mem) : Nat → Nat → Int64 := M.2.1
def mD (M : Mem) : Nat → Nat → UInt64 := M.2.2.1
def mF (M : Mem) : Nat → Nat := M.2.2.2.1
def mN (M : Mem) : Nat := M.2.2.2.2.1
def mZ (M : Mem) : Nat → Nat → Bool := M.2.2.2.2.2
def up2 {α : Type} (f : Nat → Nat → α) (a k : Nat) (v : α) : Nat → Nat → α := fun b j => if b = a ∧ j = k then v else f b j
theorem up2_s {α : Type} (f : Nat → Nat → α) (a k : Nat) (v : α) : up2 f a k v a k = v := if_pos ⟨rfl, rfl⟩
theorem up2_n {α : Type} (f : Nat → Nat → α) {a k b j : Nat} (v : α) (h : ¬ (b = a ∧ j = k)) : up2 f a k v b j = f b j := if_neg h
theorem up2_row {α : Type} (f : Nat → Nat → α) {a k b : Nat} (v : α) (h : b ≠ a) : up2 f a k v b = f b := funext fun _ => if_neg (fun q => h q.1)
def sI (M : Mem) (a k : Nat) (v : Int32) : Mem := (up2 M.1 a k v, M.2)
def sJ (M : Mem) (a k : Nat) (v : Int64) : Mem := (M.1, up2 M.2.1 a k v, M.2.2)
def sD (M : Mem) (a k : Nat) (v : UInt64) : Mem := (M.1, M.2.1, up2 M.2.2.1 a k v, M.2.2.2)
def sF (M : Mem) (k : Nat) (v : Nat) : Mem := (M.1, M.2.1, M.2.2.1, va_up M.2.2.2.1 k v, M.2.2.2.2)
def NN : Nat := 124
def Full (M : Mem) : Prop := mN M = NN ∧ mZ M = fun _ _ => true
def tv (adr : Nat → Nat) : Value → Value
  | .ref i => .ref (adr i)
  | .int x => .int x
  | .long x => .long x
  | .float x => .float x
  | .double x => .double x
  | .null => .null
  | .retAddr x => .retAddr x
theorem tv_cat (adr : Nat → Nat) (v : Value) : (tv adr v).category = v.category := by cases v <;> rfl
/-- the shape: .inl (type, length) an array, .inr a class. Types: 0 char, 1 int, 2 long, 3 boolean, 4 double, 5 Account, 6 Return, 7 Table, 8 Text -/
def shA (a : Nat) : (Nat × Nat) ⊕ Nat := match a with
  | 0 => .inr 5
  | 1 => .inr 4
  | 2 => .inl (0, 40)
  | 3 => .inl (8, 12)
  | 4 => .inl (1, 12)
  | 5 => .inl (6, 12)
  | 6 => .inl (5, 3)
  | 7 => .inr 1
  | 8 => .inl (7, 3)
  | 9 => .inl (2, 12)
  | 10 => .inr 4
  | 11 => .inl (0, 40)
  | 12 => .inr 3
  | 13 => .inl (1, 4)
  | 14 => .inl (1, 4)
  | 15 => .inr 3
  | 16 => .inl (1, 4)
  | 17 => .inl (1, 4)
  | 18 => .inr 3
  | 19 => .inl (1, 4)
  | 20 => .inl (1, 4)
  | 21 => .inl (1, 12)
  | _ => .inl (2, 12)
def shB (a : Nat) : (Nat × Nat) ⊕ Nat := match a with
  | 96 => .inr 6
  | 97 => .inl (1, 40)
  | 98 => .inl (3, 12)
  | 99 => .inl (1, 12)
  | 100 => .inl (1, 12)
  | 101 => .inl (1, 576)
  | 102 => .inl (1, 576)
  | 103 => .inl (1, 3)
  | 104 => .inl (1, 12)
  | 105 => .inl (1, 12)
  | 106 => .inl (1, 3)
  | 107 => .inl (1, 144)
  | 108 => .inl (3, 12)
  | 109 => .inl (2, 144)
  | 110 => .inl (2, 12)
  | 111 => .inl (1, 3)
  | 112 => .inl (1, 72)
  | 113 => .inl (1, 72)
  | 114 => .inl (2, 72)
  | 115 => .inl (1, 48)
  | 116 => .inl (1, 48)
  | 117 => .inl (1, 48)
  | 118 => .inl (1, 48)
  | 119 => .inl (1, 12)
  | 120 => .inl (2, 12)
  | 121 => .inl (2, 48)
  | 122 => .inl (2, 1)
  | _ => .inl (4, 1)
def sh (a : Nat) : (Nat × Nat) ⊕ Nat :=
  if a < 24 then shA a
  else if a < 48 then (if a % 2 = 0 then .inr 4 else .inl (0, 40))
  else if a < 84 then (if a % 3 = 0 then .inr 2 else if a % 3 = 1 then .inl (1, 12) else .inl (2, 12))
  else if a < 96 then (if a % 4 = 0 then .inr 0 else if a % 4 = 3 then .inl (2, 24) else .inl (1, 24))
  else shB a
/-- kinds of fields: 0 int, 1 long, 2 a reference that stays, 3 a reference that changes -/
def ksOf (ci : Nat) : List Nat := match ci with
  | 0 => [2, 2, 2, 0, 1]
  | 1 => [2, 2, 3, 0, 0, 3, 3, 0, 0]
  | 2 => [2, 2, 1, 0]
  | 3 => [2, 2, 0, 0]
  | 4 => [2, 0]
  | 5 => [2, 2, 2, 2, 2, 2, 2, 2, 2, 0, 0]
  | _ => [0, 2, 0, 2, 2, 2, 2, 2, 0, 2, 2, 2, 2, 2, 2, 2, 2, 0, 2, 2, 2, 2, 0, 0, 2, 2, 0, 0, 2, 2, 2, 2, 0, 2]
def rfO (k : Nat) : Nat := match k with
  | 0 => 1
  | 1 => 3
  | 2 => 4
  | 3 => 5
  | 4 => 6
  | 5 => 7
  | 6 => 21
  | 7 => 22
  | _ => 23
def rfM (k : Nat) : Nat := match k with
  | 1 => 97
  | 3 => 98
  | 4 => 99
  | 5 => 100
  | 6 => 101
  | 7 => 102
  | 9 => 103
  | 10 => 104
  | 11 => 105
  | 12 => 106
  | 13 => 107
  | 14 => 108
  | 15 => 109
  | 16 => 110
  | 18 => 111
  | 19 => 112
  | 20 => 113
  | 21 => 114
  | 24 => 115
  | 25 => 116
  | 28 => 117
  | 29 => 118
  | 30 => 119
  | 31 => 120
  | _ => 121
def rf (a k : Nat) : Nat := if a = 0 then rfO k else if a = 3 then 24 + 2 * k else if a = 5 then 48 + 3 * k else if a = 6 then 84 + 4 * k else if a = 8 then 12 + 3 * k else if a = 7 then 8 + k else if a = 96 then rfM k else a + 1 + k
def fv (adr : Nat → Nat) (M : Mem) (a k : Nat) : Nat → Value
  | 0 => .int (mI M a k)
  | 1 => .long (mJ M a k)
  | 2 => bif mZ M a k then .ref (adr (rf a k)) else .null
  | _ => bif mZ M a k then .ref (adr (mF M k)) else .null
def flds (adr : Nat → Nat) (M : Mem) (a : Nat) : List Nat → Nat → List Value
  | [], _ => []
  | q :: r, k => fv adr M a k q :: flds adr M a r (k + 1)
def arow (adr : Nat → Nat) (M : Mem) (a t : Nat) : (Nat → Int32) ⊕ (Nat → Int64) ⊕ (Nat → UInt32) ⊕ (Nat → UInt64) ⊕ (Nat → Option Nat) :=
  if t = 2 then .inr (.inl (mJ M a)) else if t = 4 then .inr (.inr (.inr (.inl (mD M a)))) else if t < 4 then .inl (mI M a) else .inr (.inr (.inr (.inr (fun k => bif mZ M a k then some (adr (rf a k)) else none))))
def ce (cy : Nat → ClassId) (adr : Nat → Nat) (M : Mem) (a : Nat) : va_E := match sh a with
  | .inl q => .inl (cy q.1, q.2, arow adr M a q.1)
  | .inr ci => .inr (ci, flds adr M a (ksOf ci) 0)
def Wd (cy : Nat → ClassId) (adr : Nat → Nat) (M : Mem) : va_W := (List.range (mN M)).map (fun a => (adr a, ce cy adr M a))
theorem Wd_at {cy : Nat → ClassId} {adr : Nat → Nat} {M : Mem} {a : Nat} (h : a < mN M) : (Wd cy adr M)[a]? = some (adr a, ce cy adr M a) := by
  simp [Wd, h]
theorem Wd_set {cy : Nat → ClassId} {adr : Nat → Nat} {M M' : Mem} {a : Nat} (hn : mN M' = mN M) (h : ∀ b, b ≠ a → ce cy adr M' b = ce cy adr M b) {e : va_E} (he : ce cy adr M' a = e) : (Wd cy adr M).set a (adr a, e) = Wd cy adr M' := by
  apply List.ext_getElem?
  intro k
  by_cases hk : k < mN M
  · by_cases hka : k = a
    · subst hka
      rw [List.getElem?_set_self (by simp [Wd, hk]), Wd_at (by rw [hn]; exact hk), he]
    · rw [List.getElem?_set_ne (Ne.symm hka), Wd_at hk, Wd_at (by rw [hn]; exact hk), h k hka]
  · have h1 : (Wd cy adr M').length ≤ k := by simp [Wd, hn]; omega
    have h2 : ((Wd cy adr M).set a (adr a, e)).length ≤ k := by simp [Wd]; omega
    rw [List.getElem?_eq_none h1, List.getElem?_eq_none h2]
theorem flds_at (adr : Nat → Nat) (M : Mem) (a : Nat) : ∀ (ks : List Nat) (k0 k q : Nat), ks[k]? = some q → (flds adr M a ks k0)[k]? = some (fv adr M a (k0 + k) q)
  | [], _, _, _, h => by simp at h
  | x :: r, k0, 0, q, h => by
    simp only [List.getElem?_cons_zero, Option.some.injEq] at h
    subst h
    rfl
  | x :: r, k0, k + 1, q, h => by
    have h1 := flds_at adr M a r (k0 + 1) k q (by simpa using h)
    simp only [flds, List.getElem?_cons_succ]
    rw [h1, show k0 + 1 + k = k0 + (k + 1) by omega]
theorem flds_len (adr : Nat → Nat) (M : Mem) (a : Nat) : ∀ (ks : List Nat) (k0 : Nat), (flds adr M a ks k0).length = ks.length
  | [], _ => rfl
  | _ :: r, k0 => by simp [flds, flds_len adr M a r (k0 + 1)]
/-- one field changes: the list of fields is set there -/
theorem flds_set {adr : Nat → Nat} {M M' : Mem} {a k : Nat} {ks : List Nat} {q : Nat} {v : Value} (hk : ks[k]? = some q) (hv : fv adr M' a k q = v) (ho : ∀ j q', j ≠ k → ks[j]? = some q' → fv adr M' a j q' = fv adr M a j q') : (flds adr M a ks 0).set k v = flds adr M' a ks 0 := by
  apply List.ext_getElem?
  intro j
  by_cases hj : j < ks.length
  · obtain ⟨q', hq'⟩ : ∃ q', ks[j]? = some q' := ⟨_, List.getElem?_eq_getElem hj⟩
    by_cases hjk : j = k
    · subst hjk
      rw [List.getElem?_set_self (by rw [flds_len]; exact hj), flds_at adr M' a ks 0 j q hk, Nat.zero_add, hv]
    · rw [List.getElem?_set_ne (Ne.symm hjk), flds_at adr M a ks 0 j q' hq', flds_at adr M' a ks 0 j q' hq', Nat.zero_add, ho j q' hjk hq']
  · have h1 : (flds adr M' a ks 0).length ≤ j := by rw [flds_len]; omega
    have h2 : ((flds adr M a ks 0).set k v).length ≤ j := by rw [List.length_set, flds_len]; omega
    rw [List.getElem?_eq_none h1, List.getElem?_eq_none h2]
theorem ce_o {cy : Nat → ClassId} {adr : Nat → Nat} {M : Mem} {a ci : Nat} (h : sh a = .inr ci) : ce cy adr M a = .inr (ci, flds adr M a (ksOf ci) 0) := by
  simp only [ce, h]
theorem ce_a {cy : Nat → ClassId} {adr : Nat → Nat} {M : Mem} {a t n : Nat} (h : sh a = .inl (t, n)) : ce cy adr M a = .inl (cy t, n, arow adr M a t) := by
  simp only [ce, h]
theorem flds_congr {adr : Nat → Nat} {M M' : Mem} {a : Nat} (h : ∀ k q, fv adr M' a k q = fv adr M a k q) : ∀ (ks : List Nat) (k0 : Nat), flds adr M' a ks k0 = flds adr M a ks k0
  | [], _ => rfl
  | x :: r, k0 => by simp only [flds]; rw [h, flds_congr h r (k0 + 1)]
/-- an object whose rows are the same looks the same -/
theorem ce_same {cy : Nat → ClassId} {adr : Nat → Nat} {M M' : Mem} {b : Nat} (h1 : mI M' b = mI M b) (h2 : mJ M' b = mJ M b) (h3 : mD M' b = mD M b) (h4 : mZ M' b = mZ M b) (h5 : sh b = .inr 1 → mF M' = mF M) : ce cy adr M' b = ce cy adr M b := by
  unfold ce
  cases hs : sh b with
  | inl q => simp only [arow, h1, h2, h3, h4]
  | inr ci =>
    by_cases hc : ci = 1
    · subst hc
      have h5 := h5 hs
      simp only
      rw [flds_congr (M := M) (M' := M') (fun k q => by
        match q with
        | 0 => simp only [fv, h1]
        | 1 => simp only [fv, h2]
        | 2 => simp only [fv, h4]
        | (q + 3) => simp only [fv, h4, h5])]
    · have hk : ∀ (k q : Nat), (ksOf ci)[k]? = some q → q < 3 := by
        intro k q hq
        have hall : ∀ q ∈ ksOf ci, q < 3 := by
          match ci, hc with
          | 0, _ => decide
          | 2, _ => decide
          | 3, _ => decide
          | 4, _ => decide
          | 5, _ => decide
          | (n + 6), _ => simp only [ksOf]; decide
        exact hall q (List.mem_of_getElem? hq)
      simp only
      congr 2
      apply List.ext_getElem?
      intro j
      by_cases hj : j < (ksOf ci).length
      · obtain ⟨q', hq'⟩ : ∃ q', (ksOf ci)[j]? = some q' := ⟨_, List.getElem?_eq_getElem hj⟩
        rw [flds_at adr M' b _ 0 j q' hq', flds_at adr M b _ 0 j q' hq']
        have hlt := hk j q' hq'
        match q', hlt with
        | 0, _ => simp only [fv, h1]
        | 1, _ => simp only [fv, h2]
        | 2, _ => simp only [fv, h4]
      · rw [List.getElem?_eq_none (by rw [flds_len]; omega), List.getElem?_eq_none (by rw [flds_len]; omega)]
