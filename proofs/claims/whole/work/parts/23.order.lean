/-! BITS OF MASKS; THE ORDER OF THE LINES AS A LIST -/
def tb (m : Int32) (k : Nat) : Bool := m.toBitVec.getLsbD k
theorem sh_tp : ∀ k, k < 32 → ((1 : Int32) <<< (nI k &&& 31)).toBitVec = BitVec.twoPow 32 k := by decide +kernel
theorem tb_and (m : Int32) {k : Nat} (hk : k < 32) : (m &&& ((1 : Int32) <<< (nI k &&& 31))) = 0 ↔ tb m k = false := by
  have h : (m &&& ((1 : Int32) <<< (nI k &&& 31))).toBitVec = if m.toBitVec.getLsbD k then BitVec.twoPow 32 k else 0#32 := by
    rw [Int32.toBitVec_and, sh_tp k hk, BitVec.and_twoPow]
  constructor
  · intro q
    rw [q] at h
    cases hb : m.toBitVec.getLsbD k with
    | false => exact hb
    | true =>
      rw [hb] at h
      simp only [if_true] at h
      have h2 : (BitVec.twoPow 32 k).getLsbD k = true := by rw [BitVec.getLsbD_twoPow]; simp [hk]
      rw [← h] at h2
      simp at h2
  · intro q
    unfold tb at q
    rw [q] at h
    exact Int32.toBitVec_inj.mp (by rw [h]; rfl)
theorem tb_or (m : Int32) {j : Nat} (hj : j < 32) {k : Nat} (hk : k < 32) : tb (m ||| ((1 : Int32) <<< (nI j &&& 31))) k = (tb m k || decide (k = j)) := by
  unfold tb
  rw [Int32.toBitVec_or, BitVec.getLsbD_or, sh_tp j hj, BitVec.getLsbD_twoPow]
  congr 1
  by_cases h : k = j
  · subst h; simp [hk]
  · have h' : ¬ j = k := fun q => h q.symm
    simp [h, h']
theorem sm_k : ∀ k, k < 32 → ((nI k &&& 31).toBitVec.smod 32).toNat = k := by decide +kernel
theorem tb_shr (m : Int32) {k : Nat} (hk : k < 32) : ((m >>> (nI k &&& 31)) &&& 1) = 1 ↔ tb m k = true := by
  have e : (m >>> (nI k &&& 31)).toBitVec = m.toBitVec.sshiftRight k := by
    rw [Int32.toBitVec_shiftRight]
    show m.toBitVec.sshiftRight ((nI k &&& 31).toBitVec.smod 32).toNat = _
    rw [sm_k k hk]
  have h1 : ((m >>> (nI k &&& 31)) &&& 1).toBitVec = (m.toBitVec.sshiftRight k) &&& 1#32 := by rw [Int32.toBitVec_and, e]; rfl
  have h0 : (m.toBitVec.sshiftRight k).getLsbD 0 = m.toBitVec.getLsbD k := by
    rw [BitVec.getLsbD_sshiftRight]
    simp [hk]
  have h2 : (m.toBitVec.sshiftRight k) &&& 1#32 = if m.toBitVec.getLsbD k then 1#32 else 0#32 := by
    rw [show (1#32) = BitVec.twoPow 32 0 from rfl, BitVec.and_twoPow, h0]
  unfold tb
  constructor
  · intro q
    rw [q] at h1
    rw [h2] at h1
    cases hb : m.toBitVec.getLsbD k with
    | true => rfl
    | false => rw [hb] at h1; simp at h1
  · intro q
    rw [h2, q] at h1
    exact Int32.toBitVec_inj.mp (by rw [h1]; rfl)
/-- the first k of n from k0 on of which f holds; k0 + n if none -/
def lowF (f : Nat → Bool) : Nat → Nat → Nat
  | 0, k => k
  | n + 1, k => if f k = true then k else lowF f n (k + 1)
theorem lowF_le (f : Nat → Bool) : ∀ n k, lowF f n k ≤ k + n
  | 0, k => Nat.le_refl _
  | n + 1, k => by
    unfold lowF
    split
    · omega
    · have := lowF_le f n (k + 1); omega
theorem lowF_t (f : Nat → Bool) : ∀ n k, lowF f n k < k + n → f (lowF f n k) = true
  | 0, k, h => by unfold lowF at h; omega
  | n + 1, k, h => by
    unfold lowF at h ⊢
    split at h
    · rename_i q; rw [if_pos q]; exact q
    · rename_i q; rw [if_neg q]; exact lowF_t f n (k + 1) (by omega)
theorem lowF_none (f : Nat → Bool) : ∀ n k, (∀ j, k ≤ j → j < k + n → f j = false) → lowF f n k = k + n
  | 0, k, _ => rfl
  | n + 1, k, h => by
    unfold lowF
    rw [if_neg (by rw [h k (Nat.le_refl _) (by omega)]; decide), lowF_none f n (k + 1) (fun j h1 h2 => h j (by omega) (by omega))]
    omega
theorem lowF_congr {f g : Nat → Bool} : ∀ n k, (∀ j, k ≤ j → j < k + n → f j = g j) → lowF f n k = lowF g n k
  | 0, k, _ => rfl
  | n + 1, k, h => by
    unfold lowF
    rw [h k (Nat.le_refl _) (by omega), lowF_congr n (k + 1) (fun j h1 h2 => h j (by omega) (by omega))]
/-- a line is ready: not placed, and all that it needs is placed -/
def rdy (nd : Nat → Int32) (m : Int32) (k : Nat) : Bool := !(tb m k) && decide (nd k &&& (m ^^^ -1) = 0)
def ordL (nd : Nat → Int32) : Nat → Int32 → List Nat
  | 0, _ => []
  | n + 1, m => if lowF (rdy nd m) 12 0 = 12 then [] else lowF (rdy nd m) 12 0 :: ordL nd n (m ||| ((1 : Int32) <<< (nI (lowF (rdy nd m) 12 0) &&& 31)))
theorem ordL_succ (nd : Nat → Int32) (n : Nat) (m : Int32) : ordL nd (n + 1) m = if lowF (rdy nd m) 12 0 = 12 then [] else lowF (rdy nd m) 12 0 :: ordL nd n (m ||| ((1 : Int32) <<< (nI (lowF (rdy nd m) 12 0) &&& 31))) := rfl
def c12 (f : Nat → Bool) : Nat := (List.range 12).countP f
theorem c12_le (f : Nat → Bool) : c12 f ≤ 12 := by
  have := List.countP_le_length (p := f) (l := List.range 12)
  simpa [c12] using this
theorem c12_add {f g : Nat → Bool} {k : Nat} (hk : k < 12) (hf : f k = false) (hg : ∀ j, j < 12 → g j = (f j || decide (j = k))) : c12 g = c12 f + 1 := by
  have e : ∀ (l : List Nat), l.Nodup → (∀ j ∈ l, j < 12) → List.countP g l = List.countP f l + (if k ∈ l then 1 else 0) := by
    intro l
    induction l with
    | nil => intro _ _; rfl
    | cons a r ih =>
      intro hn hl
      have hn' := List.nodup_cons.mp hn
      have ih' := ih hn'.2 (fun j hj => hl j (List.mem_cons_of_mem _ hj))
      have ha := hg a (hl a List.mem_cons_self)
      rw [List.countP_cons, List.countP_cons, ih', ha]
      by_cases hak : a = k
      · subst hak
        simp [hf, hn'.1]
      · have : k ∈ a :: r ↔ k ∈ r := by
          constructor
          · intro q
            rcases List.mem_cons.mp q with q | q
            · exact absurd q.symm hak
            · exact q
          · exact List.mem_cons_of_mem _
        simp only [this, hak, decide_false, Bool.or_false]
        omega
  have := e (List.range 12) List.nodup_range (fun j hj => List.mem_range.mp hj)
  rw [if_pos (List.mem_range.mpr hk)] at this
  exact this
theorem c12_full {f : Nat → Bool} (h : c12 f = 12) : ∀ j, j < 12 → f j = true := by
  have : List.countP f (List.range 12) = (List.range 12).length := by simpa [c12] using h
  intro j hj
  exact (List.countP_eq_length.mp this) j (List.mem_range.mpr hj)
theorem rdy_tb {nd : Nat → Int32} {m : Int32} {k : Nat} (h : rdy nd m k = true) : tb m k = false := by
  unfold rdy at h
  cases hb : tb m k <;> simp_all
/-- the next line: ready, and then one more is placed -/
theorem ord_step {nd : Nat → Int32} {m : Int32} (h : ¬ lowF (rdy nd m) 12 0 = 12) : lowF (rdy nd m) 12 0 < 12 ∧ c12 (tb (m ||| ((1 : Int32) <<< (nI (lowF (rdy nd m) 12 0) &&& 31)))) = c12 (tb m) + 1 := by
  have h1 := lowF_le (rdy nd m) 12 0
  have h2 : lowF (rdy nd m) 12 0 < 12 := by omega
  refine ⟨h2, c12_add h2 (rdy_tb (lowF_t (rdy nd m) 12 0 (by omega))) (fun j hj => tb_or m (by omega) (by omega))⟩
theorem ord_end {nd : Nat → Int32} {m : Int32} (h : c12 (tb m) = 12) : lowF (rdy nd m) 12 0 = 12 := by
  rw [lowF_none (rdy nd m) 12 0 (fun j _ hj => by unfold rdy; rw [c12_full h j (by omega)]; rfl)]
theorem ordL_len (nd : Nat → Int32) : ∀ n m, c12 (tb m) + (ordL nd n m).length ≤ 12
  | 0, m => by simpa [ordL] using c12_le (tb m)
  | n + 1, m => by
    unfold ordL
    split
    · simpa using c12_le (tb m)
    · rename_i h
      have h1 := ord_step h
      have h2 := ordL_len nd n (m ||| ((1 : Int32) <<< (nI (lowF (rdy nd m) 12 0) &&& 31)))
      rw [List.length_cons]
      omega
theorem ordL_stable (nd : Nat → Int32) : ∀ n m, 12 ≤ c12 (tb m) + n → ordL nd (n + 1) m = ordL nd n m
  | 0, m, h => by
    have := c12_le (tb m)
    unfold ordL
    rw [if_pos (ord_end (by omega))]
  | n + 1, m, h => by
    rw [ordL_succ nd (n + 1) m, ordL_succ nd n m]
    by_cases q : lowF (rdy nd m) 12 0 = 12
    · rw [if_pos q, if_pos q]
    · rw [if_neg q, if_neg q, ordL_stable nd n _ (by have := ord_step q; omega)]
theorem ordL_lt (nd : Nat → Int32) : ∀ n m k, k ∈ ordL nd n m → k < 12
  | 0, m, k, h => by simp [ordL] at h
  | n + 1, m, k, h => by
    unfold ordL at h
    split at h
    · simp at h
    · rename_i q
      rcases List.mem_cons.mp h with rfl | h
      · exact (ord_step q).1
      · exact ordL_lt nd n _ k h
theorem tb_0 (k : Nat) : tb 0 k = false := by unfold tb; simp
theorem c12_0 : c12 (tb 0) = 0 := by
  unfold c12
  rw [List.countP_eq_zero]
  intro a _
  simp [tb_0]
/-- a row in which a list was laid from p on -/
def rowA (p : Nat) : List Nat → (Nat → Int32) → (Nat → Int32)
  | [], f => f
  | k :: r, f => rowA (p + 1) r (upd f p (nI k))
theorem rowA_lo : ∀ (L : List Nat) (p : Nat) (f : Nat → Int32) (i : Nat), i < p → rowA p L f i = f i
  | [], _, _, _, _ => rfl
  | k :: r, p, f, i, h => by
    unfold rowA
    rw [rowA_lo r (p + 1) _ i (by omega), pk_un (by omega)]
theorem rowA_in : ∀ (L : List Nat) (p : Nat) (f : Nat → Int32) (i : Nat), i < L.length → rowA p L f (p + i) = nI (L.getD i 0)
  | [], _, _, _, h => by simp at h
  | k :: r, p, f, 0, _ => by
    unfold rowA
    rw [rowA_lo r (p + 1) _ (p + 0) (by omega), Nat.add_zero, pk_us]
    rfl
  | k :: r, p, f, i + 1, h => by
    unfold rowA
    rw [show p + (i + 1) = (p + 1) + i by omega, rowA_in r (p + 1) _ i (by simpa using h)]
    rfl
theorem sI_rI (M : Mem) (a k : Nat) (f : Nat → Int32) (v : Int32) : sI (rI M a f) a k v = rI M a (upd f k v) := by
  unfold sI rI
  congr 1
  funext b j
  unfold up2 va_up upd
  by_cases hb : b = a <;> by_cases hj : j = k <;> simp [hb, hj]
theorem rI_self (M : Mem) (a : Nat) : rI M a (mI M a) = M := by
  unfold rI mI
  have : va_up M.1 a (M.1 a) = M.1 := by
    funext b
    unfold va_up
    by_cases h : b = a <;> simp [h]
  rw [this]
