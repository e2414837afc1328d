/-! CALLS BY ARITY, SHAPES -/
def psh (r : Option Value) (st : List Value) : List Value := match r with
  | some v => v :: st
  | none => st
theorem psh_eq (r : Option Value) (st : List Value) : r.toList ++ st = psh r st := by cases r <;> rfl
def obB (ci a : Nat) : Bool := Nat.blt a NN && (match sh a with | .inr c => Nat.beq c ci | .inl _ => false)
theorem ob {ci a : Nat} (h : obB ci a = true) : OB ci a := by
  unfold obB at h
  rw [Bool.and_eq_true] at h
  refine ⟨by simpa [Nat.blt_eq] using h.1, ?_⟩
  cases hs : sh a with
  | inl q => rw [hs] at h; exact absurd h.2 (by simp)
  | inr c => rw [hs] at h; rw [Nat.eq_of_beq_eq_true h.2]
def arB (t n a : Nat) : Bool := Nat.blt a NN && (match sh a with | .inr _ => false | .inl q => Nat.beq q.1 t && Nat.beq q.2 n)
theorem ar {t n a : Nat} (h : arB t n a = true) : AR t n a := by
  unfold arB at h
  rw [Bool.and_eq_true] at h
  refine ⟨by simpa [Nat.blt_eq] using h.1, ?_⟩
  cases hs : sh a with
  | inl q =>
    rw [hs] at h
    have h2 := h.2
    simp only [Bool.and_eq_true] at h2
    rw [← Nat.eq_of_beq_eq_true h2.1, ← Nat.eq_of_beq_eq_true h2.2]
  | inr c => rw [hs] at h; exact absurd h.2 (by simp)
theorem ob_text {i : Nat} (h : i < 12) : OB 4 (24 + 2 * i) := ⟨by unfold NN; omega, by unfold sh; rw [if_neg (by omega), if_pos (by omega), if_pos (by omega)]⟩
theorem ar_text {i : Nat} (h : i < 12) : AR 0 40 (24 + 2 * i + 1) := ⟨by unfold NN; omega, by unfold sh; rw [if_neg (by omega), if_pos (by omega), if_neg (by omega)]⟩
theorem ob_ret {i : Nat} (h : i < 12) : OB 2 (48 + 3 * i) := ⟨by unfold NN; omega, by unfold sh; rw [if_neg (by omega), if_neg (by omega), if_pos (by omega), if_pos (by omega)]⟩
theorem ar_retN {i : Nat} (h : i < 12) : AR 1 12 (48 + 3 * i + 1) := ⟨by unfold NN; omega, by unfold sh; rw [if_neg (by omega), if_neg (by omega), if_pos (by omega), if_neg (by omega), if_pos (by omega)]⟩
theorem ar_retV {i : Nat} (h : i < 12) : AR 2 12 (48 + 3 * i + 2) := ⟨by unfold NN; omega, by unfold sh; rw [if_neg (by omega), if_neg (by omega), if_pos (by omega), if_neg (by omega), if_neg (by omega)]⟩
theorem ob_acc {i : Nat} (h : i < 3) : OB 0 (84 + 4 * i) := ⟨by unfold NN; omega, by unfold sh; rw [if_neg (by omega), if_neg (by omega), if_neg (by omega), if_pos (by omega), if_pos (by omega)]⟩
theorem ar_accK {i : Nat} (h : i < 3) : AR 1 24 (84 + 4 * i + 1) := ⟨by unfold NN; omega, by unfold sh; rw [if_neg (by omega), if_neg (by omega), if_neg (by omega), if_pos (by omega), if_neg (by omega), if_neg (by omega)]⟩
theorem ar_accY {i : Nat} (h : i < 3) : AR 1 24 (84 + 4 * i + 2) := ⟨by unfold NN; omega, by unfold sh; rw [if_neg (by omega), if_neg (by omega), if_neg (by omega), if_pos (by omega), if_neg (by omega), if_neg (by omega)]⟩
theorem ar_accA {i : Nat} (h : i < 3) : AR 2 24 (84 + 4 * i + 3) := ⟨by unfold NN; omega, by unfold sh; rw [if_neg (by omega), if_neg (by omega), if_neg (by omega), if_pos (by omega), if_neg (by omega), if_pos (by omega)]⟩
theorem ob_tab {i : Nat} (h : i < 3) : OB 3 (12 + 3 * i) := by rcases (show i = 0 ∨ i = 1 ∨ i = 2 by omega) with rfl | rfl | rfl <;> exact ob rfl
theorem ar_tabB {i : Nat} (h : i < 3) : AR 1 4 (12 + 3 * i + 1) := by rcases (show i = 0 ∨ i = 1 ∨ i = 2 by omega) with rfl | rfl | rfl <;> exact ar rfl
theorem ar_tabR {i : Nat} (h : i < 3) : AR 1 4 (12 + 3 * i + 2) := by rcases (show i = 0 ∨ i = 1 ∨ i = 2 by omega) with rfl | rfl | rfl <;> exact ar rfl
/-- a reference of an object that is none of the great ones lies just behind it -/
theorem rf_x {a k : Nat} (h : a = 1 ∨ a = 10 ∨ (12 ≤ a ∧ a < 96)) : rf a k = a + 1 + k := by
  unfold rf
  rw [if_neg (by omega), if_neg (by omega), if_neg (by omega), if_neg (by omega), if_neg (by omega), if_neg (by omega), if_neg (by omega)]
section
variable {G : Cx} {own : String} {cc : ByteArray} {nL : Nat} {rt : Option FieldType} {Post : Option Value → Mem → Prop} {PostX : String → Mem → Prop} {n pc : Nat} {ls : List (Nat × Value)} {st : List Value} {M : Mem}
variable {y : MethodName} {cw : Cond} {k d0 idx ci n' b : Nat} {pt : PT}
theorem w_callV0 (hC : Con (gl G) y cw k d0 pt) (cv : CV own idx ci y cw 0) (ho : OB ci b) (hF : Full M) (ht : gt G = []) (hd : d0 + 1 ≤ gd G) (hn : n' + k ≤ n) (h8 : (st.map fun v => v.category).sum ≤ 8) (d : decode cc pc = .ok (.invokevirtual idx, 3)) (hpt : pt [.ref b] M (fun r M' => PW G own cc nL rt Post PostX n' (pc + 3) ls (psh r st) M') PostX) : PW G own cc nL rt Post PostX n pc ls (.ref b :: st) M := w_callV (As := []) hC cv ho hF ht hd rfl hn rfl h8 d (by simp only [psh_eq]; exact hpt)
theorem w_callV1 {a1 : Value} (hC : Con (gl G) y cw k d0 pt) (cv : CV own idx ci y cw 1) (ho : OB ci b) (hF : Full M) (ht : gt G = []) (hd : d0 + 1 ≤ gd G) (hn : n' + k ≤ n) (h8 : (st.map fun v => v.category).sum ≤ 8) (d : decode cc pc = .ok (.invokevirtual idx, 3)) (hpt : pt [.ref b, a1] M (fun r M' => PW G own cc nL rt Post PostX n' (pc + 3) ls (psh r st) M') PostX) : PW G own cc nL rt Post PostX n pc ls (a1 :: .ref b :: st) M := w_callV (As := [a1]) hC cv ho hF ht hd rfl hn rfl h8 d (by simp only [psh_eq]; exact hpt)
theorem w_callV2 {a1 a2 : Value} (hC : Con (gl G) y cw k d0 pt) (cv : CV own idx ci y cw 2) (ho : OB ci b) (hF : Full M) (ht : gt G = []) (hd : d0 + 1 ≤ gd G) (hn : n' + k ≤ n) (h8 : (st.map fun v => v.category).sum ≤ 8) (d : decode cc pc = .ok (.invokevirtual idx, 3)) (hpt : pt [.ref b, a1, a2] M (fun r M' => PW G own cc nL rt Post PostX n' (pc + 3) ls (psh r st) M') PostX) : PW G own cc nL rt Post PostX n pc ls (a2 :: a1 :: .ref b :: st) M := w_callV (As := [a1, a2]) hC cv ho hF ht hd rfl hn rfl h8 d (by simp only [psh_eq]; exact hpt)
theorem w_callV3 {a1 a2 a3 : Value} (hC : Con (gl G) y cw k d0 pt) (cv : CV own idx ci y cw 3) (ho : OB ci b) (hF : Full M) (ht : gt G = []) (hd : d0 + 1 ≤ gd G) (hn : n' + k ≤ n) (h8 : (st.map fun v => v.category).sum ≤ 8) (d : decode cc pc = .ok (.invokevirtual idx, 3)) (hpt : pt [.ref b, a1, a2, a3] M (fun r M' => PW G own cc nL rt Post PostX n' (pc + 3) ls (psh r st) M') PostX) : PW G own cc nL rt Post PostX n pc ls (a3 :: a2 :: a1 :: .ref b :: st) M := w_callV (As := [a1, a2, a3]) hC cv ho hF ht hd rfl hn rfl h8 d (by simp only [psh_eq]; exact hpt)
theorem w_callV4 {a1 a2 a3 a4 : Value} (hC : Con (gl G) y cw k d0 pt) (cv : CV own idx ci y cw 4) (ho : OB ci b) (hF : Full M) (ht : gt G = []) (hd : d0 + 1 ≤ gd G) (hn : n' + k ≤ n) (h8 : (st.map fun v => v.category).sum ≤ 8) (d : decode cc pc = .ok (.invokevirtual idx, 3)) (hpt : pt [.ref b, a1, a2, a3, a4] M (fun r M' => PW G own cc nL rt Post PostX n' (pc + 3) ls (psh r st) M') PostX) : PW G own cc nL rt Post PostX n pc ls (a4 :: a3 :: a2 :: a1 :: .ref b :: st) M := w_callV (As := [a1, a2, a3, a4]) hC cv ho hF ht hd rfl hn rfl h8 d (by simp only [psh_eq]; exact hpt)
theorem w_callV5 {a1 a2 a3 a4 a5 : Value} (hC : Con (gl G) y cw k d0 pt) (cv : CV own idx ci y cw 5) (ho : OB ci b) (hF : Full M) (ht : gt G = []) (hd : d0 + 1 ≤ gd G) (hn : n' + k ≤ n) (h8 : (st.map fun v => v.category).sum ≤ 8) (d : decode cc pc = .ok (.invokevirtual idx, 3)) (hpt : pt [.ref b, a1, a2, a3, a4, a5] M (fun r M' => PW G own cc nL rt Post PostX n' (pc + 3) ls (psh r st) M') PostX) : PW G own cc nL rt Post PostX n pc ls (a5 :: a4 :: a3 :: a2 :: a1 :: .ref b :: st) M := w_callV (As := [a1, a2, a3, a4, a5]) hC cv ho hF ht hd rfl hn rfl h8 d (by simp only [psh_eq]; exact hpt)
theorem w_callS0 (hC : Con (gl G) y cw k d0 pt) (cs : CS own idx y cw 0) (ht : gt G = []) (hd : d0 + 1 ≤ gd G) (hn : n' + k ≤ n) (h8 : (st.map fun v => v.category).sum ≤ 8) (d : decode cc pc = .ok (.invokestatic idx, 3)) (hpt : pt [] M (fun r M' => PW G own cc nL rt Post PostX n' (pc + 3) ls (psh r st) M') PostX) : PW G own cc nL rt Post PostX n pc ls (st) M := w_callS (As := []) hC cs ht hd rfl hn rfl h8 d (by simp only [psh_eq]; exact hpt)
theorem w_callS1 {a1 : Value} (hC : Con (gl G) y cw k d0 pt) (cs : CS own idx y cw 1) (ht : gt G = []) (hd : d0 + 1 ≤ gd G) (hn : n' + k ≤ n) (h8 : (st.map fun v => v.category).sum ≤ 8) (d : decode cc pc = .ok (.invokestatic idx, 3)) (hpt : pt [a1] M (fun r M' => PW G own cc nL rt Post PostX n' (pc + 3) ls (psh r st) M') PostX) : PW G own cc nL rt Post PostX n pc ls (a1 :: st) M := w_callS (As := [a1]) hC cs ht hd rfl hn rfl h8 d (by simp only [psh_eq]; exact hpt)
theorem w_callS2 {a1 a2 : Value} (hC : Con (gl G) y cw k d0 pt) (cs : CS own idx y cw 2) (ht : gt G = []) (hd : d0 + 1 ≤ gd G) (hn : n' + k ≤ n) (h8 : (st.map fun v => v.category).sum ≤ 8) (d : decode cc pc = .ok (.invokestatic idx, 3)) (hpt : pt [a1, a2] M (fun r M' => PW G own cc nL rt Post PostX n' (pc + 3) ls (psh r st) M') PostX) : PW G own cc nL rt Post PostX n pc ls (a2 :: a1 :: st) M := w_callS (As := [a1, a2]) hC cs ht hd rfl hn rfl h8 d (by simp only [psh_eq]; exact hpt)
theorem w_callS3 {a1 a2 a3 : Value} (hC : Con (gl G) y cw k d0 pt) (cs : CS own idx y cw 3) (ht : gt G = []) (hd : d0 + 1 ≤ gd G) (hn : n' + k ≤ n) (h8 : (st.map fun v => v.category).sum ≤ 8) (d : decode cc pc = .ok (.invokestatic idx, 3)) (hpt : pt [a1, a2, a3] M (fun r M' => PW G own cc nL rt Post PostX n' (pc + 3) ls (psh r st) M') PostX) : PW G own cc nL rt Post PostX n pc ls (a3 :: a2 :: a1 :: st) M := w_callS (As := [a1, a2, a3]) hC cs ht hd rfl hn rfl h8 d (by simp only [psh_eq]; exact hpt)
theorem w_callS4 {a1 a2 a3 a4 : Value} (hC : Con (gl G) y cw k d0 pt) (cs : CS own idx y cw 4) (ht : gt G = []) (hd : d0 + 1 ≤ gd G) (hn : n' + k ≤ n) (h8 : (st.map fun v => v.category).sum ≤ 8) (d : decode cc pc = .ok (.invokestatic idx, 3)) (hpt : pt [a1, a2, a3, a4] M (fun r M' => PW G own cc nL rt Post PostX n' (pc + 3) ls (psh r st) M') PostX) : PW G own cc nL rt Post PostX n pc ls (a4 :: a3 :: a2 :: a1 :: st) M := w_callS (As := [a1, a2, a3, a4]) hC cs ht hd rfl hn rfl h8 d (by simp only [psh_eq]; exact hpt)
theorem w_callS5 {a1 a2 a3 a4 a5 : Value} (hC : Con (gl G) y cw k d0 pt) (cs : CS own idx y cw 5) (ht : gt G = []) (hd : d0 + 1 ≤ gd G) (hn : n' + k ≤ n) (h8 : (st.map fun v => v.category).sum ≤ 8) (d : decode cc pc = .ok (.invokestatic idx, 3)) (hpt : pt [a1, a2, a3, a4, a5] M (fun r M' => PW G own cc nL rt Post PostX n' (pc + 3) ls (psh r st) M') PostX) : PW G own cc nL rt Post PostX n pc ls (a5 :: a4 :: a3 :: a2 :: a1 :: st) M := w_callS (As := [a1, a2, a3, a4, a5]) hC cs ht hd rfl hn rfl h8 d (by simp only [psh_eq]; exact hpt)
theorem w_callS6 {a1 a2 a3 a4 a5 a6 : Value} (hC : Con (gl G) y cw k d0 pt) (cs : CS own idx y cw 6) (ht : gt G = []) (hd : d0 + 1 ≤ gd G) (hn : n' + k ≤ n) (h8 : (st.map fun v => v.category).sum ≤ 8) (d : decode cc pc = .ok (.invokestatic idx, 3)) (hpt : pt [a1, a2, a3, a4, a5, a6] M (fun r M' => PW G own cc nL rt Post PostX n' (pc + 3) ls (psh r st) M') PostX) : PW G own cc nL rt Post PostX n pc ls (a6 :: a5 :: a4 :: a3 :: a2 :: a1 :: st) M := w_callS (As := [a1, a2, a3, a4, a5, a6]) hC cs ht hd rfl hn rfl h8 d (by simp only [psh_eq]; exact hpt)
theorem w_callS7 {a1 a2 a3 a4 a5 a6 a7 : Value} (hC : Con (gl G) y cw k d0 pt) (cs : CS own idx y cw 7) (ht : gt G = []) (hd : d0 + 1 ≤ gd G) (hn : n' + k ≤ n) (h8 : (st.map fun v => v.category).sum ≤ 8) (d : decode cc pc = .ok (.invokestatic idx, 3)) (hpt : pt [a1, a2, a3, a4, a5, a6, a7] M (fun r M' => PW G own cc nL rt Post PostX n' (pc + 3) ls (psh r st) M') PostX) : PW G own cc nL rt Post PostX n pc ls (a7 :: a6 :: a5 :: a4 :: a3 :: a2 :: a1 :: st) M := w_callS (As := [a1, a2, a3, a4, a5, a6, a7]) hC cs ht hd rfl hn rfl h8 d (by simp only [psh_eq]; exact hpt)
theorem w_callN3 {a1 a2 a3 : Value} (hC : Con (gl G) y cw 0 d0 pt) (cs : CN own idx y cw 3) (ht : gt G = []) (hd : d0 + 1 ≤ gd G) (h8 : (st.map fun v => v.category).sum ≤ 8) (d : decode cc pc = .ok (.invokestatic idx, 3)) (hpt : pt [a1, a2, a3] M (fun r M' => PW G own cc nL rt Post PostX n (pc + 3) ls (psh r st) M') (fun _ _ => False)) : PW G own cc nL rt Post PostX n pc ls (a3 :: a2 :: a1 :: st) M := w_callN (As := [a1, a2, a3]) hC cs ht hd rfl rfl h8 d (by simp only [psh_eq]; exact hpt)
end
