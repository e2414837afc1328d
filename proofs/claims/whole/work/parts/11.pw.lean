/-! THE WORDS, THE FRAME'S CONTEXT, THE JUDGEMENT PW -/
def WW : List Cond := lw_tbl.filter goodWord
theorem WW_good {w : Cond} (h : w ∈ WW) : (w.onTables && w.keeps) = true ∨ ∃ ty, w = .arrayClass ty := good_of_word (List.mem_filter.mp h).2
theorem WW_at {args a' : Array Value} {s U : State} (hW : s.WarmedH U.vm) (h : ∀ w ∈ WW, w.before args s = true) : ∀ w ∈ WW, w.before a' U = true := fun w hw => word_at hW (WW_good hw) (h w hw)
def tysOf (cy : Nat → ClassId) : List (ClassId × FieldType) := [(cy 0, .char), (cy 1, .int), (cy 2, .long), (cy 3, .boolean), (cy 4, .double), (cy 5, .object "FormOffice$Account"), (cy 6, .object "FormOffice$Return"), (cy 7, .object "FormOffice$Table"), (cy 8, .object "FormOffice$Text")]
/-- where a method may write: the objects of its world, and what comes from sz on -/
def AA (adr : Nat → Nat) (n sz : Nat) : Nat → Prop := fun q => (∃ i, i < n ∧ q = adr i) ∨ sz ≤ q
/-- the texts that are thrown: entry, text -/
def strs : List (Nat × String) := [(229, "no such line"), (91, "the text is no formula"), (232, "no such table"), (124, "no such beginning or rate"), (129, "the table is full"), (138, "no such rounding"), (143, "no such place"), (149, "the order does not go so far"), (234, "no such taxpayer"), (236, "no such year"), (156, "the line has a formula, or the number is too large"), (166, "the form is a ring, or the account is full"), (177, "overflow"), (242, "the return was not assessed"), (198, "no such amount"), (200, "the account is full"), (205, "no such rate"), (207, "no such number of days"), (213, "an account is full"), (216, "no such posting or what")]
/-- links across the nest: class, entry, method -/
def nests : List (String × Nat × MethodName) := [(RX5, 9, yX4_init), (RX1, 23, yX4_init), (RX1, 48, yX3_init), (RX5, 60, yX2_init), (RX5, 61, yX0_init), (RX3, 38, yX5_carriesToEven), (RX1, 102, yX5_carriesToEven)]
/-- the text of all signs that stand in formulas -/
def signTx : String := "ABCDEFGHIJKL0123456789'+-*%<>?:(),mxt"
def signBy : List Int32 := [65, 66, 67, 68, 69, 70, 71, 72, 73, 74, 75, 76, 48, 49, 50, 51, 52, 53, 54, 55, 56, 57, 39, 43, 45, 42, 37, 60, 62, 63, 58, 40, 41, 44, 109, 120, 116]
/-- words that no step takes away, though the kit's test doesn't know it -/
def decls : List MethodName := [Bundle.initS "java/lang/RuntimeException", Bundle.initS "java/lang/Exception", Bundle.initS Bundle.tN]
def casts : List String := ["java/util/NoSuchElementException", "java/lang/IllegalArgumentException", "java/lang/IllegalStateException", "java/lang/ArithmeticException"]
/-- what stands outside: two statics of Throwable, the texts, the links across the nest, the signs -/
def Base (A : Nat → Prop) (U : State) : Prop := vx_Zq Bundle.tN "UNASSIGNED_STACK" Bundle.steD A U U.heap ∧ vx_Zq Bundle.tN "SUPPRESSED_SENTINEL" Bundle.listD A U U.heap ∧
  (∀ q ∈ strs, ∃ a, vk_R RX5 q.1 q.2 a U) ∧ (∀ q ∈ nests, va_Nw (.methodLinkNest q.1 q.2.1 q.2.2 RX5) U) ∧ (∀ x ∈ decls, va_Nw (.declares x) U) ∧ (∀ C ∈ casts, va_Nw (.castable C C) U) ∧
  ∃ (ak av : Nat), vk_R RX5 62 signTx ak U ∧ vk_S 1 [37] [signBy] (fun _ => ak) (fun _ => av) A U U.heap ∧ va_Z "java/lang/String" "COMPACT_STRINGS" "Z" (.int 1) A U U.heap
theorem Base.to {A B : Nat → Prop} {s U : State} {H : Heap} {locs : List Loc} (h : Base A s) (hS : va_S A s.heap H locs) (hU : U.heap = H) (hW : s.WarmedH U.vm) (hBA : ∀ q, B q → A q) : Base B U := by
  obtain ⟨h1, h2, h3, h4, h7, h8, ak, av, h5, h6, h9⟩ := h
  have hq : ∀ a : Nat, a < s.heap.size → ¬ A a → U.heap[a]? = s.heap[a]? := fun a ha hA => by rw [hU]; exact hS.2.1 a ha hA
  exact ⟨((h1.kept hq).moved hW.alike).narrow hBA, ((h2.kept hq).moved hW.alike).narrow hBA, fun q hq => by obtain ⟨a, ha⟩ := h3 q hq; exact ⟨a, ha.warm hW⟩, fun q hq => (h4 q hq).warmM hW, fun q hq => (h7 q hq).warmD hW, fun q hq => (h8 q hq).warmC hW, ak, av, h5.warm hW, ((h6.kept hq).moved hW.alike).narrow hBA, ((h9.kept hq).moved hW.alike).narrow hBA⟩
/-- a frame's context: the machine's things; classes, array classes, addresses; which address maps may end; where may be written; the depth -/
abbrev Cx : Type := (Program × Launch × Env × Room × State × MethodId × Array Value × List Frame × Method × Code) × (va_G × (Nat → ClassId) × (Nat → Nat) × ((Nat → Nat) → Prop) × (Nat → Prop) × Nat × List (Nat × Nat × Nat × Nat))
def gp (G : Cx) : Program := G.1.1
def gl (G : Cx) : Launch := G.1.2.1
def ge (G : Cx) : Env := G.1.2.2.1
def gR (G : Cx) : Room := G.1.2.2.2.1
def gs (G : Cx) : State := G.1.2.2.2.2.1
def gm (G : Cx) : MethodId := G.1.2.2.2.2.2.1
def ga (G : Cx) : Array Value := G.1.2.2.2.2.2.2.1
def gb (G : Cx) : List Frame := G.1.2.2.2.2.2.2.2.1
def gh (G : Cx) : Method := G.1.2.2.2.2.2.2.2.2.1
def gc (G : Cx) : Code := G.1.2.2.2.2.2.2.2.2.2
def gD (G : Cx) : va_G := G.2.1
def gy (G : Cx) : Nat → ClassId := G.2.2.1
def gr (G : Cx) : Nat → Nat := G.2.2.2.1
def gE (G : Cx) : (Nat → Nat) → Prop := G.2.2.2.2.1
def gA (G : Cx) : Nat → Prop := G.2.2.2.2.2.1
def gd (G : Cx) : Nat := G.2.2.2.2.2.2.1
def gt (G : Cx) : List (Nat × Nat × Nat × Nat) := G.2.2.2.2.2.2.2
/-- the room at depth d with n throws -/
def rmm (d n : Nat) : Room := { frames := d, cells := n, slots := 6 * n, locals := 64 * d }
abbrev Wg (G : Cx) (H : Heap) (locs : List Loc) (cells slots : Nat) (Q : State → Prop) (g : JFrame) : Prop := W (gp G) (gl G) (ge G) (gR G) (gs G) (gm G) (ga G) (gb G) (gh G) (gc G) H locs cells slots Q g
def Ok (G : Cx) (own : String) (cc : ByteArray) (nL : Nat) (rt : Option FieldType) (n0 : Nat) : Prop :=
  (gp G).tables.exec = Jvm.exec ∧ (gc G).code = cc ∧ (gc G).maxLocals = nL ∧ (gh G).sig.returnType = rt ∧ (gs G).vm.findClass own = some (gm G).cls ∧ (∀ w ∈ WW, w.before (ga G) (gs G) = true) ∧ (gh G).locks = false ∧
  va_K (gD G) vwCl (tysOf (gy G)) (gs G) ∧ Base (gA G) (gs G) ∧ (gl G).stackTraces = false ∧ gR G = rmm (gd G) n0 ∧ gE G (gr G) ∧ (∀ q : Nat, (gs G).heap.size ≤ q → gA G q) ∧ (gc G).exceptionTable.toList = tableOf (gt G)
/-- how a method ends: returned -/
def Qn (D : va_G) (cy : Nat → ClassId) (E : (Nat → Nat) → Prop) (A : Nat → Prop) (Post : Option Value → Mem → Prop) : Array Value → State → Outcome → State → Prop := fun _ st o t =>
  (∃ (adr : Nat → Nat) (r : Option Value) (M : Mem), E adr ∧ o = .returned (r.map (tv adr)) ∧ Post r M ∧ va_P D vwCl (Wd cy adr M) t.heap ∧ va_D A (Wd cy adr M)) ∧ va_F A st t
/-- .. or thrown -/
def Xn (D : va_G) (cy : Nat → ClassId) (E : (Nat → Nat) → Prop) (A : Nat → Prop) (PostX : String → Mem → Prop) : String → State → State → Prop := fun C st t =>
  (∃ (adr : Nat → Nat) (M : Mem), E adr ∧ PostX C M ∧ va_P D vwCl (Wd cy adr M) t.heap ∧ va_D A (Wd cy adr M)) ∧ va_F A st t
def Zn (G : Cx) (Post : Option Value → Mem → Prop) (PostX : String → Mem → Prop) (n0 : Nat) : State → Prop := vx_MQ (gb G) (Qn (gD G) (gy G) (gE G) (gA G) Post) (Xn (gD G) (gy G) (gE G) (gA G) PostX) (ga G) (gs G) n0 (6 * n0) (gA G)
def lt (adr : Nat → Nat) (ls : List (Nat × Value)) : List (Nat × Value) := ls.map (fun q => (q.1, tv adr q.2))
/-- the pure judgement: from any heap that holds M, with these locals and this stack, the method comes to its end; n throws are left -/
def PW (G : Cx) (own : String) (cc : ByteArray) (nL : Nat) (rt : Option FieldType) (Post : Option Value → Mem → Prop) (PostX : String → Mem → Prop) (n pc : Nat) (ls : List (Nat × Value)) (st : List Value) (M : Mem) : Prop :=
  ∀ (n0 : Nat) (H : Heap) (locs : List Loc) (lsA : Array Slot) (cells slots : Nat), Ok G own cc nL rt n0 → cells + n ≤ n0 → slots + 6 * n ≤ 6 * n0 → va_P (gD G) vwCl (Wd (gy G) (gr G) M) H → va_D (gA G) (Wd (gy G) (gr G) M) → va_S (gA G) (gs G).heap H locs → lv_has lsA nL (lt (gr G) ls) →
    Wg G H locs cells slots (Zn G Post PostX n0) (F0 (gm G) pc lsA (st.map (tv (gr G))))
def lk : List (Nat × Value) → Nat → Option Value
  | [], _ => none
  | q :: r, i => bif Nat.beq q.1 i then some q.2 else lk r i
theorem lk_mem : ∀ (ls : List (Nat × Value)) (i : Nat) (v : Value), lk ls i = some v → (i, v) ∈ ls
  | [], _, _, h => by cases h
  | q :: r, i, v, h => by
    unfold lk at h
    by_cases hq : Nat.beq q.1 i = true
    · rw [hq] at h
      simp only [cond_true, Option.some.injEq] at h
      have h1 := Nat.eq_of_beq_eq_true hq
      subst h1; subst h
      exact List.mem_cons_self
    · have hq' : Nat.beq q.1 i = false := by cases hb : Nat.beq q.1 i <;> simp_all
      rw [hq'] at h
      exact List.mem_cons_of_mem _ (lk_mem r i v h)
theorem lk_at {adr : Nat → Nat} {lsA : Array Slot} {nL : Nat} {ls : List (Nat × Value)} {i : Nat} {v : Value} (hl : lv_has lsA nL (lt adr ls)) (h : lk ls i = some v) : lsA[i]? = some (.val (tv adr v)) :=
  hl.2.2 _ (List.mem_map.mpr ⟨(i, v), lk_mem ls i v h, rfl⟩)
def cat2 (v : Value) : Bool := match v with
  | .long _ => true
  | .double _ => true
  | _ => false
/-- locals but for those that a store at i takes away -/
def dl1 (i : Nat) : List (Nat × Value) → List (Nat × Value)
  | [] => []
  | q :: r => bif Nat.beq q.1 i || (Nat.beq (q.1 + 1) i && cat2 q.2) then dl1 i r else q :: dl1 i r
def dl2 (i : Nat) : List (Nat × Value) → List (Nat × Value)
  | [] => []
  | q :: r => bif Nat.beq q.1 i || (Nat.beq q.1 (i + 1) || (Nat.beq (q.1 + 1) i && cat2 q.2)) then dl2 i r else q :: dl2 i r
theorem cat2_eq (adr : Nat → Nat) (v : Value) : ((tv adr v).category == 2) = cat2 v := by cases v <;> rfl
theorem beq_b (a b : Nat) : (a == b) = Nat.beq a b := by cases h : Nat.beq a b <;> simp_all [Nat.beq_eq, BEq.beq] <;> first | (intro q; subst q; simp at h) | (exact Nat.eq_of_beq_eq_true h) | skip
theorem dl1_eq (adr : Nat → Nat) (i : Nat) : ∀ ls : List (Nat × Value), (lt adr ls).filter (fun q => !(q.1 == i) && !(q.1 + 1 == i && q.2.category == 2)) = lt adr (dl1 i ls)
  | [] => rfl
  | q :: r => by
    have ih := dl1_eq adr i r
    simp only [lt, List.map_cons, List.filter_cons, dl1] at ih ⊢
    rw [cat2_eq, beq_b, beq_b]
    cases h1 : Nat.beq q.1 i <;> cases h2 : Nat.beq (q.1 + 1) i <;> cases h3 : cat2 q.2 <;> simp_all
theorem dl2_eq (adr : Nat → Nat) (i : Nat) : ∀ ls : List (Nat × Value), (lt adr ls).filter (fun q => !(q.1 == i) && (!(q.1 == i + 1) && !(q.1 + 1 == i && q.2.category == 2))) = lt adr (dl2 i ls)
  | [] => rfl
  | q :: r => by
    have ih := dl2_eq adr i r
    simp only [lt, List.map_cons, List.filter_cons, dl2] at ih ⊢
    rw [cat2_eq, beq_b, beq_b, beq_b]
    cases h1 : Nat.beq q.1 i <;> cases h2 : Nat.beq (q.1 + 1) i <;> cases h3 : cat2 q.2 <;> cases h4 : Nat.beq q.1 (i + 1) <;> simp_all
