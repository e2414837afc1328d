/-! THE THROW AS A RULE OF PW -/
def rtx : List String := ["java/lang/RuntimeException", "java/lang/Exception"]
def odds : List Cond := decls.map (fun x => .declares x) ++ casts.map (fun C => .castable C C)
def rxOf (ix : Nat) : ByteArray := ⟨#[0x2a, 0x2b, 0xb7, 0x00, UInt8.ofNat ix, 0xb1]⟩
/-- what is thrown: the class's entry, its constructor's, its name, the entry of the super call -/
def exn : List (Nat × Nat × String × Nat) := [(227, 231, "java/util/NoSuchElementException", 13), (89, 93, "java/lang/IllegalArgumentException", 7), (127, 131, "java/lang/IllegalStateException", 7), (175, 179, "java/lang/ArithmeticException", 7)]
def thOk (q : Nat × Nat × String × Nat) : Bool := decide (Cond.classLink RX5 q.1 q.2.2.1 ∈ WW) && decide (Cond.initialized q.2.2.1 ∈ WW) && Bundle.fit q.2.2.1 && (vx_atX RX5 q.2.1 q.2.2.1 q.2.2.2 (rxOf q.2.2.2) rtx).all (fun w => (decide (w ∈ WW) || decide (w ∈ odds)) && vx_ot w)
theorem thOk_1 : thOk (227, 231, "java/util/NoSuchElementException", 13) = true := by decide +kernel
theorem thOk_2 : thOk (89, 93, "java/lang/IllegalArgumentException", 7) = true := by decide +kernel
theorem thOk_3 : thOk (127, 131, "java/lang/IllegalStateException", 7) = true := by decide +kernel
theorem thOk_4 : thOk (175, 179, "java/lang/ArithmeticException", 7) = true := by decide +kernel
theorem thOk_all : ∀ q ∈ exn, thOk q = true := List.forall_mem_cons.mpr ⟨thOk_1, List.forall_mem_cons.mpr ⟨thOk_2, List.forall_mem_cons.mpr ⟨thOk_3, List.forall_mem_cons.mpr ⟨thOk_4, fun _ h => absurd h List.not_mem_nil⟩⟩⟩⟩
theorem ot_lit : ∀ q ∈ exn, vx_ot (Cond.classLink RX5 q.1 q.2.2.1) = true ∧ vx_ot (Cond.initialized q.2.2.1) = true := by decide +kernel
theorem rtx_fit : ∀ n ∈ rtx, Bundle.fit n = true := by decide +kernel
theorem rx_dec : ∀ q ∈ exn, decode (rxOf q.2.2.2) 0 = .ok (.aload_n 0, 1) ∧ decode (rxOf q.2.2.2) 1 = .ok (.aload_n 1, 1) ∧ decode (rxOf q.2.2.2) 2 = .ok (.invokespecial q.2.2.2, 3) ∧ decode (rxOf q.2.2.2) 5 = .ok (.return_, 1) := by
  intro q hq
  simp only [exn, List.mem_cons, List.not_mem_nil, or_false] at hq
  rcases hq with rfl | rfl | rfl | rfl <;> exact ⟨by decide +kernel, by decide +kernel, by decide +kernel, by decide +kernel⟩
section
variable {G : Cx} {cc : ByteArray} {nL : Nat} {rt : Option FieldType} {Post : Option Value → Mem → Prop} {PostX : String → Mem → Prop} {n pc : Nat} {ls : List (Nat × Value)} {st : List Value} {M : Mem}
theorem w_throw {ik is ic ix : Nat} {cls text : String} (he : (ik, ic, cls, ix) ∈ exn) (hs : (is, text) ∈ strs) (ht : gt G = []) (hd : 8 ≤ gd G) (hn : 1 ≤ n) (h8 : (st.map fun v => v.category).sum ≤ 8)
    (d0 : decode cc pc = .ok (.new ik, 3)) (d3 : decode cc (pc + 3) = .ok (.dup, 1)) (d4 : decode cc (pc + 4) = .ok (.ldc is, 2)) (d6 : decode cc (pc + 6) = .ok (.invokespecial ic, 3)) (d9 : decode cc (pc + 9) = .ok (.athrow, 1)) (hx : PostX cls M) : PW G RX5 cc nL rt Post PostX n pc ls st M := by
  intro n0 H locs lsA cells slots ok h1 h2 hP hD hS hl
  have hth := thOk_all _ he
  have hot := ot_lit _ he
  obtain ⟨x0, x1, x2, x5⟩ := rx_dec _ he
  simp only [thOk, Bool.and_eq_true, decide_eq_true_eq, List.all_eq_true, Bool.or_eq_true] at hth
  obtain ⟨⟨⟨hk, hini⟩, hfit⟩, hall⟩ := hth
  obtain ⟨sa, hsa⟩ := ok.base.2.2.1 _ hs
  have hR := ok.room
  refine st_throwX (A := gA G) (names := rtx) (cls := cls) (text := text) (ik := ik) (is := is) (ic := ic) (sa := sa) (ix := ix) (rx := rxOf ix) ok.hx ok.hb ok.tr x0 x1 x2 x5 ok.hown hfit rtx_fit (ok.hts _ hk) (ok.hts _ hini) hsa ?_ ?_ ok.base.1 ok.base.2.1 hS (by rw [hl.1, ok.hml]) d0 d3 d4 d6 d9 (fun x hx => by rw [ok.tab, ht] at hx; cases hx) ?_ ?_ ?_ ?_ ok.hlk ?_ hS.2.2 (by omega) (by omega)
  · intro w hw
    rcases (hall w hw).1 with h | h
    · exact ok.hts w h
    · simp only [odds, List.mem_append, List.mem_map] at h
      rcases h with ⟨x, hx, rfl⟩ | ⟨C, hC, rfl⟩
      · exact va_Nw.use rfl (ok.base.2.2.2.2.1 x hx)
      · exact va_Nw.use rfl (ok.base.2.2.2.2.2.1 C hC)
  · intro w hw
    rcases List.mem_cons.mp hw with rfl | hw
    · exact hot.1
    · rcases List.mem_cons.mp hw with rfl | hw
      · exact hot.2
      · exact (hall w hw).2
  · rw [hR]; simp only [rmm, rtx, List.length_cons, List.length_nil]; omega
  · rw [hR, cats]; simp only [rmm, rtx, List.length_cons, List.length_nil]; omega
  · rw [hR]; simp only [rmm]; omega
  · rw [hR]; simp only [rmm]; omega
  · intro t hal hsz hsame
    have hP' : va_P (gD G) vwCl (Wd (gy G) (gr G) M) t.heap := hP.kept (fun k q hk => hsame q.1 (va_at.lt (hP k q hk)))
    refine ⟨⟨gr G, M, ok.ext, hx, hP', hD⟩, Nat.le_trans hS.1 hsz, fun q hq hA => ?_⟩
    rw [hsame q (Nat.lt_of_lt_of_le hq hS.1)]
    exact hS.2.1 q hq hA
end
