/-! WHAT STANDS AT THE LAW'S ENTRY -/
theorem bs_str : ∀ q ∈ strs, Cond.stringRef RX5 q.1 q.2 ∈ lw_tbl := List.forall_mem_cons.mpr ⟨List.mem_of_getElem? (i := 401) (by decide +kernel), List.forall_mem_cons.mpr ⟨List.mem_of_getElem? (i := 535) (by decide +kernel), List.forall_mem_cons.mpr ⟨List.mem_of_getElem? (i := 584) (by decide +kernel), List.forall_mem_cons.mpr ⟨List.mem_of_getElem? (i := 590) (by decide +kernel), List.forall_mem_cons.mpr ⟨List.mem_of_getElem? (i := 604) (by decide +kernel), List.forall_mem_cons.mpr ⟨List.mem_of_getElem? (i := 622) (by decide +kernel), List.forall_mem_cons.mpr ⟨List.mem_of_getElem? (i := 630) (by decide +kernel), List.forall_mem_cons.mpr ⟨List.mem_of_getElem? (i := 639) (by decide +kernel), List.forall_mem_cons.mpr ⟨List.mem_of_getElem? (i := 653) (by decide +kernel), List.forall_mem_cons.mpr ⟨List.mem_of_getElem? (i := 654) (by decide +kernel), List.forall_mem_cons.mpr ⟨List.mem_of_getElem? (i := 657) (by decide +kernel), List.forall_mem_cons.mpr ⟨List.mem_of_getElem? (i := 674) (by decide +kernel), List.forall_mem_cons.mpr ⟨List.mem_of_getElem? (i := 692) (by decide +kernel), List.forall_mem_cons.mpr ⟨List.mem_of_getElem? (i := 719) (by decide +kernel), List.forall_mem_cons.mpr ⟨List.mem_of_getElem? (i := 734) (by decide +kernel), List.forall_mem_cons.mpr ⟨List.mem_of_getElem? (i := 735) (by decide +kernel), List.forall_mem_cons.mpr ⟨List.mem_of_getElem? (i := 743) (by decide +kernel), List.forall_mem_cons.mpr ⟨List.mem_of_getElem? (i := 751) (by decide +kernel), List.forall_mem_cons.mpr ⟨List.mem_of_getElem? (i := 757) (by decide +kernel), List.forall_mem_cons.mpr ⟨List.mem_of_getElem? (i := 772) (by decide +kernel), fun _ h => absurd h List.not_mem_nil⟩⟩⟩⟩⟩⟩⟩⟩⟩⟩⟩⟩⟩⟩⟩⟩⟩⟩⟩⟩
theorem bs_nest : ∀ q ∈ nests, Cond.methodLinkNest q.1 q.2.1 q.2.2 RX5 ∈ lw_tbl := List.forall_mem_cons.mpr ⟨List.mem_of_getElem? (i := 78) (by decide +kernel), List.forall_mem_cons.mpr ⟨List.mem_of_getElem? (i := 107) (by decide +kernel), List.forall_mem_cons.mpr ⟨List.mem_of_getElem? (i := 109) (by decide +kernel), List.forall_mem_cons.mpr ⟨List.mem_of_getElem? (i := 162) (by decide +kernel), List.forall_mem_cons.mpr ⟨List.mem_of_getElem? (i := 184) (by decide +kernel), List.forall_mem_cons.mpr ⟨List.mem_of_getElem? (i := 508) (by decide +kernel), List.forall_mem_cons.mpr ⟨List.mem_of_getElem? (i := 519) (by decide +kernel), fun _ h => absurd h List.not_mem_nil⟩⟩⟩⟩⟩⟩⟩
theorem bs_decl : ∀ q ∈ decls, Cond.declares q ∈ lw_tbl := List.forall_mem_cons.mpr ⟨List.mem_of_getElem? (i := 363) (by decide +kernel), List.forall_mem_cons.mpr ⟨List.mem_of_getElem? (i := 365) (by decide +kernel), List.forall_mem_cons.mpr ⟨List.mem_of_getElem? (i := 367) (by decide +kernel), fun _ h => absurd h List.not_mem_nil⟩⟩⟩
theorem bs_cast : ∀ q ∈ casts, Cond.castable q q ∈ lw_tbl := List.forall_mem_cons.mpr ⟨List.mem_of_getElem? (i := 361) (by decide +kernel), List.forall_mem_cons.mpr ⟨List.mem_of_getElem? (i := 528) (by decide +kernel), List.forall_mem_cons.mpr ⟨List.mem_of_getElem? (i := 597) (by decide +kernel), List.forall_mem_cons.mpr ⟨List.mem_of_getElem? (i := 685) (by decide +kernel), fun _ h => absurd h List.not_mem_nil⟩⟩⟩⟩
theorem bs_ao : ∀ q ∈ aos, Cond.arrayOver (.object q) ∈ lw_tbl := List.forall_mem_cons.mpr ⟨List.mem_of_getElem? (i := 93) (by decide +kernel), List.forall_mem_cons.mpr ⟨List.mem_of_getElem? (i := 95) (by decide +kernel), List.forall_mem_cons.mpr ⟨List.mem_of_getElem? (i := 97) (by decide +kernel), List.forall_mem_cons.mpr ⟨List.mem_of_getElem? (i := 105) (by decide +kernel), fun _ h => absurd h List.not_mem_nil⟩⟩⟩⟩
theorem bs_l1 : Cond.laysStatic "java/lang/String" "COMPACT_STRINGS" "Z" ∈ lw_tbl := List.mem_of_getElem? (i := 261) (by decide +kernel)
theorem bs_l2 : Cond.laysStatic "java/lang/Throwable" "UNASSIGNED_STACK" "[Ljava/lang/StackTraceElement;" ∈ lw_tbl := List.mem_of_getElem? (i := 386) (by decide +kernel)
theorem bs_l3 : Cond.laysStatic "java/lang/Throwable" "SUPPRESSED_SENTINEL" "Ljava/util/List;" ∈ lw_tbl := List.mem_of_getElem? (i := 388) (by decide +kernel)
theorem bs_i1 : Cond.initialized "java/lang/String" ∈ lw_tbl := List.mem_of_getElem? (i := 53) (by decide +kernel)
theorem bs_i2 : Cond.initialized "java/lang/Throwable" ∈ lw_tbl := List.mem_of_getElem? (i := 59) (by decide +kernel)
theorem bs_s62 : Cond.stringRef RX5 62 signTx ∈ lw_tbl := List.mem_of_getElem? (i := 247) (by decide +kernel)
def nar : List Cond := flatC (Jvm.Cond.and given_1 narrow_1)
theorem nr_ex : ∀ q ∈ strs, Cond.exactly (.string RX5 q.1) "java/lang/String" ∈ nar := by decide +kernel
theorem nr_nc : ∀ q ∈ ncs, Cond.not (.castable q.1 q.2) ∈ nar := by decide +kernel
theorem nr_cs : Cond.eq (.static "java/lang/String" "COMPACT_STRINGS" "Z") (.int 1) ∈ nar := by decide +kernel
theorem nr_us : Cond.isRef (.static "java/lang/Throwable" "UNASSIGNED_STACK" "[Ljava/lang/StackTraceElement;") ∈ nar := by decide +kernel
theorem nr_ss : Cond.isRef (.static "java/lang/Throwable" "SUPPRESSED_SENTINEL" "Ljava/util/List;") ∈ nar := by decide +kernel
theorem nr_s1 : Cond.exactly (.string RX5 62) "java/lang/String" ∈ nar := by decide +kernel
theorem nr_s2 : Cond.eq (.field (.string RX5 62) "java/lang/String" "coder" "B") (.int 0) ∈ nar := by decide +kernel
theorem nr_s3 : Cond.arrayOf (.field (.string RX5 62) "java/lang/String" "value" "[B") .byte ∈ nar := by decide +kernel
theorem nr_s4 : Cond.eq (.length (.field (.string RX5 62) "java/lang/String" "value" "[B")) (.int (Int32.ofNat 37)) ∈ nar := by decide +kernel
theorem nr_s5 : ∀ j, j < 37 → Cond.eq (.elem (.field (.string RX5 62) "java/lang/String" "value" "[B") (.int (Int32.ofNat j))) (.int (signBy.getD j 0)) ∈ nar := by decide +kernel
theorem base_of {args : Array Value} {s : State} (hts : ∀ w ∈ lw_tbl, w.before args s = true) (hgv : (Jvm.Cond.and given_1 narrow_1).before args s = true) : Base (fun q => s.heap.size ≤ q) s ∧ NcAll s ∧ AoAll s := by
  have hn : ∀ c ∈ nar, c.before args s = true := flat_of_before _ hgv
  have hA : ∀ a : Nat, a < s.heap.size → ¬ s.heap.size ≤ a := fun a h => by omega
  refine ⟨⟨vx_Zqof (hts _ bs_l2) (hts _ bs_i2) (hn _ nr_us) hA, vx_Zqof (hts _ bs_l3) (hts _ bs_i2) (hn _ nr_ss) hA, fun q hq => ?_, fun q hq => va_Nw.of rfl (hts _ (bs_nest q hq)), fun x hx => va_Nw.of rfl (hts _ (bs_decl x hx)), fun C hC => va_Nw.of rfl (hts _ (bs_cast C hC)), ?_⟩, fun q hq => va_Nc.of (hn _ (nr_nc q hq)), fun C hC => va_AO.of (hts _ (bs_ao C hC))⟩
  · obtain ⟨a, c, cA, kA, q1, -⟩ := Cond.exactly_spec (args := args) (first := s) (o := none) (s := s) (idx := []) (t := .string RX5 q.1) (cls := "java/lang/String") (hn _ (nr_ex q hq))
    exact ⟨a, vk_R.of (hts _ (bs_str q hq)) q1⟩
  · obtain ⟨adK, adV, hS, hE⟩ := vk_Sof (args := args) (s := s) (N := 1) (tm := fun _ => .string RX5 62) (len := [37]) (byt := [signBy]) (A := fun q => s.heap.size ≤ q) (fun i hi => by rw [show i = 0 by omega]; decide) (fun i hi => hn _ nr_s1) (fun i hi => hn _ nr_s2) (fun i hi => hn _ nr_s3) (fun i hi => by rw [show i = 0 by omega]; exact hn _ nr_s4) (fun i hi j hj => by
      have h0 : i = 0 := by omega
      subst h0
      exact hn _ (nr_s5 j hj)) (fun i j hi hj h => absurd (show i = j by omega) h) hA
    refine ⟨adK 0, adV 0, vk_R.of (hts _ bs_s62) (hE 0 (by omega)), ⟨fun i hi => ?_, fun i j hi hj _ => by omega⟩, va_Zof (hts _ bs_l1) (hts _ bs_i1) (va_eqi (hn _ nr_cs)) hA⟩
    have h0 : i = 0 := by omega
    subst h0
    exact hS.1 0 (by omega)
theorem arr_p {args : Array Value} {s : State} {ty : FieldType} (hty : ∀ C, ty ≠ .object C) (h : (Cond.arrayClass ty).before args s = true) : ∃ cA, ArrOfT s cA ty ∧ va_RA s cA ty := by
  obtain ⟨c, k, comp, h1, h2, h3⟩ := Cond.arrayClass_spec (args := args) (first := s) (o := none) (idx := []) h
  refine ⟨c, fun n z => ⟨fun k h => (by cases h), k, h2, comp, h3⟩, ?_⟩
  cases ty with
  | object C => exact absurd rfl (hty C)
  | _ => exact h1
theorem arr_q {args : Array Value} {s : State} {C : String} (h : (Cond.arrayOver (.object C)).before args s = true) : ∃ cA, ArrOfT s cA (.object C) ∧ va_RA s cA (.object C) := by
  obtain ⟨comp, c, k, h1, h2, h3, h4, h5⟩ := Cond.arrayOver_spec (args := args) (first := s) (o := none) (idx := []) h
  exact ⟨c, fun n z => ⟨fun k h => (by cases h), k, h3, comp, h4⟩, k, comp, h3, h4, h1, h5⟩
theorem WW_tbl {args : Array Value} {s : State} (hts : ∀ w ∈ lw_tbl, w.before args s = true) : ∀ w ∈ WW, w.before args s = true := fun w hw => hts w (List.mem_filter.mp hw).1
theorem known_of {args : Array Value} {s : State} (hts : ∀ w ∈ lw_tbl, w.before args s = true) : ∃ (D : va_G) (cy : Nat → ClassId), va_K D vwCl (tysOf cy) s := by
  have hW := WW_tbl hts
  obtain ⟨c0, i0, k0⟩ := u_known (ws := WW) hW uw_0 (hts _ (List.mem_of_getElem? (i := 183) (by decide +kernel)) : (Cond.instantiable RX0 5).before args s = true)
  obtain ⟨c1, i1, k1⟩ := u_known (ws := WW) hW uw_1 (hts _ (List.mem_of_getElem? (i := 99) (by decide +kernel)) : (Cond.instantiable RX1 9).before args s = true)
  obtain ⟨c2, i2, k2⟩ := u_known (ws := WW) hW uw_2 (hts _ (List.mem_of_getElem? (i := 161) (by decide +kernel)) : (Cond.instantiable RX2 4).before args s = true)
  obtain ⟨c3, i3, k3⟩ := u_known (ws := WW) hW uw_3 (hts _ (List.mem_of_getElem? (i := 108) (by decide +kernel)) : (Cond.instantiable RX3 4).before args s = true)
  obtain ⟨c4, i4, k4⟩ := u_known (ws := WW) hW uw_4 (hts _ (List.mem_of_getElem? (i := 77) (by decide +kernel)) : (Cond.instantiable RX4 2).before args s = true)
  obtain ⟨c5, i5, k5⟩ := u_known (ws := WW) hW uw_5 (hts _ (List.mem_of_getElem? (i := 69) (by decide +kernel)) : (Cond.instantiable RX5 11).before args s = true)
  obtain ⟨c6, i6, k6⟩ := u_known (ws := WW) hW uw_6 (hts _ (List.mem_of_getElem? (i := 774) (by decide +kernel)) : (Cond.instantiable RX6 34).before args s = true)
  obtain ⟨a0, g0⟩ := arr_p (ty := .char) (fun C h => by cases h) (hW _ ac_char)
  obtain ⟨a1, g1⟩ := arr_p (ty := .int) (fun C h => by cases h) (hW _ ac_int)
  obtain ⟨a2, g2⟩ := arr_p (ty := .long) (fun C h => by cases h) (hW _ ac_long)
  obtain ⟨a3, g3⟩ := arr_p (ty := .boolean) (fun C h => by cases h) (hW _ ac_boolean)
  obtain ⟨a4, g4⟩ := arr_p (ty := .double) (fun C h => by cases h) (hW _ ac_double)
  obtain ⟨a5, g5⟩ := arr_q (C := "FormOffice$Account") (hts _ (bs_ao _ (List.mem_of_getElem? (i := 2) rfl)))
  obtain ⟨a6, g6⟩ := arr_q (C := "FormOffice$Return") (hts _ (bs_ao _ (List.mem_of_getElem? (i := 1) rfl)))
  obtain ⟨a7, g7⟩ := arr_q (C := "FormOffice$Table") (hts _ (bs_ao _ (List.mem_of_getElem? (i := 3) rfl)))
  obtain ⟨a8, g8⟩ := arr_q (C := "FormOffice$Text") (hts _ (bs_ao _ (List.mem_of_getElem? (i := 0) rfl)))
  refine ⟨(fun c => match c with | 0 => c0 | 1 => c1 | 2 => c2 | 3 => c3 | 4 => c4 | 5 => c5 | _ => c6, fun c => match c with | 0 => i0 | 1 => i1 | 2 => i2 | 3 => i3 | 4 => i4 | 5 => i5 | _ => i6), fun t => match t with | 0 => a0 | 1 => a1 | 2 => a2 | 3 => a3 | 4 => a4 | 5 => a5 | 6 => a6 | 7 => a7 | _ => a8, fun c q hq => ?_, fun t q hq => ?_⟩
  · have hc : c < 7 := (List.getElem?_eq_some_iff.mp hq).1
    rcases (show c = 0 ∨ c = 1 ∨ c = 2 ∨ c = 3 ∨ c = 4 ∨ c = 5 ∨ c = 6 by omega) with rfl | rfl | rfl | rfl | rfl | rfl | rfl
    · cases hq; exact k0
    · cases hq; exact k1
    · cases hq; exact k2
    · cases hq; exact k3
    · cases hq; exact k4
    · cases hq; exact k5
    · cases hq; exact k6
  · have hc : t < 9 := (List.getElem?_eq_some_iff.mp hq).1
    rcases (show t = 0 ∨ t = 1 ∨ t = 2 ∨ t = 3 ∨ t = 4 ∨ t = 5 ∨ t = 6 ∨ t = 7 ∨ t = 8 by omega) with rfl | rfl | rfl | rfl | rfl | rfl | rfl | rfl | rfl
    · cases hq; exact g0
    · cases hq; exact g1
    · cases hq; exact g2
    · cases hq; exact g3
    · cases hq; exact g4
    · cases hq; exact g5
    · cases hq; exact g6
    · cases hq; exact g7
    · cases hq; exact g8
