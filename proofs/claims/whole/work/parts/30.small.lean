/-! SMALL METHODS -/
def T_requireLine : PT := fun as M Q X => ∃ x : Int32, as = [.int x] ∧ (x < 0 ∨ ¬ x < 12 → X "java/util/NoSuchElementException" M) ∧ (¬ x < 0 → x < 12 → Q none M)
theorem c_X5_requireLine {l : Launch} (hl : l.stackTraces = false) : Con l yX5_requireLine wX5_requireLine 1 8 (T_requireLine) := by
  refine con_of hl (by decide) ?_ ?_
  · intro as M Q X hpt
    obtain ⟨x, rfl, hX, hQ⟩ := hpt
    exact Nat.le_of_ble_eq_true rfl
  intro G as M Q X hl' hT hd hpt
  obtain ⟨x, rfl, hX, hQ⟩ := hpt
  have hG : (gl G).stackTraces = false := by rw [hl']; exact hl
  show PW G RX5 cX5_requireLine 1 none Q X 1 0 [(0, .int x)] [] M
  refine w_iload_n (pc := 0) dX5_requireLine_0 rfl ?_
  refine w_if_lt 10 (pc := 1) dX5_requireLine_1 (by decide) (fun h1 => ?_) (fun h1 => ?_)
  · refine w_throw (pc := 10) (ik := 227) (is := 229) (ic := 231) (cls := "java/util/NoSuchElementException") (ix := 13) (text := "no such line") (List.mem_of_getElem? (i := 0) rfl) (List.mem_of_getElem? (i := 0) rfl) hT (by omega) (by decide) (Nat.le_of_ble_eq_true rfl) dX5_requireLine_10 dX5_requireLine_13 dX5_requireLine_14 dX5_requireLine_16 dX5_requireLine_19 ?_
    exact hX (by first | exact Or.inl h1 | exact Or.inr h7)
  · refine w_iload_n (pc := 4) dX5_requireLine_4 rfl ?_
    refine w_bipush (v := 12) (pc := 5) dX5_requireLine_5 rfl ?_
    refine w_icmp_lt 20 (pc := 7) dX5_requireLine_7 (by decide) (fun h7 => ?_) (fun h7 => ?_)
    · refine w_return (pc := 20) dX5_requireLine_20 ?_
      exact hQ h1 h7
    · refine w_throw (pc := 10) (ik := 227) (is := 229) (ic := 231) (cls := "java/util/NoSuchElementException") (ix := 13) (text := "no such line") (List.mem_of_getElem? (i := 0) rfl) (List.mem_of_getElem? (i := 0) rfl) hT (by omega) (by decide) (Nat.le_of_ble_eq_true rfl) dX5_requireLine_10 dX5_requireLine_13 dX5_requireLine_14 dX5_requireLine_16 dX5_requireLine_19 ?_
      exact hX (by first | exact Or.inl h1 | exact Or.inr h7)
