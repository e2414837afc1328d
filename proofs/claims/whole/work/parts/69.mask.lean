/-! THE LINES OF A TEXT ARE A MASK OF TWELVE *-/
theorem bg_msk {tx : Nat → Int32} {len : Nat} {s : RS} (h : msk s.2.2.2.2.2.2.2) : msk (bgS tx len s).2.2.2.2.2.2.2.2 := by
  unfold bgS
  by_cases c1 : isNm (lkR tx len s.1) = true
  · rw [if_pos c1]
    obtain ⟨-, i, hi, ei⟩ := nm_cl c1
    by_cases c2 : lkR tx len (s.1 + 1) = 39
    · rw [if_pos c2]; exact h
    · rw [if_neg c2, ei]; exact msk_or h hi
  rw [if_neg c1]
  by_cases c2 : isDg (lkR tx len s.1) = true
  · rw [if_pos c2]; exact h
  rw [if_neg c2]
  by_cases c3 : dpN s.2.2.1 s.2.1 = 4
  · rw [if_pos c3]; exact h
  rw [if_neg c3]
  by_cases c4 : lkR tx len s.1 = 40
  · rw [if_pos c4]; exact h
  rw [if_neg c4]
  by_cases c5 : (lkR tx len s.1 = 109 ∨ lkR tx len s.1 = 120) ∧ lkR tx len (s.1 + 1) = 40
  · rw [if_pos c5]; exact h
  rw [if_neg c5]
  split
  · exact h
  · exact h
theorem en_li {c : Int32} {s : RS} : (enT c s).2.2.2.2.2.2.2.2 = s.2.2.2.2.2.2.2 := by
  unfold enT
  by_cases c1 : c = 58 ∧ tpS s = 9
  · rw [if_pos c1]; rfl
  rw [if_neg c1]
  by_cases c2 : c = 44 ∧ (tpS s = 2 ∨ tpS s = 3)
  · rw [if_pos c2]; rfl
  rw [if_neg c2]
  by_cases c3 : c = 41 ∧ (tpS s = 1 ∨ tpS s = 4 ∨ tpS s = 5 ∨ tpS s = 6)
  · rw [if_pos c3]
    by_cases c4 : tpS s = 1
    · rw [if_pos c4]; rfl
    · rw [if_neg c4]; rfl
  · rw [if_neg c3]; rfl
theorem go_li {tx : Nat → Int32} {len : Nat} {pt : Bool} {s : RS} : (goS tx len pt s).2.2.2.2.2.2.2.2 = s.2.2.2.2.2.2.2 := by
  have hT : (goT s).2.2.2.2.2.2.2 = s.2.2.2.2.2.2.2 := (stS_inv s.2.1 (atS s (s.1 + 1)) rfl).2.2.2.2.2
  have hC : (clS (atS s (s.1 + 1))).2.2.2.2.2.2.2 = s.2.2.2.2.2.2.2 := (clS_inv (atS s (s.1 + 1))).2.2.2.2.2
  unfold goS
  by_cases c1 : lkR tx len s.1 = 42
  · rw [if_pos c1]; rfl
  rw [if_neg c1]
  by_cases c2 : lkR tx len s.1 = 43 ∨ lkR tx len s.1 = 45
  · rw [if_pos c2]; exact hT
  rw [if_neg c2]
  by_cases c3 : lkR tx len s.1 = 60 ∨ lkR tx len s.1 = 62
  · rw [if_pos c3]
    split
    · exact hT
    · exact hT
  rw [if_neg c3]
  by_cases c5 : lkR tx len s.1 = 63
  · rw [if_pos c5]
    split
    · exact hT
    · exact hT
  rw [if_neg c5]
  unfold enS
  split
  · rw [en_li]; exact hC
  · exact hC
theorem rd_msk {tx : Nat → Int32} {len : Nat} : ∀ (n : Nat) (x : Int32) (s : RS), msk s.2.2.2.2.2.2.2 → msk (rdL tx len n x s).2.2.2.2.2.2.2.2
  | 0, _, _, h => h
  | n + 1, x, s, h => by
    rw [rdL]
    split
    · refine rd_msk n _ _ ?_
      unfold rdSt
      split
      · exact bg_msk h
      · rw [go_li]; exact h
    · exact h
theorem tZ_msk {tx : Nat → Int32} {len : Nat} {s0 : RS} (h : msk s0.2.2.2.2.2.2.2) : msk (tZ len (rdL tx len 41 2 s0)).2.2.2.2.2.2.2 := by
  have := rd_msk (tx := tx) (len := len) 41 2 s0 h
  unfold tZ
  split
  · rw [(clS_inv _).2.2.2.2.2]; exact this
  · exact this
theorem msk_0 : msk 0 := ⟨0, by decide, rfl⟩
