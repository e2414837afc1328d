/-! A LINE'S FORMULA ON BOTH SIDES *-/
def LineOk (tx : Nat → Int32) (len : Nat) (S A : Nat → Int32) (st : Nat) (nm : Int32) : Prop := st ≤ 48 ∧ msk nm ∧ ∃ (val : VV → Int64) (ovf : VV → Bool), (∀ V lv, rForm (mkE tx len V) 41 0 lv s0 = (val V, (len, false, nm, lv && ovf V))) ∧ Sem S A 0 st nm val ovf
theorem line_work {tx : Nat → Int32} {len : Nat} {S A : Nat → Int32} {st : Nat} {nm : Int32} (h : LineOk tx len S A st nm) {VC VR : VV} (ha : Agr VC VR nm) (sk : Nat → Int64) :
    ((rForm (mkE tx len VC) 41 0 true s0).2.2.2.2 = false ∧ inR (rForm (mkE tx len VC) 41 0 true s0).1 = true ∧ ∃ dp sk', exG S A st VR 64 0 0 sk = some (true, dp, sk') ∧ sk' 0 = (rForm (mkE tx len VC) 41 0 true s0).1) ∨
    ((rForm (mkE tx len VC) 41 0 true s0).2.2.2.2 = true ∧ ∃ r, exG S A st VR 64 0 0 sk = some (false, r)) := by
  obtain ⟨hst, -, val, ovf, h1, h2⟩ := h
  obtain ⟨e1, e2⟩ := ex_sem (S := S) (A := A) h2 hst (fun k _ => ⟨rfl, rfl⟩) ha sk
  rw [h1 VC true]
  cases q : ovf VC with
  | false =>
    obtain ⟨i1, dp, sk', i2, i3⟩ := e1 q
    exact Or.inl ⟨rfl, i1, dp, sk', i2, i3⟩
  | true => exact Or.inr ⟨rfl, e2 q⟩
/-- what a definition lays down *-/
theorem line_def {tx : Nat → Int32} {len : Nat} (h40 : len ≤ 40) {st0 : RS} (e1 : st0.1 = 0) (e2 : st0.2.1 = 0) (e3 : st0.2.2.2.2.1 = 0) (e4 : st0.2.2.2.2.2.2.2 = 0) (hm : (tZ len (rdL tx len 41 2 st0)).2.2.2.2.1 ≤ 48) (ht : tB len (rdL tx len 41 2 st0) = true) : LineOk tx len (tZ len (rdL tx len 41 2 st0)).2.2.2.2.2.1 (tZ len (rdL tx len 41 2 st0)).2.2.2.2.2.2.1 (tZ len (rdL tx len 41 2 st0)).2.2.2.2.1 (tZ len (rdL tx len 41 2 st0)).2.2.2.2.2.2.2 := by
  refine ⟨hm, tZ_msk (by rw [e4]; exact msk_0), ?_⟩
  rcases top_read (tx := tx) pct h40 st0 e1 e2 e3 e4 with q | q
  · rw [ht] at q; exact absurd q.1 (by decide)
  · obtain ⟨-, nm, val, ovf, q1, q2, q3⟩ := q
    rw [q2]
    exact ⟨val, ovf, q1, q3⟩
