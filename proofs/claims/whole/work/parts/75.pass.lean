/-! DAYS GO BY: both sides *-/
def cp (r : Int32) (u : Nat) (M : Mem) : Mem := if intr (mJ M (84 + 4 * u) 4) r = 0 then M else posA M (84 + 4 * u) 2 (-1) (intr (mJ M (84 + 4 * u) 4) r)
def ci (r : Int32) (u : Nat) (M : Mem) : Nat := if intr (mJ M (84 + 4 * u) 4) r = 0 then 0 else 1
def mp (x : Int32) (u : Nat) (M : Mem) : Mem := if chgM M u x = 0 then M else mPost M u (mI M 111 u).toNatClampNeg 2 (-1) (chgM M u x)
def mi (x : Int32) (u : Nat) (M : Mem) : Nat := if chgM M u x = 0 then 0 else 1
theorem pasC_s {r : Int32} {n t : Nat} {M : Mem} {c : Nat} : pasC r (n + 1) t M c = pasC r n (t + 1) (cp r t M) (c + ci r t M) := by
  rw [pasC]
  unfold cp ci
  split <;> rfl
theorem pasM_s {x : Int32} {n t : Nat} {M : Mem} {c : Nat} : pasM x (n + 1) t M c = pasM x n (t + 1) (mp x t M) (c + mi x t M) := by
  rw [pasM]
  unfold mp mi
  split <;> rfl
theorem cp_F {r : Int32} {u : Nat} {M : Mem} (h : Full M) : Full (cp r u M) := by
  unfold cp
  split <;> exact h
theorem mp_F {x : Int32} {u : Nat} {M : Mem} (h : Full M) : Full (mp x u M) := by
  unfold mp
  split <;> exact h
theorem cp_I {r : Int32} {u a : Nat} {M : Mem} (h : a < 84 + 4 * u ∨ 88 + 4 * u ≤ a) : mI (cp r u M) a = mI M a := by
  unfold cp
  split
  · rfl
  · unfold posA
    simp (disch := omega) only [mI_row, mI_k, mI_s, mI_J, mI_D, mI_F, mI_rJ, mI_rn, mI_rs, mJ_row, mJ_k, mJ_s, mJ_I, mJ_D, mJ_F, mJ_rI, mJ_rn, mJ_rs, c7_I, c7_J]
theorem cp_J {r : Int32} {u a : Nat} {M : Mem} (h : a < 84 + 4 * u ∨ 88 + 4 * u ≤ a) : mJ (cp r u M) a = mJ M a := by
  unfold cp
  split
  · rfl
  · unfold posA
    simp (disch := omega) only [mI_row, mI_k, mI_s, mI_J, mI_D, mI_F, mI_rJ, mI_rn, mI_rs, mJ_row, mJ_k, mJ_s, mJ_I, mJ_D, mJ_F, mJ_rI, mJ_rn, mJ_rs, c7_I, c7_J]
theorem mp_I {x : Int32} {u a : Nat} {M : Mem} (h : ¬ (111 ≤ a ∧ a ≤ 113)) : mI (mp x u M) a = mI M a := by
  unfold mp
  split
  · rfl
  · unfold mPost
    simp (disch := omega) only [mI_row, mI_k, mI_s, mI_J, mI_D, mI_F, mI_rJ, mI_rn, mI_rs, mJ_row, mJ_k, mJ_s, mJ_I, mJ_D, mJ_F, mJ_rI, mJ_rn, mJ_rs, c7_I, c7_J]
theorem mp_J {x : Int32} {u a : Nat} {M : Mem} (h : a ≠ 114) : mJ (mp x u M) a = mJ M a := by
  unfold mp
  split
  · rfl
  · unfold mPost
    simp (disch := omega) only [mI_row, mI_k, mI_s, mI_J, mI_D, mI_F, mI_rJ, mI_rn, mI_rs, mJ_row, mJ_k, mJ_s, mJ_I, mJ_D, mJ_F, mJ_rI, mJ_rn, mJ_rs, c7_I, c7_J]
/-- an account in the class's memory beside the reference's *-/
def IA2 (C N : Mem) (t : Nat) : Prop := IAcc (mI C (84 + 4 * t) 3) (mJ C (84 + 4 * t) 4) (mI C (84 + 4 * t + 1)) (mI C (84 + 4 * t + 2)) (mJ C (84 + 4 * t + 3)) (mI N 111 t) (fun j => mI N 112 (24 * t + j)) (fun j => mI N 113 (24 * t + j)) (fun j => mJ N 114 (24 * t + j))
theorem IA2.cC {C C' N : Mem} {t : Nat} (h : IA2 C N t) (h1 : ∀ a, 84 + 4 * t ≤ a → a < 88 + 4 * t → mI C' a = mI C a ∧ mJ C' a = mJ C a) : IA2 C' N t := by
  unfold IA2
  rw [(h1 (84 + 4 * t) (by omega) (by omega)).1, (h1 (84 + 4 * t) (by omega) (by omega)).2, (h1 (84 + 4 * t + 1) (by omega) (by omega)).1, (h1 (84 + 4 * t + 2) (by omega) (by omega)).1, (h1 (84 + 4 * t + 3) (by omega) (by omega)).2]
  exact h
theorem IA2.cN {C N N' : Mem} {t : Nat} (h : IA2 C N t) (h1 : ∀ a, 111 ≤ a → a ≤ 113 → mI N' a = mI N a) (h2 : mJ N' 114 = mJ N 114) : IA2 C N' t := by
  unfold IA2
  rw [h1 111 (by omega) (by omega), h1 112 (by omega) (by omega), h1 113 (by omega) (by omega), h2]
  exact h
theorem cp_far {r : Int32} {u t : Nat} {C N : Mem} (hu : u ≠ t) (h : IA2 C N t) : IA2 (cp r u C) N t := h.cC (fun a h1 h2 => ⟨cp_I (by omega), cp_J (by omega)⟩)
def rtE (r x : Int32) (N : Mem) : Prop := r.toInt64 = (mI N 96 17).toInt64 * x.toInt64
theorem rtE.mp {r x : Int32} {u : Nat} {N : Mem} (h : rtE r x N) : rtE r x (mp x u N) := by
  unfold rtE
  rw [mp_I (by omega)]
  exact h
theorem pas_chg {r x : Int32} {u : Nat} {C N : Mem} (h : IA2 C N u) (hr : rtE r x N) : chgM N u x = intr (mJ C (84 + 4 * u) 4) r := by
  obtain ⟨p, a1, a2, a3, a4, a5⟩ := h
  unfold chgM
  rw [a3, clN (by omega), a4, intr_eq hr]
/-- an account that would get a posting isn't full *-/
def okA (r : Int32) (C : Mem) (u : Nat) : Prop := intr (mJ C (84 + 4 * u) 4) r = 0 ∨ ¬ 24 ≤ mI C (84 + 4 * u) 3
theorem pas_lt {r x : Int32} {u : Nat} {C N : Mem} (h : IA2 C N u) (hr : rtE r x N) (hb : okA r C u) : chgM N u x = 0 ∨ (mI N 111 u).toNatClampNeg < 24 := by
  rw [pas_chg h hr]
  rcases hb with hb | hb
  · exact Or.inl hb
  · obtain ⟨p, a1, a2, a3, a4, a5⟩ := h
    rw [a2, show (24 : Int32) = nI 24 from rfl, nI_leI (by omega) (by omega)] at hb
    rw [a3, clN (by omega)]
    exact Or.inr (by omega)
theorem mp_far {r x : Int32} {u t : Nat} {C C' N : Mem} (hu : u ≠ t) (h : IA2 C N t) (h' : IA2 C' N u) (hr : rtE r x N) (hb : okA r C' u) : IA2 C (mp x u N) t := by
  have hl := pas_lt h' hr hb
  unfold mp
  split
  · exact h
  · rename_i z
    have hl2 : (mI N 111 u).toNatClampNeg < 24 := hl.resolve_left z
    unfold IA2 mPost
    refine IAcc.cg h (by simp (disch := omega) only [mI_row, mI_k, mI_s, mI_J, mI_D, mI_F, mI_rJ, mI_rn, mI_rs, mJ_row, mJ_k, mJ_s, mJ_I, mJ_D, mJ_F, mJ_rI, mJ_rn, mJ_rs, c7_I, c7_J]) (fun j hj => ?_)
    simp (disch := omega) only [mI_row, mI_k, mI_s, mI_J, mI_D, mI_F, mI_rJ, mI_rn, mI_rs, mJ_row, mJ_k, mJ_s, mJ_I, mJ_D, mJ_F, mJ_rI, mJ_rn, mJ_rs, c7_I, c7_J]
    exact ⟨trivial, trivial, trivial⟩
theorem pas_step {r x : Int32} {u : Nat} {C N : Mem} (h : IA2 C N u) (hr : rtE r x N) (hb : okA r C u) : IA2 (cp r u C) (mp x u N) u ∧ ci r u C = mi x u N := by
  have e := pas_chg h hr
  have hl := pas_lt h hr hb
  unfold cp mp ci mi
  rw [e] at hl ⊢
  by_cases z : intr (mJ C (84 + 4 * u) 4) r = 0
  · rw [if_pos z, if_pos z, if_pos z]
    exact ⟨h, rfl⟩
  · rw [if_neg z, if_neg z, if_neg z]
    refine ⟨?_, rfl⟩
    have hl2 := hl.resolve_left z
    have h' := h
    obtain ⟨p, a1, a2, a3, a4, a5⟩ := h
    rw [a3, clN (by omega)] at hl2 ⊢
    rw [posA_eq a2 hl2]
    unfold IA2 mPost
    refine IAcc.post h' a2 hl2 (by simp (disch := omega) only [mI_row, mI_k, mI_s, mI_J, mI_D, mI_F, mI_rJ, mI_rn, mI_rs, mJ_row, mJ_k, mJ_s, mJ_I, mJ_D, mJ_F, mJ_rI, mJ_rn, mJ_rs, c7_I, c7_J]) (by simp (disch := omega) only [mI_row, mI_k, mI_s, mI_J, mI_D, mI_F, mI_rJ, mI_rn, mI_rs, mJ_row, mJ_k, mJ_s, mJ_I, mJ_D, mJ_F, mJ_rI, mJ_rn, mJ_rs, c7_I, c7_J]) (by simp (disch := omega) only [mI_row, mI_k, mI_s, mI_J, mI_D, mI_F, mI_rJ, mI_rn, mI_rs, mJ_row, mJ_k, mJ_s, mJ_I, mJ_D, mJ_F, mJ_rI, mJ_rn, mJ_rs, c7_I, c7_J]) (fun j hj => ?_) (fun j hj => ?_) ?_
    · simp (disch := omega) only [mI_row, mI_k, mI_s, mI_J, mI_D, mI_F, mI_rJ, mI_rn, mI_rs, mJ_row, mJ_k, mJ_s, mJ_I, mJ_D, mJ_F, mJ_rI, mJ_rn, mJ_rs, c7_I, c7_J]
      exact ⟨trivial, trivial, trivial⟩
    · simp (disch := omega) only [mI_row, mI_k, mI_s, mI_J, mI_D, mI_F, mI_rJ, mI_rn, mI_rs, mJ_row, mJ_k, mJ_s, mJ_I, mJ_D, mJ_F, mJ_rI, mJ_rn, mJ_rs, c7_I, c7_J]
      exact ⟨trivial, trivial, trivial⟩
    · simp (disch := omega) only [mI_row, mI_k, mI_s, mI_J, mI_D, mI_F, mI_rJ, mI_rn, mI_rs, mJ_row, mJ_k, mJ_s, mJ_I, mJ_D, mJ_F, mJ_rI, mJ_rn, mJ_rs, c7_I, c7_J]
      exact ⟨trivial, trivial, trivial⟩
theorem rt_eq {x : Int32} {a : Nat} (ha : a < 31) (h1 : ¬ x < 1) (h2 : ¬ 1000 < x) : (nI a * x).toInt64 = (nI a).toInt64 * x.toInt64 := by
  obtain ⟨j, hj, rfl⟩ := nI_of (x := x) (fun q => h1 (Int32.lt_trans q (by decide)))
  have hj2 : j ≤ 1000 := by
    rw [show (1000 : Int32) = nI 1000 from rfl, nI_ltI (by omega) hj] at h2
    omega
  have hm : a * j ≤ 30 * 1000 := Nat.mul_le_mul (by omega) hj2
  have hc : ((a : Int) * (j : Int)) = ((a * j : Nat) : Int) := by rw [Int.natCast_mul]
  apply Int64.toInt_inj.mp
  rw [pk_mul, Int32.toInt_toInt64, nI_toInt (by omega), ml64 (by rw [Int32.toInt_toInt64, Int32.toInt_toInt64, nI_toInt (by omega), nI_toInt hj, hc]; omega) (by rw [Int32.toInt_toInt64, Int32.toInt_toInt64, nI_toInt (by omega), nI_toInt hj, hc]; omega), Int32.toInt_toInt64, Int32.toInt_toInt64, nI_toInt (by omega), nI_toInt hj, hc]
theorem s_pass {M : Mem} (h : Inv M) {x : Int32} {Q : PQ} {X : PX} (hQ : ∀ (rv : Int32) M1, MidI T_mPass [.ref 96, .int x] rv M1 → Q (some (.int rv)) M1) (hX : ∀ E c M1, (E, c) ∈ [("java/lang/IllegalArgumentException", (1 : Int32)), ("java/lang/IllegalStateException", (2 : Int32))] → MidX T_mPass [.ref 96, .int x] (.int 0) c M1 → X E M1) : T_pass [.ref 0, .int x] M Q X := by
  have h0 := h
  obtain ⟨hF, hP, hL, hT, hO, hR, hA, hN⟩ := h
  have hsz : ∀ t, t < 3 → ∃ p, p ≤ 24 ∧ mI M (84 + 4 * t) 3 = nI p := fun t ht => by
    obtain ⟨p, a1, a2, a3, a4, a5⟩ := hA t ht
    exact ⟨p, a1, a2⟩
  have hszM : ∀ t, t < 3 → ∃ p, p ≤ 24 ∧ mI M 111 t = nI p := fun t ht => by
    obtain ⟨p, a1, a2, a3, a4, a5⟩ := hA t ht
    exact ⟨p, a1, a3⟩
  have hA2 : ∀ t, t < 3 → IA2 M M t := hA
  refine ⟨x, rfl, hF, hsz, fun q => hX _ 1 _ List.mem_cons_self (fun Q2 X2 k => ?_), fun q1 q2 => ?_⟩
  · exact ⟨x, rfl, hF, hszM, fun _ => k _ (h0.same hF (fun a _ _ _ _ => by unfold thr; simp (disch := omega) only [mI_row, mI_k, mI_s, mI_J, mI_D, mI_F, mI_rJ, mI_rn, mI_rs, mJ_row, mJ_k, mJ_s, mJ_I, mJ_D, mJ_F, mJ_rI, mJ_rn, mJ_rs, c7_I, c7_J]) (fun k hk => by unfold thr; simp (disch := omega) only [mI_row, mI_k, mI_s, mI_J, mI_D, mI_F, mI_rJ, mI_rn, mI_rs, mJ_row, mJ_k, mJ_s, mJ_I, mJ_D, mJ_F, mJ_rI, mJ_rn, mJ_rs, c7_I, c7_J]) (fun a _ _ _ _ => by unfold thr; simp (disch := omega) only [mI_row, mI_k, mI_s, mI_J, mI_D, mI_F, mI_rJ, mI_rn, mI_rs, mJ_row, mJ_k, mJ_s, mJ_I, mJ_D, mJ_F, mJ_rI, mJ_rn, mJ_rs, c7_I, c7_J])) mI_s, fun z1 z2 => (q.elim z1 z2).elim⟩
  have hr : rtE (mI M 0 10 * x) x M := by
    obtain ⟨-, a, ha, o1, o2⟩ := hO
    unfold rtE
    rw [o1, o2]
    exact rt_eq ha q1 q2
  generalize mI M 0 10 * x = r at hr ⊢
  refine ⟨fun q => hX _ 2 _ (List.mem_cons_of_mem _ List.mem_cons_self) (fun Q2 X2 k => ?_), fun q => hQ _ _ (fun Q2 X2 k => ?_)⟩
  · refine ⟨x, rfl, hF, hszM, fun z => (z.elim q1 q2).elim, fun _ _ => ⟨fun _ => k _ (h0.same hF (fun a _ _ _ _ => by unfold thr; simp (disch := omega) only [mI_row, mI_k, mI_s, mI_J, mI_D, mI_F, mI_rJ, mI_rn, mI_rs, mJ_row, mJ_k, mJ_s, mJ_I, mJ_D, mJ_F, mJ_rI, mJ_rn, mJ_rs, c7_I, c7_J]) (fun k hk => by unfold thr; simp (disch := omega) only [mI_row, mI_k, mI_s, mI_J, mI_D, mI_F, mI_rJ, mI_rn, mI_rs, mJ_row, mJ_k, mJ_s, mJ_I, mJ_D, mJ_F, mJ_rI, mJ_rn, mJ_rs, c7_I, c7_J]) (fun a _ _ _ _ => by unfold thr; simp (disch := omega) only [mI_row, mI_k, mI_s, mI_J, mI_D, mI_F, mI_rJ, mI_rn, mI_rs, mJ_row, mJ_k, mJ_s, mJ_I, mJ_D, mJ_F, mJ_rI, mJ_rn, mJ_rs, c7_I, c7_J])) mI_s, fun z => ?_⟩⟩
    exfalso
    obtain ⟨t, ht, b1, b2⟩ := q
    refine z t ht ⟨?_, ?_⟩
    · obtain ⟨p, a1, a2, a3, a4, a5⟩ := hA t ht
      rw [a2, show (24 : Int32) = nI 24 from rfl, nI_leI (by omega) (by omega)] at b1
      have hp : p = 24 := by omega
      rw [a3, hp]
      rfl
    · rw [pas_chg (hA2 t ht) hr]
      exact b2
  have hok : ∀ t, t < 3 → okA r M t := fun t ht => by
    have := q t ht
    unfold badC at this
    unfold okA
    by_cases z : intr (mJ M (84 + 4 * t) 4) r = 0
    · exact Or.inl z
    · exact Or.inr (fun w => this ⟨w, z⟩)
  rw [pasC_s, pasC_s, pasC_s] at k ⊢
  simp only [pasC] at k ⊢
  have g0 := hok 0 (by omega)
  have g1 : okA r (cp r 0 M) 1 := by unfold okA; rw [cp_I (by omega), cp_J (by omega)]; exact hok 1 (by omega)
  have g2 : okA r (cp r 1 (cp r 0 M)) 2 := by unfold okA; rw [cp_I (by omega), cp_J (by omega), cp_I (by omega), cp_J (by omega)]; exact hok 2 (by omega)
  generalize hcn : 0 + ci r 0 M + ci r (0 + 1) (cp r 0 M) + ci r (0 + 1 + 1) (cp r (0 + 1) (cp r 0 M)) = cn at k ⊢
  have hcn' : ci r 0 M + ci r 1 (cp r 0 M) + ci r 2 (cp r 1 (cp r 0 M)) = cn := by rw [← hcn, Nat.zero_add]
  have eI : ∀ a, a < 84 ∨ 96 ≤ a → mI (cp r 2 (cp r 1 (cp r 0 M))) a = mI M a := fun a ha => by rw [cp_I (by omega), cp_I (by omega), cp_I (by omega)]
  have eJ : ∀ a, a < 84 ∨ 96 ≤ a → mJ (cp r 2 (cp r 1 (cp r 0 M))) a = mJ M a := fun a ha => by rw [cp_J (by omega), cp_J (by omega), cp_J (by omega)]
  have hF3 : Full (cp r 2 (cp r 1 (cp r 0 M))) := cp_F (cp_F (cp_F hF))
  have f01 : ∀ N t, t ≠ 0 → IA2 M N t → IA2 (cp r 0 M) N t := fun N t ht h => cp_far (Ne.symm ht) h
  show T_mPass [.ref 96, .int x] (sJ (cp r 2 (cp r 1 (cp r 0 M))) 122 0 (nI cn).toInt64) Q2 X2
  have s0 : ∀ N, rtE r x N → (∀ t, t < 3 → IA2 M N t) → IA2 (cp r 2 (cp r 1 (cp r 0 M))) (mp x 2 (mp x 1 (mp x 0 N))) 0 ∧ IA2 (cp r 2 (cp r 1 (cp r 0 M))) (mp x 2 (mp x 1 (mp x 0 N))) 1 ∧ IA2 (cp r 2 (cp r 1 (cp r 0 M))) (mp x 2 (mp x 1 (mp x 0 N))) 2 ∧ mi x 0 N + mi x 1 (mp x 0 N) + mi x 2 (mp x 1 (mp x 0 N)) = cn := by
    intro N hrN hN
    have n0 := hN 0 (by omega)
    have n1 := f01 N 1 (by decide) (hN 1 (by omega))
    have n2 := cp_far (r := r) (u := 1) (by decide) (f01 N 2 (by decide) (hN 2 (by omega)))
    obtain ⟨p0, c0⟩ := pas_step n0 hrN g0
    have n1' := mp_far (x := x) (u := 0) (by decide) n1 n0 hrN g0
    have n2' := mp_far (x := x) (u := 0) (by decide) n2 n0 hrN g0
    obtain ⟨p1, c1⟩ := pas_step n1' hrN.mp g1
    have p0' := mp_far (x := x) (u := 1) (by decide) (cp_far (r := r) (u := 1) (by decide) p0) n1' hrN.mp g1
    have n2'' := mp_far (x := x) (u := 1) (by decide) n2' n1' hrN.mp g1
    obtain ⟨p2, c2⟩ := pas_step n2'' hrN.mp.mp g2
    have p0'' := mp_far (x := x) (u := 2) (by decide) (cp_far (r := r) (u := 2) (by decide) p0') n2'' hrN.mp.mp g2
    have p1'' := mp_far (x := x) (u := 2) (by decide) (cp_far (r := r) (u := 2) (by decide) p1) n2'' hrN.mp.mp g2
    exact ⟨p0'', p1'', p2, by rw [← c0, ← c1, ← c2]; exact hcn'⟩
  generalize cp r 2 (cp r 1 (cp r 0 M)) = C at eI eJ hF3 s0 ⊢
  have hrN : ∀ v, rtE r x (sJ C 122 0 v) := fun v => by unfold rtE; rw [mI_J, eI 96 (by omega)]; exact hr
  have hAN : ∀ v t, t < 3 → IA2 M (sJ C 122 0 v) t := fun v t ht => (hA2 t ht).cN (fun a h1 h2 => by rw [mI_J, eI a (by omega)]) (by rw [mJ_row (by decide), eJ 114 (by omega)])
  refine ⟨x, rfl, hF3, fun t ht => by rw [mI_J, eI 111 (by omega)]; exact hszM t ht, fun z => (z.elim q1 q2).elim, fun _ _ => ⟨fun z => ?_, fun _ => ?_⟩⟩
  · exfalso
    obtain ⟨t, ht, b1, b2⟩ := z
    rw [pas_chg (hAN _ t ht) (hrN _)] at b2
    refine q t ht ⟨?_, b2⟩
    obtain ⟨p, a1, a2, a3, a4, a5⟩ := hA t ht
    rw [mI_J, eI 111 (by omega), a3, show (24 : Int32) = nI 24 from rfl, nI_eq (by omega) (by omega)] at b1
    rw [a2, b1]
    decide
  · rw [pasM_s, pasM_s, pasM_s]
    simp only [pasM]
    obtain ⟨u0, u1, u2, uc⟩ := s0 (sI (sJ C 122 0 (nI cn).toInt64) 96 0 0) (by unfold rtE; rw [mI_k (by decide)]; exact hrN _) (fun t ht => (hAN _ t ht).cN (fun a h1 h2 => mI_row (by omega)) rfl)
    rw [show 0 + mi x 0 (sI (sJ C 122 0 (nI cn).toInt64) 96 0 0) + mi x (0 + 1) (mp x 0 (sI (sJ C 122 0 (nI cn).toInt64) 96 0 0)) + mi x (0 + 1 + 1) (mp x (0 + 1) (mp x 0 (sI (sJ C 122 0 (nI cn).toInt64) 96 0 0))) = cn by rw [Nat.zero_add]; exact uc]
    show Q2 _ (mp x 2 (mp x 1 (mp x 0 (sI (sJ C 122 0 (nI cn).toInt64) 96 0 0))))
    have fI : ∀ a, a ≠ 96 → ¬ (84 ≤ a ∧ a < 96) → ¬ (111 ≤ a ∧ a ≤ 113) → mI (mp x 2 (mp x 1 (mp x 0 (sI (sJ C 122 0 (nI cn).toInt64) 96 0 0)))) a = mI M a := fun a h1 h2 h3 => by rw [mp_I h3, mp_I h3, mp_I h3, mI_row h1, mI_J, eI a (by omega)]
    have f96 : ∀ j, j ≠ 0 → mI (mp x 2 (mp x 1 (mp x 0 (sI (sJ C 122 0 (nI cn).toInt64) 96 0 0)))) 96 j = mI M 96 j := fun j hj => by rw [mp_I (by decide), mp_I (by decide), mp_I (by decide), mI_k hj, mI_J, eI 96 (by omega)]
    have fJ : ∀ a, a ≠ 114 → a ≠ 122 → ¬ (84 ≤ a ∧ a < 96) → mJ (mp x 2 (mp x 1 (mp x 0 (sI (sJ C 122 0 (nI cn).toInt64) 96 0 0)))) a = mJ M a := fun a h1 h2 h3 => by rw [mp_J h1, mp_J h1, mp_J h1, mJ_I, mJ_row h2, eJ a (by omega)]
    have fC : ∀ a, 84 ≤ a → a < 96 → mI (mp x 2 (mp x 1 (mp x 0 (sI (sJ C 122 0 (nI cn).toInt64) 96 0 0)))) a = mI C a ∧ mJ (mp x 2 (mp x 1 (mp x 0 (sI (sJ C 122 0 (nI cn).toInt64) 96 0 0)))) a = mJ C a := fun a h1 h2 => ⟨by rw [mp_I (by omega), mp_I (by omega), mp_I (by omega), mI_row (by omega), mI_J], by rw [mp_J (by omega), mp_J (by omega), mp_J (by omega), mJ_I, mJ_row (by omega)]⟩
    refine k _ ⟨mp_F (mp_F (mp_F hF3)), hP.same (fun a ha => fI a (by omega) (by omega) (by omega)) (f96 2 (by decide)), hL.same (fun a ha => fI a (by omega) (by omega) (by omega)), hT.same (fun a ha => fI a (by omega) (by omega) (by omega)), hO.same (fI 0 (by omega) (by omega) (by omega)) (f96 8 (by decide)) (f96 17 (by decide)), hR.same (fun a ha => fI a (by omega) (by omega) (by omega)) (fun a ha => fJ a (by omega) (by omega) (by omega)), ?_, hN.same (fJ 23 (by omega) (by omega) (by omega))⟩ (by rw [mp_I (by decide), mp_I (by decide), mp_I (by decide), mI_s]) (by rw [mp_J (by decide), mp_J (by decide), mp_J (by decide), mJ_I, mJ_s])
    intro t ht
    have key : IA2 C (mp x 2 (mp x 1 (mp x 0 (sI (sJ C 122 0 (nI cn).toInt64) 96 0 0)))) t := by
      rcases (show t = 0 ∨ t = 1 ∨ t = 2 by omega) with rfl | rfl | rfl
      · exact u0
      · exact u1
      · exact u2
    exact key.cC (fun a h1 h2 => fC a (by omega) (by omega))
