/-! ===== step and field ===== -/
theorem w_rng {w : Int32} (h0 : 0 ≤ w.toInt) (h8 : w.toInt ≤ 8) : 1 ≤ (1 <<< (w &&& 31) : Int32).toInt ∧ (1 <<< (w &&& 31) : Int32).toInt ≤ 256 := by
  have e : w = 0 ∨ w = 1 ∨ w = 2 ∨ w = 3 ∨ w = 4 ∨ w = 5 ∨ w = 6 ∨ w = 7 ∨ w = 8 := by
    have q : w.toInt = 0 ∨ w.toInt = 1 ∨ w.toInt = 2 ∨ w.toInt = 3 ∨ w.toInt = 4 ∨ w.toInt = 5 ∨ w.toInt = 6 ∨ w.toInt = 7 ∨ w.toInt = 8 := by omega
    rcases q with q | q | q | q | q | q | q | q | q
    · exact Or.inl (Int32.toInt_inj.mp q)
    · exact Or.inr (Or.inl (Int32.toInt_inj.mp q))
    · exact Or.inr (Or.inr (Or.inl (Int32.toInt_inj.mp q)))
    · exact Or.inr (Or.inr (Or.inr (Or.inl (Int32.toInt_inj.mp q))))
    · exact Or.inr (Or.inr (Or.inr (Or.inr (Or.inl (Int32.toInt_inj.mp q)))))
    · exact Or.inr (Or.inr (Or.inr (Or.inr (Or.inr (Or.inl (Int32.toInt_inj.mp q))))))
    · exact Or.inr (Or.inr (Or.inr (Or.inr (Or.inr (Or.inr (Or.inl (Int32.toInt_inj.mp q)))))))
    · exact Or.inr (Or.inr (Or.inr (Or.inr (Or.inr (Or.inr (Or.inr (Or.inl (Int32.toInt_inj.mp q))))))))
    · exact Or.inr (Or.inr (Or.inr (Or.inr (Or.inr (Or.inr (Or.inr (Or.inr (Int32.toInt_inj.mp q))))))))
  rcases e with rfl | rfl | rfl | rfl | rfl | rfl | rfl | rfl | rfl <;> decide
def gStp (Q N W : Int) (x1 x2 x3 x4 x5 : Int32) : Prop := (0 ≤ x1.toInt ∧ x1.toInt < Q) ∧ (0 ≤ x2.toInt ∧ x2.toInt ≤ 3) ∧ ((x2.toInt = 3 ∧ x3.toInt = -1) ∨ (x2.toInt ≠ 3 ∧ 0 ≤ x3.toInt ∧ x3.toInt < N)) ∧ ((x2.toInt = 3 ∧ 1 ≤ x4.toInt ∧ x4.toInt ≤ 9) ∨ (x2.toInt = 2 ∧ x4.toInt = 0) ∨ (x2.toInt ≠ 3 ∧ x2.toInt ≠ 2 ∧ 0 ≤ x4.toInt ∧ x4.toInt < W)) ∧ 0 ≤ x5.toInt ∧ ((x2.toInt = 1 ∧ x5.toInt ≤ 20) ∨ (x2.toInt ≠ 1 ∧ x5.toInt ≤ 0))
def kStp (k x2 : Int32) : Prop := (x2.toInt = 0 ∧ (k = 1 ∨ k = 3)) ∨ (x2.toInt = 1 ∧ k = 3)
def stC (h : mH) (a : Nat) (x2 x3 x4 x5 : Int32) : mH := uI (uI (uI (uI (uI (uI h 1 0 9 0) 20 a (h.1 0 a 5).toNatClampNeg x2) 21 a (h.1 0 a 5).toNatClampNeg x3) 22 a (h.1 0 a 5).toNatClampNeg x4) 23 a (h.1 0 a 5).toNatClampNeg x5) 0 a 5 (h.1 0 a 5 + 1)
def stM (h : mH) (a : Nat) (x2 x3 x4 x5 : Int32) : mH := uI (uI (uI (uI (uI h 59 0 (12 * a + (h.1 58 0 a).toNatClampNeg) x2) 60 0 (12 * a + (h.1 58 0 a).toNatClampNeg) x3) 61 0 (12 * a + (h.1 58 0 a).toNatClampNeg) x4) 62 0 (12 * a + (h.1 58 0 a).toNatClampNeg) x5) 58 0 a (h.1 58 0 a + 1)
theorem c_tellStep {x1 x2 x3 x4 x5 : Int32} {h : mH} (m1 : mIn x1 6 = true) (mc : mIn (h.1 0 x1.toNatClampNeg 5) 12 = true) : f_X1_tellStep x1 x2 x3 x4 x5 h = some (h.1 0 x1.toNatClampNeg 5 + 1, stC h x1.toNatClampNeg x2 x3 x4 x5) := by
  simp [f_X1_tellStep, f_X0_append, mLet, uI_1, m1, mc, stC]
theorem c_stail {x1 x2 x3 x4 x5 : Int32} {h : mH} {r : Int32 × mH} (I : IR h) (e : (if mIn x1 6 = true then if (h.1 0 x1.toNatClampNeg 5) < 12 then (f_X1_tellStep x1 x2 x3 x4 x5 h).bind fun r27 => some (r27.1, r27.2) else some ((-3), h) else none) = some r) : (¬ (h.1 0 x1.toNatClampNeg 5).toInt < 12 ∧ r = (-3, h)) ∨ ((h.1 0 x1.toNatClampNeg 5).toInt < 12 ∧ r = (h.1 0 x1.toNatClampNeg 5 + 1, stC h x1.toNatClampNeg x2 x3 x4 x5)) := by
  have b : 0 ≤ (h.1 0 x1.toNatClampNeg 5).toInt ∧ (h.1 0 x1.toNatClampNeg 5).toInt ≤ 12 := I 0 _ 5
  have t12 : (12 : Int32).toInt = 12 := by decide
  by_cases m1 : mIn x1 6 = true
  · rw [if_pos m1] at e
    by_cases q : (h.1 0 x1.toNatClampNeg 5) < 12
    · have z := Int32.lt_iff_toInt_lt.mp q
      rw [if_pos q, c_tellStep m1 (mIn_bd (by omega) (by omega)), Option.bind_some] at e
      exact Or.inr ⟨by omega, (Option.some.inj e).symm⟩
    · have z := Int32.le_iff_toInt_le.mp (Int32.not_lt.mp q)
      rw [if_neg q] at e
      exact Or.inl ⟨by omega, (Option.some.inj e).symm⟩
  · rw [if_neg m1] at e
    cases e
theorem sn3 (x3 x4 : Int32) (h : mH) : f_X11_isStepNumber 3 x3 x4 h = some (b2i (decide ((1 : Int32).toInt ≤ x4.toInt ∧ x4.toInt ≤ (9 : Int32).toInt)), h) := by
  unfold f_X11_isStepNumber
  rw [if_neg (by decide), if_pos rfl]
  exact d_in x4 1 9 h
theorem sn2 (x3 x4 : Int32) (h : mH) : f_X11_isStepNumber 2 x3 x4 h = some (b2i (decide (x4.toInt = 0)), h) := by
  unfold f_X11_isStepNumber
  rw [if_pos rfl]
  by_cases q : x4 = 0
  · rw [if_pos q, q]
    rfl
  · rw [if_neg q, b2i_n (fun z => q (Int32.toInt_inj.mp (z.trans (by decide))))]
theorem sn01 {x2 x3 x4 : Int32} {h : mH} (n2 : ¬ x2 = 2) (n3 : ¬ x2 = 3) (m : mIn x3 24 = true) : f_X11_isStepNumber x2 x3 x4 h = some (b2i (decide (0 ≤ x4.toInt ∧ x4.toInt < (1 <<< (h.1 6 x3.toNatClampNeg 2 &&& 31) : Int32).toInt)), h) := by
  unfold f_X11_isStepNumber
  rw [if_neg n2, if_neg n3, if_pos m, c_fits, Option.bind_some]
  dsimp only
  rw [if_pos (b2i_01 _)]
theorem as0 (k : Int32) (h : mH) : f_X11_allowsStep k 0 h = some (b2i (decide (¬ (k = 1 ∨ k = 3))), h) := by
  unfold f_X11_allowsStep
  rw [if_pos rfl]
  by_cases q1 : k = 1
  · rw [if_pos q1, b2i_n (fun z => z (Or.inl q1))]
  · rw [if_neg q1]
    by_cases q3 : k = 3
    · rw [if_pos q3, b2i_n (fun z => z (Or.inr q3))]
    · rw [if_neg q3, decide_eq_true (show ¬ (k = 1 ∨ k = 3) from fun z => z.elim q1 q3)]
      rfl
theorem as1 (k : Int32) (h : mH) : f_X11_allowsStep k 1 h = some (b2i (decide (¬ k = 3)), h) := by
  unfold f_X11_allowsStep
  rw [if_neg (by decide), if_pos rfl]
  by_cases q3 : k = 3
  · rw [if_pos q3, b2i_n (fun z => z q3)]
  · rw [if_neg q3, decide_eq_true q3]
    rfl
theorem as2 (k : Int32) (h : mH) : f_X11_allowsStep k 2 h = some (1, h) := by
  unfold f_X11_allowsStep
  rw [if_neg (by decide), if_neg (by decide)]
theorem four {x : Int32} (h0 : 0 ≤ x.toInt) (h3 : x.toInt ≤ 3) : x = 0 ∨ x = 1 ∨ x = 2 ∨ x = 3 := by
  have q : x.toInt = 0 ∨ x.toInt = 1 ∨ x.toInt = 2 ∨ x.toInt = 3 := by omega
  rcases q with q | q | q | q
  · exact Or.inl (Int32.toInt_inj.mp q)
  · exact Or.inr (Or.inl (Int32.toInt_inj.mp q))
  · exact Or.inr (Or.inr (Or.inl (Int32.toInt_inj.mp q)))
  · exact Or.inr (Or.inr (Or.inr (Int32.toInt_inj.mp q)))
theorem c_step {x1 x2 x3 x4 x5 : Int32} {h : mH} {r : Int32 × mH} (I : IR h) (e : f_X11_step x1 x2 x3 x4 x5 h = some r) : (¬ gStp (h.1 1 0 6).toInt (h.1 1 0 4).toInt (1 <<< (h.1 6 x3.toNatClampNeg 2 &&& 31) : Int32).toInt x1 x2 x3 x4 x5 ∧ r = (-1, h)) ∨ (gStp (h.1 1 0 6).toInt (h.1 1 0 4).toInt (1 <<< (h.1 6 x3.toNatClampNeg 2 &&& 31) : Int32).toInt x1 x2 x3 x4 x5 ∧ kStp (h.1 6 x3.toNatClampNeg 3) x2 ∧ r = (-4, h)) ∨ (gStp (h.1 1 0 6).toInt (h.1 1 0 4).toInt (1 <<< (h.1 6 x3.toNatClampNeg 2 &&& 31) : Int32).toInt x1 x2 x3 x4 x5 ∧ ¬ kStp (h.1 6 x3.toNatClampNeg 3) x2 ∧ ¬ (h.1 0 x1.toNatClampNeg 5).toInt < 12 ∧ r = (-3, h)) ∨ (gStp (h.1 1 0 6).toInt (h.1 1 0 4).toInt (1 <<< (h.1 6 x3.toNatClampNeg 2 &&& 31) : Int32).toInt x1 x2 x3 x4 x5 ∧ ¬ kStp (h.1 6 x3.toNatClampNeg 3) x2 ∧ (h.1 0 x1.toNatClampNeg 5).toInt < 12 ∧ r = (h.1 0 x1.toNatClampNeg 5 + 1, stC h x1.toNatClampNeg x2 x3 x4 x5)) := by
  unfold gStp kStp
  have m1 : (-1 : Int32).toInt = -1 := by decide
  have t0 : (0 : Int32).toInt = 0 := by decide
  have t1 : (1 : Int32).toInt = 1 := by decide
  have t2 : (2 : Int32).toInt = 2 := by decide
  have t3 : (3 : Int32).toInt = 3 := by decide
  have t9 : (9 : Int32).toInt = 9 := by decide
  have t20 : (20 : Int32).toInt = 20 := by decide
  have bn : 0 ≤ (h.1 1 0 4).toInt ∧ (h.1 1 0 4).toInt ≤ 24 := I 1 0 4
  unfold f_X11_step at e
  rw [c_hasAct, Option.bind_some] at e
  dsimp only at e
  by_cases q1 : 0 ≤ x1.toInt ∧ x1.toInt < (h.1 1 0 6).toInt
  rotate_left
  · rw [if_pos (b2i_n q1)] at e
    exact Or.inl ⟨by omega, (Option.some.inj e).symm⟩
  rw [if_neg (b2i_p q1)] at e
  by_cases q2 : x2 < 0
  · rw [if_pos q2] at e
    have zq2 := Int32.lt_iff_toInt_lt.mp q2
    exact Or.inl ⟨by omega, (Option.some.inj e).symm⟩
  rw [if_neg q2] at e
  have gq2 := Int32.le_iff_toInt_le.mp (Int32.not_lt.mp q2)
  by_cases q3 : x2 ≤ 3
  rotate_left
  · rw [if_neg q3] at e
    have zq3 := Int32.lt_iff_toInt_lt.mp (Int32.not_le.mp q3)
    exact Or.inl ⟨by omega, (Option.some.inj e).symm⟩
  rw [if_pos q3] at e
  have gq3 := Int32.le_iff_toInt_le.mp q3
  rcases four (x := x2) (by omega) (by omega) with rfl | rfl | rfl | rfl
  · rw [if_neg (by decide), c_hasField, Option.bind_some] at e
    dsimp only at e
    by_cases q4 : 0 ≤ x3.toInt ∧ x3.toInt < (h.1 1 0 4).toInt
    rotate_left
    · rw [if_pos (b2i_n q4)] at e
      exact Or.inl ⟨by omega, (Option.some.inj e).symm⟩
    rw [if_neg (b2i_p q4)] at e
    have m3 : mIn x3 24 = true := mIn_bd (by omega) (by omega)
    unfold f_X11_step_j48 at e
    rw [sn01 (by decide) (by decide) m3, Option.bind_some] at e
    dsimp only at e
    by_cases q5 : 0 ≤ x4.toInt ∧ x4.toInt < (1 <<< (h.1 6 x3.toNatClampNeg 2 &&& 31) : Int32).toInt
    rotate_left
    · rw [if_pos (b2i_n q5)] at e
      exact Or.inl ⟨by omega, (Option.some.inj e).symm⟩
    rw [if_neg (b2i_p q5)] at e
    by_cases q6 : x5 < 0
    · rw [if_pos q6] at e
      have zq6 := Int32.lt_iff_toInt_lt.mp q6
      exact Or.inl ⟨by omega, (Option.some.inj e).symm⟩
    rw [if_neg q6] at e
    have gq6 := Int32.le_iff_toInt_le.mp (Int32.not_lt.mp q6)
    rw [if_neg (by decide)] at e
    by_cases q7 : x5 ≤ 0
    rotate_left
    · rw [if_neg q7] at e
      have zq7 := Int32.lt_iff_toInt_lt.mp (Int32.not_le.mp q7)
      exact Or.inl ⟨by omega, (Option.some.inj e).symm⟩
    rw [if_pos q7] at e
    have gq7 := Int32.le_iff_toInt_le.mp q7
    rw [if_neg (by decide), if_pos m3] at e
    rw [as0, Option.bind_some] at e
    dsimp only at e
    by_cases q8 : h.1 6 x3.toNatClampNeg 3 = 1 ∨ h.1 6 x3.toNatClampNeg 3 = 3
    · rw [if_pos (b2i_n (fun z => z q8))] at e
      exact Or.inr (Or.inl ⟨by omega, Or.inl ⟨by decide, q8⟩, (Option.some.inj e).symm⟩)
    rw [if_neg (b2i_p q8)] at e
    have nk : ¬ (((0 : Int32).toInt = 0 ∧ (h.1 6 x3.toNatClampNeg 3 = 1 ∨ h.1 6 x3.toNatClampNeg 3 = 3)) ∨ ((0 : Int32).toInt = 1 ∧ h.1 6 x3.toNatClampNeg 3 = 3)) := fun z => z.elim (fun y => q8 y.2) (fun y => absurd y.1 (by decide))
    exact (c_stail I e).elim (fun z => Or.inr (Or.inr (Or.inl ⟨by omega, nk, z.1, z.2⟩))) (fun z => Or.inr (Or.inr (Or.inr ⟨by omega, nk, z.1, z.2⟩)))
  · rw [if_neg (by decide), c_hasField, Option.bind_some] at e
    dsimp only at e
    by_cases q4 : 0 ≤ x3.toInt ∧ x3.toInt < (h.1 1 0 4).toInt
    rotate_left
    · rw [if_pos (b2i_n q4)] at e
      exact Or.inl ⟨by omega, (Option.some.inj e).symm⟩
    rw [if_neg (b2i_p q4)] at e
    have m3 : mIn x3 24 = true := mIn_bd (by omega) (by omega)
    unfold f_X11_step_j48 at e
    rw [sn01 (by decide) (by decide) m3, Option.bind_some] at e
    dsimp only at e
    by_cases q5 : 0 ≤ x4.toInt ∧ x4.toInt < (1 <<< (h.1 6 x3.toNatClampNeg 2 &&& 31) : Int32).toInt
    rotate_left
    · rw [if_pos (b2i_n q5)] at e
      exact Or.inl ⟨by omega, (Option.some.inj e).symm⟩
    rw [if_neg (b2i_p q5)] at e
    by_cases q6 : x5 < 0
    · rw [if_pos q6] at e
      have zq6 := Int32.lt_iff_toInt_lt.mp q6
      exact Or.inl ⟨by omega, (Option.some.inj e).symm⟩
    rw [if_neg q6] at e
    have gq6 := Int32.le_iff_toInt_le.mp (Int32.not_lt.mp q6)
    rw [if_pos rfl] at e
    by_cases q7 : x5 ≤ 20
    rotate_left
    · rw [if_neg q7] at e
      have zq7 := Int32.lt_iff_toInt_lt.mp (Int32.not_le.mp q7)
      exact Or.inl ⟨by omega, (Option.some.inj e).symm⟩
    rw [if_pos q7] at e
    have gq7 := Int32.le_iff_toInt_le.mp q7
    rw [if_neg (by decide), if_pos m3] at e
    rw [as1, Option.bind_some] at e
    dsimp only at e
    by_cases q8 : h.1 6 x3.toNatClampNeg 3 = 3
    · rw [if_pos (b2i_n (fun z => z q8))] at e
      exact Or.inr (Or.inl ⟨by omega, Or.inr ⟨by decide, q8⟩, (Option.some.inj e).symm⟩)
    rw [if_neg (b2i_p q8)] at e
    have nk : ¬ (((1 : Int32).toInt = 0 ∧ (h.1 6 x3.toNatClampNeg 3 = 1 ∨ h.1 6 x3.toNatClampNeg 3 = 3)) ∨ ((1 : Int32).toInt = 1 ∧ h.1 6 x3.toNatClampNeg 3 = 3)) := fun z => z.elim (fun y => absurd y.1 (by decide)) (fun y => q8 y.2)
    exact (c_stail I e).elim (fun z => Or.inr (Or.inr (Or.inl ⟨by omega, nk, z.1, z.2⟩))) (fun z => Or.inr (Or.inr (Or.inr ⟨by omega, nk, z.1, z.2⟩)))
  · rw [if_neg (by decide), c_hasField, Option.bind_some] at e
    dsimp only at e
    by_cases q4 : 0 ≤ x3.toInt ∧ x3.toInt < (h.1 1 0 4).toInt
    rotate_left
    · rw [if_pos (b2i_n q4)] at e
      exact Or.inl ⟨by omega, (Option.some.inj e).symm⟩
    rw [if_neg (b2i_p q4)] at e
    have m3 : mIn x3 24 = true := mIn_bd (by omega) (by omega)
    unfold f_X11_step_j48 at e
    rw [sn2, Option.bind_some] at e
    dsimp only at e
    by_cases q5 : x4.toInt = 0
    rotate_left
    · rw [if_pos (b2i_n q5)] at e
      exact Or.inl ⟨by omega, (Option.some.inj e).symm⟩
    rw [if_neg (b2i_p q5)] at e
    by_cases q6 : x5 < 0
    · rw [if_pos q6] at e
      have zq6 := Int32.lt_iff_toInt_lt.mp q6
      exact Or.inl ⟨by omega, (Option.some.inj e).symm⟩
    rw [if_neg q6] at e
    have gq6 := Int32.le_iff_toInt_le.mp (Int32.not_lt.mp q6)
    rw [if_neg (by decide)] at e
    by_cases q7 : x5 ≤ 0
    rotate_left
    · rw [if_neg q7] at e
      have zq7 := Int32.lt_iff_toInt_lt.mp (Int32.not_le.mp q7)
      exact Or.inl ⟨by omega, (Option.some.inj e).symm⟩
    rw [if_pos q7] at e
    have gq7 := Int32.le_iff_toInt_le.mp q7
    rw [if_neg (by decide), if_pos m3] at e
    rw [as2, Option.bind_some] at e
    dsimp only at e
    rw [if_neg (by decide)] at e
    have nk : ¬ (((2 : Int32).toInt = 0 ∧ (h.1 6 x3.toNatClampNeg 3 = 1 ∨ h.1 6 x3.toNatClampNeg 3 = 3)) ∨ ((2 : Int32).toInt = 1 ∧ h.1 6 x3.toNatClampNeg 3 = 3)) := fun z => z.elim (fun y => absurd y.1 (by decide)) (fun y => absurd y.1 (by decide))
    exact (c_stail I e).elim (fun z => Or.inr (Or.inr (Or.inl ⟨by omega, nk, z.1, z.2⟩))) (fun z => Or.inr (Or.inr (Or.inr ⟨by omega, nk, z.1, z.2⟩)))
  · rw [if_pos rfl] at e
    by_cases q4 : x3 = -1
    rotate_left
    · rw [if_neg q4] at e
      have z4 := ti_ne q4
      exact Or.inl ⟨by omega, (Option.some.inj e).symm⟩
    rw [if_pos q4] at e
    have z4 : x3.toInt = (-1 : Int32).toInt := congrArg Int32.toInt q4
    unfold f_X11_step_j48 at e
    rw [sn3, Option.bind_some] at e
    dsimp only at e
    by_cases q5 : (1 : Int32).toInt ≤ x4.toInt ∧ x4.toInt ≤ (9 : Int32).toInt
    rotate_left
    · rw [if_pos (b2i_n q5)] at e
      exact Or.inl ⟨by omega, (Option.some.inj e).symm⟩
    rw [if_neg (b2i_p q5)] at e
    by_cases q6 : x5 < 0
    · rw [if_pos q6] at e
      have zq6 := Int32.lt_iff_toInt_lt.mp q6
      exact Or.inl ⟨by omega, (Option.some.inj e).symm⟩
    rw [if_neg q6] at e
    have gq6 := Int32.le_iff_toInt_le.mp (Int32.not_lt.mp q6)
    rw [if_neg (by decide)] at e
    by_cases q7 : x5 ≤ 0
    rotate_left
    · rw [if_neg q7] at e
      have zq7 := Int32.lt_iff_toInt_lt.mp (Int32.not_le.mp q7)
      exact Or.inl ⟨by omega, (Option.some.inj e).symm⟩
    rw [if_pos q7] at e
    have gq7 := Int32.le_iff_toInt_le.mp q7
    rw [if_pos rfl] at e
    have nk : ¬ (((3 : Int32).toInt = 0 ∧ (h.1 6 x3.toNatClampNeg 3 = 1 ∨ h.1 6 x3.toNatClampNeg 3 = 3)) ∨ ((3 : Int32).toInt = 1 ∧ h.1 6 x3.toNatClampNeg 3 = 3)) := fun z => z.elim (fun y => absurd y.1 (by decide)) (fun y => absurd y.1 (by decide))
    exact (c_stail I e).elim (fun z => Or.inr (Or.inr (Or.inl ⟨by omega, nk, z.1, z.2⟩))) (fun z => Or.inr (Or.inr (Or.inr ⟨by omega, nk, z.1, z.2⟩)))
theorem ix12 {x c : Int32} {a : Nat} (hx : x.toInt = a) (ha : a < 6) (h0 : 0 ≤ c.toInt) (h1 : c.toInt ≤ 12) : ((12 * x) + c).toNatClampNeg = 12 * a + c.toNatClampNeg := by
  have t12 : (12 : Int32).toInt = 12 := by decide
  have m : (12 * x).toInt = 12 * x.toInt := ti_km t12 (by omega) (by omega)
  have b : (12 * x + c).toInt = (12 * x).toInt + c.toInt := ti_add (by omega) (by omega)
  have y := cl_int h0
  exact cl_of (by omega)
theorem d_stail {x1 x2 x3 x4 x5 : Int32} {h : mH} {r : Int32 × mH} (I : IR h) (e : f_X12_step_j160 x1 x2 x3 x4 x5 h = some r) : (¬ (h.1 58 0 x1.toNatClampNeg).toInt < 12 ∧ r = (-3, h)) ∨ ((h.1 58 0 x1.toNatClampNeg).toInt < 12 ∧ r = (h.1 58 0 x1.toNatClampNeg + 1, stM h x1.toNatClampNeg x2 x3 x4 x5)) := by
  have b : 0 ≤ (h.1 58 0 x1.toNatClampNeg).toInt ∧ (h.1 58 0 x1.toNatClampNeg).toInt ≤ 12 := I 58 0 _
  have t12 : (12 : Int32).toInt = 12 := by decide
  unfold f_X12_step_j160 mLet at e
  by_cases m1 : mIn x1 6 = true
  · rw [if_pos m1] at e
    have y1 := bd_of m1
    by_cases q : h.1 58 0 x1.toNatClampNeg = 12
    · rw [if_pos q] at e
      exact Or.inl ⟨by rw [q]; decide, (Option.some.inj e).symm⟩
    · have z := ti_ne q
      rw [if_neg q, ix12 (cl_int y1.1) (by have := cl_int y1.1; omega) b.1 b.2] at e
      split at e
      · simp only [uI_1, show ¬ (58 = 59) by decide, show ¬ (58 = 60) by decide, show ¬ (58 = 61) by decide, show ¬ (58 = 62) by decide, false_and, if_false, and_self, if_true] at e
        exact Or.inr ⟨by omega, (Option.some.inj e).symm⟩
      · cases e
  · rw [if_neg m1] at e
    cases e
theorem d_most {x : Int32} {h : mH} (m : mIn x 24 = true) : f_X12_most x h = some ((1 <<< (h.1 48 0 x.toNatClampNeg &&& 31)) - 1, h) := by
  unfold f_X12_most
  rw [if_pos m]
theorem d_step {x1 x2 x3 x4 x5 : Int32} {h : mH} {r : Int32 × mH} (I : IR h) (Wd : ∀ i, 0 ≤ (h.1 48 0 i).toInt ∧ (h.1 48 0 i).toInt ≤ 8) (e : f_X12_step x1 x2 x3 x4 x5 h = some r) : (¬ gStp (h.1 12 0 16).toInt (h.1 12 0 2).toInt (1 <<< (h.1 48 0 x3.toNatClampNeg &&& 31) : Int32).toInt x1 x2 x3 x4 x5 ∧ r = (-1, h)) ∨ (gStp (h.1 12 0 16).toInt (h.1 12 0 2).toInt (1 <<< (h.1 48 0 x3.toNatClampNeg &&& 31) : Int32).toInt x1 x2 x3 x4 x5 ∧ kStp (h.1 49 0 x3.toNatClampNeg) x2 ∧ r = (-4, h)) ∨ (gStp (h.1 12 0 16).toInt (h.1 12 0 2).toInt (1 <<< (h.1 48 0 x3.toNatClampNeg &&& 31) : Int32).toInt x1 x2 x3 x4 x5 ∧ ¬ kStp (h.1 49 0 x3.toNatClampNeg) x2 ∧ ¬ (h.1 58 0 x1.toNatClampNeg).toInt < 12 ∧ r = (-3, h)) ∨ (gStp (h.1 12 0 16).toInt (h.1 12 0 2).toInt (1 <<< (h.1 48 0 x3.toNatClampNeg &&& 31) : Int32).toInt x1 x2 x3 x4 x5 ∧ ¬ kStp (h.1 49 0 x3.toNatClampNeg) x2 ∧ (h.1 58 0 x1.toNatClampNeg).toInt < 12 ∧ r = (h.1 58 0 x1.toNatClampNeg + 1, stM h x1.toNatClampNeg x2 x3 x4 x5)) := by
  unfold gStp kStp
  have m1 : (-1 : Int32).toInt = -1 := by decide
  have t0 : (0 : Int32).toInt = 0 := by decide
  have t1 : (1 : Int32).toInt = 1 := by decide
  have t2 : (2 : Int32).toInt = 2 := by decide
  have t3 : (3 : Int32).toInt = 3 := by decide
  have t9 : (9 : Int32).toInt = 9 := by decide
  have t20 : (20 : Int32).toInt = 20 := by decide
  have bn : 0 ≤ (h.1 12 0 2).toInt ∧ (h.1 12 0 2).toInt ≤ 24 := I 12 0 2
  have wr := w_rng (Wd x3.toNatClampNeg).1 (Wd x3.toNatClampNeg).2
  have ws : ((1 <<< (h.1 48 0 x3.toNatClampNeg &&& 31) : Int32) - 1).toInt = (1 <<< (h.1 48 0 x3.toNatClampNeg &&& 31) : Int32).toInt - (1 : Int32).toInt := ti_sub (by omega) (by omega)
  unfold f_X12_step at e
  rw [d_isAct I, Option.bind_some] at e
  dsimp only at e
  by_cases q1 : 0 ≤ x1.toInt ∧ x1.toInt < (h.1 12 0 16).toInt
  rotate_left
  · rw [if_pos (b2i_n q1)] at e
    exact Or.inl ⟨by omega, (Option.some.inj e).symm⟩
  rw [if_neg (b2i_p q1)] at e
  rw [d_in, Option.bind_some] at e
  dsimp only at e
  by_cases q2 : (0 : Int32).toInt ≤ x2.toInt ∧ x2.toInt ≤ (3 : Int32).toInt
  rotate_left
  · rw [if_pos (b2i_n q2)] at e
    exact Or.inl ⟨by omega, (Option.some.inj e).symm⟩
  rw [if_neg (b2i_p q2)] at e
  rcases four (x := x2) (by omega) (by omega) with rfl | rfl | rfl | rfl
  · rw [if_neg (by decide), d_isField I, Option.bind_some] at e
    dsimp only at e
    by_cases q4 : 0 ≤ x3.toInt ∧ x3.toInt < (h.1 12 0 2).toInt
    rotate_left
    · rw [if_pos (b2i_n q4)] at e
      exact Or.inl ⟨by omega, (Option.some.inj e).symm⟩
    rw [if_neg (b2i_p q4)] at e
    have m3 : mIn x3 24 = true := mIn_bd (by omega) (by omega)
    unfold f_X12_step_j40 at e
    rw [if_neg (by decide), if_neg (by decide), d_most m3, Option.bind_some] at e
    dsimp only at e
    rw [d_in, Option.bind_some] at e
    dsimp only at e
    by_cases q5 : (0 : Int32).toInt ≤ x4.toInt ∧ x4.toInt ≤ ((1 <<< (h.1 48 0 x3.toNatClampNeg &&& 31) : Int32) - 1).toInt
    rotate_left
    · rw [if_pos (b2i_n q5)] at e
      exact Or.inl ⟨by omega, (Option.some.inj e).symm⟩
    rw [if_neg (b2i_p q5)] at e
    rw [if_neg (by decide)] at e
    by_cases q6 : x5 = 0
    rotate_left
    · rw [if_neg q6] at e
      have zq6 := ti_ne q6
      exact Or.inl ⟨by omega, (Option.some.inj e).symm⟩
    rw [if_pos q6] at e
    have gq6 : x5.toInt = (0 : Int32).toInt := congrArg Int32.toInt q6
    unfold f_X12_step_j118 f_X12_step_j142 at e
    rw [if_pos rfl, if_pos m3] at e
    by_cases q8 : h.1 49 0 x3.toNatClampNeg = 1
    · rw [if_pos q8] at e
      exact Or.inr (Or.inl ⟨by omega, Or.inl ⟨by decide, Or.inl q8⟩, (Option.some.inj e).symm⟩)
    rw [if_neg q8] at e
    by_cases q9 : h.1 49 0 x3.toNatClampNeg = 3
    · rw [if_pos q9] at e
      exact Or.inr (Or.inl ⟨by omega, Or.inl ⟨by decide, Or.inr q9⟩, (Option.some.inj e).symm⟩)
    rw [if_neg q9, if_neg (by decide)] at e
    have nk : ¬ (((0 : Int32).toInt = 0 ∧ (h.1 49 0 x3.toNatClampNeg = 1 ∨ h.1 49 0 x3.toNatClampNeg = 3)) ∨ ((0 : Int32).toInt = 1 ∧ h.1 49 0 x3.toNatClampNeg = 3)) := fun z => z.elim (fun y => y.2.elim q8 q9) (fun y => absurd y.1 (by decide))
    exact (d_stail I e).elim (fun z => Or.inr (Or.inr (Or.inl ⟨by omega, nk, z.1, z.2⟩))) (fun z => Or.inr (Or.inr (Or.inr ⟨by omega, nk, z.1, z.2⟩)))
  · rw [if_neg (by decide), d_isField I, Option.bind_some] at e
    dsimp only at e
    by_cases q4 : 0 ≤ x3.toInt ∧ x3.toInt < (h.1 12 0 2).toInt
    rotate_left
    · rw [if_pos (b2i_n q4)] at e
      exact Or.inl ⟨by omega, (Option.some.inj e).symm⟩
    rw [if_neg (b2i_p q4)] at e
    have m3 : mIn x3 24 = true := mIn_bd (by omega) (by omega)
    unfold f_X12_step_j40 at e
    rw [if_neg (by decide), if_neg (by decide), d_most m3, Option.bind_some] at e
    dsimp only at e
    rw [d_in, Option.bind_some] at e
    dsimp only at e
    by_cases q5 : (0 : Int32).toInt ≤ x4.toInt ∧ x4.toInt ≤ ((1 <<< (h.1 48 0 x3.toNatClampNeg &&& 31) : Int32) - 1).toInt
    rotate_left
    · rw [if_pos (b2i_n q5)] at e
      exact Or.inl ⟨by omega, (Option.some.inj e).symm⟩
    rw [if_neg (b2i_p q5)] at e
    rw [if_pos rfl] at e
    rw [d_in, Option.bind_some] at e
    dsimp only at e
    by_cases q6 : (0 : Int32).toInt ≤ x5.toInt ∧ x5.toInt ≤ (20 : Int32).toInt
    rotate_left
    · rw [if_pos (b2i_n q6)] at e
      exact Or.inl ⟨by omega, (Option.some.inj e).symm⟩
    rw [if_neg (b2i_p q6)] at e
    unfold f_X12_step_j118 f_X12_step_j142 at e
    rw [if_neg (by decide), if_pos rfl, if_pos m3] at e
    by_cases q9 : h.1 49 0 x3.toNatClampNeg = 3
    · rw [if_pos q9] at e
      exact Or.inr (Or.inl ⟨by omega, Or.inr ⟨by decide, q9⟩, (Option.some.inj e).symm⟩)
    rw [if_neg q9] at e
    have nk : ¬ (((1 : Int32).toInt = 0 ∧ (h.1 49 0 x3.toNatClampNeg = 1 ∨ h.1 49 0 x3.toNatClampNeg = 3)) ∨ ((1 : Int32).toInt = 1 ∧ h.1 49 0 x3.toNatClampNeg = 3)) := fun z => z.elim (fun y => absurd y.1 (by decide)) (fun y => q9 y.2)
    exact (d_stail I e).elim (fun z => Or.inr (Or.inr (Or.inl ⟨by omega, nk, z.1, z.2⟩))) (fun z => Or.inr (Or.inr (Or.inr ⟨by omega, nk, z.1, z.2⟩)))
  · rw [if_neg (by decide), d_isField I, Option.bind_some] at e
    dsimp only at e
    by_cases q4 : 0 ≤ x3.toInt ∧ x3.toInt < (h.1 12 0 2).toInt
    rotate_left
    · rw [if_pos (b2i_n q4)] at e
      exact Or.inl ⟨by omega, (Option.some.inj e).symm⟩
    rw [if_neg (b2i_p q4)] at e
    have m3 : mIn x3 24 = true := mIn_bd (by omega) (by omega)
    unfold f_X12_step_j40 at e
    rw [if_neg (by decide), if_pos rfl] at e
    by_cases q5 : x4 = 0
    rotate_left
    · rw [if_neg q5] at e
      have zq5 := ti_ne q5
      exact Or.inl ⟨by omega, (Option.some.inj e).symm⟩
    rw [if_pos q5] at e
    have gq5 : x4.toInt = (0 : Int32).toInt := congrArg Int32.toInt q5
    rw [if_neg (by decide)] at e
    by_cases q6 : x5 = 0
    rotate_left
    · rw [if_neg q6] at e
      have zq6 := ti_ne q6
      exact Or.inl ⟨by omega, (Option.some.inj e).symm⟩
    rw [if_pos q6] at e
    have gq6 : x5.toInt = (0 : Int32).toInt := congrArg Int32.toInt q6
    unfold f_X12_step_j118 f_X12_step_j142 at e
    rw [if_neg (by decide), if_neg (by decide)] at e
    have nk : ¬ (((2 : Int32).toInt = 0 ∧ (h.1 49 0 x3.toNatClampNeg = 1 ∨ h.1 49 0 x3.toNatClampNeg = 3)) ∨ ((2 : Int32).toInt = 1 ∧ h.1 49 0 x3.toNatClampNeg = 3)) := fun z => z.elim (fun y => absurd y.1 (by decide)) (fun y => absurd y.1 (by decide))
    exact (d_stail I e).elim (fun z => Or.inr (Or.inr (Or.inl ⟨by omega, nk, z.1, z.2⟩))) (fun z => Or.inr (Or.inr (Or.inr ⟨by omega, nk, z.1, z.2⟩)))
  · rw [if_pos rfl] at e
    by_cases q4 : x3 = -1
    rotate_left
    · rw [if_neg q4] at e
      have z4 := ti_ne q4
      exact Or.inl ⟨by omega, (Option.some.inj e).symm⟩
    rw [if_pos q4] at e
    have z4 : x3.toInt = (-1 : Int32).toInt := congrArg Int32.toInt q4
    unfold f_X12_step_j40 at e
    rw [if_pos rfl] at e
    rw [d_in, Option.bind_some] at e
    dsimp only at e
    by_cases q5 : (1 : Int32).toInt ≤ x4.toInt ∧ x4.toInt ≤ (9 : Int32).toInt
    rotate_left
    · rw [if_pos (b2i_n q5)] at e
      exact Or.inl ⟨by omega, (Option.some.inj e).symm⟩
    rw [if_neg (b2i_p q5)] at e
    rw [if_neg (by decide)] at e
    by_cases q6 : x5 = 0
    rotate_left
    · rw [if_neg q6] at e
      have zq6 := ti_ne q6
      exact Or.inl ⟨by omega, (Option.some.inj e).symm⟩
    rw [if_pos q6] at e
    have gq6 : x5.toInt = (0 : Int32).toInt := congrArg Int32.toInt q6
    unfold f_X12_step_j118 f_X12_step_j142 at e
    rw [if_neg (by decide), if_neg (by decide)] at e
    have nk : ¬ (((3 : Int32).toInt = 0 ∧ (h.1 49 0 x3.toNatClampNeg = 1 ∨ h.1 49 0 x3.toNatClampNeg = 3)) ∨ ((3 : Int32).toInt = 1 ∧ h.1 49 0 x3.toNatClampNeg = 3)) := fun z => z.elim (fun y => absurd y.1 (by decide)) (fun y => absurd y.1 (by decide))
    exact (d_stail I e).elim (fun z => Or.inr (Or.inr (Or.inl ⟨by omega, nk, z.1, z.2⟩))) (fun z => Or.inr (Or.inr (Or.inr ⟨by omega, nk, z.1, z.2⟩)))
theorem K_step (x1 x2 x3 x4 x5 : Int32) {h : mH} (j : JR h) : ∃ r r', f_X11_step x1 x2 x3 x4 x5 h = some r ∧ f_X12_step x1 x2 x3 x4 x5 r.2 = some r' ∧ r.1 = r'.1 ∧ JR r'.2 := by
  obtain ⟨I, C, R⟩ := j
  obtain ⟨r, e1, S1⟩ := z_X11_step x1 x2 x3 x4 x5 h (SI.an fpM I C) (by decide)
  obtain ⟨r', e2, S2⟩ := z_X12_step x1 x2 x3 x4 x5 r.2 (SI.an fp0 S1.1 S1.2.1) (fun _ _ => rfl)
  refine al_mk (c := fun g => f_X11_step x1 x2 x3 x4 x5 g) (m := fun g => f_X12_step x1 x2 x3 x4 x5 g) e1 e2 S2 ?_
  have M := S1.2.2.1
  have n : r.2.1 12 0 2 = h.1 1 0 4 := (M 12 0 2 rfl).1.trans R.1.2.1.symm
  have n2 : r.2.1 12 0 16 = h.1 1 0 6 := (M 12 0 16 rfl).1.trans R.1.2.2.2.1.symm
  have k : ∀ c, r.2.1 49 0 c = h.1 6 c 3 := fun c => (M 49 0 c rfl).1.trans (R.2.1 c).1.2.2.2.1.symm
  have k2 : ∀ c, r.2.1 48 0 c = h.1 6 c 2 := fun c => (M 48 0 c rfl).1.trans (R.2.1 c).1.2.2.1.symm
  have s : ∀ a, r.2.1 58 0 a = h.1 0 a 5 := fun a => (M 58 0 a rfl).1.trans (R.2.2.2.1.1 a).symm
  have D := d_step S1.1 (fun c => by rw [k2 c]; exact (R.2.1 c).2.2.2) e2
  rw [n, n2, k, k2, s] at D
  rcases c_step I e1 with ⟨g, e⟩ | ⟨g, q, e⟩ | ⟨g, q, p, e⟩ | ⟨g, q, p, e⟩ <;> rcases D with ⟨g', e'⟩ | ⟨g', q', e'⟩ | ⟨g', q', p', e'⟩ | ⟨g', q', p', e'⟩ <;> first | exact absurd g' g | exact absurd g g' | exact absurd q' q | exact absurd q q' | exact absurd p' p | exact absurd p p' | exact ref_mk R e e' | skip
  have sa := s x1.toNatClampNeg
  unfold stM at e'
  rw [sa] at e'
  have b : 0 ≤ (h.1 0 x1.toNatClampNeg 5).toInt ∧ (h.1 0 x1.toNatClampNeg 5).toInt ≤ 12 := I 0 _ 5
  have hc : (h.1 0 x1.toNatClampNeg 5).toNatClampNeg < 12 := by
    show (h.1 0 x1.toNatClampNeg 5).toInt.toNat < 12
    omega
  rw [e', e]
  unfold stC
  generalize (h.1 0 x1.toNatClampNeg 5).toNatClampNeg = c at *
  generalize x1.toNatClampNeg = a at *
  refine ⟨rfl, R.1.to ?_, R.2.1.to ?_, R.2.2.1.to ?_, ?_, R.2.2.2.2.to ?_⟩
  · (repeat (refine fz.u ?_ rfl)) <;> exact fz.rf
  · (repeat (refine fz.u ?_ rfl)) <;> exact fz.rf
  · (repeat (refine fz.u ?_ rfl)) <;> exact fz.rf
  · refine ⟨fun b => ?_, fun b k hk => ?_⟩
    · have z := R.2.2.2.1.1 b
      by_cases y : b = a
      · simp [uI_1, y]
      · simp [uI_1, y, z]
    · obtain ⟨z1, z2, z3, z4⟩ := R.2.2.2.1.2 b k hk
      by_cases y : b = a ∧ k = c
      · obtain ⟨rfl, rfl⟩ := y
        simp [uI_1]
      · have y2 : ¬ (12 * b + k = 12 * a + c) := by omega
        simp [uI_1, y, y2, z1, z2, z3, z4]
  · (repeat (refine fz.u ?_ rfl)) <;> exact fz.rf
