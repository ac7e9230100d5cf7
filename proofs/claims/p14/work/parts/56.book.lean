/-! ===== the book's calls, on: handler, period, done, power, step ===== -/
theorem RB.slot7 {h : mH} (R : RB h) (c : Nat) (x : Int32) : RB (uI (uI h 6 c 7 x) 51 0 c x) := by
  intro i
  obtain ⟨⟨z0, z1, z2, z3, z4, z5, z6, z7⟩, za, zb, zc, zd⟩ := R i
  refine ⟨⟨?_, ?_, ?_, ?_, ?_, ?_, ?_, ?_⟩, ?_, ?_, ?_, ?_⟩ <;> simp [uI_1] <;> first | assumption | (rw [z5])
theorem RB.slot8 {h : mH} (R : RB h) (c : Nat) (x : Int32) : RB (uI (uI h 6 c 8 x) 52 0 c x) := by
  intro i
  obtain ⟨⟨z0, z1, z2, z3, z4, z5, z6, z7⟩, za, zb, zc, zd⟩ := R i
  refine ⟨⟨?_, ?_, ?_, ?_, ?_, ?_, ?_, ?_⟩, ?_, ?_, ?_, ?_⟩ <;> simp [uI_1] <;> first | assumption | (rw [z6])
theorem RB.slot9 {h : mH} (R : RB h) (c : Nat) (x : Int32) : RB (uI (uI h 6 c 9 x) 53 0 c x) := by
  intro i
  obtain ⟨⟨z0, z1, z2, z3, z4, z5, z6, z7⟩, za, zb, zc, zd⟩ := R i
  refine ⟨⟨?_, ?_, ?_, ?_, ?_, ?_, ?_, ?_⟩, ?_, ?_, ?_, ?_⟩ <;> simp [uI_1] <;> first | assumption | (rw [z7])
def gHnd (N Q : Int) (x1 x2 : Int32) : Prop := (0 ≤ x1.toInt ∧ x1.toInt < N) ∧ (x2.toInt = -1 ∨ (0 ≤ x2.toInt ∧ x2.toInt < Q))
theorem c_handler {x1 x2 : Int32} {h : mH} {r : Int32 × mH} (e : f_X11_handler x1 x2 h = some r) : (¬ gHnd (h.1 1 0 4).toInt (h.1 1 0 6).toInt x1 x2 ∧ r = (-1, h)) ∨ (gHnd (h.1 1 0 4).toInt (h.1 1 0 6).toInt x1 x2 ∧ ¬ h.1 6 x1.toNatClampNeg 3 = 2 ∧ r = (-4, h)) ∨ (gHnd (h.1 1 0 4).toInt (h.1 1 0 6).toInt x1 x2 ∧ h.1 6 x1.toNatClampNeg 3 = 2 ∧ r = (h.1 6 x1.toNatClampNeg 9, uI (uI h 6 x1.toNatClampNeg 9 x2) 1 0 9 0)) := by
  unfold gHnd
  have m1 : (-1 : Int32).toInt = -1 := by decide
  have core : ∀ (G : (0 ≤ x1.toInt ∧ x1.toInt < (h.1 1 0 4).toInt) ∧ (x2.toInt = -1 ∨ (0 ≤ x2.toInt ∧ x2.toInt < (h.1 1 0 6).toInt))), (if mIn x1 24 = true then if (h.1 6 x1.toNatClampNeg 3) = 2 then (f_X1_changeHandler x1 x2 h).bind fun r6 => some (r6.1, r6.2) else some ((-4), h) else none) = some r → (¬ ((0 ≤ x1.toInt ∧ x1.toInt < (h.1 1 0 4).toInt) ∧ (x2.toInt = -1 ∨ (0 ≤ x2.toInt ∧ x2.toInt < (h.1 1 0 6).toInt))) ∧ r = (-1, h)) ∨ (((0 ≤ x1.toInt ∧ x1.toInt < (h.1 1 0 4).toInt) ∧ (x2.toInt = -1 ∨ (0 ≤ x2.toInt ∧ x2.toInt < (h.1 1 0 6).toInt))) ∧ ¬ h.1 6 x1.toNatClampNeg 3 = 2 ∧ r = (-4, h)) ∨ (((0 ≤ x1.toInt ∧ x1.toInt < (h.1 1 0 4).toInt) ∧ (x2.toInt = -1 ∨ (0 ≤ x2.toInt ∧ x2.toInt < (h.1 1 0 6).toInt))) ∧ h.1 6 x1.toNatClampNeg 3 = 2 ∧ r = (h.1 6 x1.toNatClampNeg 9, uI (uI h 6 x1.toNatClampNeg 9 x2) 1 0 9 0)) := by
    intro G e
    unfold f_X1_changeHandler mLet at e
    split at e
    · split at e
      · rename_i q
        rw [Option.bind_some] at e
        exact Or.inr (Or.inr ⟨G, q, (Option.some.inj e).symm⟩)
      · rename_i q
        exact Or.inr (Or.inl ⟨G, q, (Option.some.inj e).symm⟩)
    · cases e
  unfold f_X11_handler at e
  rw [c_hasField, Option.bind_some] at e
  dsimp only at e
  by_cases q1 : 0 ≤ x1.toInt ∧ x1.toInt < (h.1 1 0 4).toInt
  rotate_left
  · rw [if_pos (b2i_n q1)] at e
    exact Or.inl ⟨by omega, (Option.some.inj e).symm⟩
  rw [if_neg (b2i_p q1)] at e
  by_cases q2 : x2 = -1
  · rw [if_pos q2] at e
    have z2 : x2.toInt = (-1 : Int32).toInt := congrArg Int32.toInt q2
    exact core (by omega) e
  · rw [if_neg q2] at e
    have z2 := ti_ne q2
    rw [c_hasAct, Option.bind_some] at e
    dsimp only at e
    by_cases q3 : 0 ≤ x2.toInt ∧ x2.toInt < (h.1 1 0 6).toInt
    · rw [if_neg (b2i_p q3)] at e
      exact core (by omega) e
    · rw [if_pos (b2i_n q3)] at e
      exact Or.inl ⟨by omega, (Option.some.inj e).symm⟩
theorem d_handler {x1 x2 : Int32} {h : mH} {r : Int32 × mH} (I : IR h) (e : f_X12_handler x1 x2 h = some r) : (¬ gHnd (h.1 12 0 2).toInt (h.1 12 0 16).toInt x1 x2 ∧ r = (-1, h)) ∨ (gHnd (h.1 12 0 2).toInt (h.1 12 0 16).toInt x1 x2 ∧ ¬ h.1 49 0 x1.toNatClampNeg = 2 ∧ r = (-4, h)) ∨ (gHnd (h.1 12 0 2).toInt (h.1 12 0 16).toInt x1 x2 ∧ h.1 49 0 x1.toNatClampNeg = 2 ∧ r = (h.1 53 0 x1.toNatClampNeg, uI h 53 0 x1.toNatClampNeg x2)) := by
  unfold gHnd
  have m1 : (-1 : Int32).toInt = -1 := by decide
  have core : ∀ (G : (0 ≤ x1.toInt ∧ x1.toInt < (h.1 12 0 2).toInt) ∧ (x2.toInt = -1 ∨ (0 ≤ x2.toInt ∧ x2.toInt < (h.1 12 0 16).toInt))), (if mIn x1 24 = true then if (h.1 49 0 x1.toNatClampNeg) = 2 then some (h.1 53 0 x1.toNatClampNeg, uI h 53 0 x1.toNatClampNeg x2) else some ((-4), h) else none) = some r → (¬ ((0 ≤ x1.toInt ∧ x1.toInt < (h.1 12 0 2).toInt) ∧ (x2.toInt = -1 ∨ (0 ≤ x2.toInt ∧ x2.toInt < (h.1 12 0 16).toInt))) ∧ r = (-1, h)) ∨ (((0 ≤ x1.toInt ∧ x1.toInt < (h.1 12 0 2).toInt) ∧ (x2.toInt = -1 ∨ (0 ≤ x2.toInt ∧ x2.toInt < (h.1 12 0 16).toInt))) ∧ ¬ h.1 49 0 x1.toNatClampNeg = 2 ∧ r = (-4, h)) ∨ (((0 ≤ x1.toInt ∧ x1.toInt < (h.1 12 0 2).toInt) ∧ (x2.toInt = -1 ∨ (0 ≤ x2.toInt ∧ x2.toInt < (h.1 12 0 16).toInt))) ∧ h.1 49 0 x1.toNatClampNeg = 2 ∧ r = (h.1 53 0 x1.toNatClampNeg, uI h 53 0 x1.toNatClampNeg x2)) := by
    intro G e
    split at e
    · split at e
      · rename_i q
        exact Or.inr (Or.inr ⟨G, q, (Option.some.inj e).symm⟩)
      · rename_i q
        exact Or.inr (Or.inl ⟨G, q, (Option.some.inj e).symm⟩)
    · cases e
  unfold f_X12_handler at e
  rw [d_isField I, Option.bind_some] at e
  dsimp only at e
  by_cases q1 : 0 ≤ x1.toInt ∧ x1.toInt < (h.1 12 0 2).toInt
  rotate_left
  · rw [if_pos (b2i_n q1)] at e
    exact Or.inl ⟨by omega, (Option.some.inj e).symm⟩
  rw [if_neg (b2i_p q1)] at e
  by_cases q2 : x2 = -1
  · rw [if_pos q2] at e
    have z2 : x2.toInt = (-1 : Int32).toInt := congrArg Int32.toInt q2
    exact core (by omega) e
  · rw [if_neg q2] at e
    have z2 := ti_ne q2
    rw [d_isAct I, Option.bind_some] at e
    dsimp only at e
    by_cases q3 : 0 ≤ x2.toInt ∧ x2.toInt < (h.1 12 0 16).toInt
    · rw [if_neg (b2i_p q3)] at e
      exact core (by omega) e
    · rw [if_pos (b2i_n q3)] at e
      exact Or.inl ⟨by omega, (Option.some.inj e).symm⟩
theorem K_handler (x1 x2 : Int32) {h : mH} (j : JR h) : ∃ r r', f_X11_handler x1 x2 h = some r ∧ f_X12_handler x1 x2 r.2 = some r' ∧ r.1 = r'.1 ∧ JR r'.2 := by
  obtain ⟨I, C, R⟩ := j
  obtain ⟨r, e1, S1⟩ := z_X11_handler x1 x2 h (SI.an fpM I C) (by decide)
  obtain ⟨r', e2, S2⟩ := z_X12_handler x1 x2 r.2 (SI.an fp0 S1.1 S1.2.1) (fun _ _ => rfl)
  refine al_mk (c := fun g => f_X11_handler x1 x2 g) (m := fun g => f_X12_handler x1 x2 g) e1 e2 S2 ?_
  have M := S1.2.2.1
  have n : r.2.1 12 0 2 = h.1 1 0 4 := (M 12 0 2 rfl).1.trans R.1.2.1.symm
  have n2 : r.2.1 12 0 16 = h.1 1 0 6 := (M 12 0 16 rfl).1.trans R.1.2.2.2.1.symm
  have k : r.2.1 49 0 x1.toNatClampNeg = h.1 6 x1.toNatClampNeg 3 := (M 49 0 _ rfl).1.trans (R.2.1 _).1.2.2.2.1.symm
  have k2 : r.2.1 53 0 x1.toNatClampNeg = h.1 6 x1.toNatClampNeg 9 := (M 53 0 _ rfl).1.trans (R.2.1 _).1.2.2.2.2.2.2.2.symm
  have D := d_handler S1.1 e2
  rw [n, n2, k, k2] at D
  rcases c_handler e1 with ⟨g, e⟩ | ⟨g, q, e⟩ | ⟨g, q, e⟩ <;> rcases D with ⟨g', e'⟩ | ⟨g', q', e'⟩ | ⟨g', q', e'⟩ <;> first | exact absurd g' g | exact absurd g g' | exact absurd q' q | exact absurd q q' | exact ref_mk R e e' | skip
  rw [e', e]
  refine ⟨rfl, R.1.to ?_, (R.2.1.slot9 x1.toNatClampNeg x2).to ?_, R.2.2.1.to ?_, R.2.2.2.1.to ?_, R.2.2.2.2.to ?_⟩
  · (repeat (refine fz.u ?_ rfl)) <;> exact fz.rf
  · refine fz.c ?_
    (repeat (refine fz.u ?_ rfl)) <;> exact fz.rf
  · (repeat (refine fz.u ?_ rfl)) <;> exact fz.rf
  · (repeat (refine fz.u ?_ rfl)) <;> exact fz.rf
  · (repeat (refine fz.u ?_ rfl)) <;> exact fz.rf
def gPer (N : Int) (x1 x2 : Int32) : Prop := (0 ≤ x1.toInt ∧ x1.toInt < N) ∧ 1 ≤ x2.toInt ∧ x2.toInt ≤ 9
theorem c_period {x1 x2 : Int32} {h : mH} {r : Int32 × mH} (I : IR h) (C : CCs h) (e : f_X11_period x1 x2 h = some r) : (¬ gPer (h.1 1 0 4).toInt x1 x2 ∧ r = (-1, h)) ∨ (gPer (h.1 1 0 4).toInt x1 x2 ∧ ¬ h.1 6 x1.toNatClampNeg 3 = 4 ∧ r = (-4, h)) ∨ (gPer (h.1 1 0 4).toInt x1 x2 ∧ h.1 6 x1.toNatClampNeg 3 = 4 ∧ r.1 = h.1 6 x1.toNatClampNeg 7 ∧ fz fpK (uI h 6 x1.toNatClampNeg 7 x2) r.2) := by
  unfold gPer
  have t1 : (1 : Int32).toInt = 1 := by decide
  have t9 : (9 : Int32).toInt = 9 := by decide
  have b : 0 ≤ (h.1 1 0 4).toInt ∧ (h.1 1 0 4).toInt ≤ 24 := I 1 0 4
  unfold f_X11_period at e
  rw [c_hasField, Option.bind_some] at e
  dsimp only at e
  by_cases q1 : 0 ≤ x1.toInt ∧ x1.toInt < (h.1 1 0 4).toInt
  rotate_left
  · rw [if_pos (b2i_n q1)] at e
    exact Or.inl ⟨by omega, (Option.some.inj e).symm⟩
  rw [if_neg (b2i_p q1)] at e
  by_cases q2 : x2 < 1
  · rw [if_pos q2] at e
    have zq2 := Int32.lt_iff_toInt_lt.mp q2
    exact Or.inl ⟨by omega, (Option.some.inj e).symm⟩
  rw [if_neg q2] at e
  have gq2 := Int32.le_iff_toInt_le.mp (Int32.not_lt.mp q2)
  by_cases q3 : x2 ≤ 9
  rotate_left
  · rw [if_neg q3] at e
    have zq3 := Int32.lt_iff_toInt_lt.mp (Int32.not_le.mp q3)
    exact Or.inl ⟨by omega, (Option.some.inj e).symm⟩
  rw [if_pos q3] at e
  have gq3 := Int32.le_iff_toInt_le.mp q3
  split at e
  rotate_left
  · cases e
  rename_i qm
  by_cases q4 : h.1 6 x1.toNatClampNeg 3 = 4
  · rw [if_pos q4] at e
    obtain ⟨r7, e7, e⟩ := Option.bind_eq_some_iff.mp e
    obtain ⟨r8, e8, e⟩ := Option.bind_eq_some_iff.mp e
    cases e
    obtain ⟨r7', e7', S7⟩ := z_X1_changePeriod x1 x2 h (SI.an fp0 I C) (fun _ _ => rfl) (by omega)
    rw [e7] at e7'
    cases e7'
    have f8 := c_pow S7.1 S7.2.1 e8
    unfold f_X1_changePeriod mLet at e7
    rw [if_pos qm] at e7
    cases e7
    refine Or.inr (Or.inr ⟨by omega, q4, rfl, fz.tr ?_ f8⟩)
    exact fz.u fz.rf rfl
  · rw [if_neg q4] at e
    exact Or.inr (Or.inl ⟨by omega, q4, (Option.some.inj e).symm⟩)
theorem d_period {x1 x2 : Int32} {h : mH} {r : Int32 × mH} (I : IR h) (C : CCs h) (e : f_X12_period x1 x2 h = some r) : (¬ gPer (h.1 12 0 2).toInt x1 x2 ∧ r = (-1, h)) ∨ (gPer (h.1 12 0 2).toInt x1 x2 ∧ ¬ h.1 49 0 x1.toNatClampNeg = 4 ∧ r = (-4, h)) ∨ (gPer (h.1 12 0 2).toInt x1 x2 ∧ h.1 49 0 x1.toNatClampNeg = 4 ∧ r.1 = h.1 51 0 x1.toNatClampNeg ∧ fz fpK (uI h 51 0 x1.toNatClampNeg x2) r.2) := by
  unfold gPer
  have t1 : (1 : Int32).toInt = 1 := by decide
  have t9 : (9 : Int32).toInt = 9 := by decide
  unfold f_X12_period at e
  rw [d_isField I, Option.bind_some] at e
  dsimp only at e
  by_cases q1 : 0 ≤ x1.toInt ∧ x1.toInt < (h.1 12 0 2).toInt
  rotate_left
  · rw [if_pos (b2i_n q1)] at e
    exact Or.inl ⟨by omega, (Option.some.inj e).symm⟩
  rw [if_neg (b2i_p q1)] at e
  rw [d_in, Option.bind_some] at e
  dsimp only at e
  by_cases q2 : (1 : Int32).toInt ≤ x2.toInt ∧ x2.toInt ≤ (9 : Int32).toInt
  rotate_left
  · rw [if_pos (b2i_n q2)] at e
    exact Or.inl ⟨by omega, (Option.some.inj e).symm⟩
  rw [if_neg (b2i_p q2)] at e
  split at e
  rotate_left
  · cases e
  by_cases q4 : h.1 49 0 x1.toNatClampNeg = 4
  · rw [if_pos q4] at e
    obtain ⟨r7, e7, e⟩ := Option.bind_eq_some_iff.mp e
    cases e
    have S7 := SI.f (t := 51) (i := 0) (k := x1.toNatClampNeg) (x := x2) (SI.an fp0 I C) rfl rfl rfl
    exact Or.inr (Or.inr ⟨by omega, q4, rfl, d_chg S7.1 S7.2.1 e7⟩)
  · rw [if_neg q4] at e
    exact Or.inr (Or.inl ⟨by omega, q4, (Option.some.inj e).symm⟩)
theorem K_period (x1 x2 : Int32) {h : mH} (j : JR h) : ∃ r r', f_X11_period x1 x2 h = some r ∧ f_X12_period x1 x2 r.2 = some r' ∧ r.1 = r'.1 ∧ JR r'.2 := by
  obtain ⟨I, C, R⟩ := j
  obtain ⟨r, e1, S1⟩ := z_X11_period x1 x2 h (SI.an fpM I C) (by decide)
  obtain ⟨r', e2, S2⟩ := z_X12_period x1 x2 r.2 (SI.an fp0 S1.1 S1.2.1) (fun _ _ => rfl)
  refine al_mk (c := fun g => f_X11_period x1 x2 g) (m := fun g => f_X12_period x1 x2 g) e1 e2 S2 ?_
  have M := S1.2.2.1
  have n : r.2.1 12 0 2 = h.1 1 0 4 := (M 12 0 2 rfl).1.trans R.1.2.1.symm
  have k : r.2.1 49 0 x1.toNatClampNeg = h.1 6 x1.toNatClampNeg 3 := (M 49 0 _ rfl).1.trans (R.2.1 _).1.2.2.2.1.symm
  have k2 : r.2.1 51 0 x1.toNatClampNeg = h.1 6 x1.toNatClampNeg 7 := (M 51 0 _ rfl).1.trans (R.2.1 _).1.2.2.2.2.2.1.symm
  have D := d_period S1.1 S1.2.1 e2
  rw [n, k, k2] at D
  rcases c_period I C e1 with ⟨g, e⟩ | ⟨g, q, e⟩ | ⟨g, q, v, f⟩ <;> rcases D with ⟨g', e'⟩ | ⟨g', q', e'⟩ | ⟨g', q', v', f'⟩ <;> first | exact absurd g' g | exact absurd g g' | exact absurd q' q | exact absurd q q' | exact ref_mk R e e' | skip
  refine ⟨v.trans v'.symm, RR.to f' (RR.to f.c ?_)⟩
  refine ⟨R.1.to ?_, R.2.1.slot7 x1.toNatClampNeg x2, R.2.2.1.to ?_, R.2.2.2.1.to ?_, R.2.2.2.2.to ?_⟩ <;> (repeat (refine fz.u ?_ rfl)) <;> exact fz.rf
def gDon (N : Int) (x1 x2 : Int32) : Prop := (0 ≤ x1.toInt ∧ x1.toInt < N) ∧ (x2.toInt = -1 ∨ (0 ≤ x2.toInt ∧ x2.toInt < N))
def kDon (k1 k2 : Int32) (x2 : Int32) : Prop := k1 = 4 ∧ (x2.toInt = -1 ∨ k2 = 1 ∨ k2 = 2)
theorem c_done_core {x1 x2 : Int32} {h : mH} {r : Int32 × mH} (I : IR h) (C : CCs h) (G : gDon (h.1 1 0 4).toInt x1 x2) (e : f_X11_done_j29 x1 x2 h = some r) : (¬ kDon (h.1 6 x1.toNatClampNeg 3) (h.1 6 x2.toNatClampNeg 3) x2 ∧ r = (-4, h)) ∨ (kDon (h.1 6 x1.toNatClampNeg 3) (h.1 6 x2.toNatClampNeg 3) x2 ∧ r.1 = h.1 6 x1.toNatClampNeg 8 ∧ fz fpK (uI h 6 x1.toNatClampNeg 8 x2) r.2) := by
  unfold gDon at G
  unfold kDon
  have m1 : (-1 : Int32).toInt = -1 := by decide
  have b : 0 ≤ (h.1 1 0 4).toInt ∧ (h.1 1 0 4).toInt ≤ 24 := I 1 0 4
  have core : ∀ r7 r8, f_X1_changeDone x1 x2 h = some r7 → f_X2_powerUp r7.2 = some r8 → r7.1 = h.1 6 x1.toNatClampNeg 8 ∧ fz fpK (uI h 6 x1.toNatClampNeg 8 x2) r8 := by
    intro r7 r8 e7 e8
    obtain ⟨r7', e7', S7⟩ := z_X1_changeDone x1 x2 h (SI.an fp0 I C) (fun _ _ => rfl) (by omega) (by omega)
    rw [e7] at e7'
    cases e7'
    have f8 := c_pow S7.1 S7.2.1 e8
    unfold f_X1_changeDone mLet at e7
    split at e7
    · cases e7
      exact ⟨rfl, fz.tr (fz.u fz.rf rfl) f8⟩
    · cases e7
  unfold f_X11_done_j29 at e
  split at e
  rotate_left
  · cases e
  split at e
  rotate_left
  · rename_i q
    exact Or.inl ⟨fun z => q z.1, (Option.some.inj e).symm⟩
  rename_i q1
  split at e
  · rename_i q2
    have z2 : x2.toInt = (-1 : Int32).toInt := congrArg Int32.toInt q2
    obtain ⟨r7, e7, e⟩ := Option.bind_eq_some_iff.mp e
    obtain ⟨r8, e8, e⟩ := Option.bind_eq_some_iff.mp e
    cases e
    have k := core r7 r8 e7 e8
    exact Or.inr ⟨⟨q1, Or.inl (by omega)⟩, k.1, k.2⟩
  · rename_i q2
    have z2 := ti_ne q2
    split at e
    rotate_left
    · cases e
    split at e
    · rename_i q3
      obtain ⟨r7, e7, e⟩ := Option.bind_eq_some_iff.mp e
      obtain ⟨r8, e8, e⟩ := Option.bind_eq_some_iff.mp e
      cases e
      have k := core r7 r8 e7 e8
      exact Or.inr ⟨⟨q1, Or.inr (Or.inl q3)⟩, k.1, k.2⟩
    · rename_i q3
      split at e
      · rename_i q4
        obtain ⟨r7, e7, e⟩ := Option.bind_eq_some_iff.mp e
        obtain ⟨r8, e8, e⟩ := Option.bind_eq_some_iff.mp e
        cases e
        have k := core r7 r8 e7 e8
        exact Or.inr ⟨⟨q1, Or.inr (Or.inr q4)⟩, k.1, k.2⟩
      · rename_i q4
        refine Or.inl ⟨fun z => ?_, (Option.some.inj e).symm⟩
        rcases z.2 with z | z | z
        · omega
        · exact q3 z
        · exact q4 z
theorem c_done {x1 x2 : Int32} {h : mH} {r : Int32 × mH} (I : IR h) (C : CCs h) (e : f_X11_done x1 x2 h = some r) : (¬ gDon (h.1 1 0 4).toInt x1 x2 ∧ r = (-1, h)) ∨ (gDon (h.1 1 0 4).toInt x1 x2 ∧ ¬ kDon (h.1 6 x1.toNatClampNeg 3) (h.1 6 x2.toNatClampNeg 3) x2 ∧ r = (-4, h)) ∨ (gDon (h.1 1 0 4).toInt x1 x2 ∧ kDon (h.1 6 x1.toNatClampNeg 3) (h.1 6 x2.toNatClampNeg 3) x2 ∧ r.1 = h.1 6 x1.toNatClampNeg 8 ∧ fz fpK (uI h 6 x1.toNatClampNeg 8 x2) r.2) := by
  have m1 : (-1 : Int32).toInt = -1 := by decide
  have key : gDon (h.1 1 0 4).toInt x1 x2 → f_X11_done_j29 x1 x2 h = some r → _ := fun G e => (c_done_core I C G e)
  have fin : gDon (h.1 1 0 4).toInt x1 x2 → f_X11_done_j29 x1 x2 h = some r → (¬ gDon (h.1 1 0 4).toInt x1 x2 ∧ r = (-1, h)) ∨ (gDon (h.1 1 0 4).toInt x1 x2 ∧ ¬ kDon (h.1 6 x1.toNatClampNeg 3) (h.1 6 x2.toNatClampNeg 3) x2 ∧ r = (-4, h)) ∨ (gDon (h.1 1 0 4).toInt x1 x2 ∧ kDon (h.1 6 x1.toNatClampNeg 3) (h.1 6 x2.toNatClampNeg 3) x2 ∧ r.1 = h.1 6 x1.toNatClampNeg 8 ∧ fz fpK (uI h 6 x1.toNatClampNeg 8 x2) r.2) := fun G e => (key G e).elim (fun z => Or.inr (Or.inl ⟨G, z⟩)) (fun z => Or.inr (Or.inr ⟨G, z⟩))
  unfold f_X11_done at e
  rw [c_hasField, Option.bind_some] at e
  dsimp only at e
  by_cases q1 : 0 ≤ x1.toInt ∧ x1.toInt < (h.1 1 0 4).toInt
  rotate_left
  · rw [if_pos (b2i_n q1)] at e
    exact Or.inl ⟨by unfold gDon; omega, (Option.some.inj e).symm⟩
  rw [if_neg (b2i_p q1)] at e
  by_cases q2 : x2 = -1
  · rw [if_pos q2] at e
    have z2 : x2.toInt = (-1 : Int32).toInt := congrArg Int32.toInt q2
    exact fin (by unfold gDon; omega) e
  · rw [if_neg q2] at e
    have z2 := ti_ne q2
    rw [c_hasField, Option.bind_some] at e
    dsimp only at e
    by_cases q3 : 0 ≤ x2.toInt ∧ x2.toInt < (h.1 1 0 4).toInt
    · rw [if_neg (b2i_p q3)] at e
      exact fin (by unfold gDon; omega) e
    · rw [if_pos (b2i_n q3)] at e
      exact Or.inl ⟨by unfold gDon; omega, (Option.some.inj e).symm⟩
theorem d_done_core {x1 x2 : Int32} {h : mH} {r : Int32 × mH} (I : IR h) (C : CCs h) (G : gDon (h.1 12 0 2).toInt x1 x2) (e : f_X12_done_j23 x1 x2 h = some r) : (¬ kDon (h.1 49 0 x1.toNatClampNeg) (h.1 49 0 x2.toNatClampNeg) x2 ∧ r = (-4, h)) ∨ (kDon (h.1 49 0 x1.toNatClampNeg) (h.1 49 0 x2.toNatClampNeg) x2 ∧ r.1 = h.1 52 0 x1.toNatClampNeg ∧ fz fpK (uI h 52 0 x1.toNatClampNeg x2) r.2) := by
  unfold gDon at G
  unfold kDon
  have m1 : (-1 : Int32).toInt = -1 := by decide
  have b : 0 ≤ (h.1 12 0 2).toInt ∧ (h.1 12 0 2).toInt ≤ 24 := I 12 0 2
  have S7 := SI.u (t := 52) (i := 0) (k := x1.toNatClampNeg) (x := x2) (SI.an fp0 I C) rfl rfl ⟨by show (-1 : Int) ≤ x2.toInt; omega, by show x2.toInt ≤ 23; omega⟩
  have core : ∀ r8, f_X12_changed (uI h 52 0 x1.toNatClampNeg x2) = some r8 → fz fpK (uI h 52 0 x1.toNatClampNeg x2) r8 := fun r8 e8 => d_chg S7.1 S7.2.1 e8
  unfold f_X12_done_j23 at e
  split at e
  rotate_left
  · cases e
  split at e
  rotate_left
  · rename_i q
    exact Or.inl ⟨fun z => q z.1, (Option.some.inj e).symm⟩
  rename_i q1
  split at e
  · rename_i q2
    have z2 : x2.toInt = (-1 : Int32).toInt := congrArg Int32.toInt q2
    obtain ⟨r8, e8, e⟩ := Option.bind_eq_some_iff.mp e
    cases e
    exact Or.inr ⟨⟨q1, Or.inl (by omega)⟩, rfl, core r8 e8⟩
  · rename_i q2
    have z2 := ti_ne q2
    split at e
    rotate_left
    · cases e
    split at e
    · rename_i q3
      obtain ⟨r8, e8, e⟩ := Option.bind_eq_some_iff.mp e
      cases e
      exact Or.inr ⟨⟨q1, Or.inr (Or.inl q3)⟩, rfl, core r8 e8⟩
    · rename_i q3
      split at e
      · rename_i q4
        obtain ⟨r8, e8, e⟩ := Option.bind_eq_some_iff.mp e
        cases e
        exact Or.inr ⟨⟨q1, Or.inr (Or.inr q4)⟩, rfl, core r8 e8⟩
      · rename_i q4
        refine Or.inl ⟨fun z => ?_, (Option.some.inj e).symm⟩
        rcases z.2 with z | z | z
        · omega
        · exact q3 z
        · exact q4 z
theorem d_done {x1 x2 : Int32} {h : mH} {r : Int32 × mH} (I : IR h) (C : CCs h) (e : f_X12_done x1 x2 h = some r) : (¬ gDon (h.1 12 0 2).toInt x1 x2 ∧ r = (-1, h)) ∨ (gDon (h.1 12 0 2).toInt x1 x2 ∧ ¬ kDon (h.1 49 0 x1.toNatClampNeg) (h.1 49 0 x2.toNatClampNeg) x2 ∧ r = (-4, h)) ∨ (gDon (h.1 12 0 2).toInt x1 x2 ∧ kDon (h.1 49 0 x1.toNatClampNeg) (h.1 49 0 x2.toNatClampNeg) x2 ∧ r.1 = h.1 52 0 x1.toNatClampNeg ∧ fz fpK (uI h 52 0 x1.toNatClampNeg x2) r.2) := by
  have m1 : (-1 : Int32).toInt = -1 := by decide
  have fin : gDon (h.1 12 0 2).toInt x1 x2 → f_X12_done_j23 x1 x2 h = some r → (¬ gDon (h.1 12 0 2).toInt x1 x2 ∧ r = (-1, h)) ∨ (gDon (h.1 12 0 2).toInt x1 x2 ∧ ¬ kDon (h.1 49 0 x1.toNatClampNeg) (h.1 49 0 x2.toNatClampNeg) x2 ∧ r = (-4, h)) ∨ (gDon (h.1 12 0 2).toInt x1 x2 ∧ kDon (h.1 49 0 x1.toNatClampNeg) (h.1 49 0 x2.toNatClampNeg) x2 ∧ r.1 = h.1 52 0 x1.toNatClampNeg ∧ fz fpK (uI h 52 0 x1.toNatClampNeg x2) r.2) := fun G e => (d_done_core I C G e).elim (fun z => Or.inr (Or.inl ⟨G, z⟩)) (fun z => Or.inr (Or.inr ⟨G, z⟩))
  unfold f_X12_done at e
  rw [d_isField I, Option.bind_some] at e
  dsimp only at e
  by_cases q1 : 0 ≤ x1.toInt ∧ x1.toInt < (h.1 12 0 2).toInt
  rotate_left
  · rw [if_pos (b2i_n q1)] at e
    exact Or.inl ⟨by unfold gDon; omega, (Option.some.inj e).symm⟩
  rw [if_neg (b2i_p q1)] at e
  by_cases q2 : x2 = -1
  · rw [if_pos q2] at e
    have z2 : x2.toInt = (-1 : Int32).toInt := congrArg Int32.toInt q2
    exact fin (by unfold gDon; omega) e
  · rw [if_neg q2] at e
    have z2 := ti_ne q2
    rw [d_isField I, Option.bind_some] at e
    dsimp only at e
    by_cases q3 : 0 ≤ x2.toInt ∧ x2.toInt < (h.1 12 0 2).toInt
    · rw [if_neg (b2i_p q3)] at e
      exact fin (by unfold gDon; omega) e
    · rw [if_pos (b2i_n q3)] at e
      exact Or.inl ⟨by unfold gDon; omega, (Option.some.inj e).symm⟩
theorem K_done (x1 x2 : Int32) {h : mH} (j : JR h) : ∃ r r', f_X11_done x1 x2 h = some r ∧ f_X12_done x1 x2 r.2 = some r' ∧ r.1 = r'.1 ∧ JR r'.2 := by
  obtain ⟨I, C, R⟩ := j
  obtain ⟨r, e1, S1⟩ := z_X11_done x1 x2 h (SI.an fpM I C) (by decide)
  obtain ⟨r', e2, S2⟩ := z_X12_done x1 x2 r.2 (SI.an fp0 S1.1 S1.2.1) (fun _ _ => rfl)
  refine al_mk (c := fun g => f_X11_done x1 x2 g) (m := fun g => f_X12_done x1 x2 g) e1 e2 S2 ?_
  have M := S1.2.2.1
  have n : r.2.1 12 0 2 = h.1 1 0 4 := (M 12 0 2 rfl).1.trans R.1.2.1.symm
  have k : ∀ c, r.2.1 49 0 c = h.1 6 c 3 := fun c => (M 49 0 c rfl).1.trans (R.2.1 c).1.2.2.2.1.symm
  have k2 : r.2.1 52 0 x1.toNatClampNeg = h.1 6 x1.toNatClampNeg 8 := (M 52 0 _ rfl).1.trans (R.2.1 _).1.2.2.2.2.2.2.1.symm
  have D := d_done S1.1 S1.2.1 e2
  rw [n, k, k, k2] at D
  rcases c_done I C e1 with ⟨g, e⟩ | ⟨g, q, e⟩ | ⟨g, q, v, f⟩ <;> rcases D with ⟨g', e'⟩ | ⟨g', q', e'⟩ | ⟨g', q', v', f'⟩ <;> first | exact absurd g' g | exact absurd g g' | exact absurd q' q | exact absurd q q' | exact ref_mk R e e' | skip
  refine ⟨v.trans v'.symm, RR.to f' (RR.to f.c ?_)⟩
  refine ⟨R.1.to ?_, R.2.1.slot8 x1.toNatClampNeg x2, R.2.2.1.to ?_, R.2.2.2.1.to ?_, R.2.2.2.2.to ?_⟩ <;> (repeat (refine fz.u ?_ rfl)) <;> exact fz.rf
theorem K_power {h : mH} (j : JR h) : ∃ r r', f_X11_power h = some r ∧ f_X12_power r.2 = some r' ∧ r.1 = r'.1 ∧ JR r'.2 := by
  obtain ⟨I, C, R⟩ := j
  obtain ⟨r, e1, S1⟩ := z_X11_power h (SI.an fpK I C) (by decide)
  obtain ⟨r', e2, S2⟩ := z_X12_power r.2 (SI.an fpK S1.1 S1.2.1) (by decide)
  have R2 : RR r'.2 := RR.to S2.2.2.1 (RR.to S1.2.2.1 R)
  refine ⟨r, r', e1, e2, ?_, S2.1, S2.2.1, R2⟩
  have a1 : r.1 = r.2.1 1 0 4 := by
    unfold f_X11_power at e1
    obtain ⟨r7, -, e⟩ := Option.bind_eq_some_iff.mp e1
    cases e
    rfl
  have a2 : r'.1 = r'.2.1 12 0 2 := by
    unfold f_X12_power at e2
    obtain ⟨r7, -, e⟩ := Option.bind_eq_some_iff.mp e2
    cases e
    rfl
  rw [a1, a2, ← R2.1.2.1]
  exact ((S2.2.2.1 1 0 4 rfl).1).symm
