/-! ===== the tapes' calls, on: put, copy, at ===== -/
def nar (s : Int32) (v : Int64) : Int64 := if s = 1 then v.toInt32.toInt8.toInt32.toInt64 else if s = 2 then v.toInt32.toInt16.toInt32.toInt64 else if s = 3 then v.toInt32.toInt64 else v
theorem c_narrowed (i : Nat) (v : Int64) (h : mH) : f_X9_narrowed i v h = some (nar (h.1 9 i 0) v, h) := by
  unfold f_X9_narrowed nar
  split
  · rfl
  · split
    · rfl
    · split <;> rfl
theorem d_narrowed (s : Int32) (v : Int64) (h : mH) : f_X12_narrowed s v h = some (nar s v, h) := by
  unfold f_X12_narrowed nar
  split
  · rfl
  · split
    · rfl
    · split <;> rfl
theorem c_holdsRow {i : Nat} {h : mH} (I : IR h) : f_X9_holdsRow i h = some (b2i (decide (h.1 9 i 0 ≠ 0 ∧ h.1 9 i 0 ≠ 5)), h) := by
  have b : 0 ≤ (h.1 9 i 0).toInt ∧ (h.1 9 i 0).toInt ≤ 5 := I 9 i 0
  have t0 : (0 : Int32).toInt = 0 := by decide
  have t1 : (1 : Int32).toInt = 1 := by decide
  have t4 : (4 : Int32).toInt = 4 := by decide
  have t5 : (5 : Int32).toInt = 5 := by decide
  have e0 : h.1 9 i 0 = 0 ↔ (h.1 9 i 0).toInt = 0 := ⟨fun z => by rw [z]; rfl, fun z => Int32.toInt_inj.mp (by omega)⟩
  have e5 : h.1 9 i 0 = 5 ↔ (h.1 9 i 0).toInt = 5 := ⟨fun z => by rw [z]; rfl, fun z => Int32.toInt_inj.mp (by omega)⟩
  unfold f_X9_holdsRow
  by_cases q1 : h.1 9 i 0 < 1
  · have z := Int32.lt_iff_toInt_lt.mp q1
    rw [if_pos q1, b2i_n (fun y => y.1 (e0.mpr (by omega)))]
  · have z := Int32.le_iff_toInt_le.mp (Int32.not_lt.mp q1)
    rw [if_neg q1]
    by_cases q2 : h.1 9 i 0 ≤ 4
    · have z2 := Int32.le_iff_toInt_le.mp q2
      rw [if_pos q2, decide_eq_true ⟨fun y => by have := e0.mp y; omega, fun y => by have := e5.mp y; omega⟩]
      rfl
    · have z2 := Int32.lt_iff_toInt_lt.mp (Int32.not_le.mp q2)
      rw [if_neg q2, b2i_n (fun y => y.2 (e5.mpr (by omega)))]
theorem c_hasPlace (i : Nat) (x : Int32) (h : mH) : f_X9_hasPlace i x h = some (b2i (decide (0 ≤ x.toInt ∧ x.toInt < (h.1 9 i 1).toInt)), h) := d_rng
theorem d_place {x n : Int32} {h : mH} (h0 : 0 ≤ n.toInt) : f_X12_in x 0 (n - 1) h = some (b2i (decide (0 ≤ x.toInt ∧ x.toInt < n.toInt)), h) := by
  rw [d_in]
  have t0 : (0 : Int32).toInt = 0 := by decide
  have t1 : (1 : Int32).toInt = 1 := by decide
  have a := i32_hi n
  have e1 : (n - 1).toInt = n.toInt - (1 : Int32).toInt := ti_sub (by omega) (by omega)
  have : decide ((0 : Int32).toInt ≤ x.toInt ∧ x.toInt ≤ (n - 1).toInt) = decide (0 ≤ x.toInt ∧ x.toInt < n.toInt) := decide_eq_decide.mpr (by omega)
  rw [this]
def tp (x : Int32) : Prop := 0 ≤ x.toInt ∧ x.toInt < 6
def pl (n x : Int32) : Prop := 0 ≤ x.toInt ∧ x.toInt < n.toInt
theorem c_put {x1 x2 : Int32} {x3 : Int64} {h : mH} {r : Int32 × mH} (I : IR h) (e : f_X11_put x1 x2 x3 h = some r) :
    (¬ tp x1 ∧ r = (-1, h)) ∨ (tp x1 ∧ h.1 9 x1.toNatClampNeg 0 = 0 ∧ r = (-11, uI h 11 0 6 (h.1 11 0 6 + 1))) ∨ (tp x1 ∧ ¬ h.1 9 x1.toNatClampNeg 0 = 0 ∧ h.1 9 x1.toNatClampNeg 0 = 5 ∧ r = (-12, uI h 11 0 6 (h.1 11 0 6 + 1))) ∨
    (tp x1 ∧ ¬ h.1 9 x1.toNatClampNeg 0 = 0 ∧ ¬ h.1 9 x1.toNatClampNeg 0 = 5 ∧ ¬ pl (h.1 9 x1.toNatClampNeg 1) x2 ∧ r = (-13, uI h 11 0 6 (h.1 11 0 6 + 1))) ∨ (tp x1 ∧ ¬ h.1 9 x1.toNatClampNeg 0 = 0 ∧ ¬ h.1 9 x1.toNatClampNeg 0 = 5 ∧ pl (h.1 9 x1.toNatClampNeg 1) x2 ∧ r = (1, uJ h 42 x1.toNatClampNeg x2.toNatClampNeg (nar (h.1 9 x1.toNatClampNeg 0) x3))) := by
  unfold tp pl
  have z6 := t6
  unfold f_X11_put at e
  rw [c_isTape, Option.bind_some] at e
  dsimp only at e
  by_cases q1 : 0 ≤ x1.toInt ∧ x1.toInt < (6 : Int32).toInt
  rotate_left
  · rw [if_pos (b2i_n q1)] at e
    exact Or.inl ⟨by omega, (Option.some.inj e).symm⟩
  rw [if_neg (b2i_p q1)] at e
  split at e
  rotate_left
  · cases e
  rw [c_holdsRow I, Option.bind_some] at e
  dsimp only at e
  by_cases q2 : h.1 9 x1.toNatClampNeg 0 ≠ 0 ∧ h.1 9 x1.toNatClampNeg 0 ≠ 5
  · rw [if_neg (b2i_p q2), c_hasPlace, Option.bind_some] at e
    dsimp only at e
    by_cases q3 : 0 ≤ x2.toInt ∧ x2.toInt < (h.1 9 x1.toNatClampNeg 1).toInt
    · rw [if_neg (b2i_p q3), c_narrowed, Option.bind_some] at e
      dsimp only at e
      split at e
      · exact Or.inr (Or.inr (Or.inr (Or.inr ⟨by omega, q2.1, q2.2, q3, (Option.some.inj e).symm⟩)))
      · cases e
    · rw [if_pos (b2i_n q3)] at e
      unfold f_X11_hostRefuses at e
      rw [Option.bind_some] at e
      exact Or.inr (Or.inr (Or.inr (Or.inl ⟨by omega, q2.1, q2.2, q3, (Option.some.inj e).symm⟩)))
  · rw [if_pos (b2i_n q2)] at e
    unfold f_X11_hostRefuses at e
    rw [Option.bind_some, Option.bind_some] at e
    by_cases q3 : h.1 9 x1.toNatClampNeg 0 = 0
    · rw [if_pos q3] at e
      exact Or.inr (Or.inl ⟨by omega, q3, (Option.some.inj e).symm⟩)
    · rw [if_neg q3] at e
      exact Or.inr (Or.inr (Or.inl ⟨by omega, q3, Classical.byContradiction (fun z => q2 ⟨q3, z⟩), (Option.some.inj e).symm⟩))
theorem d_put {x1 x2 : Int32} {x3 : Int64} {h : mH} {r : Int32 × mH} (I : IR h) (e : f_X12_put x1 x2 x3 h = some r) :
    (¬ tp x1 ∧ r = (-1, h)) ∨ (tp x1 ∧ h.1 89 0 x1.toNatClampNeg = 0 ∧ r = (-11, uI h 12 0 62 (h.1 12 0 62 + 1))) ∨ (tp x1 ∧ ¬ h.1 89 0 x1.toNatClampNeg = 0 ∧ h.1 89 0 x1.toNatClampNeg = 5 ∧ r = (-12, uI h 12 0 62 (h.1 12 0 62 + 1))) ∨
    (tp x1 ∧ ¬ h.1 89 0 x1.toNatClampNeg = 0 ∧ ¬ h.1 89 0 x1.toNatClampNeg = 5 ∧ ¬ pl (h.1 90 0 x1.toNatClampNeg) x2 ∧ r = (-13, uI h 12 0 62 (h.1 12 0 62 + 1))) ∨ (tp x1 ∧ ¬ h.1 89 0 x1.toNatClampNeg = 0 ∧ ¬ h.1 89 0 x1.toNatClampNeg = 5 ∧ pl (h.1 90 0 x1.toNatClampNeg) x2 ∧ r = (1, uJ h 91 0 (64 * x1.toNatClampNeg + x2.toNatClampNeg) (nar (h.1 89 0 x1.toNatClampNeg) x3))) := by
  unfold tp pl
  have z6 := t6
  have bs : 0 ≤ (h.1 90 0 x1.toNatClampNeg).toInt ∧ (h.1 90 0 x1.toNatClampNeg).toInt ≤ 64 := I 90 0 _
  unfold f_X12_put f_X12_refuse at e
  rw [d_isTape, Option.bind_some] at e
  dsimp only at e
  by_cases q1 : 0 ≤ x1.toInt ∧ x1.toInt < (6 : Int32).toInt
  rotate_left
  · rw [if_pos (b2i_n q1)] at e
    exact Or.inl ⟨by omega, (Option.some.inj e).symm⟩
  rw [if_neg (b2i_p q1)] at e
  split at e
  rotate_left
  · cases e
  by_cases q2 : h.1 89 0 x1.toNatClampNeg = 0
  · rw [if_pos q2, Option.bind_some] at e
    exact Or.inr (Or.inl ⟨by omega, q2, (Option.some.inj e).symm⟩)
  rw [if_neg q2] at e
  by_cases q3 : h.1 89 0 x1.toNatClampNeg = 5
  · rw [if_pos q3, Option.bind_some] at e
    exact Or.inr (Or.inr (Or.inl ⟨by omega, q2, q3, (Option.some.inj e).symm⟩))
  rw [if_neg q3, d_place bs.1, Option.bind_some] at e
  dsimp only at e
  by_cases q4 : 0 ≤ x2.toInt ∧ x2.toInt < (h.1 90 0 x1.toNatClampNeg).toInt
  · rw [if_neg (b2i_p q4), d_narrowed, Option.bind_some] at e
    dsimp only at e
    have hc : x1.toInt = (x1.toNatClampNeg : Nat) := by
      show x1.toInt = ((x1.toInt.toNat : Nat) : Int)
      omega
    have hc2 : x2.toInt = (x2.toNatClampNeg : Nat) := by
      show x2.toInt = ((x2.toInt.toNat : Nat) : Int)
      omega
    split at e
    · rw [row_ix hc (by omega) hc2 (by omega)] at e
      exact Or.inr (Or.inr (Or.inr (Or.inr ⟨by omega, q2, q3, q4, (Option.some.inj e).symm⟩)))
    · cases e
  · rw [if_pos (b2i_n q4)] at e
    rw [Option.bind_some] at e
    exact Or.inr (Or.inr (Or.inr (Or.inl ⟨by omega, q2, q3, q4, (Option.some.inj e).symm⟩)))
theorem RT.row {h : mH} (R : RT h) {d i : Nat} (v : Int64) (hi : i < 64) : RT (uJ (uJ h 42 d i v) 91 0 (64 * d + i) v) := by
  refine ⟨R.1, R.2.1, fun e k hk => ?_⟩
  show (if 42 = 91 ∧ e = 0 ∧ k = 64 * d + i then v else if 42 = 42 ∧ e = d ∧ k = i then v else h.2 42 e k) = (if 91 = 91 ∧ 0 = 0 ∧ 64 * e + k = 64 * d + i then v else if 91 = 42 ∧ 0 = d ∧ 64 * e + k = i then v else h.2 91 0 (64 * e + k))
  rw [if_neg (by omega), if_neg (c := 91 = 42 ∧ _) (by omega)]
  by_cases q : e = d ∧ k = i
  · rw [if_pos (by omega), if_pos (by omega)]
  · rw [if_neg (by omega), if_neg (by omega)]
    exact R.2.2 e k hk
theorem K_put (x1 x2 : Int32) (x3 : Int64) {h : mH} (j : JR h) : ∃ r r', f_X11_put x1 x2 x3 h = some r ∧ f_X12_put x1 x2 x3 r.2 = some r' ∧ r.1 = r'.1 ∧ JR r'.2 := by
  obtain ⟨I, C, R⟩ := j
  obtain ⟨r, e1, S1⟩ := z_X11_put x1 x2 x3 h (SI.an fpM I C) (by decide)
  obtain ⟨r', e2, S2⟩ := z_X12_put x1 x2 x3 r.2 (SI.an fp0 S1.1 S1.2.1) (fun _ _ => rfl)
  refine al_mk (c := fun g => f_X11_put x1 x2 x3 g) (m := fun g => f_X12_put x1 x2 x3 g) e1 e2 S2 ?_
  have M := S1.2.2.1
  have k : r.2.1 89 0 x1.toNatClampNeg = h.1 9 x1.toNatClampNeg 0 := (M 89 0 _ rfl).1.trans (R.2.2.2.2.1 _).symm
  have sz : ¬ h.1 9 x1.toNatClampNeg 0 = 0 → ¬ h.1 9 x1.toNatClampNeg 0 = 5 → r.2.1 90 0 x1.toNatClampNeg = h.1 9 x1.toNatClampNeg 1 := fun a b => (M 90 0 _ rfl).1.trans (R.2.2.2.2.2.1 _ a b).symm
  have D := d_put S1.1 e2
  rw [k] at D
  rcases c_put I e1 with ⟨g, e⟩ | ⟨g, q, e⟩ | ⟨g, q, p, e⟩ | ⟨g, q, p, o, e⟩ | ⟨g, q, p, o, e⟩ <;> rcases D with ⟨g', e'⟩ | ⟨g', q', e'⟩ | ⟨g', q', p', e'⟩ | ⟨g', q', p', o', e'⟩ | ⟨g', q', p', o', e'⟩ <;> first | exact absurd g' g | exact absurd g g' | exact absurd q' q | exact absurd q q' | exact absurd p' p | exact absurd p p' | exact ref_mk R e e' | exact ref_mk2 R e e' | skip
  · rw [sz q p] at o'
    exact absurd o' o
  · rw [sz q p] at o'
    exact absurd o o'
  rw [e', e]
  have bs : 0 ≤ (h.1 9 x1.toNatClampNeg 1).toInt ∧ (h.1 9 x1.toNatClampNeg 1).toInt ≤ 64 := I 9 _ 1
  have hi : x2.toNatClampNeg < 64 := by
    unfold pl at o
    show x2.toInt.toNat < 64
    omega
  refine ⟨rfl, R.1.to ?_, R.2.1.to ?_, R.2.2.1.to ?_, R.2.2.2.1.to ?_, R.2.2.2.2.row _ hi⟩ <;> (repeat (refine fz.j ?_ rfl)) <;> exact fz.rf
/-! at -/
theorem c_at {x1 x2 : Int32} {h : mH} {r : Int32 × mH} (I : IR h) (e : f_L_at x1 x2 h = some r) :
    (¬ tp x1 ∧ r = (1, h)) ∨ (tp x1 ∧ ¬ (¬ h.1 9 x1.toNatClampNeg 0 = 0 ∧ ¬ h.1 9 x1.toNatClampNeg 0 = 5 ∧ pl (h.1 9 x1.toNatClampNeg 1) x2) ∧ r = (2, h)) ∨ (tp x1 ∧ (¬ h.1 9 x1.toNatClampNeg 0 = 0 ∧ ¬ h.1 9 x1.toNatClampNeg 0 = 5 ∧ pl (h.1 9 x1.toNatClampNeg 1) x2) ∧ r = (0, uJ h 98 0 0 (h.2 42 x1.toNatClampNeg x2.toNatClampNeg))) := by
  unfold tp pl
  have z6 := t6
  unfold f_L_at f_at at e
  rw [c_isTape, Option.bind_some] at e
  dsimp only at e
  by_cases q1 : 0 ≤ x1.toInt ∧ x1.toInt < (6 : Int32).toInt
  rotate_left
  · rw [if_pos (b2i_n q1), Option.bind_some] at e
    exact Or.inl ⟨by omega, (Option.some.inj e).symm⟩
  rw [if_neg (b2i_p q1)] at e
  have q0 : mIn x1 6 = true := mIn_bd (by omega) (by omega)
  rw [if_pos q0, c_holdsRow I, Option.bind_some] at e
  dsimp only at e
  by_cases q2 : h.1 9 x1.toNatClampNeg 0 ≠ 0 ∧ h.1 9 x1.toNatClampNeg 0 ≠ 5
  · rw [if_neg (b2i_p q2), c_hasPlace, Option.bind_some] at e
    dsimp only at e
    by_cases q3 : 0 ≤ x2.toInt ∧ x2.toInt < (h.1 9 x1.toNatClampNeg 1).toInt
    · have bs : 0 ≤ (h.1 9 x1.toNatClampNeg 1).toInt ∧ (h.1 9 x1.toNatClampNeg 1).toInt ≤ 64 := I 9 _ 1
      have q4 : mIn x2 64 = true := mIn_bd (by omega) (by omega)
      rw [if_neg (b2i_p q3), if_pos q4, Option.bind_some] at e
      exact Or.inr (Or.inr ⟨by omega, ⟨q2.1, q2.2, q3⟩, (Option.some.inj e).symm⟩)
    · rw [if_pos (b2i_n q3), Option.bind_some] at e
      exact Or.inr (Or.inl ⟨by omega, fun z => q3 z.2.2, (Option.some.inj e).symm⟩)
  · rw [if_pos (b2i_n q2), Option.bind_some] at e
    exact Or.inr (Or.inl ⟨by omega, fun z => q2 ⟨z.1, z.2.1⟩, (Option.some.inj e).symm⟩)
theorem d_at {x1 x2 : Int32} {h : mH} {r : Int64 × mH} (I : IR h) (e : f_X12_at x1 x2 h = some r) :
    (¬ tp x1 ∧ r = (0, uI h 12 0 0 1)) ∨ (tp x1 ∧ ¬ (¬ h.1 89 0 x1.toNatClampNeg = 0 ∧ ¬ h.1 89 0 x1.toNatClampNeg = 5 ∧ pl (h.1 90 0 x1.toNatClampNeg) x2) ∧ r = (0, uI h 12 0 0 2)) ∨ (tp x1 ∧ (¬ h.1 89 0 x1.toNatClampNeg = 0 ∧ ¬ h.1 89 0 x1.toNatClampNeg = 5 ∧ pl (h.1 90 0 x1.toNatClampNeg) x2) ∧ r = (h.2 91 0 (64 * x1.toNatClampNeg + x2.toNatClampNeg), uI h 12 0 0 0)) := by
  unfold tp pl
  have z6 := t6
  have bs : 0 ≤ (h.1 90 0 x1.toNatClampNeg).toInt ∧ (h.1 90 0 x1.toNatClampNeg).toInt ≤ 64 := I 90 0 _
  have w : ∀ v : Int32, (uI h 12 0 0 v).1 12 0 0 = v := fun v => uI_s' h 12 0 0 v
  unfold f_X12_at mLet at e
  rw [d_isTape, Option.bind_some] at e
  dsimp only at e
  by_cases q1 : 0 ≤ x1.toInt ∧ x1.toInt < (6 : Int32).toInt
  rotate_left
  · rw [if_pos (b2i_n q1), w, if_neg (by decide)] at e
    exact Or.inl ⟨by omega, (Option.some.inj e).symm⟩
  rw [if_neg (b2i_p q1)] at e
  have q0 : mIn x1 6 = true := mIn_bd (by omega) (by omega)
  rw [if_pos q0] at e
  by_cases q2 : h.1 89 0 x1.toNatClampNeg = 0
  · rw [if_pos q2, w, if_neg (by decide)] at e
    exact Or.inr (Or.inl ⟨by omega, fun z => z.1 q2, (Option.some.inj e).symm⟩)
  rw [if_neg q2] at e
  by_cases q3 : h.1 89 0 x1.toNatClampNeg = 5
  · rw [if_pos q3, w, if_neg (by decide)] at e
    exact Or.inr (Or.inl ⟨by omega, fun z => z.2.1 q3, (Option.some.inj e).symm⟩)
  rw [if_neg q3, d_place bs.1, Option.bind_some] at e
  dsimp only at e
  by_cases q4 : 0 ≤ x2.toInt ∧ x2.toInt < (h.1 90 0 x1.toNatClampNeg).toInt
  · rw [if_neg (b2i_p q4), w, if_pos rfl] at e
    have hc : x1.toInt = (x1.toNatClampNeg : Nat) := by
      show x1.toInt = ((x1.toInt.toNat : Nat) : Int)
      omega
    have hc2 : x2.toInt = (x2.toNatClampNeg : Nat) := by
      show x2.toInt = ((x2.toInt.toNat : Nat) : Int)
      omega
    split at e
    · rw [row_ix hc (by omega) hc2 (by omega)] at e
      exact Or.inr (Or.inr ⟨by omega, ⟨q2, q3, q4⟩, (Option.some.inj e).symm⟩)
    · cases e
  · rw [if_pos (b2i_n q4), w, if_neg (by decide)] at e
    exact Or.inr (Or.inl ⟨by omega, fun z => q4 z.2.2, (Option.some.inj e).symm⟩)
theorem K_at (x1 x2 : Int32) {h : mH} (j : JR h) : ∃ r r', f_L_at x1 x2 h = some r ∧ f_X12_at x1 x2 r.2 = some r' ∧ r'.2.1 12 0 0 = r.1 ∧ (r.1 = 0 → r'.2.2 98 0 0 = r'.1) ∧ JR r'.2 := by
  obtain ⟨I, C, R⟩ := j
  obtain ⟨r, e1, S1⟩ := z_L_at x1 x2 h (SI.an fpK I C) (by decide)
  obtain ⟨r', e2, S2⟩ := z_X12_at x1 x2 r.2 (SI.an fpK S1.1 S1.2.1) (by decide)
  refine ⟨r, r', e1, e2, ?_⟩
  have J : JR r'.2 := ⟨S2.1, S2.2.1, RR.to S2.2.2.1 (RR.to S1.2.2.1 R)⟩
  have M := S1.2.2.1
  have k : r.2.1 89 0 x1.toNatClampNeg = h.1 9 x1.toNatClampNeg 0 := (M 89 0 _ rfl).1.trans (R.2.2.2.2.1 _).symm
  have sz : ¬ h.1 9 x1.toNatClampNeg 0 = 0 → ¬ h.1 9 x1.toNatClampNeg 0 = 5 → r.2.1 90 0 x1.toNatClampNeg = h.1 9 x1.toNatClampNeg 1 := fun a b => (M 90 0 _ rfl).1.trans (R.2.2.2.2.2.1 _ a b).symm
  have D := d_at S1.1 e2
  rw [k] at D
  have hq : (¬ h.1 9 x1.toNatClampNeg 0 = 0 ∧ ¬ h.1 9 x1.toNatClampNeg 0 = 5 ∧ pl (r.2.1 90 0 x1.toNatClampNeg) x2) ↔ (¬ h.1 9 x1.toNatClampNeg 0 = 0 ∧ ¬ h.1 9 x1.toNatClampNeg 0 = 5 ∧ pl (h.1 9 x1.toNatClampNeg 1) x2) := by
    constructor
    · intro z
      have w := z.2.2
      rw [sz z.1 z.2.1] at w
      exact ⟨z.1, z.2.1, w⟩
    · intro z
      have w := z.2.2
      rw [← sz z.1 z.2.1] at w
      exact ⟨z.1, z.2.1, w⟩
  rw [hq] at D
  rcases c_at I e1 with ⟨g, e⟩ | ⟨g, q, e⟩ | ⟨g, q, e⟩ <;> rcases D with ⟨g', e'⟩ | ⟨g', q', e'⟩ | ⟨g', q', e'⟩ <;> first | exact absurd g' g | exact absurd g g' | exact absurd q' q | exact absurd q q' | skip
  · refine ⟨?_, fun z => ?_, J⟩
    · rw [e', e]; exact uI_s' _ 12 0 0 1
    · rw [e] at z; exact absurd z (show ¬ (1 : Int32) = 0 by decide)
  · refine ⟨?_, fun z => ?_, J⟩
    · rw [e', e]; exact uI_s' _ 12 0 0 2
    · rw [e] at z; exact absurd z (show ¬ (2 : Int32) = 0 by decide)
  · refine ⟨?_, fun _ => ?_, J⟩
    · rw [e', e]; exact uI_s' _ 12 0 0 0
    · have bs : 0 ≤ (h.1 9 x1.toNatClampNeg 1).toInt ∧ (h.1 9 x1.toNatClampNeg 1).toInt ≤ 64 := I 9 _ 1
      have hi : x2.toNatClampNeg < 64 := by
        have o := q.2.2
        unfold pl at o
        show x2.toInt.toNat < 64
        omega
      have y := R.2.2.2.2.2.2 x1.toNatClampNeg x2.toNatClampNeg hi
      rw [e', e]
      show (if 98 = 98 ∧ 0 = 0 ∧ 0 = 0 then h.2 42 x1.toNatClampNeg x2.toNatClampNeg else h.2 98 0 0) = (if 91 = 98 ∧ 0 = 0 ∧ 64 * x1.toNatClampNeg + x2.toNatClampNeg = 0 then h.2 42 x1.toNatClampNeg x2.toNatClampNeg else h.2 91 0 (64 * x1.toNatClampNeg + x2.toNatClampNeg))
      rw [if_pos ⟨rfl, rfl, rfl⟩, if_neg (by omega)]
      exact y
/-! copy -/
def pls (n x c : Int32) : Prop := 0 ≤ c.toInt ∧ 0 ≤ x.toInt ∧ x.toInt + c.toInt ≤ n.toInt
theorem c_hasPlaces {i : Nat} {x c : Int32} {h : mH} (I : IR h) : f_X9_hasPlaces i x c h = some (b2i (decide (0 ≤ c.toInt ∧ 0 ≤ x.toInt ∧ x.toInt + c.toInt ≤ (h.1 9 i 1).toInt)), h) := by
  have b : 0 ≤ (h.1 9 i 1).toInt ∧ (h.1 9 i 1).toInt ≤ 64 := I 9 i 1
  have t0 : (0 : Int32).toInt = 0 := by decide
  have hx := i32_hi x
  unfold f_X9_hasPlaces
  by_cases q1 : c < 0
  · have z1 := Int32.lt_iff_toInt_lt.mp q1
    rw [if_pos q1, b2i_n (by omega)]
  have z1 := Int32.le_iff_toInt_le.mp (Int32.not_lt.mp q1)
  rw [if_neg q1]
  by_cases q2 : x < 0
  · have z2 := Int32.lt_iff_toInt_lt.mp q2
    rw [if_pos q2, b2i_n (by omega)]
  have z2 := Int32.le_iff_toInt_le.mp (Int32.not_lt.mp q2)
  rw [if_neg q2]
  by_cases q3 : c ≤ h.1 9 i 1
  · have z3 := Int32.le_iff_toInt_le.mp q3
    have s : (h.1 9 i 1 - c).toInt = (h.1 9 i 1).toInt - c.toInt := ti_sub (by omega) (by omega)
    rw [if_pos q3]
    by_cases q4 : x ≤ h.1 9 i 1 - c
    · have z4 := Int32.le_iff_toInt_le.mp q4
      rw [if_pos q4, decide_eq_true (by omega)]
      rfl
    · have z4 := Int32.lt_iff_toInt_lt.mp (Int32.not_le.mp q4)
      rw [if_neg q4, b2i_n (by omega)]
  · have z3 := Int32.lt_iff_toInt_lt.mp (Int32.not_le.mp q3)
    rw [if_neg q3, b2i_n (by omega)]
def cA (s t : Int32) : Prop := s = 0 ∨ t = 0
def cB (s t : Int32) : Prop := s = 5 ∨ ¬ s = t
theorem c_copy {x1 x2 x3 x4 x5 : Int32} {h : mH} {r : Int32 × mH} (I : IR h) (e : f_X11_copy x1 x2 x3 x4 x5 h = some r) :
    (¬ (tp x1 ∧ tp x3) ∧ r = (-1, h)) ∨ ((tp x1 ∧ tp x3) ∧ cA (h.1 9 x1.toNatClampNeg 0) (h.1 9 x3.toNatClampNeg 0) ∧ r = (-11, uI h 11 0 6 (h.1 11 0 6 + 1))) ∨ ((tp x1 ∧ tp x3) ∧ ¬ cA (h.1 9 x1.toNatClampNeg 0) (h.1 9 x3.toNatClampNeg 0) ∧ cB (h.1 9 x1.toNatClampNeg 0) (h.1 9 x3.toNatClampNeg 0) ∧ r = (-12, uI h 11 0 6 (h.1 11 0 6 + 1))) ∨
    ((tp x1 ∧ tp x3) ∧ ¬ cA (h.1 9 x1.toNatClampNeg 0) (h.1 9 x3.toNatClampNeg 0) ∧ ¬ cB (h.1 9 x1.toNatClampNeg 0) (h.1 9 x3.toNatClampNeg 0) ∧ ¬ (pls (h.1 9 x1.toNatClampNeg 1) x2 x5 ∧ pls (h.1 9 x3.toNatClampNeg 1) x4 x5) ∧ r = (-13, uI h 11 0 6 (h.1 11 0 6 + 1))) ∨
    ((tp x1 ∧ tp x3) ∧ ¬ cA (h.1 9 x1.toNatClampNeg 0) (h.1 9 x3.toNatClampNeg 0) ∧ ¬ cB (h.1 9 x1.toNatClampNeg 0) (h.1 9 x3.toNatClampNeg 0) ∧ (pls (h.1 9 x1.toNatClampNeg 1) x2 x5 ∧ pls (h.1 9 x3.toNatClampNeg 1) x4 x5) ∧ r = (x5, cpJ h 42 x1.toNatClampNeg 42 x3.toNatClampNeg x2.toNatClampNeg x4.toNatClampNeg x5.toNatClampNeg)) := by
  unfold tp cA cB pls
  have z6 := t6
  unfold f_X11_copy f_X11_hostRefuses at e
  rw [c_isTape, Option.bind_some] at e
  dsimp only at e
  by_cases q1 : 0 ≤ x1.toInt ∧ x1.toInt < (6 : Int32).toInt
  rotate_left
  · rw [if_pos (b2i_n q1)] at e
    exact Or.inl ⟨by omega, (Option.some.inj e).symm⟩
  rw [if_neg (b2i_p q1), c_isTape, Option.bind_some] at e
  dsimp only at e
  by_cases q2 : 0 ≤ x3.toInt ∧ x3.toInt < (6 : Int32).toInt
  rotate_left
  · rw [if_pos (b2i_n q2)] at e
    exact Or.inl ⟨by omega, (Option.some.inj e).symm⟩
  rw [if_neg (b2i_p q2), if_pos (mIn_bd (by omega) (by omega)), if_pos (mIn_bd (by omega) (by omega))] at e
  by_cases q3 : h.1 9 x1.toNatClampNeg 0 = 0
  · rw [if_pos q3, Option.bind_some] at e
    exact Or.inr (Or.inl ⟨by omega, Or.inl q3, (Option.some.inj e).symm⟩)
  rw [if_neg q3] at e
  by_cases q4 : h.1 9 x3.toNatClampNeg 0 = 0
  · rw [if_pos q4, Option.bind_some] at e
    exact Or.inr (Or.inl ⟨by omega, Or.inr q4, (Option.some.inj e).symm⟩)
  rw [if_neg q4, c_holdsRow I, Option.bind_some] at e
  dsimp only at e
  have nA : ¬ (h.1 9 x1.toNatClampNeg 0 = 0 ∨ h.1 9 x3.toNatClampNeg 0 = 0) := fun z => z.elim q3 q4
  by_cases q5 : h.1 9 x1.toNatClampNeg 0 = 5
  · rw [if_pos (b2i_n (fun z => z.2 q5)), Option.bind_some] at e
    exact Or.inr (Or.inr (Or.inl ⟨by omega, nA, Or.inl q5, (Option.some.inj e).symm⟩))
  rw [if_neg (b2i_p ⟨q3, q5⟩)] at e
  by_cases q6 : h.1 9 x1.toNatClampNeg 0 = h.1 9 x3.toNatClampNeg 0
  rotate_left
  · rw [if_neg q6, Option.bind_some] at e
    exact Or.inr (Or.inr (Or.inl ⟨by omega, nA, Or.inr q6, (Option.some.inj e).symm⟩))
  have nB : ¬ (h.1 9 x1.toNatClampNeg 0 = 5 ∨ ¬ h.1 9 x1.toNatClampNeg 0 = h.1 9 x3.toNatClampNeg 0) := fun z => z.elim q5 (fun y => y q6)
  rw [if_pos q6, c_hasPlaces I, Option.bind_some] at e
  dsimp only at e
  by_cases q7 : 0 ≤ x5.toInt ∧ 0 ≤ x2.toInt ∧ x2.toInt + x5.toInt ≤ (h.1 9 x1.toNatClampNeg 1).toInt
  rotate_left
  · rw [if_pos (b2i_n q7), Option.bind_some] at e
    exact Or.inr (Or.inr (Or.inr (Or.inl ⟨by omega, nA, nB, fun z => q7 z.1, (Option.some.inj e).symm⟩)))
  rw [if_neg (b2i_p q7), c_hasPlaces I, Option.bind_some] at e
  dsimp only at e
  by_cases q8 : 0 ≤ x5.toInt ∧ 0 ≤ x4.toInt ∧ x4.toInt + x5.toInt ≤ (h.1 9 x3.toNatClampNeg 1).toInt
  rotate_left
  · rw [if_pos (b2i_n q8), Option.bind_some] at e
    exact Or.inr (Or.inr (Or.inr (Or.inl ⟨by omega, nA, nB, fun z => q8 z.2, (Option.some.inj e).symm⟩)))
  rw [if_neg (b2i_p q8)] at e
  split at e
  · exact Or.inr (Or.inr (Or.inr (Or.inr ⟨by omega, nA, nB, ⟨q7, q8⟩, (Option.some.inj e).symm⟩)))
  · cases e
def mv (h : mH) (a j : Nat) : mH := (h.1, fun t i k => if t = 96 ∧ i = 0 ∧ k < j then h.2 91 0 (a + k) else h.2 t i k)
theorem mv_0 (h : mH) (a : Nat) : mv h a 0 = h := by
  apply Prod.ext
  · rfl
  · funext t i k
    exact if_neg (by omega)
theorem mv_r (h : mH) (a j t i k : Nat) : (mv h a j).2 t i k = if t = 96 ∧ i = 0 ∧ k < j then h.2 91 0 (a + k) else h.2 t i k := rfl
theorem mv_91 (h : mH) (a j k : Nat) : (mv h a j).2 91 0 k = h.2 91 0 k := by
  rw [mv_r, if_neg (by omega)]
theorem mv_u (h : mH) (a j : Nat) : uJ (mv h a j) 96 0 j (h.2 91 0 (a + j)) = mv h a (j + 1) := by
  apply Prod.ext
  · rfl
  · funext t i k
    show (if t = 96 ∧ i = 0 ∧ k = j then h.2 91 0 (a + j) else if t = 96 ∧ i = 0 ∧ k < j then h.2 91 0 (a + k) else h.2 t i k) = (if t = 96 ∧ i = 0 ∧ k < j + 1 then h.2 91 0 (a + k) else h.2 t i k)
    by_cases q : t = 96 ∧ i = 0 ∧ k = j
    · rw [if_pos q, if_pos (by omega), q.2.2]
    · rw [if_neg q]
      by_cases q2 : t = 96 ∧ i = 0 ∧ k < j
      · rw [if_pos q2, if_pos (by omega)]
      · rw [if_neg q2, if_neg (by omega)]
def pt (h : mH) (b j : Nat) : mH := (h.1, fun t i k => if t = 91 ∧ i = 0 ∧ b ≤ k ∧ k < b + j then h.2 96 0 (k - b) else h.2 t i k)
theorem pt_0 (h : mH) (b : Nat) : pt h b 0 = h := by
  apply Prod.ext
  · rfl
  · funext t i k
    exact if_neg (by omega)
theorem pt_r (h : mH) (b j t i k : Nat) : (pt h b j).2 t i k = if t = 91 ∧ i = 0 ∧ b ≤ k ∧ k < b + j then h.2 96 0 (k - b) else h.2 t i k := rfl
theorem cpJ_r (h : mH) (t0 i0 t1 i1 sp dp n t i k : Nat) : (cpJ h t0 i0 t1 i1 sp dp n).2 t i k = if t = t1 ∧ i = i1 ∧ dp ≤ k ∧ k < dp + n then h.2 t0 i0 (sp + (k - dp)) else h.2 t i k := rfl
theorem pt_96 (h : mH) (b j k : Nat) : (pt h b j).2 96 0 k = h.2 96 0 k := by
  rw [pt_r, if_neg (by omega)]
theorem pt_u (h : mH) (b j : Nat) : uJ (pt h b j) 91 0 (b + j) (h.2 96 0 j) = pt h b (j + 1) := by
  apply Prod.ext
  · rfl
  · funext t i k
    show (if t = 91 ∧ i = 0 ∧ k = b + j then h.2 96 0 j else if t = 91 ∧ i = 0 ∧ b ≤ k ∧ k < b + j then h.2 96 0 (k - b) else h.2 t i k) = (if t = 91 ∧ i = 0 ∧ b ≤ k ∧ k < b + (j + 1) then h.2 96 0 (k - b) else h.2 t i k)
    by_cases q : t = 91 ∧ i = 0 ∧ k = b + j
    · rw [if_pos q, if_pos (by omega), q.2.2, Nat.add_sub_cancel_left]
    · rw [if_neg q]
      by_cases q2 : t = 91 ∧ i = 0 ∧ b ≤ k ∧ k < b + j
      · rw [if_pos q2, if_pos (by omega)]
      · rw [if_neg q2, if_neg (by omega)]
theorem row_ix3 {x y v : Int32} {d i j : Nat} (hx : x.toInt = d) (hd : d < 6) (hy : y.toInt = i) (hi : i < 1000) (hv : v.toInt = j) (hj : j < 1000) : (((64 * x) + y) + v).toNatClampNeg = 64 * d + i + j := by
  have t64 : (64 : Int32).toInt = 64 := by decide
  have m : (64 * x).toInt = 64 * x.toInt := ti_km t64 (by omega) (by omega)
  have a : (64 * x + y).toInt = (64 * x).toInt + y.toInt := ti_add (by omega) (by omega)
  have b : (64 * x + y + v).toInt = (64 * x + y).toInt + v.toInt := ti_add (by omega) (by omega)
  exact cl_of (by omega)
theorem copy_mv {d i N : Nat} (hd : d < 6) (hi : i ≤ 64) (hN : N ≤ 64) {x1 x2 x3 x4 x5 : Int32} (h1 : x1.toInt = d) (h2 : x2.toInt = i) (h5 : x5.toInt = N) (g : mH) (K : Int32 → Int32 → Int32 → Int32 → Int32 → Int32 → mH → Option (Int32 × mH)) : ∀ (n : Nat) (v6 : Int32) (j : Nat) (r : Int32 × mH), v6.toInt = j → j ≤ N → f_X12_copy_124 K n x1 x2 x3 x4 x5 v6 (mv g (64 * d + i) j) = some r → ∃ v, K x1 x2 x3 x4 x5 v (mv g (64 * d + i) N) = some r := by
  have t1 : (1 : Int32).toInt = 1 := by decide
  intro n
  induction n with
  | zero => intro v6 j r _ _ e; cases e
  | succ n ih =>
    intro v6 j r hv hj e
    unfold f_X12_copy_124 at e
    split at e
    · rename_i q
      have z := Int32.lt_iff_toInt_lt.mp q
      split at e
      · split at e
        · rw [row_ix3 h1 hd h2 (by omega) hv (by omega), cl_of hv, mv_91, mv_u] at e
          have a : (v6 + 1).toInt = v6.toInt + (1 : Int32).toInt := ti_add (by omega) (by omega)
          exact ih (v6 + 1) (j + 1) r (by omega) (by omega) e
        · cases e
      · cases e
    · rename_i q
      have z := Int32.le_iff_toInt_le.mp (Int32.not_lt.mp q)
      have y : j = N := by omega
      subst y
      exact ⟨v6, e⟩
theorem copy_pt {d i N : Nat} (hd : d < 6) (hi : i ≤ 64) (hN : N ≤ 64) {x3 x4 x5 : Int32} (h1 : x3.toInt = d) (h2 : x4.toInt = i) (h5 : x5.toInt = N) (g : mH) : ∀ (n : Nat) (v6 : Int32) (j : Nat) (r : Int32 × mH), v6.toInt = j → j ≤ N → f_X12_copy_161 (fun _ _ u37 _ h39 => some (u37, h39)) n x3 x4 x5 v6 (pt g (64 * d + i) j) = some r → r = (x5, pt g (64 * d + i) N) := by
  have t1 : (1 : Int32).toInt = 1 := by decide
  intro n
  induction n with
  | zero => intro v6 j r _ _ e; cases e
  | succ n ih =>
    intro v6 j r hv hj e
    unfold f_X12_copy_161 at e
    split at e
    · rename_i q
      have z := Int32.lt_iff_toInt_lt.mp q
      split at e
      · split at e
        · rw [row_ix3 h1 hd h2 (by omega) hv (by omega), cl_of hv, pt_96, pt_u] at e
          have a : (v6 + 1).toInt = v6.toInt + (1 : Int32).toInt := ti_add (by omega) (by omega)
          exact ih (v6 + 1) (j + 1) r (by omega) (by omega) e
        · cases e
      · cases e
    · rename_i q
      have z := Int32.le_iff_toInt_le.mp (Int32.not_lt.mp q)
      have y : j = N := by omega
      subst y
      exact (Option.some.inj e).symm
theorem cl_int {x : Int32} (h : 0 ≤ x.toInt) : x.toInt = (x.toNatClampNeg : Nat) := by
  show x.toInt = ((x.toInt.toNat : Nat) : Int)
  omega
theorem d_copy {x1 x2 x3 x4 x5 : Int32} {h : mH} {r : Int32 × mH} (I : IR h) (e : f_X12_copy x1 x2 x3 x4 x5 h = some r) :
    (¬ (tp x1 ∧ tp x3) ∧ r = (-1, h)) ∨ ((tp x1 ∧ tp x3) ∧ cA (h.1 89 0 x1.toNatClampNeg) (h.1 89 0 x3.toNatClampNeg) ∧ r = (-11, uI h 12 0 62 (h.1 12 0 62 + 1))) ∨ ((tp x1 ∧ tp x3) ∧ ¬ cA (h.1 89 0 x1.toNatClampNeg) (h.1 89 0 x3.toNatClampNeg) ∧ cB (h.1 89 0 x1.toNatClampNeg) (h.1 89 0 x3.toNatClampNeg) ∧ r = (-12, uI h 12 0 62 (h.1 12 0 62 + 1))) ∨
    ((tp x1 ∧ tp x3) ∧ ¬ cA (h.1 89 0 x1.toNatClampNeg) (h.1 89 0 x3.toNatClampNeg) ∧ ¬ cB (h.1 89 0 x1.toNatClampNeg) (h.1 89 0 x3.toNatClampNeg) ∧ ¬ (pls (h.1 90 0 x1.toNatClampNeg) x2 x5 ∧ pls (h.1 90 0 x3.toNatClampNeg) x4 x5) ∧ r = (-13, uI h 12 0 62 (h.1 12 0 62 + 1))) ∨
    ((tp x1 ∧ tp x3) ∧ ¬ cA (h.1 89 0 x1.toNatClampNeg) (h.1 89 0 x3.toNatClampNeg) ∧ ¬ cB (h.1 89 0 x1.toNatClampNeg) (h.1 89 0 x3.toNatClampNeg) ∧ (pls (h.1 90 0 x1.toNatClampNeg) x2 x5 ∧ pls (h.1 90 0 x3.toNatClampNeg) x4 x5) ∧ r = (x5, pt (mv h (64 * x1.toNatClampNeg + x2.toNatClampNeg) x5.toNatClampNeg) (64 * x3.toNatClampNeg + x4.toNatClampNeg) x5.toNatClampNeg)) := by
  unfold tp cA cB pls
  have z6 := t6
  have t0 : (0 : Int32).toInt = 0 := by decide
  have b1 : 0 ≤ (h.1 90 0 x1.toNatClampNeg).toInt ∧ (h.1 90 0 x1.toNatClampNeg).toInt ≤ 64 := I 90 0 _
  have b3 : 0 ≤ (h.1 90 0 x3.toNatClampNeg).toInt ∧ (h.1 90 0 x3.toNatClampNeg).toInt ≤ 64 := I 90 0 _
  unfold f_X12_copy f_X12_refuse at e
  rw [d_isTape, Option.bind_some] at e
  dsimp only at e
  by_cases q1 : 0 ≤ x1.toInt ∧ x1.toInt < (6 : Int32).toInt
  rotate_left
  · rw [if_pos (b2i_n q1)] at e
    exact Or.inl ⟨by omega, (Option.some.inj e).symm⟩
  rw [if_neg (b2i_p q1), d_isTape, Option.bind_some] at e
  dsimp only at e
  by_cases q2 : 0 ≤ x3.toInt ∧ x3.toInt < (6 : Int32).toInt
  rotate_left
  · rw [if_pos (b2i_n q2)] at e
    exact Or.inl ⟨by omega, (Option.some.inj e).symm⟩
  rw [if_neg (b2i_p q2), if_pos (mIn_bd (by omega) (by omega))] at e
  by_cases q3 : h.1 89 0 x1.toNatClampNeg = 0
  · rw [if_pos q3, Option.bind_some] at e
    exact Or.inr (Or.inl ⟨by omega, Or.inl q3, (Option.some.inj e).symm⟩)
  rw [if_neg q3, if_pos (mIn_bd (by omega) (by omega))] at e
  by_cases q4 : h.1 89 0 x3.toNatClampNeg = 0
  · rw [if_pos q4, Option.bind_some] at e
    exact Or.inr (Or.inl ⟨by omega, Or.inr q4, (Option.some.inj e).symm⟩)
  rw [if_neg q4] at e
  have nA : ¬ (h.1 89 0 x1.toNatClampNeg = 0 ∨ h.1 89 0 x3.toNatClampNeg = 0) := fun z => z.elim q3 q4
  by_cases q5 : h.1 89 0 x1.toNatClampNeg = 5
  · rw [if_pos q5, Option.bind_some] at e
    exact Or.inr (Or.inr (Or.inl ⟨by omega, nA, Or.inl q5, (Option.some.inj e).symm⟩))
  rw [if_neg q5] at e
  by_cases q6 : h.1 89 0 x1.toNatClampNeg = h.1 89 0 x3.toNatClampNeg
  rotate_left
  · rw [if_neg q6, Option.bind_some] at e
    exact Or.inr (Or.inr (Or.inl ⟨by omega, nA, Or.inr q6, (Option.some.inj e).symm⟩))
  have nB : ¬ (h.1 89 0 x1.toNatClampNeg = 5 ∨ ¬ h.1 89 0 x1.toNatClampNeg = h.1 89 0 x3.toNatClampNeg) := fun z => z.elim q5 (fun y => y q6)
  rw [if_pos q6] at e
  by_cases q7 : x5 < 0
  · have z7 := Int32.lt_iff_toInt_lt.mp q7
    rw [if_pos q7, Option.bind_some] at e
    exact Or.inr (Or.inr (Or.inr (Or.inl ⟨by omega, nA, nB, by omega, (Option.some.inj e).symm⟩)))
  have z7 := Int32.le_iff_toInt_le.mp (Int32.not_lt.mp q7)
  rw [if_neg q7] at e
  by_cases q8 : x2 < 0
  · have z8 := Int32.lt_iff_toInt_lt.mp q8
    rw [if_pos q8, Option.bind_some] at e
    exact Or.inr (Or.inr (Or.inr (Or.inl ⟨by omega, nA, nB, by omega, (Option.some.inj e).symm⟩)))
  have z8 := Int32.le_iff_toInt_le.mp (Int32.not_lt.mp q8)
  rw [if_neg q8] at e
  by_cases q9 : x4 < 0
  · have z9 := Int32.lt_iff_toInt_lt.mp q9
    rw [if_pos q9, Option.bind_some] at e
    exact Or.inr (Or.inr (Or.inr (Or.inl ⟨by omega, nA, nB, by omega, (Option.some.inj e).symm⟩)))
  have z9 := Int32.le_iff_toInt_le.mp (Int32.not_lt.mp q9)
  rw [if_neg q9] at e
  have h2 := i32_hi x2
  have h4 := i32_hi x4
  have s1 : (h.1 90 0 x1.toNatClampNeg - x2).toInt = (h.1 90 0 x1.toNatClampNeg).toInt - x2.toInt := ti_sub (by omega) (by omega)
  have s3 : (h.1 90 0 x3.toNatClampNeg - x4).toInt = (h.1 90 0 x3.toNatClampNeg).toInt - x4.toInt := ti_sub (by omega) (by omega)
  by_cases qa : x5 ≤ h.1 90 0 x1.toNatClampNeg - x2
  rotate_left
  · have za := Int32.lt_iff_toInt_lt.mp (Int32.not_le.mp qa)
    rw [if_neg qa, Option.bind_some] at e
    exact Or.inr (Or.inr (Or.inr (Or.inl ⟨by omega, nA, nB, by omega, (Option.some.inj e).symm⟩)))
  have za := Int32.le_iff_toInt_le.mp qa
  rw [if_pos qa] at e
  by_cases qb : x5 ≤ h.1 90 0 x3.toNatClampNeg - x4
  rotate_left
  · have zb := Int32.lt_iff_toInt_lt.mp (Int32.not_le.mp qb)
    rw [if_neg qb, Option.bind_some] at e
    exact Or.inr (Or.inr (Or.inr (Or.inl ⟨by omega, nA, nB, by omega, (Option.some.inj e).symm⟩)))
  have zb := Int32.le_iff_toInt_le.mp qb
  rw [if_pos qb] at e
  have c1 := cl_int (x := x1) (by omega)
  have c2 := cl_int (x := x2) (by omega)
  have c3 := cl_int (x := x3) (by omega)
  have c4 := cl_int (x := x4) (by omega)
  have c5 := cl_int (x := x5) (by omega)
  rw [← mv_0 h (64 * x1.toNatClampNeg + x2.toNatClampNeg)] at e
  obtain ⟨v, e⟩ := copy_mv (by omega) (by omega) (by omega) c1 c2 c5 h _ mFu 0 0 r (by decide) (by omega) e
  rw [← pt_0 (mv h (64 * x1.toNatClampNeg + x2.toNatClampNeg) x5.toNatClampNeg) (64 * x3.toNatClampNeg + x4.toNatClampNeg)] at e
  have f := copy_pt (by omega) (by omega) (by omega) c3 c4 c5 _ mFu 0 0 r (by decide) (by omega) e
  exact Or.inr (Or.inr (Or.inr (Or.inr ⟨by omega, nA, nB, by omega, f⟩)))
theorem fz.l {fp : Nat → Bool} {h g : mH} (e1 : g.1 = h.1) (e2 : ∀ t i k, t ≠ 42 → t ≠ 91 → t ≠ 96 → g.2 t i k = h.2 t i k) (f1 : fp 2688 = false) (f2 : fp 5824 = false) (f3 : fp 6144 = false) : fz fp h g := by
  intro t i k z
  have n42 : t ≠ 42 := fun y => by rw [y, show ky 42 i k = 2688 from rfl, f1] at z; cases z
  have n91 : t ≠ 91 := fun y => by rw [y, show ky 91 i k = 5824 from rfl, f2] at z; cases z
  have n96 : t ≠ 96 := fun y => by rw [y, show ky 96 i k = 6144 from rfl, f3] at z; cases z
  exact ⟨by rw [e1], e2 t i k n42 n91 n96⟩
theorem K_copy (x1 x2 x3 x4 x5 : Int32) {h : mH} (j : JR h) : ∃ r r', f_X11_copy x1 x2 x3 x4 x5 h = some r ∧ f_X12_copy x1 x2 x3 x4 x5 r.2 = some r' ∧ r.1 = r'.1 ∧ JR r'.2 := by
  obtain ⟨I, C, R⟩ := j
  obtain ⟨r, e1, S1⟩ := z_X11_copy x1 x2 x3 x4 x5 h (SI.an fpM I C) (by decide)
  obtain ⟨r', e2, S2⟩ := z_X12_copy x1 x2 x3 x4 x5 r.2 (SI.an fp0 S1.1 S1.2.1) (fun _ _ => rfl)
  refine al_mk (c := fun g => f_X11_copy x1 x2 x3 x4 x5 g) (m := fun g => f_X12_copy x1 x2 x3 x4 x5 g) e1 e2 S2 ?_
  have M := S1.2.2.1
  have k : ∀ d, r.2.1 89 0 d = h.1 9 d 0 := fun d => (M 89 0 d rfl).1.trans (R.2.2.2.2.1 d).symm
  have sz : ∀ d, ¬ h.1 9 d 0 = 0 → ¬ h.1 9 d 0 = 5 → r.2.1 90 0 d = h.1 9 d 1 := fun d a b => (M 90 0 d rfl).1.trans (R.2.2.2.2.2.1 d a b).symm
  have D := d_copy S1.1 e2
  rw [k, k] at D
  have pq : ¬ cA (h.1 9 x1.toNatClampNeg 0) (h.1 9 x3.toNatClampNeg 0) → ¬ cB (h.1 9 x1.toNatClampNeg 0) (h.1 9 x3.toNatClampNeg 0) → r.2.1 90 0 x1.toNatClampNeg = h.1 9 x1.toNatClampNeg 1 ∧ r.2.1 90 0 x3.toNatClampNeg = h.1 9 x3.toNatClampNeg 1 := by
    intro a b
    have b1 : ¬ h.1 9 x1.toNatClampNeg 0 = 5 := fun z => b (Or.inl z)
    have b2 : h.1 9 x1.toNatClampNeg 0 = h.1 9 x3.toNatClampNeg 0 := Classical.byContradiction (fun z => b (Or.inr z))
    exact ⟨sz _ (fun z => a (Or.inl z)) b1, sz _ (fun z => a (Or.inr z)) (by rw [← b2]; exact b1)⟩
  rcases c_copy I e1 with ⟨g, e⟩ | ⟨g, q, e⟩ | ⟨g, q, p, e⟩ | ⟨g, q, p, o, e⟩ | ⟨g, q, p, o, e⟩ <;> rcases D with ⟨g', e'⟩ | ⟨g', q', e'⟩ | ⟨g', q', p', e'⟩ | ⟨g', q', p', o', e'⟩ | ⟨g', q', p', o', e'⟩ <;> first | exact absurd g' g | exact absurd g g' | exact absurd q' q | exact absurd q q' | exact absurd p' p | exact absurd p p' | exact ref_mk R e e' | exact ref_mk2 R e e' | skip
  · rw [(pq q p).1, (pq q p).2] at o'
    exact absurd o' o
  · rw [(pq q p).1, (pq q p).2] at o'
    exact absurd o o'
  rw [e', e]
  have c2 := cl_int (x := x2) o.1.2.1
  have c4 := cl_int (x := x4) o.2.2.1
  have c5 := cl_int (x := x5) o.1.1
  have b1 : 0 ≤ (h.1 9 x1.toNatClampNeg 1).toInt ∧ (h.1 9 x1.toNatClampNeg 1).toInt ≤ 64 := I 9 _ 1
  have b3 : 0 ≤ (h.1 9 x3.toNatClampNeg 1).toInt ∧ (h.1 9 x3.toNatClampNeg 1).toInt ≤ 64 := I 9 _ 1
  have o1 := o.1.2.2
  have o3 := o.2.2.2
  generalize x1.toNatClampNeg = d at *
  generalize x3.toNatClampNeg = u at *
  generalize x2.toNatClampNeg = i at *
  generalize x4.toNatClampNeg = w at *
  generalize x5.toNatClampNeg = N at *
  have L : ∀ (fp : Nat → Bool), fp 2688 = false → fp 5824 = false → fp 6144 = false → fz fp h (pt (mv (cpJ h 42 d 42 u i w N) (64 * d + i) N) (64 * u + w) N) := by
    intro fp f1 f2 f3
    refine fz.l rfl (fun t a k n1 n2 n3 => ?_) f1 f2 f3
    refine (if_neg (fun z => n2 z.1)).trans ((if_neg (fun z => n3 z.1)).trans (if_neg (fun z => n1 z.1)))
  refine ⟨rfl, R.1.to (L _ rfl rfl rfl), R.2.1.to (L _ rfl rfl rfl), R.2.2.1.to (L _ rfl rfl rfl), R.2.2.2.1.to (L _ rfl rfl rfl), R.2.2.2.2.1, R.2.2.2.2.2.1, fun e k hk => ?_⟩
  have T := R.2.2.2.2.2.2
  show (pt (mv (cpJ h 42 d 42 u i w N) (64 * d + i) N) (64 * u + w) N).2 42 e k = (pt (mv (cpJ h 42 d 42 u i w N) (64 * d + i) N) (64 * u + w) N).2 91 0 (64 * e + k)
  have L1 : (pt (mv (cpJ h 42 d 42 u i w N) (64 * d + i) N) (64 * u + w) N).2 42 e k = if e = u ∧ w ≤ k ∧ k < w + N then h.2 42 d (i + (k - w)) else h.2 42 e k := by
    rw [pt_r, if_neg (by omega), mv_r, if_neg (by omega), cpJ_r]
    show (if 42 = 42 ∧ e = u ∧ w ≤ k ∧ k < w + N then h.2 42 d (i + (k - w)) else h.2 42 e k) = _
    by_cases q9 : e = u ∧ w ≤ k ∧ k < w + N
    · rw [if_pos ⟨rfl, q9⟩, if_pos q9]
    · rw [if_neg (fun z => q9 z.2), if_neg q9]
  have L2 : (pt (mv (cpJ h 42 d 42 u i w N) (64 * d + i) N) (64 * u + w) N).2 91 0 (64 * e + k) = if e = u ∧ w ≤ k ∧ k < w + N then h.2 91 0 (64 * d + (i + (k - w))) else h.2 91 0 (64 * e + k) := by
    by_cases q9 : e = u ∧ w ≤ k ∧ k < w + N
    · rw [if_pos q9]
      rw [pt_r, if_pos (by omega), mv_r, if_pos (by omega), cpJ_r, if_neg (by omega), show 64 * d + i + (64 * e + k - (64 * u + w)) = 64 * d + (i + (k - w)) by omega]
    · rw [if_neg q9]
      rw [pt_r, if_neg (by omega), mv_91, cpJ_r, if_neg (by omega)]
  rw [L1, L2]
  by_cases q9 : e = u ∧ w ≤ k ∧ k < w + N
  · rw [if_pos q9, if_pos q9]
    exact T d _ (by omega)
  · rw [if_neg q9, if_neg q9]
    exact T e k hk
