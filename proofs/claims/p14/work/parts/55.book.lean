/-! ===== the book's calls: class beside reference ===== -/
theorem b2i_n {P : Prop} [Decidable P] (h : ¬ P) : b2i (decide P) = 0 := by rw [decide_eq_false h]; rfl
theorem b2i_p {P : Prop} [Decidable P] (h : P) : ¬ b2i (decide P) = 0 := by rw [decide_eq_true h]; decide
theorem d_rng {x n : Int32} {h : mH} : (if x < 0 then some ((0 : Int32), h) else if x < n then some (1, h) else some (0, h)) = some (b2i (decide (0 ≤ x.toInt ∧ x.toInt < n.toInt)), h) := by
  have t0 : (0 : Int32).toInt = 0 := by decide
  by_cases q0 : x < 0
  · have z := Int32.lt_iff_toInt_lt.mp q0
    rw [if_pos q0, decide_eq_false (by omega)]
    rfl
  · have z := Int32.le_iff_toInt_le.mp (Int32.not_lt.mp q0)
    rw [if_neg q0]
    by_cases q1 : x < n
    · have z1 := Int32.lt_iff_toInt_lt.mp q1
      rw [if_pos q1, decide_eq_true (by omega)]
      rfl
    · have z1 := Int32.le_iff_toInt_le.mp (Int32.not_lt.mp q1)
      rw [if_neg q1, decide_eq_false (by omega)]
      rfl
theorem c_hasField (x : Int32) (h : mH) : f_X1_hasField x h = some (b2i (decide (0 ≤ x.toInt ∧ x.toInt < (h.1 1 0 4).toInt)), h) := d_rng
theorem c_hasRegister (x : Int32) (h : mH) : f_X1_hasRegister x h = some (b2i (decide (0 ≤ x.toInt ∧ x.toInt < (h.1 1 0 3).toInt)), h) := d_rng
theorem c_hasAct (x : Int32) (h : mH) : f_X1_hasAct x h = some (b2i (decide (0 ≤ x.toInt ∧ x.toInt < (h.1 1 0 6).toInt)), h) := d_rng
theorem c_fits (x w : Int32) (h : mH) : f_X11_fits x w h = some (b2i (decide (0 ≤ x.toInt ∧ x.toInt < (1 <<< (w &&& 31) : Int32).toInt)), h) := d_rng
theorem d_in (x a b : Int32) (h : mH) : f_X12_in x a b h = some (b2i (decide (a.toInt ≤ x.toInt ∧ x.toInt ≤ b.toInt)), h) := by
  rw [e_in]
  by_cases q0 : x < a
  · have z := Int32.lt_iff_toInt_lt.mp q0
    rw [if_pos q0, decide_eq_false (by omega)]
    rfl
  · have z := Int32.le_iff_toInt_le.mp (Int32.not_lt.mp q0)
    rw [if_neg q0]
    by_cases q1 : x ≤ b
    · have z1 := Int32.le_iff_toInt_le.mp q1
      rw [if_pos q1, decide_eq_true (by omega)]
      rfl
    · have z1 := Int32.lt_iff_toInt_lt.mp (Int32.not_le.mp q1)
      rw [if_neg q1, decide_eq_false (by omega)]
      rfl
theorem d_upto {x n : Int32} {h : mH} (h0 : 0 ≤ n.toInt) : ((f_X12_in x 0 (n - 1) h).bind fun r1 => if (r1.1 = 0 ∨ r1.1 = 1) then some (r1.1, r1.2) else none) = some (b2i (decide (0 ≤ x.toInt ∧ x.toInt < n.toInt)), h) := by
  rw [d_in, Option.bind_some]
  dsimp only
  rw [if_pos (b2i_01 _)]
  have t0 : (0 : Int32).toInt = 0 := by decide
  have t1 : (1 : Int32).toInt = 1 := by decide
  have a := i32_hi n
  have e1 : (n - 1).toInt = n.toInt - (1 : Int32).toInt := ti_sub (by omega) (by omega)
  have : decide ((0 : Int32).toInt ≤ x.toInt ∧ x.toInt ≤ (n - 1).toInt) = decide (0 ≤ x.toInt ∧ x.toInt < n.toInt) := decide_eq_decide.mpr (by omega)
  rw [this]
theorem d_isField {h : mH} (i : IR h) (x : Int32) : f_X12_isField x h = some (b2i (decide (0 ≤ x.toInt ∧ x.toInt < (h.1 12 0 2).toInt)), h) := d_upto (i 12 0 2).1
theorem d_isAct {h : mH} (i : IR h) (x : Int32) : f_X12_isAct x h = some (b2i (decide (0 ≤ x.toInt ∧ x.toInt < (h.1 12 0 16).toInt)), h) := d_upto (i 12 0 16).1
theorem d_isRegister {h : mH} (i : IR h) (x : Int32) : f_X12_isRegister x h = some (b2i (decide (0 ≤ x.toInt ∧ x.toInt < (h.1 12 0 1).toInt)), h) := d_upto (Int.le_trans (by decide) (i 12 0 1).1)
theorem c_isTape (x : Int32) (h : mH) : f_X11_isTape x h = some (b2i (decide (0 ≤ x.toInt ∧ x.toInt < (6 : Int32).toInt)), h) := d_rng
theorem d_isTape (x : Int32) (h : mH) : f_X12_isTape x h = some (b2i (decide (0 ≤ x.toInt ∧ x.toInt < (6 : Int32).toInt)), h) := d_upto (n := 6) (by decide)
theorem c_pow {a r : mH} (I : IR a) (C : CCs a) (e : f_X2_powerUp a = some r) : fz fpK a r := by
  obtain ⟨r0, e0, S⟩ := z_X2_powerUp a (SI.an fpK I C) (by decide)
  rw [e] at e0
  cases e0
  exact S.2.2.1
theorem d_chg {a r : mH} (I : IR a) (C : CCs a) (e : f_X12_changed a = some r) : fz fpK a r := by
  obtain ⟨r0, e0, S⟩ := z_X12_changed a (SI.an fpK I C) (by decide)
  rw [e] at e0
  cases e0
  exact S.2.2.1
theorem uI_1 (h : mH) (t i k : Nat) (x : Int32) (t' i' k' : Nat) : (uI h t i k x).1 t' i' k' = if t' = t ∧ i' = i ∧ k' = k then x else h.1 t' i' k' := rfl
theorem uI_2 (h : mH) (t i k : Nat) (x : Int32) : (uI h t i k x).2 = h.2 := rfl
theorem uJ_1 (h : mH) (t i k : Nat) (x : Int64) : (uJ h t i k x).1 = h.1 := rfl
theorem uJ_2 (h : mH) (t i k : Nat) (x : Int64) (t' i' k' : Nat) : (uJ h t i k x).2 t' i' k' = if t' = t ∧ i' = i ∧ k' = k then x else h.2 t' i' k' := rfl
theorem al_mk {c : mH → Option (Int32 × mH)} {m : mH → Option (Int32 × mH)} {h : mH} {r r' : Int32 × mH} {fp : Nat → Bool} {b : mH} {B : Nat} (e1 : c h = some r) (e2 : m r.2 = some r') (S : SI fp b B r'.2) (q : r.1 = r'.1 ∧ RR r'.2) : ∃ r r', c h = some r ∧ m r.2 = some r' ∧ r.1 = r'.1 ∧ JR r'.2 := ⟨r, r', e1, e2, q.1, S.1, S.2.1, q.2⟩
theorem ref_mk {r r' : Int32 × mH} {h : mH} {v : Int32} (R : RR h) (e : r = (v, h)) (e' : r' = (v, r.2)) : r.1 = r'.1 ∧ RR r'.2 := by
  rw [e', e]
  exact ⟨rfl, R⟩
def begC (h : mH) (x : Int32) : mH := uI (uI (uI (uI (uI h 1 0 3 x) 1 0 4 0) 1 0 5 0) 1 0 6 0) 1 0 7 1
def begM (h : mH) (x : Int32) : mH := uI (uI (uI (uI (uI h 12 0 1 x) 12 0 2 0) 12 0 11 0) 12 0 16 0) 12 0 22 1
theorem c_begin {x : Int32} {h : mH} {r : Int32 × mH} (I : IR h) (C : CCs h) (e : f_X11_begin x h = some r) : (¬ (1 ≤ x.toInt ∧ x.toInt ≤ 8) ∧ r = (-1, h)) ∨ ((1 ≤ x.toInt ∧ x.toInt ≤ 8) ∧ r.1 = x ∧ fz fpK (begC h x) r.2) := by
  have t1 : (1 : Int32).toInt = 1 := by decide
  have t8 : (8 : Int32).toInt = 8 := by decide
  unfold f_X11_begin at e
  by_cases q1 : x < 1
  · rw [if_pos q1] at e
    have zq1 := Int32.lt_iff_toInt_lt.mp q1
    exact Or.inl ⟨by omega, (Option.some.inj e).symm⟩
  rw [if_neg q1] at e
  have gq1 := Int32.le_iff_toInt_le.mp (Int32.not_lt.mp q1)
  by_cases q2 : x ≤ 8
  rotate_left
  · rw [if_neg q2] at e
    have zq2 := Int32.lt_iff_toInt_lt.mp (Int32.not_le.mp q2)
    exact Or.inl ⟨by omega, (Option.some.inj e).symm⟩
  rw [if_pos q2] at e
  have gq2 := Int32.le_iff_toInt_le.mp q2
  obtain ⟨r3, e3, e⟩ := Option.bind_eq_some_iff.mp e
  obtain ⟨r4, e4, e⟩ := Option.bind_eq_some_iff.mp e
  obtain ⟨r5, e5, e⟩ := Option.bind_eq_some_iff.mp e
  cases e
  refine Or.inr ⟨by omega, rfl, ?_⟩
  obtain ⟨r3', e3', S3⟩ := z_X1_startAnew x h (SI.an fp0 I C) (fun _ _ => rfl) (by omega)
  rw [e3] at e3'
  cases e3'
  obtain ⟨r4', e4', S4⟩ := z_X10_forget r3 (SI.an fpK S3.1 S3.2.1) (by decide)
  rw [e4] at e4'
  cases e4'
  have S5 : SI fpK r3 0 (uI r4 11 0 6 0) := S4.f rfl rfl rfl
  have f5 := c_pow S5.1 S5.2.1 e5
  have f3 : fz fpK (begC h x) r3 := by
    unfold f_X1_startAnew mLet at e3
    cases e3
    unfold begC
    refine fz.u ?_ rfl
    refine fz.u ?_ rfl
    exact fz.rf
  exact f3.tr (S5.2.2.1.tr f5)
theorem d_begin {x : Int32} {h : mH} {r : Int32 × mH} (I : IR h) (C : CCs h) (e : f_X12_begin x h = some r) : (¬ (1 ≤ x.toInt ∧ x.toInt ≤ 8) ∧ r = (-1, h)) ∨ ((1 ≤ x.toInt ∧ x.toInt ≤ 8) ∧ r.1 = x ∧ fz fpK (begM h x) r.2) := by
  have t0 : (0 : Int32).toInt = 0 := by decide
  have t1 : (1 : Int32).toInt = 1 := by decide
  have t8 : (8 : Int32).toInt = 8 := by decide
  unfold f_X12_begin at e
  rw [d_in, Option.bind_some] at e
  dsimp only at e
  by_cases q1 : (1 : Int32).toInt ≤ x.toInt ∧ x.toInt ≤ (8 : Int32).toInt
  rotate_left
  · rw [if_pos (b2i_n q1)] at e
    exact Or.inl ⟨by omega, (Option.some.inj e).symm⟩
  rw [if_neg (b2i_p q1)] at e
  unfold mLet at e
  obtain ⟨r9, e9, e⟩ := Option.bind_eq_some_iff.mp e
  cases e
  refine Or.inr ⟨by omega, rfl, ?_⟩
  have S0 : SI fp0 h 0 h := SI.an fp0 I C
  have S1 : SI fp0 h 0 (uI h 12 0 1 x) := S0.u rfl rfl ⟨by show (1 : Int) ≤ x.toInt; omega, by show x.toInt ≤ 8; omega⟩
  have S2 : SI fp0 h 0 (uI (uI h 12 0 1 x) 12 0 2 0) := S1.u rfl rfl (by decide)
  have S3 : SI fp0 h 0 (uI (uI (uI h 12 0 1 x) 12 0 2 0) 12 0 11 0) := S2.u rfl rfl (by decide)
  have S4 : SI fp0 h 0 (uI (uI (uI (uI h 12 0 1 x) 12 0 2 0) 12 0 11 0) 12 0 16 0) := S3.u rfl rfl (by decide)
  have S5 : SI fp0 h 0 (uI (uI (uI (uI (uI h 12 0 1 x) 12 0 2 0) 12 0 11 0) 12 0 16 0) 12 0 22 1) := S4.f rfl rfl rfl
  have S6 := SI.f (t := 12) (i := 0) (k := 62) (x := 0) S5 rfl rfl rfl
  have S7 := SI.f (t := 12) (i := 0) (k := 57) (x := -1) S6 rfl rfl rfl
  refine fz.tr ?_ (d_chg S7.1 S7.2.1 e9)
  unfold begM
  refine fz.u ?_ rfl
  refine fz.u ?_ rfl
  exact fz.rf
theorem K_begin (x1 : Int32) {h : mH} (j : JR h) : ∃ r r', f_X11_begin x1 h = some r ∧ f_X12_begin x1 r.2 = some r' ∧ r.1 = r'.1 ∧ JR r'.2 := by
  obtain ⟨I, C, R⟩ := j
  obtain ⟨r, e1, S1⟩ := z_X11_begin x1 h (SI.an fpM I C) (by decide)
  obtain ⟨r', e2, S2⟩ := z_X12_begin x1 r.2 (SI.an fp0 S1.1 S1.2.1) (fun _ _ => rfl)
  refine al_mk (c := fun g => f_X11_begin x1 g) (m := fun g => f_X12_begin x1 g) e1 e2 S2 ?_
  rcases c_begin I C e1 with ⟨g, e⟩ | ⟨g, v, f⟩ <;> rcases d_begin S1.1 S1.2.1 e2 with ⟨g', e'⟩ | ⟨g', v', f'⟩ <;> first | exact absurd g' g | exact absurd g g' | exact ref_mk R e e' | skip
  refine ⟨v.trans v'.symm, RR.to f' (RR.to (a := begM (begC h x1) x1) (by unfold begM; exact f.c.c.c.c.c) ?_)⟩
  unfold begM begC
  refine ⟨⟨rfl, rfl, rfl, rfl, rfl⟩, R.2.1.to ?_, R.2.2.1.to ?_, R.2.2.2.1.to ?_, R.2.2.2.2.to ?_⟩ <;> (repeat (refine fz.u ?_ rfl)) <;> exact fz.rf
theorem c_locks {x : Int32} {h : mH} {r : Int32 × mH} (e : f_X11_locks x h = some r) : (¬ (0 ≤ x.toInt ∧ x.toInt ≤ 1) ∧ r = (-1, h)) ∨ ((0 ≤ x.toInt ∧ x.toInt ≤ 1) ∧ r = (h.1 1 0 7, uI (uI h 1 0 7 x) 1 0 9 0)) := by
  have t0 : (0 : Int32).toInt = 0 := by decide
  have t1 : (1 : Int32).toInt = 1 := by decide
  unfold f_X11_locks f_X1_changeLocks mLet at e
  by_cases q0 : x = 0
  · rw [if_pos q0, Option.bind_some] at e
    exact Or.inr ⟨by rw [q0]; decide, (Option.some.inj e).symm⟩
  · rw [if_neg q0] at e
    by_cases q1 : x = 1
    · rw [if_pos q1, Option.bind_some] at e
      exact Or.inr ⟨by rw [q1]; decide, (Option.some.inj e).symm⟩
    · rw [if_neg q1] at e
      have z0 := ti_ne q0
      have z1 := ti_ne q1
      exact Or.inl ⟨by omega, (Option.some.inj e).symm⟩
theorem d_locks {x : Int32} {h : mH} {r : Int32 × mH} (e : f_X12_locks x h = some r) : (¬ (0 ≤ x.toInt ∧ x.toInt ≤ 1) ∧ r = (-1, h)) ∨ ((0 ≤ x.toInt ∧ x.toInt ≤ 1) ∧ r = (h.1 12 0 22, uI h 12 0 22 x)) := by
  have t0 : (0 : Int32).toInt = 0 := by decide
  have t1 : (1 : Int32).toInt = 1 := by decide
  unfold f_X12_locks at e
  rw [d_in, Option.bind_some] at e
  dsimp only at e
  by_cases q1 : (0 : Int32).toInt ≤ x.toInt ∧ x.toInt ≤ (1 : Int32).toInt
  rotate_left
  · rw [if_pos (b2i_n q1)] at e
    exact Or.inl ⟨by omega, (Option.some.inj e).symm⟩
  rw [if_neg (b2i_p q1)] at e
  exact Or.inr ⟨by omega, (Option.some.inj e).symm⟩
theorem K_locks (x1 : Int32) {h : mH} (j : JR h) : ∃ r r', f_X11_locks x1 h = some r ∧ f_X12_locks x1 r.2 = some r' ∧ r.1 = r'.1 ∧ JR r'.2 := by
  obtain ⟨I, C, R⟩ := j
  obtain ⟨r, e1, S1⟩ := z_X11_locks x1 h (SI.an fpM I C) (by decide)
  obtain ⟨r', e2, S2⟩ := z_X12_locks x1 r.2 (SI.an fp0 S1.1 S1.2.1) (fun _ _ => rfl)
  refine al_mk (c := fun g => f_X11_locks x1 g) (m := fun g => f_X12_locks x1 g) e1 e2 S2 ?_
  have M := S1.2.2.1
  rcases c_locks e1 with ⟨g, e⟩ | ⟨g, e⟩ <;> rcases d_locks e2 with ⟨g', e'⟩ | ⟨g', e'⟩ <;> first | exact absurd g' g | exact absurd g g' | exact ref_mk R e e' | skip
  have v : r.2.1 12 0 22 = h.1 1 0 7 := (M 12 0 22 rfl).1.trans R.1.2.2.2.2.symm
  rw [e', v, e]
  refine ⟨rfl, ⟨R.1.1, R.1.2.1, R.1.2.2.1, R.1.2.2.2.1, rfl⟩, R.2.1.to ?_, R.2.2.1.to ?_, R.2.2.2.1.to ?_, R.2.2.2.2.to ?_⟩ <;> (repeat (refine fz.u ?_ rfl)) <;> exact fz.rf
theorem c_act {h : mH} {r : Int32 × mH} (e : f_X11_act h = some r) : (¬ (h.1 1 0 6).toInt < 6 ∧ r = (-3, h)) ∨ ((h.1 1 0 6).toInt < 6 ∧ r = (h.1 1 0 6 + 1 - 1, uI (uI (uI h 0 ((h.1 1 0 6).toNatClampNeg) 5 0) 1 0 9 0) 1 0 6 (h.1 1 0 6 + 1))) := by
  have t6 : (6 : Int32).toInt = 6 := by decide
  unfold f_X11_act f_X1_tellAct mLet at e
  by_cases q : (h.1 1 0 6) < 6
  · have z := Int32.lt_iff_toInt_lt.mp q
    rw [if_pos q] at e
    split at e
    · rw [Option.bind_some] at e
      exact Or.inr ⟨by omega, (Option.some.inj e).symm⟩
    · cases e
  · have z := Int32.le_iff_toInt_le.mp (Int32.not_lt.mp q)
    rw [if_neg q] at e
    exact Or.inl ⟨by omega, (Option.some.inj e).symm⟩
theorem d_act {h : mH} {r : Int32 × mH} (I : IR h) (e : f_X12_act h = some r) : (¬ (h.1 12 0 16).toInt < 6 ∧ r = (-3, h)) ∨ ((h.1 12 0 16).toInt < 6 ∧ r = (h.1 12 0 16 + 1 - 1, uI (uI h 58 0 (h.1 12 0 16).toNatClampNeg 0) 12 0 16 (h.1 12 0 16 + 1))) := by
  have t6 : (6 : Int32).toInt = 6 := by decide
  have b : 0 ≤ (h.1 12 0 16).toInt ∧ (h.1 12 0 16).toInt ≤ 6 := I 12 0 16
  unfold f_X12_act mLet at e
  by_cases q : (h.1 12 0 16) = 6
  · rw [if_pos q] at e
    exact Or.inl ⟨by rw [q]; decide, (Option.some.inj e).symm⟩
  · have z := ti_ne q
    rw [if_neg q] at e
    split at e
    · exact Or.inr ⟨by omega, (Option.some.inj e).symm⟩
    · cases e
theorem RP.bare {h : mH} (R : RP h) (a : Nat) : RP (uI (uI h 0 a 5 0) 58 0 a 0) := by
  refine ⟨fun b => ?_, fun b k hk => R.2 b k hk⟩
  simp only [uI_1]
  by_cases q : b = a
  · simp [q]
  · simp [q, R.1 b]
theorem K_act {h : mH} (j : JR h) : ∃ r r', f_X11_act h = some r ∧ f_X12_act r.2 = some r' ∧ r.1 = r'.1 ∧ JR r'.2 := by
  obtain ⟨I, C, R⟩ := j
  obtain ⟨r, e1, S1⟩ := z_X11_act h (SI.an fpM I C) (by decide)
  obtain ⟨r', e2, S2⟩ := z_X12_act r.2 (SI.an fp0 S1.1 S1.2.1) (fun _ _ => rfl)
  refine al_mk (c := fun g => f_X11_act g) (m := fun g => f_X12_act g) e1 e2 S2 ?_
  have M := S1.2.2.1
  have n : r.2.1 12 0 16 = h.1 1 0 6 := (M 12 0 16 rfl).1.trans R.1.2.2.2.1.symm
  have D := d_act S1.1 e2
  rw [n] at D
  rcases c_act e1 with ⟨g, e⟩ | ⟨g, e⟩ <;> rcases D with ⟨g', e'⟩ | ⟨g', e'⟩ <;> first | exact absurd g' g | exact absurd g g' | exact ref_mk R e e' | skip
  rw [e', e]
  refine ⟨rfl, ⟨R.1.1, R.1.2.1, R.1.2.2.1, rfl, R.1.2.2.2.2⟩, R.2.1.to ?_, R.2.2.1.to ?_, (R.2.2.2.1.bare (h.1 1 0 6).toNatClampNeg).to ?_, R.2.2.2.2.to ?_⟩
  · (repeat (refine fz.u ?_ rfl)) <;> exact fz.rf
  · (repeat (refine fz.u ?_ rfl)) <;> exact fz.rf
  · refine fz.u (fz.c ?_) rfl
    (repeat (refine fz.u ?_ rfl)) <;> exact fz.rf
  · (repeat (refine fz.u ?_ rfl)) <;> exact fz.rf
theorem c_bare {x : Int32} {h : mH} {r : Int32 × mH} (e : f_X11_bare x h = some r) : (¬ (0 ≤ x.toInt ∧ x.toInt < (h.1 1 0 6).toInt) ∧ r = (-1, h)) ∨ ((0 ≤ x.toInt ∧ x.toInt < (h.1 1 0 6).toInt) ∧ r = (h.1 0 x.toNatClampNeg 5, uI (uI h 0 x.toNatClampNeg 5 0) 1 0 9 0)) := by
  unfold f_X11_bare f_X1_dropSteps mLet at e
  rw [c_hasAct, Option.bind_some] at e
  dsimp only at e
  by_cases q1 : 0 ≤ x.toInt ∧ x.toInt < (h.1 1 0 6).toInt
  rotate_left
  · rw [if_pos (b2i_n q1)] at e
    exact Or.inl ⟨by omega, (Option.some.inj e).symm⟩
  rw [if_neg (b2i_p q1)] at e
  split at e
  · rw [Option.bind_some] at e
    exact Or.inr ⟨by omega, (Option.some.inj e).symm⟩
  · cases e
theorem d_bare {x : Int32} {h : mH} {r : Int32 × mH} (I : IR h) (e : f_X12_bare x h = some r) : (¬ (0 ≤ x.toInt ∧ x.toInt < (h.1 12 0 16).toInt) ∧ r = (-1, h)) ∨ ((0 ≤ x.toInt ∧ x.toInt < (h.1 12 0 16).toInt) ∧ r = (h.1 58 0 x.toNatClampNeg, uI h 58 0 x.toNatClampNeg 0)) := by
  unfold f_X12_bare at e
  rw [d_isAct I, Option.bind_some] at e
  dsimp only at e
  by_cases q1 : 0 ≤ x.toInt ∧ x.toInt < (h.1 12 0 16).toInt
  rotate_left
  · rw [if_pos (b2i_n q1)] at e
    exact Or.inl ⟨by omega, (Option.some.inj e).symm⟩
  rw [if_neg (b2i_p q1)] at e
  split at e
  · exact Or.inr ⟨by omega, (Option.some.inj e).symm⟩
  · cases e
theorem K_bare (x1 : Int32) {h : mH} (j : JR h) : ∃ r r', f_X11_bare x1 h = some r ∧ f_X12_bare x1 r.2 = some r' ∧ r.1 = r'.1 ∧ JR r'.2 := by
  obtain ⟨I, C, R⟩ := j
  obtain ⟨r, e1, S1⟩ := z_X11_bare x1 h (SI.an fpM I C) (by decide)
  obtain ⟨r', e2, S2⟩ := z_X12_bare x1 r.2 (SI.an fp0 S1.1 S1.2.1) (fun _ _ => rfl)
  refine al_mk (c := fun g => f_X11_bare x1 g) (m := fun g => f_X12_bare x1 g) e1 e2 S2 ?_
  have M := S1.2.2.1
  have n : r.2.1 12 0 16 = h.1 1 0 6 := (M 12 0 16 rfl).1.trans R.1.2.2.2.1.symm
  have k : r.2.1 58 0 x1.toNatClampNeg = h.1 0 x1.toNatClampNeg 5 := (M 58 0 _ rfl).1.trans (R.2.2.2.1.1 _).symm
  have D := d_bare S1.1 e2
  rw [n, k] at D
  rcases c_bare e1 with ⟨g, e⟩ | ⟨g, e⟩ <;> rcases D with ⟨g', e'⟩ | ⟨g', e'⟩ <;> first | exact absurd g' g | exact absurd g g' | exact ref_mk R e e' | skip
  rw [e', e]
  refine ⟨rfl, R.1.to ?_, R.2.1.to ?_, R.2.2.1.to ?_, (R.2.2.2.1.bare x1.toNatClampNeg).to ?_, R.2.2.2.2.to ?_⟩
  · (repeat (refine fz.u ?_ rfl)) <;> exact fz.rf
  · (repeat (refine fz.u ?_ rfl)) <;> exact fz.rf
  · (repeat (refine fz.u ?_ rfl)) <;> exact fz.rf
  · refine fz.c ?_
    (repeat (refine fz.u ?_ rfl)) <;> exact fz.rf
  · (repeat (refine fz.u ?_ rfl)) <;> exact fz.rf
def gLaw (N : Int) (x1 x2 x3 x4 : Int32) : Prop := ((0 ≤ x1.toInt ∧ x1.toInt ≤ 2) ∧ (0 ≤ x2.toInt ∧ x2.toInt < N) ∧ (0 ≤ x3.toInt ∧ x3.toInt < N) ∧ 0 ≤ x4.toInt ∧ x4.toInt ≤ 255)
theorem c_law {x1 x2 x3 x4 : Int32} {h : mH} {r : Int32 × mH} (e : f_X11_law x1 x2 x3 x4 h = some r) : (¬ gLaw (h.1 1 0 4).toInt x1 x2 x3 x4 ∧ r = (-1, h)) ∨ (gLaw (h.1 1 0 4).toInt x1 x2 x3 x4 ∧ ¬ (h.1 1 0 5).toInt < 12 ∧ r = (-3, h)) ∨ (gLaw (h.1 1 0 4).toInt x1 x2 x3 x4 ∧ (h.1 1 0 5).toInt < 12 ∧ r = (h.1 1 0 5 + 1 - 1, uI (uI (uI (uI (uI (uI h 7 ((h.1 1 0 5).toNatClampNeg) 0 x1) 7 ((h.1 1 0 5).toNatClampNeg) 1 x2) 7 ((h.1 1 0 5).toNatClampNeg) 2 x3) 7 ((h.1 1 0 5).toNatClampNeg) 3 x4) 1 0 9 0) 1 0 5 (h.1 1 0 5 + 1))) := by
  unfold gLaw
  have t0 : (0 : Int32).toInt = 0 := by decide
  have t2 : (2 : Int32).toInt = 2 := by decide
  have t12 : (12 : Int32).toInt = 12 := by decide
  have t255 : (255 : Int32).toInt = 255 := by decide
  unfold f_X11_law f_X1_tellLaw mLet at e
  by_cases q1 : x1 < 0
  · rw [if_pos q1] at e
    have zq1 := Int32.lt_iff_toInt_lt.mp q1
    exact Or.inl ⟨by omega, (Option.some.inj e).symm⟩
  rw [if_neg q1] at e
  have gq1 := Int32.le_iff_toInt_le.mp (Int32.not_lt.mp q1)
  by_cases q2 : x1 ≤ 2
  rotate_left
  · rw [if_neg q2] at e
    have zq2 := Int32.lt_iff_toInt_lt.mp (Int32.not_le.mp q2)
    exact Or.inl ⟨by omega, (Option.some.inj e).symm⟩
  rw [if_pos q2] at e
  have gq2 := Int32.le_iff_toInt_le.mp q2
  rw [c_hasField, Option.bind_some] at e
  dsimp only at e
  by_cases q3 : 0 ≤ x2.toInt ∧ x2.toInt < (h.1 1 0 4).toInt
  rotate_left
  · rw [if_pos (b2i_n q3)] at e
    exact Or.inl ⟨by omega, (Option.some.inj e).symm⟩
  rw [if_neg (b2i_p q3)] at e
  rw [c_hasField, Option.bind_some] at e
  dsimp only at e
  by_cases q4 : 0 ≤ x3.toInt ∧ x3.toInt < (h.1 1 0 4).toInt
  rotate_left
  · rw [if_pos (b2i_n q4)] at e
    exact Or.inl ⟨by omega, (Option.some.inj e).symm⟩
  rw [if_neg (b2i_p q4)] at e
  by_cases q5 : x4 < 0
  · rw [if_pos q5] at e
    have zq5 := Int32.lt_iff_toInt_lt.mp q5
    exact Or.inl ⟨by omega, (Option.some.inj e).symm⟩
  rw [if_neg q5] at e
  have gq5 := Int32.le_iff_toInt_le.mp (Int32.not_lt.mp q5)
  by_cases q6 : x4 ≤ 255
  rotate_left
  · rw [if_neg q6] at e
    have zq6 := Int32.lt_iff_toInt_lt.mp (Int32.not_le.mp q6)
    exact Or.inl ⟨by omega, (Option.some.inj e).symm⟩
  rw [if_pos q6] at e
  have gq6 := Int32.le_iff_toInt_le.mp q6
  by_cases q7 : (h.1 1 0 5) < 12
  · have z7 := Int32.lt_iff_toInt_lt.mp q7
    rw [if_pos q7] at e
    split at e
    · rw [Option.bind_some] at e
      exact Or.inr (Or.inr ⟨by omega, by omega, (Option.some.inj e).symm⟩)
    · cases e
  · have z7 := Int32.le_iff_toInt_le.mp (Int32.not_lt.mp q7)
    rw [if_neg q7] at e
    exact Or.inr (Or.inl ⟨by omega, by omega, (Option.some.inj e).symm⟩)
theorem d_law {x1 x2 x3 x4 : Int32} {h : mH} {r : Int32 × mH} (I : IR h) (e : f_X12_law x1 x2 x3 x4 h = some r) : (¬ gLaw (h.1 12 0 2).toInt x1 x2 x3 x4 ∧ r = (-1, h)) ∨ (gLaw (h.1 12 0 2).toInt x1 x2 x3 x4 ∧ ¬ (h.1 12 0 11).toInt < 12 ∧ r = (-3, h)) ∨ (gLaw (h.1 12 0 2).toInt x1 x2 x3 x4 ∧ (h.1 12 0 11).toInt < 12 ∧ r = (h.1 12 0 11 + 1 - 1, uI (uI (uI (uI (uI h 54 0 (h.1 12 0 11).toNatClampNeg x1) 55 0 (h.1 12 0 11).toNatClampNeg x2) 56 0 (h.1 12 0 11).toNatClampNeg x3) 57 0 (h.1 12 0 11).toNatClampNeg x4) 12 0 11 (h.1 12 0 11 + 1))) := by
  unfold gLaw
  have t0 : (0 : Int32).toInt = 0 := by decide
  have t2 : (2 : Int32).toInt = 2 := by decide
  have t12 : (12 : Int32).toInt = 12 := by decide
  have t255 : (255 : Int32).toInt = 255 := by decide
  have b : 0 ≤ (h.1 12 0 11).toInt ∧ (h.1 12 0 11).toInt ≤ 12 := I 12 0 11
  unfold f_X12_law mLet at e
  rw [d_in, Option.bind_some] at e
  dsimp only at e
  by_cases q1 : (0 : Int32).toInt ≤ x1.toInt ∧ x1.toInt ≤ (2 : Int32).toInt
  rotate_left
  · rw [if_pos (b2i_n q1)] at e
    exact Or.inl ⟨by omega, (Option.some.inj e).symm⟩
  rw [if_neg (b2i_p q1)] at e
  rw [d_isField I, Option.bind_some] at e
  dsimp only at e
  by_cases q3 : 0 ≤ x2.toInt ∧ x2.toInt < (h.1 12 0 2).toInt
  rotate_left
  · rw [if_pos (b2i_n q3)] at e
    exact Or.inl ⟨by omega, (Option.some.inj e).symm⟩
  rw [if_neg (b2i_p q3)] at e
  rw [d_isField I, Option.bind_some] at e
  dsimp only at e
  by_cases q4 : 0 ≤ x3.toInt ∧ x3.toInt < (h.1 12 0 2).toInt
  rotate_left
  · rw [if_pos (b2i_n q4)] at e
    exact Or.inl ⟨by omega, (Option.some.inj e).symm⟩
  rw [if_neg (b2i_p q4)] at e
  rw [d_in, Option.bind_some] at e
  dsimp only at e
  by_cases q5 : (0 : Int32).toInt ≤ x4.toInt ∧ x4.toInt ≤ (255 : Int32).toInt
  rotate_left
  · rw [if_pos (b2i_n q5)] at e
    exact Or.inl ⟨by omega, (Option.some.inj e).symm⟩
  rw [if_neg (b2i_p q5)] at e
  by_cases q7 : (h.1 12 0 11) = 12
  · rw [if_pos q7] at e
    exact Or.inr (Or.inl ⟨by omega, by rw [q7]; decide, (Option.some.inj e).symm⟩)
  · have z7 := ti_ne q7
    rw [if_neg q7] at e
    simp only [uI_1] at e
    have m : mIn (h.1 12 0 11) 12 = true := mIn_bd (by omega) (by omega)
    simp only [m, show ¬ (12 = 54) by decide, show ¬ (12 = 55) by decide, show ¬ (12 = 56) by decide, show ¬ (12 = 57) by decide, false_and, if_false, if_true, and_self] at e
    exact Or.inr (Or.inr ⟨by omega, by omega, (Option.some.inj e).symm⟩)
theorem K_law (x1 x2 x3 x4 : Int32) {h : mH} (j : JR h) : ∃ r r', f_X11_law x1 x2 x3 x4 h = some r ∧ f_X12_law x1 x2 x3 x4 r.2 = some r' ∧ r.1 = r'.1 ∧ JR r'.2 := by
  obtain ⟨I, C, R⟩ := j
  obtain ⟨r, e1, S1⟩ := z_X11_law x1 x2 x3 x4 h (SI.an fpM I C) (by decide)
  obtain ⟨r', e2, S2⟩ := z_X12_law x1 x2 x3 x4 r.2 (SI.an fp0 S1.1 S1.2.1) (fun _ _ => rfl)
  refine al_mk (c := fun g => f_X11_law x1 x2 x3 x4 g) (m := fun g => f_X12_law x1 x2 x3 x4 g) e1 e2 S2 ?_
  have M := S1.2.2.1
  have n : r.2.1 12 0 2 = h.1 1 0 4 := (M 12 0 2 rfl).1.trans R.1.2.1.symm
  have k : r.2.1 12 0 11 = h.1 1 0 5 := (M 12 0 11 rfl).1.trans R.1.2.2.1.symm
  have D := d_law S1.1 e2
  rw [n, k] at D
  rcases c_law e1 with ⟨g, e⟩ | ⟨g, q, e⟩ | ⟨g, q, e⟩ <;> rcases D with ⟨g', e'⟩ | ⟨g', q', e'⟩ | ⟨g', q', e'⟩ <;> first | exact absurd g' g | exact absurd g g' | exact absurd q' q | exact absurd q q' | exact ref_mk R e e' | skip
  rw [e', e]
  refine ⟨rfl, ⟨R.1.1, R.1.2.1, rfl, R.1.2.2.2.1, R.1.2.2.2.2⟩, R.2.1.to ?_, fun i => ?_, R.2.2.2.1.to ?_, R.2.2.2.2.to ?_⟩
  · (repeat (refine fz.u ?_ rfl)) <;> exact fz.rf
  · have z := R.2.2.1 i
    simp only [uI_1]
    by_cases y : i = (h.1 1 0 5).toNatClampNeg
    · simp [y]
    · simp [y, z]
  · (repeat (refine fz.u ?_ rfl)) <;> exact fz.rf
  · (repeat (refine fz.u ?_ rfl)) <;> exact fz.rf
