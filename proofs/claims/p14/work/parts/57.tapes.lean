/-! ===== the tapes' calls ===== -/
theorem t6 : (6 : Int32).toInt = 6 := by decide
theorem RT.set {h : mH} (R : RT h) (d : Nat) (v : Int32) (hv : v = 0 ∨ v = 5) : RT (uI (uI h 9 d 0 v) 89 0 d v) := by
  refine ⟨fun e => ?_, fun e => ?_, fun e k hk => R.2.2 e k hk⟩
  · simp only [uI_1]
    by_cases q : e = d
    · simp [q]
    · simp [q, R.1 e]
  · simp only [uI_1]
    by_cases q : e = d
    · intro z1 z2
      simp [q] at z1 z2
      rcases hv with hv | hv
      · exact absurd hv z1
      · exact absurd hv z2
    · simp [q]
      exact R.2.1 e
theorem ref_mk2 {r r' : Int32 × mH} {h : mH} {v a b : Int32} (R : RR h) (e : r = (v, uI h 11 0 6 a)) (e' : r' = (v, uI r.2 12 0 62 b)) : r.1 = r'.1 ∧ RR r'.2 := by
  rw [e', e]
  exact ⟨rfl, RR.to (fz.u (fz.u fz.rf rfl) rfl) R⟩
theorem c_clear {x : Int32} {h : mH} {r : Int32 × mH} (e : f_X11_clear x h = some r) : (¬ (0 ≤ x.toInt ∧ x.toInt < 6) ∧ r = (-1, h)) ∨ ((0 ≤ x.toInt ∧ x.toInt < 6) ∧ r = (h.1 9 x.toNatClampNeg 0, uI h 9 x.toNatClampNeg 0 0)) := by
  have z6 := t6
  unfold f_X11_clear at e
  rw [c_isTape, Option.bind_some] at e
  dsimp only at e
  by_cases q1 : 0 ≤ x.toInt ∧ x.toInt < (6 : Int32).toInt
  rotate_left
  · rw [if_pos (b2i_n q1)] at e
    exact Or.inl ⟨by omega, (Option.some.inj e).symm⟩
  rw [if_neg (b2i_p q1)] at e
  split at e
  · exact Or.inr ⟨by omega, (Option.some.inj e).symm⟩
  · cases e
theorem d_clear {x : Int32} {h : mH} {r : Int32 × mH} (e : f_X12_clear x h = some r) : (¬ (0 ≤ x.toInt ∧ x.toInt < 6) ∧ r = (-1, h)) ∨ ((0 ≤ x.toInt ∧ x.toInt < 6) ∧ r = (h.1 89 0 x.toNatClampNeg, uI h 89 0 x.toNatClampNeg 0)) := by
  have z6 := t6
  unfold f_X12_clear at e
  rw [d_isTape, Option.bind_some] at e
  dsimp only at e
  by_cases q1 : 0 ≤ x.toInt ∧ x.toInt < (6 : Int32).toInt
  rotate_left
  · rw [if_pos (b2i_n q1)] at e
    exact Or.inl ⟨by omega, (Option.some.inj e).symm⟩
  rw [if_neg (b2i_p q1)] at e
  split at e
  · exact Or.inr ⟨by omega, (Option.some.inj e).symm⟩
  · cases e
theorem K_clear (x1 : Int32) {h : mH} (j : JR h) : ∃ r r', f_X11_clear x1 h = some r ∧ f_X12_clear x1 r.2 = some r' ∧ r.1 = r'.1 ∧ JR r'.2 := by
  obtain ⟨I, C, R⟩ := j
  obtain ⟨r, e1, S1⟩ := z_X11_clear x1 h (SI.an fpM I C) (by decide)
  obtain ⟨r', e2, S2⟩ := z_X12_clear x1 r.2 (SI.an fp0 S1.1 S1.2.1) (fun _ _ => rfl)
  refine al_mk (c := fun g => f_X11_clear x1 g) (m := fun g => f_X12_clear x1 g) e1 e2 S2 ?_
  have M := S1.2.2.1
  have k : r.2.1 89 0 x1.toNatClampNeg = h.1 9 x1.toNatClampNeg 0 := (M 89 0 _ rfl).1.trans (R.2.2.2.2.1 _).symm
  have D := d_clear e2
  rw [k] at D
  rcases c_clear e1 with ⟨g, e⟩ | ⟨g, e⟩ <;> rcases D with ⟨g', e'⟩ | ⟨g', e'⟩ <;> first | exact absurd g' g | exact absurd g g' | exact ref_mk R e e' | skip
  rw [e', e]
  refine ⟨rfl, R.1.to ?_, R.2.1.to ?_, R.2.2.1.to ?_, R.2.2.2.1.to ?_, R.2.2.2.2.set _ 0 (Or.inl rfl)⟩ <;> (repeat (refine fz.u ?_ rfl)) <;> exact fz.rf
theorem c_image {x : Int32} {h : mH} {r : Int32 × mH} (I : IR h) (C : CCs h) (e : f_X11_image x h = some r) : (¬ (0 ≤ x.toInt ∧ x.toInt < 6) ∧ r = (-1, h)) ∨ ((0 ≤ x.toInt ∧ x.toInt < 6) ∧ fz fpK (uI h 9 x.toNatClampNeg 0 5) r.2) := by
  have z6 := t6
  unfold f_X11_image at e
  rw [c_isTape, Option.bind_some] at e
  dsimp only at e
  by_cases q1 : 0 ≤ x.toInt ∧ x.toInt < (6 : Int32).toInt
  rotate_left
  · rw [if_pos (b2i_n q1)] at e
    exact Or.inl ⟨by omega, (Option.some.inj e).symm⟩
  rw [if_neg (b2i_p q1)] at e
  split at e
  rotate_left
  · cases e
  obtain ⟨r4, e4, e⟩ := Option.bind_eq_some_iff.mp e
  obtain ⟨r5, e5, e⟩ := Option.bind_eq_some_iff.mp e
  cases e
  refine Or.inr ⟨by omega, ?_⟩
  unfold f_X9_takeImage at e4
  obtain ⟨r1, e1, e4⟩ := Option.bind_eq_some_iff.mp e4
  cases e4
  have S0 := SI.u (t := 9) (i := x.toNatClampNeg) (k := 0) (x := 5) (SI.an fp0 I C) rfl rfl (by decide)
  obtain ⟨r1', e1', S1⟩ := z_X8_takeFrom (x.toNatClampNeg + 2) 0 (uI h 9 x.toNatClampNeg 0 5) (SI.an fpK S0.1 S0.2.1) (by decide)
  rw [e1] at e1'
  cases e1'
  have S2 : SI fpK (uI h 9 x.toNatClampNeg 0 5) 0 (uI r1 9 x.toNatClampNeg 4 (h.1 1 0 8)) := S1.f rfl rfl rfl
  obtain ⟨r5', e5', h5⟩ := z_X11_nearestInt ((uI r1 9 x.toNatClampNeg 4 (h.1 1 0 8)).2 8 0 10) (uI r1 9 x.toNatClampNeg 4 (h.1 1 0 8)) S2
  rw [e5] at e5'
  cases e5'
  show fz fpK _ r5.2
  rw [h5]
  exact S2.2.2.1
theorem d_image {x : Int32} {h : mH} {r : Int32 × mH} (I : IR h) (C : CCs h) (e : f_X12_image x h = some r) : (¬ (0 ≤ x.toInt ∧ x.toInt < 6) ∧ r = (-1, h)) ∨ ((0 ≤ x.toInt ∧ x.toInt < 6) ∧ fz fpK (uI (uI h 89 0 x.toNatClampNeg 5) 90 0 x.toNatClampNeg 0) r.2) := by
  have z6 := t6
  unfold f_X12_image mLet at e
  rw [d_isTape, Option.bind_some] at e
  dsimp only at e
  by_cases q1 : 0 ≤ x.toInt ∧ x.toInt < (6 : Int32).toInt
  rotate_left
  · rw [if_pos (b2i_n q1)] at e
    exact Or.inl ⟨by omega, (Option.some.inj e).symm⟩
  rw [if_neg (b2i_p q1)] at e
  split at e
  rotate_left
  · cases e
  obtain ⟨r5, e5, e⟩ := Option.bind_eq_some_iff.mp e
  cases e
  refine Or.inr ⟨by omega, ?_⟩
  have S0 := SI.u (t := 89) (i := 0) (k := x.toNatClampNeg) (x := 5) (SI.an fp0 I C) rfl rfl (by decide : (0 : Int) ≤ (5 : Int32).toInt ∧ (5 : Int32).toInt ≤ 5)
  have S1 := SI.u (t := 90) (i := 0) (k := x.toNatClampNeg) (x := 0) S0 rfl rfl (by decide : (0 : Int) ≤ (0 : Int32).toInt ∧ (0 : Int32).toInt ≤ 64)
  obtain ⟨r5', e5', S2, -⟩ := z_X12_stores x _ (SI.an fpK S1.1 S1.2.1) (by decide) (by omega)
  rw [e5] at e5'
  cases e5'
  exact S2.2.2.1
theorem N_image (x1 : Int32) {h : mH} (j : JR h) : ∃ r r', f_X11_image x1 h = some r ∧ f_X12_image x1 r.2 = some r' ∧ JR r'.2 := by
  obtain ⟨I, C, R⟩ := j
  obtain ⟨r, e1, S1⟩ := z_X11_image x1 h (SI.an fpM I C) (by decide)
  obtain ⟨r', e2, S2⟩ := z_X12_image x1 r.2 (SI.an fp0 S1.1 S1.2.1) (fun _ _ => rfl)
  refine ⟨r, r', e1, e2, S2.1, S2.2.1, ?_⟩
  rcases c_image I C e1 with ⟨g, e⟩ | ⟨g, f⟩ <;> rcases d_image S1.1 S1.2.1 e2 with ⟨g', e'⟩ | ⟨g', f'⟩ <;> first | exact absurd g' g | exact absurd g g' | exact (ref_mk R e e').2 | skip
  refine RR.to f' (RR.to f.c.c ?_)
  refine ⟨R.1.to ?_, R.2.1.to ?_, R.2.2.1.to ?_, R.2.2.2.1.to ?_, ?_⟩
  · (repeat (refine fz.u ?_ rfl)) <;> exact fz.rf
  · (repeat (refine fz.u ?_ rfl)) <;> exact fz.rf
  · (repeat (refine fz.u ?_ rfl)) <;> exact fz.rf
  · (repeat (refine fz.u ?_ rfl)) <;> exact fz.rf
  · have T := R.2.2.2.2.set x1.toNatClampNeg 5 (Or.inr rfl)
    refine ⟨fun e => ?_, fun e z1 z2 => ?_, fun e k hk => T.2.2 e k hk⟩
    · have := T.1 e
      simp only [uI_1] at this ⊢
      simp at this ⊢
      exact this
    · by_cases q : e = x1.toNatClampNeg
      · exfalso
        apply z2
        simp [uI_1, q]
      · have := R.2.2.2.2.2.1 e
        simp [uI_1, q] at z1 z2 ⊢
        exact this z1 z2
def gTap (x1 x2 x3 : Int32) : Prop := (0 ≤ x1.toInt ∧ x1.toInt < 6) ∧ (1 ≤ x2.toInt ∧ x2.toInt ≤ 4) ∧ x3.toInt ≤ 64
theorem c_tape {x1 x2 x3 : Int32} {h : mH} {r : Int32 × mH} (e : f_X11_tape x1 x2 x3 h = some r) : (¬ gTap x1 x2 x3 ∧ r = (-1, h)) ∨ (gTap x1 x2 x3 ∧ x3.toInt < 0 ∧ r = (-14, uI h 11 0 6 (h.1 11 0 6 + 1))) ∨ (gTap x1 x2 x3 ∧ ¬ x3.toInt < 0 ∧ r = (x3, flJ (uI (uI h 9 x1.toNatClampNeg 0 x2) 9 x1.toNatClampNeg 1 x3) 42 x1.toNatClampNeg 64 0)) := by
  unfold gTap
  have z6 := t6
  have t0 : (0 : Int32).toInt = 0 := by decide
  have t1 : (1 : Int32).toInt = 1 := by decide
  have t4 : (4 : Int32).toInt = 4 := by decide
  have t64 : (64 : Int32).toInt = 64 := by decide
  unfold f_X11_tape at e
  rw [c_isTape, Option.bind_some] at e
  dsimp only at e
  by_cases q1 : 0 ≤ x1.toInt ∧ x1.toInt < (6 : Int32).toInt
  rotate_left
  · rw [if_pos (b2i_n q1)] at e
    exact Or.inl ⟨by omega, (Option.some.inj e).symm⟩
  rw [if_neg (b2i_p q1)] at e
  by_cases q2 : x2 < 1
  · rw [if_pos q2] at e
    have zq2 := Int32.lt_iff_toInt_lt.mp q2
    exact Or.inl ⟨by omega, (Option.some.inj e).symm⟩
  rw [if_neg q2] at e
  have gq2 := Int32.le_iff_toInt_le.mp (Int32.not_lt.mp q2)
  by_cases q3 : x2 ≤ 4
  rotate_left
  · rw [if_neg q3] at e
    have zq3 := Int32.lt_iff_toInt_lt.mp (Int32.not_le.mp q3)
    exact Or.inl ⟨by omega, (Option.some.inj e).symm⟩
  rw [if_pos q3] at e
  have gq3 := Int32.le_iff_toInt_le.mp q3
  by_cases q4 : x3 ≤ 64
  rotate_left
  · rw [if_neg q4] at e
    have zq4 := Int32.lt_iff_toInt_lt.mp (Int32.not_le.mp q4)
    exact Or.inl ⟨by omega, (Option.some.inj e).symm⟩
  rw [if_pos q4] at e
  have gq4 := Int32.le_iff_toInt_le.mp q4
  by_cases q5 : x3 < 0
  · have z5 := Int32.lt_iff_toInt_lt.mp q5
    rw [if_pos q5] at e
    unfold f_X11_hostRefuses at e
    rw [Option.bind_some] at e
    exact Or.inr (Or.inl ⟨by omega, by omega, (Option.some.inj e).symm⟩)
  · have z5 := Int32.le_iff_toInt_le.mp (Int32.not_lt.mp q5)
    rw [if_neg q5] at e
    split at e
    · unfold f_X9_takeRow mLet at e
      dsimp only at e
      rw [e_fillJ 42 (n := 64) (by decide), Option.bind_some, Option.bind_some] at e
      exact Or.inr (Or.inr ⟨by omega, by omega, (Option.some.inj e).symm⟩)
    · cases e
def zr (h : mH) (d j : Nat) : mH := (h.1, fun t i k => if t = 91 ∧ i = 0 ∧ 64 * d ≤ k ∧ k < 64 * d + j then 0 else h.2 t i k)
theorem zr_0 (h : mH) (d : Nat) : zr h d 0 = h := by
  apply Prod.ext
  · rfl
  · funext t i k
    exact if_neg (by omega)
theorem zr_u (h : mH) (d j : Nat) : uJ (zr h d j) 91 0 (64 * d + j) 0 = zr h d (j + 1) := by
  apply Prod.ext
  · rfl
  · funext t i k
    show (if t = 91 ∧ i = 0 ∧ k = 64 * d + j then (0 : Int64) else if t = 91 ∧ i = 0 ∧ 64 * d ≤ k ∧ k < 64 * d + j then 0 else h.2 t i k) = (if t = 91 ∧ i = 0 ∧ 64 * d ≤ k ∧ k < 64 * d + (j + 1) then 0 else h.2 t i k)
    by_cases q : t = 91 ∧ i = 0 ∧ k = 64 * d + j
    · rw [if_pos q, if_pos (by omega)]
    · rw [if_neg q]
      by_cases q2 : t = 91 ∧ i = 0 ∧ 64 * d ≤ k ∧ k < 64 * d + j
      · rw [if_pos q2, if_pos (by omega)]
      · rw [if_neg q2, if_neg (by omega)]
theorem fz.zr {fp : Nat → Bool} {a b : mH} {d j : Nat} (f : fz fp a b) (hw : fp 5824 = false) : fz fp a (zr b d j) := by
  intro t i k e
  refine ⟨(f t i k e).1, ?_⟩
  refine Eq.trans (if_neg (fun z => ?_)) (f t i k e).2
  rw [z.1, show ky 91 i k = 5824 from rfl, hw] at e
  cases e
theorem fz.fl {fp : Nat → Bool} {a b : mH} {i0 n : Nat} {v : Int64} (f : fz fp a b) (hw : fp 2688 = false) : fz fp a (flJ b 42 i0 n v) := by
  intro t i k e
  refine ⟨(f t i k e).1, ?_⟩
  refine Eq.trans (if_neg (fun z => ?_)) (f t i k e).2
  rw [z.1, show ky 42 i k = 2688 from rfl, hw] at e
  cases e
theorem row_ix {x v : Int32} {d j : Nat} (hx : x.toInt = d) (hd : d < 6) (hv : v.toInt = j) (hj : j < 1000) : ((64 * x) + v).toNatClampNeg = 64 * d + j := by
  have t64 : (64 : Int32).toInt = 64 := by decide
  have m : (64 * x).toInt = 64 * x.toInt := ti_km t64 (by omega) (by omega)
  have a : (64 * x + v).toInt = (64 * x).toInt + v.toInt := ti_add (by omega) (by omega)
  exact cl_of (by omega)
theorem tape_cl {d : Nat} (hd : d < 6) {x1 v3 : Int32} (hx : x1.toInt = d) (g : mH) : ∀ (n : Nat) (v4 : Int32) (j : Nat) (r : Int32 × mH), v4.toInt = j → j ≤ 64 → f_X12_tape_52 (fun _ u12 _ h14 => some (u12, h14)) n x1 v3 v4 (zr g d j) = some r → r = (v3, zr g d 64) := by
  have t64 : (64 : Int32).toInt = 64 := by decide
  have t1 : (1 : Int32).toInt = 1 := by decide
  intro n
  induction n with
  | zero => intro v4 j r _ _ e; cases e
  | succ n ih =>
    intro v4 j r hv hj e
    unfold f_X12_tape_52 at e
    split at e
    · rename_i q
      have z := Int32.lt_iff_toInt_lt.mp q
      split at e
      · rw [row_ix hx hd hv (by omega), zr_u] at e
        have a : (v4 + 1).toInt = v4.toInt + (1 : Int32).toInt := ti_add (by omega) (by omega)
        exact ih (v4 + 1) (j + 1) r (by omega) (by omega) e
      · cases e
    · rename_i q
      have z := Int32.le_iff_toInt_le.mp (Int32.not_lt.mp q)
      have : j = 64 := by omega
      subst this
      exact (Option.some.inj e).symm
theorem d_tape {x1 x2 x3 : Int32} {h : mH} {r : Int32 × mH} (e : f_X12_tape x1 x2 x3 h = some r) : (¬ gTap x1 x2 x3 ∧ r = (-1, h)) ∨ (gTap x1 x2 x3 ∧ x3.toInt < 0 ∧ r = (-14, uI h 12 0 62 (h.1 12 0 62 + 1))) ∨ (gTap x1 x2 x3 ∧ ¬ x3.toInt < 0 ∧ r = (x3, zr (uI (uI h 89 0 x1.toNatClampNeg x2) 90 0 x1.toNatClampNeg x3) x1.toNatClampNeg 64)) := by
  unfold gTap
  have z6 := t6
  have t0 : (0 : Int32).toInt = 0 := by decide
  have t1 : (1 : Int32).toInt = 1 := by decide
  have t4 : (4 : Int32).toInt = 4 := by decide
  have t64 : (64 : Int32).toInt = 64 := by decide
  unfold f_X12_tape mLet at e
  rw [d_isTape, Option.bind_some] at e
  dsimp only at e
  by_cases q1 : 0 ≤ x1.toInt ∧ x1.toInt < (6 : Int32).toInt
  rotate_left
  · rw [if_pos (b2i_n q1)] at e
    exact Or.inl ⟨by omega, (Option.some.inj e).symm⟩
  rw [if_neg (b2i_p q1)] at e
  rw [d_in, Option.bind_some] at e
  dsimp only at e
  by_cases q2 : (1 : Int32).toInt ≤ x2.toInt ∧ x2.toInt ≤ (4 : Int32).toInt
  rotate_left
  · rw [if_pos (b2i_n q2)] at e
    exact Or.inl ⟨by omega, (Option.some.inj e).symm⟩
  rw [if_neg (b2i_p q2)] at e
  by_cases q4 : x3 ≤ 64
  rotate_left
  · rw [if_neg q4] at e
    have zq4 := Int32.lt_iff_toInt_lt.mp (Int32.not_le.mp q4)
    exact Or.inl ⟨by omega, (Option.some.inj e).symm⟩
  rw [if_pos q4] at e
  have gq4 := Int32.le_iff_toInt_le.mp q4
  by_cases q5 : x3 < 0
  · have z5 := Int32.lt_iff_toInt_lt.mp q5
    rw [if_pos q5] at e
    unfold f_X12_refuse at e
    rw [Option.bind_some] at e
    exact Or.inr (Or.inl ⟨by omega, by omega, (Option.some.inj e).symm⟩)
  · have z5 := Int32.le_iff_toInt_le.mp (Int32.not_lt.mp q5)
    rw [if_neg q5] at e
    split at e
    · have hc : x1.toInt = (x1.toNatClampNeg : Nat) := by
        show x1.toInt = ((x1.toInt.toNat : Nat) : Int)
        omega
      rw [← zr_0 (uI (uI h 89 0 x1.toNatClampNeg x2) 90 0 x1.toNatClampNeg x3) x1.toNatClampNeg] at e
      exact Or.inr (Or.inr ⟨by omega, by omega, tape_cl (by omega) hc _ mFu 0 0 r (by decide) (by decide) e⟩)
    · cases e
theorem K_tape (x1 x2 x3 : Int32) {h : mH} (j : JR h) : ∃ r r', f_X11_tape x1 x2 x3 h = some r ∧ f_X12_tape x1 x2 x3 r.2 = some r' ∧ r.1 = r'.1 ∧ JR r'.2 := by
  obtain ⟨I, C, R⟩ := j
  obtain ⟨r, e1, S1⟩ := z_X11_tape x1 x2 x3 h (SI.an fpM I C) (by decide)
  obtain ⟨r', e2, S2⟩ := z_X12_tape x1 x2 x3 r.2 (SI.an fp0 S1.1 S1.2.1) (fun _ _ => rfl)
  refine al_mk (c := fun g => f_X11_tape x1 x2 x3 g) (m := fun g => f_X12_tape x1 x2 x3 g) e1 e2 S2 ?_
  rcases c_tape e1 with ⟨g, e⟩ | ⟨g, q, e⟩ | ⟨g, q, e⟩ <;> rcases d_tape e2 with ⟨g', e'⟩ | ⟨g', q', e'⟩ | ⟨g', q', e'⟩ <;> first | exact absurd g' g | exact absurd g g' | exact absurd q' q | exact absurd q q' | exact ref_mk R e e' | exact ref_mk2 R e e' | skip
  rw [e', e]
  refine ⟨rfl, R.1.to (fz.zr (fz.u (fz.u (fz.fl (fz.u (fz.u fz.rf rfl) rfl) rfl) rfl) rfl) rfl), R.2.1.to (fz.zr (fz.u (fz.u (fz.fl (fz.u (fz.u fz.rf rfl) rfl) rfl) rfl) rfl) rfl), R.2.2.1.to (fz.zr (fz.u (fz.u (fz.fl (fz.u (fz.u fz.rf rfl) rfl) rfl) rfl) rfl) rfl), R.2.2.2.1.to (fz.zr (fz.u (fz.u (fz.fl (fz.u (fz.u fz.rf rfl) rfl) rfl) rfl) rfl) rfl), fun d => ?_, fun d => ?_, fun d k hk => ?_⟩
  · show (uI (uI (uI (uI h 9 x1.toNatClampNeg 0 x2) 9 x1.toNatClampNeg 1 x3) 89 0 x1.toNatClampNeg x2) 90 0 x1.toNatClampNeg x3).1 9 d 0 = (uI (uI (uI (uI h 9 x1.toNatClampNeg 0 x2) 9 x1.toNatClampNeg 1 x3) 89 0 x1.toNatClampNeg x2) 90 0 x1.toNatClampNeg x3).1 89 0 d
    have z := R.2.2.2.2.1 d
    by_cases y : d = x1.toNatClampNeg
    · simp [uI_1, y]
    · simp [uI_1, y, z]
  · show (uI (uI (uI (uI h 9 x1.toNatClampNeg 0 x2) 9 x1.toNatClampNeg 1 x3) 89 0 x1.toNatClampNeg x2) 90 0 x1.toNatClampNeg x3).1 9 d 0 ≠ 0 → (uI (uI (uI (uI h 9 x1.toNatClampNeg 0 x2) 9 x1.toNatClampNeg 1 x3) 89 0 x1.toNatClampNeg x2) 90 0 x1.toNatClampNeg x3).1 9 d 0 ≠ 5 → (uI (uI (uI (uI h 9 x1.toNatClampNeg 0 x2) 9 x1.toNatClampNeg 1 x3) 89 0 x1.toNatClampNeg x2) 90 0 x1.toNatClampNeg x3).1 9 d 1 = (uI (uI (uI (uI h 9 x1.toNatClampNeg 0 x2) 9 x1.toNatClampNeg 1 x3) 89 0 x1.toNatClampNeg x2) 90 0 x1.toNatClampNeg x3).1 90 0 d
    have z := R.2.2.2.2.2.1 d
    by_cases y : d = x1.toNatClampNeg
    · simp [uI_1, y]
    · simp [uI_1, y]
      exact z
  · show (if 42 = 91 ∧ d = 0 ∧ 64 * x1.toNatClampNeg ≤ k ∧ k < 64 * x1.toNatClampNeg + 64 then (0 : Int64) else if 42 = 42 ∧ d = x1.toNatClampNeg ∧ k < 64 then 0 else h.2 42 d k) = (if 91 = 91 ∧ 0 = 0 ∧ 64 * x1.toNatClampNeg ≤ 64 * d + k ∧ 64 * d + k < 64 * x1.toNatClampNeg + 64 then (0 : Int64) else if 91 = 42 ∧ 0 = x1.toNatClampNeg ∧ 64 * d + k < 64 then 0 else h.2 91 0 (64 * d + k))
    rw [if_neg (by omega), if_neg (c := 91 = 42 ∧ _) (by omega)]
    by_cases y : d = x1.toNatClampNeg
    · rw [if_pos (by omega), if_pos (by omega)]
    · rw [if_neg (by omega), if_neg (by omega)]
      exact R.2.2.2.2.2.2 d k hk
