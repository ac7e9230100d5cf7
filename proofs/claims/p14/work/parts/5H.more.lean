/-! ===== begin and field keep RC ===== -/
theorem fl_begin {x : Int32} {h : mH} {r : Int32 × mH} (I : IR h) (C : CCs h) (g : 1 ≤ x.toInt ∧ x.toInt ≤ 8) (e : f_X11_begin x h = some r) : r.2.1 1 0 9 = 0 := by
  have t1 : (1 : Int32).toInt = 1 := by decide
  have t8 : (8 : Int32).toInt = 8 := by decide
  unfold f_X11_begin at e
  rw [if_neg (fun z => by have := Int32.lt_iff_toInt_lt.mp z; omega), if_pos (Int32.le_iff_toInt_le.mpr (by omega))] at e
  obtain ⟨r3, e3, e⟩ := Option.bind_eq_some_iff.mp e
  obtain ⟨r4, e4, e⟩ := Option.bind_eq_some_iff.mp e
  obtain ⟨r5, e5, e⟩ := Option.bind_eq_some_iff.mp e
  cases e
  obtain ⟨s3, g3, S3⟩ := z_X1_startAnew x h (SI.an fp0 I C) (fun _ _ => rfl) g
  rw [e3] at g3
  cases g3
  obtain ⟨s4, g4, S4⟩ := z_X10_forget r3 (SI.an fpD S3.1 S3.2.1) (by decide)
  rw [e4] at g4
  cases g4
  have S5 : SI fpD r3 0 (uI r4 11 0 6 0) := S4.f rfl rfl rfl
  obtain ⟨s5, g5, S6⟩ := z_X2_powerUp _ S5 (by decide)
  rw [e5] at g5
  cases g5
  have y : r3.1 1 0 9 = 0 := by
    unfold f_X1_startAnew mLet at e3
    cases e3
    rfl
  exact (S6.2.2.1 1 0 9 rfl).1.trans y
theorem rc_begin {x1 : Int32} {h : mH} {r r' : Int32 × mH} (j : JC h) (e1 : f_X11_begin x1 h = some r) (e2 : f_X12_begin x1 r.2 = some r') : RC r'.2 := by
  obtain ⟨I, C, R⟩ := j.1
  obtain ⟨r0, e0, S1⟩ := z_X11_begin x1 h (SI.an fp0 I C) (fun _ _ => rfl)
  rw [e1] at e0
  cases e0
  rcases c_begin I C e1 with ⟨g, e⟩ | ⟨g, v, f⟩ <;> rcases d_begin S1.1 S1.2.1 e2 with ⟨g', e'⟩ | ⟨g', v', f'⟩ <;> first | exact absurd g' g | exact absurd g g' | exact rc_ref j.2 e e' | skip
  obtain ⟨q', h2, S2⟩ := z_X12_begin x1 r.2 (SI.an fpD S1.1 S1.2.1) (by decide)
  rw [e2] at h2
  cases h2
  have fl : r'.2.1 1 0 9 = 0 := (S2.2.2.1 1 0 9 rfl).1.trans (fl_begin I C g e1)
  have n1 : r'.2.1 12 0 2 = 0 := (f' 12 0 2 rfl).1
  have n2 : r'.2.1 12 0 11 = 0 := (f' 12 0 11 rfl).1
  have n3 : r'.2.1 12 0 16 = 0 := (f' 12 0 16 rfl).1
  refine ⟨fun p q hp => ?_, fun k hk => ?_, fun a k ha => ?_, Or.inl fl⟩
  · unfold nF at hp; rw [n1] at hp; exact absurd hp (Nat.not_lt_zero p)
  · unfold nL at hk; rw [n2] at hk; exact absurd hk (Nat.not_lt_zero k)
  · unfold nA at ha; rw [n3] at ha; exact absurd ha (Nat.not_lt_zero a)
theorem fl_core {x1 x2 x3 x4 x5 : Int32} {h : mH} {r : Int32 × mH} (I : IR h) (C : CCs h) (g8 : 0 ≤ x1.toInt ∧ x1.toInt < 8) (e : f_X11_field_j79 x1 x2 x3 x4 x5 h = some r) : r.2 = h ∨ r.2.1 1 0 9 = 0 := by
  have b : 0 ≤ (h.1 1 0 4).toInt ∧ (h.1 1 0 4).toInt ≤ 24 := I 1 0 4
  have t24 : (24 : Int32).toInt = 24 := by decide
  unfold f_X11_field_j79 at e
  obtain ⟨r12, e12, e⟩ := Option.bind_eq_some_iff.mp e
  unfold f_X1_bitsOfAll at e12
  obtain ⟨hh, -⟩ := c_bits (bits := 0) I mFu 0 0 0 r12 (by decide) (Nat.zero_le _) ⟨fun _ f hf => by omega, fun _ => by simp⟩ e12
  rw [hh] at e
  split at e
  · by_cases q2 : h.1 1 0 4 < 24
    · have z2 := Int32.lt_iff_toInt_lt.mp q2
      rw [if_pos q2, c_tellField (mIn_bd (by omega) (by omega)), Option.bind_some] at e
      obtain ⟨r16, e16, e⟩ := Option.bind_eq_some_iff.mp e
      cases e
      obtain ⟨r15, e15, S15⟩ := z_X1_tellField x1 x2 x3 x4 x5 h (SI.an fp0 I C) (fun _ _ => rfl) (by omega) g8
      rw [c_tellField (mIn_bd (by omega) (by omega))] at e15
      cases e15
      obtain ⟨s16, g16, S16⟩ := z_X2_powerUp _ (SI.an fpD S15.1 S15.2.1) (by decide)
      rw [e16] at g16
      cases g16
      exact Or.inr ((S16.2.2.1 1 0 9 rfl).1)
    · rw [if_neg q2] at e
      cases e
      exact Or.inl rfl
  · cases e
    exact Or.inl rfl
theorem fl_field {x1 x2 x3 x4 x5 : Int32} {h : mH} {r : Int32 × mH} (I : IR h) (C : CCs h) (g : gFld (h.1 1 0 3).toInt x1 x2 x3 x4 x5) (e : f_X11_field x1 x2 x3 x4 x5 h = some r) : r.2 = h ∨ r.2.1 1 0 9 = 0 := by
  have br : 1 ≤ (h.1 1 0 3).toInt ∧ (h.1 1 0 3).toInt ≤ 8 := I 1 0 3
  have g8 : 0 ≤ x1.toInt ∧ x1.toInt < 8 := by unfold gFld at g; omega
  unfold f_X11_field at e
  simp only [c_hasRegister, c_fits, Option.bind_some] at e
  repeat' split at e
  all_goals first | exact fl_core I C g8 e | (cases e; exact Or.inl rfl)
theorem rc_field {x1 x2 x3 x4 x5 : Int32} {h : mH} {r r' : Int32 × mH} (j : JC h) (e1 : f_X11_field x1 x2 x3 x4 x5 h = some r) (e2 : f_X12_field x1 x2 x3 x4 x5 r.2 = some r') : RC r'.2 := by
  obtain ⟨I, C, R⟩ := j.1
  obtain ⟨r0, e0, S1⟩ := z_X11_field x1 x2 x3 x4 x5 h (SI.an fpM I C) (by decide)
  rw [e1] at e0
  cases e0
  have M := S1.2.2.1
  have n : r.2.1 12 0 2 = h.1 1 0 4 := (M 12 0 2 rfl).1.trans R.1.2.1.symm
  have n2 : r.2.1 12 0 1 = h.1 1 0 3 := (M 12 0 1 rfl).1.trans R.1.1.symm
  have k0 : ∀ c, r.2.1 46 0 c = h.1 6 c 0 := fun c => (M 46 0 c rfl).1.trans (R.2.1 c).1.1.symm
  have k1 : ∀ c, r.2.1 47 0 c = h.1 6 c 1 := fun c => (M 47 0 c rfl).1.trans (R.2.1 c).1.2.1.symm
  have k2 : ∀ c, r.2.1 48 0 c = h.1 6 c 2 := fun c => (M 48 0 c rfl).1.trans (R.2.1 c).1.2.2.1.symm
  have hno : ∀ J, noM4 r.2 x1 (bFld x2 x3) J ↔ noC4 h x1 (bFld x2 x3) J := by
    intro J
    unfold noM4 noC4
    constructor
    · intro z f hf e
      have y := z f hf (by rw [k0]; exact e)
      rw [k1, k2, ← (R.2.1 f).2.2.1] at y
      exact y
    · intro z f hf e
      rw [k0] at e
      rw [k1, k2, ← (R.2.1 f).2.2.1]
      exact z f hf e
  have D := d_field S1.1 S1.2.1 e2
  rw [n, n2, hno] at D
  rcases c_field I C e1 with ⟨g, e⟩ | ⟨g, q, e⟩ | ⟨g, q, p, e⟩ | ⟨g, q, p, v, f⟩ <;> rcases D with ⟨g', e'⟩ | ⟨g', q', e'⟩ | ⟨g', q', p', e'⟩ | ⟨g', q', p', v', f'⟩ <;> first | exact absurd g' g | exact absurd g g' | exact absurd q' q | exact absurd q q' | exact absurd p' p | exact absurd p p' | exact rc_ref j.2 e e' | skip
  have b : 0 ≤ (h.1 1 0 4).toInt ∧ (h.1 1 0 4).toInt ≤ 24 := I 1 0 4
  have t1 : (1 : Int32).toInt = 1 := by decide
  have a1 : (h.1 1 0 4 + 1).toInt = (h.1 1 0 4).toInt + (1 : Int32).toInt := ti_add (by omega) (by omega)
  have y0 := cl_int b.1
  have y1 := cl_int (x := h.1 1 0 4 + 1) (by omega)
  have e4 := R.1.2.1
  have fl1 : r.2.1 1 0 9 = 0 := by
    rcases fl_field I C g e1 with z | z
    · exfalso
      have w : r.2.1 1 0 4 = h.1 1 0 4 + 1 := (f 1 0 4 rfl).1.trans (uI_s' _ _ _ _ _)
      rw [z] at w
      have := congrArg Int32.toInt w
      omega
    · exact z
  obtain ⟨q0, h2, S2⟩ := z_X12_field x1 x2 x3 x4 x5 r.2 (SI.an fpD S1.1 S1.2.1) (by decide)
  rw [e2] at h2
  cases h2
  have fl : r'.2.1 1 0 9 = 0 := (S2.2.2.1 1 0 9 rfl).1.trans fl1
  have x := fun t i k (z : fpK (ky t i k) = true) => (f' t i k z).1
  have m2 : r'.2.1 12 0 2 = h.1 1 0 4 + 1 := (x 12 0 2 rfl).trans (uI_s' _ _ _ _ _)
  obtain ⟨d, l, s, c⟩ := j.2
  generalize hc : (h.1 1 0 4).toNatClampNeg = c0 at *
  have r46 : ∀ i, r'.2.1 46 0 i = if i = c0 then x1 else h.1 46 0 i := by
    intro i
    rw [x 46 0 i rfl, ← (M 46 0 i rfl).1]
    unfold flM
    by_cases y : i = c0 <;> simp [uI_1, y]
  have r47 : ∀ i, r'.2.1 47 0 i = if i = c0 then x2 else h.1 47 0 i := by
    intro i
    rw [x 47 0 i rfl, ← (M 47 0 i rfl).1]
    unfold flM
    by_cases y : i = c0 <;> simp [uI_1, y]
  have r48 : ∀ i, r'.2.1 48 0 i = if i = c0 then x3 else h.1 48 0 i := by
    intro i
    rw [x 48 0 i rfl, ← (M 48 0 i rfl).1]
    unfold flM
    by_cases y : i = c0 <;> simp [uI_1, y]
  have ot : ∀ t k, fpK (ky t 0 k) = true → fpM (ky t 0 k) = true → t ≠ 46 → t ≠ 47 → t ≠ 48 → t ≠ 49 → t ≠ 50 → t ≠ 51 → t ≠ 52 → t ≠ 53 → ¬ (t = 12 ∧ k = 2) → r'.2.1 t 0 k = h.1 t 0 k := by
    intro t k z1 z2 a b c d e f g i jj
    rw [x t 0 k z1, ← (M t 0 k z2).1]
    unfold flM
    rw [uI_n _ (fun z => jj ⟨z.1, z.2.2⟩), uI_n _ (fun z => i z.1), uI_n _ (fun z => g z.1), uI_n _ (fun z => f z.1), uI_n _ (fun z => e z.1), uI_n _ (fun z => d z.1), uI_n _ (fun z => c z.1), uI_n _ (fun z => b z.1), uI_n _ (fun z => a z.1)]
  refine ⟨?_, ?_, ?_, Or.inl fl⟩
  · have mk : ∀ i, mskM (xM r'.2) i = if i = c0 then bFld x2 x3 else mskM (xM h) i := by
      intro i
      show ((1 <<< (r'.2.1 48 0 i &&& 31)) - 1) <<< (r'.2.1 47 0 i &&& 31) = _
      rw [r47, r48]
      by_cases y : i = c0
      · simp only [y, if_true]
        rfl
      · simp only [y, if_false]
        rfl
    have nh : nF h = c0 := by unfold nF; rw [← e4]; exact hc
    have no : ∀ i, i < c0 → h.1 46 0 i = x1 → mskM (xM h) i &&& bFld x2 x3 = 0 := by
      intro i hi e
      have z := q i hi (by rw [(R.2.1 i).1.1]; exact e)
      rw [(R.2.1 i).2.2.1, (R.2.1 i).1.2.2.1, (R.2.1 i).1.2.1] at z
      exact z
    intro p0 q0 hp hq hn he
    unfold nF at hp hq
    rw [m2] at hp hq
    have he : r'.2.1 46 0 p0 = r'.2.1 46 0 q0 := he
    rw [r46, r46] at he
    rw [mk, mk]
    by_cases yp : p0 = c0
    · have yq : ¬ q0 = c0 := fun z => hn (yp.trans z.symm)
      rw [if_pos yp, if_neg yq] at he ⊢
      rw [Int32.and_comm]
      exact no q0 (by omega) he.symm
    · by_cases yq : q0 = c0
      · rw [if_neg yp, if_pos yq] at he ⊢
        exact no p0 (by omega) he
      · rw [if_neg yp, if_neg yq] at he ⊢
        exact d p0 q0 (by rw [nh]; omega) (by rw [nh]; omega) hn he
  · intro k hk
    unfold nL at hk
    rw [ot 12 11 rfl rfl (by decide) (by decide) (by decide) (by decide) (by decide) (by decide) (by decide) (by decide) (by omega)] at hk
    rw [ot 55 k rfl rfl (by decide) (by decide) (by decide) (by decide) (by decide) (by decide) (by decide) (by decide) (by omega), ot 56 k rfl rfl (by decide) (by decide) (by decide) (by decide) (by decide) (by decide) (by decide) (by decide) (by omega), m2]
    have z := l k hk
    rw [← e4] at z
    omega
  · intro a k ha hk
    unfold nA at ha
    rw [ot 12 16 rfl rfl (by decide) (by decide) (by decide) (by decide) (by decide) (by decide) (by decide) (by decide) (by omega)] at ha
    rw [ot 58 a rfl rfl (by decide) (by decide) (by decide) (by decide) (by decide) (by decide) (by decide) (by decide) (by omega)] at hk
    rw [ot 59 _ rfl rfl (by decide) (by decide) (by decide) (by decide) (by decide) (by decide) (by decide) (by decide) (by omega), ot 60 _ rfl rfl (by decide) (by decide) (by decide) (by decide) (by decide) (by decide) (by decide) (by decide) (by omega), m2]
    rcases s a k ha hk with z | z
    · exact Or.inl z
    · rw [← e4] at z
      exact Or.inr (by omega)
