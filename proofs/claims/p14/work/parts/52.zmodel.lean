/-! ===== safety rows, model ===== -/
set_option maxHeartbeats 400000 in
theorem z_X12_in {fp : Nat → Bool} {b : mH} {m : Nat} (x0 : Int32) (x1 : Int32) (x2 : Int32) (h : mH) (S : SI fp b m h)   : ∃ r, f_X12_in x0 x1 x2 h = some r ∧ r.2 = h ∧ (r.1 = 0 ∨ r.1 = 1) ∧ (r.1.toInt = 0 ∨ (x1.toInt ≤ x0.toInt ∧ x0.toInt ≤ x2.toInt)) := by
  unfold f_X12_in
  by_cases q1 : x0 < x1
  · rw [if_pos q1]
    first | have hx_2 := i32_hi (x0) | skip
    first | have hx_3 := i32_lo (x0) | skip
    first | have hx_4 := i32_hi (x1) | skip
    first | have hx_5 := i32_lo (x1) | skip
    first | have f6 : (x0 : Int32).toInt < (x1 : Int32).toInt := Int32.lt_iff_toInt_lt.mp q1 | skip
    have t7 : (0 : Int32).toInt = 0 := by decide
    have pp8 : ((0 : Int32).toInt = 0 ∨ (x1.toInt ≤ x0.toInt ∧ x0.toInt ≤ x2.toInt)) := by omega
    exact ⟨_, rfl, rfl, (Or.inl rfl), pp8⟩
  · rw [if_neg q1]
    first | have hx_9 := i32_hi (x0) | skip
    first | have hx_10 := i32_lo (x0) | skip
    first | have hx_11 := i32_hi (x1) | skip
    first | have hx_12 := i32_lo (x1) | skip
    first | have f13 : (x1 : Int32).toInt ≤ (x0 : Int32).toInt := Int32.le_iff_toInt_le.mp (Int32.not_lt.mp q1) | skip
    by_cases q14 : x0 ≤ x2
    · rw [if_pos q14]
      first | have hx_15 := i32_hi (x2) | skip
      first | have hx_16 := i32_lo (x2) | skip
      first | have f17 : (x0 : Int32).toInt ≤ (x2 : Int32).toInt := Int32.le_iff_toInt_le.mp q14 | skip
      have t18 : (1 : Int32).toInt = 1 := by decide
      have pp19 : ((1 : Int32).toInt = 0 ∨ (x1.toInt ≤ x0.toInt ∧ x0.toInt ≤ x2.toInt)) := by omega
      exact ⟨_, rfl, rfl, (Or.inr rfl), pp19⟩
    · rw [if_neg q14]
      first | have hx_20 := i32_hi (x2) | skip
      first | have hx_21 := i32_lo (x2) | skip
      first | have f22 : (x2 : Int32).toInt < (x0 : Int32).toInt := Int32.lt_iff_toInt_lt.mp (Int32.not_le.mp q14) | skip
      have t23 : (0 : Int32).toInt = 0 := by decide
      have pp24 : ((0 : Int32).toInt = 0 ∨ (x1.toInt ≤ x0.toInt ∧ x0.toInt ≤ x2.toInt)) := by omega
      exact ⟨_, rfl, rfl, (Or.inl rfl), pp24⟩
set_option maxHeartbeats 400000 in
theorem z_X12_isField {fp : Nat → Bool} {b : mH} {m : Nat} (x1 : Int32) (h : mH) (S : SI fp b m h)   : ∃ r, f_X12_isField x1 h = some r ∧ r.2 = h ∧ (r.1 = 0 ∨ r.1 = 1) ∧ (r.1.toInt = 0 ∨ (0 ≤ x1.toInt ∧ x1.toInt < 24)) := by
  unfold f_X12_isField
  have t1 : (0 : Int32).toInt = 0 := by decide
  have b2 : 0 ≤ (h.1 12 0 2).toInt ∧ (h.1 12 0 2).toInt ≤ 24 := (S).1 12 0 2
  have t3 : (1 : Int32).toInt = 1 := by decide
  first | have o4 : ((h.1 12 0 2) - 1 : Int32).toInt = (h.1 12 0 2 : Int32).toInt - (1 : Int32).toInt := ti_sub (by omega) (by omega) | skip
  obtain ⟨⟨r1v, r1h⟩, e_r1, (hh_r1 : r1h = h), p_r1_0, p_r1_1⟩ := z_X12_in x1 0 ((h.1 12 0 2) - 1) h S  
  replace hh_r1 := hh_r1.symm
  subst hh_r1
  dsimp only at p_r1_0 p_r1_1
  have bb_r1 := bool_bd p_r1_0
  rw [e_r1, Option.bind_some]
  try dsimp only
  have q5 : (r1v = 0 ∨ r1v = 1) := p_r1_0
  rw [if_pos q5]
  have pp6 : (r1v.toInt = 0 ∨ (0 ≤ x1.toInt ∧ x1.toInt < 24)) := by omega
  exact ⟨_, rfl, rfl, q5, pp6⟩
set_option maxHeartbeats 400000 in
theorem z_X12_isAct {fp : Nat → Bool} {b : mH} {m : Nat} (x1 : Int32) (h : mH) (S : SI fp b m h)   : ∃ r, f_X12_isAct x1 h = some r ∧ r.2 = h ∧ (r.1 = 0 ∨ r.1 = 1) ∧ (r.1.toInt = 0 ∨ (0 ≤ x1.toInt ∧ x1.toInt < 6)) := by
  unfold f_X12_isAct
  have t1 : (0 : Int32).toInt = 0 := by decide
  have b2 : 0 ≤ (h.1 12 0 16).toInt ∧ (h.1 12 0 16).toInt ≤ 6 := (S).1 12 0 16
  have t3 : (1 : Int32).toInt = 1 := by decide
  first | have o4 : ((h.1 12 0 16) - 1 : Int32).toInt = (h.1 12 0 16 : Int32).toInt - (1 : Int32).toInt := ti_sub (by omega) (by omega) | skip
  obtain ⟨⟨r1v, r1h⟩, e_r1, (hh_r1 : r1h = h), p_r1_0, p_r1_1⟩ := z_X12_in x1 0 ((h.1 12 0 16) - 1) h S  
  replace hh_r1 := hh_r1.symm
  subst hh_r1
  dsimp only at p_r1_0 p_r1_1
  have bb_r1 := bool_bd p_r1_0
  rw [e_r1, Option.bind_some]
  try dsimp only
  have q5 : (r1v = 0 ∨ r1v = 1) := p_r1_0
  rw [if_pos q5]
  have pp6 : (r1v.toInt = 0 ∨ (0 ≤ x1.toInt ∧ x1.toInt < 6)) := by omega
  exact ⟨_, rfl, rfl, q5, pp6⟩
set_option maxHeartbeats 400000 in
theorem z_X12_isRegister {fp : Nat → Bool} {b : mH} {m : Nat} (x1 : Int32) (h : mH) (S : SI fp b m h)   : ∃ r, f_X12_isRegister x1 h = some r ∧ r.2 = h ∧ (r.1 = 0 ∨ r.1 = 1) ∧ (r.1.toInt = 0 ∨ (0 ≤ x1.toInt ∧ x1.toInt < 8)) := by
  unfold f_X12_isRegister
  have t1 : (0 : Int32).toInt = 0 := by decide
  have b2 : 1 ≤ (h.1 12 0 1).toInt ∧ (h.1 12 0 1).toInt ≤ 8 := (S).1 12 0 1
  have t3 : (1 : Int32).toInt = 1 := by decide
  first | have o4 : ((h.1 12 0 1) - 1 : Int32).toInt = (h.1 12 0 1 : Int32).toInt - (1 : Int32).toInt := ti_sub (by omega) (by omega) | skip
  obtain ⟨⟨r1v, r1h⟩, e_r1, (hh_r1 : r1h = h), p_r1_0, p_r1_1⟩ := z_X12_in x1 0 ((h.1 12 0 1) - 1) h S  
  replace hh_r1 := hh_r1.symm
  subst hh_r1
  dsimp only at p_r1_0 p_r1_1
  have bb_r1 := bool_bd p_r1_0
  rw [e_r1, Option.bind_some]
  try dsimp only
  have q5 : (r1v = 0 ∨ r1v = 1) := p_r1_0
  rw [if_pos q5]
  have pp6 : (r1v.toInt = 0 ∨ (0 ≤ x1.toInt ∧ x1.toInt < 8)) := by omega
  exact ⟨_, rfl, rfl, q5, pp6⟩
set_option maxHeartbeats 400000 in
theorem z_X12_most {fp : Nat → Bool} {b : mH} {m : Nat} (x1 : Int32) (h : mH) (S : SI fp b m h)  (pr0 : (0 ≤ x1.toInt ∧ x1.toInt < 24)) : ∃ r, f_X12_most x1 h = some r ∧ r.2 = h := by
  unfold f_X12_most
  have q1 : mIn x1 24 = true := (mIn_bd (by omega) (by omega))
  rw [if_pos q1]
  exact ⟨_, rfl, rfl⟩
set_option maxHeartbeats 400000 in
theorem z_X12_mask {fp : Nat → Bool} {b : mH} {m : Nat} (x1 : Int32) (h : mH) (S : SI fp b m h)  (pr0 : (0 ≤ x1.toInt ∧ x1.toInt < 24)) : ∃ r, f_X12_mask x1 h = some r ∧ r.2 = h := by
  unfold f_X12_mask
  obtain ⟨⟨r1v, r1h⟩, e_r1, (hh_r1 : r1h = h)⟩ := z_X12_most x1 h S  pr0
  replace hh_r1 := hh_r1.symm
  subst hh_r1
  rw [e_r1, Option.bind_some]
  try dsimp only
  have q1 : mIn x1 24 = true := (mIn_bd (by omega) (by omega))
  rw [if_pos q1]
  exact ⟨_, rfl, rfl⟩
def W_X12_refuse : List Nat := [830]
set_option maxHeartbeats 400000 in
theorem z_X12_refuse {fp : Nat → Bool} {b : mH} {m : Nat} (x1 : Int32) (h : mH) (S : SI fp b m h) (ff : ∀ c ∈ W_X12_refuse, fp c = false)  : ∃ r, f_X12_refuse x1 h = some r ∧ SI fp b m r.2 := by
  have w830 : fp 830 = false := ff 830 (by decide)
  unfold f_X12_refuse
  exact ⟨_, rfl, (SI.f S rfl w830 rfl)⟩
def W_X12_powers_37 : List Nat := [4352]
set_option maxHeartbeats 400000 in
theorem z_X12_powers_37 {fp : Nat → Bool} {b : mH} {m : Nat} {P : mH → Prop} (k : Int32 → mH → Option (mH))   (ff : ∀ c ∈ W_X12_powers_37, fp c = false)  (hk : ∀ (v1 : Int32) (h : mH), SI fp b m h → 0 ≤ v1.toInt → ∃ r, k v1 h = some r ∧ P r) : ∀ (n : Nat) (v1 : Int32) (h : mH), SI fp b m h → 0 ≤ v1.toInt → 2147483648 - v1.toInt < n → ∃ r, f_X12_powers_37 k  n v1 h = some r ∧ P r := by
  have w4352 : fp 4352 = false := ff 4352 (by decide)
  intro n
  induction n with
  | zero =>
    intro v1 h S iv0 hm
    have hz := i32_hi v1
    omega
  | succ n ih =>
    intro v1 h S iv0 hm
    rw [f_X12_powers_37]
    by_cases q1 : v1 < 8
    · rw [if_pos q1]
      have t2 : (8 : Int32).toInt = 8 := by decide
      first | have hx_3 := i32_hi (v1) | skip
      first | have hx_4 := i32_lo (v1) | skip
      first | have f5 : (v1 : Int32).toInt < (8 : Int32).toInt := Int32.lt_iff_toInt_lt.mp q1 | skip
      have q6 : mIn v1 8 = true := (mIn_bd (by omega) (by omega))
      rw [if_pos q6]
      have t7 : (1 : Int32).toInt = 1 := by decide
      first | have o8 : (v1 + 1 : Int32).toInt = (v1 : Int32).toInt + (1 : Int32).toInt := ti_add (by omega) (by omega) | skip
      exact ih (v1 + 1) (uI h 68 0 v1.toNatClampNeg 0) (SI.f S rfl w4352 rfl) (by omega) (by omega)
    · rw [if_neg q1]
      have t9 : (8 : Int32).toInt = 8 := by decide
      first | have hx_10 := i32_hi (v1) | skip
      first | have hx_11 := i32_lo (v1) | skip
      first | have f12 : (8 : Int32).toInt ≤ (v1 : Int32).toInt := Int32.le_iff_toInt_le.mp (Int32.not_lt.mp q1) | skip
      exact hk v1 h S iv0
def W_X12_powers_58 : List Nat := [4032, 4096, 4160, 4224, 4288, 4352]
set_option maxHeartbeats 400000 in
theorem z_X12_powers_58 {fp : Nat → Bool} {b : mH} {m : Nat} {P : mH → Prop} (k : Int32 → mH → Option (mH))   (ff : ∀ c ∈ W_X12_powers_58, fp c = false)  (hk : ∀ (v1 : Int32) (h : mH), SI fp b m h → 0 ≤ v1.toInt → ∃ r, k v1 h = some r ∧ P r) : ∀ (n : Nat) (v1 : Int32) (h : mH), SI fp b m h → 0 ≤ v1.toInt → 2147483648 - v1.toInt < n → ∃ r, f_X12_powers_58 k  n v1 h = some r ∧ P r := by
  have w4032 : fp 4032 = false := ff 4032 (by decide)
  have w4096 : fp 4096 = false := ff 4096 (by decide)
  have w4160 : fp 4160 = false := ff 4160 (by decide)
  have w4224 : fp 4224 = false := ff 4224 (by decide)
  have w4288 : fp 4288 = false := ff 4288 (by decide)
  have w4352 : fp 4352 = false := ff 4352 (by decide)
  intro n
  induction n with
  | zero =>
    intro v1 h S iv0 hm
    have hz := i32_hi v1
    omega
  | succ n ih =>
    intro v1 h S iv0 hm
    rw [f_X12_powers_58]
    by_cases q1 : v1 < (h.1 12 0 2)
    · rw [if_pos q1]
      have b2 : 0 ≤ (h.1 12 0 2).toInt ∧ (h.1 12 0 2).toInt ≤ 24 := (S).1 12 0 2
      first | have hx_3 := i32_hi (v1) | skip
      first | have hx_4 := i32_lo (v1) | skip
      first | have hx_5 := i32_hi (h.1 12 0 2) | skip
      first | have hx_6 := i32_lo (h.1 12 0 2) | skip
      first | have f7 : (v1 : Int32).toInt < (h.1 12 0 2 : Int32).toInt := Int32.lt_iff_toInt_lt.mp q1 | skip
      have q8 : mIn v1 24 = true := (mIn_bd (by omega) (by omega))
      rw [if_pos q8]
      refine let_ex (fun h13 e_h13 => ?_)
      have S_h13 : SI fp b m h13 := e_h13 ▸ (SI.f S rfl w4032 rfl)
      refine let_ex (fun h14 e_h14 => ?_)
      have S_h14 : SI fp b m h14 := e_h14 ▸ (SI.f S_h13 rfl w4096 rfl)
      refine let_ex (fun h15 e_h15 => ?_)
      have S_h15 : SI fp b m h15 := e_h15 ▸ (SI.f S_h14 rfl w4160 rfl)
      refine let_ex (fun h16 e_h16 => ?_)
      have S_h16 : SI fp b m h16 := e_h16 ▸ (SI.f S_h15 rfl w4224 rfl)
      refine let_ex (fun h17 e_h17 => ?_)
      have S_h17 : SI fp b m h17 := e_h17 ▸ (SI.f S_h16 rfl w4288 rfl)
      have b9 : 0 ≤ (h17.1 46 0 v1.toNatClampNeg).toInt ∧ (h17.1 46 0 v1.toNatClampNeg).toInt ≤ 7 := (S_h17).1 46 0 v1.toNatClampNeg
      have l10 : (h17.1 46 0 v1.toNatClampNeg).toInt = (h16.1 46 0 v1.toNatClampNeg).toInt := by rw [← e_h17, uI_t _ rfl]
      have b11 : 0 ≤ (h16.1 46 0 v1.toNatClampNeg).toInt ∧ (h16.1 46 0 v1.toNatClampNeg).toInt ≤ 7 := (S_h16).1 46 0 v1.toNatClampNeg
      have l12 : (h16.1 46 0 v1.toNatClampNeg).toInt = (h15.1 46 0 v1.toNatClampNeg).toInt := by rw [← e_h16, uI_t _ rfl]
      have b13 : 0 ≤ (h15.1 46 0 v1.toNatClampNeg).toInt ∧ (h15.1 46 0 v1.toNatClampNeg).toInt ≤ 7 := (S_h15).1 46 0 v1.toNatClampNeg
      have l14 : (h15.1 46 0 v1.toNatClampNeg).toInt = (h14.1 46 0 v1.toNatClampNeg).toInt := by rw [← e_h15, uI_t _ rfl]
      have b15 : 0 ≤ (h14.1 46 0 v1.toNatClampNeg).toInt ∧ (h14.1 46 0 v1.toNatClampNeg).toInt ≤ 7 := (S_h14).1 46 0 v1.toNatClampNeg
      have l16 : (h14.1 46 0 v1.toNatClampNeg).toInt = (h13.1 46 0 v1.toNatClampNeg).toInt := by rw [← e_h14, uI_t _ rfl]
      have b17 : 0 ≤ (h13.1 46 0 v1.toNatClampNeg).toInt ∧ (h13.1 46 0 v1.toNatClampNeg).toInt ≤ 7 := (S_h13).1 46 0 v1.toNatClampNeg
      have l18 : (h13.1 46 0 v1.toNatClampNeg).toInt = (h.1 46 0 v1.toNatClampNeg).toInt := by rw [← e_h13, uI_t _ rfl]
      have b19 : 0 ≤ (h.1 46 0 v1.toNatClampNeg).toInt ∧ (h.1 46 0 v1.toNatClampNeg).toInt ≤ 7 := (S).1 46 0 v1.toNatClampNeg
      have q20 : mIn (h17.1 46 0 v1.toNatClampNeg) 8 = true := (mIn_bd (by omega) (by omega))
      rw [if_pos q20]
      by_cases q21 : (h17.1 49 0 v1.toNatClampNeg) = 0
      · rw [if_pos q21]
        have l22 : (h17.1 49 0 v1.toNatClampNeg).toInt = (h16.1 49 0 v1.toNatClampNeg).toInt := by rw [← e_h17, uI_t _ rfl]
        have l23 : (h16.1 49 0 v1.toNatClampNeg).toInt = (h15.1 49 0 v1.toNatClampNeg).toInt := by rw [← e_h16, uI_t _ rfl]
        have l24 : (h15.1 49 0 v1.toNatClampNeg).toInt = (h14.1 49 0 v1.toNatClampNeg).toInt := by rw [← e_h15, uI_t _ rfl]
        have l25 : (h14.1 49 0 v1.toNatClampNeg).toInt = (h13.1 49 0 v1.toNatClampNeg).toInt := by rw [← e_h14, uI_t _ rfl]
        have l26 : (h13.1 49 0 v1.toNatClampNeg).toInt = (h.1 49 0 v1.toNatClampNeg).toInt := by rw [← e_h13, uI_t _ rfl]
        have t27 : (0 : Int32).toInt = 0 := by decide
        first | have hx_28 := i32_hi (h17.1 49 0 v1.toNatClampNeg) | skip
        first | have hx_29 := i32_lo (h17.1 49 0 v1.toNatClampNeg) | skip
        first | have f30 : (h17.1 49 0 v1.toNatClampNeg : Int32).toInt = (0 : Int32).toInt := congrArg Int32.toInt q21 | skip
        have t31 : (1 : Int32).toInt = 1 := by decide
        first | have o32 : (v1 + 1 : Int32).toInt = (v1 : Int32).toInt + (1 : Int32).toInt := ti_add (by omega) (by omega) | skip
        exact ih (v1 + 1) (uI h17 68 0 (h17.1 46 0 v1.toNatClampNeg).toNatClampNeg ((h17.1 68 0 (h17.1 46 0 v1.toNatClampNeg).toNatClampNeg) ||| ((h17.1 50 0 v1.toNatClampNeg) <<< ((h17.1 47 0 v1.toNatClampNeg) &&& 31)))) (SI.f S_h17 rfl w4352 rfl) (by omega) (by omega)
      · rw [if_neg q21]
        have l33 : (h17.1 49 0 v1.toNatClampNeg).toInt = (h16.1 49 0 v1.toNatClampNeg).toInt := by rw [← e_h17, uI_t _ rfl]
        have l34 : (h16.1 49 0 v1.toNatClampNeg).toInt = (h15.1 49 0 v1.toNatClampNeg).toInt := by rw [← e_h16, uI_t _ rfl]
        have l35 : (h15.1 49 0 v1.toNatClampNeg).toInt = (h14.1 49 0 v1.toNatClampNeg).toInt := by rw [← e_h15, uI_t _ rfl]
        have l36 : (h14.1 49 0 v1.toNatClampNeg).toInt = (h13.1 49 0 v1.toNatClampNeg).toInt := by rw [← e_h14, uI_t _ rfl]
        have l37 : (h13.1 49 0 v1.toNatClampNeg).toInt = (h.1 49 0 v1.toNatClampNeg).toInt := by rw [← e_h13, uI_t _ rfl]
        have t38 : (0 : Int32).toInt = 0 := by decide
        first | have hx_39 := i32_hi (h17.1 49 0 v1.toNatClampNeg) | skip
        first | have hx_40 := i32_lo (h17.1 49 0 v1.toNatClampNeg) | skip
        first | have f41 : (h17.1 49 0 v1.toNatClampNeg : Int32).toInt ≠ (0 : Int32).toInt := ti_ne q21 | skip
        by_cases q42 : (h17.1 49 0 v1.toNatClampNeg) = 5
        · rw [if_pos q42]
          have t43 : (5 : Int32).toInt = 5 := by decide
          first | have f44 : (h17.1 49 0 v1.toNatClampNeg : Int32).toInt = (5 : Int32).toInt := congrArg Int32.toInt q42 | skip
          have t45 : (1 : Int32).toInt = 1 := by decide
          first | have o46 : (v1 + 1 : Int32).toInt = (v1 : Int32).toInt + (1 : Int32).toInt := ti_add (by omega) (by omega) | skip
          exact ih (v1 + 1) (uI h17 68 0 (h17.1 46 0 v1.toNatClampNeg).toNatClampNeg ((h17.1 68 0 (h17.1 46 0 v1.toNatClampNeg).toNatClampNeg) ||| ((h17.1 50 0 v1.toNatClampNeg) <<< ((h17.1 47 0 v1.toNatClampNeg) &&& 31)))) (SI.f S_h17 rfl w4352 rfl) (by omega) (by omega)
        · rw [if_neg q42]
          have t47 : (5 : Int32).toInt = 5 := by decide
          first | have f48 : (h17.1 49 0 v1.toNatClampNeg : Int32).toInt ≠ (5 : Int32).toInt := ti_ne q42 | skip
          have t49 : (1 : Int32).toInt = 1 := by decide
          first | have o50 : (v1 + 1 : Int32).toInt = (v1 : Int32).toInt + (1 : Int32).toInt := ti_add (by omega) (by omega) | skip
          exact ih (v1 + 1) (uI h17 68 0 (h17.1 46 0 v1.toNatClampNeg).toNatClampNeg ((h17.1 68 0 (h17.1 46 0 v1.toNatClampNeg).toNatClampNeg) ||| 0)) (SI.f S_h17 rfl w4352 rfl) (by omega) (by omega)
    · rw [if_neg q1]
      have b51 : 0 ≤ (h.1 12 0 2).toInt ∧ (h.1 12 0 2).toInt ≤ 24 := (S).1 12 0 2
      first | have hx_52 := i32_hi (v1) | skip
      first | have hx_53 := i32_lo (v1) | skip
      first | have hx_54 := i32_hi (h.1 12 0 2) | skip
      first | have hx_55 := i32_lo (h.1 12 0 2) | skip
      first | have f56 : (h.1 12 0 2 : Int32).toInt ≤ (v1 : Int32).toInt := Int32.le_iff_toInt_le.mp (Int32.not_lt.mp q1) | skip
      exact hk v1 h S iv0
def W_X12_powers : List Nat := [791, 798, 802, 803, 804, 805, 806, 4032, 4096, 4160, 4224, 4288, 4352, 9999]
set_option maxHeartbeats 400000 in
theorem z_X12_powers {fp : Nat → Bool} {b : mH} {m : Nat}  (h : mH) (S : SI fp b m h) (ff : ∀ c ∈ W_X12_powers, fp c = false)  : ∃ r, f_X12_powers h = some r ∧ SI fp b m r := by
  have ff_X12_powers_37 : ∀ c ∈ W_X12_powers_37, fp c = false := fun c hc => ff c ((by decide : ∀ c ∈ W_X12_powers_37, c ∈ W_X12_powers) c hc)
  have ff_X12_powers_58 : ∀ c ∈ W_X12_powers_58, fp c = false := fun c hc => ff c ((by decide : ∀ c ∈ W_X12_powers_58, c ∈ W_X12_powers) c hc)
  have w791 : fp 791 = false := ff 791 (by decide)
  have w798 : fp 798 = false := ff 798 (by decide)
  have w802 : fp 802 = false := ff 802 (by decide)
  have w803 : fp 803 = false := ff 803 (by decide)
  have w804 : fp 804 = false := ff 804 (by decide)
  have w805 : fp 805 = false := ff 805 (by decide)
  have w806 : fp 806 = false := ff 806 (by decide)
  have w9999 : fp 9999 = false := ff 9999 (by decide)
  unfold f_X12_powers
  refine let_ex (fun h1 e_h1 => ?_)
  have S_h1 : SI fp b m h1 := e_h1 ▸ (SI.un S w9999 w791)
  have t1 : (0 : Int32).toInt = 0 := by decide
  have w_2 : 0 ≤ (0 : Int32).toInt ∧ (0 : Int32).toInt ≤ 16 := by omega
  refine let_ex (fun h2 e_h2 => ?_)
  have S_h2 : SI fp b m h2 := e_h2 ▸ (SI.u S_h1 rfl w798 w_2)
  refine let_ex (fun h3 e_h3 => ?_)
  have S_h3 : SI fp b m h3 := e_h3 ▸ (SI.f S_h2 rfl w802 rfl)
  refine let_ex (fun h4 e_h4 => ?_)
  have S_h4 : SI fp b m h4 := e_h4 ▸ (SI.f S_h3 rfl w803 rfl)
  refine let_ex (fun h5 e_h5 => ?_)
  have S_h5 : SI fp b m h5 := e_h5 ▸ (SI.f S_h4 rfl w804 rfl)
  refine let_ex (fun h6 e_h6 => ?_)
  have S_h6 : SI fp b m h6 := e_h6 ▸ (SI.f S_h5 rfl w805 rfl)
  obtain ⟨g3, e_g3⟩ : ∃ g, uI h6 12 0 38 0 = g := ⟨_, rfl⟩
  rw [e_g3]
  have S_g3 : SI fp b m g3 := e_g3 ▸ (SI.f S_h6 rfl w806 rfl)
  refine z_X12_powers_37 (m := m) _   ff_X12_powers_37  (fun u9 h10 S_h10 y4 => ?_)  mFu 0 g3 S_g3 (by omega) (by have := mFu_big; omega)
  try dsimp only
  refine z_X12_powers_58 (m := m) _   ff_X12_powers_58  (fun u21 h22 S_h22 y5 => ?_)  mFu 0 h10 S_h10 (by omega) (by have := mFu_big; omega)
  try dsimp only
  exact ⟨_, rfl, S_h22⟩
def W_X12_changed : List Nat := [791, 798, 802, 803, 804, 805, 806, 823, 4032, 4096, 4160, 4224, 4288, 4352, 9999]
set_option maxHeartbeats 400000 in
theorem z_X12_changed {fp : Nat → Bool} {b : mH} {m : Nat}  (h : mH) (S : SI fp b m h) (ff : ∀ c ∈ W_X12_changed, fp c = false)  : ∃ r, f_X12_changed h = some r ∧ SI fp b m r := by
  have ff_X12_powers : ∀ c ∈ W_X12_powers, fp c = false := fun c hc => ff c ((by decide : ∀ c ∈ W_X12_powers, c ∈ W_X12_changed) c hc)
  have w823 : fp 823 = false := ff 823 (by decide)
  unfold f_X12_changed
  obtain ⟨g1, e_g1⟩ : ∃ g, uI h 12 0 55 ((h.1 12 0 55) + 1) = g := ⟨_, rfl⟩
  rw [e_g1]
  have S_g1 : SI fp b m g1 := e_g1 ▸ (SI.f S rfl w823 rfl)
  obtain ⟨r1, e_r1, S_r1⟩ := z_X12_powers  g1 S_g1 ff_X12_powers 
  rw [e_r1, Option.bind_some]
  exact ⟨_, rfl, S_r1⟩
def W_X12_begin : List Nat := [769, 770, 779, 784, 790, 791, 798, 802, 803, 804, 805, 806, 823, 825, 830, 4032, 4096, 4160, 4224, 4288, 4352, 9999]
set_option maxHeartbeats 400000 in
theorem z_X12_begin {fp : Nat → Bool} {b : mH} {m : Nat} (x1 : Int32) (h : mH) (S : SI fp b m h) (ff : ∀ c ∈ W_X12_begin, fp c = false)  : ∃ r, f_X12_begin x1 h = some r ∧ SI fp b m r.2 := by
  have ff_X12_changed : ∀ c ∈ W_X12_changed, fp c = false := fun c hc => ff c ((by decide : ∀ c ∈ W_X12_changed, c ∈ W_X12_begin) c hc)
  have w769 : fp 769 = false := ff 769 (by decide)
  have w770 : fp 770 = false := ff 770 (by decide)
  have w779 : fp 779 = false := ff 779 (by decide)
  have w784 : fp 784 = false := ff 784 (by decide)
  have w790 : fp 790 = false := ff 790 (by decide)
  have w825 : fp 825 = false := ff 825 (by decide)
  have w830 : fp 830 = false := ff 830 (by decide)
  unfold f_X12_begin
  have t1 : (1 : Int32).toInt = 1 := by decide
  have t2 : (8 : Int32).toInt = 8 := by decide
  obtain ⟨⟨r1v, r1h⟩, e_r1, (hh_r1 : r1h = h), p_r1_0, p_r1_1⟩ := z_X12_in x1 1 8 h S  
  replace hh_r1 := hh_r1.symm
  subst hh_r1
  dsimp only at p_r1_0 p_r1_1
  have bb_r1 := bool_bd p_r1_0
  rw [e_r1, Option.bind_some]
  try dsimp only
  by_cases q3 : r1v = 0
  · rw [if_pos q3]
    have t4 : (0 : Int32).toInt = 0 := by decide
    first | have hx_5 := i32_hi (r1v) | skip
    first | have hx_6 := i32_lo (r1v) | skip
    first | have f7 : (r1v : Int32).toInt = (0 : Int32).toInt := congrArg Int32.toInt q3 | skip
    exact ⟨_, rfl, S⟩
  · rw [if_neg q3]
    have t8 : (0 : Int32).toInt = 0 := by decide
    first | have hx_9 := i32_hi (r1v) | skip
    first | have hx_10 := i32_lo (r1v) | skip
    first | have f11 : (r1v : Int32).toInt ≠ (0 : Int32).toInt := ti_ne q3 | skip
    have w_12 : 1 ≤ (x1 : Int32).toInt ∧ (x1 : Int32).toInt ≤ 8 := by omega
    refine let_ex (fun h3 e_h3 => ?_)
    have S_h3 : SI fp b m h3 := e_h3 ▸ (SI.u S rfl w769 w_12)
    have w_13 : 0 ≤ (0 : Int32).toInt ∧ (0 : Int32).toInt ≤ 24 := by omega
    refine let_ex (fun h4 e_h4 => ?_)
    have S_h4 : SI fp b m h4 := e_h4 ▸ (SI.u S_h3 rfl w770 w_13)
    have w_14 : 0 ≤ (0 : Int32).toInt ∧ (0 : Int32).toInt ≤ 12 := by omega
    refine let_ex (fun h5 e_h5 => ?_)
    have S_h5 : SI fp b m h5 := e_h5 ▸ (SI.u S_h4 rfl w779 w_14)
    have w_15 : 0 ≤ (0 : Int32).toInt ∧ (0 : Int32).toInt ≤ 6 := by omega
    refine let_ex (fun h6 e_h6 => ?_)
    have S_h6 : SI fp b m h6 := e_h6 ▸ (SI.u S_h5 rfl w784 w_15)
    refine let_ex (fun h7 e_h7 => ?_)
    have S_h7 : SI fp b m h7 := e_h7 ▸ (SI.f S_h6 rfl w790 rfl)
    refine let_ex (fun h8 e_h8 => ?_)
    have S_h8 : SI fp b m h8 := e_h8 ▸ (SI.f S_h7 rfl w830 rfl)
    obtain ⟨g16, e_g16⟩ : ∃ g, uI h8 12 0 57 (-1) = g := ⟨_, rfl⟩
    rw [e_g16]
    have S_g16 : SI fp b m g16 := e_g16 ▸ (SI.f S_h8 rfl w825 rfl)
    obtain ⟨r9, e_r9, S_r9⟩ := z_X12_changed  g16 S_g16 ff_X12_changed 
    rw [e_r9, Option.bind_some]
    exact ⟨_, rfl, S_r9⟩
set_option maxHeartbeats 400000 in
theorem z_X12_field_j45 {fp : Nat → Bool} {b : mH} {m : Nat} (w1 : Int32) (w2 : Int32) (w3 : Int32) (w4 : Int32) (w5 : Int32) (h : mH) (S : SI fp b m h)   : ∃ r, f_X12_field_j45 w1 w2 w3 w4 w5 h = some r ∧ r.2 = h := by
  unfold f_X12_field_j45
  exact ⟨_, rfl, rfl⟩
set_option maxHeartbeats 400000 in
theorem z_X12_field_90 {fp : Nat → Bool} {b : mH} {m : Nat} {P : Int32 × mH → Prop} (k : Int32 → Int32 → Int32 → Int32 → Int32 → Int32 → mH → Option (Int32 × mH))  (v1 : Int32) (v2 : Int32) (v3 : Int32) (v4 : Int32) (v5 : Int32) (h : mH) (S : SI fp b m h) (cp0 : (0 ≤ v1.toInt ∧ v1.toInt < 8)) (hk : ∀ (v7 : Int32), 0 ≤ v7.toInt → ∃ r, k v1 v2 v3 v4 v5 v7 h = some r ∧ P r) (he : ∀ rv : Int32, P (rv, h)) : ∀ (n : Nat) (v7 : Int32), 0 ≤ v7.toInt → 2147483648 - v7.toInt < n → ∃ r, f_X12_field_90 k  n v1 v2 v3 v4 v5 v7 h = some r ∧ P r := by
  intro n
  induction n with
  | zero =>
    intro v7 iv0 hm
    have hz := i32_hi v7
    omega
  | succ n ih =>
    intro v7 iv0 hm
    rw [f_X12_field_90]
    by_cases q1 : v7 < (h.1 12 0 2)
    · rw [if_pos q1]
      have b2 : 0 ≤ (h.1 12 0 2).toInt ∧ (h.1 12 0 2).toInt ≤ 24 := (S).1 12 0 2
      first | have hx_3 := i32_hi (v7) | skip
      first | have hx_4 := i32_lo (v7) | skip
      first | have hx_5 := i32_hi (h.1 12 0 2) | skip
      first | have hx_6 := i32_lo (h.1 12 0 2) | skip
      first | have f7 : (v7 : Int32).toInt < (h.1 12 0 2 : Int32).toInt := Int32.lt_iff_toInt_lt.mp q1 | skip
      have q8 : mIn v7 24 = true := (mIn_bd (by omega) (by omega))
      rw [if_pos q8]
      by_cases q9 : (h.1 46 0 v7.toNatClampNeg) = v1
      · rw [if_pos q9]
        have b10 : 0 ≤ (h.1 46 0 v7.toNatClampNeg).toInt ∧ (h.1 46 0 v7.toNatClampNeg).toInt ≤ 7 := (S).1 46 0 v7.toNatClampNeg
        first | have hx_11 := i32_hi (h.1 46 0 v7.toNatClampNeg) | skip
        first | have hx_12 := i32_lo (h.1 46 0 v7.toNatClampNeg) | skip
        first | have hx_13 := i32_hi (v1) | skip
        first | have hx_14 := i32_lo (v1) | skip
        first | have f15 : (h.1 46 0 v7.toNatClampNeg : Int32).toInt = (v1 : Int32).toInt := congrArg Int32.toInt q9 | skip
        obtain ⟨⟨r16v, r16h⟩, e_r16, (hh_r16 : r16h = h)⟩ := z_X12_mask v7 h S  (by omega)
        replace hh_r16 := hh_r16.symm
        subst hh_r16
        rw [e_r16, Option.bind_some]
        try dsimp only
        by_cases q16 : (r16v &&& (((1 <<< (v3 &&& 31)) - 1) <<< (v2 &&& 31))) = 0
        · rw [if_pos q16]
          have t17 : (0 : Int32).toInt = 0 := by decide
          first | have hx_18 := i32_hi (r16v &&& (((1 <<< (v3 &&& 31)) - 1) <<< (v2 &&& 31))) | skip
          first | have hx_19 := i32_lo (r16v &&& (((1 <<< (v3 &&& 31)) - 1) <<< (v2 &&& 31))) | skip
          first | have f20 : (r16v &&& (((1 <<< (v3 &&& 31)) - 1) <<< (v2 &&& 31)) : Int32).toInt = (0 : Int32).toInt := congrArg Int32.toInt q16 | skip
          have t21 : (1 : Int32).toInt = 1 := by decide
          first | have o22 : (v7 + 1 : Int32).toInt = (v7 : Int32).toInt + (1 : Int32).toInt := ti_add (by omega) (by omega) | skip
          exact ih (v7 + 1) (by omega) (by omega)
        · rw [if_neg q16]
          have t23 : (0 : Int32).toInt = 0 := by decide
          first | have hx_24 := i32_hi (r16v &&& (((1 <<< (v3 &&& 31)) - 1) <<< (v2 &&& 31))) | skip
          first | have hx_25 := i32_lo (r16v &&& (((1 <<< (v3 &&& 31)) - 1) <<< (v2 &&& 31))) | skip
          first | have f26 : (r16v &&& (((1 <<< (v3 &&& 31)) - 1) <<< (v2 &&& 31)) : Int32).toInt ≠ (0 : Int32).toInt := ti_ne q16 | skip
          exact ⟨_, rfl, he (-2) ⟩
      · rw [if_neg q9]
        have b27 : 0 ≤ (h.1 46 0 v7.toNatClampNeg).toInt ∧ (h.1 46 0 v7.toNatClampNeg).toInt ≤ 7 := (S).1 46 0 v7.toNatClampNeg
        first | have hx_28 := i32_hi (h.1 46 0 v7.toNatClampNeg) | skip
        first | have hx_29 := i32_lo (h.1 46 0 v7.toNatClampNeg) | skip
        first | have hx_30 := i32_hi (v1) | skip
        first | have hx_31 := i32_lo (v1) | skip
        first | have f32 : (h.1 46 0 v7.toNatClampNeg : Int32).toInt ≠ (v1 : Int32).toInt := ti_ne q9 | skip
        have t33 : (1 : Int32).toInt = 1 := by decide
        first | have o34 : (v7 + 1 : Int32).toInt = (v7 : Int32).toInt + (1 : Int32).toInt := ti_add (by omega) (by omega) | skip
        exact ih (v7 + 1) (by omega) (by omega)
    · rw [if_neg q1]
      have b35 : 0 ≤ (h.1 12 0 2).toInt ∧ (h.1 12 0 2).toInt ≤ 24 := (S).1 12 0 2
      first | have hx_36 := i32_hi (v7) | skip
      first | have hx_37 := i32_lo (v7) | skip
      first | have hx_38 := i32_hi (h.1 12 0 2) | skip
      first | have hx_39 := i32_lo (h.1 12 0 2) | skip
      first | have f40 : (h.1 12 0 2 : Int32).toInt ≤ (v7 : Int32).toInt := Int32.le_iff_toInt_le.mp (Int32.not_lt.mp q1) | skip
      exact hk v7 iv0
def W_X12_field_j87 : List Nat := [770, 791, 798, 802, 803, 804, 805, 806, 823, 2944, 3008, 3072, 3136, 3200, 3264, 3328, 3392, 4032, 4096, 4160, 4224, 4288, 4352, 9999]
set_option maxHeartbeats 400000 in
theorem z_X12_field_j87 {fp : Nat → Bool} {b : mH} {m : Nat} (w1 : Int32) (w2 : Int32) (w3 : Int32) (w4 : Int32) (w5 : Int32) (h : mH) (S : SI fp b m h) (ff : ∀ c ∈ W_X12_field_j87, fp c = false) (pr0 : (0 ≤ w1.toInt ∧ w1.toInt < 8)) : ∃ r, f_X12_field_j87 w1 w2 w3 w4 w5 h = some r ∧ SI fp b m r.2 := by
  have ff_X12_changed : ∀ c ∈ W_X12_changed, fp c = false := fun c hc => ff c ((by decide : ∀ c ∈ W_X12_changed, c ∈ W_X12_field_j87) c hc)
  have w770 : fp 770 = false := ff 770 (by decide)
  have w2944 : fp 2944 = false := ff 2944 (by decide)
  have w3008 : fp 3008 = false := ff 3008 (by decide)
  have w3072 : fp 3072 = false := ff 3072 (by decide)
  have w3136 : fp 3136 = false := ff 3136 (by decide)
  have w3200 : fp 3200 = false := ff 3200 (by decide)
  have w3264 : fp 3264 = false := ff 3264 (by decide)
  have w3328 : fp 3328 = false := ff 3328 (by decide)
  have w3392 : fp 3392 = false := ff 3392 (by decide)
  unfold f_X12_field_j87
  have t1 : (0 : Int32).toInt = 0 := by decide
  refine z_X12_field_90 _  w1 w2 w3 w4 w5 h S pr0 (fun u23 y2 => ?_) (fun rv  => S) mFu 0 (by omega) (by have := mFu_big; omega)
  try dsimp only
  by_cases q3 : (h.1 12 0 2) = 24
  · rw [if_pos q3]
    have b4 : 0 ≤ (h.1 12 0 2).toInt ∧ (h.1 12 0 2).toInt ≤ 24 := (S).1 12 0 2
    have t5 : (24 : Int32).toInt = 24 := by decide
    first | have hx_6 := i32_hi (h.1 12 0 2) | skip
    first | have hx_7 := i32_lo (h.1 12 0 2) | skip
    first | have f8 : (h.1 12 0 2 : Int32).toInt = (24 : Int32).toInt := congrArg Int32.toInt q3 | skip
    exact ⟨_, rfl, S⟩
  · rw [if_neg q3]
    have b9 : 0 ≤ (h.1 12 0 2).toInt ∧ (h.1 12 0 2).toInt ≤ 24 := (S).1 12 0 2
    have t10 : (24 : Int32).toInt = 24 := by decide
    first | have hx_11 := i32_hi (h.1 12 0 2) | skip
    first | have hx_12 := i32_lo (h.1 12 0 2) | skip
    first | have f13 : (h.1 12 0 2 : Int32).toInt ≠ (24 : Int32).toInt := ti_ne q3 | skip
    have q14 : mIn (h.1 12 0 2) 24 = true := (mIn_bd (by omega) (by omega))
    rw [if_pos q14]
    have w_15 : 0 ≤ (w1 : Int32).toInt ∧ (w1 : Int32).toInt ≤ 7 := by omega
    refine let_ex (fun h27 e_h27 => ?_)
    have S_h27 : SI fp b m h27 := e_h27 ▸ (SI.u S rfl w2944 w_15)
    have b16 : 0 ≤ (h27.1 12 0 2).toInt ∧ (h27.1 12 0 2).toInt ≤ 24 := (S_h27).1 12 0 2
    have l17 : (h27.1 12 0 2).toInt = (h.1 12 0 2).toInt := by rw [← e_h27, uI_t _ rfl]
    have q18 : mIn (h27.1 12 0 2) 24 = true := (mIn_bd (by omega) (by omega))
    rw [if_pos q18]
    refine let_ex (fun h29 e_h29 => ?_)
    have S_h29 : SI fp b m h29 := e_h29 ▸ (SI.f S_h27 rfl w3008 rfl)
    have b19 : 0 ≤ (h29.1 12 0 2).toInt ∧ (h29.1 12 0 2).toInt ≤ 24 := (S_h29).1 12 0 2
    have l20 : (h29.1 12 0 2).toInt = (h27.1 12 0 2).toInt := by rw [← e_h29, uI_t _ rfl]
    have q21 : mIn (h29.1 12 0 2) 24 = true := (mIn_bd (by omega) (by omega))
    rw [if_pos q21]
    refine let_ex (fun h31 e_h31 => ?_)
    have S_h31 : SI fp b m h31 := e_h31 ▸ (SI.f S_h29 rfl w3072 rfl)
    have b22 : 0 ≤ (h31.1 12 0 2).toInt ∧ (h31.1 12 0 2).toInt ≤ 24 := (S_h31).1 12 0 2
    have l23 : (h31.1 12 0 2).toInt = (h29.1 12 0 2).toInt := by rw [← e_h31, uI_t _ rfl]
    have q24 : mIn (h31.1 12 0 2) 24 = true := (mIn_bd (by omega) (by omega))
    rw [if_pos q24]
    refine let_ex (fun h33 e_h33 => ?_)
    have S_h33 : SI fp b m h33 := e_h33 ▸ (SI.f S_h31 rfl w3136 rfl)
    have b25 : 0 ≤ (h33.1 12 0 2).toInt ∧ (h33.1 12 0 2).toInt ≤ 24 := (S_h33).1 12 0 2
    have l26 : (h33.1 12 0 2).toInt = (h31.1 12 0 2).toInt := by rw [← e_h33, uI_t _ rfl]
    have q27 : mIn (h33.1 12 0 2) 24 = true := (mIn_bd (by omega) (by omega))
    rw [if_pos q27]
    refine let_ex (fun h35 e_h35 => ?_)
    have S_h35 : SI fp b m h35 := e_h35 ▸ (SI.f S_h33 rfl w3200 rfl)
    have b28 : 0 ≤ (h35.1 12 0 2).toInt ∧ (h35.1 12 0 2).toInt ≤ 24 := (S_h35).1 12 0 2
    have l29 : (h35.1 12 0 2).toInt = (h33.1 12 0 2).toInt := by rw [← e_h35, uI_t _ rfl]
    have q30 : mIn (h35.1 12 0 2) 24 = true := (mIn_bd (by omega) (by omega))
    rw [if_pos q30]
    refine let_ex (fun h37 e_h37 => ?_)
    have S_h37 : SI fp b m h37 := e_h37 ▸ (SI.f S_h35 rfl w3264 rfl)
    have b31 : 0 ≤ (h37.1 12 0 2).toInt ∧ (h37.1 12 0 2).toInt ≤ 24 := (S_h37).1 12 0 2
    have l32 : (h37.1 12 0 2).toInt = (h35.1 12 0 2).toInt := by rw [← e_h37, uI_t _ rfl]
    have q33 : mIn (h37.1 12 0 2) 24 = true := (mIn_bd (by omega) (by omega))
    rw [if_pos q33]
    have t34 : ((-1) : Int32).toInt = (-1) := by decide
    have w_35 : -1 ≤ (-1 : Int32).toInt ∧ (-1 : Int32).toInt ≤ 23 := by omega
    refine let_ex (fun h39 e_h39 => ?_)
    have S_h39 : SI fp b m h39 := e_h39 ▸ (SI.u S_h37 rfl w3328 w_35)
    have b36 : 0 ≤ (h39.1 12 0 2).toInt ∧ (h39.1 12 0 2).toInt ≤ 24 := (S_h39).1 12 0 2
    have l37 : (h39.1 12 0 2).toInt = (h37.1 12 0 2).toInt := by rw [← e_h39, uI_t _ rfl]
    have q38 : mIn (h39.1 12 0 2) 24 = true := (mIn_bd (by omega) (by omega))
    rw [if_pos q38]
    have w_39 : -1 ≤ (-1 : Int32).toInt ∧ (-1 : Int32).toInt ≤ 5 := by omega
    refine let_ex (fun h41 e_h41 => ?_)
    have S_h41 : SI fp b m h41 := e_h41 ▸ (SI.u S_h39 rfl w3392 w_39)
    have b40 : 0 ≤ (h41.1 12 0 2).toInt ∧ (h41.1 12 0 2).toInt ≤ 24 := (S_h41).1 12 0 2
    have l41 : (h41.1 12 0 2).toInt = (h39.1 12 0 2).toInt := by rw [← e_h41, uI_t _ rfl]
    have t42 : (1 : Int32).toInt = 1 := by decide
    first | have o43 : ((h41.1 12 0 2) + 1 : Int32).toInt = (h41.1 12 0 2 : Int32).toInt + (1 : Int32).toInt := ti_add (by omega) (by omega) | skip
    have w_44 : 0 ≤ ((h41.1 12 0 2) + 1 : Int32).toInt ∧ ((h41.1 12 0 2) + 1 : Int32).toInt ≤ 24 := by omega
    obtain ⟨g45, e_g45⟩ : ∃ g, uI h41 12 0 2 ((h41.1 12 0 2) + 1) = g := ⟨_, rfl⟩
    rw [e_g45]
    have S_g45 : SI fp b m g45 := e_g45 ▸ (SI.u S_h41 rfl w770 w_44)
    obtain ⟨r42, e_r42, S_r42⟩ := z_X12_changed  g45 S_g45 ff_X12_changed 
    rw [e_r42, Option.bind_some]
    exact ⟨_, rfl, S_r42⟩
def W_X12_field_j80 : List Nat := [770, 791, 798, 802, 803, 804, 805, 806, 823, 2944, 3008, 3072, 3136, 3200, 3264, 3328, 3392, 4032, 4096, 4160, 4224, 4288, 4352, 9999]
set_option maxHeartbeats 400000 in
theorem z_X12_field_j80 {fp : Nat → Bool} {b : mH} {m : Nat} (w1 : Int32) (w2 : Int32) (w3 : Int32) (w4 : Int32) (w5 : Int32) (h : mH) (S : SI fp b m h) (ff : ∀ c ∈ W_X12_field_j80, fp c = false) (pr0 : (0 ≤ w1.toInt ∧ w1.toInt < 8)) : ∃ r, f_X12_field_j80 w1 w2 w3 w4 w5 h = some r ∧ SI fp b m r.2 := by
  have ff_X12_field_j87 : ∀ c ∈ W_X12_field_j87, fp c = false := fun c hc => ff c ((by decide : ∀ c ∈ W_X12_field_j87, c ∈ W_X12_field_j80) c hc)
  unfold f_X12_field_j80
  by_cases q1 : w5 = 0
  · rw [if_pos q1]
    have t2 : (0 : Int32).toInt = 0 := by decide
    first | have hx_3 := i32_hi (w5) | skip
    first | have hx_4 := i32_lo (w5) | skip
    first | have f5 : (w5 : Int32).toInt = (0 : Int32).toInt := congrArg Int32.toInt q1 | skip
    obtain ⟨rr6, e_rr6, S_rr6⟩ := z_X12_field_j87 w1 w2 w3 w4 w5 h S ff_X12_field_j87 pr0
    rw [e_rr6]
    exact ⟨_, rfl, S_rr6⟩
  · rw [if_neg q1]
    have t7 : (0 : Int32).toInt = 0 := by decide
    first | have hx_8 := i32_hi (w5) | skip
    first | have hx_9 := i32_lo (w5) | skip
    first | have f10 : (w5 : Int32).toInt ≠ (0 : Int32).toInt := ti_ne q1 | skip
    exact ⟨_, rfl, S⟩
def W_X12_field : List Nat := [770, 791, 798, 802, 803, 804, 805, 806, 823, 2944, 3008, 3072, 3136, 3200, 3264, 3328, 3392, 4032, 4096, 4160, 4224, 4288, 4352, 9999]
set_option maxHeartbeats 400000 in
theorem z_X12_field {fp : Nat → Bool} {b : mH} {m : Nat} (x1 : Int32) (x2 : Int32) (x3 : Int32) (x4 : Int32) (x5 : Int32) (h : mH) (S : SI fp b m h) (ff : ∀ c ∈ W_X12_field, fp c = false)  : ∃ r, f_X12_field x1 x2 x3 x4 x5 h = some r ∧ SI fp b m r.2 := by
  have ff_X12_field_j80 : ∀ c ∈ W_X12_field_j80, fp c = false := fun c hc => ff c ((by decide : ∀ c ∈ W_X12_field_j80, c ∈ W_X12_field) c hc)
  have ff_X12_field_j87 : ∀ c ∈ W_X12_field_j87, fp c = false := fun c hc => ff c ((by decide : ∀ c ∈ W_X12_field_j87, c ∈ W_X12_field) c hc)
  unfold f_X12_field
  obtain ⟨⟨r1v, r1h⟩, e_r1, (hh_r1 : r1h = h), p_r1_0, p_r1_1⟩ := z_X12_isRegister x1 h S  
  replace hh_r1 := hh_r1.symm
  subst hh_r1
  dsimp only at p_r1_0 p_r1_1
  have bb_r1 := bool_bd p_r1_0
  rw [e_r1, Option.bind_some]
  try dsimp only
  by_cases q1 : r1v = 0
  · rw [if_pos q1]
    have t2 : (0 : Int32).toInt = 0 := by decide
    first | have hx_3 := i32_hi (r1v) | skip
    first | have hx_4 := i32_lo (r1v) | skip
    first | have f5 : (r1v : Int32).toInt = (0 : Int32).toInt := congrArg Int32.toInt q1 | skip
    obtain ⟨⟨rr6v, rr6h⟩, e_rr6, (hh_rr6 : rr6h = h)⟩ := z_X12_field_j45 x1 x2 x3 x4 x5 h S  
    replace hh_rr6 := hh_rr6.symm
    subst hh_rr6
    rw [e_rr6]
    exact ⟨_, rfl, S⟩
  · rw [if_neg q1]
    have t7 : (0 : Int32).toInt = 0 := by decide
    first | have hx_8 := i32_hi (r1v) | skip
    first | have hx_9 := i32_lo (r1v) | skip
    first | have f10 : (r1v : Int32).toInt ≠ (0 : Int32).toInt := ti_ne q1 | skip
    have t11 : (6 : Int32).toInt = 6 := by decide
    obtain ⟨⟨r3v, r3h⟩, e_r3, (hh_r3 : r3h = h), p_r3_0, p_r3_1⟩ := z_X12_in x4 0 6 h S  
    replace hh_r3 := hh_r3.symm
    subst hh_r3
    dsimp only at p_r3_0 p_r3_1
    have bb_r3 := bool_bd p_r3_0
    rw [e_r3, Option.bind_some]
    try dsimp only
    by_cases q12 : r3v = 0
    · rw [if_pos q12]
      first | have hx_13 := i32_hi (r3v) | skip
      first | have hx_14 := i32_lo (r3v) | skip
      first | have f15 : (r3v : Int32).toInt = (0 : Int32).toInt := congrArg Int32.toInt q12 | skip
      obtain ⟨⟨rr16v, rr16h⟩, e_rr16, (hh_rr16 : rr16h = h)⟩ := z_X12_field_j45 x1 x2 x3 x4 x5 h S  
      replace hh_rr16 := hh_rr16.symm
      subst hh_rr16
      rw [e_rr16]
      exact ⟨_, rfl, S⟩
    · rw [if_neg q12]
      first | have hx_17 := i32_hi (r3v) | skip
      first | have hx_18 := i32_lo (r3v) | skip
      first | have f19 : (r3v : Int32).toInt ≠ (0 : Int32).toInt := ti_ne q12 | skip
      by_cases q20 : x2 < 0
      · rw [if_pos q20]
        first | have hx_21 := i32_hi (x2) | skip
        first | have hx_22 := i32_lo (x2) | skip
        first | have f23 : (x2 : Int32).toInt < (0 : Int32).toInt := Int32.lt_iff_toInt_lt.mp q20 | skip
        obtain ⟨⟨rr24v, rr24h⟩, e_rr24, (hh_rr24 : rr24h = h)⟩ := z_X12_field_j45 x1 x2 x3 x4 x5 h S  
        replace hh_rr24 := hh_rr24.symm
        subst hh_rr24
        rw [e_rr24]
        exact ⟨_, rfl, S⟩
      · rw [if_neg q20]
        first | have hx_25 := i32_hi (x2) | skip
        first | have hx_26 := i32_lo (x2) | skip
        first | have f27 : (0 : Int32).toInt ≤ (x2 : Int32).toInt := Int32.le_iff_toInt_le.mp (Int32.not_lt.mp q20) | skip
        have t28 : (1 : Int32).toInt = 1 := by decide
        have t29 : (8 : Int32).toInt = 8 := by decide
        obtain ⟨⟨r6v, r6h⟩, e_r6, (hh_r6 : r6h = h), p_r6_0, p_r6_1⟩ := z_X12_in x3 1 8 h S  
        replace hh_r6 := hh_r6.symm
        subst hh_r6
        dsimp only at p_r6_0 p_r6_1
        have bb_r6 := bool_bd p_r6_0
        rw [e_r6, Option.bind_some]
        try dsimp only
        by_cases q30 : r6v = 0
        · rw [if_pos q30]
          first | have hx_31 := i32_hi (r6v) | skip
          first | have hx_32 := i32_lo (r6v) | skip
          first | have f33 : (r6v : Int32).toInt = (0 : Int32).toInt := congrArg Int32.toInt q30 | skip
          obtain ⟨⟨rr34v, rr34h⟩, e_rr34, (hh_rr34 : rr34h = h)⟩ := z_X12_field_j45 x1 x2 x3 x4 x5 h S  
          replace hh_rr34 := hh_rr34.symm
          subst hh_rr34
          rw [e_rr34]
          exact ⟨_, rfl, S⟩
        · rw [if_neg q30]
          first | have hx_35 := i32_hi (r6v) | skip
          first | have hx_36 := i32_lo (r6v) | skip
          first | have f37 : (r6v : Int32).toInt ≠ (0 : Int32).toInt := ti_ne q30 | skip
          by_cases q38 : x2 ≤ (16 - x3)
          · rw [if_pos q38]
            have t39 : (16 : Int32).toInt = 16 := by decide
            first | have o40 : (16 - x3 : Int32).toInt = (16 : Int32).toInt - (x3 : Int32).toInt := ti_sub (by omega) (by omega) | skip
            first | have hx_41 := i32_hi (16 - x3) | skip
            first | have hx_42 := i32_lo (16 - x3) | skip
            first | have f43 : (x2 : Int32).toInt ≤ (16 - x3 : Int32).toInt := Int32.le_iff_toInt_le.mp q38 | skip
            first | have o44 : ((1 <<< (x3 &&& 31)) - 1 : Int32).toInt = (1 <<< (x3 &&& 31) : Int32).toInt - (1 : Int32).toInt := ti_sub (by omega) (by omega) | skip
            obtain ⟨⟨r9v, r9h⟩, e_r9, (hh_r9 : r9h = h), p_r9_0, p_r9_1⟩ := z_X12_in x5 0 ((1 <<< (x3 &&& 31)) - 1) h S  
            replace hh_r9 := hh_r9.symm
            subst hh_r9
            dsimp only at p_r9_0 p_r9_1
            have bb_r9 := bool_bd p_r9_0
            rw [e_r9, Option.bind_some]
            try dsimp only
            by_cases q45 : r9v = 0
            · rw [if_pos q45]
              first | have hx_46 := i32_hi (r9v) | skip
              first | have hx_47 := i32_lo (r9v) | skip
              first | have f48 : (r9v : Int32).toInt = (0 : Int32).toInt := congrArg Int32.toInt q45 | skip
              exact ⟨_, rfl, S⟩
            · rw [if_neg q45]
              first | have hx_49 := i32_hi (r9v) | skip
              first | have hx_50 := i32_lo (r9v) | skip
              first | have f51 : (r9v : Int32).toInt ≠ (0 : Int32).toInt := ti_ne q45 | skip
              by_cases q52 : x4 = 4
              · rw [if_pos q52]
                have t53 : (4 : Int32).toInt = 4 := by decide
                first | have hx_54 := i32_hi (x4) | skip
                first | have hx_55 := i32_lo (x4) | skip
                first | have f56 : (x4 : Int32).toInt = (4 : Int32).toInt := congrArg Int32.toInt q52 | skip
                obtain ⟨rr57, e_rr57, S_rr57⟩ := z_X12_field_j80 x1 x2 x3 x4 x5 h S ff_X12_field_j80 (by omega)
                rw [e_rr57]
                exact ⟨_, rfl, S_rr57⟩
              · rw [if_neg q52]
                have t58 : (4 : Int32).toInt = 4 := by decide
                first | have hx_59 := i32_hi (x4) | skip
                first | have hx_60 := i32_lo (x4) | skip
                first | have f61 : (x4 : Int32).toInt ≠ (4 : Int32).toInt := ti_ne q52 | skip
                by_cases q62 : x4 = 6
                · rw [if_pos q62]
                  first | have f63 : (x4 : Int32).toInt = (6 : Int32).toInt := congrArg Int32.toInt q62 | skip
                  obtain ⟨rr64, e_rr64, S_rr64⟩ := z_X12_field_j80 x1 x2 x3 x4 x5 h S ff_X12_field_j80 (by omega)
                  rw [e_rr64]
                  exact ⟨_, rfl, S_rr64⟩
                · rw [if_neg q62]
                  first | have f65 : (x4 : Int32).toInt ≠ (6 : Int32).toInt := ti_ne q62 | skip
                  obtain ⟨rr66, e_rr66, S_rr66⟩ := z_X12_field_j87 x1 x2 x3 x4 x5 h S ff_X12_field_j87 (by omega)
                  rw [e_rr66]
                  exact ⟨_, rfl, S_rr66⟩
          · rw [if_neg q38]
            have t67 : (16 : Int32).toInt = 16 := by decide
            first | have o68 : (16 - x3 : Int32).toInt = (16 : Int32).toInt - (x3 : Int32).toInt := ti_sub (by omega) (by omega) | skip
            first | have hx_69 := i32_hi (16 - x3) | skip
            first | have hx_70 := i32_lo (16 - x3) | skip
            first | have f71 : (16 - x3 : Int32).toInt < (x2 : Int32).toInt := Int32.lt_iff_toInt_lt.mp (Int32.not_le.mp q38) | skip
            obtain ⟨⟨rr72v, rr72h⟩, e_rr72, (hh_rr72 : rr72h = h)⟩ := z_X12_field_j45 x1 x2 x3 x4 x5 h S  
            replace hh_rr72 := hh_rr72.symm
            subst hh_rr72
            rw [e_rr72]
            exact ⟨_, rfl, S⟩
def W_X12_period : List Nat := [791, 798, 802, 803, 804, 805, 806, 823, 3264, 4032, 4096, 4160, 4224, 4288, 4352, 9999]
set_option maxHeartbeats 400000 in
theorem z_X12_period {fp : Nat → Bool} {b : mH} {m : Nat} (x1 : Int32) (x2 : Int32) (h : mH) (S : SI fp b m h) (ff : ∀ c ∈ W_X12_period, fp c = false)  : ∃ r, f_X12_period x1 x2 h = some r ∧ SI fp b m r.2 := by
  have ff_X12_changed : ∀ c ∈ W_X12_changed, fp c = false := fun c hc => ff c ((by decide : ∀ c ∈ W_X12_changed, c ∈ W_X12_period) c hc)
  have w3264 : fp 3264 = false := ff 3264 (by decide)
  unfold f_X12_period
  obtain ⟨⟨r1v, r1h⟩, e_r1, (hh_r1 : r1h = h), p_r1_0, p_r1_1⟩ := z_X12_isField x1 h S  
  replace hh_r1 := hh_r1.symm
  subst hh_r1
  dsimp only at p_r1_0 p_r1_1
  have bb_r1 := bool_bd p_r1_0
  rw [e_r1, Option.bind_some]
  try dsimp only
  by_cases q1 : r1v = 0
  · rw [if_pos q1]
    have t2 : (0 : Int32).toInt = 0 := by decide
    first | have hx_3 := i32_hi (r1v) | skip
    first | have hx_4 := i32_lo (r1v) | skip
    first | have f5 : (r1v : Int32).toInt = (0 : Int32).toInt := congrArg Int32.toInt q1 | skip
    exact ⟨_, rfl, S⟩
  · rw [if_neg q1]
    have t6 : (0 : Int32).toInt = 0 := by decide
    first | have hx_7 := i32_hi (r1v) | skip
    first | have hx_8 := i32_lo (r1v) | skip
    first | have f9 : (r1v : Int32).toInt ≠ (0 : Int32).toInt := ti_ne q1 | skip
    have t10 : (1 : Int32).toInt = 1 := by decide
    have t11 : (9 : Int32).toInt = 9 := by decide
    obtain ⟨⟨r3v, r3h⟩, e_r3, (hh_r3 : r3h = h), p_r3_0, p_r3_1⟩ := z_X12_in x2 1 9 h S  
    replace hh_r3 := hh_r3.symm
    subst hh_r3
    dsimp only at p_r3_0 p_r3_1
    have bb_r3 := bool_bd p_r3_0
    rw [e_r3, Option.bind_some]
    try dsimp only
    by_cases q12 : r3v = 0
    · rw [if_pos q12]
      first | have hx_13 := i32_hi (r3v) | skip
      first | have hx_14 := i32_lo (r3v) | skip
      first | have f15 : (r3v : Int32).toInt = (0 : Int32).toInt := congrArg Int32.toInt q12 | skip
      exact ⟨_, rfl, S⟩
    · rw [if_neg q12]
      first | have hx_16 := i32_hi (r3v) | skip
      first | have hx_17 := i32_lo (r3v) | skip
      first | have f18 : (r3v : Int32).toInt ≠ (0 : Int32).toInt := ti_ne q12 | skip
      have q19 : mIn x1 24 = true := (mIn_bd (by omega) (by omega))
      rw [if_pos q19]
      by_cases q20 : (h.1 49 0 x1.toNatClampNeg) = 4
      · rw [if_pos q20]
        have t21 : (4 : Int32).toInt = 4 := by decide
        first | have hx_22 := i32_hi (h.1 49 0 x1.toNatClampNeg) | skip
        first | have hx_23 := i32_lo (h.1 49 0 x1.toNatClampNeg) | skip
        first | have f24 : (h.1 49 0 x1.toNatClampNeg : Int32).toInt = (4 : Int32).toInt := congrArg Int32.toInt q20 | skip
        obtain ⟨g25, e_g25⟩ : ∃ g, uI h 51 0 x1.toNatClampNeg x2 = g := ⟨_, rfl⟩
        rw [e_g25]
        have S_g25 : SI fp b m g25 := e_g25 ▸ (SI.f S rfl w3264 rfl)
        obtain ⟨r7, e_r7, S_r7⟩ := z_X12_changed  g25 S_g25 ff_X12_changed 
        rw [e_r7, Option.bind_some]
        exact ⟨_, rfl, S_r7⟩
      · rw [if_neg q20]
        have t26 : (4 : Int32).toInt = 4 := by decide
        first | have hx_27 := i32_hi (h.1 49 0 x1.toNatClampNeg) | skip
        first | have hx_28 := i32_lo (h.1 49 0 x1.toNatClampNeg) | skip
        first | have f29 : (h.1 49 0 x1.toNatClampNeg : Int32).toInt ≠ (4 : Int32).toInt := ti_ne q20 | skip
        exact ⟨_, rfl, S⟩
def W_X12_done_j23 : List Nat := [791, 798, 802, 803, 804, 805, 806, 823, 3328, 4032, 4096, 4160, 4224, 4288, 4352, 9999]
set_option maxHeartbeats 400000 in
theorem z_X12_done_j23 {fp : Nat → Bool} {b : mH} {m : Nat} (w1 : Int32) (w2 : Int32) (h : mH) (S : SI fp b m h) (ff : ∀ c ∈ W_X12_done_j23, fp c = false) (pr0 : (0 ≤ w1.toInt ∧ w1.toInt < 24)) (pr1 : (-1 ≤ w2.toInt ∧ w2.toInt ≤ 23)) : ∃ r, f_X12_done_j23 w1 w2 h = some r ∧ SI fp b m r.2 := by
  have ff_X12_changed : ∀ c ∈ W_X12_changed, fp c = false := fun c hc => ff c ((by decide : ∀ c ∈ W_X12_changed, c ∈ W_X12_done_j23) c hc)
  have w3328 : fp 3328 = false := ff 3328 (by decide)
  unfold f_X12_done_j23
  have q1 : mIn w1 24 = true := (mIn_bd (by omega) (by omega))
  rw [if_pos q1]
  by_cases q2 : (h.1 49 0 w1.toNatClampNeg) = 4
  · rw [if_pos q2]
    have t3 : (4 : Int32).toInt = 4 := by decide
    first | have hx_4 := i32_hi (h.1 49 0 w1.toNatClampNeg) | skip
    first | have hx_5 := i32_lo (h.1 49 0 w1.toNatClampNeg) | skip
    first | have f6 : (h.1 49 0 w1.toNatClampNeg : Int32).toInt = (4 : Int32).toInt := congrArg Int32.toInt q2 | skip
    by_cases q7 : w2 = (-1)
    · rw [if_pos q7]
      have t8 : ((-1) : Int32).toInt = (-1) := by decide
      first | have hx_9 := i32_hi (w2) | skip
      first | have hx_10 := i32_lo (w2) | skip
      first | have f11 : (w2 : Int32).toInt = (-1 : Int32).toInt := congrArg Int32.toInt q7 | skip
      have w_12 : -1 ≤ (w2 : Int32).toInt ∧ (w2 : Int32).toInt ≤ 23 := by omega
      obtain ⟨g13, e_g13⟩ : ∃ g, uI h 52 0 w1.toNatClampNeg w2 = g := ⟨_, rfl⟩
      rw [e_g13]
      have S_g13 : SI fp b m g13 := e_g13 ▸ (SI.u S rfl w3328 w_12)
      obtain ⟨r7, e_r7, S_r7⟩ := z_X12_changed  g13 S_g13 ff_X12_changed 
      rw [e_r7, Option.bind_some]
      exact ⟨_, rfl, S_r7⟩
    · rw [if_neg q7]
      have t14 : ((-1) : Int32).toInt = (-1) := by decide
      first | have hx_15 := i32_hi (w2) | skip
      first | have hx_16 := i32_lo (w2) | skip
      first | have f17 : (w2 : Int32).toInt ≠ (-1 : Int32).toInt := ti_ne q7 | skip
      have q18 : mIn w2 24 = true := (mIn_bd (by omega) (by omega))
      rw [if_pos q18]
      by_cases q19 : (h.1 49 0 w2.toNatClampNeg) = 1
      · rw [if_pos q19]
        have t20 : (1 : Int32).toInt = 1 := by decide
        first | have hx_21 := i32_hi (h.1 49 0 w2.toNatClampNeg) | skip
        first | have hx_22 := i32_lo (h.1 49 0 w2.toNatClampNeg) | skip
        first | have f23 : (h.1 49 0 w2.toNatClampNeg : Int32).toInt = (1 : Int32).toInt := congrArg Int32.toInt q19 | skip
        have w_24 : -1 ≤ (w2 : Int32).toInt ∧ (w2 : Int32).toInt ≤ 23 := by omega
        obtain ⟨g25, e_g25⟩ : ∃ g, uI h 52 0 w1.toNatClampNeg w2 = g := ⟨_, rfl⟩
        rw [e_g25]
        have S_g25 : SI fp b m g25 := e_g25 ▸ (SI.u S rfl w3328 w_24)
        obtain ⟨r10, e_r10, S_r10⟩ := z_X12_changed  g25 S_g25 ff_X12_changed 
        rw [e_r10, Option.bind_some]
        exact ⟨_, rfl, S_r10⟩
      · rw [if_neg q19]
        have t26 : (1 : Int32).toInt = 1 := by decide
        first | have hx_27 := i32_hi (h.1 49 0 w2.toNatClampNeg) | skip
        first | have hx_28 := i32_lo (h.1 49 0 w2.toNatClampNeg) | skip
        first | have f29 : (h.1 49 0 w2.toNatClampNeg : Int32).toInt ≠ (1 : Int32).toInt := ti_ne q19 | skip
        by_cases q30 : (h.1 49 0 w2.toNatClampNeg) = 2
        · rw [if_pos q30]
          have t31 : (2 : Int32).toInt = 2 := by decide
          first | have f32 : (h.1 49 0 w2.toNatClampNeg : Int32).toInt = (2 : Int32).toInt := congrArg Int32.toInt q30 | skip
          have w_33 : -1 ≤ (w2 : Int32).toInt ∧ (w2 : Int32).toInt ≤ 23 := by omega
          obtain ⟨g34, e_g34⟩ : ∃ g, uI h 52 0 w1.toNatClampNeg w2 = g := ⟨_, rfl⟩
          rw [e_g34]
          have S_g34 : SI fp b m g34 := e_g34 ▸ (SI.u S rfl w3328 w_33)
          obtain ⟨r12, e_r12, S_r12⟩ := z_X12_changed  g34 S_g34 ff_X12_changed 
          rw [e_r12, Option.bind_some]
          exact ⟨_, rfl, S_r12⟩
        · rw [if_neg q30]
          have t35 : (2 : Int32).toInt = 2 := by decide
          first | have f36 : (h.1 49 0 w2.toNatClampNeg : Int32).toInt ≠ (2 : Int32).toInt := ti_ne q30 | skip
          exact ⟨_, rfl, S⟩
  · rw [if_neg q2]
    have t37 : (4 : Int32).toInt = 4 := by decide
    first | have hx_38 := i32_hi (h.1 49 0 w1.toNatClampNeg) | skip
    first | have hx_39 := i32_lo (h.1 49 0 w1.toNatClampNeg) | skip
    first | have f40 : (h.1 49 0 w1.toNatClampNeg : Int32).toInt ≠ (4 : Int32).toInt := ti_ne q2 | skip
    exact ⟨_, rfl, S⟩
def W_X12_done : List Nat := [791, 798, 802, 803, 804, 805, 806, 823, 3328, 4032, 4096, 4160, 4224, 4288, 4352, 9999]
set_option maxHeartbeats 400000 in
theorem z_X12_done {fp : Nat → Bool} {b : mH} {m : Nat} (x1 : Int32) (x2 : Int32) (h : mH) (S : SI fp b m h) (ff : ∀ c ∈ W_X12_done, fp c = false)  : ∃ r, f_X12_done x1 x2 h = some r ∧ SI fp b m r.2 := by
  have ff_X12_done_j23 : ∀ c ∈ W_X12_done_j23, fp c = false := fun c hc => ff c ((by decide : ∀ c ∈ W_X12_done_j23, c ∈ W_X12_done) c hc)
  unfold f_X12_done
  obtain ⟨⟨r1v, r1h⟩, e_r1, (hh_r1 : r1h = h), p_r1_0, p_r1_1⟩ := z_X12_isField x1 h S  
  replace hh_r1 := hh_r1.symm
  subst hh_r1
  dsimp only at p_r1_0 p_r1_1
  have bb_r1 := bool_bd p_r1_0
  rw [e_r1, Option.bind_some]
  try dsimp only
  by_cases q1 : r1v = 0
  · rw [if_pos q1]
    have t2 : (0 : Int32).toInt = 0 := by decide
    first | have hx_3 := i32_hi (r1v) | skip
    first | have hx_4 := i32_lo (r1v) | skip
    first | have f5 : (r1v : Int32).toInt = (0 : Int32).toInt := congrArg Int32.toInt q1 | skip
    exact ⟨_, rfl, S⟩
  · rw [if_neg q1]
    have t6 : (0 : Int32).toInt = 0 := by decide
    first | have hx_7 := i32_hi (r1v) | skip
    first | have hx_8 := i32_lo (r1v) | skip
    first | have f9 : (r1v : Int32).toInt ≠ (0 : Int32).toInt := ti_ne q1 | skip
    by_cases q10 : x2 = (-1)
    · rw [if_pos q10]
      have t11 : ((-1) : Int32).toInt = (-1) := by decide
      first | have hx_12 := i32_hi (x2) | skip
      first | have hx_13 := i32_lo (x2) | skip
      first | have f14 : (x2 : Int32).toInt = (-1 : Int32).toInt := congrArg Int32.toInt q10 | skip
      obtain ⟨rr15, e_rr15, S_rr15⟩ := z_X12_done_j23 x1 x2 h S ff_X12_done_j23 (by omega) (by omega)
      rw [e_rr15]
      exact ⟨_, rfl, S_rr15⟩
    · rw [if_neg q10]
      have t16 : ((-1) : Int32).toInt = (-1) := by decide
      first | have hx_17 := i32_hi (x2) | skip
      first | have hx_18 := i32_lo (x2) | skip
      first | have f19 : (x2 : Int32).toInt ≠ (-1 : Int32).toInt := ti_ne q10 | skip
      obtain ⟨⟨r13v, r13h⟩, e_r13, (hh_r13 : r13h = h), p_r13_0, p_r13_1⟩ := z_X12_isField x2 h S  
      replace hh_r13 := hh_r13.symm
      subst hh_r13
      dsimp only at p_r13_0 p_r13_1
      have bb_r13 := bool_bd p_r13_0
      rw [e_r13, Option.bind_some]
      try dsimp only
      by_cases q20 : r13v = 0
      · rw [if_pos q20]
        first | have hx_21 := i32_hi (r13v) | skip
        first | have hx_22 := i32_lo (r13v) | skip
        first | have f23 : (r13v : Int32).toInt = (0 : Int32).toInt := congrArg Int32.toInt q20 | skip
        exact ⟨_, rfl, S⟩
      · rw [if_neg q20]
        first | have hx_24 := i32_hi (r13v) | skip
        first | have hx_25 := i32_lo (r13v) | skip
        first | have f26 : (r13v : Int32).toInt ≠ (0 : Int32).toInt := ti_ne q20 | skip
        obtain ⟨rr27, e_rr27, S_rr27⟩ := z_X12_done_j23 x1 x2 h S ff_X12_done_j23 (by omega) (by omega)
        rw [e_rr27]
        exact ⟨_, rfl, S_rr27⟩
def W_X12_law : List Nat := [779, 3456, 3520, 3584, 3648]
set_option maxHeartbeats 400000 in
theorem z_X12_law {fp : Nat → Bool} {b : mH} {m : Nat} (x1 : Int32) (x2 : Int32) (x3 : Int32) (x4 : Int32) (h : mH) (S : SI fp b m h) (ff : ∀ c ∈ W_X12_law, fp c = false)  : ∃ r, f_X12_law x1 x2 x3 x4 h = some r ∧ SI fp b m r.2 := by
  have w779 : fp 779 = false := ff 779 (by decide)
  have w3456 : fp 3456 = false := ff 3456 (by decide)
  have w3520 : fp 3520 = false := ff 3520 (by decide)
  have w3584 : fp 3584 = false := ff 3584 (by decide)
  have w3648 : fp 3648 = false := ff 3648 (by decide)
  unfold f_X12_law
  have t1 : (0 : Int32).toInt = 0 := by decide
  have t2 : (2 : Int32).toInt = 2 := by decide
  obtain ⟨⟨r1v, r1h⟩, e_r1, (hh_r1 : r1h = h), p_r1_0, p_r1_1⟩ := z_X12_in x1 0 2 h S  
  replace hh_r1 := hh_r1.symm
  subst hh_r1
  dsimp only at p_r1_0 p_r1_1
  have bb_r1 := bool_bd p_r1_0
  rw [e_r1, Option.bind_some]
  try dsimp only
  by_cases q3 : r1v = 0
  · rw [if_pos q3]
    first | have hx_4 := i32_hi (r1v) | skip
    first | have hx_5 := i32_lo (r1v) | skip
    first | have f6 : (r1v : Int32).toInt = (0 : Int32).toInt := congrArg Int32.toInt q3 | skip
    exact ⟨_, rfl, S⟩
  · rw [if_neg q3]
    first | have hx_7 := i32_hi (r1v) | skip
    first | have hx_8 := i32_lo (r1v) | skip
    first | have f9 : (r1v : Int32).toInt ≠ (0 : Int32).toInt := ti_ne q3 | skip
    obtain ⟨⟨r3v, r3h⟩, e_r3, (hh_r3 : r3h = h), p_r3_0, p_r3_1⟩ := z_X12_isField x2 h S  
    replace hh_r3 := hh_r3.symm
    subst hh_r3
    dsimp only at p_r3_0 p_r3_1
    have bb_r3 := bool_bd p_r3_0
    rw [e_r3, Option.bind_some]
    try dsimp only
    by_cases q10 : r3v = 0
    · rw [if_pos q10]
      first | have hx_11 := i32_hi (r3v) | skip
      first | have hx_12 := i32_lo (r3v) | skip
      first | have f13 : (r3v : Int32).toInt = (0 : Int32).toInt := congrArg Int32.toInt q10 | skip
      exact ⟨_, rfl, S⟩
    · rw [if_neg q10]
      first | have hx_14 := i32_hi (r3v) | skip
      first | have hx_15 := i32_lo (r3v) | skip
      first | have f16 : (r3v : Int32).toInt ≠ (0 : Int32).toInt := ti_ne q10 | skip
      obtain ⟨⟨r5v, r5h⟩, e_r5, (hh_r5 : r5h = h), p_r5_0, p_r5_1⟩ := z_X12_isField x3 h S  
      replace hh_r5 := hh_r5.symm
      subst hh_r5
      dsimp only at p_r5_0 p_r5_1
      have bb_r5 := bool_bd p_r5_0
      rw [e_r5, Option.bind_some]
      try dsimp only
      by_cases q17 : r5v = 0
      · rw [if_pos q17]
        first | have hx_18 := i32_hi (r5v) | skip
        first | have hx_19 := i32_lo (r5v) | skip
        first | have f20 : (r5v : Int32).toInt = (0 : Int32).toInt := congrArg Int32.toInt q17 | skip
        exact ⟨_, rfl, S⟩
      · rw [if_neg q17]
        first | have hx_21 := i32_hi (r5v) | skip
        first | have hx_22 := i32_lo (r5v) | skip
        first | have f23 : (r5v : Int32).toInt ≠ (0 : Int32).toInt := ti_ne q17 | skip
        have t24 : (255 : Int32).toInt = 255 := by decide
        obtain ⟨⟨r7v, r7h⟩, e_r7, (hh_r7 : r7h = h), p_r7_0, p_r7_1⟩ := z_X12_in x4 0 255 h S  
        replace hh_r7 := hh_r7.symm
        subst hh_r7
        dsimp only at p_r7_0 p_r7_1
        have bb_r7 := bool_bd p_r7_0
        rw [e_r7, Option.bind_some]
        try dsimp only
        by_cases q25 : r7v = 0
        · rw [if_pos q25]
          first | have hx_26 := i32_hi (r7v) | skip
          first | have hx_27 := i32_lo (r7v) | skip
          first | have f28 : (r7v : Int32).toInt = (0 : Int32).toInt := congrArg Int32.toInt q25 | skip
          exact ⟨_, rfl, S⟩
        · rw [if_neg q25]
          first | have hx_29 := i32_hi (r7v) | skip
          first | have hx_30 := i32_lo (r7v) | skip
          first | have f31 : (r7v : Int32).toInt ≠ (0 : Int32).toInt := ti_ne q25 | skip
          by_cases q32 : (h.1 12 0 11) = 12
          · rw [if_pos q32]
            have b33 : 0 ≤ (h.1 12 0 11).toInt ∧ (h.1 12 0 11).toInt ≤ 12 := (S).1 12 0 11
            have t34 : (12 : Int32).toInt = 12 := by decide
            first | have hx_35 := i32_hi (h.1 12 0 11) | skip
            first | have hx_36 := i32_lo (h.1 12 0 11) | skip
            first | have f37 : (h.1 12 0 11 : Int32).toInt = (12 : Int32).toInt := congrArg Int32.toInt q32 | skip
            exact ⟨_, rfl, S⟩
          · rw [if_neg q32]
            have b38 : 0 ≤ (h.1 12 0 11).toInt ∧ (h.1 12 0 11).toInt ≤ 12 := (S).1 12 0 11
            have t39 : (12 : Int32).toInt = 12 := by decide
            first | have hx_40 := i32_hi (h.1 12 0 11) | skip
            first | have hx_41 := i32_lo (h.1 12 0 11) | skip
            first | have f42 : (h.1 12 0 11 : Int32).toInt ≠ (12 : Int32).toInt := ti_ne q32 | skip
            have q43 : mIn (h.1 12 0 11) 12 = true := (mIn_bd (by omega) (by omega))
            rw [if_pos q43]
            refine let_ex (fun h11 e_h11 => ?_)
            have S_h11 : SI fp b m h11 := e_h11 ▸ (SI.f S rfl w3456 rfl)
            have b44 : 0 ≤ (h11.1 12 0 11).toInt ∧ (h11.1 12 0 11).toInt ≤ 12 := (S_h11).1 12 0 11
            have l45 : (h11.1 12 0 11).toInt = (h.1 12 0 11).toInt := by rw [← e_h11, uI_t _ rfl]
            have q46 : mIn (h11.1 12 0 11) 12 = true := (mIn_bd (by omega) (by omega))
            rw [if_pos q46]
            have w_47 : 0 ≤ (x2 : Int32).toInt ∧ (x2 : Int32).toInt ≤ 23 := by omega
            refine let_ex (fun h13 e_h13 => ?_)
            have S_h13 : SI fp b m h13 := e_h13 ▸ (SI.u S_h11 rfl w3520 w_47)
            have b48 : 0 ≤ (h13.1 12 0 11).toInt ∧ (h13.1 12 0 11).toInt ≤ 12 := (S_h13).1 12 0 11
            have l49 : (h13.1 12 0 11).toInt = (h11.1 12 0 11).toInt := by rw [← e_h13, uI_t _ rfl]
            have q50 : mIn (h13.1 12 0 11) 12 = true := (mIn_bd (by omega) (by omega))
            rw [if_pos q50]
            have w_51 : 0 ≤ (x3 : Int32).toInt ∧ (x3 : Int32).toInt ≤ 23 := by omega
            refine let_ex (fun h15 e_h15 => ?_)
            have S_h15 : SI fp b m h15 := e_h15 ▸ (SI.u S_h13 rfl w3584 w_51)
            have b52 : 0 ≤ (h15.1 12 0 11).toInt ∧ (h15.1 12 0 11).toInt ≤ 12 := (S_h15).1 12 0 11
            have l53 : (h15.1 12 0 11).toInt = (h13.1 12 0 11).toInt := by rw [← e_h15, uI_t _ rfl]
            have q54 : mIn (h15.1 12 0 11) 12 = true := (mIn_bd (by omega) (by omega))
            rw [if_pos q54]
            refine let_ex (fun h17 e_h17 => ?_)
            have S_h17 : SI fp b m h17 := e_h17 ▸ (SI.f S_h15 rfl w3648 rfl)
            have b55 : 0 ≤ (h17.1 12 0 11).toInt ∧ (h17.1 12 0 11).toInt ≤ 12 := (S_h17).1 12 0 11
            have l56 : (h17.1 12 0 11).toInt = (h15.1 12 0 11).toInt := by rw [← e_h17, uI_t _ rfl]
            have t57 : (1 : Int32).toInt = 1 := by decide
            first | have o58 : ((h17.1 12 0 11) + 1 : Int32).toInt = (h17.1 12 0 11 : Int32).toInt + (1 : Int32).toInt := ti_add (by omega) (by omega) | skip
            have w_59 : 0 ≤ ((h17.1 12 0 11) + 1 : Int32).toInt ∧ ((h17.1 12 0 11) + 1 : Int32).toInt ≤ 12 := by omega
            refine let_ex (fun h18 e_h18 => ?_)
            have S_h18 : SI fp b m h18 := e_h18 ▸ (SI.u S_h17 rfl w779 w_59)
            exact ⟨_, rfl, S_h18⟩
def W_X12_act : List Nat := [784, 3712]
set_option maxHeartbeats 400000 in
theorem z_X12_act {fp : Nat → Bool} {b : mH} {m : Nat}  (h : mH) (S : SI fp b m h) (ff : ∀ c ∈ W_X12_act, fp c = false)  : ∃ r, f_X12_act h = some r ∧ SI fp b m r.2 := by
  have w784 : fp 784 = false := ff 784 (by decide)
  have w3712 : fp 3712 = false := ff 3712 (by decide)
  unfold f_X12_act
  by_cases q1 : (h.1 12 0 16) = 6
  · rw [if_pos q1]
    have b2 : 0 ≤ (h.1 12 0 16).toInt ∧ (h.1 12 0 16).toInt ≤ 6 := (S).1 12 0 16
    have t3 : (6 : Int32).toInt = 6 := by decide
    first | have hx_4 := i32_hi (h.1 12 0 16) | skip
    first | have hx_5 := i32_lo (h.1 12 0 16) | skip
    first | have f6 : (h.1 12 0 16 : Int32).toInt = (6 : Int32).toInt := congrArg Int32.toInt q1 | skip
    exact ⟨_, rfl, S⟩
  · rw [if_neg q1]
    have b7 : 0 ≤ (h.1 12 0 16).toInt ∧ (h.1 12 0 16).toInt ≤ 6 := (S).1 12 0 16
    have t8 : (6 : Int32).toInt = 6 := by decide
    first | have hx_9 := i32_hi (h.1 12 0 16) | skip
    first | have hx_10 := i32_lo (h.1 12 0 16) | skip
    first | have f11 : (h.1 12 0 16 : Int32).toInt ≠ (6 : Int32).toInt := ti_ne q1 | skip
    have q12 : mIn (h.1 12 0 16) 6 = true := (mIn_bd (by omega) (by omega))
    rw [if_pos q12]
    have t13 : (0 : Int32).toInt = 0 := by decide
    have w_14 : 0 ≤ (0 : Int32).toInt ∧ (0 : Int32).toInt ≤ 12 := by omega
    refine let_ex (fun h3 e_h3 => ?_)
    have S_h3 : SI fp b m h3 := e_h3 ▸ (SI.u S rfl w3712 w_14)
    have b15 : 0 ≤ (h3.1 12 0 16).toInt ∧ (h3.1 12 0 16).toInt ≤ 6 := (S_h3).1 12 0 16
    have l16 : (h3.1 12 0 16).toInt = (h.1 12 0 16).toInt := by rw [← e_h3, uI_t _ rfl]
    have t17 : (1 : Int32).toInt = 1 := by decide
    first | have o18 : ((h3.1 12 0 16) + 1 : Int32).toInt = (h3.1 12 0 16 : Int32).toInt + (1 : Int32).toInt := ti_add (by omega) (by omega) | skip
    have w_19 : 0 ≤ ((h3.1 12 0 16) + 1 : Int32).toInt ∧ ((h3.1 12 0 16) + 1 : Int32).toInt ≤ 6 := by omega
    refine let_ex (fun h4 e_h4 => ?_)
    have S_h4 : SI fp b m h4 := e_h4 ▸ (SI.u S_h3 rfl w784 w_19)
    exact ⟨_, rfl, S_h4⟩
def W_X12_step_j160 : List Nat := [3712, 3776, 3840, 3904, 3968]
theorem z_X12_step_j160 {fp : Nat → Bool} {b : mH} {m : Nat} (w1 w2 w3 w4 w5 : Int32) (h : mH) (S : SI fp b m h) (ff : ∀ c ∈ W_X12_step_j160, fp c = false) (p0 : 0 ≤ w1.toInt ∧ w1.toInt < 6) (p1 : 0 ≤ w2.toInt ∧ w2.toInt ≤ 3) (p2 : -1 ≤ w3.toInt ∧ w3.toInt ≤ 23) (p3 : (w2.toInt = 3 ∧ w4.toInt ≤ 9) ∨ (w2.toInt ≠ 3 ∧ 0 ≤ w3.toInt)) (p4 : 0 ≤ w5.toInt ∧ w5.toInt ≤ 20) : ∃ r, f_X12_step_j160 w1 w2 w3 w4 w5 h = some r ∧ SI fp b m r.2 := by
  unfold f_X12_step_j160
  have b1 : 0 ≤ (h.1 58 0 w1.toNatClampNeg).toInt ∧ (h.1 58 0 w1.toNatClampNeg).toInt ≤ 12 := S.1 58 0 _
  have e1 : (1 : Int32).toInt = 1 := by decide
  have e12 : (12 : Int32).toInt = 12 := by decide
  rw [if_pos (mIn_bd (by omega) (by omega))]
  by_cases q : (h.1 58 0 w1.toNatClampNeg) = 12
  · rw [if_pos q]
    exact ⟨_, rfl, S⟩
  · rw [if_neg q]
    have f1 := ti_ne q
    have m1 : (12 * w1).toInt = 12 * w1.toInt := ti_km (by decide) (by omega) (by omega)
    have a1 : (12 * w1 + h.1 58 0 w1.toNatClampNeg).toInt = (12 * w1).toInt + (h.1 58 0 w1.toNatClampNeg).toInt := ti_add (by omega) (by omega)
    rw [if_pos (mIn_bd (by omega) (by omega))]
    dsimp only [mLet]
    have n1 : 0 ≤ (h.1 58 0 w1.toNatClampNeg + 1).toInt ∧ (h.1 58 0 w1.toNatClampNeg + 1).toInt ≤ 12 := by
      have : (h.1 58 0 w1.toNatClampNeg + 1).toInt = (h.1 58 0 w1.toNatClampNeg).toInt + (1 : Int32).toInt := ti_add (by omega) (by omega)
      omega
    refine ⟨_, rfl, ?_⟩
    dsimp only
    rw [uI_t _ (t := 62) (t' := 58) rfl, uI_t _ (t := 61) (t' := 58) rfl, uI_t _ (t := 60) (t' := 58) rfl, uI_t _ (t := 59) (t' := 58) rfl]
    exact SI.u (SI.stepM S (ff 3776 (by decide)) (ff 3840 (by decide)) (ff 3904 (by decide)) (ff 3968 (by decide)) p1 p2 p4 p3) rfl (ff 3712 (by decide)) n1
def W_X12_step_j142 : List Nat := [3712, 3776, 3840, 3904, 3968]
set_option maxHeartbeats 400000 in
theorem z_X12_step_j142 {fp : Nat → Bool} {b : mH} {m : Nat} (w1 : Int32) (w2 : Int32) (w3 : Int32) (w4 : Int32) (w5 : Int32) (h : mH) (S : SI fp b m h) (ff : ∀ c ∈ W_X12_step_j142, fp c = false) (pr0 : (0 ≤ w1.toInt ∧ w1.toInt < 6)) (pr1 : (0 ≤ w2.toInt ∧ w2.toInt ≤ 3)) (pr2 : (-1 ≤ w3.toInt ∧ w3.toInt ≤ 23)) (pr3 : ((w2.toInt = 3 ∧ w4.toInt ≤ 9) ∨ (w2.toInt ≠ 3 ∧ 0 ≤ w3.toInt))) (pr4 : (0 ≤ w5.toInt ∧ w5.toInt ≤ 20)) : ∃ r, f_X12_step_j142 w1 w2 w3 w4 w5 h = some r ∧ SI fp b m r.2 := by
  have ff_X12_step_j160 : ∀ c ∈ W_X12_step_j160, fp c = false := fun c hc => ff c ((by decide : ∀ c ∈ W_X12_step_j160, c ∈ W_X12_step_j142) c hc)
  unfold f_X12_step_j142
  by_cases q1 : w2 = 1
  · rw [if_pos q1]
    have t2 : (1 : Int32).toInt = 1 := by decide
    first | have hx_3 := i32_hi (w2) | skip
    first | have hx_4 := i32_lo (w2) | skip
    first | have f5 : (w2 : Int32).toInt = (1 : Int32).toInt := congrArg Int32.toInt q1 | skip
    have q6 : mIn w3 24 = true := (mIn_bd (by omega) (by omega))
    rw [if_pos q6]
    by_cases q7 : (h.1 49 0 w3.toNatClampNeg) = 3
    · rw [if_pos q7]
      have t8 : (3 : Int32).toInt = 3 := by decide
      first | have hx_9 := i32_hi (h.1 49 0 w3.toNatClampNeg) | skip
      first | have hx_10 := i32_lo (h.1 49 0 w3.toNatClampNeg) | skip
      first | have f11 : (h.1 49 0 w3.toNatClampNeg : Int32).toInt = (3 : Int32).toInt := congrArg Int32.toInt q7 | skip
      exact ⟨_, rfl, S⟩
    · rw [if_neg q7]
      have t12 : (3 : Int32).toInt = 3 := by decide
      first | have hx_13 := i32_hi (h.1 49 0 w3.toNatClampNeg) | skip
      first | have hx_14 := i32_lo (h.1 49 0 w3.toNatClampNeg) | skip
      first | have f15 : (h.1 49 0 w3.toNatClampNeg : Int32).toInt ≠ (3 : Int32).toInt := ti_ne q7 | skip
      obtain ⟨rr16, e_rr16, S_rr16⟩ := z_X12_step_j160 w1 w2 w3 w4 w5 h S ff_X12_step_j160 pr0 pr1 pr2 pr3 pr4
      rw [e_rr16]
      exact ⟨_, rfl, S_rr16⟩
  · rw [if_neg q1]
    have t17 : (1 : Int32).toInt = 1 := by decide
    first | have hx_18 := i32_hi (w2) | skip
    first | have hx_19 := i32_lo (w2) | skip
    first | have f20 : (w2 : Int32).toInt ≠ (1 : Int32).toInt := ti_ne q1 | skip
    obtain ⟨rr21, e_rr21, S_rr21⟩ := z_X12_step_j160 w1 w2 w3 w4 w5 h S ff_X12_step_j160 pr0 pr1 pr2 pr3 pr4
    rw [e_rr21]
    exact ⟨_, rfl, S_rr21⟩
def W_X12_step_j118 : List Nat := [3712, 3776, 3840, 3904, 3968]
set_option maxHeartbeats 400000 in
theorem z_X12_step_j118 {fp : Nat → Bool} {b : mH} {m : Nat} (w1 : Int32) (w2 : Int32) (w3 : Int32) (w4 : Int32) (w5 : Int32) (h : mH) (S : SI fp b m h) (ff : ∀ c ∈ W_X12_step_j118, fp c = false) (pr0 : (0 ≤ w1.toInt ∧ w1.toInt < 6)) (pr1 : (0 ≤ w2.toInt ∧ w2.toInt ≤ 3)) (pr2 : (-1 ≤ w3.toInt ∧ w3.toInt ≤ 23)) (pr3 : ((w2.toInt = 3 ∧ w4.toInt ≤ 9) ∨ (w2.toInt ≠ 3 ∧ 0 ≤ w3.toInt))) (pr4 : (0 ≤ w5.toInt ∧ w5.toInt ≤ 20)) : ∃ r, f_X12_step_j118 w1 w2 w3 w4 w5 h = some r ∧ SI fp b m r.2 := by
  have ff_X12_step_j142 : ∀ c ∈ W_X12_step_j142, fp c = false := fun c hc => ff c ((by decide : ∀ c ∈ W_X12_step_j142, c ∈ W_X12_step_j118) c hc)
  unfold f_X12_step_j118
  by_cases q1 : w2 = 0
  · rw [if_pos q1]
    have t2 : (0 : Int32).toInt = 0 := by decide
    first | have hx_3 := i32_hi (w2) | skip
    first | have hx_4 := i32_lo (w2) | skip
    first | have f5 : (w2 : Int32).toInt = (0 : Int32).toInt := congrArg Int32.toInt q1 | skip
    have q6 : mIn w3 24 = true := (mIn_bd (by omega) (by omega))
    rw [if_pos q6]
    by_cases q7 : (h.1 49 0 w3.toNatClampNeg) = 1
    · rw [if_pos q7]
      have t8 : (1 : Int32).toInt = 1 := by decide
      first | have hx_9 := i32_hi (h.1 49 0 w3.toNatClampNeg) | skip
      first | have hx_10 := i32_lo (h.1 49 0 w3.toNatClampNeg) | skip
      first | have f11 : (h.1 49 0 w3.toNatClampNeg : Int32).toInt = (1 : Int32).toInt := congrArg Int32.toInt q7 | skip
      exact ⟨_, rfl, S⟩
    · rw [if_neg q7]
      have t12 : (1 : Int32).toInt = 1 := by decide
      first | have hx_13 := i32_hi (h.1 49 0 w3.toNatClampNeg) | skip
      first | have hx_14 := i32_lo (h.1 49 0 w3.toNatClampNeg) | skip
      first | have f15 : (h.1 49 0 w3.toNatClampNeg : Int32).toInt ≠ (1 : Int32).toInt := ti_ne q7 | skip
      by_cases q16 : (h.1 49 0 w3.toNatClampNeg) = 3
      · rw [if_pos q16]
        have t17 : (3 : Int32).toInt = 3 := by decide
        first | have f18 : (h.1 49 0 w3.toNatClampNeg : Int32).toInt = (3 : Int32).toInt := congrArg Int32.toInt q16 | skip
        exact ⟨_, rfl, S⟩
      · rw [if_neg q16]
        have t19 : (3 : Int32).toInt = 3 := by decide
        first | have f20 : (h.1 49 0 w3.toNatClampNeg : Int32).toInt ≠ (3 : Int32).toInt := ti_ne q16 | skip
        obtain ⟨rr21, e_rr21, S_rr21⟩ := z_X12_step_j142 w1 w2 w3 w4 w5 h S ff_X12_step_j142 pr0 pr1 pr2 pr3 pr4
        rw [e_rr21]
        exact ⟨_, rfl, S_rr21⟩
  · rw [if_neg q1]
    have t22 : (0 : Int32).toInt = 0 := by decide
    first | have hx_23 := i32_hi (w2) | skip
    first | have hx_24 := i32_lo (w2) | skip
    first | have f25 : (w2 : Int32).toInt ≠ (0 : Int32).toInt := ti_ne q1 | skip
    obtain ⟨rr26, e_rr26, S_rr26⟩ := z_X12_step_j142 w1 w2 w3 w4 w5 h S ff_X12_step_j142 pr0 pr1 pr2 pr3 pr4
    rw [e_rr26]
    exact ⟨_, rfl, S_rr26⟩
def W_X12_step_j40 : List Nat := [3712, 3776, 3840, 3904, 3968]
set_option maxHeartbeats 400000 in
theorem z_X12_step_j40 {fp : Nat → Bool} {b : mH} {m : Nat} (w1 : Int32) (w2 : Int32) (w3 : Int32) (w4 : Int32) (w5 : Int32) (h : mH) (S : SI fp b m h) (ff : ∀ c ∈ W_X12_step_j40, fp c = false) (pr0 : (0 ≤ w1.toInt ∧ w1.toInt < 6)) (pr1 : (0 ≤ w2.toInt ∧ w2.toInt ≤ 3)) (pr2 : (-1 ≤ w3.toInt ∧ w3.toInt ≤ 23)) (pr3 : (w2.toInt = 3 ∨ 0 ≤ w3.toInt)) : ∃ r, f_X12_step_j40 w1 w2 w3 w4 w5 h = some r ∧ SI fp b m r.2 := by
  have ff_X12_step_j118 : ∀ c ∈ W_X12_step_j118, fp c = false := fun c hc => ff c ((by decide : ∀ c ∈ W_X12_step_j118, c ∈ W_X12_step_j40) c hc)
  unfold f_X12_step_j40
  by_cases q1 : w2 = 3
  · rw [if_pos q1]
    have t2 : (3 : Int32).toInt = 3 := by decide
    first | have hx_3 := i32_hi (w2) | skip
    first | have hx_4 := i32_lo (w2) | skip
    first | have f5 : (w2 : Int32).toInt = (3 : Int32).toInt := congrArg Int32.toInt q1 | skip
    have t6 : (1 : Int32).toInt = 1 := by decide
    have t7 : (9 : Int32).toInt = 9 := by decide
    obtain ⟨⟨r37v, r37h⟩, e_r37, (hh_r37 : r37h = h), p_r37_0, p_r37_1⟩ := z_X12_in w4 1 9 h S  
    replace hh_r37 := hh_r37.symm
    subst hh_r37
    dsimp only at p_r37_0 p_r37_1
    have bb_r37 := bool_bd p_r37_0
    rw [e_r37, Option.bind_some]
    try dsimp only
    by_cases q8 : r37v = 0
    · rw [if_pos q8]
      have t9 : (0 : Int32).toInt = 0 := by decide
      first | have hx_10 := i32_hi (r37v) | skip
      first | have hx_11 := i32_lo (r37v) | skip
      first | have f12 : (r37v : Int32).toInt = (0 : Int32).toInt := congrArg Int32.toInt q8 | skip
      exact ⟨_, rfl, S⟩
    · rw [if_neg q8]
      have t13 : (0 : Int32).toInt = 0 := by decide
      first | have hx_14 := i32_hi (r37v) | skip
      first | have hx_15 := i32_lo (r37v) | skip
      first | have f16 : (r37v : Int32).toInt ≠ (0 : Int32).toInt := ti_ne q8 | skip
      by_cases q17 : w2 = 1
      · rw [if_pos q17]
        first | have f18 : (w2 : Int32).toInt = (1 : Int32).toInt := congrArg Int32.toInt q17 | skip
        have t19 : (20 : Int32).toInt = 20 := by decide
        obtain ⟨⟨r41v, r41h⟩, e_r41, (hh_r41 : r41h = h), p_r41_0, p_r41_1⟩ := z_X12_in w5 0 20 h S  
        replace hh_r41 := hh_r41.symm
        subst hh_r41
        dsimp only at p_r41_0 p_r41_1
        have bb_r41 := bool_bd p_r41_0
        rw [e_r41, Option.bind_some]
        try dsimp only
        by_cases q20 : r41v = 0
        · rw [if_pos q20]
          first | have hx_21 := i32_hi (r41v) | skip
          first | have hx_22 := i32_lo (r41v) | skip
          first | have f23 : (r41v : Int32).toInt = (0 : Int32).toInt := congrArg Int32.toInt q20 | skip
          exact ⟨_, rfl, S⟩
        · rw [if_neg q20]
          first | have hx_24 := i32_hi (r41v) | skip
          first | have hx_25 := i32_lo (r41v) | skip
          first | have f26 : (r41v : Int32).toInt ≠ (0 : Int32).toInt := ti_ne q20 | skip
          obtain ⟨rr27, e_rr27, S_rr27⟩ := z_X12_step_j118 w1 w2 w3 w4 w5 h S ff_X12_step_j118 pr0 pr1 pr2 (by omega) (by omega)
          rw [e_rr27]
          exact ⟨_, rfl, S_rr27⟩
      · rw [if_neg q17]
        first | have f28 : (w2 : Int32).toInt ≠ (1 : Int32).toInt := ti_ne q17 | skip
        by_cases q29 : w5 = 0
        · rw [if_pos q29]
          first | have hx_30 := i32_hi (w5) | skip
          first | have hx_31 := i32_lo (w5) | skip
          first | have f32 : (w5 : Int32).toInt = (0 : Int32).toInt := congrArg Int32.toInt q29 | skip
          obtain ⟨rr33, e_rr33, S_rr33⟩ := z_X12_step_j118 w1 w2 w3 w4 w5 h S ff_X12_step_j118 pr0 pr1 pr2 (by omega) (by omega)
          rw [e_rr33]
          exact ⟨_, rfl, S_rr33⟩
        · rw [if_neg q29]
          first | have hx_34 := i32_hi (w5) | skip
          first | have hx_35 := i32_lo (w5) | skip
          first | have f36 : (w5 : Int32).toInt ≠ (0 : Int32).toInt := ti_ne q29 | skip
          exact ⟨_, rfl, S⟩
  · rw [if_neg q1]
    have t37 : (3 : Int32).toInt = 3 := by decide
    first | have hx_38 := i32_hi (w2) | skip
    first | have hx_39 := i32_lo (w2) | skip
    first | have f40 : (w2 : Int32).toInt ≠ (3 : Int32).toInt := ti_ne q1 | skip
    by_cases q41 : w2 = 2
    · rw [if_pos q41]
      have t42 : (2 : Int32).toInt = 2 := by decide
      first | have f43 : (w2 : Int32).toInt = (2 : Int32).toInt := congrArg Int32.toInt q41 | skip
      by_cases q44 : w4 = 0
      · rw [if_pos q44]
        have t45 : (0 : Int32).toInt = 0 := by decide
        first | have hx_46 := i32_hi (w4) | skip
        first | have hx_47 := i32_lo (w4) | skip
        first | have f48 : (w4 : Int32).toInt = (0 : Int32).toInt := congrArg Int32.toInt q44 | skip
        by_cases q49 : w2 = 1
        · rw [if_pos q49]
          have t50 : (1 : Int32).toInt = 1 := by decide
          first | have f51 : (w2 : Int32).toInt = (1 : Int32).toInt := congrArg Int32.toInt q49 | skip
          have t52 : (20 : Int32).toInt = 20 := by decide
          obtain ⟨⟨r35v, r35h⟩, e_r35, (hh_r35 : r35h = h), p_r35_0, p_r35_1⟩ := z_X12_in w5 0 20 h S  
          replace hh_r35 := hh_r35.symm
          subst hh_r35
          dsimp only at p_r35_0 p_r35_1
          have bb_r35 := bool_bd p_r35_0
          rw [e_r35, Option.bind_some]
          try dsimp only
          by_cases q53 : r35v = 0
          · rw [if_pos q53]
            first | have hx_54 := i32_hi (r35v) | skip
            first | have hx_55 := i32_lo (r35v) | skip
            first | have f56 : (r35v : Int32).toInt = (0 : Int32).toInt := congrArg Int32.toInt q53 | skip
            exact ⟨_, rfl, S⟩
          · rw [if_neg q53]
            first | have hx_57 := i32_hi (r35v) | skip
            first | have hx_58 := i32_lo (r35v) | skip
            first | have f59 : (r35v : Int32).toInt ≠ (0 : Int32).toInt := ti_ne q53 | skip
            obtain ⟨rr60, e_rr60, S_rr60⟩ := z_X12_step_j118 w1 w2 w3 w4 w5 h S ff_X12_step_j118 pr0 pr1 pr2 (by omega) (by omega)
            rw [e_rr60]
            exact ⟨_, rfl, S_rr60⟩
        · rw [if_neg q49]
          have t61 : (1 : Int32).toInt = 1 := by decide
          first | have f62 : (w2 : Int32).toInt ≠ (1 : Int32).toInt := ti_ne q49 | skip
          by_cases q63 : w5 = 0
          · rw [if_pos q63]
            first | have hx_64 := i32_hi (w5) | skip
            first | have hx_65 := i32_lo (w5) | skip
            first | have f66 : (w5 : Int32).toInt = (0 : Int32).toInt := congrArg Int32.toInt q63 | skip
            obtain ⟨rr67, e_rr67, S_rr67⟩ := z_X12_step_j118 w1 w2 w3 w4 w5 h S ff_X12_step_j118 pr0 pr1 pr2 (by omega) (by omega)
            rw [e_rr67]
            exact ⟨_, rfl, S_rr67⟩
          · rw [if_neg q63]
            first | have hx_68 := i32_hi (w5) | skip
            first | have hx_69 := i32_lo (w5) | skip
            first | have f70 : (w5 : Int32).toInt ≠ (0 : Int32).toInt := ti_ne q63 | skip
            exact ⟨_, rfl, S⟩
      · rw [if_neg q44]
        have t71 : (0 : Int32).toInt = 0 := by decide
        first | have hx_72 := i32_hi (w4) | skip
        first | have hx_73 := i32_lo (w4) | skip
        first | have f74 : (w4 : Int32).toInt ≠ (0 : Int32).toInt := ti_ne q44 | skip
        exact ⟨_, rfl, S⟩
    · rw [if_neg q41]
      have t75 : (2 : Int32).toInt = 2 := by decide
      first | have f76 : (w2 : Int32).toInt ≠ (2 : Int32).toInt := ti_ne q41 | skip
      obtain ⟨⟨r10v, r10h⟩, e_r10, (hh_r10 : r10h = h)⟩ := z_X12_most w3 h S  (by omega)
      replace hh_r10 := hh_r10.symm
      subst hh_r10
      rw [e_r10, Option.bind_some]
      try dsimp only
      have t77 : (0 : Int32).toInt = 0 := by decide
      obtain ⟨⟨r11v, r11h⟩, e_r11, (hh_r11 : r11h = h), p_r11_0, p_r11_1⟩ := z_X12_in w4 0 r10v h S  
      replace hh_r11 := hh_r11.symm
      subst hh_r11
      dsimp only at p_r11_0 p_r11_1
      have bb_r11 := bool_bd p_r11_0
      rw [e_r11, Option.bind_some]
      try dsimp only
      by_cases q78 : r11v = 0
      · rw [if_pos q78]
        first | have hx_79 := i32_hi (r11v) | skip
        first | have hx_80 := i32_lo (r11v) | skip
        first | have f81 : (r11v : Int32).toInt = (0 : Int32).toInt := congrArg Int32.toInt q78 | skip
        exact ⟨_, rfl, S⟩
      · rw [if_neg q78]
        first | have hx_82 := i32_hi (r11v) | skip
        first | have hx_83 := i32_lo (r11v) | skip
        first | have f84 : (r11v : Int32).toInt ≠ (0 : Int32).toInt := ti_ne q78 | skip
        by_cases q85 : w2 = 1
        · rw [if_pos q85]
          have t86 : (1 : Int32).toInt = 1 := by decide
          first | have f87 : (w2 : Int32).toInt = (1 : Int32).toInt := congrArg Int32.toInt q85 | skip
          have t88 : (20 : Int32).toInt = 20 := by decide
          obtain ⟨⟨r30v, r30h⟩, e_r30, (hh_r30 : r30h = h), p_r30_0, p_r30_1⟩ := z_X12_in w5 0 20 h S  
          replace hh_r30 := hh_r30.symm
          subst hh_r30
          dsimp only at p_r30_0 p_r30_1
          have bb_r30 := bool_bd p_r30_0
          rw [e_r30, Option.bind_some]
          try dsimp only
          by_cases q89 : r30v = 0
          · rw [if_pos q89]
            first | have hx_90 := i32_hi (r30v) | skip
            first | have hx_91 := i32_lo (r30v) | skip
            first | have f92 : (r30v : Int32).toInt = (0 : Int32).toInt := congrArg Int32.toInt q89 | skip
            exact ⟨_, rfl, S⟩
          · rw [if_neg q89]
            first | have hx_93 := i32_hi (r30v) | skip
            first | have hx_94 := i32_lo (r30v) | skip
            first | have f95 : (r30v : Int32).toInt ≠ (0 : Int32).toInt := ti_ne q89 | skip
            obtain ⟨rr96, e_rr96, S_rr96⟩ := z_X12_step_j118 w1 w2 w3 w4 w5 h S ff_X12_step_j118 pr0 pr1 pr2 (by omega) (by omega)
            rw [e_rr96]
            exact ⟨_, rfl, S_rr96⟩
        · rw [if_neg q85]
          have t97 : (1 : Int32).toInt = 1 := by decide
          first | have f98 : (w2 : Int32).toInt ≠ (1 : Int32).toInt := ti_ne q85 | skip
          by_cases q99 : w5 = 0
          · rw [if_pos q99]
            first | have hx_100 := i32_hi (w5) | skip
            first | have hx_101 := i32_lo (w5) | skip
            first | have f102 : (w5 : Int32).toInt = (0 : Int32).toInt := congrArg Int32.toInt q99 | skip
            obtain ⟨rr103, e_rr103, S_rr103⟩ := z_X12_step_j118 w1 w2 w3 w4 w5 h S ff_X12_step_j118 pr0 pr1 pr2 (by omega) (by omega)
            rw [e_rr103]
            exact ⟨_, rfl, S_rr103⟩
          · rw [if_neg q99]
            first | have hx_104 := i32_hi (w5) | skip
            first | have hx_105 := i32_lo (w5) | skip
            first | have f106 : (w5 : Int32).toInt ≠ (0 : Int32).toInt := ti_ne q99 | skip
            exact ⟨_, rfl, S⟩
def W_X12_step : List Nat := [3712, 3776, 3840, 3904, 3968]
set_option maxHeartbeats 400000 in
theorem z_X12_step {fp : Nat → Bool} {b : mH} {m : Nat} (x1 : Int32) (x2 : Int32) (x3 : Int32) (x4 : Int32) (x5 : Int32) (h : mH) (S : SI fp b m h) (ff : ∀ c ∈ W_X12_step, fp c = false)  : ∃ r, f_X12_step x1 x2 x3 x4 x5 h = some r ∧ SI fp b m r.2 := by
  have ff_X12_step_j40 : ∀ c ∈ W_X12_step_j40, fp c = false := fun c hc => ff c ((by decide : ∀ c ∈ W_X12_step_j40, c ∈ W_X12_step) c hc)
  unfold f_X12_step
  obtain ⟨⟨r1v, r1h⟩, e_r1, (hh_r1 : r1h = h), p_r1_0, p_r1_1⟩ := z_X12_isAct x1 h S  
  replace hh_r1 := hh_r1.symm
  subst hh_r1
  dsimp only at p_r1_0 p_r1_1
  have bb_r1 := bool_bd p_r1_0
  rw [e_r1, Option.bind_some]
  try dsimp only
  by_cases q1 : r1v = 0
  · rw [if_pos q1]
    have t2 : (0 : Int32).toInt = 0 := by decide
    first | have hx_3 := i32_hi (r1v) | skip
    first | have hx_4 := i32_lo (r1v) | skip
    first | have f5 : (r1v : Int32).toInt = (0 : Int32).toInt := congrArg Int32.toInt q1 | skip
    exact ⟨_, rfl, S⟩
  · rw [if_neg q1]
    have t6 : (0 : Int32).toInt = 0 := by decide
    first | have hx_7 := i32_hi (r1v) | skip
    first | have hx_8 := i32_lo (r1v) | skip
    first | have f9 : (r1v : Int32).toInt ≠ (0 : Int32).toInt := ti_ne q1 | skip
    have t10 : (3 : Int32).toInt = 3 := by decide
    obtain ⟨⟨r3v, r3h⟩, e_r3, (hh_r3 : r3h = h), p_r3_0, p_r3_1⟩ := z_X12_in x2 0 3 h S  
    replace hh_r3 := hh_r3.symm
    subst hh_r3
    dsimp only at p_r3_0 p_r3_1
    have bb_r3 := bool_bd p_r3_0
    rw [e_r3, Option.bind_some]
    try dsimp only
    by_cases q11 : r3v = 0
    · rw [if_pos q11]
      first | have hx_12 := i32_hi (r3v) | skip
      first | have hx_13 := i32_lo (r3v) | skip
      first | have f14 : (r3v : Int32).toInt = (0 : Int32).toInt := congrArg Int32.toInt q11 | skip
      exact ⟨_, rfl, S⟩
    · rw [if_neg q11]
      first | have hx_15 := i32_hi (r3v) | skip
      first | have hx_16 := i32_lo (r3v) | skip
      first | have f17 : (r3v : Int32).toInt ≠ (0 : Int32).toInt := ti_ne q11 | skip
      by_cases q18 : x2 = 3
      · rw [if_pos q18]
        first | have hx_19 := i32_hi (x2) | skip
        first | have hx_20 := i32_lo (x2) | skip
        first | have f21 : (x2 : Int32).toInt = (3 : Int32).toInt := congrArg Int32.toInt q18 | skip
        by_cases q22 : x3 = (-1)
        · rw [if_pos q22]
          have t23 : ((-1) : Int32).toInt = (-1) := by decide
          first | have hx_24 := i32_hi (x3) | skip
          first | have hx_25 := i32_lo (x3) | skip
          first | have f26 : (x3 : Int32).toInt = (-1 : Int32).toInt := congrArg Int32.toInt q22 | skip
          obtain ⟨rr27, e_rr27, S_rr27⟩ := z_X12_step_j40 x1 x2 x3 x4 x5 h S ff_X12_step_j40 (by omega) (by omega) (by omega) (by omega)
          rw [e_rr27]
          exact ⟨_, rfl, S_rr27⟩
        · rw [if_neg q22]
          have t28 : ((-1) : Int32).toInt = (-1) := by decide
          first | have hx_29 := i32_hi (x3) | skip
          first | have hx_30 := i32_lo (x3) | skip
          first | have f31 : (x3 : Int32).toInt ≠ (-1 : Int32).toInt := ti_ne q22 | skip
          exact ⟨_, rfl, S⟩
      · rw [if_neg q18]
        first | have hx_32 := i32_hi (x2) | skip
        first | have hx_33 := i32_lo (x2) | skip
        first | have f34 : (x2 : Int32).toInt ≠ (3 : Int32).toInt := ti_ne q18 | skip
        obtain ⟨⟨r6v, r6h⟩, e_r6, (hh_r6 : r6h = h), p_r6_0, p_r6_1⟩ := z_X12_isField x3 h S  
        replace hh_r6 := hh_r6.symm
        subst hh_r6
        dsimp only at p_r6_0 p_r6_1
        have bb_r6 := bool_bd p_r6_0
        rw [e_r6, Option.bind_some]
        try dsimp only
        by_cases q35 : r6v = 0
        · rw [if_pos q35]
          first | have hx_36 := i32_hi (r6v) | skip
          first | have hx_37 := i32_lo (r6v) | skip
          first | have f38 : (r6v : Int32).toInt = (0 : Int32).toInt := congrArg Int32.toInt q35 | skip
          exact ⟨_, rfl, S⟩
        · rw [if_neg q35]
          first | have hx_39 := i32_hi (r6v) | skip
          first | have hx_40 := i32_lo (r6v) | skip
          first | have f41 : (r6v : Int32).toInt ≠ (0 : Int32).toInt := ti_ne q35 | skip
          obtain ⟨rr42, e_rr42, S_rr42⟩ := z_X12_step_j40 x1 x2 x3 x4 x5 h S ff_X12_step_j40 (by omega) (by omega) (by omega) (by omega)
          rw [e_rr42]
          exact ⟨_, rfl, S_rr42⟩
def W_X12_bare : List Nat := [3712]
set_option maxHeartbeats 400000 in
theorem z_X12_bare {fp : Nat → Bool} {b : mH} {m : Nat} (x1 : Int32) (h : mH) (S : SI fp b m h) (ff : ∀ c ∈ W_X12_bare, fp c = false)  : ∃ r, f_X12_bare x1 h = some r ∧ SI fp b m r.2 := by
  have w3712 : fp 3712 = false := ff 3712 (by decide)
  unfold f_X12_bare
  obtain ⟨⟨r1v, r1h⟩, e_r1, (hh_r1 : r1h = h), p_r1_0, p_r1_1⟩ := z_X12_isAct x1 h S  
  replace hh_r1 := hh_r1.symm
  subst hh_r1
  dsimp only at p_r1_0 p_r1_1
  have bb_r1 := bool_bd p_r1_0
  rw [e_r1, Option.bind_some]
  try dsimp only
  by_cases q1 : r1v = 0
  · rw [if_pos q1]
    have t2 : (0 : Int32).toInt = 0 := by decide
    first | have hx_3 := i32_hi (r1v) | skip
    first | have hx_4 := i32_lo (r1v) | skip
    first | have f5 : (r1v : Int32).toInt = (0 : Int32).toInt := congrArg Int32.toInt q1 | skip
    exact ⟨_, rfl, S⟩
  · rw [if_neg q1]
    have t6 : (0 : Int32).toInt = 0 := by decide
    first | have hx_7 := i32_hi (r1v) | skip
    first | have hx_8 := i32_lo (r1v) | skip
    first | have f9 : (r1v : Int32).toInt ≠ (0 : Int32).toInt := ti_ne q1 | skip
    have q10 : mIn x1 6 = true := (mIn_bd (by omega) (by omega))
    rw [if_pos q10]
    have w_11 : 0 ≤ (0 : Int32).toInt ∧ (0 : Int32).toInt ≤ 12 := by omega
    exact ⟨_, rfl, (SI.u S rfl w3712 w_11)⟩
def W_X12_handler : List Nat := [3392]
set_option maxHeartbeats 400000 in
theorem z_X12_handler {fp : Nat → Bool} {b : mH} {m : Nat} (x1 : Int32) (x2 : Int32) (h : mH) (S : SI fp b m h) (ff : ∀ c ∈ W_X12_handler, fp c = false)  : ∃ r, f_X12_handler x1 x2 h = some r ∧ SI fp b m r.2 := by
  have w3392 : fp 3392 = false := ff 3392 (by decide)
  unfold f_X12_handler
  obtain ⟨⟨r1v, r1h⟩, e_r1, (hh_r1 : r1h = h), p_r1_0, p_r1_1⟩ := z_X12_isField x1 h S  
  replace hh_r1 := hh_r1.symm
  subst hh_r1
  dsimp only at p_r1_0 p_r1_1
  have bb_r1 := bool_bd p_r1_0
  rw [e_r1, Option.bind_some]
  try dsimp only
  by_cases q1 : r1v = 0
  · rw [if_pos q1]
    have t2 : (0 : Int32).toInt = 0 := by decide
    first | have hx_3 := i32_hi (r1v) | skip
    first | have hx_4 := i32_lo (r1v) | skip
    first | have f5 : (r1v : Int32).toInt = (0 : Int32).toInt := congrArg Int32.toInt q1 | skip
    exact ⟨_, rfl, S⟩
  · rw [if_neg q1]
    have t6 : (0 : Int32).toInt = 0 := by decide
    first | have hx_7 := i32_hi (r1v) | skip
    first | have hx_8 := i32_lo (r1v) | skip
    first | have f9 : (r1v : Int32).toInt ≠ (0 : Int32).toInt := ti_ne q1 | skip
    by_cases q10 : x2 = (-1)
    · rw [if_pos q10]
      have t11 : ((-1) : Int32).toInt = (-1) := by decide
      first | have hx_12 := i32_hi (x2) | skip
      first | have hx_13 := i32_lo (x2) | skip
      first | have f14 : (x2 : Int32).toInt = (-1 : Int32).toInt := congrArg Int32.toInt q10 | skip
      have q15 : mIn x1 24 = true := (mIn_bd (by omega) (by omega))
      rw [if_pos q15]
      by_cases q16 : (h.1 49 0 x1.toNatClampNeg) = 2
      · rw [if_pos q16]
        have t17 : (2 : Int32).toInt = 2 := by decide
        first | have hx_18 := i32_hi (h.1 49 0 x1.toNatClampNeg) | skip
        first | have hx_19 := i32_lo (h.1 49 0 x1.toNatClampNeg) | skip
        first | have f20 : (h.1 49 0 x1.toNatClampNeg : Int32).toInt = (2 : Int32).toInt := congrArg Int32.toInt q16 | skip
        have w_21 : -1 ≤ (x2 : Int32).toInt ∧ (x2 : Int32).toInt ≤ 5 := by omega
        exact ⟨_, rfl, (SI.u S rfl w3392 w_21)⟩
      · rw [if_neg q16]
        have t22 : (2 : Int32).toInt = 2 := by decide
        first | have hx_23 := i32_hi (h.1 49 0 x1.toNatClampNeg) | skip
        first | have hx_24 := i32_lo (h.1 49 0 x1.toNatClampNeg) | skip
        first | have f25 : (h.1 49 0 x1.toNatClampNeg : Int32).toInt ≠ (2 : Int32).toInt := ti_ne q16 | skip
        exact ⟨_, rfl, S⟩
    · rw [if_neg q10]
      have t26 : ((-1) : Int32).toInt = (-1) := by decide
      first | have hx_27 := i32_hi (x2) | skip
      first | have hx_28 := i32_lo (x2) | skip
      first | have f29 : (x2 : Int32).toInt ≠ (-1 : Int32).toInt := ti_ne q10 | skip
      obtain ⟨⟨r6v, r6h⟩, e_r6, (hh_r6 : r6h = h), p_r6_0, p_r6_1⟩ := z_X12_isAct x2 h S  
      replace hh_r6 := hh_r6.symm
      subst hh_r6
      dsimp only at p_r6_0 p_r6_1
      have bb_r6 := bool_bd p_r6_0
      rw [e_r6, Option.bind_some]
      try dsimp only
      by_cases q30 : r6v = 0
      · rw [if_pos q30]
        first | have hx_31 := i32_hi (r6v) | skip
        first | have hx_32 := i32_lo (r6v) | skip
        first | have f33 : (r6v : Int32).toInt = (0 : Int32).toInt := congrArg Int32.toInt q30 | skip
        exact ⟨_, rfl, S⟩
      · rw [if_neg q30]
        first | have hx_34 := i32_hi (r6v) | skip
        first | have hx_35 := i32_lo (r6v) | skip
        first | have f36 : (r6v : Int32).toInt ≠ (0 : Int32).toInt := ti_ne q30 | skip
        have q37 : mIn x1 24 = true := (mIn_bd (by omega) (by omega))
        rw [if_pos q37]
        by_cases q38 : (h.1 49 0 x1.toNatClampNeg) = 2
        · rw [if_pos q38]
          have t39 : (2 : Int32).toInt = 2 := by decide
          first | have hx_40 := i32_hi (h.1 49 0 x1.toNatClampNeg) | skip
          first | have hx_41 := i32_lo (h.1 49 0 x1.toNatClampNeg) | skip
          first | have f42 : (h.1 49 0 x1.toNatClampNeg : Int32).toInt = (2 : Int32).toInt := congrArg Int32.toInt q38 | skip
          have w_43 : -1 ≤ (x2 : Int32).toInt ∧ (x2 : Int32).toInt ≤ 5 := by omega
          exact ⟨_, rfl, (SI.u S rfl w3392 w_43)⟩
        · rw [if_neg q38]
          have t44 : (2 : Int32).toInt = 2 := by decide
          first | have hx_45 := i32_hi (h.1 49 0 x1.toNatClampNeg) | skip
          first | have hx_46 := i32_lo (h.1 49 0 x1.toNatClampNeg) | skip
          first | have f47 : (h.1 49 0 x1.toNatClampNeg : Int32).toInt ≠ (2 : Int32).toInt := ti_ne q38 | skip
          exact ⟨_, rfl, S⟩
def W_X12_locks : List Nat := [790]
set_option maxHeartbeats 400000 in
theorem z_X12_locks {fp : Nat → Bool} {b : mH} {m : Nat} (x1 : Int32) (h : mH) (S : SI fp b m h) (ff : ∀ c ∈ W_X12_locks, fp c = false)  : ∃ r, f_X12_locks x1 h = some r ∧ SI fp b m r.2 := by
  have w790 : fp 790 = false := ff 790 (by decide)
  unfold f_X12_locks
  have t1 : (0 : Int32).toInt = 0 := by decide
  have t2 : (1 : Int32).toInt = 1 := by decide
  obtain ⟨⟨r1v, r1h⟩, e_r1, (hh_r1 : r1h = h), p_r1_0, p_r1_1⟩ := z_X12_in x1 0 1 h S  
  replace hh_r1 := hh_r1.symm
  subst hh_r1
  dsimp only at p_r1_0 p_r1_1
  have bb_r1 := bool_bd p_r1_0
  rw [e_r1, Option.bind_some]
  try dsimp only
  by_cases q3 : r1v = 0
  · rw [if_pos q3]
    first | have hx_4 := i32_hi (r1v) | skip
    first | have hx_5 := i32_lo (r1v) | skip
    first | have f6 : (r1v : Int32).toInt = (0 : Int32).toInt := congrArg Int32.toInt q3 | skip
    exact ⟨_, rfl, S⟩
  · rw [if_neg q3]
    first | have hx_7 := i32_hi (r1v) | skip
    first | have hx_8 := i32_lo (r1v) | skip
    first | have f9 : (r1v : Int32).toInt ≠ (0 : Int32).toInt := ti_ne q3 | skip
    exact ⟨_, rfl, (SI.f S rfl w790 rfl)⟩
def W_X12_ticks_106 : List Nat := [4032, 4416, 4480, 4544]
set_option maxHeartbeats 400000 in
theorem z_X12_ticks_106 {fp : Nat → Bool} {b : mH} {m : Nat} {P : mH → Prop} (k : Int32 → Int32 → mH → Option (mH))   (ff : ∀ c ∈ W_X12_ticks_106, fp c = false)  (hk : ∀ (v1 : Int32) (v2 : Int32) (h : mH), SI fp b m h → 0 ≤ v2.toInt → (0 ≤ v1.toInt ∧ v1.toInt ≤ v2.toInt ∧ v2.toInt ≤ 16) → ∃ r, k v1 v2 h = some r ∧ P r) : ∀ (n : Nat) (v1 : Int32) (v2 : Int32) (h : mH), SI fp b m h → 0 ≤ v2.toInt → (0 ≤ v1.toInt ∧ v1.toInt ≤ v2.toInt ∧ v2.toInt ≤ 16) → 2147483648 - v2.toInt < n → ∃ r, f_X12_ticks_106 k  n v1 v2 h = some r ∧ P r := by
  have w4032 : fp 4032 = false := ff 4032 (by decide)
  have w4416 : fp 4416 = false := ff 4416 (by decide)
  have w4480 : fp 4480 = false := ff 4480 (by decide)
  have w4544 : fp 4544 = false := ff 4544 (by decide)
  intro n
  induction n with
  | zero =>
    intro v1 v2 h S iv0 iv1 hm
    have hz := i32_hi v2
    omega
  | succ n ih =>
    intro v1 v2 h S iv0 iv1 hm
    rw [f_X12_ticks_106]
    by_cases q1 : v2 < (h.1 12 0 30)
    · rw [if_pos q1]
      have b2 : 0 ≤ (h.1 12 0 30).toInt ∧ (h.1 12 0 30).toInt ≤ 16 := (S).1 12 0 30
      first | have hx_3 := i32_hi (v2) | skip
      first | have hx_4 := i32_lo (v2) | skip
      first | have hx_5 := i32_hi (h.1 12 0 30) | skip
      first | have hx_6 := i32_lo (h.1 12 0 30) | skip
      first | have f7 : (v2 : Int32).toInt < (h.1 12 0 30 : Int32).toInt := Int32.lt_iff_toInt_lt.mp q1 | skip
      have q8 : mIn v2 17 = true := (mIn_bd (by omega) (by omega))
      rw [if_pos q8]
      by_cases q9 : (h.1 71 0 v2.toNatClampNeg) = (h.1 12 0 23)
      · rw [if_pos q9]
        first | have hx_10 := i32_hi (h.1 71 0 v2.toNatClampNeg) | skip
        first | have hx_11 := i32_lo (h.1 71 0 v2.toNatClampNeg) | skip
        first | have hx_12 := i32_hi (h.1 12 0 23) | skip
        first | have hx_13 := i32_lo (h.1 12 0 23) | skip
        first | have f14 : (h.1 71 0 v2.toNatClampNeg : Int32).toInt = (h.1 12 0 23 : Int32).toInt := congrArg Int32.toInt q9 | skip
        have b15 : 0 ≤ (h.1 69 0 v2.toNatClampNeg).toInt ∧ (h.1 69 0 v2.toNatClampNeg).toInt ≤ 23 := (S).1 69 0 v2.toNatClampNeg
        have q16 : mIn (h.1 69 0 v2.toNatClampNeg) 24 = true := (mIn_bd (by omega) (by omega))
        rw [if_pos q16]
        by_cases q17 : (h.1 49 0 (h.1 69 0 v2.toNatClampNeg).toNatClampNeg) = 1
        · rw [if_pos q17]
          have t18 : (1 : Int32).toInt = 1 := by decide
          first | have hx_19 := i32_hi (h.1 49 0 (h.1 69 0 v2.toNatClampNeg).toNatClampNeg) | skip
          first | have hx_20 := i32_lo (h.1 49 0 (h.1 69 0 v2.toNatClampNeg).toNatClampNeg) | skip
          first | have f21 : (h.1 49 0 (h.1 69 0 v2.toNatClampNeg).toNatClampNeg : Int32).toInt = (1 : Int32).toInt := congrArg Int32.toInt q17 | skip
          first | have o22 : (v2 + 1 : Int32).toInt = (v2 : Int32).toInt + (1 : Int32).toInt := ti_add (by omega) (by omega) | skip
          exact ih v1 (v2 + 1) (uI h 63 0 (h.1 69 0 v2.toNatClampNeg).toNatClampNeg (h.1 70 0 v2.toNatClampNeg)) (SI.f S rfl w4032 rfl) (by omega) (by omega) (by omega)
        · rw [if_neg q17]
          have t23 : (1 : Int32).toInt = 1 := by decide
          first | have hx_24 := i32_hi (h.1 49 0 (h.1 69 0 v2.toNatClampNeg).toNatClampNeg) | skip
          first | have hx_25 := i32_lo (h.1 49 0 (h.1 69 0 v2.toNatClampNeg).toNatClampNeg) | skip
          first | have f26 : (h.1 49 0 (h.1 69 0 v2.toNatClampNeg).toNatClampNeg : Int32).toInt ≠ (1 : Int32).toInt := ti_ne q17 | skip
          first | have o27 : (v2 + 1 : Int32).toInt = (v2 : Int32).toInt + (1 : Int32).toInt := ti_add (by omega) (by omega) | skip
          exact ih v1 (v2 + 1) (uI h 63 0 (h.1 69 0 v2.toNatClampNeg).toNatClampNeg ((h.1 63 0 (h.1 69 0 v2.toNatClampNeg).toNatClampNeg) ||| (h.1 70 0 v2.toNatClampNeg))) (SI.f S rfl w4032 rfl) (by omega) (by omega) (by omega)
      · rw [if_neg q9]
        first | have hx_28 := i32_hi (h.1 71 0 v2.toNatClampNeg) | skip
        first | have hx_29 := i32_lo (h.1 71 0 v2.toNatClampNeg) | skip
        first | have hx_30 := i32_hi (h.1 12 0 23) | skip
        first | have hx_31 := i32_lo (h.1 12 0 23) | skip
        first | have f32 : (h.1 71 0 v2.toNatClampNeg : Int32).toInt ≠ (h.1 12 0 23 : Int32).toInt := ti_ne q9 | skip
        have q33 : mIn v1 17 = true := (mIn_bd (by omega) (by omega))
        rw [if_pos q33]
        have b34 : 0 ≤ (h.1 69 0 v2.toNatClampNeg).toInt ∧ (h.1 69 0 v2.toNatClampNeg).toInt ≤ 23 := (S).1 69 0 v2.toNatClampNeg
        have w_35 : 0 ≤ (h.1 69 0 v2.toNatClampNeg : Int32).toInt ∧ (h.1 69 0 v2.toNatClampNeg : Int32).toInt ≤ 23 := by omega
        refine let_ex (fun h17 e_h17 => ?_)
        have S_h17 : SI fp b m h17 := e_h17 ▸ (SI.u S rfl w4416 w_35)
        refine let_ex (fun h18 e_h18 => ?_)
        have S_h18 : SI fp b m h18 := e_h18 ▸ (SI.f S_h17 rfl w4480 rfl)
        have t36 : (1 : Int32).toInt = 1 := by decide
        first | have o37 : (v2 + 1 : Int32).toInt = (v2 : Int32).toInt + (1 : Int32).toInt := ti_add (by omega) (by omega) | skip
        first | have o38 : (v1 + 1 : Int32).toInt = (v1 : Int32).toInt + (1 : Int32).toInt := ti_add (by omega) (by omega) | skip
        exact ih (v1 + 1) (v2 + 1) (uI h18 71 0 v1.toNatClampNeg (h18.1 71 0 v2.toNatClampNeg)) (SI.f S_h18 rfl w4544 rfl) (by omega) (by omega) (by omega)
    · rw [if_neg q1]
      have b39 : 0 ≤ (h.1 12 0 30).toInt ∧ (h.1 12 0 30).toInt ≤ 16 := (S).1 12 0 30
      first | have hx_40 := i32_hi (v2) | skip
      first | have hx_41 := i32_lo (v2) | skip
      first | have hx_42 := i32_hi (h.1 12 0 30) | skip
      first | have hx_43 := i32_lo (h.1 12 0 30) | skip
      first | have f44 : (h.1 12 0 30 : Int32).toInt ≤ (v2 : Int32).toInt := Int32.le_iff_toInt_le.mp (Int32.not_lt.mp q1) | skip
      exact hk v1 v2 h S iv0 iv1
def W_X12_ticks_12 : List Nat := [4032, 4160]
set_option maxHeartbeats 400000 in
theorem z_X12_ticks_12 {fp : Nat → Bool} {b : mH} {m : Nat} {P : mH → Prop} (k : Int32 → mH → Option (mH))   (ff : ∀ c ∈ W_X12_ticks_12, fp c = false)  (hk : ∀ (v1 : Int32) (h : mH), SI fp b m h → 0 ≤ v1.toInt → ∃ r, k v1 h = some r ∧ P r) : ∀ (n : Nat) (v1 : Int32) (h : mH), SI fp b m h → 0 ≤ v1.toInt → 2147483648 - v1.toInt < n → ∃ r, f_X12_ticks_12 k  n v1 h = some r ∧ P r := by
  have w4032 : fp 4032 = false := ff 4032 (by decide)
  have w4160 : fp 4160 = false := ff 4160 (by decide)
  intro n
  induction n with
  | zero =>
    intro v1 h S iv0 hm
    have hz := i32_hi v1
    omega
  | succ n ih =>
    intro v1 h S iv0 hm
    rw [f_X12_ticks_12]
    by_cases q1 : v1 < (h.1 12 0 2)
    · rw [if_pos q1]
      have b2 : 0 ≤ (h.1 12 0 2).toInt ∧ (h.1 12 0 2).toInt ≤ 24 := (S).1 12 0 2
      first | have hx_3 := i32_hi (v1) | skip
      first | have hx_4 := i32_lo (v1) | skip
      first | have hx_5 := i32_hi (h.1 12 0 2) | skip
      first | have hx_6 := i32_lo (h.1 12 0 2) | skip
      first | have f7 : (v1 : Int32).toInt < (h.1 12 0 2 : Int32).toInt := Int32.lt_iff_toInt_lt.mp q1 | skip
      have q8 : mIn v1 24 = true := (mIn_bd (by omega) (by omega))
      rw [if_pos q8]
      by_cases q9 : (h.1 49 0 v1.toNatClampNeg) = 4
      · rw [if_pos q9]
        have t10 : (4 : Int32).toInt = 4 := by decide
        first | have hx_11 := i32_hi (h.1 49 0 v1.toNatClampNeg) | skip
        first | have hx_12 := i32_lo (h.1 49 0 v1.toNatClampNeg) | skip
        first | have f13 : (h.1 49 0 v1.toNatClampNeg : Int32).toInt = (4 : Int32).toInt := congrArg Int32.toInt q9 | skip
        by_cases q14 : (h.1 65 0 v1.toNatClampNeg) ≤ 0
        · rw [if_pos q14]
          have t15 : (0 : Int32).toInt = 0 := by decide
          first | have hx_16 := i32_hi (h.1 65 0 v1.toNatClampNeg) | skip
          first | have hx_17 := i32_lo (h.1 65 0 v1.toNatClampNeg) | skip
          first | have f18 : (h.1 65 0 v1.toNatClampNeg : Int32).toInt ≤ (0 : Int32).toInt := Int32.le_iff_toInt_le.mp q14 | skip
          have t19 : (1 : Int32).toInt = 1 := by decide
          first | have o20 : (v1 + 1 : Int32).toInt = (v1 : Int32).toInt + (1 : Int32).toInt := ti_add (by omega) (by omega) | skip
          exact ih (v1 + 1) h S (by omega) (by omega)
        · rw [if_neg q14]
          have t21 : (0 : Int32).toInt = 0 := by decide
          first | have hx_22 := i32_hi (h.1 65 0 v1.toNatClampNeg) | skip
          first | have hx_23 := i32_lo (h.1 65 0 v1.toNatClampNeg) | skip
          first | have f24 : (0 : Int32).toInt < (h.1 65 0 v1.toNatClampNeg : Int32).toInt := Int32.lt_iff_toInt_lt.mp (Int32.not_le.mp q14) | skip
          refine let_ex (fun h5 e_h5 => ?_)
          have S_h5 : SI fp b m h5 := e_h5 ▸ (SI.f S rfl w4160 rfl)
          by_cases q25 : (h5.1 65 0 v1.toNatClampNeg) = 0
          · rw [if_pos q25]
            have t26 : (1 : Int32).toInt = 1 := by decide
            first | have o27 : ((h.1 65 0 v1.toNatClampNeg) - 1 : Int32).toInt = (h.1 65 0 v1.toNatClampNeg : Int32).toInt - (1 : Int32).toInt := ti_sub (by omega) (by omega) | skip
            have l28 : (h5.1 65 0 v1.toNatClampNeg).toInt = ((h.1 65 0 v1.toNatClampNeg) - 1 : Int32).toInt := by rw [← e_h5, uI_s']
            first | have hx_29 := i32_hi (h5.1 65 0 v1.toNatClampNeg) | skip
            first | have hx_30 := i32_lo (h5.1 65 0 v1.toNatClampNeg) | skip
            first | have f31 : (h5.1 65 0 v1.toNatClampNeg : Int32).toInt = (0 : Int32).toInt := congrArg Int32.toInt q25 | skip
            refine let_ex (fun h7 e_h7 => ?_)
            have S_h7 : SI fp b m h7 := e_h7 ▸ (SI.f S_h5 rfl w4032 rfl)
            by_cases q32 : (h7.1 52 0 v1.toNatClampNeg) = (-1)
            · rw [if_pos q32]
              have b33 : -1 ≤ (h7.1 52 0 v1.toNatClampNeg).toInt ∧ (h7.1 52 0 v1.toNatClampNeg).toInt ≤ 23 := (S_h7).1 52 0 v1.toNatClampNeg
              have l34 : (h7.1 52 0 v1.toNatClampNeg).toInt = (h5.1 52 0 v1.toNatClampNeg).toInt := by rw [← e_h7, uI_t _ rfl]
              have b35 : -1 ≤ (h5.1 52 0 v1.toNatClampNeg).toInt ∧ (h5.1 52 0 v1.toNatClampNeg).toInt ≤ 23 := (S_h5).1 52 0 v1.toNatClampNeg
              have l36 : (h5.1 52 0 v1.toNatClampNeg).toInt = (h.1 52 0 v1.toNatClampNeg).toInt := by rw [← e_h5, uI_t _ rfl]
              have b37 : -1 ≤ (h.1 52 0 v1.toNatClampNeg).toInt ∧ (h.1 52 0 v1.toNatClampNeg).toInt ≤ 23 := (S).1 52 0 v1.toNatClampNeg
              have t38 : ((-1) : Int32).toInt = (-1) := by decide
              first | have hx_39 := i32_hi (h7.1 52 0 v1.toNatClampNeg) | skip
              first | have hx_40 := i32_lo (h7.1 52 0 v1.toNatClampNeg) | skip
              first | have f41 : (h7.1 52 0 v1.toNatClampNeg : Int32).toInt = (-1 : Int32).toInt := congrArg Int32.toInt q32 | skip
              first | have o42 : (v1 + 1 : Int32).toInt = (v1 : Int32).toInt + (1 : Int32).toInt := ti_add (by omega) (by omega) | skip
              exact ih (v1 + 1) h7 S_h7 (by omega) (by omega)
            · rw [if_neg q32]
              have b43 : -1 ≤ (h7.1 52 0 v1.toNatClampNeg).toInt ∧ (h7.1 52 0 v1.toNatClampNeg).toInt ≤ 23 := (S_h7).1 52 0 v1.toNatClampNeg
              have l44 : (h7.1 52 0 v1.toNatClampNeg).toInt = (h5.1 52 0 v1.toNatClampNeg).toInt := by rw [← e_h7, uI_t _ rfl]
              have b45 : -1 ≤ (h5.1 52 0 v1.toNatClampNeg).toInt ∧ (h5.1 52 0 v1.toNatClampNeg).toInt ≤ 23 := (S_h5).1 52 0 v1.toNatClampNeg
              have l46 : (h5.1 52 0 v1.toNatClampNeg).toInt = (h.1 52 0 v1.toNatClampNeg).toInt := by rw [← e_h5, uI_t _ rfl]
              have b47 : -1 ≤ (h.1 52 0 v1.toNatClampNeg).toInt ∧ (h.1 52 0 v1.toNatClampNeg).toInt ≤ 23 := (S).1 52 0 v1.toNatClampNeg
              have t48 : ((-1) : Int32).toInt = (-1) := by decide
              first | have hx_49 := i32_hi (h7.1 52 0 v1.toNatClampNeg) | skip
              first | have hx_50 := i32_lo (h7.1 52 0 v1.toNatClampNeg) | skip
              first | have f51 : (h7.1 52 0 v1.toNatClampNeg : Int32).toInt ≠ (-1 : Int32).toInt := ti_ne q32 | skip
              obtain ⟨⟨r9v, r9h⟩, e_r9, (hh_r9 : r9h = h7)⟩ := z_X12_most (h7.1 52 0 v1.toNatClampNeg) h7 S_h7  (by omega)
              replace hh_r9 := hh_r9.symm
              subst hh_r9
              rw [e_r9, Option.bind_some]
              try dsimp only
              have q52 : mIn (h7.1 52 0 v1.toNatClampNeg) 24 = true := (mIn_bd (by omega) (by omega))
              rw [if_pos q52]
              first | have o53 : (v1 + 1 : Int32).toInt = (v1 : Int32).toInt + (1 : Int32).toInt := ti_add (by omega) (by omega) | skip
              exact ih (v1 + 1) (uI h7 63 0 (h7.1 52 0 v1.toNatClampNeg).toNatClampNeg r9v) (SI.f S_h7 rfl w4032 rfl) (by omega) (by omega)
          · rw [if_neg q25]
            have t54 : (1 : Int32).toInt = 1 := by decide
            first | have o55 : ((h.1 65 0 v1.toNatClampNeg) - 1 : Int32).toInt = (h.1 65 0 v1.toNatClampNeg : Int32).toInt - (1 : Int32).toInt := ti_sub (by omega) (by omega) | skip
            have l56 : (h5.1 65 0 v1.toNatClampNeg).toInt = ((h.1 65 0 v1.toNatClampNeg) - 1 : Int32).toInt := by rw [← e_h5, uI_s']
            first | have hx_57 := i32_hi (h5.1 65 0 v1.toNatClampNeg) | skip
            first | have hx_58 := i32_lo (h5.1 65 0 v1.toNatClampNeg) | skip
            first | have f59 : (h5.1 65 0 v1.toNatClampNeg : Int32).toInt ≠ (0 : Int32).toInt := ti_ne q25 | skip
            first | have o60 : (v1 + 1 : Int32).toInt = (v1 : Int32).toInt + (1 : Int32).toInt := ti_add (by omega) (by omega) | skip
            exact ih (v1 + 1) h5 S_h5 (by omega) (by omega)
      · rw [if_neg q9]
        have t61 : (4 : Int32).toInt = 4 := by decide
        first | have hx_62 := i32_hi (h.1 49 0 v1.toNatClampNeg) | skip
        first | have hx_63 := i32_lo (h.1 49 0 v1.toNatClampNeg) | skip
        first | have f64 : (h.1 49 0 v1.toNatClampNeg : Int32).toInt ≠ (4 : Int32).toInt := ti_ne q9 | skip
        have t65 : (1 : Int32).toInt = 1 := by decide
        first | have o66 : (v1 + 1 : Int32).toInt = (v1 : Int32).toInt + (1 : Int32).toInt := ti_add (by omega) (by omega) | skip
        exact ih (v1 + 1) h S (by omega) (by omega)
    · rw [if_neg q1]
      have b67 : 0 ≤ (h.1 12 0 2).toInt ∧ (h.1 12 0 2).toInt ≤ 24 := (S).1 12 0 2
      first | have hx_68 := i32_hi (v1) | skip
      first | have hx_69 := i32_lo (v1) | skip
      first | have hx_70 := i32_hi (h.1 12 0 2) | skip
      first | have hx_71 := i32_lo (h.1 12 0 2) | skip
      first | have f72 : (h.1 12 0 2 : Int32).toInt ≤ (v1 : Int32).toInt := Int32.le_iff_toInt_le.mp (Int32.not_lt.mp q1) | skip
      exact hk v1 h S iv0
def W_X12_ticks : List Nat := [791, 798, 4032, 4160, 4416, 4480, 4544]
set_option maxHeartbeats 400000 in
theorem z_X12_ticks {fp : Nat → Bool} {b : mH} {m : Nat}  (h : mH) (S : SI fp b m h) (ff : ∀ c ∈ W_X12_ticks, fp c = false)  : ∃ r, f_X12_ticks h = some r ∧ SI fp b (m + 1) r := by
  have ff_X12_ticks_106 : ∀ c ∈ W_X12_ticks_106, fp c = false := fun c hc => ff c ((by decide : ∀ c ∈ W_X12_ticks_106, c ∈ W_X12_ticks) c hc)
  have ff_X12_ticks_12 : ∀ c ∈ W_X12_ticks_12, fp c = false := fun c hc => ff c ((by decide : ∀ c ∈ W_X12_ticks_12, c ∈ W_X12_ticks) c hc)
  have w791 : fp 791 = false := ff 791 (by decide)
  have w798 : fp 798 = false := ff 798 (by decide)
  unfold f_X12_ticks
  obtain ⟨g1, e_g1⟩ : ∃ g, uI h 12 0 23 ((h.1 12 0 23) + 1) = g := ⟨_, rfl⟩
  rw [e_g1]
  have S_g1 : SI fp b (m + 1) g1 := e_g1 ▸ (SI.tkM S w791)
  have t2 : (0 : Int32).toInt = 0 := by decide
  refine z_X12_ticks_12 (m := (m + 1)) _   ff_X12_ticks_12  (fun u11 h12 S_h12 y3 => ?_)  mFu 0 g1 S_g1 (by omega) (by have := mFu_big; omega)
  try dsimp only
  refine z_X12_ticks_106 (m := (m + 1)) _   ff_X12_ticks_106  (fun u21 u22 h23 S_h23 y4 y5 => ?_)  mFu 0 0 h12 S_h12 (by omega) (by omega) (by have := mFu_big; omega)
  try dsimp only
  have w_6 : 0 ≤ (u21 : Int32).toInt ∧ (u21 : Int32).toInt ≤ 16 := by omega
  exact ⟨_, rfl, (SI.u S_h23 rfl w798 w_6)⟩
def W_X12_reads_5 : List Nat := [4032, 4224]
set_option maxHeartbeats 400000 in
theorem z_X12_reads_5 {fp : Nat → Bool} {b : mH} {m : Nat} {P : Int32 × mH → Prop} (k : Int32 → Int32 → Int32 → Int32 → mH → Option (Int32 × mH))  (v1 : Int32) (v2 : Int32) (ff : ∀ c ∈ W_X12_reads_5, fp c = false)  (hk : ∀ (v3 : Int32) (v4 : Int32) (h : mH), SI fp b m h → 0 ≤ v4.toInt → ∃ r, k v1 v2 v3 v4 h = some r ∧ P r) : ∀ (n : Nat) (v3 : Int32) (v4 : Int32) (h : mH), SI fp b m h → 0 ≤ v4.toInt → 2147483648 - v4.toInt < n → ∃ r, f_X12_reads_5 k  n v1 v2 v3 v4 h = some r ∧ P r := by
  have w4032 : fp 4032 = false := ff 4032 (by decide)
  have w4224 : fp 4224 = false := ff 4224 (by decide)
  intro n
  induction n with
  | zero =>
    intro v3 v4 h S iv0 hm
    have hz := i32_hi v4
    omega
  | succ n ih =>
    intro v3 v4 h S iv0 hm
    rw [f_X12_reads_5]
    by_cases q1 : v4 < (h.1 12 0 2)
    · rw [if_pos q1]
      have b2 : 0 ≤ (h.1 12 0 2).toInt ∧ (h.1 12 0 2).toInt ≤ 24 := (S).1 12 0 2
      first | have hx_3 := i32_hi (v4) | skip
      first | have hx_4 := i32_lo (v4) | skip
      first | have hx_5 := i32_hi (h.1 12 0 2) | skip
      first | have hx_6 := i32_lo (h.1 12 0 2) | skip
      first | have f7 : (v4 : Int32).toInt < (h.1 12 0 2 : Int32).toInt := Int32.lt_iff_toInt_lt.mp q1 | skip
      have q8 : mIn v4 24 = true := (mIn_bd (by omega) (by omega))
      rw [if_pos q8]
      by_cases q9 : (h.1 46 0 v4.toNatClampNeg) = v1
      · rw [if_pos q9]
        have b10 : 0 ≤ (h.1 46 0 v4.toNatClampNeg).toInt ∧ (h.1 46 0 v4.toNatClampNeg).toInt ≤ 7 := (S).1 46 0 v4.toNatClampNeg
        first | have hx_11 := i32_hi (h.1 46 0 v4.toNatClampNeg) | skip
        first | have hx_12 := i32_lo (h.1 46 0 v4.toNatClampNeg) | skip
        first | have hx_13 := i32_hi (v1) | skip
        first | have hx_14 := i32_lo (v1) | skip
        first | have f15 : (h.1 46 0 v4.toNatClampNeg : Int32).toInt = (v1 : Int32).toInt := congrArg Int32.toInt q9 | skip
        by_cases q16 : (h.1 49 0 v4.toNatClampNeg) = 6
        · rw [if_pos q16]
          have t17 : (6 : Int32).toInt = 6 := by decide
          first | have hx_18 := i32_hi (h.1 49 0 v4.toNatClampNeg) | skip
          first | have hx_19 := i32_lo (h.1 49 0 v4.toNatClampNeg) | skip
          first | have f20 : (h.1 49 0 v4.toNatClampNeg : Int32).toInt = (6 : Int32).toInt := congrArg Int32.toInt q16 | skip
          have t21 : (1 : Int32).toInt = 1 := by decide
          first | have o22 : (v4 + 1 : Int32).toInt = (v4 : Int32).toInt + (1 : Int32).toInt := ti_add (by omega) (by omega) | skip
          exact ih v3 (v4 + 1) h S (by omega) (by omega)
        · rw [if_neg q16]
          have t23 : (6 : Int32).toInt = 6 := by decide
          first | have hx_24 := i32_hi (h.1 49 0 v4.toNatClampNeg) | skip
          first | have hx_25 := i32_lo (h.1 49 0 v4.toNatClampNeg) | skip
          first | have f26 : (h.1 49 0 v4.toNatClampNeg : Int32).toInt ≠ (6 : Int32).toInt := ti_ne q16 | skip
          by_cases q27 : (h.1 49 0 v4.toNatClampNeg) = 3
          · rw [if_pos q27]
            have t28 : (3 : Int32).toInt = 3 := by decide
            first | have f29 : (h.1 49 0 v4.toNatClampNeg : Int32).toInt = (3 : Int32).toInt := congrArg Int32.toInt q27 | skip
            by_cases q30 : v2 = 0
            · rw [if_pos q30]
              have t31 : (0 : Int32).toInt = 0 := by decide
              first | have hx_32 := i32_hi (v2) | skip
              first | have hx_33 := i32_lo (v2) | skip
              first | have f34 : (v2 : Int32).toInt = (0 : Int32).toInt := congrArg Int32.toInt q30 | skip
              refine let_ex (fun h7 e_h7 => ?_)
              have S_h7 : SI fp b m h7 := e_h7 ▸ (SI.f S rfl w4224 rfl)
              have t35 : (1 : Int32).toInt = 1 := by decide
              first | have o36 : (v4 + 1 : Int32).toInt = (v4 : Int32).toInt + (1 : Int32).toInt := ti_add (by omega) (by omega) | skip
              exact ih (v3 ||| ((h.1 63 0 v4.toNatClampNeg) <<< ((h.1 47 0 v4.toNatClampNeg) &&& 31))) (v4 + 1) (uI h7 63 0 v4.toNatClampNeg 0) (SI.f S_h7 rfl w4032 rfl) (by omega) (by omega)
            · rw [if_neg q30]
              have t37 : (0 : Int32).toInt = 0 := by decide
              first | have hx_38 := i32_hi (v2) | skip
              first | have hx_39 := i32_lo (v2) | skip
              first | have f40 : (v2 : Int32).toInt ≠ (0 : Int32).toInt := ti_ne q30 | skip
              refine let_ex (fun h8 e_h8 => ?_)
              have S_h8 : SI fp b m h8 := e_h8 ▸ (SI.f S rfl w4224 rfl)
              have t41 : (1 : Int32).toInt = 1 := by decide
              first | have o42 : (v4 + 1 : Int32).toInt = (v4 : Int32).toInt + (1 : Int32).toInt := ti_add (by omega) (by omega) | skip
              exact ih (v3 ||| ((h.1 63 0 v4.toNatClampNeg) <<< ((h.1 47 0 v4.toNatClampNeg) &&& 31))) (v4 + 1) (uI h8 63 0 v4.toNatClampNeg 0) (SI.f S_h8 rfl w4032 rfl) (by omega) (by omega)
          · rw [if_neg q27]
            have t43 : (3 : Int32).toInt = 3 := by decide
            first | have f44 : (h.1 49 0 v4.toNatClampNeg : Int32).toInt ≠ (3 : Int32).toInt := ti_ne q27 | skip
            have t45 : (1 : Int32).toInt = 1 := by decide
            first | have o46 : (v4 + 1 : Int32).toInt = (v4 : Int32).toInt + (1 : Int32).toInt := ti_add (by omega) (by omega) | skip
            exact ih (v3 ||| ((h.1 63 0 v4.toNatClampNeg) <<< ((h.1 47 0 v4.toNatClampNeg) &&& 31))) (v4 + 1) h S (by omega) (by omega)
      · rw [if_neg q9]
        have b47 : 0 ≤ (h.1 46 0 v4.toNatClampNeg).toInt ∧ (h.1 46 0 v4.toNatClampNeg).toInt ≤ 7 := (S).1 46 0 v4.toNatClampNeg
        first | have hx_48 := i32_hi (h.1 46 0 v4.toNatClampNeg) | skip
        first | have hx_49 := i32_lo (h.1 46 0 v4.toNatClampNeg) | skip
        first | have hx_50 := i32_hi (v1) | skip
        first | have hx_51 := i32_lo (v1) | skip
        first | have f52 : (h.1 46 0 v4.toNatClampNeg : Int32).toInt ≠ (v1 : Int32).toInt := ti_ne q9 | skip
        have t53 : (1 : Int32).toInt = 1 := by decide
        first | have o54 : (v4 + 1 : Int32).toInt = (v4 : Int32).toInt + (1 : Int32).toInt := ti_add (by omega) (by omega) | skip
        exact ih v3 (v4 + 1) h S (by omega) (by omega)
    · rw [if_neg q1]
      have b55 : 0 ≤ (h.1 12 0 2).toInt ∧ (h.1 12 0 2).toInt ≤ 24 := (S).1 12 0 2
      first | have hx_56 := i32_hi (v4) | skip
      first | have hx_57 := i32_lo (v4) | skip
      first | have hx_58 := i32_hi (h.1 12 0 2) | skip
      first | have hx_59 := i32_lo (h.1 12 0 2) | skip
      first | have f60 : (h.1 12 0 2 : Int32).toInt ≤ (v4 : Int32).toInt := Int32.le_iff_toInt_le.mp (Int32.not_lt.mp q1) | skip
      exact hk v3 v4 h S iv0
def W_X12_reads : List Nat := [791, 798, 4032, 4160, 4224, 4416, 4480, 4544]
set_option maxHeartbeats 400000 in
theorem z_X12_reads {fp : Nat → Bool} {b : mH} {m : Nat} (x1 : Int32) (x2 : Int32) (h : mH) (S : SI fp b m h) (ff : ∀ c ∈ W_X12_reads, fp c = false)  : ∃ r, f_X12_reads x1 x2 h = some r ∧ SI fp b (m + 1) r.2 := by
  have ff_X12_reads_5 : ∀ c ∈ W_X12_reads_5, fp c = false := fun c hc => ff c ((by decide : ∀ c ∈ W_X12_reads_5, c ∈ W_X12_reads) c hc)
  have ff_X12_ticks : ∀ c ∈ W_X12_ticks, fp c = false := fun c hc => ff c ((by decide : ∀ c ∈ W_X12_ticks, c ∈ W_X12_reads) c hc)
  unfold f_X12_reads
  have t1 : (0 : Int32).toInt = 0 := by decide
  refine z_X12_reads_5 (m := m) _  x1 x2 ff_X12_reads_5  (fun u11 u12 h13 S_h13 y2 => ?_)  mFu 0 0 h S (by omega) (by have := mFu_big; omega)
  try dsimp only
  obtain ⟨r14, e_r14, S_r14⟩ := z_X12_ticks  h13 S_h13 ff_X12_ticks 
  rw [e_r14, Option.bind_some]
  exact ⟨_, rfl, S_r14⟩
set_option maxHeartbeats 400000 in
theorem z_X12_bitsOf {fp : Nat → Bool} {b : mH} {m : Nat} (x1 : Int32) (x2 : Int32) (h : mH) (S : SI fp b m h)  (pr0 : (0 ≤ x1.toInt ∧ x1.toInt < 24)) : ∃ r, f_X12_bitsOf x1 x2 h = some r ∧ r.2 = h := by
  unfold f_X12_bitsOf
  have q1 : mIn x1 24 = true := (mIn_bd (by omega) (by omega))
  rw [if_pos q1]
  obtain ⟨⟨r2v, r2h⟩, e_r2, (hh_r2 : r2h = h)⟩ := z_X12_most x1 h S  pr0
  replace hh_r2 := hh_r2.symm
  subst hh_r2
  rw [e_r2, Option.bind_some]
  try dsimp only
  exact ⟨_, rfl, rfl⟩
set_option maxHeartbeats 400000 in
theorem z_X12_hits {fp : Nat → Bool} {b : mH} {m : Nat} (x1 : Int32) (x2 : Int32) (x3 : Int32) (h : mH) (S : SI fp b m h)  (pr0 : (0 ≤ x1.toInt ∧ x1.toInt < 24)) : ∃ r, f_X12_hits x1 x2 x3 h = some r ∧ r.2 = h ∧ (r.1 = 0 ∨ r.1 = 1) := by
  unfold f_X12_hits
  have q1 : mIn x1 24 = true := (mIn_bd (by omega) (by omega))
  rw [if_pos q1]
  by_cases q2 : (h.1 46 0 x1.toNatClampNeg) = x2
  · rw [if_pos q2]
    have b3 : 0 ≤ (h.1 46 0 x1.toNatClampNeg).toInt ∧ (h.1 46 0 x1.toNatClampNeg).toInt ≤ 7 := (S).1 46 0 x1.toNatClampNeg
    first | have hx_4 := i32_hi (h.1 46 0 x1.toNatClampNeg) | skip
    first | have hx_5 := i32_lo (h.1 46 0 x1.toNatClampNeg) | skip
    first | have hx_6 := i32_hi (x2) | skip
    first | have hx_7 := i32_lo (x2) | skip
    first | have f8 : (h.1 46 0 x1.toNatClampNeg : Int32).toInt = (x2 : Int32).toInt := congrArg Int32.toInt q2 | skip
    obtain ⟨⟨r3v, r3h⟩, e_r3, (hh_r3 : r3h = h)⟩ := z_X12_bitsOf x1 x3 h S  pr0
    replace hh_r3 := hh_r3.symm
    subst hh_r3
    rw [e_r3, Option.bind_some]
    try dsimp only
    by_cases q9 : (h.1 49 0 x1.toNatClampNeg) = 0
    · rw [if_pos q9]
      have t10 : (0 : Int32).toInt = 0 := by decide
      first | have hx_11 := i32_hi (h.1 49 0 x1.toNatClampNeg) | skip
      first | have hx_12 := i32_lo (h.1 49 0 x1.toNatClampNeg) | skip
      first | have f13 : (h.1 49 0 x1.toNatClampNeg : Int32).toInt = (0 : Int32).toInt := congrArg Int32.toInt q9 | skip
      by_cases q14 : r3v = (h.1 63 0 x1.toNatClampNeg)
      · rw [if_pos q14]
        first | have hx_15 := i32_hi (r3v) | skip
        first | have hx_16 := i32_lo (r3v) | skip
        first | have hx_17 := i32_hi (h.1 63 0 x1.toNatClampNeg) | skip
        first | have hx_18 := i32_lo (h.1 63 0 x1.toNatClampNeg) | skip
        first | have f19 : (r3v : Int32).toInt = (h.1 63 0 x1.toNatClampNeg : Int32).toInt := congrArg Int32.toInt q14 | skip
        exact ⟨_, rfl, rfl, (Or.inl rfl)⟩
      · rw [if_neg q14]
        first | have hx_20 := i32_hi (r3v) | skip
        first | have hx_21 := i32_lo (r3v) | skip
        first | have hx_22 := i32_hi (h.1 63 0 x1.toNatClampNeg) | skip
        first | have hx_23 := i32_lo (h.1 63 0 x1.toNatClampNeg) | skip
        first | have f24 : (r3v : Int32).toInt ≠ (h.1 63 0 x1.toNatClampNeg : Int32).toInt := ti_ne q14 | skip
        have t25 : (1 : Int32).toInt = 1 := by decide
        exact ⟨_, rfl, rfl, (Or.inr rfl)⟩
    · rw [if_neg q9]
      have t26 : (0 : Int32).toInt = 0 := by decide
      first | have hx_27 := i32_hi (h.1 49 0 x1.toNatClampNeg) | skip
      first | have hx_28 := i32_lo (h.1 49 0 x1.toNatClampNeg) | skip
      first | have f29 : (h.1 49 0 x1.toNatClampNeg : Int32).toInt ≠ (0 : Int32).toInt := ti_ne q9 | skip
      by_cases q30 : (h.1 49 0 x1.toNatClampNeg) = 2
      · rw [if_pos q30]
        have t31 : (2 : Int32).toInt = 2 := by decide
        first | have f32 : (h.1 49 0 x1.toNatClampNeg : Int32).toInt = (2 : Int32).toInt := congrArg Int32.toInt q30 | skip
        by_cases q33 : r3v = 0
        · rw [if_pos q33]
          first | have hx_34 := i32_hi (r3v) | skip
          first | have hx_35 := i32_lo (r3v) | skip
          first | have f36 : (r3v : Int32).toInt = (0 : Int32).toInt := congrArg Int32.toInt q33 | skip
          exact ⟨_, rfl, rfl, (Or.inl rfl)⟩
        · rw [if_neg q33]
          first | have hx_37 := i32_hi (r3v) | skip
          first | have hx_38 := i32_lo (r3v) | skip
          first | have f39 : (r3v : Int32).toInt ≠ (0 : Int32).toInt := ti_ne q33 | skip
          have t40 : (1 : Int32).toInt = 1 := by decide
          exact ⟨_, rfl, rfl, (Or.inr rfl)⟩
      · rw [if_neg q30]
        have t41 : (2 : Int32).toInt = 2 := by decide
        first | have f42 : (h.1 49 0 x1.toNatClampNeg : Int32).toInt ≠ (2 : Int32).toInt := ti_ne q30 | skip
        by_cases q43 : (h.1 49 0 x1.toNatClampNeg) = 4
        · rw [if_pos q43]
          have t44 : (4 : Int32).toInt = 4 := by decide
          first | have f45 : (h.1 49 0 x1.toNatClampNeg : Int32).toInt = (4 : Int32).toInt := congrArg Int32.toInt q43 | skip
          by_cases q46 : r3v = 0
          · rw [if_pos q46]
            first | have hx_47 := i32_hi (r3v) | skip
            first | have hx_48 := i32_lo (r3v) | skip
            first | have f49 : (r3v : Int32).toInt = (0 : Int32).toInt := congrArg Int32.toInt q46 | skip
            exact ⟨_, rfl, rfl, (Or.inl rfl)⟩
          · rw [if_neg q46]
            first | have hx_50 := i32_hi (r3v) | skip
            first | have hx_51 := i32_lo (r3v) | skip
            first | have f52 : (r3v : Int32).toInt ≠ (0 : Int32).toInt := ti_ne q46 | skip
            have t53 : (1 : Int32).toInt = 1 := by decide
            exact ⟨_, rfl, rfl, (Or.inr rfl)⟩
        · rw [if_neg q43]
          have t54 : (4 : Int32).toInt = 4 := by decide
          first | have f55 : (h.1 49 0 x1.toNatClampNeg : Int32).toInt ≠ (4 : Int32).toInt := ti_ne q43 | skip
          by_cases q56 : (h.1 49 0 x1.toNatClampNeg) = 5
          · rw [if_pos q56]
            have t57 : (5 : Int32).toInt = 5 := by decide
            first | have f58 : (h.1 49 0 x1.toNatClampNeg : Int32).toInt = (5 : Int32).toInt := congrArg Int32.toInt q56 | skip
            by_cases q59 : r3v = (h.1 64 0 x1.toNatClampNeg)
            · rw [if_pos q59]
              first | have hx_60 := i32_hi (r3v) | skip
              first | have hx_61 := i32_lo (r3v) | skip
              first | have hx_62 := i32_hi (h.1 64 0 x1.toNatClampNeg) | skip
              first | have hx_63 := i32_lo (h.1 64 0 x1.toNatClampNeg) | skip
              first | have f64 : (r3v : Int32).toInt = (h.1 64 0 x1.toNatClampNeg : Int32).toInt := congrArg Int32.toInt q59 | skip
              exact ⟨_, rfl, rfl, (Or.inl rfl)⟩
            · rw [if_neg q59]
              first | have hx_65 := i32_hi (r3v) | skip
              first | have hx_66 := i32_lo (r3v) | skip
              first | have hx_67 := i32_hi (h.1 64 0 x1.toNatClampNeg) | skip
              first | have hx_68 := i32_lo (h.1 64 0 x1.toNatClampNeg) | skip
              first | have f69 : (r3v : Int32).toInt ≠ (h.1 64 0 x1.toNatClampNeg : Int32).toInt := ti_ne q59 | skip
              have t70 : (1 : Int32).toInt = 1 := by decide
              exact ⟨_, rfl, rfl, (Or.inr rfl)⟩
          · rw [if_neg q56]
            have t71 : (5 : Int32).toInt = 5 := by decide
            first | have f72 : (h.1 49 0 x1.toNatClampNeg : Int32).toInt ≠ (5 : Int32).toInt := ti_ne q56 | skip
            by_cases q73 : (h.1 49 0 x1.toNatClampNeg) = 6
            · rw [if_pos q73]
              have t74 : (6 : Int32).toInt = 6 := by decide
              first | have f75 : (h.1 49 0 x1.toNatClampNeg : Int32).toInt = (6 : Int32).toInt := congrArg Int32.toInt q73 | skip
              by_cases q76 : r3v = 0
              · rw [if_pos q76]
                first | have hx_77 := i32_hi (r3v) | skip
                first | have hx_78 := i32_lo (r3v) | skip
                first | have f79 : (r3v : Int32).toInt = (0 : Int32).toInt := congrArg Int32.toInt q76 | skip
                exact ⟨_, rfl, rfl, (Or.inl rfl)⟩
              · rw [if_neg q76]
                first | have hx_80 := i32_hi (r3v) | skip
                first | have hx_81 := i32_lo (r3v) | skip
                first | have f82 : (r3v : Int32).toInt ≠ (0 : Int32).toInt := ti_ne q76 | skip
                have t83 : (1 : Int32).toInt = 1 := by decide
                exact ⟨_, rfl, rfl, (Or.inr rfl)⟩
            · rw [if_neg q73]
              have t84 : (6 : Int32).toInt = 6 := by decide
              first | have f85 : (h.1 49 0 x1.toNatClampNeg : Int32).toInt ≠ (6 : Int32).toInt := ti_ne q73 | skip
              exact ⟨_, rfl, rfl, (Or.inl rfl)⟩
  · rw [if_neg q2]
    have b86 : 0 ≤ (h.1 46 0 x1.toNatClampNeg).toInt ∧ (h.1 46 0 x1.toNatClampNeg).toInt ≤ 7 := (S).1 46 0 x1.toNatClampNeg
    first | have hx_87 := i32_hi (h.1 46 0 x1.toNatClampNeg) | skip
    first | have hx_88 := i32_lo (h.1 46 0 x1.toNatClampNeg) | skip
    first | have hx_89 := i32_hi (x2) | skip
    first | have hx_90 := i32_lo (x2) | skip
    first | have f91 : (h.1 46 0 x1.toNatClampNeg : Int32).toInt ≠ (x2 : Int32).toInt := ti_ne q2 | skip
    have t92 : (0 : Int32).toInt = 0 := by decide
    exact ⟨_, rfl, rfl, (Or.inl rfl)⟩
set_option maxHeartbeats 400000 in
theorem z_X12_isBroken {fp : Nat → Bool} {b : mH} {m : Nat} (x1 : Int32) (h : mH) (S : SI fp b m h)  (pr0 : (0 ≤ x1.toInt ∧ x1.toInt < 12)) : ∃ r, f_X12_isBroken x1 h = some r ∧ r.2 = h ∧ (r.1 = 0 ∨ r.1 = 1) := by
  unfold f_X12_isBroken
  have q1 : mIn x1 12 = true := (mIn_bd (by omega) (by omega))
  rw [if_pos q1]
  by_cases q2 : (h.1 54 0 x1.toNatClampNeg) = 0
  · rw [if_pos q2]
    have t3 : (0 : Int32).toInt = 0 := by decide
    first | have hx_4 := i32_hi (h.1 54 0 x1.toNatClampNeg) | skip
    first | have hx_5 := i32_lo (h.1 54 0 x1.toNatClampNeg) | skip
    first | have f6 : (h.1 54 0 x1.toNatClampNeg : Int32).toInt = (0 : Int32).toInt := congrArg Int32.toInt q2 | skip
    have b7 : 0 ≤ (h.1 56 0 x1.toNatClampNeg).toInt ∧ (h.1 56 0 x1.toNatClampNeg).toInt ≤ 23 := (S).1 56 0 x1.toNatClampNeg
    have q8 : mIn (h.1 56 0 x1.toNatClampNeg) 24 = true := (mIn_bd (by omega) (by omega))
    rw [if_pos q8]
    by_cases q9 : (h.1 63 0 (h.1 56 0 x1.toNatClampNeg).toNatClampNeg) = (h.1 57 0 x1.toNatClampNeg)
    · rw [if_pos q9]
      first | have hx_10 := i32_hi (h.1 63 0 (h.1 56 0 x1.toNatClampNeg).toNatClampNeg) | skip
      first | have hx_11 := i32_lo (h.1 63 0 (h.1 56 0 x1.toNatClampNeg).toNatClampNeg) | skip
      first | have hx_12 := i32_hi (h.1 57 0 x1.toNatClampNeg) | skip
      first | have hx_13 := i32_lo (h.1 57 0 x1.toNatClampNeg) | skip
      first | have f14 : (h.1 63 0 (h.1 56 0 x1.toNatClampNeg).toNatClampNeg : Int32).toInt = (h.1 57 0 x1.toNatClampNeg : Int32).toInt := congrArg Int32.toInt q9 | skip
      have t15 : (1 : Int32).toInt = 1 := by decide
      exact ⟨_, rfl, rfl, (Or.inr rfl)⟩
    · rw [if_neg q9]
      first | have hx_16 := i32_hi (h.1 63 0 (h.1 56 0 x1.toNatClampNeg).toNatClampNeg) | skip
      first | have hx_17 := i32_lo (h.1 63 0 (h.1 56 0 x1.toNatClampNeg).toNatClampNeg) | skip
      first | have hx_18 := i32_hi (h.1 57 0 x1.toNatClampNeg) | skip
      first | have hx_19 := i32_lo (h.1 57 0 x1.toNatClampNeg) | skip
      first | have f20 : (h.1 63 0 (h.1 56 0 x1.toNatClampNeg).toNatClampNeg : Int32).toInt ≠ (h.1 57 0 x1.toNatClampNeg : Int32).toInt := ti_ne q9 | skip
      exact ⟨_, rfl, rfl, (Or.inl rfl)⟩
  · rw [if_neg q2]
    have t21 : (0 : Int32).toInt = 0 := by decide
    first | have hx_22 := i32_hi (h.1 54 0 x1.toNatClampNeg) | skip
    first | have hx_23 := i32_lo (h.1 54 0 x1.toNatClampNeg) | skip
    first | have f24 : (h.1 54 0 x1.toNatClampNeg : Int32).toInt ≠ (0 : Int32).toInt := ti_ne q2 | skip
    by_cases q25 : (h.1 54 0 x1.toNatClampNeg) = 1
    · rw [if_pos q25]
      have t26 : (1 : Int32).toInt = 1 := by decide
      first | have f27 : (h.1 54 0 x1.toNatClampNeg : Int32).toInt = (1 : Int32).toInt := congrArg Int32.toInt q25 | skip
      have b28 : 0 ≤ (h.1 56 0 x1.toNatClampNeg).toInt ∧ (h.1 56 0 x1.toNatClampNeg).toInt ≤ 23 := (S).1 56 0 x1.toNatClampNeg
      have q29 : mIn (h.1 56 0 x1.toNatClampNeg) 24 = true := (mIn_bd (by omega) (by omega))
      rw [if_pos q29]
      by_cases q30 : (h.1 63 0 (h.1 56 0 x1.toNatClampNeg).toNatClampNeg) = (h.1 57 0 x1.toNatClampNeg)
      · rw [if_pos q30]
        first | have hx_31 := i32_hi (h.1 63 0 (h.1 56 0 x1.toNatClampNeg).toNatClampNeg) | skip
        first | have hx_32 := i32_lo (h.1 63 0 (h.1 56 0 x1.toNatClampNeg).toNatClampNeg) | skip
        first | have hx_33 := i32_hi (h.1 57 0 x1.toNatClampNeg) | skip
        first | have hx_34 := i32_lo (h.1 57 0 x1.toNatClampNeg) | skip
        first | have f35 : (h.1 63 0 (h.1 56 0 x1.toNatClampNeg).toNatClampNeg : Int32).toInt = (h.1 57 0 x1.toNatClampNeg : Int32).toInt := congrArg Int32.toInt q30 | skip
        exact ⟨_, rfl, rfl, (Or.inl rfl)⟩
      · rw [if_neg q30]
        first | have hx_36 := i32_hi (h.1 63 0 (h.1 56 0 x1.toNatClampNeg).toNatClampNeg) | skip
        first | have hx_37 := i32_lo (h.1 63 0 (h.1 56 0 x1.toNatClampNeg).toNatClampNeg) | skip
        first | have hx_38 := i32_hi (h.1 57 0 x1.toNatClampNeg) | skip
        first | have hx_39 := i32_lo (h.1 57 0 x1.toNatClampNeg) | skip
        first | have f40 : (h.1 63 0 (h.1 56 0 x1.toNatClampNeg).toNatClampNeg : Int32).toInt ≠ (h.1 57 0 x1.toNatClampNeg : Int32).toInt := ti_ne q30 | skip
        exact ⟨_, rfl, rfl, (Or.inr rfl)⟩
    · rw [if_neg q25]
      have t41 : (1 : Int32).toInt = 1 := by decide
      first | have f42 : (h.1 54 0 x1.toNatClampNeg : Int32).toInt ≠ (1 : Int32).toInt := ti_ne q25 | skip
      have b43 : 0 ≤ (h.1 56 0 x1.toNatClampNeg).toInt ∧ (h.1 56 0 x1.toNatClampNeg).toInt ≤ 23 := (S).1 56 0 x1.toNatClampNeg
      have q44 : mIn (h.1 56 0 x1.toNatClampNeg) 24 = true := (mIn_bd (by omega) (by omega))
      rw [if_pos q44]
      by_cases q45 : (h.1 67 0 (h.1 56 0 x1.toNatClampNeg).toNatClampNeg) = (-1)
      · rw [if_pos q45]
        have t46 : ((-1) : Int32).toInt = (-1) := by decide
        first | have hx_47 := i32_hi (h.1 67 0 (h.1 56 0 x1.toNatClampNeg).toNatClampNeg) | skip
        first | have hx_48 := i32_lo (h.1 67 0 (h.1 56 0 x1.toNatClampNeg).toNatClampNeg) | skip
        first | have f49 : (h.1 67 0 (h.1 56 0 x1.toNatClampNeg).toNatClampNeg : Int32).toInt = (-1 : Int32).toInt := congrArg Int32.toInt q45 | skip
        exact ⟨_, rfl, rfl, (Or.inl rfl)⟩
      · rw [if_neg q45]
        have t50 : ((-1) : Int32).toInt = (-1) := by decide
        first | have hx_51 := i32_hi (h.1 67 0 (h.1 56 0 x1.toNatClampNeg).toNatClampNeg) | skip
        first | have hx_52 := i32_lo (h.1 67 0 (h.1 56 0 x1.toNatClampNeg).toNatClampNeg) | skip
        first | have f53 : (h.1 67 0 (h.1 56 0 x1.toNatClampNeg).toNatClampNeg : Int32).toInt ≠ (-1 : Int32).toInt := ti_ne q45 | skip
        by_cases q54 : ((h.1 12 0 23) - (h.1 67 0 (h.1 56 0 x1.toNatClampNeg).toNatClampNeg)) < (h.1 57 0 x1.toNatClampNeg)
        · rw [if_pos q54]
          first | have o55 : ((h.1 12 0 23) - (h.1 67 0 (h.1 56 0 x1.toNatClampNeg).toNatClampNeg) : Int32).toInt = (h.1 12 0 23 : Int32).toInt - (h.1 67 0 (h.1 56 0 x1.toNatClampNeg).toNatClampNeg : Int32).toInt := ti_sub (by omega) (by omega) | skip
          first | have hx_56 := i32_hi ((h.1 12 0 23) - (h.1 67 0 (h.1 56 0 x1.toNatClampNeg).toNatClampNeg)) | skip
          first | have hx_57 := i32_lo ((h.1 12 0 23) - (h.1 67 0 (h.1 56 0 x1.toNatClampNeg).toNatClampNeg)) | skip
          first | have hx_58 := i32_hi (h.1 57 0 x1.toNatClampNeg) | skip
          first | have hx_59 := i32_lo (h.1 57 0 x1.toNatClampNeg) | skip
          first | have f60 : ((h.1 12 0 23) - (h.1 67 0 (h.1 56 0 x1.toNatClampNeg).toNatClampNeg) : Int32).toInt < (h.1 57 0 x1.toNatClampNeg : Int32).toInt := Int32.lt_iff_toInt_lt.mp q54 | skip
          exact ⟨_, rfl, rfl, (Or.inr rfl)⟩
        · rw [if_neg q54]
          first | have o61 : ((h.1 12 0 23) - (h.1 67 0 (h.1 56 0 x1.toNatClampNeg).toNatClampNeg) : Int32).toInt = (h.1 12 0 23 : Int32).toInt - (h.1 67 0 (h.1 56 0 x1.toNatClampNeg).toNatClampNeg : Int32).toInt := ti_sub (by omega) (by omega) | skip
          first | have hx_62 := i32_hi ((h.1 12 0 23) - (h.1 67 0 (h.1 56 0 x1.toNatClampNeg).toNatClampNeg)) | skip
          first | have hx_63 := i32_lo ((h.1 12 0 23) - (h.1 67 0 (h.1 56 0 x1.toNatClampNeg).toNatClampNeg)) | skip
          first | have hx_64 := i32_hi (h.1 57 0 x1.toNatClampNeg) | skip
          first | have hx_65 := i32_lo (h.1 57 0 x1.toNatClampNeg) | skip
          first | have f66 : (h.1 57 0 x1.toNatClampNeg : Int32).toInt ≤ ((h.1 12 0 23) - (h.1 67 0 (h.1 56 0 x1.toNatClampNeg).toNatClampNeg) : Int32).toInt := Int32.le_iff_toInt_le.mp (Int32.not_lt.mp q54) | skip
          exact ⟨_, rfl, rfl, (Or.inl rfl)⟩
def W_X12_takes_133 : List Nat := [4032]
set_option maxHeartbeats 400000 in
theorem z_X12_takes_133 {fp : Nat → Bool} {b : mH} {m : Nat} {P : mH → Prop} (k : Int32 → Int32 → mH → Option (mH))  (v2 : Int32) (ff : ∀ c ∈ W_X12_takes_133, fp c = false)  (hk : ∀ (v3 : Int32) (h : mH), SI fp b m h → 0 ≤ v3.toInt → ∃ r, k v2 v3 h = some r ∧ P r) : ∀ (n : Nat) (v3 : Int32) (h : mH), SI fp b m h → 0 ≤ v3.toInt → 2147483648 - v3.toInt < n → ∃ r, f_X12_takes_133 k  n v2 v3 h = some r ∧ P r := by
  have w4032 : fp 4032 = false := ff 4032 (by decide)
  intro n
  induction n with
  | zero =>
    intro v3 h S iv0 hm
    have hz := i32_hi v3
    omega
  | succ n ih =>
    intro v3 h S iv0 hm
    rw [f_X12_takes_133]
    by_cases q1 : v3 < (h.1 12 0 2)
    · rw [if_pos q1]
      have b2 : 0 ≤ (h.1 12 0 2).toInt ∧ (h.1 12 0 2).toInt ≤ 24 := (S).1 12 0 2
      first | have hx_3 := i32_hi (v3) | skip
      first | have hx_4 := i32_lo (v3) | skip
      first | have hx_5 := i32_hi (h.1 12 0 2) | skip
      first | have hx_6 := i32_lo (h.1 12 0 2) | skip
      first | have f7 : (v3 : Int32).toInt < (h.1 12 0 2 : Int32).toInt := Int32.lt_iff_toInt_lt.mp q1 | skip
      by_cases q8 : v2 = 0
      · rw [if_pos q8]
        have t9 : (0 : Int32).toInt = 0 := by decide
        first | have hx_10 := i32_hi (v2) | skip
        first | have hx_11 := i32_lo (v2) | skip
        first | have f12 : (v2 : Int32).toInt = (0 : Int32).toInt := congrArg Int32.toInt q8 | skip
        exact hk v3 h S iv0
      · rw [if_neg q8]
        have t13 : (0 : Int32).toInt = 0 := by decide
        first | have hx_14 := i32_hi (v2) | skip
        first | have hx_15 := i32_lo (v2) | skip
        first | have f16 : (v2 : Int32).toInt ≠ (0 : Int32).toInt := ti_ne q8 | skip
        have q17 : mIn v3 24 = true := (mIn_bd (by omega) (by omega))
        rw [if_pos q17]
        by_cases q18 : (h.1 49 0 v3.toNatClampNeg) = 5
        · rw [if_pos q18]
          have t19 : (5 : Int32).toInt = 5 := by decide
          first | have hx_20 := i32_hi (h.1 49 0 v3.toNatClampNeg) | skip
          first | have hx_21 := i32_lo (h.1 49 0 v3.toNatClampNeg) | skip
          first | have f22 : (h.1 49 0 v3.toNatClampNeg : Int32).toInt = (5 : Int32).toInt := congrArg Int32.toInt q18 | skip
          have t23 : (1 : Int32).toInt = 1 := by decide
          first | have o24 : (v3 + 1 : Int32).toInt = (v3 : Int32).toInt + (1 : Int32).toInt := ti_add (by omega) (by omega) | skip
          exact ih (v3 + 1) (uI h 63 0 v3.toNatClampNeg (h.1 64 0 v3.toNatClampNeg)) (SI.f S rfl w4032 rfl) (by omega) (by omega)
        · rw [if_neg q18]
          have t25 : (5 : Int32).toInt = 5 := by decide
          first | have hx_26 := i32_hi (h.1 49 0 v3.toNatClampNeg) | skip
          first | have hx_27 := i32_lo (h.1 49 0 v3.toNatClampNeg) | skip
          first | have f28 : (h.1 49 0 v3.toNatClampNeg : Int32).toInt ≠ (5 : Int32).toInt := ti_ne q18 | skip
          have t29 : (1 : Int32).toInt = 1 := by decide
          first | have o30 : (v3 + 1 : Int32).toInt = (v3 : Int32).toInt + (1 : Int32).toInt := ti_add (by omega) (by omega) | skip
          exact ih (v3 + 1) (uI h 63 0 v3.toNatClampNeg (h.1 63 0 v3.toNatClampNeg)) (SI.f S rfl w4032 rfl) (by omega) (by omega)
    · rw [if_neg q1]
      have b31 : 0 ≤ (h.1 12 0 2).toInt ∧ (h.1 12 0 2).toInt ≤ 24 := (S).1 12 0 2
      first | have hx_32 := i32_hi (v3) | skip
      first | have hx_33 := i32_lo (v3) | skip
      first | have hx_34 := i32_hi (h.1 12 0 2) | skip
      first | have hx_35 := i32_lo (h.1 12 0 2) | skip
      first | have f36 : (h.1 12 0 2 : Int32).toInt ≤ (v3 : Int32).toInt := Int32.le_iff_toInt_le.mp (Int32.not_lt.mp q1) | skip
      exact hk v3 h S iv0
def W_X12_takes : List Nat := [4032, 4096, 4160]
set_option maxHeartbeats 400000 in
theorem z_X12_takes {fp : Nat → Bool} {b : mH} {m : Nat} (x1 : Int32) (x2 : Int32) (h : mH) (S : SI fp b m h) (ff : ∀ c ∈ W_X12_takes, fp c = false) (pr0 : (0 ≤ x1.toInt ∧ x1.toInt < 24)) : ∃ r, f_X12_takes x1 x2 h = some r ∧ SI fp b m r := by
  have ff_X12_takes_133 : ∀ c ∈ W_X12_takes_133, fp c = false := fun c hc => ff c ((by decide : ∀ c ∈ W_X12_takes_133, c ∈ W_X12_takes) c hc)
  have w4032 : fp 4032 = false := ff 4032 (by decide)
  have w4096 : fp 4096 = false := ff 4096 (by decide)
  have w4160 : fp 4160 = false := ff 4160 (by decide)
  unfold f_X12_takes
  have q1 : mIn x1 24 = true := (mIn_bd (by omega) (by omega))
  rw [if_pos q1]
  by_cases q2 : (h.1 49 0 x1.toNatClampNeg) = 0
  · rw [if_pos q2]
    have t3 : (0 : Int32).toInt = 0 := by decide
    first | have hx_4 := i32_hi (h.1 49 0 x1.toNatClampNeg) | skip
    first | have hx_5 := i32_lo (h.1 49 0 x1.toNatClampNeg) | skip
    first | have f6 : (h.1 49 0 x1.toNatClampNeg : Int32).toInt = (0 : Int32).toInt := congrArg Int32.toInt q2 | skip
    exact ⟨_, rfl, (SI.f S rfl w4032 rfl)⟩
  · rw [if_neg q2]
    have t7 : (0 : Int32).toInt = 0 := by decide
    first | have hx_8 := i32_hi (h.1 49 0 x1.toNatClampNeg) | skip
    first | have hx_9 := i32_lo (h.1 49 0 x1.toNatClampNeg) | skip
    first | have f10 : (h.1 49 0 x1.toNatClampNeg : Int32).toInt ≠ (0 : Int32).toInt := ti_ne q2 | skip
    by_cases q11 : (h.1 49 0 x1.toNatClampNeg) = 2
    · rw [if_pos q11]
      have t12 : (2 : Int32).toInt = 2 := by decide
      first | have f13 : (h.1 49 0 x1.toNatClampNeg : Int32).toInt = (2 : Int32).toInt := congrArg Int32.toInt q11 | skip
      exact ⟨_, rfl, (SI.f S rfl w4032 rfl)⟩
    · rw [if_neg q11]
      have t14 : (2 : Int32).toInt = 2 := by decide
      first | have f15 : (h.1 49 0 x1.toNatClampNeg : Int32).toInt ≠ (2 : Int32).toInt := ti_ne q11 | skip
      by_cases q16 : (h.1 49 0 x1.toNatClampNeg) = 4
      · rw [if_pos q16]
        have t17 : (4 : Int32).toInt = 4 := by decide
        first | have f18 : (h.1 49 0 x1.toNatClampNeg : Int32).toInt = (4 : Int32).toInt := congrArg Int32.toInt q16 | skip
        by_cases q19 : x2 = 0
        · rw [if_pos q19]
          first | have hx_20 := i32_hi (x2) | skip
          first | have hx_21 := i32_lo (x2) | skip
          first | have f22 : (x2 : Int32).toInt = (0 : Int32).toInt := congrArg Int32.toInt q19 | skip
          refine let_ex (fun h6 e_h6 => ?_)
          have S_h6 : SI fp b m h6 := e_h6 ▸ (SI.f S rfl w4032 rfl)
          exact ⟨_, rfl, (SI.f S_h6 rfl w4160 rfl)⟩
        · rw [if_neg q19]
          first | have hx_23 := i32_hi (x2) | skip
          first | have hx_24 := i32_lo (x2) | skip
          first | have f25 : (x2 : Int32).toInt ≠ (0 : Int32).toInt := ti_ne q19 | skip
          refine let_ex (fun h7 e_h7 => ?_)
          have S_h7 : SI fp b m h7 := e_h7 ▸ (SI.f S rfl w4032 rfl)
          exact ⟨_, rfl, (SI.f S_h7 rfl w4160 rfl)⟩
      · rw [if_neg q16]
        have t26 : (4 : Int32).toInt = 4 := by decide
        first | have f27 : (h.1 49 0 x1.toNatClampNeg : Int32).toInt ≠ (4 : Int32).toInt := ti_ne q16 | skip
        by_cases q28 : (h.1 49 0 x1.toNatClampNeg) = 5
        · rw [if_pos q28]
          have t29 : (5 : Int32).toInt = 5 := by decide
          first | have f30 : (h.1 49 0 x1.toNatClampNeg : Int32).toInt = (5 : Int32).toInt := congrArg Int32.toInt q28 | skip
          exact ⟨_, rfl, (SI.f S rfl w4096 rfl)⟩
        · rw [if_neg q28]
          have t31 : (5 : Int32).toInt = 5 := by decide
          first | have f32 : (h.1 49 0 x1.toNatClampNeg : Int32).toInt ≠ (5 : Int32).toInt := ti_ne q28 | skip
          by_cases q33 : (h.1 49 0 x1.toNatClampNeg) = 6
          · rw [if_pos q33]
            have t34 : (6 : Int32).toInt = 6 := by decide
            first | have f35 : (h.1 49 0 x1.toNatClampNeg : Int32).toInt = (6 : Int32).toInt := congrArg Int32.toInt q33 | skip
            refine z_X12_takes_133 (m := m) _  x2 ff_X12_takes_133  (fun u15 h16 S_h16 y36 => ?_)  mFu 0 h S (by omega) (by have := mFu_big; omega)
            try dsimp only
            exact ⟨_, rfl, S_h16⟩
          · rw [if_neg q33]
            have t37 : (6 : Int32).toInt = 6 := by decide
            first | have f38 : (h.1 49 0 x1.toNatClampNeg : Int32).toInt ≠ (6 : Int32).toInt := ti_ne q33 | skip
            exact ⟨_, rfl, S⟩
def W_X12_judges_2 : List Nat := [802, 803, 804]
set_option maxHeartbeats 400000 in
theorem z_X12_judges_2 {fp : Nat → Bool} {b : mH} {m : Nat} {P : mH → Prop} (k : Int32 → Int32 → Int32 → mH → Option (mH))  (v1 : Int32) (v2 : Int32) (ff : ∀ c ∈ W_X12_judges_2, fp c = false)  (hk : ∀ (v3 : Int32) (h : mH), SI fp b m h → 0 ≤ v3.toInt → ∃ r, k v1 v2 v3 h = some r ∧ P r) : ∀ (n : Nat) (v3 : Int32) (h : mH), SI fp b m h → 0 ≤ v3.toInt → 2147483648 - v3.toInt < n → ∃ r, f_X12_judges_2 k  n v1 v2 v3 h = some r ∧ P r := by
  have w802 : fp 802 = false := ff 802 (by decide)
  have w803 : fp 803 = false := ff 803 (by decide)
  have w804 : fp 804 = false := ff 804 (by decide)
  intro n
  induction n with
  | zero =>
    intro v3 h S iv0 hm
    have hz := i32_hi v3
    omega
  | succ n ih =>
    intro v3 h S iv0 hm
    rw [f_X12_judges_2]
    by_cases q1 : v3 < (h.1 12 0 11)
    · rw [if_pos q1]
      have b2 : 0 ≤ (h.1 12 0 11).toInt ∧ (h.1 12 0 11).toInt ≤ 12 := (S).1 12 0 11
      first | have hx_3 := i32_hi (v3) | skip
      first | have hx_4 := i32_lo (v3) | skip
      first | have hx_5 := i32_hi (h.1 12 0 11) | skip
      first | have hx_6 := i32_lo (h.1 12 0 11) | skip
      first | have f7 : (v3 : Int32).toInt < (h.1 12 0 11 : Int32).toInt := Int32.lt_iff_toInt_lt.mp q1 | skip
      have q8 : mIn v3 12 = true := (mIn_bd (by omega) (by omega))
      rw [if_pos q8]
      have b9 : 0 ≤ (h.1 55 0 v3.toNatClampNeg).toInt ∧ (h.1 55 0 v3.toNatClampNeg).toInt ≤ 23 := (S).1 55 0 v3.toNatClampNeg
      obtain ⟨⟨r3v, r3h⟩, e_r3, (hh_r3 : r3h = h), p_r3_0⟩ := z_X12_hits (h.1 55 0 v3.toNatClampNeg) v1 v2 h S  (by omega)
      replace hh_r3 := hh_r3.symm
      subst hh_r3
      dsimp only at p_r3_0
      have bb_r3 := bool_bd p_r3_0
      rw [e_r3, Option.bind_some]
      try dsimp only
      by_cases q10 : r3v = 0
      · rw [if_pos q10]
        have t11 : (0 : Int32).toInt = 0 := by decide
        first | have hx_12 := i32_hi (r3v) | skip
        first | have hx_13 := i32_lo (r3v) | skip
        first | have f14 : (r3v : Int32).toInt = (0 : Int32).toInt := congrArg Int32.toInt q10 | skip
        have t15 : (1 : Int32).toInt = 1 := by decide
        first | have o16 : (v3 + 1 : Int32).toInt = (v3 : Int32).toInt + (1 : Int32).toInt := ti_add (by omega) (by omega) | skip
        exact ih (v3 + 1) h S (by omega) (by omega)
      · rw [if_neg q10]
        have t17 : (0 : Int32).toInt = 0 := by decide
        first | have hx_18 := i32_hi (r3v) | skip
        first | have hx_19 := i32_lo (r3v) | skip
        first | have f20 : (r3v : Int32).toInt ≠ (0 : Int32).toInt := ti_ne q10 | skip
        obtain ⟨⟨r5v, r5h⟩, e_r5, (hh_r5 : r5h = h), p_r5_0⟩ := z_X12_isBroken v3 h S  (by omega)
        replace hh_r5 := hh_r5.symm
        subst hh_r5
        dsimp only at p_r5_0
        have bb_r5 := bool_bd p_r5_0
        rw [e_r5, Option.bind_some]
        try dsimp only
        by_cases q21 : r5v = 0
        · rw [if_pos q21]
          first | have hx_22 := i32_hi (r5v) | skip
          first | have hx_23 := i32_lo (r5v) | skip
          first | have f24 : (r5v : Int32).toInt = (0 : Int32).toInt := congrArg Int32.toInt q21 | skip
          have t25 : (1 : Int32).toInt = 1 := by decide
          first | have o26 : (v3 + 1 : Int32).toInt = (v3 : Int32).toInt + (1 : Int32).toInt := ti_add (by omega) (by omega) | skip
          exact ih (v3 + 1) h S (by omega) (by omega)
        · rw [if_neg q21]
          first | have hx_27 := i32_hi (r5v) | skip
          first | have hx_28 := i32_lo (r5v) | skip
          first | have f29 : (r5v : Int32).toInt ≠ (0 : Int32).toInt := ti_ne q21 | skip
          by_cases q30 : (h.1 12 0 34) = 0
          · rw [if_pos q30]
            first | have hx_31 := i32_hi (h.1 12 0 34) | skip
            first | have hx_32 := i32_lo (h.1 12 0 34) | skip
            first | have f33 : (h.1 12 0 34 : Int32).toInt = (0 : Int32).toInt := congrArg Int32.toInt q30 | skip
            refine let_ex (fun h8 e_h8 => ?_)
            have S_h8 : SI fp b m h8 := e_h8 ▸ (SI.f S rfl w803 rfl)
            refine let_ex (fun h9 e_h9 => ?_)
            have S_h9 : SI fp b m h9 := e_h9 ▸ (SI.f S_h8 rfl w804 rfl)
            have t34 : (1 : Int32).toInt = 1 := by decide
            first | have o35 : (v3 + 1 : Int32).toInt = (v3 : Int32).toInt + (1 : Int32).toInt := ti_add (by omega) (by omega) | skip
            exact ih (v3 + 1) (uI h9 12 0 34 ((h9.1 12 0 34) + 1)) (SI.f S_h9 rfl w802 rfl) (by omega) (by omega)
          · rw [if_neg q30]
            first | have hx_36 := i32_hi (h.1 12 0 34) | skip
            first | have hx_37 := i32_lo (h.1 12 0 34) | skip
            first | have f38 : (h.1 12 0 34 : Int32).toInt ≠ (0 : Int32).toInt := ti_ne q30 | skip
            have t39 : (1 : Int32).toInt = 1 := by decide
            first | have o40 : (v3 + 1 : Int32).toInt = (v3 : Int32).toInt + (1 : Int32).toInt := ti_add (by omega) (by omega) | skip
            exact ih (v3 + 1) (uI h 12 0 34 ((h.1 12 0 34) + 1)) (SI.f S rfl w802 rfl) (by omega) (by omega)
    · rw [if_neg q1]
      have b41 : 0 ≤ (h.1 12 0 11).toInt ∧ (h.1 12 0 11).toInt ≤ 12 := (S).1 12 0 11
      first | have hx_42 := i32_hi (v3) | skip
      first | have hx_43 := i32_lo (v3) | skip
      first | have hx_44 := i32_hi (h.1 12 0 11) | skip
      first | have hx_45 := i32_lo (h.1 12 0 11) | skip
      first | have f46 : (h.1 12 0 11 : Int32).toInt ≤ (v3 : Int32).toInt := Int32.le_iff_toInt_le.mp (Int32.not_lt.mp q1) | skip
      exact hk v3 h S iv0
def W_X12_judges : List Nat := [802, 803, 804]
set_option maxHeartbeats 400000 in
theorem z_X12_judges {fp : Nat → Bool} {b : mH} {m : Nat} (x1 : Int32) (x2 : Int32) (h : mH) (S : SI fp b m h) (ff : ∀ c ∈ W_X12_judges, fp c = false)  : ∃ r, f_X12_judges x1 x2 h = some r ∧ SI fp b m r := by
  have ff_X12_judges_2 : ∀ c ∈ W_X12_judges_2, fp c = false := fun c hc => ff c ((by decide : ∀ c ∈ W_X12_judges_2, c ∈ W_X12_judges) c hc)
  unfold f_X12_judges
  have t1 : (0 : Int32).toInt = 0 := by decide
  refine z_X12_judges_2 (m := m) _  x1 x2 ff_X12_judges_2  (fun u12 h13 S_h13 y2 => ?_)  mFu 0 h S (by omega) (by have := mFu_big; omega)
  try dsimp only
  exact ⟨_, rfl, S_h13⟩
def W_X12_writes_37 : List Nat := [4032, 4096, 4160, 4288]
set_option maxHeartbeats 400000 in
theorem z_X12_writes_37 {fp : Nat → Bool} {b : mH} {m : Nat} {P : mH → Prop} (k : Int32 → Int32 → Int32 → mH → Option (mH))  (v1 : Int32) (v2 : Int32) (ff : ∀ c ∈ W_X12_writes_37, fp c = false)  (hk : ∀ (v3 : Int32) (h : mH), SI fp b m h → 0 ≤ v3.toInt → ∃ r, k v1 v2 v3 h = some r ∧ P r) : ∀ (n : Nat) (v3 : Int32) (h : mH), SI fp b m h → 0 ≤ v3.toInt → 2147483648 - v3.toInt < n → ∃ r, f_X12_writes_37 k  n v1 v2 v3 h = some r ∧ P r := by
  have ff_X12_takes : ∀ c ∈ W_X12_takes, fp c = false := fun c hc => ff c ((by decide : ∀ c ∈ W_X12_takes, c ∈ W_X12_writes_37) c hc)
  have w4288 : fp 4288 = false := ff 4288 (by decide)
  intro n
  induction n with
  | zero =>
    intro v3 h S iv0 hm
    have hz := i32_hi v3
    omega
  | succ n ih =>
    intro v3 h S iv0 hm
    rw [f_X12_writes_37]
    by_cases q1 : v3 < (h.1 12 0 2)
    · rw [if_pos q1]
      have b2 : 0 ≤ (h.1 12 0 2).toInt ∧ (h.1 12 0 2).toInt ≤ 24 := (S).1 12 0 2
      first | have hx_3 := i32_hi (v3) | skip
      first | have hx_4 := i32_lo (v3) | skip
      first | have hx_5 := i32_hi (h.1 12 0 2) | skip
      first | have hx_6 := i32_lo (h.1 12 0 2) | skip
      first | have f7 : (v3 : Int32).toInt < (h.1 12 0 2 : Int32).toInt := Int32.lt_iff_toInt_lt.mp q1 | skip
      have q8 : mIn v3 24 = true := (mIn_bd (by omega) (by omega))
      rw [if_pos q8]
      by_cases q9 : (h.1 46 0 v3.toNatClampNeg) = v1
      · rw [if_pos q9]
        have b10 : 0 ≤ (h.1 46 0 v3.toNatClampNeg).toInt ∧ (h.1 46 0 v3.toNatClampNeg).toInt ≤ 7 := (S).1 46 0 v3.toNatClampNeg
        first | have hx_11 := i32_hi (h.1 46 0 v3.toNatClampNeg) | skip
        first | have hx_12 := i32_lo (h.1 46 0 v3.toNatClampNeg) | skip
        first | have hx_13 := i32_hi (v1) | skip
        first | have hx_14 := i32_lo (v1) | skip
        first | have f15 : (h.1 46 0 v3.toNatClampNeg : Int32).toInt = (v1 : Int32).toInt := congrArg Int32.toInt q9 | skip
        obtain ⟨⟨r14v, r14h⟩, e_r14, (hh_r14 : r14h = h)⟩ := z_X12_bitsOf v3 v2 h S  (by omega)
        replace hh_r14 := hh_r14.symm
        subst hh_r14
        rw [e_r14, Option.bind_some]
        try dsimp only
        obtain ⟨r15, e_r15, S_r15⟩ := z_X12_takes v3 r14v h S ff_X12_takes (by omega)
        rw [e_r15, Option.bind_some]
        by_cases q16 : (r15.1 92 0 v3.toNatClampNeg) = 0
        · rw [if_pos q16]
          have b17 : 0 ≤ (r15.1 92 0 v3.toNatClampNeg).toInt ∧ (r15.1 92 0 v3.toNatClampNeg).toInt ≤ 1 := (S_r15).1 92 0 v3.toNatClampNeg
          have t18 : (0 : Int32).toInt = 0 := by decide
          first | have hx_19 := i32_hi (r15.1 92 0 v3.toNatClampNeg) | skip
          first | have hx_20 := i32_lo (r15.1 92 0 v3.toNatClampNeg) | skip
          first | have f21 : (r15.1 92 0 v3.toNatClampNeg : Int32).toInt = (0 : Int32).toInt := congrArg Int32.toInt q16 | skip
          have t22 : (1 : Int32).toInt = 1 := by decide
          first | have o23 : (v3 + 1 : Int32).toInt = (v3 : Int32).toInt + (1 : Int32).toInt := ti_add (by omega) (by omega) | skip
          exact ih (v3 + 1) (uI r15 67 0 v3.toNatClampNeg (r15.1 67 0 v3.toNatClampNeg)) (SI.f S_r15 rfl w4288 rfl) (by omega) (by omega)
        · rw [if_neg q16]
          have b24 : 0 ≤ (r15.1 92 0 v3.toNatClampNeg).toInt ∧ (r15.1 92 0 v3.toNatClampNeg).toInt ≤ 1 := (S_r15).1 92 0 v3.toNatClampNeg
          have t25 : (0 : Int32).toInt = 0 := by decide
          first | have hx_26 := i32_hi (r15.1 92 0 v3.toNatClampNeg) | skip
          first | have hx_27 := i32_lo (r15.1 92 0 v3.toNatClampNeg) | skip
          first | have f28 : (r15.1 92 0 v3.toNatClampNeg : Int32).toInt ≠ (0 : Int32).toInt := ti_ne q16 | skip
          have t29 : (1 : Int32).toInt = 1 := by decide
          first | have o30 : (v3 + 1 : Int32).toInt = (v3 : Int32).toInt + (1 : Int32).toInt := ti_add (by omega) (by omega) | skip
          exact ih (v3 + 1) (uI r15 67 0 v3.toNatClampNeg (r15.1 12 0 23)) (SI.f S_r15 rfl w4288 rfl) (by omega) (by omega)
      · rw [if_neg q9]
        have b31 : 0 ≤ (h.1 46 0 v3.toNatClampNeg).toInt ∧ (h.1 46 0 v3.toNatClampNeg).toInt ≤ 7 := (S).1 46 0 v3.toNatClampNeg
        first | have hx_32 := i32_hi (h.1 46 0 v3.toNatClampNeg) | skip
        first | have hx_33 := i32_lo (h.1 46 0 v3.toNatClampNeg) | skip
        first | have hx_34 := i32_hi (v1) | skip
        first | have hx_35 := i32_lo (v1) | skip
        first | have f36 : (h.1 46 0 v3.toNatClampNeg : Int32).toInt ≠ (v1 : Int32).toInt := ti_ne q9 | skip
        by_cases q37 : (h.1 92 0 v3.toNatClampNeg) = 0
        · rw [if_pos q37]
          have b38 : 0 ≤ (h.1 92 0 v3.toNatClampNeg).toInt ∧ (h.1 92 0 v3.toNatClampNeg).toInt ≤ 1 := (S).1 92 0 v3.toNatClampNeg
          have t39 : (0 : Int32).toInt = 0 := by decide
          first | have hx_40 := i32_hi (h.1 92 0 v3.toNatClampNeg) | skip
          first | have hx_41 := i32_lo (h.1 92 0 v3.toNatClampNeg) | skip
          first | have f42 : (h.1 92 0 v3.toNatClampNeg : Int32).toInt = (0 : Int32).toInt := congrArg Int32.toInt q37 | skip
          have t43 : (1 : Int32).toInt = 1 := by decide
          first | have o44 : (v3 + 1 : Int32).toInt = (v3 : Int32).toInt + (1 : Int32).toInt := ti_add (by omega) (by omega) | skip
          exact ih (v3 + 1) (uI h 67 0 v3.toNatClampNeg (h.1 67 0 v3.toNatClampNeg)) (SI.f S rfl w4288 rfl) (by omega) (by omega)
        · rw [if_neg q37]
          have b45 : 0 ≤ (h.1 92 0 v3.toNatClampNeg).toInt ∧ (h.1 92 0 v3.toNatClampNeg).toInt ≤ 1 := (S).1 92 0 v3.toNatClampNeg
          have t46 : (0 : Int32).toInt = 0 := by decide
          first | have hx_47 := i32_hi (h.1 92 0 v3.toNatClampNeg) | skip
          first | have hx_48 := i32_lo (h.1 92 0 v3.toNatClampNeg) | skip
          first | have f49 : (h.1 92 0 v3.toNatClampNeg : Int32).toInt ≠ (0 : Int32).toInt := ti_ne q37 | skip
          have t50 : (1 : Int32).toInt = 1 := by decide
          first | have o51 : (v3 + 1 : Int32).toInt = (v3 : Int32).toInt + (1 : Int32).toInt := ti_add (by omega) (by omega) | skip
          exact ih (v3 + 1) (uI h 67 0 v3.toNatClampNeg (h.1 12 0 23)) (SI.f S rfl w4288 rfl) (by omega) (by omega)
    · rw [if_neg q1]
      have b52 : 0 ≤ (h.1 12 0 2).toInt ∧ (h.1 12 0 2).toInt ≤ 24 := (S).1 12 0 2
      first | have hx_53 := i32_hi (v3) | skip
      first | have hx_54 := i32_lo (v3) | skip
      first | have hx_55 := i32_hi (h.1 12 0 2) | skip
      first | have hx_56 := i32_lo (h.1 12 0 2) | skip
      first | have f57 : (h.1 12 0 2 : Int32).toInt ≤ (v3 : Int32).toInt := Int32.le_iff_toInt_le.mp (Int32.not_lt.mp q1) | skip
      exact hk v3 h S iv0
def W_X12_writes_8 : List Nat := [5888]
set_option maxHeartbeats 400000 in
theorem z_X12_writes_8 {fp : Nat → Bool} {b : mH} {m : Nat} {P : mH → Prop} (k : Int32 → Int32 → Int32 → mH → Option (mH))  (v1 : Int32) (v2 : Int32) (ff : ∀ c ∈ W_X12_writes_8, fp c = false)  (hk : ∀ (v3 : Int32) (h : mH), SI fp b m h → 0 ≤ v3.toInt → ∃ r, k v1 v2 v3 h = some r ∧ P r) : ∀ (n : Nat) (v3 : Int32) (h : mH), SI fp b m h → 0 ≤ v3.toInt → 2147483648 - v3.toInt < n → ∃ r, f_X12_writes_8 k  n v1 v2 v3 h = some r ∧ P r := by
  have w5888 : fp 5888 = false := ff 5888 (by decide)
  intro n
  induction n with
  | zero =>
    intro v3 h S iv0 hm
    have hz := i32_hi v3
    omega
  | succ n ih =>
    intro v3 h S iv0 hm
    rw [f_X12_writes_8]
    by_cases q1 : v3 < (h.1 12 0 2)
    · rw [if_pos q1]
      have b2 : 0 ≤ (h.1 12 0 2).toInt ∧ (h.1 12 0 2).toInt ≤ 24 := (S).1 12 0 2
      first | have hx_3 := i32_hi (v3) | skip
      first | have hx_4 := i32_lo (v3) | skip
      first | have hx_5 := i32_hi (h.1 12 0 2) | skip
      first | have hx_6 := i32_lo (h.1 12 0 2) | skip
      first | have f7 : (v3 : Int32).toInt < (h.1 12 0 2 : Int32).toInt := Int32.lt_iff_toInt_lt.mp q1 | skip
      obtain ⟨⟨r3v, r3h⟩, e_r3, (hh_r3 : r3h = h), p_r3_0⟩ := z_X12_hits v3 v1 v2 h S  (by omega)
      replace hh_r3 := hh_r3.symm
      subst hh_r3
      dsimp only at p_r3_0
      have bb_r3 := bool_bd p_r3_0
      rw [e_r3, Option.bind_some]
      try dsimp only
      have q8 : mIn v3 24 = true := (mIn_bd (by omega) (by omega))
      rw [if_pos q8]
      have q9 : (r3v = 0 ∨ r3v = 1) := p_r3_0
      rw [if_pos q9]
      have t10 : (1 : Int32).toInt = 1 := by decide
      first | have o11 : (v3 + 1 : Int32).toInt = (v3 : Int32).toInt + (1 : Int32).toInt := ti_add (by omega) (by omega) | skip
      have w_12 : 0 ≤ (r3v : Int32).toInt ∧ (r3v : Int32).toInt ≤ 1 := by omega
      exact ih (v3 + 1) (uI h 92 0 v3.toNatClampNeg r3v) (SI.u S rfl w5888 w_12) (by omega) (by omega)
    · rw [if_neg q1]
      have b13 : 0 ≤ (h.1 12 0 2).toInt ∧ (h.1 12 0 2).toInt ≤ 24 := (S).1 12 0 2
      first | have hx_14 := i32_hi (v3) | skip
      first | have hx_15 := i32_lo (v3) | skip
      first | have hx_16 := i32_hi (h.1 12 0 2) | skip
      first | have hx_17 := i32_lo (h.1 12 0 2) | skip
      first | have f18 : (h.1 12 0 2 : Int32).toInt ≤ (v3 : Int32).toInt := Int32.le_iff_toInt_le.mp (Int32.not_lt.mp q1) | skip
      exact hk v3 h S iv0
def W_X12_writes : List Nat := [802, 803, 804, 4032, 4096, 4160, 4288, 5888]
set_option maxHeartbeats 400000 in
theorem z_X12_writes {fp : Nat → Bool} {b : mH} {m : Nat} (x1 : Int32) (x2 : Int32) (h : mH) (S : SI fp b m h) (ff : ∀ c ∈ W_X12_writes, fp c = false)  : ∃ r, f_X12_writes x1 x2 h = some r ∧ SI fp b m r := by
  have ff_X12_judges : ∀ c ∈ W_X12_judges, fp c = false := fun c hc => ff c ((by decide : ∀ c ∈ W_X12_judges, c ∈ W_X12_writes) c hc)
  have ff_X12_writes_37 : ∀ c ∈ W_X12_writes_37, fp c = false := fun c hc => ff c ((by decide : ∀ c ∈ W_X12_writes_37, c ∈ W_X12_writes) c hc)
  have ff_X12_writes_8 : ∀ c ∈ W_X12_writes_8, fp c = false := fun c hc => ff c ((by decide : ∀ c ∈ W_X12_writes_8, c ∈ W_X12_writes) c hc)
  unfold f_X12_writes
  obtain ⟨r1, e_r1, S_r1⟩ := z_X12_judges x1 x2 h S ff_X12_judges 
  rw [e_r1, Option.bind_some]
  have t1 : (0 : Int32).toInt = 0 := by decide
  refine z_X12_writes_8 (m := m) _  x1 x2 ff_X12_writes_8  (fun u8 h9 S_h9 y2 => ?_)  mFu 0 r1 S_r1 (by omega) (by have := mFu_big; omega)
  try dsimp only
  refine z_X12_writes_37 (m := m) _  x1 x2 ff_X12_writes_37  (fun u19 h20 S_h20 y3 => ?_)  mFu 0 h9 S_h9 (by omega) (by have := mFu_big; omega)
  try dsimp only
  exact ⟨_, rfl, S_h20⟩
def W_X12_emit : List Nat := [5952, 6016]
theorem z_X12_emit {fp : Nat → Bool} {b : mH} {m : Nat} (x1 x2 x3 x4 x5 x6 x7 : Int32) (h : mH) (S : SI fp b m h) (ff : ∀ c ∈ W_X12_emit, fp c = false) (p0 : 0 ≤ x1.toInt ∧ x1.toInt ≤ 1) (p : okP x2.toInt x3.toInt x7.toInt) (p4 : (h.1 93 0 x1.toNatClampNeg).toInt < 48) : ∃ r, f_X12_emit x1 x2 x3 x4 x5 x6 x7 h = some r ∧ SI fp b m r ∧ (r.1 93 0 x1.toNatClampNeg).toInt = (h.1 93 0 x1.toNatClampNeg).toInt + 1 := by
  unfold f_X12_emit
  have b1 : 0 ≤ (h.1 93 0 x1.toNatClampNeg).toInt ∧ (h.1 93 0 x1.toNatClampNeg).toInt ≤ 48 := S.1 93 0 _
  have e1 : (1 : Int32).toInt = 1 := by decide
  have e2 : (2 : Int32).toInt = 2 := by decide
  have e3 : (3 : Int32).toInt = 3 := by decide
  have e4 : (4 : Int32).toInt = 4 := by decide
  have e5 : (5 : Int32).toInt = 5 := by decide
  have m0 : (50 * x1).toInt = 50 * x1.toInt := ti_km (by decide) (by omega) (by omega)
  have m1 : (50 * x1 + h.1 93 0 x1.toNatClampNeg).toInt = (50 * x1).toInt + (h.1 93 0 x1.toNatClampNeg).toInt := ti_add (by omega) (by omega)
  have nn : (h.1 93 0 x1.toNatClampNeg + 1).toInt = (h.1 93 0 x1.toNatClampNeg).toInt + (1 : Int32).toInt := ti_add (by omega) (by omega)
  have n1 : 0 ≤ (h.1 93 0 x1.toNatClampNeg + 1).toInt ∧ (h.1 93 0 x1.toNatClampNeg + 1).toInt ≤ 48 := by omega
  generalize hN : (50 * x1 + h.1 93 0 x1.toNatClampNeg) = N at *
  have a0 : (6 * N).toInt = 6 * N.toInt := ti_km (by decide) (by omega) (by omega)
  have a1 : (6 * N + 1).toInt = (6 * N).toInt + (1 : Int32).toInt := ti_add (by omega) (by omega)
  have a2 : (6 * N + 2).toInt = (6 * N).toInt + (2 : Int32).toInt := ti_add (by omega) (by omega)
  have a3 : (6 * N + 3).toInt = (6 * N).toInt + (3 : Int32).toInt := ti_add (by omega) (by omega)
  have a4 : (6 * N + 4).toInt = (6 * N).toInt + (4 : Int32).toInt := ti_add (by omega) (by omega)
  have a5 : (6 * N + 5).toInt = (6 * N).toInt + (5 : Int32).toInt := ti_add (by omega) (by omega)
  rw [if_pos (mIn_bd (by omega) (by omega)), if_pos (mIn_bd (by omega) (by omega))]
  dsimp only [mLet]
  rw [if_pos (mIn_bd (by omega) (by omega)), if_pos (mIn_bd (by omega) (by omega)), if_pos (mIn_bd (by omega) (by omega)), if_pos (mIn_bd (by omega) (by omega)), if_pos (mIn_bd (by omega) (by omega))]
  refine ⟨_, rfl, ?_⟩
  rw [cl_of (j := 6 * N.toInt.toNat) (x := 6 * N) (by omega), cl_of (j := 6 * N.toInt.toNat + 1) (x := 6 * N + 1) (by omega), cl_of (j := 6 * N.toInt.toNat + 2) (x := 6 * N + 2) (by omega), cl_of (j := 6 * N.toInt.toNat + 3) (x := 6 * N + 3) (by omega), cl_of (j := 6 * N.toInt.toNat + 4) (x := 6 * N + 4) (by omega), cl_of (j := 6 * N.toInt.toNat + 5) (x := 6 * N + 5) (by omega)]
  have n9 : ∀ (g : mH) (c : Nat) (x : Int32), (uI g 94 0 c x).1 93 0 x1.toNatClampNeg = g.1 93 0 x1.toNatClampNeg := fun g c x => uI_t _ rfl
  rw [n9, n9, n9, n9, n9, n9]
  refine ⟨SI.u (SI.codeM (N := N.toInt.toNat) S (ff 6016 (by decide)) rfl (fun t i k hq => ?_) ?_) rfl (ff 5952 (by decide)) n1, ?_⟩
  · rw [uI_n _ (fun z => hq ⟨z.1, z.2.1, by omega, by omega⟩), uI_n _ (fun z => hq ⟨z.1, z.2.1, by omega, by omega⟩), uI_n _ (fun z => hq ⟨z.1, z.2.1, by omega, by omega⟩), uI_n _ (fun z => hq ⟨z.1, z.2.1, by omega, by omega⟩), uI_n _ (fun z => hq ⟨z.1, z.2.1, by omega, by omega⟩), uI_n _ (fun z => hq ⟨z.1, z.2.1, by omega, by omega⟩)]
  · have n : ∀ (g : mH) (c d : Nat) (x : Int32), d ≠ c → (uI g 94 0 c x).1 94 0 d = g.1 94 0 d := fun g c d x q => uI_n _ (fun z => q z.2.2)
    rw [n _ _ _ _ (by omega), n _ _ _ _ (by omega), n _ _ _ _ (by omega), n _ _ _ _ (by omega), n _ _ _ _ (by omega), uI_s', n _ _ _ _ (by omega), n _ _ _ _ (by omega), n _ _ _ _ (by omega), n _ _ _ _ (by omega), uI_s', uI_s']
    exact p
  · rw [uI_s', nn]
    omega
set_option maxHeartbeats 400000 in
theorem z_X12_isBound_5 {fp : Nat → Bool} {b : mH} {m : Nat} {P : Int32 × mH → Prop} (k : Int32 → Int32 → Int32 → Int32 → mH → Option (Int32 × mH))  (v1 : Int32) (v2 : Int32) (h : mH) (S : SI fp b m h)  (hk : ∀ (v3 : Int32) (v4 : Int32), 0 ≤ v4.toInt → (v3 = 0 ∨ v3 = 1) → ∃ r, k v1 v2 v3 v4 h = some r ∧ P r) : ∀ (n : Nat) (v3 : Int32) (v4 : Int32), 0 ≤ v4.toInt → (v3 = 0 ∨ v3 = 1) → 2147483648 - v4.toInt < n → ∃ r, f_X12_isBound_5 k  n v1 v2 v3 v4 h = some r ∧ P r := by
  intro n
  induction n with
  | zero =>
    intro v3 v4 iv0 iv1 hm
    have hz := i32_hi v4
    omega
  | succ n ih =>
    intro v3 v4 iv0 iv1 hm
    rw [f_X12_isBound_5]
    by_cases q1 : v4 < (h.1 12 0 11)
    · rw [if_pos q1]
      have b2 : 0 ≤ (h.1 12 0 11).toInt ∧ (h.1 12 0 11).toInt ≤ 12 := (S).1 12 0 11
      first | have hx_3 := i32_hi (v4) | skip
      first | have hx_4 := i32_lo (v4) | skip
      first | have hx_5 := i32_hi (h.1 12 0 11) | skip
      first | have hx_6 := i32_lo (h.1 12 0 11) | skip
      first | have f7 : (v4 : Int32).toInt < (h.1 12 0 11 : Int32).toInt := Int32.lt_iff_toInt_lt.mp q1 | skip
      by_cases q8 : v3 = 0
      · rw [if_pos q8]
        have t9 : (0 : Int32).toInt = 0 := by decide
        first | have hx_10 := i32_hi (v3) | skip
        first | have hx_11 := i32_lo (v3) | skip
        first | have f12 : (v3 : Int32).toInt = (0 : Int32).toInt := congrArg Int32.toInt q8 | skip
        have q13 : mIn v4 12 = true := (mIn_bd (by omega) (by omega))
        rw [if_pos q13]
        by_cases q14 : (h.1 55 0 v4.toNatClampNeg) = v1
        · rw [if_pos q14]
          have b15 : 0 ≤ (h.1 55 0 v4.toNatClampNeg).toInt ∧ (h.1 55 0 v4.toNatClampNeg).toInt ≤ 23 := (S).1 55 0 v4.toNatClampNeg
          first | have hx_16 := i32_hi (h.1 55 0 v4.toNatClampNeg) | skip
          first | have hx_17 := i32_lo (h.1 55 0 v4.toNatClampNeg) | skip
          first | have hx_18 := i32_hi (v1) | skip
          first | have hx_19 := i32_lo (v1) | skip
          first | have f20 : (h.1 55 0 v4.toNatClampNeg : Int32).toInt = (v1 : Int32).toInt := congrArg Int32.toInt q14 | skip
          by_cases q21 : (h.1 56 0 v4.toNatClampNeg) = v2
          · rw [if_pos q21]
            have b22 : 0 ≤ (h.1 56 0 v4.toNatClampNeg).toInt ∧ (h.1 56 0 v4.toNatClampNeg).toInt ≤ 23 := (S).1 56 0 v4.toNatClampNeg
            first | have hx_23 := i32_hi (h.1 56 0 v4.toNatClampNeg) | skip
            first | have hx_24 := i32_lo (h.1 56 0 v4.toNatClampNeg) | skip
            first | have hx_25 := i32_hi (v2) | skip
            first | have hx_26 := i32_lo (v2) | skip
            first | have f27 : (h.1 56 0 v4.toNatClampNeg : Int32).toInt = (v2 : Int32).toInt := congrArg Int32.toInt q21 | skip
            have t28 : (1 : Int32).toInt = 1 := by decide
            first | have o29 : (v4 + 1 : Int32).toInt = (v4 : Int32).toInt + (1 : Int32).toInt := ti_add (by omega) (by omega) | skip
            exact ih 1 (v4 + 1) (by omega) (Or.inr rfl) (by omega)
          · rw [if_neg q21]
            have b30 : 0 ≤ (h.1 56 0 v4.toNatClampNeg).toInt ∧ (h.1 56 0 v4.toNatClampNeg).toInt ≤ 23 := (S).1 56 0 v4.toNatClampNeg
            first | have hx_31 := i32_hi (h.1 56 0 v4.toNatClampNeg) | skip
            first | have hx_32 := i32_lo (h.1 56 0 v4.toNatClampNeg) | skip
            first | have hx_33 := i32_hi (v2) | skip
            first | have hx_34 := i32_lo (v2) | skip
            first | have f35 : (h.1 56 0 v4.toNatClampNeg : Int32).toInt ≠ (v2 : Int32).toInt := ti_ne q21 | skip
            by_cases q36 : (h.1 55 0 v4.toNatClampNeg) = v2
            · rw [if_pos q36]
              first | have f37 : (h.1 55 0 v4.toNatClampNeg : Int32).toInt = (v2 : Int32).toInt := congrArg Int32.toInt q36 | skip
              by_cases q38 : (h.1 56 0 v4.toNatClampNeg) = v1
              · rw [if_pos q38]
                first | have f39 : (h.1 56 0 v4.toNatClampNeg : Int32).toInt = (v1 : Int32).toInt := congrArg Int32.toInt q38 | skip
                have t40 : (1 : Int32).toInt = 1 := by decide
                first | have o41 : (v4 + 1 : Int32).toInt = (v4 : Int32).toInt + (1 : Int32).toInt := ti_add (by omega) (by omega) | skip
                exact ih 1 (v4 + 1) (by omega) (Or.inr rfl) (by omega)
              · rw [if_neg q38]
                first | have f42 : (h.1 56 0 v4.toNatClampNeg : Int32).toInt ≠ (v1 : Int32).toInt := ti_ne q38 | skip
                have t43 : (1 : Int32).toInt = 1 := by decide
                first | have o44 : (v4 + 1 : Int32).toInt = (v4 : Int32).toInt + (1 : Int32).toInt := ti_add (by omega) (by omega) | skip
                exact ih 0 (v4 + 1) (by omega) (Or.inl rfl) (by omega)
            · rw [if_neg q36]
              first | have f45 : (h.1 55 0 v4.toNatClampNeg : Int32).toInt ≠ (v2 : Int32).toInt := ti_ne q36 | skip
              have t46 : (1 : Int32).toInt = 1 := by decide
              first | have o47 : (v4 + 1 : Int32).toInt = (v4 : Int32).toInt + (1 : Int32).toInt := ti_add (by omega) (by omega) | skip
              exact ih 0 (v4 + 1) (by omega) (Or.inl rfl) (by omega)
        · rw [if_neg q14]
          have b48 : 0 ≤ (h.1 55 0 v4.toNatClampNeg).toInt ∧ (h.1 55 0 v4.toNatClampNeg).toInt ≤ 23 := (S).1 55 0 v4.toNatClampNeg
          first | have hx_49 := i32_hi (h.1 55 0 v4.toNatClampNeg) | skip
          first | have hx_50 := i32_lo (h.1 55 0 v4.toNatClampNeg) | skip
          first | have hx_51 := i32_hi (v1) | skip
          first | have hx_52 := i32_lo (v1) | skip
          first | have f53 : (h.1 55 0 v4.toNatClampNeg : Int32).toInt ≠ (v1 : Int32).toInt := ti_ne q14 | skip
          by_cases q54 : (h.1 55 0 v4.toNatClampNeg) = v2
          · rw [if_pos q54]
            first | have hx_55 := i32_hi (v2) | skip
            first | have hx_56 := i32_lo (v2) | skip
            first | have f57 : (h.1 55 0 v4.toNatClampNeg : Int32).toInt = (v2 : Int32).toInt := congrArg Int32.toInt q54 | skip
            by_cases q58 : (h.1 56 0 v4.toNatClampNeg) = v1
            · rw [if_pos q58]
              have b59 : 0 ≤ (h.1 56 0 v4.toNatClampNeg).toInt ∧ (h.1 56 0 v4.toNatClampNeg).toInt ≤ 23 := (S).1 56 0 v4.toNatClampNeg
              first | have hx_60 := i32_hi (h.1 56 0 v4.toNatClampNeg) | skip
              first | have hx_61 := i32_lo (h.1 56 0 v4.toNatClampNeg) | skip
              first | have f62 : (h.1 56 0 v4.toNatClampNeg : Int32).toInt = (v1 : Int32).toInt := congrArg Int32.toInt q58 | skip
              have t63 : (1 : Int32).toInt = 1 := by decide
              first | have o64 : (v4 + 1 : Int32).toInt = (v4 : Int32).toInt + (1 : Int32).toInt := ti_add (by omega) (by omega) | skip
              exact ih 1 (v4 + 1) (by omega) (Or.inr rfl) (by omega)
            · rw [if_neg q58]
              have b65 : 0 ≤ (h.1 56 0 v4.toNatClampNeg).toInt ∧ (h.1 56 0 v4.toNatClampNeg).toInt ≤ 23 := (S).1 56 0 v4.toNatClampNeg
              first | have hx_66 := i32_hi (h.1 56 0 v4.toNatClampNeg) | skip
              first | have hx_67 := i32_lo (h.1 56 0 v4.toNatClampNeg) | skip
              first | have f68 : (h.1 56 0 v4.toNatClampNeg : Int32).toInt ≠ (v1 : Int32).toInt := ti_ne q58 | skip
              have t69 : (1 : Int32).toInt = 1 := by decide
              first | have o70 : (v4 + 1 : Int32).toInt = (v4 : Int32).toInt + (1 : Int32).toInt := ti_add (by omega) (by omega) | skip
              exact ih 0 (v4 + 1) (by omega) (Or.inl rfl) (by omega)
          · rw [if_neg q54]
            first | have hx_71 := i32_hi (v2) | skip
            first | have hx_72 := i32_lo (v2) | skip
            first | have f73 : (h.1 55 0 v4.toNatClampNeg : Int32).toInt ≠ (v2 : Int32).toInt := ti_ne q54 | skip
            have t74 : (1 : Int32).toInt = 1 := by decide
            first | have o75 : (v4 + 1 : Int32).toInt = (v4 : Int32).toInt + (1 : Int32).toInt := ti_add (by omega) (by omega) | skip
            exact ih 0 (v4 + 1) (by omega) (Or.inl rfl) (by omega)
      · rw [if_neg q8]
        have t76 : (0 : Int32).toInt = 0 := by decide
        first | have hx_77 := i32_hi (v3) | skip
        first | have hx_78 := i32_lo (v3) | skip
        first | have f79 : (v3 : Int32).toInt ≠ (0 : Int32).toInt := ti_ne q8 | skip
        have t80 : (1 : Int32).toInt = 1 := by decide
        first | have o81 : (v4 + 1 : Int32).toInt = (v4 : Int32).toInt + (1 : Int32).toInt := ti_add (by omega) (by omega) | skip
        exact ih 1 (v4 + 1) (by omega) (Or.inr rfl) (by omega)
    · rw [if_neg q1]
      have b82 : 0 ≤ (h.1 12 0 11).toInt ∧ (h.1 12 0 11).toInt ≤ 12 := (S).1 12 0 11
      first | have hx_83 := i32_hi (v4) | skip
      first | have hx_84 := i32_lo (v4) | skip
      first | have hx_85 := i32_hi (h.1 12 0 11) | skip
      first | have hx_86 := i32_lo (h.1 12 0 11) | skip
      first | have f87 : (h.1 12 0 11 : Int32).toInt ≤ (v4 : Int32).toInt := Int32.le_iff_toInt_le.mp (Int32.not_lt.mp q1) | skip
      exact hk v3 v4 iv0 iv1
set_option maxHeartbeats 400000 in
theorem z_X12_isBound {fp : Nat → Bool} {b : mH} {m : Nat} (x1 : Int32) (x2 : Int32) (h : mH) (S : SI fp b m h)   : ∃ r, f_X12_isBound x1 x2 h = some r ∧ r.2 = h ∧ (r.1 = 0 ∨ r.1 = 1) := by
  unfold f_X12_isBound
  have t1 : (0 : Int32).toInt = 0 := by decide
  refine z_X12_isBound_5 _  x1 x2 h S  (fun u12 u13 y2 y3 => ?_)  mFu 0 0 (by omega) (Or.inl rfl) (by have := mFu_big; omega)
  try dsimp only
  have q4 : (u12 = 0 ∨ u12 = 1) := y3
  rw [if_pos q4]
  exact ⟨_, rfl, rfl, q4⟩
set_option maxHeartbeats 400000 in
theorem z_X12_isShadowed_4 {fp : Nat → Bool} {b : mH} {m : Nat} {P : Int32 × mH → Prop} (k : Int32 → Int32 → Int32 → mH → Option (Int32 × mH))  (v1 : Int32) (h : mH) (S : SI fp b m h)  (hk : ∀ (v2 : Int32) (v3 : Int32), 0 ≤ v3.toInt → (v2 = 0 ∨ v2 = 1) → ∃ r, k v1 v2 v3 h = some r ∧ P r) : ∀ (n : Nat) (v2 : Int32) (v3 : Int32), 0 ≤ v3.toInt → (v2 = 0 ∨ v2 = 1) → 2147483648 - v3.toInt < n → ∃ r, f_X12_isShadowed_4 k  n v1 v2 v3 h = some r ∧ P r := by
  intro n
  induction n with
  | zero =>
    intro v2 v3 iv0 iv1 hm
    have hz := i32_hi v3
    omega
  | succ n ih =>
    intro v2 v3 iv0 iv1 hm
    rw [f_X12_isShadowed_4]
    by_cases q1 : v3 < (h.1 12 0 2)
    · rw [if_pos q1]
      have b2 : 0 ≤ (h.1 12 0 2).toInt ∧ (h.1 12 0 2).toInt ≤ 24 := (S).1 12 0 2
      first | have hx_3 := i32_hi (v3) | skip
      first | have hx_4 := i32_lo (v3) | skip
      first | have hx_5 := i32_hi (h.1 12 0 2) | skip
      first | have hx_6 := i32_lo (h.1 12 0 2) | skip
      first | have f7 : (v3 : Int32).toInt < (h.1 12 0 2 : Int32).toInt := Int32.lt_iff_toInt_lt.mp q1 | skip
      by_cases q8 : v2 = 0
      · rw [if_pos q8]
        have t9 : (0 : Int32).toInt = 0 := by decide
        first | have hx_10 := i32_hi (v2) | skip
        first | have hx_11 := i32_lo (v2) | skip
        first | have f12 : (v2 : Int32).toInt = (0 : Int32).toInt := congrArg Int32.toInt q8 | skip
        have q13 : mIn v3 24 = true := (mIn_bd (by omega) (by omega))
        rw [if_pos q13]
        by_cases q14 : (h.1 46 0 v3.toNatClampNeg) = v1
        · rw [if_pos q14]
          have b15 : 0 ≤ (h.1 46 0 v3.toNatClampNeg).toInt ∧ (h.1 46 0 v3.toNatClampNeg).toInt ≤ 7 := (S).1 46 0 v3.toNatClampNeg
          first | have hx_16 := i32_hi (h.1 46 0 v3.toNatClampNeg) | skip
          first | have hx_17 := i32_lo (h.1 46 0 v3.toNatClampNeg) | skip
          first | have hx_18 := i32_hi (v1) | skip
          first | have hx_19 := i32_lo (v1) | skip
          first | have f20 : (h.1 46 0 v3.toNatClampNeg : Int32).toInt = (v1 : Int32).toInt := congrArg Int32.toInt q14 | skip
          by_cases q21 : (h.1 49 0 v3.toNatClampNeg) = 3
          · rw [if_pos q21]
            have t22 : (3 : Int32).toInt = 3 := by decide
            first | have hx_23 := i32_hi (h.1 49 0 v3.toNatClampNeg) | skip
            first | have hx_24 := i32_lo (h.1 49 0 v3.toNatClampNeg) | skip
            first | have f25 : (h.1 49 0 v3.toNatClampNeg : Int32).toInt = (3 : Int32).toInt := congrArg Int32.toInt q21 | skip
            have t26 : (1 : Int32).toInt = 1 := by decide
            first | have o27 : (v3 + 1 : Int32).toInt = (v3 : Int32).toInt + (1 : Int32).toInt := ti_add (by omega) (by omega) | skip
            exact ih 1 (v3 + 1) (by omega) (Or.inr rfl) (by omega)
          · rw [if_neg q21]
            have t28 : (3 : Int32).toInt = 3 := by decide
            first | have hx_29 := i32_hi (h.1 49 0 v3.toNatClampNeg) | skip
            first | have hx_30 := i32_lo (h.1 49 0 v3.toNatClampNeg) | skip
            first | have f31 : (h.1 49 0 v3.toNatClampNeg : Int32).toInt ≠ (3 : Int32).toInt := ti_ne q21 | skip
            by_cases q32 : (h.1 49 0 v3.toNatClampNeg) = 5
            · rw [if_pos q32]
              have t33 : (5 : Int32).toInt = 5 := by decide
              first | have f34 : (h.1 49 0 v3.toNatClampNeg : Int32).toInt = (5 : Int32).toInt := congrArg Int32.toInt q32 | skip
              have t35 : (1 : Int32).toInt = 1 := by decide
              first | have o36 : (v3 + 1 : Int32).toInt = (v3 : Int32).toInt + (1 : Int32).toInt := ti_add (by omega) (by omega) | skip
              exact ih 1 (v3 + 1) (by omega) (Or.inr rfl) (by omega)
            · rw [if_neg q32]
              have t37 : (5 : Int32).toInt = 5 := by decide
              first | have f38 : (h.1 49 0 v3.toNatClampNeg : Int32).toInt ≠ (5 : Int32).toInt := ti_ne q32 | skip
              have t39 : (1 : Int32).toInt = 1 := by decide
              first | have o40 : (v3 + 1 : Int32).toInt = (v3 : Int32).toInt + (1 : Int32).toInt := ti_add (by omega) (by omega) | skip
              exact ih 0 (v3 + 1) (by omega) (Or.inl rfl) (by omega)
        · rw [if_neg q14]
          have b41 : 0 ≤ (h.1 46 0 v3.toNatClampNeg).toInt ∧ (h.1 46 0 v3.toNatClampNeg).toInt ≤ 7 := (S).1 46 0 v3.toNatClampNeg
          first | have hx_42 := i32_hi (h.1 46 0 v3.toNatClampNeg) | skip
          first | have hx_43 := i32_lo (h.1 46 0 v3.toNatClampNeg) | skip
          first | have hx_44 := i32_hi (v1) | skip
          first | have hx_45 := i32_lo (v1) | skip
          first | have f46 : (h.1 46 0 v3.toNatClampNeg : Int32).toInt ≠ (v1 : Int32).toInt := ti_ne q14 | skip
          have t47 : (1 : Int32).toInt = 1 := by decide
          first | have o48 : (v3 + 1 : Int32).toInt = (v3 : Int32).toInt + (1 : Int32).toInt := ti_add (by omega) (by omega) | skip
          exact ih 0 (v3 + 1) (by omega) (Or.inl rfl) (by omega)
      · rw [if_neg q8]
        have t49 : (0 : Int32).toInt = 0 := by decide
        first | have hx_50 := i32_hi (v2) | skip
        first | have hx_51 := i32_lo (v2) | skip
        first | have f52 : (v2 : Int32).toInt ≠ (0 : Int32).toInt := ti_ne q8 | skip
        have t53 : (1 : Int32).toInt = 1 := by decide
        first | have o54 : (v3 + 1 : Int32).toInt = (v3 : Int32).toInt + (1 : Int32).toInt := ti_add (by omega) (by omega) | skip
        exact ih 1 (v3 + 1) (by omega) (Or.inr rfl) (by omega)
    · rw [if_neg q1]
      have b55 : 0 ≤ (h.1 12 0 2).toInt ∧ (h.1 12 0 2).toInt ≤ 24 := (S).1 12 0 2
      first | have hx_56 := i32_hi (v3) | skip
      first | have hx_57 := i32_lo (v3) | skip
      first | have hx_58 := i32_hi (h.1 12 0 2) | skip
      first | have hx_59 := i32_lo (h.1 12 0 2) | skip
      first | have f60 : (h.1 12 0 2 : Int32).toInt ≤ (v3 : Int32).toInt := Int32.le_iff_toInt_le.mp (Int32.not_lt.mp q1) | skip
      exact hk v2 v3 iv0 iv1
set_option maxHeartbeats 400000 in
theorem z_X12_isShadowed {fp : Nat → Bool} {b : mH} {m : Nat} (x1 : Int32) (h : mH) (S : SI fp b m h)   : ∃ r, f_X12_isShadowed x1 h = some r ∧ r.2 = h ∧ (r.1 = 0 ∨ r.1 = 1) := by
  unfold f_X12_isShadowed
  have t1 : (0 : Int32).toInt = 0 := by decide
  refine z_X12_isShadowed_4 _  x1 h S  (fun u8 u9 y2 y3 => ?_)  mFu 0 0 (by omega) (Or.inl rfl) (by have := mFu_big; omega)
  try dsimp only
  have q4 : (u8 = 0 ∨ u8 = 1) := y3
  rw [if_pos q4]
  exact ⟨_, rfl, rfl, q4⟩
set_option maxHeartbeats 400000 in
theorem z_X12_hasHandler_4 {fp : Nat → Bool} {b : mH} {m : Nat} {P : Int32 × mH → Prop} (k : Int32 → Int32 → mH → Option (Int32 × mH))   (h : mH) (S : SI fp b m h)  (hk : ∀ (v1 : Int32) (v2 : Int32), 0 ≤ v2.toInt → (v1 = 0 ∨ v1 = 1) → ∃ r, k v1 v2 h = some r ∧ P r) : ∀ (n : Nat) (v1 : Int32) (v2 : Int32), 0 ≤ v2.toInt → (v1 = 0 ∨ v1 = 1) → 2147483648 - v2.toInt < n → ∃ r, f_X12_hasHandler_4 k  n v1 v2 h = some r ∧ P r := by
  intro n
  induction n with
  | zero =>
    intro v1 v2 iv0 iv1 hm
    have hz := i32_hi v2
    omega
  | succ n ih =>
    intro v1 v2 iv0 iv1 hm
    rw [f_X12_hasHandler_4]
    by_cases q1 : v2 < (h.1 12 0 2)
    · rw [if_pos q1]
      have b2 : 0 ≤ (h.1 12 0 2).toInt ∧ (h.1 12 0 2).toInt ≤ 24 := (S).1 12 0 2
      first | have hx_3 := i32_hi (v2) | skip
      first | have hx_4 := i32_lo (v2) | skip
      first | have hx_5 := i32_hi (h.1 12 0 2) | skip
      first | have hx_6 := i32_lo (h.1 12 0 2) | skip
      first | have f7 : (v2 : Int32).toInt < (h.1 12 0 2 : Int32).toInt := Int32.lt_iff_toInt_lt.mp q1 | skip
      by_cases q8 : v1 = 0
      · rw [if_pos q8]
        have t9 : (0 : Int32).toInt = 0 := by decide
        first | have hx_10 := i32_hi (v1) | skip
        first | have hx_11 := i32_lo (v1) | skip
        first | have f12 : (v1 : Int32).toInt = (0 : Int32).toInt := congrArg Int32.toInt q8 | skip
        have q13 : mIn v2 24 = true := (mIn_bd (by omega) (by omega))
        rw [if_pos q13]
        by_cases q14 : (h.1 53 0 v2.toNatClampNeg) = (-1)
        · rw [if_pos q14]
          have b15 : -1 ≤ (h.1 53 0 v2.toNatClampNeg).toInt ∧ (h.1 53 0 v2.toNatClampNeg).toInt ≤ 5 := (S).1 53 0 v2.toNatClampNeg
          have t16 : ((-1) : Int32).toInt = (-1) := by decide
          first | have hx_17 := i32_hi (h.1 53 0 v2.toNatClampNeg) | skip
          first | have hx_18 := i32_lo (h.1 53 0 v2.toNatClampNeg) | skip
          first | have f19 : (h.1 53 0 v2.toNatClampNeg : Int32).toInt = (-1 : Int32).toInt := congrArg Int32.toInt q14 | skip
          have t20 : (1 : Int32).toInt = 1 := by decide
          first | have o21 : (v2 + 1 : Int32).toInt = (v2 : Int32).toInt + (1 : Int32).toInt := ti_add (by omega) (by omega) | skip
          exact ih 0 (v2 + 1) (by omega) (Or.inl rfl) (by omega)
        · rw [if_neg q14]
          have b22 : -1 ≤ (h.1 53 0 v2.toNatClampNeg).toInt ∧ (h.1 53 0 v2.toNatClampNeg).toInt ≤ 5 := (S).1 53 0 v2.toNatClampNeg
          have t23 : ((-1) : Int32).toInt = (-1) := by decide
          first | have hx_24 := i32_hi (h.1 53 0 v2.toNatClampNeg) | skip
          first | have hx_25 := i32_lo (h.1 53 0 v2.toNatClampNeg) | skip
          first | have f26 : (h.1 53 0 v2.toNatClampNeg : Int32).toInt ≠ (-1 : Int32).toInt := ti_ne q14 | skip
          have t27 : (1 : Int32).toInt = 1 := by decide
          first | have o28 : (v2 + 1 : Int32).toInt = (v2 : Int32).toInt + (1 : Int32).toInt := ti_add (by omega) (by omega) | skip
          exact ih 1 (v2 + 1) (by omega) (Or.inr rfl) (by omega)
      · rw [if_neg q8]
        have t29 : (0 : Int32).toInt = 0 := by decide
        first | have hx_30 := i32_hi (v1) | skip
        first | have hx_31 := i32_lo (v1) | skip
        first | have f32 : (v1 : Int32).toInt ≠ (0 : Int32).toInt := ti_ne q8 | skip
        have t33 : (1 : Int32).toInt = 1 := by decide
        first | have o34 : (v2 + 1 : Int32).toInt = (v2 : Int32).toInt + (1 : Int32).toInt := ti_add (by omega) (by omega) | skip
        exact ih 1 (v2 + 1) (by omega) (Or.inr rfl) (by omega)
    · rw [if_neg q1]
      have b35 : 0 ≤ (h.1 12 0 2).toInt ∧ (h.1 12 0 2).toInt ≤ 24 := (S).1 12 0 2
      first | have hx_36 := i32_hi (v2) | skip
      first | have hx_37 := i32_lo (v2) | skip
      first | have hx_38 := i32_hi (h.1 12 0 2) | skip
      first | have hx_39 := i32_lo (h.1 12 0 2) | skip
      first | have f40 : (h.1 12 0 2 : Int32).toInt ≤ (v2 : Int32).toInt := Int32.le_iff_toInt_le.mp (Int32.not_lt.mp q1) | skip
      exact hk v1 v2 iv0 iv1
set_option maxHeartbeats 400000 in
theorem z_X12_hasHandler {fp : Nat → Bool} {b : mH} {m : Nat}  (h : mH) (S : SI fp b m h)   : ∃ r, f_X12_hasHandler h = some r ∧ r.2 = h ∧ (r.1 = 0 ∨ r.1 = 1) := by
  unfold f_X12_hasHandler
  have t1 : (0 : Int32).toInt = 0 := by decide
  refine z_X12_hasHandler_4 _   h S  (fun u5 u6 y2 y3 => ?_)  mFu 0 0 (by omega) (Or.inl rfl) (by have := mFu_big; omega)
  try dsimp only
  have q4 : (u5 = 0 ∨ u5 = 1) := y3
  rw [if_pos q4]
  exact ⟨_, rfl, rfl, q4⟩
theorem z_X12_groups_30 {fp : Nat → Bool} {b : mH} {m : Nat} {P : mH → Prop} (k : Int32 → Int32 → Int32 → Int32 → Int32 → Int32 → Int32 → Int32 → mH → Option (mH)) (v1 v2 v3 v4 v5 v7 : Int32) (h : mH) (S : SI fp b m h) (c1 : v3.toInt ≤ 72) (ca : ∀ j : Nat, v2.toInt ≤ j → (j : Int) < v3.toInt → (h.1 59 0 j).toInt = 0) (hk : ∀ v6 v8 : Int32, (0 ≤ v8.toInt) → (v2.toInt ≤ v8.toInt) → ∃ r, k v1 v2 v3 v4 v5 v6 v7 v8 h = some r ∧ P r) : ∀ (n : Nat) (v6 v8 : Int32), (0 ≤ v8.toInt) → (v2.toInt ≤ v8.toInt) → 2147483648 - v8.toInt < n → ∃ r, f_X12_groups_30 k n v1 v2 v3 v4 v5 v6 v7 v8 h = some r ∧ P r := by
  intro n
  induction n with
  | zero =>
    intro v6 v8 i0 i1 hm
    have hz := i32_hi v8
    omega
  | succ n ih =>
    intro v6 v8 i0 i1 hm
    rw [f_X12_groups_30]
    by_cases q : v8 < v3
    · rw [if_pos q]
      have f1 := Int32.lt_iff_toInt_lt.mp q
      rw [if_pos (mIn_bd (by omega) (by omega))]
      have ha : (h.1 59 0 v8.toNatClampNeg).toInt = 0 := ca v8.toNatClampNeg (by show v2.toInt ≤ (v8.toInt.toNat : Int); omega) (by show (v8.toInt.toNat : Int) < v3.toInt; omega)
      have hb : ((h.1 59 0 v8.toNatClampNeg).toInt = 3 ∧ (h.1 61 0 v8.toNatClampNeg).toInt ≤ 9) ∨ ((h.1 59 0 v8.toNatClampNeg).toInt ≠ 3 ∧ 0 ≤ (h.1 60 0 v8.toNatClampNeg).toInt) := S.2.1.2.2.1 _
      have hc : -1 ≤ (h.1 60 0 v8.toNatClampNeg).toInt ∧ (h.1 60 0 v8.toNatClampNeg).toInt ≤ 23 := S.1 60 0 _
      rw [if_pos (mIn_bd (by omega) (by omega))]
      have e1 : (1 : Int32).toInt = 1 := by decide
      have a1 : (v8 + 1).toInt = v8.toInt + (1 : Int32).toInt := ti_add (by omega) (by omega)
      exact ih _ _ (by omega) (by omega) (by omega)
    · rw [if_neg q]
      exact hk v6 v8 i0 i1
set_option maxHeartbeats 400000 in
theorem z_X12_groups_127 {fp : Nat → Bool} {b : mH} {m : Nat} {P : mH → Prop} (k : Int32 → Int32 → Int32 → Int32 → Int32 → Int32 → Int32 → Int32 → Int32 → Int32 → mH → Option (mH))  (v1 : Int32) (v2 : Int32) (v3 : Int32) (v4 : Int32) (v5 : Int32) (v6 : Int32) (v7 : Int32) (v8 : Int32) (h : mH) (S : SI fp b m h) (cp0 : v3.toInt ≤ 72) (hk : ∀ (v9 : Int32) (v10 : Int32), 0 ≤ v10.toInt → ∃ r, k v1 v2 v3 v4 v5 v6 v7 v8 v9 v10 h = some r ∧ P r) : ∀ (n : Nat) (v9 : Int32) (v10 : Int32), 0 ≤ v10.toInt → 2147483648 - v10.toInt < n → ∃ r, f_X12_groups_127 k  n v1 v2 v3 v4 v5 v6 v7 v8 v9 v10 h = some r ∧ P r := by
  intro n
  induction n with
  | zero =>
    intro v9 v10 iv0 hm
    have hz := i32_hi v10
    omega
  | succ n ih =>
    intro v9 v10 iv0 hm
    rw [f_X12_groups_127]
    by_cases q1 : v10 < v3
    · rw [if_pos q1]
      first | have hx_2 := i32_hi (v10) | skip
      first | have hx_3 := i32_lo (v10) | skip
      first | have hx_4 := i32_hi (v3) | skip
      first | have hx_5 := i32_lo (v3) | skip
      first | have f6 : (v10 : Int32).toInt < (v3 : Int32).toInt := Int32.lt_iff_toInt_lt.mp q1 | skip
      by_cases q7 : v9 = 0
      · rw [if_pos q7]
        have t8 : (0 : Int32).toInt = 0 := by decide
        first | have hx_9 := i32_hi (v9) | skip
        first | have hx_10 := i32_lo (v9) | skip
        first | have f11 : (v9 : Int32).toInt = (0 : Int32).toInt := congrArg Int32.toInt q7 | skip
        have t12 : (1 : Int32).toInt = 1 := by decide
        first | have o13 : (v10 + 1 : Int32).toInt = (v10 : Int32).toInt + (1 : Int32).toInt := ti_add (by omega) (by omega) | skip
        exact ih 0 (v10 + 1) (by omega) (by omega)
      · rw [if_neg q7]
        have t14 : (0 : Int32).toInt = 0 := by decide
        first | have hx_15 := i32_hi (v9) | skip
        first | have hx_16 := i32_lo (v9) | skip
        first | have f17 : (v9 : Int32).toInt ≠ (0 : Int32).toInt := ti_ne q7 | skip
        have q18 : mIn v10 72 = true := (mIn_bd (by omega) (by omega))
        rw [if_pos q18]
        by_cases q19 : (h.1 60 0 v10.toNatClampNeg) = v8
        · rw [if_pos q19]
          have b20 : -1 ≤ (h.1 60 0 v10.toNatClampNeg).toInt ∧ (h.1 60 0 v10.toNatClampNeg).toInt ≤ 23 := (S).1 60 0 v10.toNatClampNeg
          have b21 : ((h.1 59 0 v10.toNatClampNeg).toInt = 3 ∧ (h.1 61 0 v10.toNatClampNeg).toInt ≤ 9) ∨ ((h.1 59 0 v10.toNatClampNeg).toInt ≠ 3 ∧ 0 ≤ (h.1 60 0 v10.toNatClampNeg).toInt) := (S).2.1.2.2.1 v10.toNatClampNeg
          first | have hx_22 := i32_hi (h.1 60 0 v10.toNatClampNeg) | skip
          first | have hx_23 := i32_lo (h.1 60 0 v10.toNatClampNeg) | skip
          first | have hx_24 := i32_hi (v8) | skip
          first | have hx_25 := i32_lo (v8) | skip
          first | have f26 : (h.1 60 0 v10.toNatClampNeg : Int32).toInt = (v8 : Int32).toInt := congrArg Int32.toInt q19 | skip
          have t27 : (1 : Int32).toInt = 1 := by decide
          first | have o28 : (v10 + 1 : Int32).toInt = (v10 : Int32).toInt + (1 : Int32).toInt := ti_add (by omega) (by omega) | skip
          exact ih 0 (v10 + 1) (by omega) (by omega)
        · rw [if_neg q19]
          have b29 : -1 ≤ (h.1 60 0 v10.toNatClampNeg).toInt ∧ (h.1 60 0 v10.toNatClampNeg).toInt ≤ 23 := (S).1 60 0 v10.toNatClampNeg
          have b30 : ((h.1 59 0 v10.toNatClampNeg).toInt = 3 ∧ (h.1 61 0 v10.toNatClampNeg).toInt ≤ 9) ∨ ((h.1 59 0 v10.toNatClampNeg).toInt ≠ 3 ∧ 0 ≤ (h.1 60 0 v10.toNatClampNeg).toInt) := (S).2.1.2.2.1 v10.toNatClampNeg
          first | have hx_31 := i32_hi (h.1 60 0 v10.toNatClampNeg) | skip
          first | have hx_32 := i32_lo (h.1 60 0 v10.toNatClampNeg) | skip
          first | have hx_33 := i32_hi (v8) | skip
          first | have hx_34 := i32_lo (v8) | skip
          first | have f35 : (h.1 60 0 v10.toNatClampNeg : Int32).toInt ≠ (v8 : Int32).toInt := ti_ne q19 | skip
          have t36 : (1 : Int32).toInt = 1 := by decide
          first | have o37 : (v10 + 1 : Int32).toInt = (v10 : Int32).toInt + (1 : Int32).toInt := ti_add (by omega) (by omega) | skip
          exact ih 1 (v10 + 1) (by omega) (by omega)
    · rw [if_neg q1]
      first | have hx_38 := i32_hi (v10) | skip
      first | have hx_39 := i32_lo (v10) | skip
      first | have hx_40 := i32_hi (v3) | skip
      first | have hx_41 := i32_lo (v3) | skip
      first | have f42 : (v3 : Int32).toInt ≤ (v10 : Int32).toInt := Int32.le_iff_toInt_le.mp (Int32.not_lt.mp q1) | skip
      exact hk v9 v10 iv0
set_option maxHeartbeats 400000 in
theorem z_X12_groups_70 {fp : Nat → Bool} {b : mH} {m : Nat} {P : mH → Prop} (k : Int32 → Int32 → Int32 → Int32 → Int32 → Int32 → Int32 → Int32 → mH → Option (mH))  (v1 : Int32) (v2 : Int32) (v3 : Int32) (v4 : Int32) (v5 : Int32) (v6 : Int32) (h : mH) (S : SI fp b m h) (cp0 : (0 ≤ v2.toInt ∧ v3.toInt ≤ 72)) (hk : ∀ (v7 : Int32) (v8 : Int32), 0 ≤ v8.toInt → ∃ r, k v1 v2 v3 v4 v5 v6 v7 v8 h = some r ∧ P r) : ∀ (n : Nat) (v7 : Int32) (v8 : Int32), 0 ≤ v8.toInt → 2147483648 - v8.toInt < n → ∃ r, f_X12_groups_70 k  n v1 v2 v3 v4 v5 v6 v7 v8 h = some r ∧ P r := by
  intro n
  induction n with
  | zero =>
    intro v7 v8 iv0 hm
    have hz := i32_hi v8
    omega
  | succ n ih =>
    intro v7 v8 iv0 hm
    rw [f_X12_groups_70]
    by_cases q1 : v8 < (h.1 12 0 2)
    · rw [if_pos q1]
      have b2 : 0 ≤ (h.1 12 0 2).toInt ∧ (h.1 12 0 2).toInt ≤ 24 := (S).1 12 0 2
      first | have hx_3 := i32_hi (v8) | skip
      first | have hx_4 := i32_lo (v8) | skip
      first | have hx_5 := i32_hi (h.1 12 0 2) | skip
      first | have hx_6 := i32_lo (h.1 12 0 2) | skip
      first | have f7 : (v8 : Int32).toInt < (h.1 12 0 2 : Int32).toInt := Int32.lt_iff_toInt_lt.mp q1 | skip
      have q8 : mIn v8 24 = true := (mIn_bd (by omega) (by omega))
      rw [if_pos q8]
      by_cases q9 : (h.1 46 0 v8.toNatClampNeg) = v4
      · rw [if_pos q9]
        have b10 : 0 ≤ (h.1 46 0 v8.toNatClampNeg).toInt ∧ (h.1 46 0 v8.toNatClampNeg).toInt ≤ 7 := (S).1 46 0 v8.toNatClampNeg
        first | have hx_11 := i32_hi (h.1 46 0 v8.toNatClampNeg) | skip
        first | have hx_12 := i32_lo (h.1 46 0 v8.toNatClampNeg) | skip
        first | have hx_13 := i32_hi (v4) | skip
        first | have hx_14 := i32_lo (v4) | skip
        first | have f15 : (h.1 46 0 v8.toNatClampNeg : Int32).toInt = (v4 : Int32).toInt := congrArg Int32.toInt q9 | skip
        by_cases q16 : (h.1 49 0 v8.toNatClampNeg) = 0
        · rw [if_pos q16]
          have t17 : (0 : Int32).toInt = 0 := by decide
          first | have hx_18 := i32_hi (h.1 49 0 v8.toNatClampNeg) | skip
          first | have hx_19 := i32_lo (h.1 49 0 v8.toNatClampNeg) | skip
          first | have f20 : (h.1 49 0 v8.toNatClampNeg : Int32).toInt = (0 : Int32).toInt := congrArg Int32.toInt q16 | skip
          refine z_X12_groups_127 _  v1 v2 v3 v4 v5 v6 v7 v8 h S (by omega) (fun u45 u46 y21 => ?_)  mFu 1 v2 (by omega) (by have := mFu_big; omega)
          try dsimp only
          by_cases q22 : u45 = 0
          · rw [if_pos q22]
            first | have hx_23 := i32_hi (u45) | skip
            first | have hx_24 := i32_lo (u45) | skip
            first | have f25 : (u45 : Int32).toInt = (0 : Int32).toInt := congrArg Int32.toInt q22 | skip
            have t26 : (1 : Int32).toInt = 1 := by decide
            first | have o27 : (v8 + 1 : Int32).toInt = (v8 : Int32).toInt + (1 : Int32).toInt := ti_add (by omega) (by omega) | skip
            exact ih (v7 ||| 0) (v8 + 1) (by omega) (by omega)
          · rw [if_neg q22]
            first | have hx_28 := i32_hi (u45) | skip
            first | have hx_29 := i32_lo (u45) | skip
            first | have f30 : (u45 : Int32).toInt ≠ (0 : Int32).toInt := ti_ne q22 | skip
            obtain ⟨⟨r49v, r49h⟩, e_r49, (hh_r49 : r49h = h)⟩ := z_X12_mask v8 h S  (by omega)
            replace hh_r49 := hh_r49.symm
            subst hh_r49
            rw [e_r49, Option.bind_some]
            try dsimp only
            have t31 : (1 : Int32).toInt = 1 := by decide
            first | have o32 : (v8 + 1 : Int32).toInt = (v8 : Int32).toInt + (1 : Int32).toInt := ti_add (by omega) (by omega) | skip
            exact ih (v7 ||| r49v) (v8 + 1) (by omega) (by omega)
        · rw [if_neg q16]
          have t33 : (0 : Int32).toInt = 0 := by decide
          first | have hx_34 := i32_hi (h.1 49 0 v8.toNatClampNeg) | skip
          first | have hx_35 := i32_lo (h.1 49 0 v8.toNatClampNeg) | skip
          first | have f36 : (h.1 49 0 v8.toNatClampNeg : Int32).toInt ≠ (0 : Int32).toInt := ti_ne q16 | skip
          by_cases q37 : (h.1 49 0 v8.toNatClampNeg) = 5
          · rw [if_pos q37]
            have t38 : (5 : Int32).toInt = 5 := by decide
            first | have f39 : (h.1 49 0 v8.toNatClampNeg : Int32).toInt = (5 : Int32).toInt := congrArg Int32.toInt q37 | skip
            by_cases q40 : v5 = 0
            · rw [if_pos q40]
              first | have hx_41 := i32_hi (v5) | skip
              first | have hx_42 := i32_lo (v5) | skip
              first | have f43 : (v5 : Int32).toInt = (0 : Int32).toInt := congrArg Int32.toInt q40 | skip
              refine z_X12_groups_127 _  v1 v2 v3 v4 v5 v6 v7 v8 h S (by omega) (fun u73 u74 y44 => ?_)  mFu 0 v2 (by omega) (by have := mFu_big; omega)
              try dsimp only
              by_cases q45 : u73 = 0
              · rw [if_pos q45]
                first | have hx_46 := i32_hi (u73) | skip
                first | have hx_47 := i32_lo (u73) | skip
                first | have f48 : (u73 : Int32).toInt = (0 : Int32).toInt := congrArg Int32.toInt q45 | skip
                have t49 : (1 : Int32).toInt = 1 := by decide
                first | have o50 : (v8 + 1 : Int32).toInt = (v8 : Int32).toInt + (1 : Int32).toInt := ti_add (by omega) (by omega) | skip
                exact ih (v7 ||| 0) (v8 + 1) (by omega) (by omega)
              · rw [if_neg q45]
                first | have hx_51 := i32_hi (u73) | skip
                first | have hx_52 := i32_lo (u73) | skip
                first | have f53 : (u73 : Int32).toInt ≠ (0 : Int32).toInt := ti_ne q45 | skip
                obtain ⟨⟨r77v, r77h⟩, e_r77, (hh_r77 : r77h = h)⟩ := z_X12_mask v8 h S  (by omega)
                replace hh_r77 := hh_r77.symm
                subst hh_r77
                rw [e_r77, Option.bind_some]
                try dsimp only
                have t54 : (1 : Int32).toInt = 1 := by decide
                first | have o55 : (v8 + 1 : Int32).toInt = (v8 : Int32).toInt + (1 : Int32).toInt := ti_add (by omega) (by omega) | skip
                exact ih (v7 ||| r77v) (v8 + 1) (by omega) (by omega)
            · rw [if_neg q40]
              first | have hx_56 := i32_hi (v5) | skip
              first | have hx_57 := i32_lo (v5) | skip
              first | have f58 : (v5 : Int32).toInt ≠ (0 : Int32).toInt := ti_ne q40 | skip
              refine z_X12_groups_127 _  v1 v2 v3 v4 v5 v6 v7 v8 h S (by omega) (fun u86 u87 y59 => ?_)  mFu 1 v2 (by omega) (by have := mFu_big; omega)
              try dsimp only
              by_cases q60 : u86 = 0
              · rw [if_pos q60]
                first | have hx_61 := i32_hi (u86) | skip
                first | have hx_62 := i32_lo (u86) | skip
                first | have f63 : (u86 : Int32).toInt = (0 : Int32).toInt := congrArg Int32.toInt q60 | skip
                have t64 : (1 : Int32).toInt = 1 := by decide
                first | have o65 : (v8 + 1 : Int32).toInt = (v8 : Int32).toInt + (1 : Int32).toInt := ti_add (by omega) (by omega) | skip
                exact ih (v7 ||| 0) (v8 + 1) (by omega) (by omega)
              · rw [if_neg q60]
                first | have hx_66 := i32_hi (u86) | skip
                first | have hx_67 := i32_lo (u86) | skip
                first | have f68 : (u86 : Int32).toInt ≠ (0 : Int32).toInt := ti_ne q60 | skip
                obtain ⟨⟨r90v, r90h⟩, e_r90, (hh_r90 : r90h = h)⟩ := z_X12_mask v8 h S  (by omega)
                replace hh_r90 := hh_r90.symm
                subst hh_r90
                rw [e_r90, Option.bind_some]
                try dsimp only
                have t69 : (1 : Int32).toInt = 1 := by decide
                first | have o70 : (v8 + 1 : Int32).toInt = (v8 : Int32).toInt + (1 : Int32).toInt := ti_add (by omega) (by omega) | skip
                exact ih (v7 ||| r90v) (v8 + 1) (by omega) (by omega)
          · rw [if_neg q37]
            have t71 : (5 : Int32).toInt = 5 := by decide
            first | have f72 : (h.1 49 0 v8.toNatClampNeg : Int32).toInt ≠ (5 : Int32).toInt := ti_ne q37 | skip
            refine z_X12_groups_127 _  v1 v2 v3 v4 v5 v6 v7 v8 h S (by omega) (fun u59 u60 y73 => ?_)  mFu 0 v2 (by omega) (by have := mFu_big; omega)
            try dsimp only
            by_cases q74 : u59 = 0
            · rw [if_pos q74]
              first | have hx_75 := i32_hi (u59) | skip
              first | have hx_76 := i32_lo (u59) | skip
              first | have f77 : (u59 : Int32).toInt = (0 : Int32).toInt := congrArg Int32.toInt q74 | skip
              have t78 : (1 : Int32).toInt = 1 := by decide
              first | have o79 : (v8 + 1 : Int32).toInt = (v8 : Int32).toInt + (1 : Int32).toInt := ti_add (by omega) (by omega) | skip
              exact ih (v7 ||| 0) (v8 + 1) (by omega) (by omega)
            · rw [if_neg q74]
              first | have hx_80 := i32_hi (u59) | skip
              first | have hx_81 := i32_lo (u59) | skip
              first | have f82 : (u59 : Int32).toInt ≠ (0 : Int32).toInt := ti_ne q74 | skip
              obtain ⟨⟨r63v, r63h⟩, e_r63, (hh_r63 : r63h = h)⟩ := z_X12_mask v8 h S  (by omega)
              replace hh_r63 := hh_r63.symm
              subst hh_r63
              rw [e_r63, Option.bind_some]
              try dsimp only
              have t83 : (1 : Int32).toInt = 1 := by decide
              first | have o84 : (v8 + 1 : Int32).toInt = (v8 : Int32).toInt + (1 : Int32).toInt := ti_add (by omega) (by omega) | skip
              exact ih (v7 ||| r63v) (v8 + 1) (by omega) (by omega)
      · rw [if_neg q9]
        have b85 : 0 ≤ (h.1 46 0 v8.toNatClampNeg).toInt ∧ (h.1 46 0 v8.toNatClampNeg).toInt ≤ 7 := (S).1 46 0 v8.toNatClampNeg
        first | have hx_86 := i32_hi (h.1 46 0 v8.toNatClampNeg) | skip
        first | have hx_87 := i32_lo (h.1 46 0 v8.toNatClampNeg) | skip
        first | have hx_88 := i32_hi (v4) | skip
        first | have hx_89 := i32_lo (v4) | skip
        first | have f90 : (h.1 46 0 v8.toNatClampNeg : Int32).toInt ≠ (v4 : Int32).toInt := ti_ne q9 | skip
        refine z_X12_groups_127 _  v1 v2 v3 v4 v5 v6 v7 v8 h S (by omega) (fun u31 u32 y91 => ?_)  mFu 0 v2 (by omega) (by have := mFu_big; omega)
        try dsimp only
        by_cases q92 : u31 = 0
        · rw [if_pos q92]
          have t93 : (0 : Int32).toInt = 0 := by decide
          first | have hx_94 := i32_hi (u31) | skip
          first | have hx_95 := i32_lo (u31) | skip
          first | have f96 : (u31 : Int32).toInt = (0 : Int32).toInt := congrArg Int32.toInt q92 | skip
          have t97 : (1 : Int32).toInt = 1 := by decide
          first | have o98 : (v8 + 1 : Int32).toInt = (v8 : Int32).toInt + (1 : Int32).toInt := ti_add (by omega) (by omega) | skip
          exact ih (v7 ||| 0) (v8 + 1) (by omega) (by omega)
        · rw [if_neg q92]
          have t99 : (0 : Int32).toInt = 0 := by decide
          first | have hx_100 := i32_hi (u31) | skip
          first | have hx_101 := i32_lo (u31) | skip
          first | have f102 : (u31 : Int32).toInt ≠ (0 : Int32).toInt := ti_ne q92 | skip
          obtain ⟨⟨r35v, r35h⟩, e_r35, (hh_r35 : r35h = h)⟩ := z_X12_mask v8 h S  (by omega)
          replace hh_r35 := hh_r35.symm
          subst hh_r35
          rw [e_r35, Option.bind_some]
          try dsimp only
          have t103 : (1 : Int32).toInt = 1 := by decide
          first | have o104 : (v8 + 1 : Int32).toInt = (v8 : Int32).toInt + (1 : Int32).toInt := ti_add (by omega) (by omega) | skip
          exact ih (v7 ||| r35v) (v8 + 1) (by omega) (by omega)
    · rw [if_neg q1]
      have b105 : 0 ≤ (h.1 12 0 2).toInt ∧ (h.1 12 0 2).toInt ≤ 24 := (S).1 12 0 2
      first | have hx_106 := i32_hi (v8) | skip
      first | have hx_107 := i32_lo (v8) | skip
      first | have hx_108 := i32_hi (h.1 12 0 2) | skip
      first | have hx_109 := i32_lo (h.1 12 0 2) | skip
      first | have f110 : (h.1 12 0 2 : Int32).toInt ≤ (v8 : Int32).toInt := Int32.le_iff_toInt_le.mp (Int32.not_lt.mp q1) | skip
      exact hk v7 v8 iv0
def W_X12_groups_j267 : List Nat := [5952, 6016]
set_option maxHeartbeats 400000 in
theorem z_X12_groups_j267 {fp : Nat → Bool} {b : mH} {m : Nat} (w1 : Int32) (w4 : Int32) (w6 : Int32) (w7 : Int32) (w8 : Int32) (h : mH) (S : SI fp b m h) (ff : ∀ c ∈ W_X12_groups_j267, fp c = false) (pr0 : (0 ≤ w1.toInt ∧ w1.toInt ≤ 1)) (pr1 : (0 ≤ w4.toInt ∧ w4.toInt ≤ 7)) (pr2 : (h.1 93 0 w1.toNatClampNeg).toInt ≤ 45) : ∃ r, f_X12_groups_j267 w1 w4 w6 w7 w8 h = some r ∧ SI fp b m r ∧ (r.1 93 0 w1.toNatClampNeg).toInt ≤ (h.1 93 0 w1.toNatClampNeg).toInt + 3 := by
  have ff_X12_emit : ∀ c ∈ W_X12_emit, fp c = false := fun c hc => ff c ((by decide : ∀ c ∈ W_X12_emit, c ∈ W_X12_groups_j267) c hc)
  unfold f_X12_groups_j267
  have t1 : (0 : Int32).toInt = 0 := by decide
  have t2 : ((-2) : Int32).toInt = (-2) := by decide
  have b3 : 0 ≤ (h.1 93 0 w1.toNatClampNeg).toInt ∧ (h.1 93 0 w1.toNatClampNeg).toInt ≤ 48 := (S).1 93 0 w1.toNatClampNeg
  obtain ⟨r104, e_r104, S_r104, p_r104_0⟩ := z_X12_emit w1 0 w4 (-2) (-2) (-2) (-2) h S ff_X12_emit pr0 (by unfold okP; omega) (by omega)
  rw [e_r104, Option.bind_some]
  have t4 : (1 : Int32).toInt = 1 := by decide
  have b5 : 0 ≤ (r104.1 93 0 w1.toNatClampNeg).toInt ∧ (r104.1 93 0 w1.toNatClampNeg).toInt ≤ 48 := (S_r104).1 93 0 w1.toNatClampNeg
  obtain ⟨r105, e_r105, S_r105, p_r105_0⟩ := z_X12_emit w1 1 w4 1 w7 w6 (-2) r104 S_r104 ff_X12_emit pr0 (by unfold okP; omega) (by omega)
  rw [e_r105, Option.bind_some]
  by_cases q6 : w8 = 0
  · rw [if_pos q6]
    first | have hx_7 := i32_hi (w8) | skip
    first | have hx_8 := i32_lo (w8) | skip
    first | have f9 : (w8 : Int32).toInt = (0 : Int32).toInt := congrArg Int32.toInt q6 | skip
    have b10 : 0 ≤ (r105.1 93 0 w1.toNatClampNeg).toInt ∧ (r105.1 93 0 w1.toNatClampNeg).toInt ≤ 48 := (S_r105).1 93 0 w1.toNatClampNeg
    have pp11 : (r105.1 93 0 w1.toNatClampNeg).toInt ≤ (h.1 93 0 w1.toNatClampNeg).toInt + 3 := by omega
    exact ⟨_, rfl, S_r105, pp11⟩
  · rw [if_neg q6]
    first | have hx_12 := i32_hi (w8) | skip
    first | have hx_13 := i32_lo (w8) | skip
    first | have f14 : (w8 : Int32).toInt ≠ (0 : Int32).toInt := ti_ne q6 | skip
    have t15 : (6 : Int32).toInt = 6 := by decide
    have b16 : 0 ≤ (r105.1 93 0 w1.toNatClampNeg).toInt ∧ (r105.1 93 0 w1.toNatClampNeg).toInt ≤ 48 := (S_r105).1 93 0 w1.toNatClampNeg
    obtain ⟨r107, e_r107, S_r107, p_r107_0⟩ := z_X12_emit w1 6 (-2) (-2) (-2) (-2) (-2) r105 S_r105 ff_X12_emit pr0 (by unfold okP; omega) (by omega)
    rw [e_r107, Option.bind_some]
    have b17 : 0 ≤ (r107.1 93 0 w1.toNatClampNeg).toInt ∧ (r107.1 93 0 w1.toNatClampNeg).toInt ≤ 48 := (S_r107).1 93 0 w1.toNatClampNeg
    have pp18 : (r107.1 93 0 w1.toNatClampNeg).toInt ≤ (h.1 93 0 w1.toNatClampNeg).toInt + 3 := by omega
    exact ⟨_, rfl, S_r107, pp18⟩
def W_X12_groups_j243 : List Nat := [5952, 6016]
set_option maxHeartbeats 400000 in
theorem z_X12_groups_j243 {fp : Nat → Bool} {b : mH} {m : Nat} (w1 : Int32) (w4 : Int32) (w6 : Int32) (w7 : Int32) (h : mH) (S : SI fp b m h) (ff : ∀ c ∈ W_X12_groups_j243, fp c = false) (pr0 : (0 ≤ w1.toInt ∧ w1.toInt ≤ 1)) (pr1 : (0 ≤ w4.toInt ∧ w4.toInt ≤ 7)) (pr2 : (h.1 93 0 w1.toNatClampNeg).toInt ≤ 45) : ∃ r, f_X12_groups_j243 w1 w4 w6 w7 h = some r ∧ SI fp b m r ∧ (r.1 93 0 w1.toNatClampNeg).toInt ≤ (h.1 93 0 w1.toNatClampNeg).toInt + 3 := by
  have ff_X12_groups_j267 : ∀ c ∈ W_X12_groups_j267, fp c = false := fun c hc => ff c ((by decide : ∀ c ∈ W_X12_groups_j267, c ∈ W_X12_groups_j243) c hc)
  unfold f_X12_groups_j243
  obtain ⟨rr1, e_rr1, S_rr1, p_rr1_0⟩ := z_X12_groups_j267 w1 w4 w6 w7 0 h S ff_X12_groups_j267 pr0 pr1 pr2
  rw [e_rr1]
  exact ⟨_, rfl, S_rr1, p_rr1_0⟩
def W_X12_groups : List Nat := [5952, 6016]
set_option maxHeartbeats 400000 in
theorem z_X12_groups {fp : Nat → Bool} {b : mH} {m : Nat} (x1 : Int32) (x2 : Int32) (x3 : Int32) (h : mH) (S : SI fp b m h) (ff : ∀ c ∈ W_X12_groups, fp c = false) (pr0 : (0 ≤ x1.toInt ∧ x1.toInt ≤ 1)) (pr1 : (0 ≤ x2.toInt ∧ x2.toInt < x3.toInt ∧ x3.toInt ≤ 72)) (pr2 : ∀ j : Nat, x2.toInt ≤ j → (j : Int) < x3.toInt → (h.1 59 0 j).toInt = 0) (pr3 : (h.1 93 0 x1.toNatClampNeg).toInt ≤ 44) : ∃ r, f_X12_groups x1 x2 x3 h = some r ∧ SI fp b m r ∧ (r.1 93 0 x1.toNatClampNeg).toInt ≤ (h.1 93 0 x1.toNatClampNeg).toInt + 4 := by
  have ff_X12_emit : ∀ c ∈ W_X12_emit, fp c = false := fun c hc => ff c ((by decide : ∀ c ∈ W_X12_emit, c ∈ W_X12_groups) c hc)
  have ff_X12_groups_j243 : ∀ c ∈ W_X12_groups_j243, fp c = false := fun c hc => ff c ((by decide : ∀ c ∈ W_X12_groups_j243, c ∈ W_X12_groups) c hc)
  have ff_X12_groups_j267 : ∀ c ∈ W_X12_groups_j267, fp c = false := fun c hc => ff c ((by decide : ∀ c ∈ W_X12_groups_j267, c ∈ W_X12_groups) c hc)
  have ha : (h.1 59 0 x2.toNatClampNeg).toInt = 0 := pr2 x2.toNatClampNeg (by show x2.toInt ≤ (x2.toInt.toNat : Int); omega) (by show (x2.toInt.toNat : Int) < x3.toInt; omega)
  have hb : ((h.1 59 0 x2.toNatClampNeg).toInt = 3 ∧ (h.1 61 0 x2.toNatClampNeg).toInt ≤ 9) ∨ ((h.1 59 0 x2.toNatClampNeg).toInt ≠ 3 ∧ 0 ≤ (h.1 60 0 x2.toNatClampNeg).toInt) := S.2.1.2.2.1 _
  unfold f_X12_groups
  have q1 : mIn x2 72 = true := (mIn_bd (by omega) (by omega))
  rw [if_pos q1]
  have b2 : -1 ≤ (h.1 60 0 x2.toNatClampNeg).toInt ∧ (h.1 60 0 x2.toNatClampNeg).toInt ≤ 23 := (S).1 60 0 x2.toNatClampNeg
  have b3 : ((h.1 59 0 x2.toNatClampNeg).toInt = 3 ∧ (h.1 61 0 x2.toNatClampNeg).toInt ≤ 9) ∨ ((h.1 59 0 x2.toNatClampNeg).toInt ≠ 3 ∧ 0 ≤ (h.1 60 0 x2.toNatClampNeg).toInt) := (S).2.1.2.2.1 x2.toNatClampNeg
  have q4 : mIn (h.1 60 0 x2.toNatClampNeg) 24 = true := (mIn_bd (by omega) (by omega))
  rw [if_pos q4]
  obtain ⟨⟨r3v, r3h⟩, e_r3, (hh_r3 : r3h = h), p_r3_0⟩ := z_X12_isShadowed (h.1 46 0 (h.1 60 0 x2.toNatClampNeg).toNatClampNeg) h S  
  replace hh_r3 := hh_r3.symm
  subst hh_r3
  dsimp only at p_r3_0
  have bb_r3 := bool_bd p_r3_0
  rw [e_r3, Option.bind_some]
  try dsimp only
  refine z_X12_groups_30 _  x1 x2 x3 (h.1 46 0 (h.1 60 0 x2.toNatClampNeg).toNatClampNeg) r3v 0 h S (by omega) pr2 (fun u12 u14 y5 y6 => ?_)  mFu 0 x2 (by omega) (by omega) (by have := mFu_big; omega)
  try dsimp only
  have t7 : (0 : Int32).toInt = 0 := by decide
  refine z_X12_groups_70 _  x1 x2 x3 (h.1 46 0 (h.1 60 0 x2.toNatClampNeg).toNatClampNeg) r3v u12 h S (by omega) (fun u97 u98 y8 => ?_)  mFu 0 0 (by omega) (by have := mFu_big; omega)
  try dsimp only
  by_cases q9 : u97 = 0
  · rw [if_pos q9]
    first | have hx_10 := i32_hi (u97) | skip
    first | have hx_11 := i32_lo (u97) | skip
    first | have f12 : (u97 : Int32).toInt = (0 : Int32).toInt := congrArg Int32.toInt q9 | skip
    have t13 : (1 : Int32).toInt = 1 := by decide
    have b14 : 0 ≤ (h.1 46 0 (h.1 60 0 x2.toNatClampNeg).toNatClampNeg).toInt ∧ (h.1 46 0 (h.1 60 0 x2.toNatClampNeg).toNatClampNeg).toInt ≤ 7 := (S).1 46 0 ((h.1 60 0 x2.toNatClampNeg).toNatClampNeg)
    have t15 : ((-2) : Int32).toInt = (-2) := by decide
    have b16 : 0 ≤ (h.1 93 0 x1.toNatClampNeg).toInt ∧ (h.1 93 0 x1.toNatClampNeg).toInt ≤ 48 := (S).1 93 0 x1.toNatClampNeg
    obtain ⟨r101, e_r101, S_r101, p_r101_0⟩ := z_X12_emit x1 1 (h.1 46 0 (h.1 60 0 x2.toNatClampNeg).toNatClampNeg) 0 u97 u12 (-2) h S ff_X12_emit pr0 (by unfold okP; omega) (by omega)
    rw [e_r101, Option.bind_some]
    have b17 : 0 ≤ (r101.1 93 0 x1.toNatClampNeg).toInt ∧ (r101.1 93 0 x1.toNatClampNeg).toInt ≤ 48 := (S_r101).1 93 0 x1.toNatClampNeg
    have pp18 : (r101.1 93 0 x1.toNatClampNeg).toInt ≤ (h.1 93 0 x1.toNatClampNeg).toInt + 4 := by omega
    exact ⟨_, rfl, S_r101, pp18⟩
  · rw [if_neg q9]
    first | have hx_19 := i32_hi (u97) | skip
    first | have hx_20 := i32_lo (u97) | skip
    first | have f21 : (u97 : Int32).toInt ≠ (0 : Int32).toInt := ti_ne q9 | skip
    by_cases q22 : r3v = 0
    · rw [if_pos q22]
      first | have hx_23 := i32_hi (r3v) | skip
      first | have hx_24 := i32_lo (r3v) | skip
      first | have f25 : (r3v : Int32).toInt = (0 : Int32).toInt := congrArg Int32.toInt q22 | skip
      by_cases q26 : (h.1 12 0 22) = 1
      · rw [if_pos q26]
        have t27 : (1 : Int32).toInt = 1 := by decide
        first | have hx_28 := i32_hi (h.1 12 0 22) | skip
        first | have hx_29 := i32_lo (h.1 12 0 22) | skip
        first | have f30 : (h.1 12 0 22 : Int32).toInt = (1 : Int32).toInt := congrArg Int32.toInt q26 | skip
        obtain ⟨⟨r108v, r108h⟩, e_r108, (hh_r108 : r108h = h), p_r108_0⟩ := z_X12_hasHandler  h S  
        replace hh_r108 := hh_r108.symm
        subst hh_r108
        dsimp only at p_r108_0
        have bb_r108 := bool_bd p_r108_0
        rw [e_r108, Option.bind_some]
        try dsimp only
        by_cases q31 : r108v = 0
        · rw [if_pos q31]
          first | have hx_32 := i32_hi (r108v) | skip
          first | have hx_33 := i32_lo (r108v) | skip
          first | have f34 : (r108v : Int32).toInt = (0 : Int32).toInt := congrArg Int32.toInt q31 | skip
          have b36 : 0 ≤ (h.1 46 0 (h.1 60 0 x2.toNatClampNeg).toNatClampNeg).toInt ∧ (h.1 46 0 (h.1 60 0 x2.toNatClampNeg).toNatClampNeg).toInt ≤ 7 := (S).1 46 0 ((h.1 60 0 x2.toNatClampNeg).toNatClampNeg)
          have b37 : 0 ≤ (h.1 93 0 x1.toNatClampNeg).toInt ∧ (h.1 93 0 x1.toNatClampNeg).toInt ≤ 48 := (S).1 93 0 x1.toNatClampNeg
          obtain ⟨rr35, e_rr35, S_rr35, p_rr35_0⟩ := z_X12_groups_j243 x1 (h.1 46 0 (h.1 60 0 x2.toNatClampNeg).toNatClampNeg) u12 u97 h S ff_X12_groups_j243 pr0 (by omega) (by omega)
          rw [e_rr35]
          have b38 : 0 ≤ (rr35.1 93 0 x1.toNatClampNeg).toInt ∧ (rr35.1 93 0 x1.toNatClampNeg).toInt ≤ 48 := (S_rr35).1 93 0 x1.toNatClampNeg
          have pp39 : (rr35.1 93 0 x1.toNatClampNeg).toInt ≤ (h.1 93 0 x1.toNatClampNeg).toInt + 4 := by omega
          exact ⟨_, rfl, S_rr35, pp39⟩
        · rw [if_neg q31]
          first | have hx_40 := i32_hi (r108v) | skip
          first | have hx_41 := i32_lo (r108v) | skip
          first | have f42 : (r108v : Int32).toInt ≠ (0 : Int32).toInt := ti_ne q31 | skip
          have t43 : (5 : Int32).toInt = 5 := by decide
          have t44 : ((-2) : Int32).toInt = (-2) := by decide
          have b45 : 0 ≤ (h.1 93 0 x1.toNatClampNeg).toInt ∧ (h.1 93 0 x1.toNatClampNeg).toInt ≤ 48 := (S).1 93 0 x1.toNatClampNeg
          obtain ⟨r110, e_r110, S_r110, p_r110_0⟩ := z_X12_emit x1 5 (-2) (-2) (-2) (-2) (-2) h S ff_X12_emit pr0 (by unfold okP; omega) (by omega)
          rw [e_r110, Option.bind_some]
          have b47 : 0 ≤ (h.1 46 0 (h.1 60 0 x2.toNatClampNeg).toNatClampNeg).toInt ∧ (h.1 46 0 (h.1 60 0 x2.toNatClampNeg).toNatClampNeg).toInt ≤ 7 := (S).1 46 0 ((h.1 60 0 x2.toNatClampNeg).toNatClampNeg)
          have b48 : 0 ≤ (r110.1 93 0 x1.toNatClampNeg).toInt ∧ (r110.1 93 0 x1.toNatClampNeg).toInt ≤ 48 := (S_r110).1 93 0 x1.toNatClampNeg
          obtain ⟨rr46, e_rr46, S_rr46, p_rr46_0⟩ := z_X12_groups_j267 x1 (h.1 46 0 (h.1 60 0 x2.toNatClampNeg).toNatClampNeg) u12 u97 1 r110 S_r110 ff_X12_groups_j267 pr0 (by omega) (by omega)
          rw [e_rr46]
          have b49 : 0 ≤ (rr46.1 93 0 x1.toNatClampNeg).toInt ∧ (rr46.1 93 0 x1.toNatClampNeg).toInt ≤ 48 := (S_rr46).1 93 0 x1.toNatClampNeg
          have pp50 : (rr46.1 93 0 x1.toNatClampNeg).toInt ≤ (h.1 93 0 x1.toNatClampNeg).toInt + 4 := by omega
          exact ⟨_, rfl, S_rr46, pp50⟩
      · rw [if_neg q26]
        have t51 : (1 : Int32).toInt = 1 := by decide
        first | have hx_52 := i32_hi (h.1 12 0 22) | skip
        first | have hx_53 := i32_lo (h.1 12 0 22) | skip
        first | have f54 : (h.1 12 0 22 : Int32).toInt ≠ (1 : Int32).toInt := ti_ne q26 | skip
        have b56 : 0 ≤ (h.1 46 0 (h.1 60 0 x2.toNatClampNeg).toNatClampNeg).toInt ∧ (h.1 46 0 (h.1 60 0 x2.toNatClampNeg).toNatClampNeg).toInt ≤ 7 := (S).1 46 0 ((h.1 60 0 x2.toNatClampNeg).toNatClampNeg)
        have b57 : 0 ≤ (h.1 93 0 x1.toNatClampNeg).toInt ∧ (h.1 93 0 x1.toNatClampNeg).toInt ≤ 48 := (S).1 93 0 x1.toNatClampNeg
        obtain ⟨rr55, e_rr55, S_rr55, p_rr55_0⟩ := z_X12_groups_j243 x1 (h.1 46 0 (h.1 60 0 x2.toNatClampNeg).toNatClampNeg) u12 u97 h S ff_X12_groups_j243 pr0 (by omega) (by omega)
        rw [e_rr55]
        have b58 : 0 ≤ (rr55.1 93 0 x1.toNatClampNeg).toInt ∧ (rr55.1 93 0 x1.toNatClampNeg).toInt ≤ 48 := (S_rr55).1 93 0 x1.toNatClampNeg
        have pp59 : (rr55.1 93 0 x1.toNatClampNeg).toInt ≤ (h.1 93 0 x1.toNatClampNeg).toInt + 4 := by omega
        exact ⟨_, rfl, S_rr55, pp59⟩
    · rw [if_neg q22]
      first | have hx_60 := i32_hi (r3v) | skip
      first | have hx_61 := i32_lo (r3v) | skip
      first | have f62 : (r3v : Int32).toInt ≠ (0 : Int32).toInt := ti_ne q22 | skip
      have t63 : (1 : Int32).toInt = 1 := by decide
      have b64 : 0 ≤ (h.1 46 0 (h.1 60 0 x2.toNatClampNeg).toNatClampNeg).toInt ∧ (h.1 46 0 (h.1 60 0 x2.toNatClampNeg).toNatClampNeg).toInt ≤ 7 := (S).1 46 0 ((h.1 60 0 x2.toNatClampNeg).toNatClampNeg)
      have t65 : ((-2) : Int32).toInt = (-2) := by decide
      have b66 : 0 ≤ (h.1 93 0 x1.toNatClampNeg).toInt ∧ (h.1 93 0 x1.toNatClampNeg).toInt ≤ 48 := (S).1 93 0 x1.toNatClampNeg
      obtain ⟨r111, e_r111, S_r111, p_r111_0⟩ := z_X12_emit x1 1 (h.1 46 0 (h.1 60 0 x2.toNatClampNeg).toNatClampNeg) 2 u97 u12 (-2) h S ff_X12_emit pr0 (by unfold okP; omega) (by omega)
      rw [e_r111, Option.bind_some]
      have b67 : 0 ≤ (r111.1 93 0 x1.toNatClampNeg).toInt ∧ (r111.1 93 0 x1.toNatClampNeg).toInt ≤ 48 := (S_r111).1 93 0 x1.toNatClampNeg
      have pp68 : (r111.1 93 0 x1.toNatClampNeg).toInt ≤ (h.1 93 0 x1.toNatClampNeg).toInt + 4 := by omega
      exact ⟨_, rfl, S_r111, pp68⟩
set_option maxHeartbeats 400000 in
theorem z_X12_joins_43 {fp : Nat → Bool} {b : mH} {m : Nat} {P : Int32 × mH → Prop} (k : Int32 → Int32 → Int32 → mH → Option (Int32 × mH))  (v2 : Int32) (h : mH) (S : SI fp b m h) (cp0 : (0 ≤ v2.toInt ∧ v2.toInt < 72)) (hk : ∀ (v3 : Int32) (v4 : Int32), 0 ≤ v4.toInt → (v3 = 0 ∨ v3 = 1) → (v3.toInt = 0 ∨ (h.1 59 0 v2.toNatClampNeg).toInt = 0) → ∃ r, k v2 v3 v4 h = some r ∧ P r) : ∀ (n : Nat) (v3 : Int32) (v4 : Int32), 0 ≤ v4.toInt → (v3 = 0 ∨ v3 = 1) → (v3.toInt = 0 ∨ (h.1 59 0 v2.toNatClampNeg).toInt = 0) → 2147483648 - v4.toInt < n → ∃ r, f_X12_joins_43 k  n v2 v3 v4 h = some r ∧ P r := by
  intro n
  induction n with
  | zero =>
    intro v3 v4 iv0 iv1 iv2 hm
    have hz := i32_hi v4
    omega
  | succ n ih =>
    intro v3 v4 iv0 iv1 iv2 hm
    rw [f_X12_joins_43]
    by_cases q1 : v4 < v2
    · rw [if_pos q1]
      first | have hx_2 := i32_hi (v4) | skip
      first | have hx_3 := i32_lo (v4) | skip
      first | have hx_4 := i32_hi (v2) | skip
      first | have hx_5 := i32_lo (v2) | skip
      first | have f6 : (v4 : Int32).toInt < (v2 : Int32).toInt := Int32.lt_iff_toInt_lt.mp q1 | skip
      by_cases q7 : v3 = 0
      · rw [if_pos q7]
        have t8 : (0 : Int32).toInt = 0 := by decide
        first | have hx_9 := i32_hi (v3) | skip
        first | have hx_10 := i32_lo (v3) | skip
        first | have f11 : (v3 : Int32).toInt = (0 : Int32).toInt := congrArg Int32.toInt q7 | skip
        exact hk v3 v4 iv0 iv1 iv2
      · rw [if_neg q7]
        have t12 : (0 : Int32).toInt = 0 := by decide
        first | have hx_13 := i32_hi (v3) | skip
        first | have hx_14 := i32_lo (v3) | skip
        first | have f15 : (v3 : Int32).toInt ≠ (0 : Int32).toInt := ti_ne q7 | skip
        have q16 : mIn v4 72 = true := (mIn_bd (by omega) (by omega))
        rw [if_pos q16]
        have q17 : mIn v2 72 = true := (mIn_bd (by omega) (by omega))
        rw [if_pos q17]
        by_cases q18 : (h.1 60 0 v4.toNatClampNeg) = (h.1 60 0 v2.toNatClampNeg)
        · rw [if_pos q18]
          have b19 : -1 ≤ (h.1 60 0 v4.toNatClampNeg).toInt ∧ (h.1 60 0 v4.toNatClampNeg).toInt ≤ 23 := (S).1 60 0 v4.toNatClampNeg
          have b20 : ((h.1 59 0 v4.toNatClampNeg).toInt = 3 ∧ (h.1 61 0 v4.toNatClampNeg).toInt ≤ 9) ∨ ((h.1 59 0 v4.toNatClampNeg).toInt ≠ 3 ∧ 0 ≤ (h.1 60 0 v4.toNatClampNeg).toInt) := (S).2.1.2.2.1 v4.toNatClampNeg
          have b21 : -1 ≤ (h.1 60 0 v2.toNatClampNeg).toInt ∧ (h.1 60 0 v2.toNatClampNeg).toInt ≤ 23 := (S).1 60 0 v2.toNatClampNeg
          have b22 : ((h.1 59 0 v2.toNatClampNeg).toInt = 3 ∧ (h.1 61 0 v2.toNatClampNeg).toInt ≤ 9) ∨ ((h.1 59 0 v2.toNatClampNeg).toInt ≠ 3 ∧ 0 ≤ (h.1 60 0 v2.toNatClampNeg).toInt) := (S).2.1.2.2.1 v2.toNatClampNeg
          first | have hx_23 := i32_hi (h.1 60 0 v4.toNatClampNeg) | skip
          first | have hx_24 := i32_lo (h.1 60 0 v4.toNatClampNeg) | skip
          first | have hx_25 := i32_hi (h.1 60 0 v2.toNatClampNeg) | skip
          first | have hx_26 := i32_lo (h.1 60 0 v2.toNatClampNeg) | skip
          first | have f27 : (h.1 60 0 v4.toNatClampNeg : Int32).toInt = (h.1 60 0 v2.toNatClampNeg : Int32).toInt := congrArg Int32.toInt q18 | skip
          have t28 : (1 : Int32).toInt = 1 := by decide
          first | have o29 : (v4 + 1 : Int32).toInt = (v4 : Int32).toInt + (1 : Int32).toInt := ti_add (by omega) (by omega) | skip
          have b30 : 0 ≤ (h.1 59 0 v2.toNatClampNeg).toInt ∧ (h.1 59 0 v2.toNatClampNeg).toInt ≤ 3 := (S).1 59 0 v2.toNatClampNeg
          exact ih 0 (v4 + 1) (by omega) (Or.inl rfl) (by omega) (by omega)
        · rw [if_neg q18]
          have b31 : -1 ≤ (h.1 60 0 v4.toNatClampNeg).toInt ∧ (h.1 60 0 v4.toNatClampNeg).toInt ≤ 23 := (S).1 60 0 v4.toNatClampNeg
          have b32 : ((h.1 59 0 v4.toNatClampNeg).toInt = 3 ∧ (h.1 61 0 v4.toNatClampNeg).toInt ≤ 9) ∨ ((h.1 59 0 v4.toNatClampNeg).toInt ≠ 3 ∧ 0 ≤ (h.1 60 0 v4.toNatClampNeg).toInt) := (S).2.1.2.2.1 v4.toNatClampNeg
          have b33 : -1 ≤ (h.1 60 0 v2.toNatClampNeg).toInt ∧ (h.1 60 0 v2.toNatClampNeg).toInt ≤ 23 := (S).1 60 0 v2.toNatClampNeg
          have b34 : ((h.1 59 0 v2.toNatClampNeg).toInt = 3 ∧ (h.1 61 0 v2.toNatClampNeg).toInt ≤ 9) ∨ ((h.1 59 0 v2.toNatClampNeg).toInt ≠ 3 ∧ 0 ≤ (h.1 60 0 v2.toNatClampNeg).toInt) := (S).2.1.2.2.1 v2.toNatClampNeg
          first | have hx_35 := i32_hi (h.1 60 0 v4.toNatClampNeg) | skip
          first | have hx_36 := i32_lo (h.1 60 0 v4.toNatClampNeg) | skip
          first | have hx_37 := i32_hi (h.1 60 0 v2.toNatClampNeg) | skip
          first | have hx_38 := i32_lo (h.1 60 0 v2.toNatClampNeg) | skip
          first | have f39 : (h.1 60 0 v4.toNatClampNeg : Int32).toInt ≠ (h.1 60 0 v2.toNatClampNeg : Int32).toInt := ti_ne q18 | skip
          obtain ⟨⟨r8v, r8h⟩, e_r8, (hh_r8 : r8h = h), p_r8_0⟩ := z_X12_isBound (h.1 60 0 v4.toNatClampNeg) (h.1 60 0 v2.toNatClampNeg) h S  
          replace hh_r8 := hh_r8.symm
          subst hh_r8
          dsimp only at p_r8_0
          have bb_r8 := bool_bd p_r8_0
          rw [e_r8, Option.bind_some]
          try dsimp only
          by_cases q40 : r8v = 0
          · rw [if_pos q40]
            first | have hx_41 := i32_hi (r8v) | skip
            first | have hx_42 := i32_lo (r8v) | skip
            first | have f43 : (r8v : Int32).toInt = (0 : Int32).toInt := congrArg Int32.toInt q40 | skip
            have t44 : (1 : Int32).toInt = 1 := by decide
            first | have o45 : (v4 + 1 : Int32).toInt = (v4 : Int32).toInt + (1 : Int32).toInt := ti_add (by omega) (by omega) | skip
            have b46 : 0 ≤ (h.1 59 0 v2.toNatClampNeg).toInt ∧ (h.1 59 0 v2.toNatClampNeg).toInt ≤ 3 := (S).1 59 0 v2.toNatClampNeg
            exact ih 1 (v4 + 1) (by omega) (Or.inr rfl) (by omega) (by omega)
          · rw [if_neg q40]
            first | have hx_47 := i32_hi (r8v) | skip
            first | have hx_48 := i32_lo (r8v) | skip
            first | have f49 : (r8v : Int32).toInt ≠ (0 : Int32).toInt := ti_ne q40 | skip
            have t50 : (1 : Int32).toInt = 1 := by decide
            first | have o51 : (v4 + 1 : Int32).toInt = (v4 : Int32).toInt + (1 : Int32).toInt := ti_add (by omega) (by omega) | skip
            have b52 : 0 ≤ (h.1 59 0 v2.toNatClampNeg).toInt ∧ (h.1 59 0 v2.toNatClampNeg).toInt ≤ 3 := (S).1 59 0 v2.toNatClampNeg
            exact ih 0 (v4 + 1) (by omega) (Or.inl rfl) (by omega) (by omega)
    · rw [if_neg q1]
      first | have hx_53 := i32_hi (v4) | skip
      first | have hx_54 := i32_lo (v4) | skip
      first | have hx_55 := i32_hi (v2) | skip
      first | have hx_56 := i32_lo (v2) | skip
      first | have f57 : (v2 : Int32).toInt ≤ (v4 : Int32).toInt := Int32.le_iff_toInt_le.mp (Int32.not_lt.mp q1) | skip
      exact hk v3 v4 iv0 iv1 iv2
set_option maxHeartbeats 400000 in
theorem z_X12_joins_j38 {fp : Nat → Bool} {b : mH} {m : Nat} (w1 : Int32) (w2 : Int32) (h : mH) (S : SI fp b m h)  (pr0 : (0 ≤ w1.toInt ∧ w1.toInt < 72)) (pr1 : (0 ≤ w2.toInt ∧ w2.toInt < 72)) : ∃ r, f_X12_joins_j38 w1 w2 h = some r ∧ r.2 = h ∧ (r.1 = 0 ∨ r.1 = 1) ∧ (r.1.toInt = 0 ∨ (h.1 59 0 w2.toNatClampNeg).toInt = 0) := by
  unfold f_X12_joins_j38
  have t1 : (0 : Int32).toInt = 0 := by decide
  have b2 : 0 ≤ (h.1 59 0 w2.toNatClampNeg).toInt ∧ (h.1 59 0 w2.toNatClampNeg).toInt ≤ 3 := (S).1 59 0 w2.toNatClampNeg
  have b3 : ((h.1 59 0 w2.toNatClampNeg).toInt = 3 ∧ (h.1 61 0 w2.toNatClampNeg).toInt ≤ 9) ∨ ((h.1 59 0 w2.toNatClampNeg).toInt ≠ 3 ∧ 0 ≤ (h.1 60 0 w2.toNatClampNeg).toInt) := (S).2.1.2.2.1 w2.toNatClampNeg
  refine z_X12_joins_43 _  w2 h S pr1 (fun u11 u12 y4 y5 y6 => ?_)  mFu 0 w1 (by omega) (Or.inl rfl) (by omega) (by have := mFu_big; omega)
  try dsimp only
  have q7 : (u11 = 0 ∨ u11 = 1) := y5
  rw [if_pos q7]
  exact ⟨_, rfl, rfl, q7, y6⟩
set_option maxHeartbeats 400000 in
theorem z_X12_joins {fp : Nat → Bool} {b : mH} {m : Nat} (x1 : Int32) (x2 : Int32) (h : mH) (S : SI fp b m h)  (pr0 : (0 ≤ x1.toInt ∧ x1.toInt < 72)) (pr1 : (0 ≤ x2.toInt ∧ x2.toInt < 72)) (pr2 : (h.1 59 0 x1.toNatClampNeg).toInt = 0) : ∃ r, f_X12_joins x1 x2 h = some r ∧ r.2 = h ∧ (r.1 = 0 ∨ r.1 = 1) ∧ (r.1.toInt = 0 ∨ (h.1 59 0 x2.toNatClampNeg).toInt = 0) := by
  unfold f_X12_joins
  have q1 : mIn x2 72 = true := (mIn_bd (by omega) (by omega))
  rw [if_pos q1]
  by_cases q2 : (h.1 59 0 x2.toNatClampNeg) = 0
  · rw [if_pos q2]
    have b3 : 0 ≤ (h.1 59 0 x2.toNatClampNeg).toInt ∧ (h.1 59 0 x2.toNatClampNeg).toInt ≤ 3 := (S).1 59 0 x2.toNatClampNeg
    have b4 : ((h.1 59 0 x2.toNatClampNeg).toInt = 3 ∧ (h.1 61 0 x2.toNatClampNeg).toInt ≤ 9) ∨ ((h.1 59 0 x2.toNatClampNeg).toInt ≠ 3 ∧ 0 ≤ (h.1 60 0 x2.toNatClampNeg).toInt) := (S).2.1.2.2.1 x2.toNatClampNeg
    have t5 : (0 : Int32).toInt = 0 := by decide
    first | have hx_6 := i32_hi (h.1 59 0 x2.toNatClampNeg) | skip
    first | have hx_7 := i32_lo (h.1 59 0 x2.toNatClampNeg) | skip
    first | have f8 : (h.1 59 0 x2.toNatClampNeg : Int32).toInt = (0 : Int32).toInt := congrArg Int32.toInt q2 | skip
    have b9 : -1 ≤ (h.1 60 0 x2.toNatClampNeg).toInt ∧ (h.1 60 0 x2.toNatClampNeg).toInt ≤ 23 := (S).1 60 0 x2.toNatClampNeg
    have q10 : mIn (h.1 60 0 x2.toNatClampNeg) 24 = true := (mIn_bd (by omega) (by omega))
    rw [if_pos q10]
    have q11 : mIn x1 72 = true := (mIn_bd (by omega) (by omega))
    rw [if_pos q11]
    have b12 : -1 ≤ (h.1 60 0 x1.toNatClampNeg).toInt ∧ (h.1 60 0 x1.toNatClampNeg).toInt ≤ 23 := (S).1 60 0 x1.toNatClampNeg
    have b13 : ((h.1 59 0 x1.toNatClampNeg).toInt = 3 ∧ (h.1 61 0 x1.toNatClampNeg).toInt ≤ 9) ∨ ((h.1 59 0 x1.toNatClampNeg).toInt ≠ 3 ∧ 0 ≤ (h.1 60 0 x1.toNatClampNeg).toInt) := (S).2.1.2.2.1 x1.toNatClampNeg
    have q14 : mIn (h.1 60 0 x1.toNatClampNeg) 24 = true := (mIn_bd (by omega) (by omega))
    rw [if_pos q14]
    by_cases q15 : (h.1 46 0 (h.1 60 0 x2.toNatClampNeg).toNatClampNeg) = (h.1 46 0 (h.1 60 0 x1.toNatClampNeg).toNatClampNeg)
    · rw [if_pos q15]
      have b16 : 0 ≤ (h.1 46 0 (h.1 60 0 x2.toNatClampNeg).toNatClampNeg).toInt ∧ (h.1 46 0 (h.1 60 0 x2.toNatClampNeg).toNatClampNeg).toInt ≤ 7 := (S).1 46 0 ((h.1 60 0 x2.toNatClampNeg).toNatClampNeg)
      have b17 : 0 ≤ (h.1 46 0 (h.1 60 0 x1.toNatClampNeg).toNatClampNeg).toInt ∧ (h.1 46 0 (h.1 60 0 x1.toNatClampNeg).toNatClampNeg).toInt ≤ 7 := (S).1 46 0 ((h.1 60 0 x1.toNatClampNeg).toNatClampNeg)
      first | have hx_18 := i32_hi (h.1 46 0 (h.1 60 0 x2.toNatClampNeg).toNatClampNeg) | skip
      first | have hx_19 := i32_lo (h.1 46 0 (h.1 60 0 x2.toNatClampNeg).toNatClampNeg) | skip
      first | have hx_20 := i32_hi (h.1 46 0 (h.1 60 0 x1.toNatClampNeg).toNatClampNeg) | skip
      first | have hx_21 := i32_lo (h.1 46 0 (h.1 60 0 x1.toNatClampNeg).toNatClampNeg) | skip
      first | have f22 : (h.1 46 0 (h.1 60 0 x2.toNatClampNeg).toNatClampNeg : Int32).toInt = (h.1 46 0 (h.1 60 0 x1.toNatClampNeg).toNatClampNeg : Int32).toInt := congrArg Int32.toInt q15 | skip
      have t23 : (1 : Int32).toInt = 1 := by decide
      refine z_X12_joins_43 _  x2 h S pr1 (fun u20 u21 y24 y25 y26 => ?_)  mFu 1 x1 (by omega) (Or.inr rfl) (by omega) (by have := mFu_big; omega)
      try dsimp only
      have q27 : (u20 = 0 ∨ u20 = 1) := y25
      rw [if_pos q27]
      exact ⟨_, rfl, rfl, q27, y26⟩
    · rw [if_neg q15]
      have b28 : 0 ≤ (h.1 46 0 (h.1 60 0 x2.toNatClampNeg).toNatClampNeg).toInt ∧ (h.1 46 0 (h.1 60 0 x2.toNatClampNeg).toNatClampNeg).toInt ≤ 7 := (S).1 46 0 ((h.1 60 0 x2.toNatClampNeg).toNatClampNeg)
      have b29 : 0 ≤ (h.1 46 0 (h.1 60 0 x1.toNatClampNeg).toNatClampNeg).toInt ∧ (h.1 46 0 (h.1 60 0 x1.toNatClampNeg).toNatClampNeg).toInt ≤ 7 := (S).1 46 0 ((h.1 60 0 x1.toNatClampNeg).toNatClampNeg)
      first | have hx_30 := i32_hi (h.1 46 0 (h.1 60 0 x2.toNatClampNeg).toNatClampNeg) | skip
      first | have hx_31 := i32_lo (h.1 46 0 (h.1 60 0 x2.toNatClampNeg).toNatClampNeg) | skip
      first | have hx_32 := i32_hi (h.1 46 0 (h.1 60 0 x1.toNatClampNeg).toNatClampNeg) | skip
      first | have hx_33 := i32_lo (h.1 46 0 (h.1 60 0 x1.toNatClampNeg).toNatClampNeg) | skip
      first | have f34 : (h.1 46 0 (h.1 60 0 x2.toNatClampNeg).toNatClampNeg : Int32).toInt ≠ (h.1 46 0 (h.1 60 0 x1.toNatClampNeg).toNatClampNeg : Int32).toInt := ti_ne q15 | skip
      obtain ⟨⟨rr35v, rr35h⟩, e_rr35, (hh_rr35 : rr35h = h), p_rr35_0, p_rr35_1⟩ := z_X12_joins_j38 x1 x2 h S  pr0 pr1
      replace hh_rr35 := hh_rr35.symm
      subst hh_rr35
      dsimp only at p_rr35_0 p_rr35_1
      have bb_rr35 := bool_bd p_rr35_0
      rw [e_rr35]
      exact ⟨_, rfl, rfl, p_rr35_0, p_rr35_1⟩
  · rw [if_neg q2]
    have b36 : 0 ≤ (h.1 59 0 x2.toNatClampNeg).toInt ∧ (h.1 59 0 x2.toNatClampNeg).toInt ≤ 3 := (S).1 59 0 x2.toNatClampNeg
    have b37 : ((h.1 59 0 x2.toNatClampNeg).toInt = 3 ∧ (h.1 61 0 x2.toNatClampNeg).toInt ≤ 9) ∨ ((h.1 59 0 x2.toNatClampNeg).toInt ≠ 3 ∧ 0 ≤ (h.1 60 0 x2.toNatClampNeg).toInt) := (S).2.1.2.2.1 x2.toNatClampNeg
    have t38 : (0 : Int32).toInt = 0 := by decide
    first | have hx_39 := i32_hi (h.1 59 0 x2.toNatClampNeg) | skip
    first | have hx_40 := i32_lo (h.1 59 0 x2.toNatClampNeg) | skip
    first | have f41 : (h.1 59 0 x2.toNatClampNeg : Int32).toInt ≠ (0 : Int32).toInt := ti_ne q2 | skip
    obtain ⟨⟨rr42v, rr42h⟩, e_rr42, (hh_rr42 : rr42h = h), p_rr42_0, p_rr42_1⟩ := z_X12_joins_j38 x1 x2 h S  pr0 pr1
    replace hh_rr42 := hh_rr42.symm
    subst hh_rr42
    dsimp only at p_rr42_0 p_rr42_1
    have bb_rr42 := bool_bd p_rr42_0
    rw [e_rr42]
    exact ⟨_, rfl, rfl, p_rr42_0, p_rr42_1⟩
theorem z_X12_makes_56 {fp : Nat → Bool} {b : mH} {m : Nat} {P : mH → Prop} (k : Int32 → Int32 → Int32 → Int32 → mH → Option (mH)) (v1 v3 v4 : Int32) (h : mH) (S : SI fp b m h) (c1 : 0 ≤ v4.toInt ∧ v3.toInt ≤ 72) (hk : ∀ v6 : Int32, (v4.toInt < v6.toInt ∧ v6.toInt ≤ v3.toInt) → (∀ j : Nat, v4.toInt ≤ j → (j : Int) < v6.toInt → (h.1 59 0 j).toInt = 0) → ∃ r, k v1 v3 v4 v6 h = some r ∧ P r) : ∀ (n : Nat) (v6 : Int32), (v4.toInt < v6.toInt ∧ v6.toInt ≤ v3.toInt) → (∀ j : Nat, v4.toInt ≤ j → (j : Int) < v6.toInt → (h.1 59 0 j).toInt = 0) → 2147483648 - v6.toInt < n → ∃ r, f_X12_makes_56 k n v1 v3 v4 v6 h = some r ∧ P r := by
  intro n
  induction n with
  | zero =>
    intro v6 i0 i1 hm
    have hz := i32_hi v6
    omega
  | succ n ih =>
    intro v6 i0 i1 hm
    rw [f_X12_makes_56]
    by_cases q : v6 < v3
    · rw [if_pos q]
      have f1 := Int32.lt_iff_toInt_lt.mp q
      have h4 : (h.1 59 0 v4.toNatClampNeg).toInt = 0 := i1 v4.toNatClampNeg (by show v4.toInt ≤ (v4.toInt.toNat : Int); omega) (by show (v4.toInt.toNat : Int) < v6.toInt; omega)
      obtain ⟨⟨rv, rh⟩, e1, (hh : rh = h), p0, p1⟩ := z_X12_joins v4 v6 h S (by omega) (by omega) h4
      replace hh := hh.symm
      subst hh
      dsimp only at p0 p1
      rw [e1, Option.bind_some]
      dsimp only
      by_cases q1 : rv = 0
      · rw [if_pos q1]
        exact hk v6 i0 i1
      · rw [if_neg q1]
        have e0 : (0 : Int32).toInt = 0 := by decide
        have f2 := ti_ne q1
        have e1 : (1 : Int32).toInt = 1 := by decide
        have a1 : (v6 + 1).toInt = v6.toInt + (1 : Int32).toInt := ti_add (by omega) (by omega)
        refine ih _ (by omega) (fun j h1 h2 => ?_) (by omega)
        by_cases hj : (j : Int) < v6.toInt
        · exact i1 j h1 hj
        · have : v6.toNatClampNeg = j := cl_of (by omega)
          rw [← this]
          omega
    · rw [if_neg q]
      exact hk v6 i0 i1
def W_X12_makes_25 : List Nat := [5952, 6016]
set_option maxHeartbeats 400000 in
theorem z_X12_makes_25 {fp : Nat → Bool} {b : mH} {m : Nat} {P : mH → Prop} (k : Int32 → Int32 → Int32 → mH → Option (mH))  (v1 : Int32) (v3 : Int32) (ff : ∀ c ∈ W_X12_makes_25, fp c = false) (cp0 : (0 ≤ v1.toInt ∧ v1.toInt ≤ 1)) (cp1 : v3.toInt ≤ 72) (hk : ∀ (v4 : Int32) (h : mH), SI fp b m h → 0 ≤ v4.toInt → v4.toInt ≤ v3.toInt → (h.1 93 0 v1.toNatClampNeg).toInt + 4 * (v3.toInt - v4.toInt) ≤ 48 → ∃ r, k v1 v3 v4 h = some r ∧ P r) : ∀ (n : Nat) (v4 : Int32) (h : mH), SI fp b m h → 0 ≤ v4.toInt → v4.toInt ≤ v3.toInt → (h.1 93 0 v1.toNatClampNeg).toInt + 4 * (v3.toInt - v4.toInt) ≤ 48 → 2147483648 - v4.toInt < n → ∃ r, f_X12_makes_25 k  n v1 v3 v4 h = some r ∧ P r := by
  have ff_X12_emit : ∀ c ∈ W_X12_emit, fp c = false := fun c hc => ff c ((by decide : ∀ c ∈ W_X12_emit, c ∈ W_X12_makes_25) c hc)
  have ff_X12_groups : ∀ c ∈ W_X12_groups, fp c = false := fun c hc => ff c ((by decide : ∀ c ∈ W_X12_groups, c ∈ W_X12_makes_25) c hc)
  intro n
  induction n with
  | zero =>
    intro v4 h S iv0 iv1 iv2 hm
    have hz := i32_hi v4
    omega
  | succ n ih =>
    intro v4 h S iv0 iv1 iv2 hm
    rw [f_X12_makes_25]
    by_cases q1 : v4 < v3
    · rw [if_pos q1]
      first | have hx_2 := i32_hi (v4) | skip
      first | have hx_3 := i32_lo (v4) | skip
      first | have hx_4 := i32_hi (v3) | skip
      first | have hx_5 := i32_lo (v3) | skip
      first | have f6 : (v4 : Int32).toInt < (v3 : Int32).toInt := Int32.lt_iff_toInt_lt.mp q1 | skip
      have q7 : mIn v4 72 = true := (mIn_bd (by omega) (by omega))
      rw [if_pos q7]
      by_cases q8 : (h.1 59 0 v4.toNatClampNeg) = 0
      · rw [if_pos q8]
        have b9 : 0 ≤ (h.1 59 0 v4.toNatClampNeg).toInt ∧ (h.1 59 0 v4.toNatClampNeg).toInt ≤ 3 := (S).1 59 0 v4.toNatClampNeg
        have b10 : ((h.1 59 0 v4.toNatClampNeg).toInt = 3 ∧ (h.1 61 0 v4.toNatClampNeg).toInt ≤ 9) ∨ ((h.1 59 0 v4.toNatClampNeg).toInt ≠ 3 ∧ 0 ≤ (h.1 60 0 v4.toNatClampNeg).toInt) := (S).2.1.2.2.1 v4.toNatClampNeg
        have t11 : (0 : Int32).toInt = 0 := by decide
        first | have hx_12 := i32_hi (h.1 59 0 v4.toNatClampNeg) | skip
        first | have hx_13 := i32_lo (h.1 59 0 v4.toNatClampNeg) | skip
        first | have f14 : (h.1 59 0 v4.toNatClampNeg : Int32).toInt = (0 : Int32).toInt := congrArg Int32.toInt q8 | skip
        have t15 : (1 : Int32).toInt = 1 := by decide
        first | have o16 : (v4 + 1 : Int32).toInt = (v4 : Int32).toInt + (1 : Int32).toInt := ti_add (by omega) (by omega) | skip
        refine z_X12_makes_56 _  v1 v3 v4 h S (by omega) (fun u22 y17 y18 => ?_)  mFu (v4 + 1) (by omega) (one_all (by omega) (by omega) (by omega)) (by have := mFu_big; omega)
        try dsimp only
        have b19 : 0 ≤ (h.1 93 0 v1.toNatClampNeg).toInt ∧ (h.1 93 0 v1.toNatClampNeg).toInt ≤ 48 := (S).1 93 0 v1.toNatClampNeg
        obtain ⟨r24, e_r24, S_r24, p_r24_0⟩ := z_X12_groups v1 v4 u22 h S ff_X12_groups cp0 (by omega) y18 (by omega)
        rw [e_r24, Option.bind_some]
        have b20 : 0 ≤ (r24.1 93 0 v1.toNatClampNeg).toInt ∧ (r24.1 93 0 v1.toNatClampNeg).toInt ≤ 48 := (S_r24).1 93 0 v1.toNatClampNeg
        exact ih u22 r24 S_r24 (by omega) (by omega) (by omega) (by omega)
      · rw [if_neg q8]
        have b21 : 0 ≤ (h.1 59 0 v4.toNatClampNeg).toInt ∧ (h.1 59 0 v4.toNatClampNeg).toInt ≤ 3 := (S).1 59 0 v4.toNatClampNeg
        have b22 : ((h.1 59 0 v4.toNatClampNeg).toInt = 3 ∧ (h.1 61 0 v4.toNatClampNeg).toInt ≤ 9) ∨ ((h.1 59 0 v4.toNatClampNeg).toInt ≠ 3 ∧ 0 ≤ (h.1 60 0 v4.toNatClampNeg).toInt) := (S).2.1.2.2.1 v4.toNatClampNeg
        have t23 : (0 : Int32).toInt = 0 := by decide
        first | have hx_24 := i32_hi (h.1 59 0 v4.toNatClampNeg) | skip
        first | have hx_25 := i32_lo (h.1 59 0 v4.toNatClampNeg) | skip
        first | have f26 : (h.1 59 0 v4.toNatClampNeg : Int32).toInt ≠ (0 : Int32).toInt := ti_ne q8 | skip
        by_cases q27 : (h.1 59 0 v4.toNatClampNeg) = 1
        · rw [if_pos q27]
          have t28 : (1 : Int32).toInt = 1 := by decide
          first | have f29 : (h.1 59 0 v4.toNatClampNeg : Int32).toInt = (1 : Int32).toInt := congrArg Int32.toInt q27 | skip
          have b30 : -1 ≤ (h.1 60 0 v4.toNatClampNeg).toInt ∧ (h.1 60 0 v4.toNatClampNeg).toInt ≤ 23 := (S).1 60 0 v4.toNatClampNeg
          have q31 : mIn (h.1 60 0 v4.toNatClampNeg) 24 = true := (mIn_bd (by omega) (by omega))
          rw [if_pos q31]
          obtain ⟨⟨r14v, r14h⟩, e_r14, (hh_r14 : r14h = h)⟩ := z_X12_mask (h.1 60 0 v4.toNatClampNeg) h S  (by omega)
          replace hh_r14 := hh_r14.symm
          subst hh_r14
          rw [e_r14, Option.bind_some]
          try dsimp only
          have t32 : (2 : Int32).toInt = 2 := by decide
          have b33 : 0 ≤ (h.1 46 0 (h.1 60 0 v4.toNatClampNeg).toNatClampNeg).toInt ∧ (h.1 46 0 (h.1 60 0 v4.toNatClampNeg).toNatClampNeg).toInt ≤ 7 := (S).1 46 0 ((h.1 60 0 v4.toNatClampNeg).toNatClampNeg)
          have b34 : 0 ≤ (h.1 62 0 v4.toNatClampNeg).toInt ∧ (h.1 62 0 v4.toNatClampNeg).toInt ≤ 20 := (S).1 62 0 v4.toNatClampNeg
          have b35 : 0 ≤ (h.1 93 0 v1.toNatClampNeg).toInt ∧ (h.1 93 0 v1.toNatClampNeg).toInt ≤ 48 := (S).1 93 0 v1.toNatClampNeg
          obtain ⟨r15, e_r15, S_r15, p_r15_0⟩ := z_X12_emit v1 2 (h.1 46 0 (h.1 60 0 v4.toNatClampNeg).toNatClampNeg) (-2) r14v ((h.1 61 0 v4.toNatClampNeg) <<< ((h.1 47 0 (h.1 60 0 v4.toNatClampNeg).toNatClampNeg) &&& 31)) (h.1 62 0 v4.toNatClampNeg) h S ff_X12_emit cp0 (by unfold okP; omega) (by omega)
          rw [e_r15, Option.bind_some]
          first | have o36 : (v4 + 1 : Int32).toInt = (v4 : Int32).toInt + (1 : Int32).toInt := ti_add (by omega) (by omega) | skip
          have b37 : 0 ≤ (r15.1 93 0 v1.toNatClampNeg).toInt ∧ (r15.1 93 0 v1.toNatClampNeg).toInt ≤ 48 := (S_r15).1 93 0 v1.toNatClampNeg
          exact ih (v4 + 1) r15 S_r15 (by omega) (by omega) (by omega) (by omega)
        · rw [if_neg q27]
          have t38 : (1 : Int32).toInt = 1 := by decide
          first | have f39 : (h.1 59 0 v4.toNatClampNeg : Int32).toInt ≠ (1 : Int32).toInt := ti_ne q27 | skip
          by_cases q40 : (h.1 59 0 v4.toNatClampNeg) = 2
          · rw [if_pos q40]
            have t41 : (2 : Int32).toInt = 2 := by decide
            first | have f42 : (h.1 59 0 v4.toNatClampNeg : Int32).toInt = (2 : Int32).toInt := congrArg Int32.toInt q40 | skip
            have b43 : -1 ≤ (h.1 60 0 v4.toNatClampNeg).toInt ∧ (h.1 60 0 v4.toNatClampNeg).toInt ≤ 23 := (S).1 60 0 v4.toNatClampNeg
            have q44 : mIn (h.1 60 0 v4.toNatClampNeg) 24 = true := (mIn_bd (by omega) (by omega))
            rw [if_pos q44]
            have b45 : 0 ≤ (h.1 46 0 (h.1 60 0 v4.toNatClampNeg).toNatClampNeg).toInt ∧ (h.1 46 0 (h.1 60 0 v4.toNatClampNeg).toNatClampNeg).toInt ≤ 7 := (S).1 46 0 ((h.1 60 0 v4.toNatClampNeg).toNatClampNeg)
            have t46 : ((-2) : Int32).toInt = (-2) := by decide
            have b47 : 0 ≤ (h.1 93 0 v1.toNatClampNeg).toInt ∧ (h.1 93 0 v1.toNatClampNeg).toInt ≤ 48 := (S).1 93 0 v1.toNatClampNeg
            obtain ⟨r11, e_r11, S_r11, p_r11_0⟩ := z_X12_emit v1 0 (h.1 46 0 (h.1 60 0 v4.toNatClampNeg).toNatClampNeg) (-2) (-2) (-2) (-2) h S ff_X12_emit cp0 (by unfold okP; omega) (by omega)
            rw [e_r11, Option.bind_some]
            have t48 : (4 : Int32).toInt = 4 := by decide
            have b49 : 0 ≤ (r11.1 93 0 v1.toNatClampNeg).toInt ∧ (r11.1 93 0 v1.toNatClampNeg).toInt ≤ 48 := (S_r11).1 93 0 v1.toNatClampNeg
            obtain ⟨r12, e_r12, S_r12, p_r12_0⟩ := z_X12_emit v1 4 (h.1 60 0 v4.toNatClampNeg) (-2) (-2) (-2) (-2) r11 S_r11 ff_X12_emit cp0 (by unfold okP; omega) (by omega)
            rw [e_r12, Option.bind_some]
            first | have o50 : (v4 + 1 : Int32).toInt = (v4 : Int32).toInt + (1 : Int32).toInt := ti_add (by omega) (by omega) | skip
            have b51 : 0 ≤ (r12.1 93 0 v1.toNatClampNeg).toInt ∧ (r12.1 93 0 v1.toNatClampNeg).toInt ≤ 48 := (S_r12).1 93 0 v1.toNatClampNeg
            exact ih (v4 + 1) r12 S_r12 (by omega) (by omega) (by omega) (by omega)
          · rw [if_neg q40]
            have t52 : (2 : Int32).toInt = 2 := by decide
            first | have f53 : (h.1 59 0 v4.toNatClampNeg : Int32).toInt ≠ (2 : Int32).toInt := ti_ne q40 | skip
            have t54 : (3 : Int32).toInt = 3 := by decide
            have t55 : ((-2) : Int32).toInt = (-2) := by decide
            have b56 : 0 ≤ (h.1 93 0 v1.toNatClampNeg).toInt ∧ (h.1 93 0 v1.toNatClampNeg).toInt ≤ 48 := (S).1 93 0 v1.toNatClampNeg
            obtain ⟨r9, e_r9, S_r9, p_r9_0⟩ := z_X12_emit v1 3 (h.1 61 0 v4.toNatClampNeg) (-2) (-2) (-2) (-2) h S ff_X12_emit cp0 (by unfold okP; omega) (by omega)
            rw [e_r9, Option.bind_some]
            first | have o57 : (v4 + 1 : Int32).toInt = (v4 : Int32).toInt + (1 : Int32).toInt := ti_add (by omega) (by omega) | skip
            have b58 : 0 ≤ (r9.1 93 0 v1.toNatClampNeg).toInt ∧ (r9.1 93 0 v1.toNatClampNeg).toInt ≤ 48 := (S_r9).1 93 0 v1.toNatClampNeg
            exact ih (v4 + 1) r9 S_r9 (by omega) (by omega) (by omega) (by omega)
    · rw [if_neg q1]
      first | have hx_59 := i32_hi (v4) | skip
      first | have hx_60 := i32_lo (v4) | skip
      first | have hx_61 := i32_hi (v3) | skip
      first | have hx_62 := i32_lo (v3) | skip
      first | have f63 : (v3 : Int32).toInt ≤ (v4 : Int32).toInt := Int32.le_iff_toInt_le.mp (Int32.not_lt.mp q1) | skip
      exact hk v4 h S iv0 iv1 iv2
def W_X12_makes : List Nat := [5952, 6016]
set_option maxHeartbeats 400000 in
theorem z_X12_makes {fp : Nat → Bool} {b : mH} {m : Nat} (x1 : Int32) (x2 : Int32) (h : mH) (S : SI fp b m h) (ff : ∀ c ∈ W_X12_makes, fp c = false) (pr0 : (0 ≤ x1.toInt ∧ x1.toInt ≤ 1)) (pr1 : (0 ≤ x2.toInt ∧ x2.toInt < 6)) : ∃ r, f_X12_makes x1 x2 h = some r ∧ SI fp b m r := by
  have ff_X12_makes_25 : ∀ c ∈ W_X12_makes_25, fp c = false := fun c hc => ff c ((by decide : ∀ c ∈ W_X12_makes_25, c ∈ W_X12_makes) c hc)
  have w5952 : fp 5952 = false := ff 5952 (by decide)
  unfold f_X12_makes
  have q1 : mIn x1 2 = true := (mIn_bd (by omega) (by omega))
  rw [if_pos q1]
  have t2 : (0 : Int32).toInt = 0 := by decide
  have w_3 : 0 ≤ (0 : Int32).toInt ∧ (0 : Int32).toInt ≤ 48 := by omega
  refine let_ex (fun h2 e_h2 => ?_)
  have S_h2 : SI fp b m h2 := e_h2 ▸ (SI.u S rfl w5952 w_3)
  have q4 : mIn x2 6 = true := (mIn_bd (by omega) (by omega))
  rw [if_pos q4]
  have t5 : (12 : Int32).toInt = 12 := by decide
  first | have o6 : (12 * x2).toInt = 12 * (x2 : Int32).toInt := ti_km (by decide) (by omega) (by omega) | skip
  have b7 : 0 ≤ (h2.1 58 0 x2.toNatClampNeg).toInt ∧ (h2.1 58 0 x2.toNatClampNeg).toInt ≤ 12 := (S_h2).1 58 0 x2.toNatClampNeg
  have l8 : (h2.1 58 0 x2.toNatClampNeg).toInt = (h.1 58 0 x2.toNatClampNeg).toInt := by rw [← e_h2, uI_t _ rfl]
  have b9 : 0 ≤ (h.1 58 0 x2.toNatClampNeg).toInt ∧ (h.1 58 0 x2.toNatClampNeg).toInt ≤ 12 := (S).1 58 0 x2.toNatClampNeg
  first | have o10 : ((12 * x2) + (h2.1 58 0 x2.toNatClampNeg) : Int32).toInt = (12 * x2 : Int32).toInt + (h2.1 58 0 x2.toNatClampNeg : Int32).toInt := ti_add (by omega) (by omega) | skip
  have b11 : 0 ≤ (h2.1 93 0 x1.toNatClampNeg).toInt ∧ (h2.1 93 0 x1.toNatClampNeg).toInt ≤ 48 := (S_h2).1 93 0 x1.toNatClampNeg
  have l12 : (h2.1 93 0 x1.toNatClampNeg).toInt = (0 : Int32).toInt := by rw [← e_h2, uI_s']
  refine z_X12_makes_25 (m := m) _  x1 ((12 * x2) + (h2.1 58 0 x2.toNatClampNeg)) ff_X12_makes_25 pr0 (by omega) (fun u27 h28 S_h28 y13 y14 y15 => ?_)  mFu (12 * x2) h2 S_h2 (by omega) (by omega) (by omega) (by have := mFu_big; omega)
  try dsimp only
  exact ⟨_, rfl, S_h28⟩
def W_X12_code : List Nat := [5952, 6016]
set_option maxHeartbeats 400000 in
theorem z_X12_code {fp : Nat → Bool} {b : mH} {m : Nat} (x1 : Int32) (h : mH) (S : SI fp b m h) (ff : ∀ c ∈ W_X12_code, fp c = false)  : ∃ r, f_X12_code x1 h = some r ∧ SI fp b m r.2 := by
  have ff_X12_makes : ∀ c ∈ W_X12_makes, fp c = false := fun c hc => ff c ((by decide : ∀ c ∈ W_X12_makes, c ∈ W_X12_code) c hc)
  unfold f_X12_code
  obtain ⟨⟨r1v, r1h⟩, e_r1, (hh_r1 : r1h = h), p_r1_0, p_r1_1⟩ := z_X12_isAct x1 h S  
  replace hh_r1 := hh_r1.symm
  subst hh_r1
  dsimp only at p_r1_0 p_r1_1
  have bb_r1 := bool_bd p_r1_0
  rw [e_r1, Option.bind_some]
  try dsimp only
  by_cases q1 : r1v = 0
  · rw [if_pos q1]
    have t2 : (0 : Int32).toInt = 0 := by decide
    first | have hx_3 := i32_hi (r1v) | skip
    first | have hx_4 := i32_lo (r1v) | skip
    first | have f5 : (r1v : Int32).toInt = (0 : Int32).toInt := congrArg Int32.toInt q1 | skip
    exact ⟨_, rfl, S⟩
  · rw [if_neg q1]
    have t6 : (0 : Int32).toInt = 0 := by decide
    first | have hx_7 := i32_hi (r1v) | skip
    first | have hx_8 := i32_lo (r1v) | skip
    first | have f9 : (r1v : Int32).toInt ≠ (0 : Int32).toInt := ti_ne q1 | skip
    obtain ⟨r3, e_r3, S_r3⟩ := z_X12_makes 0 x1 h S ff_X12_makes (by omega) (by omega)
    rw [e_r3, Option.bind_some]
    exact ⟨_, rfl, S_r3⟩
def W_X12_op : List Nat := [5952, 6016]
set_option maxHeartbeats 400000 in
theorem z_X12_op {fp : Nat → Bool} {b : mH} {m : Nat} (x1 : Int32) (x2 : Int32) (x3 : Int32) (h : mH) (S : SI fp b m h) (ff : ∀ c ∈ W_X12_op, fp c = false)  : ∃ r, f_X12_op x1 x2 x3 h = some r ∧ SI fp b m r.2 := by
  have ff_X12_makes : ∀ c ∈ W_X12_makes, fp c = false := fun c hc => ff c ((by decide : ∀ c ∈ W_X12_makes, c ∈ W_X12_op) c hc)
  unfold f_X12_op
  obtain ⟨⟨r1v, r1h⟩, e_r1, (hh_r1 : r1h = h), p_r1_0, p_r1_1⟩ := z_X12_isAct x1 h S  
  replace hh_r1 := hh_r1.symm
  subst hh_r1
  dsimp only at p_r1_0 p_r1_1
  have bb_r1 := bool_bd p_r1_0
  rw [e_r1, Option.bind_some]
  try dsimp only
  by_cases q1 : r1v = 0
  · rw [if_pos q1]
    have t2 : (0 : Int32).toInt = 0 := by decide
    first | have hx_3 := i32_hi (r1v) | skip
    first | have hx_4 := i32_lo (r1v) | skip
    first | have f5 : (r1v : Int32).toInt = (0 : Int32).toInt := congrArg Int32.toInt q1 | skip
    exact ⟨_, rfl, S⟩
  · rw [if_neg q1]
    have t6 : (0 : Int32).toInt = 0 := by decide
    first | have hx_7 := i32_hi (r1v) | skip
    first | have hx_8 := i32_lo (r1v) | skip
    first | have f9 : (r1v : Int32).toInt ≠ (0 : Int32).toInt := ti_ne q1 | skip
    have t10 : (5 : Int32).toInt = 5 := by decide
    obtain ⟨⟨r3v, r3h⟩, e_r3, (hh_r3 : r3h = h), p_r3_0, p_r3_1⟩ := z_X12_in x3 0 5 h S  
    replace hh_r3 := hh_r3.symm
    subst hh_r3
    dsimp only at p_r3_0 p_r3_1
    have bb_r3 := bool_bd p_r3_0
    rw [e_r3, Option.bind_some]
    try dsimp only
    by_cases q11 : r3v = 0
    · rw [if_pos q11]
      first | have hx_12 := i32_hi (r3v) | skip
      first | have hx_13 := i32_lo (r3v) | skip
      first | have f14 : (r3v : Int32).toInt = (0 : Int32).toInt := congrArg Int32.toInt q11 | skip
      exact ⟨_, rfl, S⟩
    · rw [if_neg q11]
      first | have hx_15 := i32_hi (r3v) | skip
      first | have hx_16 := i32_lo (r3v) | skip
      first | have f17 : (r3v : Int32).toInt ≠ (0 : Int32).toInt := ti_ne q11 | skip
      obtain ⟨r5, e_r5, S_r5⟩ := z_X12_makes 0 x1 h S ff_X12_makes (by omega) (by omega)
      rw [e_r5, Option.bind_some]
      have b18 : 0 ≤ (r5.1 93 0 (0 : Int32).toNatClampNeg).toInt ∧ (r5.1 93 0 (0 : Int32).toNatClampNeg).toInt ≤ 48 := (S_r5).1 93 0 ((0 : Int32).toNatClampNeg)
      have t19 : (1 : Int32).toInt = 1 := by decide
      first | have o20 : ((r5.1 93 0 (0 : Int32).toNatClampNeg) - 1 : Int32).toInt = (r5.1 93 0 (0 : Int32).toNatClampNeg : Int32).toInt - (1 : Int32).toInt := ti_sub (by omega) (by omega) | skip
      obtain ⟨⟨r6v, r6h⟩, e_r6, (hh_r6 : r6h = r5), p_r6_0, p_r6_1⟩ := z_X12_in x2 0 ((r5.1 93 0 (0 : Int32).toNatClampNeg) - 1) r5 S_r5  
      replace hh_r6 := hh_r6.symm
      subst hh_r6
      dsimp only at p_r6_0 p_r6_1
      have bb_r6 := bool_bd p_r6_0
      rw [e_r6, Option.bind_some]
      try dsimp only
      by_cases q21 : r6v = 0
      · rw [if_pos q21]
        first | have hx_22 := i32_hi (r6v) | skip
        first | have hx_23 := i32_lo (r6v) | skip
        first | have f24 : (r6v : Int32).toInt = (0 : Int32).toInt := congrArg Int32.toInt q21 | skip
        exact ⟨_, rfl, S_r5⟩
      · rw [if_neg q21]
        first | have hx_25 := i32_hi (r6v) | skip
        first | have hx_26 := i32_lo (r6v) | skip
        first | have f27 : (r6v : Int32).toInt ≠ (0 : Int32).toInt := ti_ne q21 | skip
        have t28 : (6 : Int32).toInt = 6 := by decide
        first | have o29 : (6 * x2).toInt = 6 * (x2 : Int32).toInt := ti_km (by decide) (by omega) (by omega) | skip
        first | have o30 : ((6 * x2) + x3 : Int32).toInt = (6 * x2 : Int32).toInt + (x3 : Int32).toInt := ti_add (by omega) (by omega) | skip
        have q31 : mIn ((6 * x2) + x3) 600 = true := (mIn_bd (by omega) (by omega))
        rw [if_pos q31]
        exact ⟨_, rfl, S_r5⟩
set_option maxHeartbeats 400000 in
theorem z_X12_same_54 {fp : Nat → Bool} {b : mH} {m : Nat} {P : Int32 × mH → Prop} (k : Int32 → Int32 → mH → Option (Int32 × mH))   (h : mH) (S : SI fp b m h)  (hk : ∀ (v3 : Int32) (v4 : Int32), 0 ≤ v4.toInt → ∃ r, k v3 v4 h = some r ∧ P r) : ∀ (n : Nat) (v3 : Int32) (v4 : Int32), 0 ≤ v4.toInt → 2147483648 - v4.toInt < n → ∃ r, f_X12_same_54 k  n v3 v4 h = some r ∧ P r := by
  intro n
  induction n with
  | zero =>
    intro v3 v4 iv0 hm
    have hz := i32_hi v4
    omega
  | succ n ih =>
    intro v3 v4 iv0 hm
    rw [f_X12_same_54]
    by_cases q1 : v4 < (6 * (h.1 93 0 (0 : Int32).toNatClampNeg))
    · rw [if_pos q1]
      have t2 : (6 : Int32).toInt = 6 := by decide
      have b3 : 0 ≤ (h.1 93 0 (0 : Int32).toNatClampNeg).toInt ∧ (h.1 93 0 (0 : Int32).toNatClampNeg).toInt ≤ 48 := (S).1 93 0 ((0 : Int32).toNatClampNeg)
      first | have o4 : (6 * (h.1 93 0 (0 : Int32).toNatClampNeg)).toInt = 6 * (h.1 93 0 (0 : Int32).toNatClampNeg : Int32).toInt := ti_km (by decide) (by omega) (by omega) | skip
      first | have hx_5 := i32_hi (v4) | skip
      first | have hx_6 := i32_lo (v4) | skip
      first | have hx_7 := i32_hi (6 * (h.1 93 0 (0 : Int32).toNatClampNeg)) | skip
      first | have hx_8 := i32_lo (6 * (h.1 93 0 (0 : Int32).toNatClampNeg)) | skip
      first | have f9 : (v4 : Int32).toInt < (6 * (h.1 93 0 (0 : Int32).toNatClampNeg) : Int32).toInt := Int32.lt_iff_toInt_lt.mp q1 | skip
      by_cases q10 : v3 = 0
      · rw [if_pos q10]
        have t11 : (0 : Int32).toInt = 0 := by decide
        first | have hx_12 := i32_hi (v3) | skip
        first | have hx_13 := i32_lo (v3) | skip
        first | have f14 : (v3 : Int32).toInt = (0 : Int32).toInt := congrArg Int32.toInt q10 | skip
        exact hk v3 v4 iv0
      · rw [if_neg q10]
        have t15 : (0 : Int32).toInt = 0 := by decide
        first | have hx_16 := i32_hi (v3) | skip
        first | have hx_17 := i32_lo (v3) | skip
        first | have f18 : (v3 : Int32).toInt ≠ (0 : Int32).toInt := ti_ne q10 | skip
        have q19 : mIn v4 600 = true := (mIn_bd (by omega) (by omega))
        rw [if_pos q19]
        have t20 : (300 : Int32).toInt = 300 := by decide
        first | have o21 : (300 + v4 : Int32).toInt = (300 : Int32).toInt + (v4 : Int32).toInt := ti_add (by omega) (by omega) | skip
        have q22 : mIn (300 + v4) 600 = true := (mIn_bd (by omega) (by omega))
        rw [if_pos q22]
        by_cases q23 : (h.1 94 0 v4.toNatClampNeg) = (h.1 94 0 (300 + v4).toNatClampNeg)
        · rw [if_pos q23]
          first | have hx_24 := i32_hi (h.1 94 0 v4.toNatClampNeg) | skip
          first | have hx_25 := i32_lo (h.1 94 0 v4.toNatClampNeg) | skip
          first | have hx_26 := i32_hi (h.1 94 0 (300 + v4).toNatClampNeg) | skip
          first | have hx_27 := i32_lo (h.1 94 0 (300 + v4).toNatClampNeg) | skip
          first | have f28 : (h.1 94 0 v4.toNatClampNeg : Int32).toInt = (h.1 94 0 (300 + v4).toNatClampNeg : Int32).toInt := congrArg Int32.toInt q23 | skip
          have t29 : (1 : Int32).toInt = 1 := by decide
          first | have o30 : (v4 + 1 : Int32).toInt = (v4 : Int32).toInt + (1 : Int32).toInt := ti_add (by omega) (by omega) | skip
          exact ih 1 (v4 + 1) (by omega) (by omega)
        · rw [if_neg q23]
          first | have hx_31 := i32_hi (h.1 94 0 v4.toNatClampNeg) | skip
          first | have hx_32 := i32_lo (h.1 94 0 v4.toNatClampNeg) | skip
          first | have hx_33 := i32_hi (h.1 94 0 (300 + v4).toNatClampNeg) | skip
          first | have hx_34 := i32_lo (h.1 94 0 (300 + v4).toNatClampNeg) | skip
          first | have f35 : (h.1 94 0 v4.toNatClampNeg : Int32).toInt ≠ (h.1 94 0 (300 + v4).toNatClampNeg : Int32).toInt := ti_ne q23 | skip
          have t36 : (1 : Int32).toInt = 1 := by decide
          first | have o37 : (v4 + 1 : Int32).toInt = (v4 : Int32).toInt + (1 : Int32).toInt := ti_add (by omega) (by omega) | skip
          exact ih 0 (v4 + 1) (by omega) (by omega)
    · rw [if_neg q1]
      have t38 : (6 : Int32).toInt = 6 := by decide
      have b39 : 0 ≤ (h.1 93 0 (0 : Int32).toNatClampNeg).toInt ∧ (h.1 93 0 (0 : Int32).toNatClampNeg).toInt ≤ 48 := (S).1 93 0 ((0 : Int32).toNatClampNeg)
      first | have o40 : (6 * (h.1 93 0 (0 : Int32).toNatClampNeg)).toInt = 6 * (h.1 93 0 (0 : Int32).toNatClampNeg : Int32).toInt := ti_km (by decide) (by omega) (by omega) | skip
      first | have hx_41 := i32_hi (v4) | skip
      first | have hx_42 := i32_lo (v4) | skip
      first | have hx_43 := i32_hi (6 * (h.1 93 0 (0 : Int32).toNatClampNeg)) | skip
      first | have hx_44 := i32_lo (6 * (h.1 93 0 (0 : Int32).toNatClampNeg)) | skip
      first | have f45 : (6 * (h.1 93 0 (0 : Int32).toNatClampNeg) : Int32).toInt ≤ (v4 : Int32).toInt := Int32.le_iff_toInt_le.mp (Int32.not_lt.mp q1) | skip
      exact hk v3 v4 iv0
def W_X12_same : List Nat := [5952, 6016]
set_option maxHeartbeats 400000 in
theorem z_X12_same {fp : Nat → Bool} {b : mH} {m : Nat} (x1 : Int32) (x2 : Int32) (h : mH) (S : SI fp b m h) (ff : ∀ c ∈ W_X12_same, fp c = false)  : ∃ r, f_X12_same x1 x2 h = some r ∧ SI fp b m r.2 := by
  have ff_X12_makes : ∀ c ∈ W_X12_makes, fp c = false := fun c hc => ff c ((by decide : ∀ c ∈ W_X12_makes, c ∈ W_X12_same) c hc)
  unfold f_X12_same
  obtain ⟨⟨r1v, r1h⟩, e_r1, (hh_r1 : r1h = h), p_r1_0, p_r1_1⟩ := z_X12_isAct x1 h S  
  replace hh_r1 := hh_r1.symm
  subst hh_r1
  dsimp only at p_r1_0 p_r1_1
  have bb_r1 := bool_bd p_r1_0
  rw [e_r1, Option.bind_some]
  try dsimp only
  by_cases q1 : r1v = 0
  · rw [if_pos q1]
    have t2 : (0 : Int32).toInt = 0 := by decide
    first | have hx_3 := i32_hi (r1v) | skip
    first | have hx_4 := i32_lo (r1v) | skip
    first | have f5 : (r1v : Int32).toInt = (0 : Int32).toInt := congrArg Int32.toInt q1 | skip
    exact ⟨_, rfl, S⟩
  · rw [if_neg q1]
    have t6 : (0 : Int32).toInt = 0 := by decide
    first | have hx_7 := i32_hi (r1v) | skip
    first | have hx_8 := i32_lo (r1v) | skip
    first | have f9 : (r1v : Int32).toInt ≠ (0 : Int32).toInt := ti_ne q1 | skip
    obtain ⟨⟨r3v, r3h⟩, e_r3, (hh_r3 : r3h = h), p_r3_0, p_r3_1⟩ := z_X12_isAct x2 h S  
    replace hh_r3 := hh_r3.symm
    subst hh_r3
    dsimp only at p_r3_0 p_r3_1
    have bb_r3 := bool_bd p_r3_0
    rw [e_r3, Option.bind_some]
    try dsimp only
    by_cases q10 : r3v = 0
    · rw [if_pos q10]
      first | have hx_11 := i32_hi (r3v) | skip
      first | have hx_12 := i32_lo (r3v) | skip
      first | have f13 : (r3v : Int32).toInt = (0 : Int32).toInt := congrArg Int32.toInt q10 | skip
      exact ⟨_, rfl, S⟩
    · rw [if_neg q10]
      first | have hx_14 := i32_hi (r3v) | skip
      first | have hx_15 := i32_lo (r3v) | skip
      first | have f16 : (r3v : Int32).toInt ≠ (0 : Int32).toInt := ti_ne q10 | skip
      obtain ⟨r5, e_r5, S_r5⟩ := z_X12_makes 0 x1 h S ff_X12_makes (by omega) (by omega)
      rw [e_r5, Option.bind_some]
      have t17 : (1 : Int32).toInt = 1 := by decide
      obtain ⟨r6, e_r6, S_r6⟩ := z_X12_makes 1 x2 r5 S_r5 ff_X12_makes (by omega) (by omega)
      rw [e_r6, Option.bind_some]
      by_cases q18 : (r6.1 93 0 (0 : Int32).toNatClampNeg) = (r6.1 93 0 (1 : Int32).toNatClampNeg)
      · rw [if_pos q18]
        have b19 : 0 ≤ (r6.1 93 0 (0 : Int32).toNatClampNeg).toInt ∧ (r6.1 93 0 (0 : Int32).toNatClampNeg).toInt ≤ 48 := (S_r6).1 93 0 ((0 : Int32).toNatClampNeg)
        have b20 : 0 ≤ (r6.1 93 0 (1 : Int32).toNatClampNeg).toInt ∧ (r6.1 93 0 (1 : Int32).toNatClampNeg).toInt ≤ 48 := (S_r6).1 93 0 ((1 : Int32).toNatClampNeg)
        first | have hx_21 := i32_hi (r6.1 93 0 (0 : Int32).toNatClampNeg) | skip
        first | have hx_22 := i32_lo (r6.1 93 0 (0 : Int32).toNatClampNeg) | skip
        first | have hx_23 := i32_hi (r6.1 93 0 (1 : Int32).toNatClampNeg) | skip
        first | have hx_24 := i32_lo (r6.1 93 0 (1 : Int32).toNatClampNeg) | skip
        first | have f25 : (r6.1 93 0 (0 : Int32).toNatClampNeg : Int32).toInt = (r6.1 93 0 (1 : Int32).toNatClampNeg : Int32).toInt := congrArg Int32.toInt q18 | skip
        refine z_X12_same_54 _   r6 S_r6  (fun u17 u18 y26 => ?_)  mFu 1 0 (by omega) (by have := mFu_big; omega)
        try dsimp only
        by_cases q27 : u17 = 0
        · rw [if_pos q27]
          first | have hx_28 := i32_hi (u17) | skip
          first | have hx_29 := i32_lo (u17) | skip
          first | have f30 : (u17 : Int32).toInt = (0 : Int32).toInt := congrArg Int32.toInt q27 | skip
          exact ⟨_, rfl, S_r6⟩
        · rw [if_neg q27]
          first | have hx_31 := i32_hi (u17) | skip
          first | have hx_32 := i32_lo (u17) | skip
          first | have f33 : (u17 : Int32).toInt ≠ (0 : Int32).toInt := ti_ne q27 | skip
          exact ⟨_, rfl, S_r6⟩
      · rw [if_neg q18]
        have b34 : 0 ≤ (r6.1 93 0 (0 : Int32).toNatClampNeg).toInt ∧ (r6.1 93 0 (0 : Int32).toNatClampNeg).toInt ≤ 48 := (S_r6).1 93 0 ((0 : Int32).toNatClampNeg)
        have b35 : 0 ≤ (r6.1 93 0 (1 : Int32).toNatClampNeg).toInt ∧ (r6.1 93 0 (1 : Int32).toNatClampNeg).toInt ≤ 48 := (S_r6).1 93 0 ((1 : Int32).toNatClampNeg)
        first | have hx_36 := i32_hi (r6.1 93 0 (0 : Int32).toNatClampNeg) | skip
        first | have hx_37 := i32_lo (r6.1 93 0 (0 : Int32).toNatClampNeg) | skip
        first | have hx_38 := i32_hi (r6.1 93 0 (1 : Int32).toNatClampNeg) | skip
        first | have hx_39 := i32_lo (r6.1 93 0 (1 : Int32).toNatClampNeg) | skip
        first | have f40 : (r6.1 93 0 (0 : Int32).toNatClampNeg : Int32).toInt ≠ (r6.1 93 0 (1 : Int32).toNatClampNeg : Int32).toInt := ti_ne q18 | skip
        refine z_X12_same_54 _   r6 S_r6  (fun u13 u14 y41 => ?_)  mFu 0 0 (by omega) (by have := mFu_big; omega)
        try dsimp only
        by_cases q42 : u13 = 0
        · rw [if_pos q42]
          first | have hx_43 := i32_hi (u13) | skip
          first | have hx_44 := i32_lo (u13) | skip
          first | have f45 : (u13 : Int32).toInt = (0 : Int32).toInt := congrArg Int32.toInt q42 | skip
          exact ⟨_, rfl, S_r6⟩
        · rw [if_neg q42]
          first | have hx_46 := i32_hi (u13) | skip
          first | have hx_47 := i32_lo (u13) | skip
          first | have f48 : (u13 : Int32).toInt ≠ (0 : Int32).toInt := ti_ne q42 | skip
          exact ⟨_, rfl, S_r6⟩
def W_X12_power : List Nat := [791, 798, 802, 803, 804, 805, 806, 4032, 4096, 4160, 4224, 4288, 4352, 9999]
set_option maxHeartbeats 400000 in
theorem z_X12_power {fp : Nat → Bool} {b : mH} {m : Nat}  (h : mH) (S : SI fp b m h) (ff : ∀ c ∈ W_X12_power, fp c = false)  : ∃ r, f_X12_power h = some r ∧ SI fp b m r.2 := by
  have ff_X12_powers : ∀ c ∈ W_X12_powers, fp c = false := fun c hc => ff c ((by decide : ∀ c ∈ W_X12_powers, c ∈ W_X12_power) c hc)
  unfold f_X12_power
  obtain ⟨r1, e_r1, S_r1⟩ := z_X12_powers  h S ff_X12_powers 
  rw [e_r1, Option.bind_some]
  exact ⟨_, rfl, S_r1⟩
def W_X12_comes : List Nat := [798, 4416, 4480, 4544]
set_option maxHeartbeats 400000 in
theorem z_X12_comes {fp : Nat → Bool} {b : mH} {m : Nat} (x1 : Int32) (x2 : Int32) (x3 : Int32) (h : mH) (S : SI fp b m h) (ff : ∀ c ∈ W_X12_comes, fp c = false) (pr0 : (h.1 12 0 30).toInt < 16) (pr1 : (0 ≤ x1.toInt ∧ x1.toInt < 24)) : ∃ r, f_X12_comes x1 x2 x3 h = some r ∧ SI fp b m r := by
  have w798 : fp 798 = false := ff 798 (by decide)
  have w4416 : fp 4416 = false := ff 4416 (by decide)
  have w4480 : fp 4480 = false := ff 4480 (by decide)
  have w4544 : fp 4544 = false := ff 4544 (by decide)
  unfold f_X12_comes
  have b1 : 0 ≤ (h.1 12 0 30).toInt ∧ (h.1 12 0 30).toInt ≤ 16 := (S).1 12 0 30
  have q2 : mIn (h.1 12 0 30) 17 = true := (mIn_bd (by omega) (by omega))
  rw [if_pos q2]
  have w_3 : 0 ≤ (x1 : Int32).toInt ∧ (x1 : Int32).toInt ≤ 23 := by omega
  refine let_ex (fun h2 e_h2 => ?_)
  have S_h2 : SI fp b m h2 := e_h2 ▸ (SI.u S rfl w4416 w_3)
  have b4 : 0 ≤ (h2.1 12 0 30).toInt ∧ (h2.1 12 0 30).toInt ≤ 16 := (S_h2).1 12 0 30
  have l5 : (h2.1 12 0 30).toInt = (h.1 12 0 30).toInt := by rw [← e_h2, uI_t _ rfl]
  have q6 : mIn (h2.1 12 0 30) 17 = true := (mIn_bd (by omega) (by omega))
  rw [if_pos q6]
  refine let_ex (fun h4 e_h4 => ?_)
  have S_h4 : SI fp b m h4 := e_h4 ▸ (SI.f S_h2 rfl w4480 rfl)
  have b7 : 0 ≤ (h4.1 12 0 30).toInt ∧ (h4.1 12 0 30).toInt ≤ 16 := (S_h4).1 12 0 30
  have l8 : (h4.1 12 0 30).toInt = (h2.1 12 0 30).toInt := by rw [← e_h4, uI_t _ rfl]
  have q9 : mIn (h4.1 12 0 30) 17 = true := (mIn_bd (by omega) (by omega))
  rw [if_pos q9]
  refine let_ex (fun h6 e_h6 => ?_)
  have S_h6 : SI fp b m h6 := e_h6 ▸ (SI.f S_h4 rfl w4544 rfl)
  have b10 : 0 ≤ (h6.1 12 0 30).toInt ∧ (h6.1 12 0 30).toInt ≤ 16 := (S_h6).1 12 0 30
  have l11 : (h6.1 12 0 30).toInt = (h4.1 12 0 30).toInt := by rw [← e_h6, uI_t _ rfl]
  have t12 : (1 : Int32).toInt = 1 := by decide
  first | have o13 : ((h6.1 12 0 30) + 1 : Int32).toInt = (h6.1 12 0 30 : Int32).toInt + (1 : Int32).toInt := ti_add (by omega) (by omega) | skip
  have w_14 : 0 ≤ ((h6.1 12 0 30) + 1 : Int32).toInt ∧ ((h6.1 12 0 30) + 1 : Int32).toInt ≤ 16 := by omega
  exact ⟨_, rfl, (SI.u S_h6 rfl w798 w_14)⟩
set_option maxHeartbeats 400000 in
theorem y_X12_comes {fp : Nat → Bool} {b : mH} {m : Nat} (x1 : Int32) (x2 : Int32) (x3 : Int32) (h : mH) (S : SI fp b m h) (ff : ∀ c ∈ W_X12_comes, fp c = false) (pr0 : (h.1 12 0 30).toInt < 16) (pr1 : (0 ≤ x1.toInt ∧ x1.toInt < 24)) : ∃ r, f_X12_comes x1 x2 x3 h = some r ∧ SI fp b m r ∧ fz (fun c => !(W_X12_comes.contains c)) h r := by
  obtain ⟨r, e1, s1⟩ := z_X12_comes (fp := fun c => fp c || !(W_X12_comes.contains c)) (b := h) (m := 0) x1 x2 x3 h (S.re _) (fun c hc => Bool.or_eq_false_iff.mpr ⟨ff c hc, by rw [List.contains_iff_mem.mpr hc]; rfl⟩) pr0 pr1
  refine ⟨r, e1, SI.mono (S.back s1 (fun c hc => Bool.or_eq_true_iff.mpr (Or.inl hc))) (by omega), fun t i k hc => s1.2.2.1 t i k (Bool.or_eq_true_iff.mpr (Or.inr hc))⟩
def W_X12_event : List Nat := [798, 4416, 4480, 4544]
set_option maxHeartbeats 400000 in
theorem z_X12_event {fp : Nat → Bool} {b : mH} {m : Nat} (x1 : Int32) (x2 : Int32) (x3 : Int32) (h : mH) (S : SI fp b m h) (ff : ∀ c ∈ W_X12_event, fp c = false)  : ∃ r, f_X12_event x1 x2 x3 h = some r ∧ SI fp b m r.2 := by
  have ff_X12_comes : ∀ c ∈ W_X12_comes, fp c = false := fun c hc => ff c ((by decide : ∀ c ∈ W_X12_comes, c ∈ W_X12_event) c hc)
  unfold f_X12_event
  obtain ⟨⟨r1v, r1h⟩, e_r1, (hh_r1 : r1h = h), p_r1_0, p_r1_1⟩ := z_X12_isField x1 h S  
  replace hh_r1 := hh_r1.symm
  subst hh_r1
  dsimp only at p_r1_0 p_r1_1
  have bb_r1 := bool_bd p_r1_0
  rw [e_r1, Option.bind_some]
  try dsimp only
  by_cases q1 : r1v = 0
  · rw [if_pos q1]
    have t2 : (0 : Int32).toInt = 0 := by decide
    first | have hx_3 := i32_hi (r1v) | skip
    first | have hx_4 := i32_lo (r1v) | skip
    first | have f5 : (r1v : Int32).toInt = (0 : Int32).toInt := congrArg Int32.toInt q1 | skip
    exact ⟨_, rfl, S⟩
  · rw [if_neg q1]
    have t6 : (0 : Int32).toInt = 0 := by decide
    first | have hx_7 := i32_hi (r1v) | skip
    first | have hx_8 := i32_lo (r1v) | skip
    first | have f9 : (r1v : Int32).toInt ≠ (0 : Int32).toInt := ti_ne q1 | skip
    obtain ⟨⟨r3v, r3h⟩, e_r3, (hh_r3 : r3h = h)⟩ := z_X12_most x1 h S  (by omega)
    replace hh_r3 := hh_r3.symm
    subst hh_r3
    rw [e_r3, Option.bind_some]
    try dsimp only
    obtain ⟨⟨r4v, r4h⟩, e_r4, (hh_r4 : r4h = h), p_r4_0, p_r4_1⟩ := z_X12_in x2 0 r3v h S  
    replace hh_r4 := hh_r4.symm
    subst hh_r4
    dsimp only at p_r4_0 p_r4_1
    have bb_r4 := bool_bd p_r4_0
    rw [e_r4, Option.bind_some]
    try dsimp only
    by_cases q10 : r4v = 0
    · rw [if_pos q10]
      first | have hx_11 := i32_hi (r4v) | skip
      first | have hx_12 := i32_lo (r4v) | skip
      first | have f13 : (r4v : Int32).toInt = (0 : Int32).toInt := congrArg Int32.toInt q10 | skip
      exact ⟨_, rfl, S⟩
    · rw [if_neg q10]
      first | have hx_14 := i32_hi (r4v) | skip
      first | have hx_15 := i32_lo (r4v) | skip
      first | have f16 : (r4v : Int32).toInt ≠ (0 : Int32).toInt := ti_ne q10 | skip
      by_cases q17 : x3 ≤ 9999
      · rw [if_pos q17]
        have t18 : (9999 : Int32).toInt = 9999 := by decide
        first | have hx_19 := i32_hi (x3) | skip
        first | have hx_20 := i32_lo (x3) | skip
        first | have f21 : (x3 : Int32).toInt ≤ (9999 : Int32).toInt := Int32.le_iff_toInt_le.mp q17 | skip
        have q22 : mIn x1 24 = true := (mIn_bd (by omega) (by omega))
        rw [if_pos q22]
        have t23 : (1 : Int32).toInt = 1 := by decide
        have t24 : (3 : Int32).toInt = 3 := by decide
        obtain ⟨⟨r8v, r8h⟩, e_r8, (hh_r8 : r8h = h), p_r8_0, p_r8_1⟩ := z_X12_in (h.1 49 0 x1.toNatClampNeg) 1 3 h S  
        replace hh_r8 := hh_r8.symm
        subst hh_r8
        dsimp only at p_r8_0 p_r8_1
        have bb_r8 := bool_bd p_r8_0
        rw [e_r8, Option.bind_some]
        try dsimp only
        by_cases q25 : r8v = 0
        · rw [if_pos q25]
          first | have hx_26 := i32_hi (r8v) | skip
          first | have hx_27 := i32_lo (r8v) | skip
          first | have f28 : (r8v : Int32).toInt = (0 : Int32).toInt := congrArg Int32.toInt q25 | skip
          exact ⟨_, rfl, S⟩
        · rw [if_neg q25]
          first | have hx_29 := i32_hi (r8v) | skip
          first | have hx_30 := i32_lo (r8v) | skip
          first | have f31 : (r8v : Int32).toInt ≠ (0 : Int32).toInt := ti_ne q25 | skip
          by_cases q32 : x3 ≤ (h.1 12 0 23)
          · rw [if_pos q32]
            first | have hx_33 := i32_hi (h.1 12 0 23) | skip
            first | have hx_34 := i32_lo (h.1 12 0 23) | skip
            first | have f35 : (x3 : Int32).toInt ≤ (h.1 12 0 23 : Int32).toInt := Int32.le_iff_toInt_le.mp q32 | skip
            exact ⟨_, rfl, S⟩
          · rw [if_neg q32]
            first | have hx_36 := i32_hi (h.1 12 0 23) | skip
            first | have hx_37 := i32_lo (h.1 12 0 23) | skip
            first | have f38 : (h.1 12 0 23 : Int32).toInt < (x3 : Int32).toInt := Int32.lt_iff_toInt_lt.mp (Int32.not_le.mp q32) | skip
            by_cases q39 : (h.1 12 0 30) = 16
            · rw [if_pos q39]
              have b40 : 0 ≤ (h.1 12 0 30).toInt ∧ (h.1 12 0 30).toInt ≤ 16 := (S).1 12 0 30
              have t41 : (16 : Int32).toInt = 16 := by decide
              first | have hx_42 := i32_hi (h.1 12 0 30) | skip
              first | have hx_43 := i32_lo (h.1 12 0 30) | skip
              first | have f44 : (h.1 12 0 30 : Int32).toInt = (16 : Int32).toInt := congrArg Int32.toInt q39 | skip
              exact ⟨_, rfl, S⟩
            · rw [if_neg q39]
              have b45 : 0 ≤ (h.1 12 0 30).toInt ∧ (h.1 12 0 30).toInt ≤ 16 := (S).1 12 0 30
              have t46 : (16 : Int32).toInt = 16 := by decide
              first | have hx_47 := i32_hi (h.1 12 0 30) | skip
              first | have hx_48 := i32_lo (h.1 12 0 30) | skip
              first | have f49 : (h.1 12 0 30 : Int32).toInt ≠ (16 : Int32).toInt := ti_ne q39 | skip
              obtain ⟨r12, e_r12, S_r12, fr_r12⟩ := y_X12_comes x1 x2 x3 h S ff_X12_comes (by omega) (by omega)
              rw [e_r12, Option.bind_some]
              exact ⟨_, rfl, S_r12⟩
      · rw [if_neg q17]
        have t50 : (9999 : Int32).toInt = 9999 := by decide
        first | have hx_51 := i32_hi (x3) | skip
        first | have hx_52 := i32_lo (x3) | skip
        first | have f53 : (9999 : Int32).toInt < (x3 : Int32).toInt := Int32.lt_iff_toInt_lt.mp (Int32.not_le.mp q17) | skip
        exact ⟨_, rfl, S⟩
set_option maxHeartbeats 400000 in
theorem z_X12_flagUp_2 {fp : Nat → Bool} {b : mH} {m : Nat} {P : Int32 × mH → Prop} (k : Int32 → mH → Option (Int32 × mH))   (h : mH) (S : SI fp b m h)  (hk : ∀ (v1 : Int32), 0 ≤ v1.toInt → ∃ r, k v1 h = some r ∧ P r) (he : ∀ rv : Int32, (rv.toInt = -1 ∨ (0 ≤ rv.toInt ∧ rv.toInt < 24 ∧ 0 ≤ (h.1 53 0 rv.toNatClampNeg).toInt)) → P (rv, h)) : ∀ (n : Nat) (v1 : Int32), 0 ≤ v1.toInt → 2147483648 - v1.toInt < n → ∃ r, f_X12_flagUp_2 k  n v1 h = some r ∧ P r := by
  intro n
  induction n with
  | zero =>
    intro v1 iv0 hm
    have hz := i32_hi v1
    omega
  | succ n ih =>
    intro v1 iv0 hm
    rw [f_X12_flagUp_2]
    by_cases q1 : v1 < (h.1 12 0 2)
    · rw [if_pos q1]
      have b2 : 0 ≤ (h.1 12 0 2).toInt ∧ (h.1 12 0 2).toInt ≤ 24 := (S).1 12 0 2
      first | have hx_3 := i32_hi (v1) | skip
      first | have hx_4 := i32_lo (v1) | skip
      first | have hx_5 := i32_hi (h.1 12 0 2) | skip
      first | have hx_6 := i32_lo (h.1 12 0 2) | skip
      first | have f7 : (v1 : Int32).toInt < (h.1 12 0 2 : Int32).toInt := Int32.lt_iff_toInt_lt.mp q1 | skip
      have q8 : mIn v1 24 = true := (mIn_bd (by omega) (by omega))
      rw [if_pos q8]
      by_cases q9 : (h.1 49 0 v1.toNatClampNeg) = 2
      · rw [if_pos q9]
        have t10 : (2 : Int32).toInt = 2 := by decide
        first | have hx_11 := i32_hi (h.1 49 0 v1.toNatClampNeg) | skip
        first | have hx_12 := i32_lo (h.1 49 0 v1.toNatClampNeg) | skip
        first | have f13 : (h.1 49 0 v1.toNatClampNeg : Int32).toInt = (2 : Int32).toInt := congrArg Int32.toInt q9 | skip
        by_cases q14 : (h.1 53 0 v1.toNatClampNeg) = (-1)
        · rw [if_pos q14]
          have b15 : -1 ≤ (h.1 53 0 v1.toNatClampNeg).toInt ∧ (h.1 53 0 v1.toNatClampNeg).toInt ≤ 5 := (S).1 53 0 v1.toNatClampNeg
          have t16 : ((-1) : Int32).toInt = (-1) := by decide
          first | have hx_17 := i32_hi (h.1 53 0 v1.toNatClampNeg) | skip
          first | have hx_18 := i32_lo (h.1 53 0 v1.toNatClampNeg) | skip
          first | have f19 : (h.1 53 0 v1.toNatClampNeg : Int32).toInt = (-1 : Int32).toInt := congrArg Int32.toInt q14 | skip
          have t20 : (1 : Int32).toInt = 1 := by decide
          first | have o21 : (v1 + 1 : Int32).toInt = (v1 : Int32).toInt + (1 : Int32).toInt := ti_add (by omega) (by omega) | skip
          exact ih (v1 + 1) (by omega) (by omega)
        · rw [if_neg q14]
          have b22 : -1 ≤ (h.1 53 0 v1.toNatClampNeg).toInt ∧ (h.1 53 0 v1.toNatClampNeg).toInt ≤ 5 := (S).1 53 0 v1.toNatClampNeg
          have t23 : ((-1) : Int32).toInt = (-1) := by decide
          first | have hx_24 := i32_hi (h.1 53 0 v1.toNatClampNeg) | skip
          first | have hx_25 := i32_lo (h.1 53 0 v1.toNatClampNeg) | skip
          first | have f26 : (h.1 53 0 v1.toNatClampNeg : Int32).toInt ≠ (-1 : Int32).toInt := ti_ne q14 | skip
          by_cases q27 : (h.1 63 0 v1.toNatClampNeg) = 0
          · rw [if_pos q27]
            have t28 : (0 : Int32).toInt = 0 := by decide
            first | have hx_29 := i32_hi (h.1 63 0 v1.toNatClampNeg) | skip
            first | have hx_30 := i32_lo (h.1 63 0 v1.toNatClampNeg) | skip
            first | have f31 : (h.1 63 0 v1.toNatClampNeg : Int32).toInt = (0 : Int32).toInt := congrArg Int32.toInt q27 | skip
            have t32 : (1 : Int32).toInt = 1 := by decide
            first | have o33 : (v1 + 1 : Int32).toInt = (v1 : Int32).toInt + (1 : Int32).toInt := ti_add (by omega) (by omega) | skip
            exact ih (v1 + 1) (by omega) (by omega)
          · rw [if_neg q27]
            have t34 : (0 : Int32).toInt = 0 := by decide
            first | have hx_35 := i32_hi (h.1 63 0 v1.toNatClampNeg) | skip
            first | have hx_36 := i32_lo (h.1 63 0 v1.toNatClampNeg) | skip
            first | have f37 : (h.1 63 0 v1.toNatClampNeg : Int32).toInt ≠ (0 : Int32).toInt := ti_ne q27 | skip
            have pp38 : (v1.toInt = -1 ∨ (0 ≤ v1.toInt ∧ v1.toInt < 24 ∧ 0 ≤ (h.1 53 0 v1.toNatClampNeg).toInt)) := by omega
            exact ⟨_, rfl, he v1 pp38⟩
      · rw [if_neg q9]
        have t39 : (2 : Int32).toInt = 2 := by decide
        first | have hx_40 := i32_hi (h.1 49 0 v1.toNatClampNeg) | skip
        first | have hx_41 := i32_lo (h.1 49 0 v1.toNatClampNeg) | skip
        first | have f42 : (h.1 49 0 v1.toNatClampNeg : Int32).toInt ≠ (2 : Int32).toInt := ti_ne q9 | skip
        have t43 : (1 : Int32).toInt = 1 := by decide
        first | have o44 : (v1 + 1 : Int32).toInt = (v1 : Int32).toInt + (1 : Int32).toInt := ti_add (by omega) (by omega) | skip
        exact ih (v1 + 1) (by omega) (by omega)
    · rw [if_neg q1]
      have b45 : 0 ≤ (h.1 12 0 2).toInt ∧ (h.1 12 0 2).toInt ≤ 24 := (S).1 12 0 2
      first | have hx_46 := i32_hi (v1) | skip
      first | have hx_47 := i32_lo (v1) | skip
      first | have hx_48 := i32_hi (h.1 12 0 2) | skip
      first | have hx_49 := i32_lo (h.1 12 0 2) | skip
      first | have f50 : (h.1 12 0 2 : Int32).toInt ≤ (v1 : Int32).toInt := Int32.le_iff_toInt_le.mp (Int32.not_lt.mp q1) | skip
      exact hk v1 iv0
set_option maxHeartbeats 400000 in
theorem z_X12_flagUp {fp : Nat → Bool} {b : mH} {m : Nat}  (h : mH) (S : SI fp b m h)   : ∃ r, f_X12_flagUp h = some r ∧ r.2 = h ∧ (r.1.toInt = -1 ∨ (0 ≤ r.1.toInt ∧ r.1.toInt < 24 ∧ 0 ≤ (h.1 53 0 r.1.toNatClampNeg).toInt)) := by
  unfold f_X12_flagUp
  have t1 : (0 : Int32).toInt = 0 := by decide
  refine z_X12_flagUp_2 _   h S  (fun u6 y2 => ?_) (fun rv hp0 => ⟨rfl, hp0⟩) mFu 0 (by omega) (by have := mFu_big; omega)
  try dsimp only
  have t3 : ((-1) : Int32).toInt = (-1) := by decide
  have b4 : -1 ≤ (h.1 53 0 (-1 : Int32).toNatClampNeg).toInt ∧ (h.1 53 0 (-1 : Int32).toNatClampNeg).toInt ≤ 5 := (S).1 53 0 ((-1 : Int32).toNatClampNeg)
  have pp5 : ((-1 : Int32).toInt = -1 ∨ (0 ≤ (-1 : Int32).toInt ∧ (-1 : Int32).toInt < 24 ∧ 0 ≤ (h.1 53 0 (-1 : Int32).toNatClampNeg).toInt)) := by omega
  exact ⟨_, rfl, rfl, pp5⟩
set_option maxHeartbeats 400000 in
theorem z_X12_puts_82 {fp : Nat → Bool} {b : mH} {m : Nat} {P : mH → Prop} (k : Int32 → Int32 → Int32 → Int32 → mH → Option (mH))  (v3 : Int32) (v5 : Int32) (h : mH) (S : SI fp b m h)  (hk : ∀ (v6 : Int32) (v7 : Int32), 0 ≤ v7.toInt → ∃ r, k v3 v5 v6 v7 h = some r ∧ P r) : ∀ (n : Nat) (v6 : Int32) (v7 : Int32), 0 ≤ v7.toInt → 2147483648 - v7.toInt < n → ∃ r, f_X12_puts_82 k  n v3 v5 v6 v7 h = some r ∧ P r := by
  intro n
  induction n with
  | zero =>
    intro v6 v7 iv0 hm
    have hz := i32_hi v7
    omega
  | succ n ih =>
    intro v6 v7 iv0 hm
    rw [f_X12_puts_82]
    by_cases q1 : v7 < (h.1 12 0 2)
    · rw [if_pos q1]
      have b2 : 0 ≤ (h.1 12 0 2).toInt ∧ (h.1 12 0 2).toInt ≤ 24 := (S).1 12 0 2
      first | have hx_3 := i32_hi (v7) | skip
      first | have hx_4 := i32_lo (v7) | skip
      first | have hx_5 := i32_hi (h.1 12 0 2) | skip
      first | have hx_6 := i32_lo (h.1 12 0 2) | skip
      first | have f7 : (v7 : Int32).toInt < (h.1 12 0 2 : Int32).toInt := Int32.lt_iff_toInt_lt.mp q1 | skip
      have q8 : mIn v7 24 = true := (mIn_bd (by omega) (by omega))
      rw [if_pos q8]
      by_cases q9 : (h.1 46 0 v7.toNatClampNeg) = v3
      · rw [if_pos q9]
        have b10 : 0 ≤ (h.1 46 0 v7.toNatClampNeg).toInt ∧ (h.1 46 0 v7.toNatClampNeg).toInt ≤ 7 := (S).1 46 0 v7.toNatClampNeg
        first | have hx_11 := i32_hi (h.1 46 0 v7.toNatClampNeg) | skip
        first | have hx_12 := i32_lo (h.1 46 0 v7.toNatClampNeg) | skip
        first | have hx_13 := i32_hi (v3) | skip
        first | have hx_14 := i32_lo (v3) | skip
        first | have f15 : (h.1 46 0 v7.toNatClampNeg : Int32).toInt = (v3 : Int32).toInt := congrArg Int32.toInt q9 | skip
        by_cases q16 : (h.1 49 0 v7.toNatClampNeg) = 0
        · rw [if_pos q16]
          have t17 : (0 : Int32).toInt = 0 := by decide
          first | have hx_18 := i32_hi (h.1 49 0 v7.toNatClampNeg) | skip
          first | have hx_19 := i32_lo (h.1 49 0 v7.toNatClampNeg) | skip
          first | have f20 : (h.1 49 0 v7.toNatClampNeg : Int32).toInt = (0 : Int32).toInt := congrArg Int32.toInt q16 | skip
          obtain ⟨⟨r11v, r11h⟩, e_r11, (hh_r11 : r11h = h)⟩ := z_X12_mask v7 h S  (by omega)
          replace hh_r11 := hh_r11.symm
          subst hh_r11
          rw [e_r11, Option.bind_some]
          try dsimp only
          have t21 : (1 : Int32).toInt = 1 := by decide
          first | have o22 : (v7 + 1 : Int32).toInt = (v7 : Int32).toInt + (1 : Int32).toInt := ti_add (by omega) (by omega) | skip
          exact ih (v6 ||| r11v) (v7 + 1) (by omega) (by omega)
        · rw [if_neg q16]
          have t23 : (0 : Int32).toInt = 0 := by decide
          first | have hx_24 := i32_hi (h.1 49 0 v7.toNatClampNeg) | skip
          first | have hx_25 := i32_lo (h.1 49 0 v7.toNatClampNeg) | skip
          first | have f26 : (h.1 49 0 v7.toNatClampNeg : Int32).toInt ≠ (0 : Int32).toInt := ti_ne q16 | skip
          by_cases q27 : (h.1 49 0 v7.toNatClampNeg) = 5
          · rw [if_pos q27]
            have t28 : (5 : Int32).toInt = 5 := by decide
            first | have f29 : (h.1 49 0 v7.toNatClampNeg : Int32).toInt = (5 : Int32).toInt := congrArg Int32.toInt q27 | skip
            obtain ⟨⟨r13v, r13h⟩, e_r13, (hh_r13 : r13h = h)⟩ := z_X12_mask v7 h S  (by omega)
            replace hh_r13 := hh_r13.symm
            subst hh_r13
            rw [e_r13, Option.bind_some]
            try dsimp only
            have t30 : (1 : Int32).toInt = 1 := by decide
            first | have o31 : (v7 + 1 : Int32).toInt = (v7 : Int32).toInt + (1 : Int32).toInt := ti_add (by omega) (by omega) | skip
            exact ih (v6 ||| r13v) (v7 + 1) (by omega) (by omega)
          · rw [if_neg q27]
            have t32 : (5 : Int32).toInt = 5 := by decide
            first | have f33 : (h.1 49 0 v7.toNatClampNeg : Int32).toInt ≠ (5 : Int32).toInt := ti_ne q27 | skip
            have t34 : (1 : Int32).toInt = 1 := by decide
            first | have o35 : (v7 + 1 : Int32).toInt = (v7 : Int32).toInt + (1 : Int32).toInt := ti_add (by omega) (by omega) | skip
            exact ih (v6 ||| 0) (v7 + 1) (by omega) (by omega)
      · rw [if_neg q9]
        have b36 : 0 ≤ (h.1 46 0 v7.toNatClampNeg).toInt ∧ (h.1 46 0 v7.toNatClampNeg).toInt ≤ 7 := (S).1 46 0 v7.toNatClampNeg
        first | have hx_37 := i32_hi (h.1 46 0 v7.toNatClampNeg) | skip
        first | have hx_38 := i32_lo (h.1 46 0 v7.toNatClampNeg) | skip
        first | have hx_39 := i32_hi (v3) | skip
        first | have hx_40 := i32_lo (v3) | skip
        first | have f41 : (h.1 46 0 v7.toNatClampNeg : Int32).toInt ≠ (v3 : Int32).toInt := ti_ne q9 | skip
        have t42 : (1 : Int32).toInt = 1 := by decide
        first | have o43 : (v7 + 1 : Int32).toInt = (v7 : Int32).toInt + (1 : Int32).toInt := ti_add (by omega) (by omega) | skip
        exact ih (v6 ||| 0) (v7 + 1) (by omega) (by omega)
    · rw [if_neg q1]
      have b44 : 0 ≤ (h.1 12 0 2).toInt ∧ (h.1 12 0 2).toInt ≤ 24 := (S).1 12 0 2
      first | have hx_45 := i32_hi (v7) | skip
      first | have hx_46 := i32_lo (v7) | skip
      first | have hx_47 := i32_hi (h.1 12 0 2) | skip
      first | have hx_48 := i32_lo (h.1 12 0 2) | skip
      first | have f49 : (h.1 12 0 2 : Int32).toInt ≤ (v7 : Int32).toInt := Int32.le_iff_toInt_le.mp (Int32.not_lt.mp q1) | skip
      exact hk v6 v7 iv0
def W_X12_puts : List Nat := [791, 798, 802, 803, 804, 4032, 4096, 4160, 4288, 4352, 4416, 4480, 4544, 5888]
set_option maxHeartbeats 400000 in
theorem z_X12_puts {fp : Nat → Bool} {b : mH} {m : Nat} (x1 : Int32) (x2 : Int32) (h : mH) (S : SI fp b m h) (ff : ∀ c ∈ W_X12_puts, fp c = false) (pr0 : (0 ≤ x1.toInt ∧ x1.toInt ≤ 1)) (pr1 : (0 ≤ x2.toInt ∧ x2.toInt ≤ 594)) (pr2 : (0 ≤ (h.1 94 0 (x2 + 1).toNatClampNeg).toInt ∧ (h.1 94 0 (x2 + 1).toNatClampNeg).toInt ≤ 7)) : ∃ r, f_X12_puts x1 x2 h = some r ∧ SI fp b (m + 1) r := by
  have ff_X12_ticks : ∀ c ∈ W_X12_ticks, fp c = false := fun c hc => ff c ((by decide : ∀ c ∈ W_X12_ticks, c ∈ W_X12_puts) c hc)
  have ff_X12_writes : ∀ c ∈ W_X12_writes, fp c = false := fun c hc => ff c ((by decide : ∀ c ∈ W_X12_writes, c ∈ W_X12_puts) c hc)
  have w4352 : fp 4352 = false := ff 4352 (by decide)
  unfold f_X12_puts
  have t1 : (1 : Int32).toInt = 1 := by decide
  first | have o2 : (x2 + 1 : Int32).toInt = (x2 : Int32).toInt + (1 : Int32).toInt := ti_add (by omega) (by omega) | skip
  have q3 : mIn (x2 + 1) 600 = true := (mIn_bd (by omega) (by omega))
  rw [if_pos q3]
  have t4 : (2 : Int32).toInt = 2 := by decide
  first | have o5 : (x2 + 2 : Int32).toInt = (x2 : Int32).toInt + (2 : Int32).toInt := ti_add (by omega) (by omega) | skip
  have q6 : mIn (x2 + 2) 600 = true := (mIn_bd (by omega) (by omega))
  rw [if_pos q6]
  by_cases q7 : (h.1 94 0 (x2 + 2).toNatClampNeg) = 1
  · rw [if_pos q7]
    first | have hx_8 := i32_hi (h.1 94 0 (x2 + 2).toNatClampNeg) | skip
    first | have hx_9 := i32_lo (h.1 94 0 (x2 + 2).toNatClampNeg) | skip
    first | have f10 : (h.1 94 0 (x2 + 2).toNatClampNeg : Int32).toInt = (1 : Int32).toInt := congrArg Int32.toInt q7 | skip
    have q11 : mIn x1 2 = true := (mIn_bd (by omega) (by omega))
    rw [if_pos q11]
    have t12 : (4 : Int32).toInt = 4 := by decide
    first | have o13 : (x2 + 4 : Int32).toInt = (x2 : Int32).toInt + (4 : Int32).toInt := ti_add (by omega) (by omega) | skip
    have q14 : mIn (x2 + 4) 600 = true := (mIn_bd (by omega) (by omega))
    rw [if_pos q14]
    have t15 : (3 : Int32).toInt = 3 := by decide
    first | have o16 : (x2 + 3 : Int32).toInt = (x2 : Int32).toInt + (3 : Int32).toInt := ti_add (by omega) (by omega) | skip
    have q17 : mIn (x2 + 3) 600 = true := (mIn_bd (by omega) (by omega))
    rw [if_pos q17]
    have t18 : (0 : Int32).toInt = 0 := by decide
    refine z_X12_puts_82 _  (h.1 94 0 (x2 + 1).toNatClampNeg) ((h.1 94 0 (x2 + 4).toNatClampNeg) ||| ((h.1 95 0 x1.toNatClampNeg) &&& (h.1 94 0 (x2 + 3).toNatClampNeg))) h S  (fun u38 u39 y19 => ?_)  mFu 0 0 (by omega) (by have := mFu_big; omega)
    try dsimp only
    obtain ⟨r41, e_r41, S_r41⟩ := z_X12_writes (h.1 94 0 (x2 + 1).toNatClampNeg) ((h.1 94 0 (x2 + 4).toNatClampNeg) ||| ((h.1 95 0 x1.toNatClampNeg) &&& (h.1 94 0 (x2 + 3).toNatClampNeg))) h S ff_X12_writes 
    rw [e_r41, Option.bind_some]
    have q20 : mIn (h.1 94 0 (x2 + 1).toNatClampNeg) 8 = true := (mIn_bd (by omega) (by omega))
    rw [if_pos q20]
    obtain ⟨g21, e_g21⟩ : ∃ g, uI r41 68 0 (h.1 94 0 (x2 + 1).toNatClampNeg).toNatClampNeg (((h.1 94 0 (x2 + 4).toNatClampNeg) ||| ((h.1 95 0 x1.toNatClampNeg) &&& (h.1 94 0 (x2 + 3).toNatClampNeg))) &&& u38) = g := ⟨_, rfl⟩
    rw [e_g21]
    have S_g21 : SI fp b m g21 := e_g21 ▸ (SI.f S_r41 rfl w4352 rfl)
    obtain ⟨r43, e_r43, S_r43⟩ := z_X12_ticks  g21 S_g21 ff_X12_ticks 
    rw [e_r43, Option.bind_some]
    exact ⟨_, rfl, S_r43⟩
  · rw [if_neg q7]
    first | have hx_22 := i32_hi (h.1 94 0 (x2 + 2).toNatClampNeg) | skip
    first | have hx_23 := i32_lo (h.1 94 0 (x2 + 2).toNatClampNeg) | skip
    first | have f24 : (h.1 94 0 (x2 + 2).toNatClampNeg : Int32).toInt ≠ (1 : Int32).toInt := ti_ne q7 | skip
    by_cases q25 : (h.1 94 0 (x2 + 2).toNatClampNeg) = 2
    · rw [if_pos q25]
      first | have f26 : (h.1 94 0 (x2 + 2).toNatClampNeg : Int32).toInt = (2 : Int32).toInt := congrArg Int32.toInt q25 | skip
      have q27 : mIn (h.1 94 0 (x2 + 1).toNatClampNeg) 8 = true := (mIn_bd (by omega) (by omega))
      rw [if_pos q27]
      have t28 : (4 : Int32).toInt = 4 := by decide
      first | have o29 : (x2 + 4 : Int32).toInt = (x2 : Int32).toInt + (4 : Int32).toInt := ti_add (by omega) (by omega) | skip
      have q30 : mIn (x2 + 4) 600 = true := (mIn_bd (by omega) (by omega))
      rw [if_pos q30]
      have t31 : (3 : Int32).toInt = 3 := by decide
      first | have o32 : (x2 + 3 : Int32).toInt = (x2 : Int32).toInt + (3 : Int32).toInt := ti_add (by omega) (by omega) | skip
      have q33 : mIn (x2 + 3) 600 = true := (mIn_bd (by omega) (by omega))
      rw [if_pos q33]
      have t34 : (0 : Int32).toInt = 0 := by decide
      refine z_X12_puts_82 _  (h.1 94 0 (x2 + 1).toNatClampNeg) ((h.1 94 0 (x2 + 4).toNatClampNeg) ||| ((h.1 68 0 (h.1 94 0 (x2 + 1).toNatClampNeg).toNatClampNeg) &&& (h.1 94 0 (x2 + 3).toNatClampNeg))) h S  (fun u27 u28 y35 => ?_)  mFu 0 0 (by omega) (by have := mFu_big; omega)
      try dsimp only
      obtain ⟨r30, e_r30, S_r30⟩ := z_X12_writes (h.1 94 0 (x2 + 1).toNatClampNeg) ((h.1 94 0 (x2 + 4).toNatClampNeg) ||| ((h.1 68 0 (h.1 94 0 (x2 + 1).toNatClampNeg).toNatClampNeg) &&& (h.1 94 0 (x2 + 3).toNatClampNeg))) h S ff_X12_writes 
      rw [e_r30, Option.bind_some]
      have q36 : mIn (h.1 94 0 (x2 + 1).toNatClampNeg) 8 = true := q27
      rw [if_pos q36]
      obtain ⟨g37, e_g37⟩ : ∃ g, uI r30 68 0 (h.1 94 0 (x2 + 1).toNatClampNeg).toNatClampNeg (((h.1 94 0 (x2 + 4).toNatClampNeg) ||| ((h.1 68 0 (h.1 94 0 (x2 + 1).toNatClampNeg).toNatClampNeg) &&& (h.1 94 0 (x2 + 3).toNatClampNeg))) &&& u27) = g := ⟨_, rfl⟩
      rw [e_g37]
      have S_g37 : SI fp b m g37 := e_g37 ▸ (SI.f S_r30 rfl w4352 rfl)
      obtain ⟨r32, e_r32, S_r32⟩ := z_X12_ticks  g37 S_g37 ff_X12_ticks 
      rw [e_r32, Option.bind_some]
      exact ⟨_, rfl, S_r32⟩
    · rw [if_neg q25]
      first | have f38 : (h.1 94 0 (x2 + 2).toNatClampNeg : Int32).toInt ≠ (2 : Int32).toInt := ti_ne q25 | skip
      have t39 : (4 : Int32).toInt = 4 := by decide
      first | have o40 : (x2 + 4 : Int32).toInt = (x2 : Int32).toInt + (4 : Int32).toInt := ti_add (by omega) (by omega) | skip
      have q41 : mIn (x2 + 4) 600 = true := (mIn_bd (by omega) (by omega))
      rw [if_pos q41]
      have t42 : (3 : Int32).toInt = 3 := by decide
      first | have o43 : (x2 + 3 : Int32).toInt = (x2 : Int32).toInt + (3 : Int32).toInt := ti_add (by omega) (by omega) | skip
      have q44 : mIn (x2 + 3) 600 = true := (mIn_bd (by omega) (by omega))
      rw [if_pos q44]
      have t45 : (0 : Int32).toInt = 0 := by decide
      refine z_X12_puts_82 _  (h.1 94 0 (x2 + 1).toNatClampNeg) ((h.1 94 0 (x2 + 4).toNatClampNeg) ||| (0 &&& (h.1 94 0 (x2 + 3).toNatClampNeg))) h S  (fun u16 u17 y46 => ?_)  mFu 0 0 (by omega) (by have := mFu_big; omega)
      try dsimp only
      obtain ⟨r19, e_r19, S_r19⟩ := z_X12_writes (h.1 94 0 (x2 + 1).toNatClampNeg) ((h.1 94 0 (x2 + 4).toNatClampNeg) ||| (0 &&& (h.1 94 0 (x2 + 3).toNatClampNeg))) h S ff_X12_writes 
      rw [e_r19, Option.bind_some]
      have q47 : mIn (h.1 94 0 (x2 + 1).toNatClampNeg) 8 = true := (mIn_bd (by omega) (by omega))
      rw [if_pos q47]
      obtain ⟨g48, e_g48⟩ : ∃ g, uI r19 68 0 (h.1 94 0 (x2 + 1).toNatClampNeg).toNatClampNeg (((h.1 94 0 (x2 + 4).toNatClampNeg) ||| (0 &&& (h.1 94 0 (x2 + 3).toNatClampNeg))) &&& u16) = g := ⟨_, rfl⟩
      rw [e_g48]
      have S_g48 : SI fp b m g48 := e_g48 ▸ (SI.f S_r19 rfl w4352 rfl)
      obtain ⟨r21, e_r21, S_r21⟩ := z_X12_ticks  g48 S_g48 ff_X12_ticks 
      rw [e_r21, Option.bind_some]
      exact ⟨_, rfl, S_r21⟩
def W_X12_picks : List Nat := [806, 4224]
set_option maxHeartbeats 400000 in
theorem z_X12_picks {fp : Nat → Bool} {b : mH} {m : Nat} (x1 : Int32) (x2 : Int32) (h : mH) (S : SI fp b m h) (ff : ∀ c ∈ W_X12_picks, fp c = false) (pr0 : (0 ≤ x1.toInt ∧ x1.toInt ≤ 1)) (pr1 : (0 ≤ x2.toInt ∧ x2.toInt < 24)) : ∃ r, f_X12_picks x1 x2 h = some r ∧ SI fp b m r := by
  have w806 : fp 806 = false := ff 806 (by decide)
  have w4224 : fp 4224 = false := ff 4224 (by decide)
  unfold f_X12_picks
  have q1 : mIn x2 24 = true := (mIn_bd (by omega) (by omega))
  rw [if_pos q1]
  by_cases q2 : (h.1 49 0 x2.toNatClampNeg) = 3
  · rw [if_pos q2]
    have t3 : (3 : Int32).toInt = 3 := by decide
    first | have hx_4 := i32_hi (h.1 49 0 x2.toNatClampNeg) | skip
    first | have hx_5 := i32_lo (h.1 49 0 x2.toNatClampNeg) | skip
    first | have f6 : (h.1 49 0 x2.toNatClampNeg : Int32).toInt = (3 : Int32).toInt := congrArg Int32.toInt q2 | skip
    refine let_ex (fun h5 e_h5 => ?_)
    have S_h5 : SI fp b m h5 := e_h5 ▸ (SI.f S rfl w806 rfl)
    exact ⟨_, rfl, (SI.f S_h5 rfl w4224 rfl)⟩
  · rw [if_neg q2]
    have t7 : (3 : Int32).toInt = 3 := by decide
    first | have hx_8 := i32_hi (h.1 49 0 x2.toNatClampNeg) | skip
    first | have hx_9 := i32_lo (h.1 49 0 x2.toNatClampNeg) | skip
    first | have f10 : (h.1 49 0 x2.toNatClampNeg : Int32).toInt ≠ (3 : Int32).toInt := ti_ne q2 | skip
    have q11 : mIn x1 2 = true := (mIn_bd (by omega) (by omega))
    rw [if_pos q11]
    obtain ⟨⟨r4v, r4h⟩, e_r4, (hh_r4 : r4h = h)⟩ := z_X12_bitsOf x2 (h.1 95 0 x1.toNatClampNeg) h S  pr1
    replace hh_r4 := hh_r4.symm
    subst hh_r4
    rw [e_r4, Option.bind_some]
    try dsimp only
    exact ⟨_, rfl, (SI.f S rfl w806 rfl)⟩
def W_X12_handles_1 : List Nat := [805, 806, 835]
theorem z_X12_handles_1 {fp : Nat → Bool} {b : mH} {m : Nat} (x1 : Int32) (h : mH) (S : SI fp b m h) (ff : ∀ c ∈ W_X12_handles_1, fp c = false) (p : x1.toInt = 1) : ∃ r, f_X12_handles_1 x1 h = some r ∧ SI fp b m r := by
  have q : ¬ x1 = 0 := fun z => by
    rw [z] at p
    exact absurd p (by decide)
  have l : ∀ n, f_X12_handles_1_2 (fun _ _ h13 => some h13) (n + 1) x1 0 h = some h := fun n => by
    rw [f_X12_handles_1_2, if_neg q]
  exact ⟨h, l 8589934591, S⟩
def W_X12_polls_1_2 : List Nat := [791, 798, 805, 806, 835, 4032, 4160, 4224, 4416, 4480, 4544, 6080]
set_option maxHeartbeats 400000 in
theorem z_X12_polls_1_2 {fp : Nat → Bool} {b : mH} {m : Nat} {P : Int32 × mH → Prop} (k : Int32 → Int32 → Int32 → mH → Option (Int32 × mH))  (v1 : Int32) (v2 : Int32) (ff : ∀ c ∈ W_X12_polls_1_2, fp c = false) (cp0 : v1.toInt = 1) (cp1 : al6 v2) (cp2 : (0 ≤ v2.toInt ∧ v2.toInt ≤ 594)) (hk : ∀ (v3 : Int32) (h : mH), SI fp b (m + 1 * v3.toInt.toNat) h → 0 ≤ v3.toInt → v3.toInt ≤ 21 → ∃ r, k v1 v2 v3 h = some r ∧ P r) (he : ∀ (rv : Int32) (rh : mH), SI fp b (m + 21) rh → (rv = 0 ∨ rv = 1) → P (rv, rh)) : ∀ (n : Nat) (v3 : Int32) (h : mH), SI fp b (m + 1 * v3.toInt.toNat) h → 0 ≤ v3.toInt → v3.toInt ≤ 21 → 2147483648 - v3.toInt < n → ∃ r, f_X12_polls_1_2 k  n v1 v2 v3 h = some r ∧ P r := by
  have ff_X12_handles_1 : ∀ c ∈ W_X12_handles_1, fp c = false := fun c hc => ff c ((by decide : ∀ c ∈ W_X12_handles_1, c ∈ W_X12_polls_1_2) c hc)
  have ff_X12_reads : ∀ c ∈ W_X12_reads, fp c = false := fun c hc => ff c ((by decide : ∀ c ∈ W_X12_reads, c ∈ W_X12_polls_1_2) c hc)
  have w6080 : fp 6080 = false := ff 6080 (by decide)
  intro n
  induction n with
  | zero =>
    intro v3 h S iv0 iv1 hm
    have hz := i32_hi v3
    omega
  | succ n ih =>
    intro v3 h S iv0 iv1 hm
    rw [f_X12_polls_1_2]
    have t1 : (5 : Int32).toInt = 5 := by decide
    first | have o2 : (v2 + 5 : Int32).toInt = (v2 : Int32).toInt + (5 : Int32).toInt := ti_add (by omega) (by omega) | skip
    have q3 : mIn (v2 + 5) 600 = true := (mIn_bd (by omega) (by omega))
    rw [if_pos q3]
    by_cases q4 : v3 ≤ (h.1 94 0 (v2 + 5).toNatClampNeg)
    · rw [if_pos q4]
      have b5 := lim_ok S cp1
      first | have hx_6 := i32_hi (v3) | skip
      first | have hx_7 := i32_lo (v3) | skip
      first | have hx_8 := i32_hi (h.1 94 0 (v2 + 5).toNatClampNeg) | skip
      first | have hx_9 := i32_lo (h.1 94 0 (v2 + 5).toNatClampNeg) | skip
      first | have f10 : (v3 : Int32).toInt ≤ (h.1 94 0 (v2 + 5).toNatClampNeg : Int32).toInt := Int32.le_iff_toInt_le.mp q4 | skip
      by_cases q11 : v3 ≤ 0
      · rw [if_pos q11]
        have t12 : (0 : Int32).toInt = 0 := by decide
        first | have f13 : (v3 : Int32).toInt ≤ (0 : Int32).toInt := Int32.le_iff_toInt_le.mp q11 | skip
        have t14 : (1 : Int32).toInt = 1 := by decide
        first | have o15 : (v2 + 1 : Int32).toInt = (v2 : Int32).toInt + (1 : Int32).toInt := ti_add (by omega) (by omega) | skip
        have q16 : mIn (v2 + 1) 600 = true := (mIn_bd (by omega) (by omega))
        rw [if_pos q16]
        obtain ⟨r5, e_r5, S_r5⟩ := z_X12_reads (h.1 94 0 (v2 + 1).toNatClampNeg) 1 h S ff_X12_reads 
        rw [e_r5, Option.bind_some]
        have q17 : mIn v1 2 = true := (mIn_bd (by omega) (by omega))
        rw [if_pos q17]
        refine let_ex (fun h7 e_h7 => ?_)
        have S_h7 : SI fp b ((m + 1 * v3.toInt.toNat) + 1) h7 := e_h7 ▸ (SI.f S_r5 rfl w6080 rfl)
        have t18 : (3 : Int32).toInt = 3 := by decide
        first | have o19 : (v2 + 3 : Int32).toInt = (v2 : Int32).toInt + (3 : Int32).toInt := ti_add (by omega) (by omega) | skip
        have q20 : mIn (v2 + 3) 600 = true := (mIn_bd (by omega) (by omega))
        rw [if_pos q20]
        have t21 : (4 : Int32).toInt = 4 := by decide
        first | have o22 : (v2 + 4 : Int32).toInt = (v2 : Int32).toInt + (4 : Int32).toInt := ti_add (by omega) (by omega) | skip
        have q23 : mIn (v2 + 4) 600 = true := (mIn_bd (by omega) (by omega))
        rw [if_pos q23]
        by_cases q24 : ((h7.1 95 0 v1.toNatClampNeg) &&& (h7.1 94 0 (v2 + 3).toNatClampNeg)) = (h7.1 94 0 (v2 + 4).toNatClampNeg)
        · rw [if_pos q24]
          have l25 : (h7.1 94 0 (v2 + 4).toNatClampNeg).toInt = (r5.2.1 94 0 ((v2 + 4).toNatClampNeg)).toInt := by rw [← e_h7, uI_t _ rfl]
          first | have hx_26 := i32_hi ((h7.1 95 0 v1.toNatClampNeg) &&& (h7.1 94 0 (v2 + 3).toNatClampNeg)) | skip
          first | have hx_27 := i32_lo ((h7.1 95 0 v1.toNatClampNeg) &&& (h7.1 94 0 (v2 + 3).toNatClampNeg)) | skip
          first | have hx_28 := i32_hi (h7.1 94 0 (v2 + 4).toNatClampNeg) | skip
          first | have hx_29 := i32_lo (h7.1 94 0 (v2 + 4).toNatClampNeg) | skip
          first | have f30 : ((h7.1 95 0 v1.toNatClampNeg) &&& (h7.1 94 0 (v2 + 3).toNatClampNeg) : Int32).toInt = (h7.1 94 0 (v2 + 4).toNatClampNeg : Int32).toInt := congrArg Int32.toInt q24 | skip
          exact ⟨_, rfl, he 0 h7 (SI.mono S_h7 (by omega)) (Or.inl rfl)⟩
        · rw [if_neg q24]
          have l31 : (h7.1 94 0 (v2 + 4).toNatClampNeg).toInt = (r5.2.1 94 0 ((v2 + 4).toNatClampNeg)).toInt := by rw [← e_h7, uI_t _ rfl]
          first | have hx_32 := i32_hi ((h7.1 95 0 v1.toNatClampNeg) &&& (h7.1 94 0 (v2 + 3).toNatClampNeg)) | skip
          first | have hx_33 := i32_lo ((h7.1 95 0 v1.toNatClampNeg) &&& (h7.1 94 0 (v2 + 3).toNatClampNeg)) | skip
          first | have hx_34 := i32_hi (h7.1 94 0 (v2 + 4).toNatClampNeg) | skip
          first | have hx_35 := i32_lo (h7.1 94 0 (v2 + 4).toNatClampNeg) | skip
          first | have f36 : ((h7.1 95 0 v1.toNatClampNeg) &&& (h7.1 94 0 (v2 + 3).toNatClampNeg) : Int32).toInt ≠ (h7.1 94 0 (v2 + 4).toNatClampNeg : Int32).toInt := ti_ne q24 | skip
          first | have o37 : (v3 + 1 : Int32).toInt = (v3 : Int32).toInt + (1 : Int32).toInt := ti_add (by omega) (by omega) | skip
          exact ih (v3 + 1) h7 (SI.mono S_h7 (by omega)) (by omega) (by omega) (by omega)
      · rw [if_neg q11]
        have t38 : (0 : Int32).toInt = 0 := by decide
        first | have f39 : (0 : Int32).toInt < (v3 : Int32).toInt := Int32.lt_iff_toInt_lt.mp (Int32.not_le.mp q11) | skip
        obtain ⟨r11, e_r11, S_r11⟩ := z_X12_handles_1 v1 h S ff_X12_handles_1 cp0
        rw [e_r11, Option.bind_some]
        have t40 : (1 : Int32).toInt = 1 := by decide
        first | have o41 : (v2 + 1 : Int32).toInt = (v2 : Int32).toInt + (1 : Int32).toInt := ti_add (by omega) (by omega) | skip
        have q42 : mIn (v2 + 1) 600 = true := (mIn_bd (by omega) (by omega))
        rw [if_pos q42]
        obtain ⟨r13, e_r13, S_r13⟩ := z_X12_reads (r11.1 94 0 (v2 + 1).toNatClampNeg) 1 r11 S_r11 ff_X12_reads 
        rw [e_r13, Option.bind_some]
        have q43 : mIn v1 2 = true := (mIn_bd (by omega) (by omega))
        rw [if_pos q43]
        refine let_ex (fun h15 e_h15 => ?_)
        have S_h15 : SI fp b ((m + 1 * v3.toInt.toNat) + 1) h15 := e_h15 ▸ (SI.f S_r13 rfl w6080 rfl)
        have t44 : (3 : Int32).toInt = 3 := by decide
        first | have o45 : (v2 + 3 : Int32).toInt = (v2 : Int32).toInt + (3 : Int32).toInt := ti_add (by omega) (by omega) | skip
        have q46 : mIn (v2 + 3) 600 = true := (mIn_bd (by omega) (by omega))
        rw [if_pos q46]
        have t47 : (4 : Int32).toInt = 4 := by decide
        first | have o48 : (v2 + 4 : Int32).toInt = (v2 : Int32).toInt + (4 : Int32).toInt := ti_add (by omega) (by omega) | skip
        have q49 : mIn (v2 + 4) 600 = true := (mIn_bd (by omega) (by omega))
        rw [if_pos q49]
        by_cases q50 : ((h15.1 95 0 v1.toNatClampNeg) &&& (h15.1 94 0 (v2 + 3).toNatClampNeg)) = (h15.1 94 0 (v2 + 4).toNatClampNeg)
        · rw [if_pos q50]
          have l51 : (h15.1 94 0 (v2 + 4).toNatClampNeg).toInt = (r13.2.1 94 0 ((v2 + 4).toNatClampNeg)).toInt := by rw [← e_h15, uI_t _ rfl]
          first | have hx_52 := i32_hi ((h15.1 95 0 v1.toNatClampNeg) &&& (h15.1 94 0 (v2 + 3).toNatClampNeg)) | skip
          first | have hx_53 := i32_lo ((h15.1 95 0 v1.toNatClampNeg) &&& (h15.1 94 0 (v2 + 3).toNatClampNeg)) | skip
          first | have hx_54 := i32_hi (h15.1 94 0 (v2 + 4).toNatClampNeg) | skip
          first | have hx_55 := i32_lo (h15.1 94 0 (v2 + 4).toNatClampNeg) | skip
          first | have f56 : ((h15.1 95 0 v1.toNatClampNeg) &&& (h15.1 94 0 (v2 + 3).toNatClampNeg) : Int32).toInt = (h15.1 94 0 (v2 + 4).toNatClampNeg : Int32).toInt := congrArg Int32.toInt q50 | skip
          exact ⟨_, rfl, he 0 h15 (SI.mono S_h15 (by omega)) (Or.inl rfl)⟩
        · rw [if_neg q50]
          have l57 : (h15.1 94 0 (v2 + 4).toNatClampNeg).toInt = (r13.2.1 94 0 ((v2 + 4).toNatClampNeg)).toInt := by rw [← e_h15, uI_t _ rfl]
          first | have hx_58 := i32_hi ((h15.1 95 0 v1.toNatClampNeg) &&& (h15.1 94 0 (v2 + 3).toNatClampNeg)) | skip
          first | have hx_59 := i32_lo ((h15.1 95 0 v1.toNatClampNeg) &&& (h15.1 94 0 (v2 + 3).toNatClampNeg)) | skip
          first | have hx_60 := i32_hi (h15.1 94 0 (v2 + 4).toNatClampNeg) | skip
          first | have hx_61 := i32_lo (h15.1 94 0 (v2 + 4).toNatClampNeg) | skip
          first | have f62 : ((h15.1 95 0 v1.toNatClampNeg) &&& (h15.1 94 0 (v2 + 3).toNatClampNeg) : Int32).toInt ≠ (h15.1 94 0 (v2 + 4).toNatClampNeg : Int32).toInt := ti_ne q50 | skip
          first | have o63 : (v3 + 1 : Int32).toInt = (v3 : Int32).toInt + (1 : Int32).toInt := ti_add (by omega) (by omega) | skip
          exact ih (v3 + 1) h15 (SI.mono S_h15 (by omega)) (by omega) (by omega) (by omega)
    · rw [if_neg q4]
      have b64 := lim_ok S cp1
      first | have hx_65 := i32_hi (v3) | skip
      first | have hx_66 := i32_lo (v3) | skip
      first | have hx_67 := i32_hi (h.1 94 0 (v2 + 5).toNatClampNeg) | skip
      first | have hx_68 := i32_lo (h.1 94 0 (v2 + 5).toNatClampNeg) | skip
      first | have f69 : (h.1 94 0 (v2 + 5).toNatClampNeg : Int32).toInt < (v3 : Int32).toInt := Int32.lt_iff_toInt_lt.mp (Int32.not_le.mp q4) | skip
      exact hk v3 h S iv0 iv1
def W_X12_polls_1 : List Nat := [791, 798, 805, 806, 835, 4032, 4160, 4224, 4416, 4480, 4544, 6080]
set_option maxHeartbeats 400000 in
theorem z_X12_polls_1 {fp : Nat → Bool} {b : mH} {m : Nat} (x1 : Int32) (x2 : Int32) (h : mH) (S : SI fp b m h) (ff : ∀ c ∈ W_X12_polls_1, fp c = false) (pr0 : x1.toInt = 1) (pr1 : al6 x2) (pr2 : (0 ≤ x2.toInt ∧ x2.toInt ≤ 594)) : ∃ r, f_X12_polls_1 x1 x2 h = some r ∧ SI fp b (m + 21) r.2 ∧ (r.1 = 0 ∨ r.1 = 1) := by
  have ff_X12_polls_1_2 : ∀ c ∈ W_X12_polls_1_2, fp c = false := fun c hc => ff c ((by decide : ∀ c ∈ W_X12_polls_1_2, c ∈ W_X12_polls_1) c hc)
  unfold f_X12_polls_1
  have t1 : (0 : Int32).toInt = 0 := by decide
  refine z_X12_polls_1_2 (m := m) _  x1 x2 ff_X12_polls_1_2 pr0 pr1 pr2 (fun u21 h22 S_h22 y2 y3 => ?_) (fun rv rh SS hp0 => ⟨SS.mono (by omega), hp0⟩) mFu 0 h (SI.mono S (by omega)) (by omega) (by omega) (by have := mFu_big; omega)
  try dsimp only
  have t4 : (1 : Int32).toInt = 1 := by decide
  exact ⟨_, rfl, (SI.mono S_h22 (by omega)), (Or.inr rfl)⟩
def W_X12_pauses_1_2 : List Nat := [791, 798, 805, 806, 835, 4032, 4160, 4416, 4480, 4544]
set_option maxHeartbeats 400000 in
theorem z_X12_pauses_1_2 {fp : Nat → Bool} {b : mH} {m : Nat} {P : mH → Prop} (k : Int32 → Int32 → Int32 → mH → Option (mH))  (v1 : Int32) (v2 : Int32) (ff : ∀ c ∈ W_X12_pauses_1_2, fp c = false) (cp0 : v1.toInt = 1) (cp1 : v2.toInt ≤ 9) (hk : ∀ (v3 : Int32) (h : mH), SI fp b (m + 1 * v3.toInt.toNat) h → 0 ≤ v3.toInt → v3.toInt ≤ 9 → ∃ r, k v1 v2 v3 h = some r ∧ P r) : ∀ (n : Nat) (v3 : Int32) (h : mH), SI fp b (m + 1 * v3.toInt.toNat) h → 0 ≤ v3.toInt → v3.toInt ≤ 9 → 2147483648 - v3.toInt < n → ∃ r, f_X12_pauses_1_2 k  n v1 v2 v3 h = some r ∧ P r := by
  have ff_X12_handles_1 : ∀ c ∈ W_X12_handles_1, fp c = false := fun c hc => ff c ((by decide : ∀ c ∈ W_X12_handles_1, c ∈ W_X12_pauses_1_2) c hc)
  have ff_X12_ticks : ∀ c ∈ W_X12_ticks, fp c = false := fun c hc => ff c ((by decide : ∀ c ∈ W_X12_ticks, c ∈ W_X12_pauses_1_2) c hc)
  intro n
  induction n with
  | zero =>
    intro v3 h S iv0 iv1 hm
    have hz := i32_hi v3
    omega
  | succ n ih =>
    intro v3 h S iv0 iv1 hm
    rw [f_X12_pauses_1_2]
    by_cases q1 : v3 < v2
    · rw [if_pos q1]
      first | have hx_2 := i32_hi (v3) | skip
      first | have hx_3 := i32_lo (v3) | skip
      first | have hx_4 := i32_hi (v2) | skip
      first | have hx_5 := i32_lo (v2) | skip
      first | have f6 : (v3 : Int32).toInt < (v2 : Int32).toInt := Int32.lt_iff_toInt_lt.mp q1 | skip
      by_cases q7 : v3 ≤ 0
      · rw [if_pos q7]
        have t8 : (0 : Int32).toInt = 0 := by decide
        first | have f9 : (v3 : Int32).toInt ≤ (0 : Int32).toInt := Int32.le_iff_toInt_le.mp q7 | skip
        obtain ⟨r3, e_r3, S_r3⟩ := z_X12_ticks  h S ff_X12_ticks 
        rw [e_r3, Option.bind_some]
        have t10 : (1 : Int32).toInt = 1 := by decide
        first | have o11 : (v3 + 1 : Int32).toInt = (v3 : Int32).toInt + (1 : Int32).toInt := ti_add (by omega) (by omega) | skip
        exact ih (v3 + 1) r3 (SI.mono S_r3 (by omega)) (by omega) (by omega) (by omega)
      · rw [if_neg q7]
        have t12 : (0 : Int32).toInt = 0 := by decide
        first | have f13 : (0 : Int32).toInt < (v3 : Int32).toInt := Int32.lt_iff_toInt_lt.mp (Int32.not_le.mp q7) | skip
        obtain ⟨r4, e_r4, S_r4⟩ := z_X12_handles_1 v1 h S ff_X12_handles_1 cp0
        rw [e_r4, Option.bind_some]
        obtain ⟨r5, e_r5, S_r5⟩ := z_X12_ticks  r4 S_r4 ff_X12_ticks 
        rw [e_r5, Option.bind_some]
        have t14 : (1 : Int32).toInt = 1 := by decide
        first | have o15 : (v3 + 1 : Int32).toInt = (v3 : Int32).toInt + (1 : Int32).toInt := ti_add (by omega) (by omega) | skip
        exact ih (v3 + 1) r5 (SI.mono S_r5 (by omega)) (by omega) (by omega) (by omega)
    · rw [if_neg q1]
      first | have hx_16 := i32_hi (v3) | skip
      first | have hx_17 := i32_lo (v3) | skip
      first | have hx_18 := i32_hi (v2) | skip
      first | have hx_19 := i32_lo (v2) | skip
      first | have f20 : (v2 : Int32).toInt ≤ (v3 : Int32).toInt := Int32.le_iff_toInt_le.mp (Int32.not_lt.mp q1) | skip
      exact hk v3 h S iv0 iv1
def W_X12_pauses_1 : List Nat := [791, 798, 805, 806, 835, 4032, 4160, 4416, 4480, 4544]
set_option maxHeartbeats 400000 in
theorem z_X12_pauses_1 {fp : Nat → Bool} {b : mH} {m : Nat} (x1 : Int32) (x2 : Int32) (h : mH) (S : SI fp b m h) (ff : ∀ c ∈ W_X12_pauses_1, fp c = false) (pr0 : x1.toInt = 1) (pr1 : x2.toInt ≤ 9) : ∃ r, f_X12_pauses_1 x1 x2 h = some r ∧ SI fp b (m + 9) r := by
  have ff_X12_pauses_1_2 : ∀ c ∈ W_X12_pauses_1_2, fp c = false := fun c hc => ff c ((by decide : ∀ c ∈ W_X12_pauses_1_2, c ∈ W_X12_pauses_1) c hc)
  unfold f_X12_pauses_1
  have t1 : (0 : Int32).toInt = 0 := by decide
  refine z_X12_pauses_1_2 (m := m) _  x1 x2 ff_X12_pauses_1_2 pr0 pr1 (fun u8 h9 S_h9 y2 y3 => ?_)  mFu 0 h (SI.mono S (by omega)) (by omega) (by omega) (by have := mFu_big; omega)
  try dsimp only
  exact ⟨_, rfl, (SI.mono S_h9 (by omega))⟩
def W_X12_runs_1_23 : List Nat := [791, 798, 802, 803, 804, 805, 806, 835, 4032, 4096, 4160, 4224, 4288, 4352, 4416, 4480, 4544, 5888, 6080]
set_option maxHeartbeats 400000 in
theorem z_X12_runs_1_23 {fp : Nat → Bool} {b : mH} {m : Nat} {P : Int32 × mH → Prop} (k : Int32 → Int32 → Int32 → mH → Option (Int32 × mH))  (v1 : Int32) (ff : ∀ c ∈ W_X12_runs_1_23, fp c = false) (cp0 : v1.toInt = 1) (hk : ∀ (v3 : Int32) (v4 : Int32) (h : mH), SI fp b (m + 21 * v4.toInt.toNat) h → 0 ≤ v4.toInt → (v3 = 0 ∨ v3 = 1) → v4.toInt ≤ 48 → ∃ r, k v1 v3 v4 h = some r ∧ P r) : ∀ (n : Nat) (v3 : Int32) (v4 : Int32) (h : mH), SI fp b (m + 21 * v4.toInt.toNat) h → 0 ≤ v4.toInt → (v3 = 0 ∨ v3 = 1) → v4.toInt ≤ 48 → 2147483648 - v4.toInt < n → ∃ r, f_X12_runs_1_23 k  n v1 v3 v4 h = some r ∧ P r := by
  have ff_X12_handles_1 : ∀ c ∈ W_X12_handles_1, fp c = false := fun c hc => ff c ((by decide : ∀ c ∈ W_X12_handles_1, c ∈ W_X12_runs_1_23) c hc)
  have ff_X12_pauses_1 : ∀ c ∈ W_X12_pauses_1, fp c = false := fun c hc => ff c ((by decide : ∀ c ∈ W_X12_pauses_1, c ∈ W_X12_runs_1_23) c hc)
  have ff_X12_picks : ∀ c ∈ W_X12_picks, fp c = false := fun c hc => ff c ((by decide : ∀ c ∈ W_X12_picks, c ∈ W_X12_runs_1_23) c hc)
  have ff_X12_polls_1 : ∀ c ∈ W_X12_polls_1, fp c = false := fun c hc => ff c ((by decide : ∀ c ∈ W_X12_polls_1, c ∈ W_X12_runs_1_23) c hc)
  have ff_X12_puts : ∀ c ∈ W_X12_puts, fp c = false := fun c hc => ff c ((by decide : ∀ c ∈ W_X12_puts, c ∈ W_X12_runs_1_23) c hc)
  have ff_X12_reads : ∀ c ∈ W_X12_reads, fp c = false := fun c hc => ff c ((by decide : ∀ c ∈ W_X12_reads, c ∈ W_X12_runs_1_23) c hc)
  have w835 : fp 835 = false := ff 835 (by decide)
  have w6080 : fp 6080 = false := ff 6080 (by decide)
  intro n
  induction n with
  | zero =>
    intro v3 v4 h S iv0 iv1 iv2 hm
    have hz := i32_hi v4
    omega
  | succ n ih =>
    intro v3 v4 h S iv0 iv1 iv2 hm
    rw [f_X12_runs_1_23]
    have q1 : mIn v1 2 = true := (mIn_bd (by omega) (by omega))
    rw [if_pos q1]
    by_cases q2 : v4 < (h.1 93 0 v1.toNatClampNeg)
    · rw [if_pos q2]
      have b3 : 0 ≤ (h.1 93 0 v1.toNatClampNeg).toInt ∧ (h.1 93 0 v1.toNatClampNeg).toInt ≤ 48 := (S).1 93 0 v1.toNatClampNeg
      first | have hx_4 := i32_hi (v4) | skip
      first | have hx_5 := i32_lo (v4) | skip
      first | have hx_6 := i32_hi (h.1 93 0 v1.toNatClampNeg) | skip
      first | have hx_7 := i32_lo (h.1 93 0 v1.toNatClampNeg) | skip
      first | have f8 : (v4 : Int32).toInt < (h.1 93 0 v1.toNatClampNeg : Int32).toInt := Int32.lt_iff_toInt_lt.mp q2 | skip
      by_cases q9 : v3 = 0
      · rw [if_pos q9]
        have t10 : (0 : Int32).toInt = 0 := by decide
        first | have hx_11 := i32_hi (v3) | skip
        first | have hx_12 := i32_lo (v3) | skip
        first | have f13 : (v3 : Int32).toInt = (0 : Int32).toInt := congrArg Int32.toInt q9 | skip
        obtain ⟨r7, e_r7, S_r7⟩ := z_X12_handles_1 v1 h S ff_X12_handles_1 cp0
        rw [e_r7, Option.bind_some]
        have t14 : (6 : Int32).toInt = 6 := by decide
        have t15 : (50 : Int32).toInt = 50 := by decide
        first | have o16 : (50 * v1).toInt = 50 * (v1 : Int32).toInt := ti_km (by decide) (by omega) (by omega) | skip
        first | have o17 : ((50 * v1) + v4 : Int32).toInt = (50 * v1 : Int32).toInt + (v4 : Int32).toInt := ti_add (by omega) (by omega) | skip
        first | have o18 : (6 * ((50 * v1) + v4)).toInt = 6 * ((50 * v1) + v4 : Int32).toInt := ti_km (by decide) (by omega) (by omega) | skip
        have q19 : mIn (6 * ((50 * v1) + v4)) 600 = true := (mIn_bd (by omega) (by omega))
        rw [if_pos q19]
        by_cases q20 : (r7.1 94 0 (6 * ((50 * v1) + v4)).toNatClampNeg) = 0
        · rw [if_pos q20]
          have b21 := op_ok S_r7 (x := v1) (y := v4) (by omega) (by omega) (by omega) (by omega)
          unfold okP at b21
          first | have hx_22 := i32_hi (r7.1 94 0 (6 * ((50 * v1) + v4)).toNatClampNeg) | skip
          first | have hx_23 := i32_lo (r7.1 94 0 (6 * ((50 * v1) + v4)).toNatClampNeg) | skip
          first | have f24 : (r7.1 94 0 (6 * ((50 * v1) + v4)).toNatClampNeg : Int32).toInt = (0 : Int32).toInt := congrArg Int32.toInt q20 | skip
          have t25 : (1 : Int32).toInt = 1 := by decide
          first | have o26 : ((6 * ((50 * v1) + v4)) + 1 : Int32).toInt = (6 * ((50 * v1) + v4) : Int32).toInt + (1 : Int32).toInt := ti_add (by omega) (by omega) | skip
          have q27 : mIn ((6 * ((50 * v1) + v4)) + 1) 600 = true := (mIn_bd (by omega) (by omega))
          rw [if_pos q27]
          obtain ⟨r11, e_r11, S_r11⟩ := z_X12_reads (r7.1 94 0 ((6 * ((50 * v1) + v4)) + 1).toNatClampNeg) 1 r7 S_r7 ff_X12_reads 
          rw [e_r11, Option.bind_some]
          first | have o28 : (v4 + 1 : Int32).toInt = (v4 : Int32).toInt + (1 : Int32).toInt := ti_add (by omega) (by omega) | skip
          exact ih v3 (v4 + 1) (uI r11.2 95 0 v1.toNatClampNeg r11.1) (SI.mono (SI.f S_r11 rfl w6080 rfl) (by omega)) (by omega) iv1 (by omega) (by omega)
        · rw [if_neg q20]
          have b29 := op_ok S_r7 (x := v1) (y := v4) (by omega) (by omega) (by omega) (by omega)
          unfold okP at b29
          first | have hx_30 := i32_hi (r7.1 94 0 (6 * ((50 * v1) + v4)).toNatClampNeg) | skip
          first | have hx_31 := i32_lo (r7.1 94 0 (6 * ((50 * v1) + v4)).toNatClampNeg) | skip
          first | have f32 : (r7.1 94 0 (6 * ((50 * v1) + v4)).toNatClampNeg : Int32).toInt ≠ (0 : Int32).toInt := ti_ne q20 | skip
          by_cases q33 : (r7.1 94 0 (6 * ((50 * v1) + v4)).toNatClampNeg) = 1
          · rw [if_pos q33]
            have t34 : (1 : Int32).toInt = 1 := by decide
            first | have f35 : (r7.1 94 0 (6 * ((50 * v1) + v4)).toNatClampNeg : Int32).toInt = (1 : Int32).toInt := congrArg Int32.toInt q33 | skip
            obtain ⟨r13, e_r13, S_r13⟩ := z_X12_puts v1 (6 * ((50 * v1) + v4)) r7 S_r7 ff_X12_puts (by omega) (by omega) (by omega)
            rw [e_r13, Option.bind_some]
            first | have o36 : (v4 + 1 : Int32).toInt = (v4 : Int32).toInt + (1 : Int32).toInt := ti_add (by omega) (by omega) | skip
            exact ih v3 (v4 + 1) r13 (SI.mono S_r13 (by omega)) (by omega) iv1 (by omega) (by omega)
          · rw [if_neg q33]
            have t37 : (1 : Int32).toInt = 1 := by decide
            first | have f38 : (r7.1 94 0 (6 * ((50 * v1) + v4)).toNatClampNeg : Int32).toInt ≠ (1 : Int32).toInt := ti_ne q33 | skip
            by_cases q39 : (r7.1 94 0 (6 * ((50 * v1) + v4)).toNatClampNeg) = 2
            · rw [if_pos q39]
              have t40 : (2 : Int32).toInt = 2 := by decide
              first | have f41 : (r7.1 94 0 (6 * ((50 * v1) + v4)).toNatClampNeg : Int32).toInt = (2 : Int32).toInt := congrArg Int32.toInt q39 | skip
              obtain ⟨r15, e_r15, S_r15, p_r15_0⟩ := z_X12_polls_1 v1 (6 * ((50 * v1) + v4)) r7 S_r7 ff_X12_polls_1 cp0 (al6_of (by omega) (by omega) (by omega) (by omega)) (by omega)
              rw [e_r15, Option.bind_some]
              have bb_r15 := bool_bd p_r15_0
              first | have o42 : (v4 + 1 : Int32).toInt = (v4 : Int32).toInt + (1 : Int32).toInt := ti_add (by omega) (by omega) | skip
              exact ih r15.1 (v4 + 1) r15.2 (SI.mono S_r15 (by omega)) (by omega) p_r15_0 (by omega) (by omega)
            · rw [if_neg q39]
              have t43 : (2 : Int32).toInt = 2 := by decide
              first | have f44 : (r7.1 94 0 (6 * ((50 * v1) + v4)).toNatClampNeg : Int32).toInt ≠ (2 : Int32).toInt := ti_ne q39 | skip
              by_cases q45 : (r7.1 94 0 (6 * ((50 * v1) + v4)).toNatClampNeg) = 3
              · rw [if_pos q45]
                have t46 : (3 : Int32).toInt = 3 := by decide
                first | have f47 : (r7.1 94 0 (6 * ((50 * v1) + v4)).toNatClampNeg : Int32).toInt = (3 : Int32).toInt := congrArg Int32.toInt q45 | skip
                first | have o48 : ((6 * ((50 * v1) + v4)) + 1 : Int32).toInt = (6 * ((50 * v1) + v4) : Int32).toInt + (1 : Int32).toInt := ti_add (by omega) (by omega) | skip
                have q49 : mIn ((6 * ((50 * v1) + v4)) + 1) 600 = true := (mIn_bd (by omega) (by omega))
                rw [if_pos q49]
                obtain ⟨r18, e_r18, S_r18⟩ := z_X12_pauses_1 v1 (r7.1 94 0 ((6 * ((50 * v1) + v4)) + 1).toNatClampNeg) r7 S_r7 ff_X12_pauses_1 cp0 (by omega)
                rw [e_r18, Option.bind_some]
                first | have o50 : (v4 + 1 : Int32).toInt = (v4 : Int32).toInt + (1 : Int32).toInt := ti_add (by omega) (by omega) | skip
                exact ih v3 (v4 + 1) r18 (SI.mono S_r18 (by omega)) (by omega) iv1 (by omega) (by omega)
              · rw [if_neg q45]
                have t51 : (3 : Int32).toInt = 3 := by decide
                first | have f52 : (r7.1 94 0 (6 * ((50 * v1) + v4)).toNatClampNeg : Int32).toInt ≠ (3 : Int32).toInt := ti_ne q45 | skip
                by_cases q53 : (r7.1 94 0 (6 * ((50 * v1) + v4)).toNatClampNeg) = 4
                · rw [if_pos q53]
                  have t54 : (4 : Int32).toInt = 4 := by decide
                  first | have f55 : (r7.1 94 0 (6 * ((50 * v1) + v4)).toNatClampNeg : Int32).toInt = (4 : Int32).toInt := congrArg Int32.toInt q53 | skip
                  first | have o56 : ((6 * ((50 * v1) + v4)) + 1 : Int32).toInt = (6 * ((50 * v1) + v4) : Int32).toInt + (1 : Int32).toInt := ti_add (by omega) (by omega) | skip
                  have q57 : mIn ((6 * ((50 * v1) + v4)) + 1) 600 = true := (mIn_bd (by omega) (by omega))
                  rw [if_pos q57]
                  obtain ⟨r21, e_r21, S_r21⟩ := z_X12_picks v1 (r7.1 94 0 ((6 * ((50 * v1) + v4)) + 1).toNatClampNeg) r7 S_r7 ff_X12_picks (by omega) (by omega)
                  rw [e_r21, Option.bind_some]
                  first | have o58 : (v4 + 1 : Int32).toInt = (v4 : Int32).toInt + (1 : Int32).toInt := ti_add (by omega) (by omega) | skip
                  exact ih v3 (v4 + 1) r21 (SI.mono S_r21 (by omega)) (by omega) iv1 (by omega) (by omega)
                · rw [if_neg q53]
                  have t59 : (4 : Int32).toInt = 4 := by decide
                  first | have f60 : (r7.1 94 0 (6 * ((50 * v1) + v4)).toNatClampNeg : Int32).toInt ≠ (4 : Int32).toInt := ti_ne q53 | skip
                  by_cases q61 : (r7.1 94 0 (6 * ((50 * v1) + v4)).toNatClampNeg) = 5
                  · rw [if_pos q61]
                    have t62 : (5 : Int32).toInt = 5 := by decide
                    first | have f63 : (r7.1 94 0 (6 * ((50 * v1) + v4)).toNatClampNeg : Int32).toInt = (5 : Int32).toInt := congrArg Int32.toInt q61 | skip
                    first | have o64 : (v4 + 1 : Int32).toInt = (v4 : Int32).toInt + (1 : Int32).toInt := ti_add (by omega) (by omega) | skip
                    exact ih v3 (v4 + 1) (uI r7 12 0 67 1) (SI.mono (SI.f S_r7 rfl w835 rfl) (by omega)) (by omega) iv1 (by omega) (by omega)
                  · rw [if_neg q61]
                    have t65 : (5 : Int32).toInt = 5 := by decide
                    first | have f66 : (r7.1 94 0 (6 * ((50 * v1) + v4)).toNatClampNeg : Int32).toInt ≠ (5 : Int32).toInt := ti_ne q61 | skip
                    first | have o67 : (v4 + 1 : Int32).toInt = (v4 : Int32).toInt + (1 : Int32).toInt := ti_add (by omega) (by omega) | skip
                    exact ih v3 (v4 + 1) (uI r7 12 0 67 0) (SI.mono (SI.f S_r7 rfl w835 rfl) (by omega)) (by omega) iv1 (by omega) (by omega)
      · rw [if_neg q9]
        have t68 : (0 : Int32).toInt = 0 := by decide
        first | have hx_69 := i32_hi (v3) | skip
        first | have hx_70 := i32_lo (v3) | skip
        first | have f71 : (v3 : Int32).toInt ≠ (0 : Int32).toInt := ti_ne q9 | skip
        exact hk v3 v4 h S iv0 iv1 iv2
    · rw [if_neg q2]
      have b72 : 0 ≤ (h.1 93 0 v1.toNatClampNeg).toInt ∧ (h.1 93 0 v1.toNatClampNeg).toInt ≤ 48 := (S).1 93 0 v1.toNatClampNeg
      first | have hx_73 := i32_hi (v4) | skip
      first | have hx_74 := i32_lo (v4) | skip
      first | have hx_75 := i32_hi (h.1 93 0 v1.toNatClampNeg) | skip
      first | have hx_76 := i32_lo (h.1 93 0 v1.toNatClampNeg) | skip
      first | have f77 : (h.1 93 0 v1.toNatClampNeg : Int32).toInt ≤ (v4 : Int32).toInt := Int32.le_iff_toInt_le.mp (Int32.not_lt.mp q2) | skip
      exact hk v3 v4 h S iv0 iv1 iv2
def W_X12_runs_1 : List Nat := [791, 798, 802, 803, 804, 805, 806, 835, 4032, 4096, 4160, 4224, 4288, 4352, 4416, 4480, 4544, 5888, 5952, 6016, 6080]
set_option maxHeartbeats 400000 in
theorem z_X12_runs_1 {fp : Nat → Bool} {b : mH} {m : Nat} (x1 : Int32) (x2 : Int32) (h : mH) (S : SI fp b m h) (ff : ∀ c ∈ W_X12_runs_1, fp c = false) (pr0 : x1.toInt = 1) (pr1 : (0 ≤ x2.toInt ∧ x2.toInt < 6)) : ∃ r, f_X12_runs_1 x1 x2 h = some r ∧ SI fp b (m + 1008) r.2 ∧ (r.1 = 0 ∨ r.1 = 1) := by
  have ff_X12_handles_1 : ∀ c ∈ W_X12_handles_1, fp c = false := fun c hc => ff c ((by decide : ∀ c ∈ W_X12_handles_1, c ∈ W_X12_runs_1) c hc)
  have ff_X12_makes : ∀ c ∈ W_X12_makes, fp c = false := fun c hc => ff c ((by decide : ∀ c ∈ W_X12_makes, c ∈ W_X12_runs_1) c hc)
  have ff_X12_runs_1_23 : ∀ c ∈ W_X12_runs_1_23, fp c = false := fun c hc => ff c ((by decide : ∀ c ∈ W_X12_runs_1_23, c ∈ W_X12_runs_1) c hc)
  have w835 : fp 835 = false := ff 835 (by decide)
  have w6080 : fp 6080 = false := ff 6080 (by decide)
  unfold f_X12_runs_1
  obtain ⟨r1, e_r1, S_r1⟩ := z_X12_makes x1 x2 h S ff_X12_makes (by omega) pr1
  rw [e_r1, Option.bind_some]
  have q1 : mIn x1 2 = true := (mIn_bd (by omega) (by omega))
  rw [if_pos q1]
  refine let_ex (fun h3 e_h3 => ?_)
  have S_h3 : SI fp b m h3 := e_h3 ▸ (SI.f S_r1 rfl w6080 rfl)
  obtain ⟨g2, e_g2⟩ : ∃ g, uI h3 12 0 67 0 = g := ⟨_, rfl⟩
  rw [e_g2]
  have S_g2 : SI fp b m g2 := e_g2 ▸ (SI.f S_h3 rfl w835 rfl)
  have t3 : (0 : Int32).toInt = 0 := by decide
  refine z_X12_runs_1_23 (m := m) _  x1 ff_X12_runs_1_23 pr0 (fun u24 u25 h26 S_h26 y4 y5 y6 => ?_)  mFu 0 0 g2 (SI.mono S_g2 (by omega)) (by omega) (Or.inl rfl) (by omega) (by have := mFu_big; omega)
  try dsimp only
  obtain ⟨g7, e_g7⟩ : ∃ g, uI h26 12 0 67 0 = g := ⟨_, rfl⟩
  rw [e_g7]
  have S_g7 : SI fp b (m + 21 * u25.toInt.toNat) g7 := e_g7 ▸ (SI.f S_h26 rfl w835 rfl)
  obtain ⟨r27, e_r27, S_r27⟩ := z_X12_handles_1 x1 g7 S_g7 ff_X12_handles_1 pr0
  rw [e_r27, Option.bind_some]
  have q8 : (u24 = 0 ∨ u24 = 1) := y5
  rw [if_pos q8]
  exact ⟨_, rfl, (SI.mono S_r27 (by omega)), q8⟩
def W_X12_handles_2_2 : List Nat := [791, 798, 802, 803, 804, 805, 806, 835, 4032, 4096, 4160, 4224, 4288, 4352, 4416, 4480, 4544, 5888, 5952, 6016, 6080]
set_option maxHeartbeats 400000 in
theorem z_X12_handles_2_2 {fp : Nat → Bool} {b : mH} {m : Nat} {P : mH → Prop} (k : Int32 → Int32 → mH → Option (mH))  (v1 : Int32) (ff : ∀ c ∈ W_X12_handles_2_2, fp c = false) (cp0 : v1.toInt = 0) (hk : ∀ (v2 : Int32) (h : mH), SI fp b (m + 1008 * v2.toInt.toNat) h → 0 ≤ v2.toInt → v2.toInt ≤ 8 → ∃ r, k v1 v2 h = some r ∧ P r) : ∀ (n : Nat) (v2 : Int32) (h : mH), SI fp b (m + 1008 * v2.toInt.toNat) h → 0 ≤ v2.toInt → v2.toInt ≤ 8 → 2147483648 - v2.toInt < n → ∃ r, f_X12_handles_2_2 k  n v1 v2 h = some r ∧ P r := by
  have ff_X12_runs_1 : ∀ c ∈ W_X12_runs_1, fp c = false := fun c hc => ff c ((by decide : ∀ c ∈ W_X12_runs_1, c ∈ W_X12_handles_2_2) c hc)
  have w805 : fp 805 = false := ff 805 (by decide)
  have w806 : fp 806 = false := ff 806 (by decide)
  have w835 : fp 835 = false := ff 835 (by decide)
  intro n
  induction n with
  | zero =>
    intro v2 h S iv0 iv1 hm
    have hz := i32_hi v2
    omega
  | succ n ih =>
    intro v2 h S iv0 iv1 hm
    rw [f_X12_handles_2_2]
    by_cases q1 : v1 = 0
    · rw [if_pos q1]
      have t2 : (0 : Int32).toInt = 0 := by decide
      first | have hx_3 := i32_hi (v1) | skip
      first | have hx_4 := i32_lo (v1) | skip
      first | have f5 : (v1 : Int32).toInt = (0 : Int32).toInt := congrArg Int32.toInt q1 | skip
      by_cases q6 : (h.1 12 0 67) = 0
      · rw [if_pos q6]
        first | have hx_7 := i32_hi (h.1 12 0 67) | skip
        first | have hx_8 := i32_lo (h.1 12 0 67) | skip
        first | have f9 : (h.1 12 0 67 : Int32).toInt = (0 : Int32).toInt := congrArg Int32.toInt q6 | skip
        by_cases q10 : v2 < 8
        · rw [if_pos q10]
          have t11 : (8 : Int32).toInt = 8 := by decide
          first | have hx_12 := i32_hi (v2) | skip
          first | have hx_13 := i32_lo (v2) | skip
          first | have f14 : (v2 : Int32).toInt < (8 : Int32).toInt := Int32.lt_iff_toInt_lt.mp q10 | skip
          obtain ⟨⟨r4v, r4h⟩, e_r4, (hh_r4 : r4h = h), p_r4_0⟩ := z_X12_flagUp  h S  
          replace hh_r4 := hh_r4.symm
          subst hh_r4
          dsimp only at p_r4_0
          rw [e_r4, Option.bind_some]
          try dsimp only
          by_cases q15 : r4v = (-1)
          · rw [if_pos q15]
            have t16 : ((-1) : Int32).toInt = (-1) := by decide
            first | have hx_17 := i32_hi (r4v) | skip
            first | have hx_18 := i32_lo (r4v) | skip
            first | have f19 : (r4v : Int32).toInt = (-1 : Int32).toInt := congrArg Int32.toInt q15 | skip
            exact hk v2 h S iv0 iv1
          · rw [if_neg q15]
            have t20 : ((-1) : Int32).toInt = (-1) := by decide
            first | have hx_21 := i32_hi (r4v) | skip
            first | have hx_22 := i32_lo (r4v) | skip
            first | have f23 : (r4v : Int32).toInt ≠ (-1 : Int32).toInt := ti_ne q15 | skip
            rw [e_r4, Option.bind_some]
            dsimp only
            have q24 : mIn r4v 24 = true := (mIn_bd (by omega) (by omega))
            rw [if_pos q24]
            have t25 : (1 : Int32).toInt = 1 := by decide
            have b26 : -1 ≤ (h.1 53 0 r4v.toNatClampNeg).toInt ∧ (h.1 53 0 r4v.toNatClampNeg).toInt ≤ 5 := (S).1 53 0 r4v.toNatClampNeg
            obtain ⟨r8, e_r8, S_r8, p_r8_0⟩ := z_X12_runs_1 1 (h.1 53 0 r4v.toNatClampNeg) h S ff_X12_runs_1 (by omega) (by omega)
            rw [e_r8, Option.bind_some]
            have bb_r8 := bool_bd p_r8_0
            refine let_ex (fun h9 e_h9 => ?_)
            have S_h9 : SI fp b ((m + 1008 * v2.toInt.toNat) + 1008) h9 := e_h9 ▸ (SI.f S_r8 rfl w806 rfl)
            refine let_ex (fun h10 e_h10 => ?_)
            have S_h10 : SI fp b ((m + 1008 * v2.toInt.toNat) + 1008) h10 := e_h10 ▸ (SI.f S_h9 rfl w835 rfl)
            first | have o27 : (v2 + 1 : Int32).toInt = (v2 : Int32).toInt + (1 : Int32).toInt := ti_add (by omega) (by omega) | skip
            exact ih (v2 + 1) (uI h10 12 0 37 ((h10.1 12 0 37) + 1)) (SI.mono (SI.f S_h10 rfl w805 rfl) (by omega)) (by omega) (by omega) (by omega)
        · rw [if_neg q10]
          have t28 : (8 : Int32).toInt = 8 := by decide
          first | have hx_29 := i32_hi (v2) | skip
          first | have hx_30 := i32_lo (v2) | skip
          first | have f31 : (8 : Int32).toInt ≤ (v2 : Int32).toInt := Int32.le_iff_toInt_le.mp (Int32.not_lt.mp q10) | skip
          exact hk v2 h S iv0 iv1
      · rw [if_neg q6]
        first | have hx_32 := i32_hi (h.1 12 0 67) | skip
        first | have hx_33 := i32_lo (h.1 12 0 67) | skip
        first | have f34 : (h.1 12 0 67 : Int32).toInt ≠ (0 : Int32).toInt := ti_ne q6 | skip
        exact hk v2 h S iv0 iv1
    · rw [if_neg q1]
      have t35 : (0 : Int32).toInt = 0 := by decide
      first | have hx_36 := i32_hi (v1) | skip
      first | have hx_37 := i32_lo (v1) | skip
      first | have f38 : (v1 : Int32).toInt ≠ (0 : Int32).toInt := ti_ne q1 | skip
      exact hk v2 h S iv0 iv1
def W_X12_handles_2 : List Nat := [791, 798, 802, 803, 804, 805, 806, 835, 4032, 4096, 4160, 4224, 4288, 4352, 4416, 4480, 4544, 5888, 5952, 6016, 6080]
set_option maxHeartbeats 400000 in
theorem z_X12_handles_2 {fp : Nat → Bool} {b : mH} {m : Nat} (x1 : Int32) (h : mH) (S : SI fp b m h) (ff : ∀ c ∈ W_X12_handles_2, fp c = false) (pr0 : x1.toInt = 0) : ∃ r, f_X12_handles_2 x1 h = some r ∧ SI fp b (m + 8064) r := by
  have ff_X12_handles_2_2 : ∀ c ∈ W_X12_handles_2_2, fp c = false := fun c hc => ff c ((by decide : ∀ c ∈ W_X12_handles_2_2, c ∈ W_X12_handles_2) c hc)
  unfold f_X12_handles_2
  have t1 : (0 : Int32).toInt = 0 := by decide
  refine z_X12_handles_2_2 (m := m) _  x1 ff_X12_handles_2_2 pr0 (fun u12 h13 S_h13 y2 y3 => ?_)  mFu 0 h (SI.mono S (by omega)) (by omega) (by omega) (by have := mFu_big; omega)
  try dsimp only
  exact ⟨_, rfl, (SI.mono S_h13 (by omega))⟩
def W_X12_polls_2_2 : List Nat := [791, 798, 802, 803, 804, 805, 806, 835, 4032, 4096, 4160, 4224, 4288, 4352, 4416, 4480, 4544, 5888, 5952, 6016, 6080]
set_option maxHeartbeats 400000 in
theorem z_X12_polls_2_2 {fp : Nat → Bool} {b : mH} {m : Nat} {P : Int32 × mH → Prop} (k : Int32 → Int32 → Int32 → mH → Option (Int32 × mH))  (v1 : Int32) (v2 : Int32) (ff : ∀ c ∈ W_X12_polls_2_2, fp c = false) (cp0 : v1.toInt = 0) (cp1 : al6 v2) (cp2 : (0 ≤ v2.toInt ∧ v2.toInt ≤ 594)) (hk : ∀ (v3 : Int32) (h : mH), SI fp b (m + 8065 * v3.toInt.toNat) h → 0 ≤ v3.toInt → v3.toInt ≤ 21 → ∃ r, k v1 v2 v3 h = some r ∧ P r) (he : ∀ (rv : Int32) (rh : mH), SI fp b (m + 169365) rh → (rv = 0 ∨ rv = 1) → P (rv, rh)) : ∀ (n : Nat) (v3 : Int32) (h : mH), SI fp b (m + 8065 * v3.toInt.toNat) h → 0 ≤ v3.toInt → v3.toInt ≤ 21 → 2147483648 - v3.toInt < n → ∃ r, f_X12_polls_2_2 k  n v1 v2 v3 h = some r ∧ P r := by
  have ff_X12_handles_2 : ∀ c ∈ W_X12_handles_2, fp c = false := fun c hc => ff c ((by decide : ∀ c ∈ W_X12_handles_2, c ∈ W_X12_polls_2_2) c hc)
  have ff_X12_reads : ∀ c ∈ W_X12_reads, fp c = false := fun c hc => ff c ((by decide : ∀ c ∈ W_X12_reads, c ∈ W_X12_polls_2_2) c hc)
  have w6080 : fp 6080 = false := ff 6080 (by decide)
  intro n
  induction n with
  | zero =>
    intro v3 h S iv0 iv1 hm
    have hz := i32_hi v3
    omega
  | succ n ih =>
    intro v3 h S iv0 iv1 hm
    rw [f_X12_polls_2_2]
    have t1 : (5 : Int32).toInt = 5 := by decide
    first | have o2 : (v2 + 5 : Int32).toInt = (v2 : Int32).toInt + (5 : Int32).toInt := ti_add (by omega) (by omega) | skip
    have q3 : mIn (v2 + 5) 600 = true := (mIn_bd (by omega) (by omega))
    rw [if_pos q3]
    by_cases q4 : v3 ≤ (h.1 94 0 (v2 + 5).toNatClampNeg)
    · rw [if_pos q4]
      have b5 := lim_ok S cp1
      first | have hx_6 := i32_hi (v3) | skip
      first | have hx_7 := i32_lo (v3) | skip
      first | have hx_8 := i32_hi (h.1 94 0 (v2 + 5).toNatClampNeg) | skip
      first | have hx_9 := i32_lo (h.1 94 0 (v2 + 5).toNatClampNeg) | skip
      first | have f10 : (v3 : Int32).toInt ≤ (h.1 94 0 (v2 + 5).toNatClampNeg : Int32).toInt := Int32.le_iff_toInt_le.mp q4 | skip
      by_cases q11 : v3 ≤ 0
      · rw [if_pos q11]
        have t12 : (0 : Int32).toInt = 0 := by decide
        first | have f13 : (v3 : Int32).toInt ≤ (0 : Int32).toInt := Int32.le_iff_toInt_le.mp q11 | skip
        have t14 : (1 : Int32).toInt = 1 := by decide
        first | have o15 : (v2 + 1 : Int32).toInt = (v2 : Int32).toInt + (1 : Int32).toInt := ti_add (by omega) (by omega) | skip
        have q16 : mIn (v2 + 1) 600 = true := (mIn_bd (by omega) (by omega))
        rw [if_pos q16]
        obtain ⟨r5, e_r5, S_r5⟩ := z_X12_reads (h.1 94 0 (v2 + 1).toNatClampNeg) 1 h S ff_X12_reads 
        rw [e_r5, Option.bind_some]
        have q17 : mIn v1 2 = true := (mIn_bd (by omega) (by omega))
        rw [if_pos q17]
        refine let_ex (fun h7 e_h7 => ?_)
        have S_h7 : SI fp b ((m + 8065 * v3.toInt.toNat) + 1) h7 := e_h7 ▸ (SI.f S_r5 rfl w6080 rfl)
        have t18 : (3 : Int32).toInt = 3 := by decide
        first | have o19 : (v2 + 3 : Int32).toInt = (v2 : Int32).toInt + (3 : Int32).toInt := ti_add (by omega) (by omega) | skip
        have q20 : mIn (v2 + 3) 600 = true := (mIn_bd (by omega) (by omega))
        rw [if_pos q20]
        have t21 : (4 : Int32).toInt = 4 := by decide
        first | have o22 : (v2 + 4 : Int32).toInt = (v2 : Int32).toInt + (4 : Int32).toInt := ti_add (by omega) (by omega) | skip
        have q23 : mIn (v2 + 4) 600 = true := (mIn_bd (by omega) (by omega))
        rw [if_pos q23]
        by_cases q24 : ((h7.1 95 0 v1.toNatClampNeg) &&& (h7.1 94 0 (v2 + 3).toNatClampNeg)) = (h7.1 94 0 (v2 + 4).toNatClampNeg)
        · rw [if_pos q24]
          have l25 : (h7.1 94 0 (v2 + 4).toNatClampNeg).toInt = (r5.2.1 94 0 ((v2 + 4).toNatClampNeg)).toInt := by rw [← e_h7, uI_t _ rfl]
          first | have hx_26 := i32_hi ((h7.1 95 0 v1.toNatClampNeg) &&& (h7.1 94 0 (v2 + 3).toNatClampNeg)) | skip
          first | have hx_27 := i32_lo ((h7.1 95 0 v1.toNatClampNeg) &&& (h7.1 94 0 (v2 + 3).toNatClampNeg)) | skip
          first | have hx_28 := i32_hi (h7.1 94 0 (v2 + 4).toNatClampNeg) | skip
          first | have hx_29 := i32_lo (h7.1 94 0 (v2 + 4).toNatClampNeg) | skip
          first | have f30 : ((h7.1 95 0 v1.toNatClampNeg) &&& (h7.1 94 0 (v2 + 3).toNatClampNeg) : Int32).toInt = (h7.1 94 0 (v2 + 4).toNatClampNeg : Int32).toInt := congrArg Int32.toInt q24 | skip
          exact ⟨_, rfl, he 0 h7 (SI.mono S_h7 (by omega)) (Or.inl rfl)⟩
        · rw [if_neg q24]
          have l31 : (h7.1 94 0 (v2 + 4).toNatClampNeg).toInt = (r5.2.1 94 0 ((v2 + 4).toNatClampNeg)).toInt := by rw [← e_h7, uI_t _ rfl]
          first | have hx_32 := i32_hi ((h7.1 95 0 v1.toNatClampNeg) &&& (h7.1 94 0 (v2 + 3).toNatClampNeg)) | skip
          first | have hx_33 := i32_lo ((h7.1 95 0 v1.toNatClampNeg) &&& (h7.1 94 0 (v2 + 3).toNatClampNeg)) | skip
          first | have hx_34 := i32_hi (h7.1 94 0 (v2 + 4).toNatClampNeg) | skip
          first | have hx_35 := i32_lo (h7.1 94 0 (v2 + 4).toNatClampNeg) | skip
          first | have f36 : ((h7.1 95 0 v1.toNatClampNeg) &&& (h7.1 94 0 (v2 + 3).toNatClampNeg) : Int32).toInt ≠ (h7.1 94 0 (v2 + 4).toNatClampNeg : Int32).toInt := ti_ne q24 | skip
          first | have o37 : (v3 + 1 : Int32).toInt = (v3 : Int32).toInt + (1 : Int32).toInt := ti_add (by omega) (by omega) | skip
          exact ih (v3 + 1) h7 (SI.mono S_h7 (by omega)) (by omega) (by omega) (by omega)
      · rw [if_neg q11]
        have t38 : (0 : Int32).toInt = 0 := by decide
        first | have f39 : (0 : Int32).toInt < (v3 : Int32).toInt := Int32.lt_iff_toInt_lt.mp (Int32.not_le.mp q11) | skip
        obtain ⟨r11, e_r11, S_r11⟩ := z_X12_handles_2 v1 h S ff_X12_handles_2 cp0
        rw [e_r11, Option.bind_some]
        have t40 : (1 : Int32).toInt = 1 := by decide
        first | have o41 : (v2 + 1 : Int32).toInt = (v2 : Int32).toInt + (1 : Int32).toInt := ti_add (by omega) (by omega) | skip
        have q42 : mIn (v2 + 1) 600 = true := (mIn_bd (by omega) (by omega))
        rw [if_pos q42]
        obtain ⟨r13, e_r13, S_r13⟩ := z_X12_reads (r11.1 94 0 (v2 + 1).toNatClampNeg) 1 r11 S_r11 ff_X12_reads 
        rw [e_r13, Option.bind_some]
        have q43 : mIn v1 2 = true := (mIn_bd (by omega) (by omega))
        rw [if_pos q43]
        refine let_ex (fun h15 e_h15 => ?_)
        have S_h15 : SI fp b (((m + 8065 * v3.toInt.toNat) + 8064) + 1) h15 := e_h15 ▸ (SI.f S_r13 rfl w6080 rfl)
        have t44 : (3 : Int32).toInt = 3 := by decide
        first | have o45 : (v2 + 3 : Int32).toInt = (v2 : Int32).toInt + (3 : Int32).toInt := ti_add (by omega) (by omega) | skip
        have q46 : mIn (v2 + 3) 600 = true := (mIn_bd (by omega) (by omega))
        rw [if_pos q46]
        have t47 : (4 : Int32).toInt = 4 := by decide
        first | have o48 : (v2 + 4 : Int32).toInt = (v2 : Int32).toInt + (4 : Int32).toInt := ti_add (by omega) (by omega) | skip
        have q49 : mIn (v2 + 4) 600 = true := (mIn_bd (by omega) (by omega))
        rw [if_pos q49]
        by_cases q50 : ((h15.1 95 0 v1.toNatClampNeg) &&& (h15.1 94 0 (v2 + 3).toNatClampNeg)) = (h15.1 94 0 (v2 + 4).toNatClampNeg)
        · rw [if_pos q50]
          have l51 : (h15.1 94 0 (v2 + 4).toNatClampNeg).toInt = (r13.2.1 94 0 ((v2 + 4).toNatClampNeg)).toInt := by rw [← e_h15, uI_t _ rfl]
          first | have hx_52 := i32_hi ((h15.1 95 0 v1.toNatClampNeg) &&& (h15.1 94 0 (v2 + 3).toNatClampNeg)) | skip
          first | have hx_53 := i32_lo ((h15.1 95 0 v1.toNatClampNeg) &&& (h15.1 94 0 (v2 + 3).toNatClampNeg)) | skip
          first | have hx_54 := i32_hi (h15.1 94 0 (v2 + 4).toNatClampNeg) | skip
          first | have hx_55 := i32_lo (h15.1 94 0 (v2 + 4).toNatClampNeg) | skip
          first | have f56 : ((h15.1 95 0 v1.toNatClampNeg) &&& (h15.1 94 0 (v2 + 3).toNatClampNeg) : Int32).toInt = (h15.1 94 0 (v2 + 4).toNatClampNeg : Int32).toInt := congrArg Int32.toInt q50 | skip
          exact ⟨_, rfl, he 0 h15 (SI.mono S_h15 (by omega)) (Or.inl rfl)⟩
        · rw [if_neg q50]
          have l57 : (h15.1 94 0 (v2 + 4).toNatClampNeg).toInt = (r13.2.1 94 0 ((v2 + 4).toNatClampNeg)).toInt := by rw [← e_h15, uI_t _ rfl]
          first | have hx_58 := i32_hi ((h15.1 95 0 v1.toNatClampNeg) &&& (h15.1 94 0 (v2 + 3).toNatClampNeg)) | skip
          first | have hx_59 := i32_lo ((h15.1 95 0 v1.toNatClampNeg) &&& (h15.1 94 0 (v2 + 3).toNatClampNeg)) | skip
          first | have hx_60 := i32_hi (h15.1 94 0 (v2 + 4).toNatClampNeg) | skip
          first | have hx_61 := i32_lo (h15.1 94 0 (v2 + 4).toNatClampNeg) | skip
          first | have f62 : ((h15.1 95 0 v1.toNatClampNeg) &&& (h15.1 94 0 (v2 + 3).toNatClampNeg) : Int32).toInt ≠ (h15.1 94 0 (v2 + 4).toNatClampNeg : Int32).toInt := ti_ne q50 | skip
          first | have o63 : (v3 + 1 : Int32).toInt = (v3 : Int32).toInt + (1 : Int32).toInt := ti_add (by omega) (by omega) | skip
          exact ih (v3 + 1) h15 (SI.mono S_h15 (by omega)) (by omega) (by omega) (by omega)
    · rw [if_neg q4]
      have b64 := lim_ok S cp1
      first | have hx_65 := i32_hi (v3) | skip
      first | have hx_66 := i32_lo (v3) | skip
      first | have hx_67 := i32_hi (h.1 94 0 (v2 + 5).toNatClampNeg) | skip
      first | have hx_68 := i32_lo (h.1 94 0 (v2 + 5).toNatClampNeg) | skip
      first | have f69 : (h.1 94 0 (v2 + 5).toNatClampNeg : Int32).toInt < (v3 : Int32).toInt := Int32.lt_iff_toInt_lt.mp (Int32.not_le.mp q4) | skip
      exact hk v3 h S iv0 iv1
def W_X12_polls_2 : List Nat := [791, 798, 802, 803, 804, 805, 806, 835, 4032, 4096, 4160, 4224, 4288, 4352, 4416, 4480, 4544, 5888, 5952, 6016, 6080]
set_option maxHeartbeats 400000 in
theorem z_X12_polls_2 {fp : Nat → Bool} {b : mH} {m : Nat} (x1 : Int32) (x2 : Int32) (h : mH) (S : SI fp b m h) (ff : ∀ c ∈ W_X12_polls_2, fp c = false) (pr0 : x1.toInt = 0) (pr1 : al6 x2) (pr2 : (0 ≤ x2.toInt ∧ x2.toInt ≤ 594)) : ∃ r, f_X12_polls_2 x1 x2 h = some r ∧ SI fp b (m + 169365) r.2 ∧ (r.1 = 0 ∨ r.1 = 1) := by
  have ff_X12_polls_2_2 : ∀ c ∈ W_X12_polls_2_2, fp c = false := fun c hc => ff c ((by decide : ∀ c ∈ W_X12_polls_2_2, c ∈ W_X12_polls_2) c hc)
  unfold f_X12_polls_2
  have t1 : (0 : Int32).toInt = 0 := by decide
  refine z_X12_polls_2_2 (m := m) _  x1 x2 ff_X12_polls_2_2 pr0 pr1 pr2 (fun u21 h22 S_h22 y2 y3 => ?_) (fun rv rh SS hp0 => ⟨SS.mono (by omega), hp0⟩) mFu 0 h (SI.mono S (by omega)) (by omega) (by omega) (by have := mFu_big; omega)
  try dsimp only
  have t4 : (1 : Int32).toInt = 1 := by decide
  exact ⟨_, rfl, (SI.mono S_h22 (by omega)), (Or.inr rfl)⟩
def W_X12_pauses_2_2 : List Nat := [791, 798, 802, 803, 804, 805, 806, 835, 4032, 4096, 4160, 4224, 4288, 4352, 4416, 4480, 4544, 5888, 5952, 6016, 6080]
set_option maxHeartbeats 400000 in
theorem z_X12_pauses_2_2 {fp : Nat → Bool} {b : mH} {m : Nat} {P : mH → Prop} (k : Int32 → Int32 → Int32 → mH → Option (mH))  (v1 : Int32) (v2 : Int32) (ff : ∀ c ∈ W_X12_pauses_2_2, fp c = false) (cp0 : v1.toInt = 0) (cp1 : v2.toInt ≤ 9) (hk : ∀ (v3 : Int32) (h : mH), SI fp b (m + 8065 * v3.toInt.toNat) h → 0 ≤ v3.toInt → v3.toInt ≤ 9 → ∃ r, k v1 v2 v3 h = some r ∧ P r) : ∀ (n : Nat) (v3 : Int32) (h : mH), SI fp b (m + 8065 * v3.toInt.toNat) h → 0 ≤ v3.toInt → v3.toInt ≤ 9 → 2147483648 - v3.toInt < n → ∃ r, f_X12_pauses_2_2 k  n v1 v2 v3 h = some r ∧ P r := by
  have ff_X12_handles_2 : ∀ c ∈ W_X12_handles_2, fp c = false := fun c hc => ff c ((by decide : ∀ c ∈ W_X12_handles_2, c ∈ W_X12_pauses_2_2) c hc)
  have ff_X12_ticks : ∀ c ∈ W_X12_ticks, fp c = false := fun c hc => ff c ((by decide : ∀ c ∈ W_X12_ticks, c ∈ W_X12_pauses_2_2) c hc)
  intro n
  induction n with
  | zero =>
    intro v3 h S iv0 iv1 hm
    have hz := i32_hi v3
    omega
  | succ n ih =>
    intro v3 h S iv0 iv1 hm
    rw [f_X12_pauses_2_2]
    by_cases q1 : v3 < v2
    · rw [if_pos q1]
      first | have hx_2 := i32_hi (v3) | skip
      first | have hx_3 := i32_lo (v3) | skip
      first | have hx_4 := i32_hi (v2) | skip
      first | have hx_5 := i32_lo (v2) | skip
      first | have f6 : (v3 : Int32).toInt < (v2 : Int32).toInt := Int32.lt_iff_toInt_lt.mp q1 | skip
      by_cases q7 : v3 ≤ 0
      · rw [if_pos q7]
        have t8 : (0 : Int32).toInt = 0 := by decide
        first | have f9 : (v3 : Int32).toInt ≤ (0 : Int32).toInt := Int32.le_iff_toInt_le.mp q7 | skip
        obtain ⟨r3, e_r3, S_r3⟩ := z_X12_ticks  h S ff_X12_ticks 
        rw [e_r3, Option.bind_some]
        have t10 : (1 : Int32).toInt = 1 := by decide
        first | have o11 : (v3 + 1 : Int32).toInt = (v3 : Int32).toInt + (1 : Int32).toInt := ti_add (by omega) (by omega) | skip
        exact ih (v3 + 1) r3 (SI.mono S_r3 (by omega)) (by omega) (by omega) (by omega)
      · rw [if_neg q7]
        have t12 : (0 : Int32).toInt = 0 := by decide
        first | have f13 : (0 : Int32).toInt < (v3 : Int32).toInt := Int32.lt_iff_toInt_lt.mp (Int32.not_le.mp q7) | skip
        obtain ⟨r4, e_r4, S_r4⟩ := z_X12_handles_2 v1 h S ff_X12_handles_2 cp0
        rw [e_r4, Option.bind_some]
        obtain ⟨r5, e_r5, S_r5⟩ := z_X12_ticks  r4 S_r4 ff_X12_ticks 
        rw [e_r5, Option.bind_some]
        have t14 : (1 : Int32).toInt = 1 := by decide
        first | have o15 : (v3 + 1 : Int32).toInt = (v3 : Int32).toInt + (1 : Int32).toInt := ti_add (by omega) (by omega) | skip
        exact ih (v3 + 1) r5 (SI.mono S_r5 (by omega)) (by omega) (by omega) (by omega)
    · rw [if_neg q1]
      first | have hx_16 := i32_hi (v3) | skip
      first | have hx_17 := i32_lo (v3) | skip
      first | have hx_18 := i32_hi (v2) | skip
      first | have hx_19 := i32_lo (v2) | skip
      first | have f20 : (v2 : Int32).toInt ≤ (v3 : Int32).toInt := Int32.le_iff_toInt_le.mp (Int32.not_lt.mp q1) | skip
      exact hk v3 h S iv0 iv1
def W_X12_pauses_2 : List Nat := [791, 798, 802, 803, 804, 805, 806, 835, 4032, 4096, 4160, 4224, 4288, 4352, 4416, 4480, 4544, 5888, 5952, 6016, 6080]
set_option maxHeartbeats 400000 in
theorem z_X12_pauses_2 {fp : Nat → Bool} {b : mH} {m : Nat} (x1 : Int32) (x2 : Int32) (h : mH) (S : SI fp b m h) (ff : ∀ c ∈ W_X12_pauses_2, fp c = false) (pr0 : x1.toInt = 0) (pr1 : x2.toInt ≤ 9) : ∃ r, f_X12_pauses_2 x1 x2 h = some r ∧ SI fp b (m + 72585) r := by
  have ff_X12_pauses_2_2 : ∀ c ∈ W_X12_pauses_2_2, fp c = false := fun c hc => ff c ((by decide : ∀ c ∈ W_X12_pauses_2_2, c ∈ W_X12_pauses_2) c hc)
  unfold f_X12_pauses_2
  have t1 : (0 : Int32).toInt = 0 := by decide
  refine z_X12_pauses_2_2 (m := m) _  x1 x2 ff_X12_pauses_2_2 pr0 pr1 (fun u8 h9 S_h9 y2 y3 => ?_)  mFu 0 h (SI.mono S (by omega)) (by omega) (by omega) (by have := mFu_big; omega)
  try dsimp only
  exact ⟨_, rfl, (SI.mono S_h9 (by omega))⟩
def W_X12_runs_2_23 : List Nat := [791, 798, 802, 803, 804, 805, 806, 835, 4032, 4096, 4160, 4224, 4288, 4352, 4416, 4480, 4544, 5888, 5952, 6016, 6080]
set_option maxHeartbeats 400000 in
theorem z_X12_runs_2_23 {fp : Nat → Bool} {b : mH} {m : Nat} {P : Int32 × mH → Prop} (k : Int32 → Int32 → Int32 → mH → Option (Int32 × mH))  (v1 : Int32) (ff : ∀ c ∈ W_X12_runs_2_23, fp c = false) (cp0 : v1.toInt = 0) (hk : ∀ (v3 : Int32) (v4 : Int32) (h : mH), SI fp b (m + 177429 * v4.toInt.toNat) h → 0 ≤ v4.toInt → (v3 = 0 ∨ v3 = 1) → v4.toInt ≤ 48 → ∃ r, k v1 v3 v4 h = some r ∧ P r) : ∀ (n : Nat) (v3 : Int32) (v4 : Int32) (h : mH), SI fp b (m + 177429 * v4.toInt.toNat) h → 0 ≤ v4.toInt → (v3 = 0 ∨ v3 = 1) → v4.toInt ≤ 48 → 2147483648 - v4.toInt < n → ∃ r, f_X12_runs_2_23 k  n v1 v3 v4 h = some r ∧ P r := by
  have ff_X12_handles_2 : ∀ c ∈ W_X12_handles_2, fp c = false := fun c hc => ff c ((by decide : ∀ c ∈ W_X12_handles_2, c ∈ W_X12_runs_2_23) c hc)
  have ff_X12_pauses_2 : ∀ c ∈ W_X12_pauses_2, fp c = false := fun c hc => ff c ((by decide : ∀ c ∈ W_X12_pauses_2, c ∈ W_X12_runs_2_23) c hc)
  have ff_X12_picks : ∀ c ∈ W_X12_picks, fp c = false := fun c hc => ff c ((by decide : ∀ c ∈ W_X12_picks, c ∈ W_X12_runs_2_23) c hc)
  have ff_X12_polls_2 : ∀ c ∈ W_X12_polls_2, fp c = false := fun c hc => ff c ((by decide : ∀ c ∈ W_X12_polls_2, c ∈ W_X12_runs_2_23) c hc)
  have ff_X12_puts : ∀ c ∈ W_X12_puts, fp c = false := fun c hc => ff c ((by decide : ∀ c ∈ W_X12_puts, c ∈ W_X12_runs_2_23) c hc)
  have ff_X12_reads : ∀ c ∈ W_X12_reads, fp c = false := fun c hc => ff c ((by decide : ∀ c ∈ W_X12_reads, c ∈ W_X12_runs_2_23) c hc)
  have w835 : fp 835 = false := ff 835 (by decide)
  have w6080 : fp 6080 = false := ff 6080 (by decide)
  intro n
  induction n with
  | zero =>
    intro v3 v4 h S iv0 iv1 iv2 hm
    have hz := i32_hi v4
    omega
  | succ n ih =>
    intro v3 v4 h S iv0 iv1 iv2 hm
    rw [f_X12_runs_2_23]
    have q1 : mIn v1 2 = true := (mIn_bd (by omega) (by omega))
    rw [if_pos q1]
    by_cases q2 : v4 < (h.1 93 0 v1.toNatClampNeg)
    · rw [if_pos q2]
      have b3 : 0 ≤ (h.1 93 0 v1.toNatClampNeg).toInt ∧ (h.1 93 0 v1.toNatClampNeg).toInt ≤ 48 := (S).1 93 0 v1.toNatClampNeg
      first | have hx_4 := i32_hi (v4) | skip
      first | have hx_5 := i32_lo (v4) | skip
      first | have hx_6 := i32_hi (h.1 93 0 v1.toNatClampNeg) | skip
      first | have hx_7 := i32_lo (h.1 93 0 v1.toNatClampNeg) | skip
      first | have f8 : (v4 : Int32).toInt < (h.1 93 0 v1.toNatClampNeg : Int32).toInt := Int32.lt_iff_toInt_lt.mp q2 | skip
      by_cases q9 : v3 = 0
      · rw [if_pos q9]
        have t10 : (0 : Int32).toInt = 0 := by decide
        first | have hx_11 := i32_hi (v3) | skip
        first | have hx_12 := i32_lo (v3) | skip
        first | have f13 : (v3 : Int32).toInt = (0 : Int32).toInt := congrArg Int32.toInt q9 | skip
        obtain ⟨r7, e_r7, S_r7⟩ := z_X12_handles_2 v1 h S ff_X12_handles_2 cp0
        rw [e_r7, Option.bind_some]
        have t14 : (6 : Int32).toInt = 6 := by decide
        have t15 : (50 : Int32).toInt = 50 := by decide
        first | have o16 : (50 * v1).toInt = 50 * (v1 : Int32).toInt := ti_km (by decide) (by omega) (by omega) | skip
        first | have o17 : ((50 * v1) + v4 : Int32).toInt = (50 * v1 : Int32).toInt + (v4 : Int32).toInt := ti_add (by omega) (by omega) | skip
        first | have o18 : (6 * ((50 * v1) + v4)).toInt = 6 * ((50 * v1) + v4 : Int32).toInt := ti_km (by decide) (by omega) (by omega) | skip
        have q19 : mIn (6 * ((50 * v1) + v4)) 600 = true := (mIn_bd (by omega) (by omega))
        rw [if_pos q19]
        by_cases q20 : (r7.1 94 0 (6 * ((50 * v1) + v4)).toNatClampNeg) = 0
        · rw [if_pos q20]
          have b21 := op_ok S_r7 (x := v1) (y := v4) (by omega) (by omega) (by omega) (by omega)
          unfold okP at b21
          first | have hx_22 := i32_hi (r7.1 94 0 (6 * ((50 * v1) + v4)).toNatClampNeg) | skip
          first | have hx_23 := i32_lo (r7.1 94 0 (6 * ((50 * v1) + v4)).toNatClampNeg) | skip
          first | have f24 : (r7.1 94 0 (6 * ((50 * v1) + v4)).toNatClampNeg : Int32).toInt = (0 : Int32).toInt := congrArg Int32.toInt q20 | skip
          have t25 : (1 : Int32).toInt = 1 := by decide
          first | have o26 : ((6 * ((50 * v1) + v4)) + 1 : Int32).toInt = (6 * ((50 * v1) + v4) : Int32).toInt + (1 : Int32).toInt := ti_add (by omega) (by omega) | skip
          have q27 : mIn ((6 * ((50 * v1) + v4)) + 1) 600 = true := (mIn_bd (by omega) (by omega))
          rw [if_pos q27]
          obtain ⟨r11, e_r11, S_r11⟩ := z_X12_reads (r7.1 94 0 ((6 * ((50 * v1) + v4)) + 1).toNatClampNeg) 1 r7 S_r7 ff_X12_reads 
          rw [e_r11, Option.bind_some]
          first | have o28 : (v4 + 1 : Int32).toInt = (v4 : Int32).toInt + (1 : Int32).toInt := ti_add (by omega) (by omega) | skip
          exact ih v3 (v4 + 1) (uI r11.2 95 0 v1.toNatClampNeg r11.1) (SI.mono (SI.f S_r11 rfl w6080 rfl) (by omega)) (by omega) iv1 (by omega) (by omega)
        · rw [if_neg q20]
          have b29 := op_ok S_r7 (x := v1) (y := v4) (by omega) (by omega) (by omega) (by omega)
          unfold okP at b29
          first | have hx_30 := i32_hi (r7.1 94 0 (6 * ((50 * v1) + v4)).toNatClampNeg) | skip
          first | have hx_31 := i32_lo (r7.1 94 0 (6 * ((50 * v1) + v4)).toNatClampNeg) | skip
          first | have f32 : (r7.1 94 0 (6 * ((50 * v1) + v4)).toNatClampNeg : Int32).toInt ≠ (0 : Int32).toInt := ti_ne q20 | skip
          by_cases q33 : (r7.1 94 0 (6 * ((50 * v1) + v4)).toNatClampNeg) = 1
          · rw [if_pos q33]
            have t34 : (1 : Int32).toInt = 1 := by decide
            first | have f35 : (r7.1 94 0 (6 * ((50 * v1) + v4)).toNatClampNeg : Int32).toInt = (1 : Int32).toInt := congrArg Int32.toInt q33 | skip
            obtain ⟨r13, e_r13, S_r13⟩ := z_X12_puts v1 (6 * ((50 * v1) + v4)) r7 S_r7 ff_X12_puts (by omega) (by omega) (by omega)
            rw [e_r13, Option.bind_some]
            first | have o36 : (v4 + 1 : Int32).toInt = (v4 : Int32).toInt + (1 : Int32).toInt := ti_add (by omega) (by omega) | skip
            exact ih v3 (v4 + 1) r13 (SI.mono S_r13 (by omega)) (by omega) iv1 (by omega) (by omega)
          · rw [if_neg q33]
            have t37 : (1 : Int32).toInt = 1 := by decide
            first | have f38 : (r7.1 94 0 (6 * ((50 * v1) + v4)).toNatClampNeg : Int32).toInt ≠ (1 : Int32).toInt := ti_ne q33 | skip
            by_cases q39 : (r7.1 94 0 (6 * ((50 * v1) + v4)).toNatClampNeg) = 2
            · rw [if_pos q39]
              have t40 : (2 : Int32).toInt = 2 := by decide
              first | have f41 : (r7.1 94 0 (6 * ((50 * v1) + v4)).toNatClampNeg : Int32).toInt = (2 : Int32).toInt := congrArg Int32.toInt q39 | skip
              obtain ⟨r15, e_r15, S_r15, p_r15_0⟩ := z_X12_polls_2 v1 (6 * ((50 * v1) + v4)) r7 S_r7 ff_X12_polls_2 cp0 (al6_of (by omega) (by omega) (by omega) (by omega)) (by omega)
              rw [e_r15, Option.bind_some]
              have bb_r15 := bool_bd p_r15_0
              first | have o42 : (v4 + 1 : Int32).toInt = (v4 : Int32).toInt + (1 : Int32).toInt := ti_add (by omega) (by omega) | skip
              exact ih r15.1 (v4 + 1) r15.2 (SI.mono S_r15 (by omega)) (by omega) p_r15_0 (by omega) (by omega)
            · rw [if_neg q39]
              have t43 : (2 : Int32).toInt = 2 := by decide
              first | have f44 : (r7.1 94 0 (6 * ((50 * v1) + v4)).toNatClampNeg : Int32).toInt ≠ (2 : Int32).toInt := ti_ne q39 | skip
              by_cases q45 : (r7.1 94 0 (6 * ((50 * v1) + v4)).toNatClampNeg) = 3
              · rw [if_pos q45]
                have t46 : (3 : Int32).toInt = 3 := by decide
                first | have f47 : (r7.1 94 0 (6 * ((50 * v1) + v4)).toNatClampNeg : Int32).toInt = (3 : Int32).toInt := congrArg Int32.toInt q45 | skip
                first | have o48 : ((6 * ((50 * v1) + v4)) + 1 : Int32).toInt = (6 * ((50 * v1) + v4) : Int32).toInt + (1 : Int32).toInt := ti_add (by omega) (by omega) | skip
                have q49 : mIn ((6 * ((50 * v1) + v4)) + 1) 600 = true := (mIn_bd (by omega) (by omega))
                rw [if_pos q49]
                obtain ⟨r18, e_r18, S_r18⟩ := z_X12_pauses_2 v1 (r7.1 94 0 ((6 * ((50 * v1) + v4)) + 1).toNatClampNeg) r7 S_r7 ff_X12_pauses_2 cp0 (by omega)
                rw [e_r18, Option.bind_some]
                first | have o50 : (v4 + 1 : Int32).toInt = (v4 : Int32).toInt + (1 : Int32).toInt := ti_add (by omega) (by omega) | skip
                exact ih v3 (v4 + 1) r18 (SI.mono S_r18 (by omega)) (by omega) iv1 (by omega) (by omega)
              · rw [if_neg q45]
                have t51 : (3 : Int32).toInt = 3 := by decide
                first | have f52 : (r7.1 94 0 (6 * ((50 * v1) + v4)).toNatClampNeg : Int32).toInt ≠ (3 : Int32).toInt := ti_ne q45 | skip
                by_cases q53 : (r7.1 94 0 (6 * ((50 * v1) + v4)).toNatClampNeg) = 4
                · rw [if_pos q53]
                  have t54 : (4 : Int32).toInt = 4 := by decide
                  first | have f55 : (r7.1 94 0 (6 * ((50 * v1) + v4)).toNatClampNeg : Int32).toInt = (4 : Int32).toInt := congrArg Int32.toInt q53 | skip
                  first | have o56 : ((6 * ((50 * v1) + v4)) + 1 : Int32).toInt = (6 * ((50 * v1) + v4) : Int32).toInt + (1 : Int32).toInt := ti_add (by omega) (by omega) | skip
                  have q57 : mIn ((6 * ((50 * v1) + v4)) + 1) 600 = true := (mIn_bd (by omega) (by omega))
                  rw [if_pos q57]
                  obtain ⟨r21, e_r21, S_r21⟩ := z_X12_picks v1 (r7.1 94 0 ((6 * ((50 * v1) + v4)) + 1).toNatClampNeg) r7 S_r7 ff_X12_picks (by omega) (by omega)
                  rw [e_r21, Option.bind_some]
                  first | have o58 : (v4 + 1 : Int32).toInt = (v4 : Int32).toInt + (1 : Int32).toInt := ti_add (by omega) (by omega) | skip
                  exact ih v3 (v4 + 1) r21 (SI.mono S_r21 (by omega)) (by omega) iv1 (by omega) (by omega)
                · rw [if_neg q53]
                  have t59 : (4 : Int32).toInt = 4 := by decide
                  first | have f60 : (r7.1 94 0 (6 * ((50 * v1) + v4)).toNatClampNeg : Int32).toInt ≠ (4 : Int32).toInt := ti_ne q53 | skip
                  by_cases q61 : (r7.1 94 0 (6 * ((50 * v1) + v4)).toNatClampNeg) = 5
                  · rw [if_pos q61]
                    have t62 : (5 : Int32).toInt = 5 := by decide
                    first | have f63 : (r7.1 94 0 (6 * ((50 * v1) + v4)).toNatClampNeg : Int32).toInt = (5 : Int32).toInt := congrArg Int32.toInt q61 | skip
                    first | have o64 : (v4 + 1 : Int32).toInt = (v4 : Int32).toInt + (1 : Int32).toInt := ti_add (by omega) (by omega) | skip
                    exact ih v3 (v4 + 1) (uI r7 12 0 67 1) (SI.mono (SI.f S_r7 rfl w835 rfl) (by omega)) (by omega) iv1 (by omega) (by omega)
                  · rw [if_neg q61]
                    have t65 : (5 : Int32).toInt = 5 := by decide
                    first | have f66 : (r7.1 94 0 (6 * ((50 * v1) + v4)).toNatClampNeg : Int32).toInt ≠ (5 : Int32).toInt := ti_ne q61 | skip
                    first | have o67 : (v4 + 1 : Int32).toInt = (v4 : Int32).toInt + (1 : Int32).toInt := ti_add (by omega) (by omega) | skip
                    exact ih v3 (v4 + 1) (uI r7 12 0 67 0) (SI.mono (SI.f S_r7 rfl w835 rfl) (by omega)) (by omega) iv1 (by omega) (by omega)
      · rw [if_neg q9]
        have t68 : (0 : Int32).toInt = 0 := by decide
        first | have hx_69 := i32_hi (v3) | skip
        first | have hx_70 := i32_lo (v3) | skip
        first | have f71 : (v3 : Int32).toInt ≠ (0 : Int32).toInt := ti_ne q9 | skip
        exact hk v3 v4 h S iv0 iv1 iv2
    · rw [if_neg q2]
      have b72 : 0 ≤ (h.1 93 0 v1.toNatClampNeg).toInt ∧ (h.1 93 0 v1.toNatClampNeg).toInt ≤ 48 := (S).1 93 0 v1.toNatClampNeg
      first | have hx_73 := i32_hi (v4) | skip
      first | have hx_74 := i32_lo (v4) | skip
      first | have hx_75 := i32_hi (h.1 93 0 v1.toNatClampNeg) | skip
      first | have hx_76 := i32_lo (h.1 93 0 v1.toNatClampNeg) | skip
      first | have f77 : (h.1 93 0 v1.toNatClampNeg : Int32).toInt ≤ (v4 : Int32).toInt := Int32.le_iff_toInt_le.mp (Int32.not_lt.mp q2) | skip
      exact hk v3 v4 h S iv0 iv1 iv2
def W_X12_runs_2 : List Nat := [791, 798, 802, 803, 804, 805, 806, 835, 4032, 4096, 4160, 4224, 4288, 4352, 4416, 4480, 4544, 5888, 5952, 6016, 6080]
set_option maxHeartbeats 400000 in
theorem z_X12_runs_2 {fp : Nat → Bool} {b : mH} {m : Nat} (x1 : Int32) (x2 : Int32) (h : mH) (S : SI fp b m h) (ff : ∀ c ∈ W_X12_runs_2, fp c = false) (pr0 : x1.toInt = 0) (pr1 : (0 ≤ x2.toInt ∧ x2.toInt < 6)) : ∃ r, f_X12_runs_2 x1 x2 h = some r ∧ SI fp b (m + 8524656) r.2 ∧ (r.1 = 0 ∨ r.1 = 1) := by
  have ff_X12_handles_2 : ∀ c ∈ W_X12_handles_2, fp c = false := fun c hc => ff c ((by decide : ∀ c ∈ W_X12_handles_2, c ∈ W_X12_runs_2) c hc)
  have ff_X12_makes : ∀ c ∈ W_X12_makes, fp c = false := fun c hc => ff c ((by decide : ∀ c ∈ W_X12_makes, c ∈ W_X12_runs_2) c hc)
  have ff_X12_runs_2_23 : ∀ c ∈ W_X12_runs_2_23, fp c = false := fun c hc => ff c ((by decide : ∀ c ∈ W_X12_runs_2_23, c ∈ W_X12_runs_2) c hc)
  have w835 : fp 835 = false := ff 835 (by decide)
  have w6080 : fp 6080 = false := ff 6080 (by decide)
  unfold f_X12_runs_2
  obtain ⟨r1, e_r1, S_r1⟩ := z_X12_makes x1 x2 h S ff_X12_makes (by omega) pr1
  rw [e_r1, Option.bind_some]
  have q1 : mIn x1 2 = true := (mIn_bd (by omega) (by omega))
  rw [if_pos q1]
  refine let_ex (fun h3 e_h3 => ?_)
  have S_h3 : SI fp b m h3 := e_h3 ▸ (SI.f S_r1 rfl w6080 rfl)
  obtain ⟨g2, e_g2⟩ : ∃ g, uI h3 12 0 67 0 = g := ⟨_, rfl⟩
  rw [e_g2]
  have S_g2 : SI fp b m g2 := e_g2 ▸ (SI.f S_h3 rfl w835 rfl)
  have t3 : (0 : Int32).toInt = 0 := by decide
  refine z_X12_runs_2_23 (m := m) _  x1 ff_X12_runs_2_23 pr0 (fun u24 u25 h26 S_h26 y4 y5 y6 => ?_)  mFu 0 0 g2 (SI.mono S_g2 (by omega)) (by omega) (Or.inl rfl) (by omega) (by have := mFu_big; omega)
  try dsimp only
  obtain ⟨g7, e_g7⟩ : ∃ g, uI h26 12 0 67 0 = g := ⟨_, rfl⟩
  rw [e_g7]
  have S_g7 : SI fp b (m + 177429 * u25.toInt.toNat) g7 := e_g7 ▸ (SI.f S_h26 rfl w835 rfl)
  obtain ⟨r27, e_r27, S_r27⟩ := z_X12_handles_2 x1 g7 S_g7 ff_X12_handles_2 pr0
  rw [e_r27, Option.bind_some]
  have q8 : (u24 = 0 ∨ u24 = 1) := y5
  rw [if_pos q8]
  exact ⟨_, rfl, (SI.mono S_r27 (by omega)), q8⟩
set_option maxHeartbeats 400000 in
theorem y_X12_runs_2 {fp : Nat → Bool} {b : mH} {m : Nat} (x1 : Int32) (x2 : Int32) (h : mH) (S : SI fp b m h) (ff : ∀ c ∈ W_X12_runs_2, fp c = false) (pr0 : x1.toInt = 0) (pr1 : (0 ≤ x2.toInt ∧ x2.toInt < 6)) : ∃ r, f_X12_runs_2 x1 x2 h = some r ∧ SI fp b (m + 8524656) r.2 ∧ (r.1 = 0 ∨ r.1 = 1) ∧ fz (fun c => !(W_X12_runs_2.contains c)) h r.2 ∧ tkM h 8524656 r.2 := by
  obtain ⟨r, e1, s1, q0⟩ := z_X12_runs_2 (fp := fun c => fp c || !(W_X12_runs_2.contains c)) (b := h) (m := 0) x1 x2 h (S.re _) (fun c hc => Bool.or_eq_false_iff.mpr ⟨ff c hc, by rw [List.contains_iff_mem.mpr hc]; rfl⟩) pr0 pr1
  refine ⟨r, e1, SI.mono (S.back s1 (fun c hc => Bool.or_eq_true_iff.mpr (Or.inl hc))) (by omega), q0, fun t i k hc => s1.2.2.1 t i k (Bool.or_eq_true_iff.mpr (Or.inr hc)), (s1.mono (Nat.le_of_eq (Nat.zero_add 8524656))).2.2.2.2 (Bool.or_eq_true_iff.mpr (Or.inr (by decide)))⟩
def W_X12_run : List Nat := [791, 798, 802, 803, 804, 805, 806, 835, 4032, 4096, 4160, 4224, 4288, 4352, 4416, 4480, 4544, 5888, 5952, 6016, 6080]
set_option maxHeartbeats 400000 in
theorem z_X12_run {fp : Nat → Bool} {b : mH} {m : Nat} (x1 : Int32) (h : mH) (S : SI fp b m h) (ff : ∀ c ∈ W_X12_run, fp c = false)  : ∃ r, f_X12_run x1 h = some r ∧ SI fp b (m + 8524656) r.2 := by
  have ff_X12_runs_2 : ∀ c ∈ W_X12_runs_2, fp c = false := fun c hc => ff c ((by decide : ∀ c ∈ W_X12_runs_2, c ∈ W_X12_run) c hc)
  unfold f_X12_run
  obtain ⟨⟨r1v, r1h⟩, e_r1, (hh_r1 : r1h = h), p_r1_0, p_r1_1⟩ := z_X12_isAct x1 h S  
  replace hh_r1 := hh_r1.symm
  subst hh_r1
  dsimp only at p_r1_0 p_r1_1
  have bb_r1 := bool_bd p_r1_0
  rw [e_r1, Option.bind_some]
  try dsimp only
  by_cases q1 : r1v = 0
  · rw [if_pos q1]
    have t2 : (0 : Int32).toInt = 0 := by decide
    first | have hx_3 := i32_hi (r1v) | skip
    first | have hx_4 := i32_lo (r1v) | skip
    first | have f5 : (r1v : Int32).toInt = (0 : Int32).toInt := congrArg Int32.toInt q1 | skip
    exact ⟨_, rfl, (SI.mono S (by omega))⟩
  · rw [if_neg q1]
    have t6 : (0 : Int32).toInt = 0 := by decide
    first | have hx_7 := i32_hi (r1v) | skip
    first | have hx_8 := i32_lo (r1v) | skip
    first | have f9 : (r1v : Int32).toInt ≠ (0 : Int32).toInt := ti_ne q1 | skip
    obtain ⟨r3, e_r3, S_r3, p_r3_0, fr_r3, tk_r3⟩ := y_X12_runs_2 0 x1 h S ff_X12_runs_2 (by omega) (by omega)
    rw [e_r3, Option.bind_some]
    have bb_r3 := bool_bd p_r3_0
    by_cases q10 : r3.1 = 0
    · rw [if_pos q10]
      first | have hx_11 := i32_hi (r3.1) | skip
      first | have hx_12 := i32_lo (r3.1) | skip
      first | have f13 : (r3.1 : Int32).toInt = (0 : Int32).toInt := congrArg Int32.toInt q10 | skip
      exact ⟨_, rfl, S_r3⟩
    · rw [if_neg q10]
      first | have hx_14 := i32_hi (r3.1) | skip
      first | have hx_15 := i32_lo (r3.1) | skip
      first | have f16 : (r3.1 : Int32).toInt ≠ (0 : Int32).toInt := ti_ne q10 | skip
      exact ⟨_, rfl, S_r3⟩
def W_X12_read : List Nat := [791, 798, 4032, 4160, 4224, 4416, 4480, 4544]
set_option maxHeartbeats 400000 in
theorem z_X12_read {fp : Nat → Bool} {b : mH} {m : Nat} (x1 : Int32) (h : mH) (S : SI fp b m h) (ff : ∀ c ∈ W_X12_read, fp c = false)  : ∃ r, f_X12_read x1 h = some r ∧ SI fp b (m + 1) r.2 := by
  have ff_X12_reads : ∀ c ∈ W_X12_reads, fp c = false := fun c hc => ff c ((by decide : ∀ c ∈ W_X12_reads, c ∈ W_X12_read) c hc)
  unfold f_X12_read
  obtain ⟨⟨r1v, r1h⟩, e_r1, (hh_r1 : r1h = h), p_r1_0, p_r1_1⟩ := z_X12_isRegister x1 h S  
  replace hh_r1 := hh_r1.symm
  subst hh_r1
  dsimp only at p_r1_0 p_r1_1
  have bb_r1 := bool_bd p_r1_0
  rw [e_r1, Option.bind_some]
  try dsimp only
  by_cases q1 : r1v = 0
  · rw [if_pos q1]
    have t2 : (0 : Int32).toInt = 0 := by decide
    first | have hx_3 := i32_hi (r1v) | skip
    first | have hx_4 := i32_lo (r1v) | skip
    first | have f5 : (r1v : Int32).toInt = (0 : Int32).toInt := congrArg Int32.toInt q1 | skip
    exact ⟨_, rfl, (SI.mono S (by omega))⟩
  · rw [if_neg q1]
    have t6 : (0 : Int32).toInt = 0 := by decide
    first | have hx_7 := i32_hi (r1v) | skip
    first | have hx_8 := i32_lo (r1v) | skip
    first | have f9 : (r1v : Int32).toInt ≠ (0 : Int32).toInt := ti_ne q1 | skip
    obtain ⟨r3, e_r3, S_r3⟩ := z_X12_reads x1 0 h S ff_X12_reads 
    rw [e_r3, Option.bind_some]
    exact ⟨_, rfl, S_r3⟩
def W_X12_write : List Nat := [791, 798, 802, 803, 804, 4032, 4096, 4160, 4288, 4416, 4480, 4544, 5888]
set_option maxHeartbeats 400000 in
theorem z_X12_write {fp : Nat → Bool} {b : mH} {m : Nat} (x1 : Int32) (x2 : Int32) (h : mH) (S : SI fp b m h) (ff : ∀ c ∈ W_X12_write, fp c = false)  : ∃ r, f_X12_write x1 x2 h = some r ∧ SI fp b (m + 1) r.2 := by
  have ff_X12_ticks : ∀ c ∈ W_X12_ticks, fp c = false := fun c hc => ff c ((by decide : ∀ c ∈ W_X12_ticks, c ∈ W_X12_write) c hc)
  have ff_X12_writes : ∀ c ∈ W_X12_writes, fp c = false := fun c hc => ff c ((by decide : ∀ c ∈ W_X12_writes, c ∈ W_X12_write) c hc)
  unfold f_X12_write
  obtain ⟨⟨r1v, r1h⟩, e_r1, (hh_r1 : r1h = h), p_r1_0, p_r1_1⟩ := z_X12_isRegister x1 h S  
  replace hh_r1 := hh_r1.symm
  subst hh_r1
  dsimp only at p_r1_0 p_r1_1
  have bb_r1 := bool_bd p_r1_0
  rw [e_r1, Option.bind_some]
  try dsimp only
  by_cases q1 : r1v = 0
  · rw [if_pos q1]
    have t2 : (0 : Int32).toInt = 0 := by decide
    first | have hx_3 := i32_hi (r1v) | skip
    first | have hx_4 := i32_lo (r1v) | skip
    first | have f5 : (r1v : Int32).toInt = (0 : Int32).toInt := congrArg Int32.toInt q1 | skip
    exact ⟨_, rfl, (SI.mono S (by omega))⟩
  · rw [if_neg q1]
    have t6 : (0 : Int32).toInt = 0 := by decide
    first | have hx_7 := i32_hi (r1v) | skip
    first | have hx_8 := i32_lo (r1v) | skip
    first | have f9 : (r1v : Int32).toInt ≠ (0 : Int32).toInt := ti_ne q1 | skip
    have t10 : (65535 : Int32).toInt = 65535 := by decide
    obtain ⟨⟨r3v, r3h⟩, e_r3, (hh_r3 : r3h = h), p_r3_0, p_r3_1⟩ := z_X12_in x2 0 65535 h S  
    replace hh_r3 := hh_r3.symm
    subst hh_r3
    dsimp only at p_r3_0 p_r3_1
    have bb_r3 := bool_bd p_r3_0
    rw [e_r3, Option.bind_some]
    try dsimp only
    by_cases q11 : r3v = 0
    · rw [if_pos q11]
      first | have hx_12 := i32_hi (r3v) | skip
      first | have hx_13 := i32_lo (r3v) | skip
      first | have f14 : (r3v : Int32).toInt = (0 : Int32).toInt := congrArg Int32.toInt q11 | skip
      exact ⟨_, rfl, (SI.mono S (by omega))⟩
    · rw [if_neg q11]
      first | have hx_15 := i32_hi (r3v) | skip
      first | have hx_16 := i32_lo (r3v) | skip
      first | have f17 : (r3v : Int32).toInt ≠ (0 : Int32).toInt := ti_ne q11 | skip
      obtain ⟨r5, e_r5, S_r5⟩ := z_X12_writes x1 x2 h S ff_X12_writes 
      rw [e_r5, Option.bind_some]
      obtain ⟨r6, e_r6, S_r6⟩ := z_X12_ticks  r5 S_r5 ff_X12_ticks 
      rw [e_r6, Option.bind_some]
      exact ⟨_, rfl, S_r6⟩
def W_X12_wait_14 : List Nat := [791, 798, 4032, 4160, 4416, 4480, 4544]
set_option maxHeartbeats 400000 in
theorem z_X12_wait_14 {fp : Nat → Bool} {b : mH} {m : Nat} {P : Int32 × mH → Prop} (k : Int32 → Int32 → mH → Option (Int32 × mH))  (v1 : Int32) (ff : ∀ c ∈ W_X12_wait_14, fp c = false) (cp0 : v1.toInt ≤ 50) (hk : ∀ (v2 : Int32) (h : mH), SI fp b (m + 1 * v2.toInt.toNat) h → 0 ≤ v2.toInt → v2.toInt ≤ 50 → ∃ r, k v1 v2 h = some r ∧ P r) : ∀ (n : Nat) (v2 : Int32) (h : mH), SI fp b (m + 1 * v2.toInt.toNat) h → 0 ≤ v2.toInt → v2.toInt ≤ 50 → 2147483648 - v2.toInt < n → ∃ r, f_X12_wait_14 k  n v1 v2 h = some r ∧ P r := by
  have ff_X12_ticks : ∀ c ∈ W_X12_ticks, fp c = false := fun c hc => ff c ((by decide : ∀ c ∈ W_X12_ticks, c ∈ W_X12_wait_14) c hc)
  intro n
  induction n with
  | zero =>
    intro v2 h S iv0 iv1 hm
    have hz := i32_hi v2
    omega
  | succ n ih =>
    intro v2 h S iv0 iv1 hm
    rw [f_X12_wait_14]
    by_cases q1 : v2 < v1
    · rw [if_pos q1]
      first | have hx_2 := i32_hi (v2) | skip
      first | have hx_3 := i32_lo (v2) | skip
      first | have hx_4 := i32_hi (v1) | skip
      first | have hx_5 := i32_lo (v1) | skip
      first | have f6 : (v2 : Int32).toInt < (v1 : Int32).toInt := Int32.lt_iff_toInt_lt.mp q1 | skip
      obtain ⟨r4, e_r4, S_r4⟩ := z_X12_ticks  h S ff_X12_ticks 
      rw [e_r4, Option.bind_some]
      have t7 : (1 : Int32).toInt = 1 := by decide
      first | have o8 : (v2 + 1 : Int32).toInt = (v2 : Int32).toInt + (1 : Int32).toInt := ti_add (by omega) (by omega) | skip
      exact ih (v2 + 1) r4 (SI.mono S_r4 (by omega)) (by omega) (by omega) (by omega)
    · rw [if_neg q1]
      first | have hx_9 := i32_hi (v2) | skip
      first | have hx_10 := i32_lo (v2) | skip
      first | have hx_11 := i32_hi (v1) | skip
      first | have hx_12 := i32_lo (v1) | skip
      first | have f13 : (v1 : Int32).toInt ≤ (v2 : Int32).toInt := Int32.le_iff_toInt_le.mp (Int32.not_lt.mp q1) | skip
      exact hk v2 h S iv0 iv1
def W_X12_wait : List Nat := [791, 798, 4032, 4160, 4416, 4480, 4544]
set_option maxHeartbeats 400000 in
theorem z_X12_wait {fp : Nat → Bool} {b : mH} {m : Nat} (x1 : Int32) (h : mH) (S : SI fp b m h) (ff : ∀ c ∈ W_X12_wait, fp c = false)  : ∃ r, f_X12_wait x1 h = some r ∧ SI fp b (m + 50) r.2 := by
  have ff_X12_wait_14 : ∀ c ∈ W_X12_wait_14, fp c = false := fun c hc => ff c ((by decide : ∀ c ∈ W_X12_wait_14, c ∈ W_X12_wait) c hc)
  unfold f_X12_wait
  have t1 : (0 : Int32).toInt = 0 := by decide
  have t2 : (50 : Int32).toInt = 50 := by decide
  obtain ⟨⟨r1v, r1h⟩, e_r1, (hh_r1 : r1h = h), p_r1_0, p_r1_1⟩ := z_X12_in x1 0 50 h S  
  replace hh_r1 := hh_r1.symm
  subst hh_r1
  dsimp only at p_r1_0 p_r1_1
  have bb_r1 := bool_bd p_r1_0
  rw [e_r1, Option.bind_some]
  try dsimp only
  by_cases q3 : r1v = 0
  · rw [if_pos q3]
    first | have hx_4 := i32_hi (r1v) | skip
    first | have hx_5 := i32_lo (r1v) | skip
    first | have f6 : (r1v : Int32).toInt = (0 : Int32).toInt := congrArg Int32.toInt q3 | skip
    exact ⟨_, rfl, (SI.mono S (by omega))⟩
  · rw [if_neg q3]
    first | have hx_7 := i32_hi (r1v) | skip
    first | have hx_8 := i32_lo (r1v) | skip
    first | have f9 : (r1v : Int32).toInt ≠ (0 : Int32).toInt := ti_ne q3 | skip
    refine z_X12_wait_14 (m := m) _  x1 ff_X12_wait_14 (by omega) (fun u6 h7 S_h7 y10 y11 => ?_)  mFu 0 h (SI.mono S (by omega)) (by omega) (by omega) (by have := mFu_big; omega)
    try dsimp only
    exact ⟨_, rfl, (SI.mono S_h7 (by omega))⟩
set_option maxHeartbeats 400000 in
theorem z_X12_peek {fp : Nat → Bool} {b : mH} {m : Nat} (x1 : Int32) (x2 : Int32) (h : mH) (S : SI fp b m h)   : ∃ r, f_X12_peek x1 x2 h = some r ∧ r.2 = h := by
  unfold f_X12_peek
  obtain ⟨⟨r1v, r1h⟩, e_r1, (hh_r1 : r1h = h), p_r1_0, p_r1_1⟩ := z_X12_isField x1 h S  
  replace hh_r1 := hh_r1.symm
  subst hh_r1
  dsimp only at p_r1_0 p_r1_1
  have bb_r1 := bool_bd p_r1_0
  rw [e_r1, Option.bind_some]
  try dsimp only
  by_cases q1 : r1v = 0
  · rw [if_pos q1]
    have t2 : (0 : Int32).toInt = 0 := by decide
    first | have hx_3 := i32_hi (r1v) | skip
    first | have hx_4 := i32_lo (r1v) | skip
    first | have f5 : (r1v : Int32).toInt = (0 : Int32).toInt := congrArg Int32.toInt q1 | skip
    exact ⟨_, rfl, rfl⟩
  · rw [if_neg q1]
    have t6 : (0 : Int32).toInt = 0 := by decide
    first | have hx_7 := i32_hi (r1v) | skip
    first | have hx_8 := i32_lo (r1v) | skip
    first | have f9 : (r1v : Int32).toInt ≠ (0 : Int32).toInt := ti_ne q1 | skip
    have t10 : (3 : Int32).toInt = 3 := by decide
    obtain ⟨⟨r3v, r3h⟩, e_r3, (hh_r3 : r3h = h), p_r3_0, p_r3_1⟩ := z_X12_in x2 0 3 h S  
    replace hh_r3 := hh_r3.symm
    subst hh_r3
    dsimp only at p_r3_0 p_r3_1
    have bb_r3 := bool_bd p_r3_0
    rw [e_r3, Option.bind_some]
    try dsimp only
    by_cases q11 : r3v = 0
    · rw [if_pos q11]
      first | have hx_12 := i32_hi (r3v) | skip
      first | have hx_13 := i32_lo (r3v) | skip
      first | have f14 : (r3v : Int32).toInt = (0 : Int32).toInt := congrArg Int32.toInt q11 | skip
      exact ⟨_, rfl, rfl⟩
    · rw [if_neg q11]
      first | have hx_15 := i32_hi (r3v) | skip
      first | have hx_16 := i32_lo (r3v) | skip
      first | have f17 : (r3v : Int32).toInt ≠ (0 : Int32).toInt := ti_ne q11 | skip
      have q18 : mIn x1 24 = true := (mIn_bd (by omega) (by omega))
      rw [if_pos q18]
      by_cases q19 : x2 = 0
      · rw [if_pos q19]
        first | have hx_20 := i32_hi (x2) | skip
        first | have hx_21 := i32_lo (x2) | skip
        first | have f22 : (x2 : Int32).toInt = (0 : Int32).toInt := congrArg Int32.toInt q19 | skip
        exact ⟨_, rfl, rfl⟩
      · rw [if_neg q19]
        first | have hx_23 := i32_hi (x2) | skip
        first | have hx_24 := i32_lo (x2) | skip
        first | have f25 : (x2 : Int32).toInt ≠ (0 : Int32).toInt := ti_ne q19 | skip
        by_cases q26 : x2 = 1
        · rw [if_pos q26]
          have t27 : (1 : Int32).toInt = 1 := by decide
          first | have f28 : (x2 : Int32).toInt = (1 : Int32).toInt := congrArg Int32.toInt q26 | skip
          by_cases q29 : (h.1 49 0 x1.toNatClampNeg) = 5
          · rw [if_pos q29]
            have t30 : (5 : Int32).toInt = 5 := by decide
            first | have hx_31 := i32_hi (h.1 49 0 x1.toNatClampNeg) | skip
            first | have hx_32 := i32_lo (h.1 49 0 x1.toNatClampNeg) | skip
            first | have f33 : (h.1 49 0 x1.toNatClampNeg : Int32).toInt = (5 : Int32).toInt := congrArg Int32.toInt q29 | skip
            exact ⟨_, rfl, rfl⟩
          · rw [if_neg q29]
            have t34 : (5 : Int32).toInt = 5 := by decide
            first | have hx_35 := i32_hi (h.1 49 0 x1.toNatClampNeg) | skip
            first | have hx_36 := i32_lo (h.1 49 0 x1.toNatClampNeg) | skip
            first | have f37 : (h.1 49 0 x1.toNatClampNeg : Int32).toInt ≠ (5 : Int32).toInt := ti_ne q29 | skip
            exact ⟨_, rfl, rfl⟩
        · rw [if_neg q26]
          have t38 : (1 : Int32).toInt = 1 := by decide
          first | have f39 : (x2 : Int32).toInt ≠ (1 : Int32).toInt := ti_ne q26 | skip
          by_cases q40 : x2 = 2
          · rw [if_pos q40]
            have t41 : (2 : Int32).toInt = 2 := by decide
            first | have f42 : (x2 : Int32).toInt = (2 : Int32).toInt := congrArg Int32.toInt q40 | skip
            by_cases q43 : (h.1 49 0 x1.toNatClampNeg) = 4
            · rw [if_pos q43]
              have t44 : (4 : Int32).toInt = 4 := by decide
              first | have hx_45 := i32_hi (h.1 49 0 x1.toNatClampNeg) | skip
              first | have hx_46 := i32_lo (h.1 49 0 x1.toNatClampNeg) | skip
              first | have f47 : (h.1 49 0 x1.toNatClampNeg : Int32).toInt = (4 : Int32).toInt := congrArg Int32.toInt q43 | skip
              exact ⟨_, rfl, rfl⟩
            · rw [if_neg q43]
              have t48 : (4 : Int32).toInt = 4 := by decide
              first | have hx_49 := i32_hi (h.1 49 0 x1.toNatClampNeg) | skip
              first | have hx_50 := i32_lo (h.1 49 0 x1.toNatClampNeg) | skip
              first | have f51 : (h.1 49 0 x1.toNatClampNeg : Int32).toInt ≠ (4 : Int32).toInt := ti_ne q43 | skip
              exact ⟨_, rfl, rfl⟩
          · rw [if_neg q40]
            have t52 : (2 : Int32).toInt = 2 := by decide
            first | have f53 : (x2 : Int32).toInt ≠ (2 : Int32).toInt := ti_ne q40 | skip
            by_cases q54 : (h.1 49 0 x1.toNatClampNeg) = 3
            · rw [if_pos q54]
              first | have hx_55 := i32_hi (h.1 49 0 x1.toNatClampNeg) | skip
              first | have hx_56 := i32_lo (h.1 49 0 x1.toNatClampNeg) | skip
              first | have f57 : (h.1 49 0 x1.toNatClampNeg : Int32).toInt = (3 : Int32).toInt := congrArg Int32.toInt q54 | skip
              exact ⟨_, rfl, rfl⟩
            · rw [if_neg q54]
              first | have hx_58 := i32_hi (h.1 49 0 x1.toNatClampNeg) | skip
              first | have hx_59 := i32_lo (h.1 49 0 x1.toNatClampNeg) | skip
              first | have f60 : (h.1 49 0 x1.toNatClampNeg : Int32).toInt ≠ (3 : Int32).toInt := ti_ne q54 | skip
              exact ⟨_, rfl, rfl⟩
set_option maxHeartbeats 400000 in
theorem z_X12_shadow {fp : Nat → Bool} {b : mH} {m : Nat} (x1 : Int32) (h : mH) (S : SI fp b m h)   : ∃ r, f_X12_shadow x1 h = some r ∧ r.2 = h := by
  unfold f_X12_shadow
  obtain ⟨⟨r1v, r1h⟩, e_r1, (hh_r1 : r1h = h), p_r1_0, p_r1_1⟩ := z_X12_isRegister x1 h S  
  replace hh_r1 := hh_r1.symm
  subst hh_r1
  dsimp only at p_r1_0 p_r1_1
  have bb_r1 := bool_bd p_r1_0
  rw [e_r1, Option.bind_some]
  try dsimp only
  by_cases q1 : r1v = 0
  · rw [if_pos q1]
    have t2 : (0 : Int32).toInt = 0 := by decide
    first | have hx_3 := i32_hi (r1v) | skip
    first | have hx_4 := i32_lo (r1v) | skip
    first | have f5 : (r1v : Int32).toInt = (0 : Int32).toInt := congrArg Int32.toInt q1 | skip
    exact ⟨_, rfl, rfl⟩
  · rw [if_neg q1]
    have t6 : (0 : Int32).toInt = 0 := by decide
    first | have hx_7 := i32_hi (r1v) | skip
    first | have hx_8 := i32_lo (r1v) | skip
    first | have f9 : (r1v : Int32).toInt ≠ (0 : Int32).toInt := ti_ne q1 | skip
    have q10 : mIn x1 8 = true := (mIn_bd (by omega) (by omega))
    rw [if_pos q10]
    exact ⟨_, rfl, rfl⟩
set_option maxHeartbeats 400000 in
theorem z_X12_result {fp : Nat → Bool} {b : mH} {m : Nat}  (h : mH) (S : SI fp b m h)   : ∃ r, f_X12_result h = some r ∧ r.2 = h := by
  unfold f_X12_result
  exact ⟨_, rfl, rfl⟩
set_option maxHeartbeats 400000 in
theorem z_X12_breaks {fp : Nat → Bool} {b : mH} {m : Nat} (x1 : Int32) (h : mH) (S : SI fp b m h)   : ∃ r, f_X12_breaks x1 h = some r ∧ r.2 = h := by
  unfold f_X12_breaks
  by_cases q1 : x1 = 0
  · rw [if_pos q1]
    have t2 : (0 : Int32).toInt = 0 := by decide
    first | have hx_3 := i32_hi (x1) | skip
    first | have hx_4 := i32_lo (x1) | skip
    first | have f5 : (x1 : Int32).toInt = (0 : Int32).toInt := congrArg Int32.toInt q1 | skip
    exact ⟨_, rfl, rfl⟩
  · rw [if_neg q1]
    have t6 : (0 : Int32).toInt = 0 := by decide
    first | have hx_7 := i32_hi (x1) | skip
    first | have hx_8 := i32_lo (x1) | skip
    first | have f9 : (x1 : Int32).toInt ≠ (0 : Int32).toInt := ti_ne q1 | skip
    by_cases q10 : (h.1 12 0 34) = 0
    · rw [if_pos q10]
      first | have hx_11 := i32_hi (h.1 12 0 34) | skip
      first | have hx_12 := i32_lo (h.1 12 0 34) | skip
      first | have f13 : (h.1 12 0 34 : Int32).toInt = (0 : Int32).toInt := congrArg Int32.toInt q10 | skip
      exact ⟨_, rfl, rfl⟩
    · rw [if_neg q10]
      first | have hx_14 := i32_hi (h.1 12 0 34) | skip
      first | have hx_15 := i32_lo (h.1 12 0 34) | skip
      first | have f16 : (h.1 12 0 34 : Int32).toInt ≠ (0 : Int32).toInt := ti_ne q10 | skip
      by_cases q17 : x1 = 1
      · rw [if_pos q17]
        have t18 : (1 : Int32).toInt = 1 := by decide
        first | have f19 : (x1 : Int32).toInt = (1 : Int32).toInt := congrArg Int32.toInt q17 | skip
        exact ⟨_, rfl, rfl⟩
      · rw [if_neg q17]
        have t20 : (1 : Int32).toInt = 1 := by decide
        first | have f21 : (x1 : Int32).toInt ≠ (1 : Int32).toInt := ti_ne q17 | skip
        by_cases q22 : x1 = 2
        · rw [if_pos q22]
          have t23 : (2 : Int32).toInt = 2 := by decide
          first | have f24 : (x1 : Int32).toInt = (2 : Int32).toInt := congrArg Int32.toInt q22 | skip
          exact ⟨_, rfl, rfl⟩
        · rw [if_neg q22]
          have t25 : (2 : Int32).toInt = 2 := by decide
          first | have f26 : (x1 : Int32).toInt ≠ (2 : Int32).toInt := ti_ne q22 | skip
          exact ⟨_, rfl, rfl⟩
def W_X12_stores_181 : List Nat := [4992]
set_option maxHeartbeats 400000 in
theorem z_X12_stores_181 {fp : Nat → Bool} {b : mH} {m : Nat} {P : mH → Prop} (k : Int32 → Int32 → mH → Option (mH))  (v1 : Int32) (ff : ∀ c ∈ W_X12_stores_181, fp c = false) (cp0 : (0 ≤ v1.toInt ∧ v1.toInt < 8)) (hk : ∀ (v2 : Int32) (h : mH), SI fp b m h → 0 ≤ v2.toInt → ∃ r, k v1 v2 h = some r ∧ P r) : ∀ (n : Nat) (v2 : Int32) (h : mH), SI fp b m h → 0 ≤ v2.toInt → 2147483648 - v2.toInt < n → ∃ r, f_X12_stores_181 k  n v1 v2 h = some r ∧ P r := by
  have w4992 : fp 4992 = false := ff 4992 (by decide)
  intro n
  induction n with
  | zero =>
    intro v2 h S iv0 hm
    have hz := i32_hi v2
    omega
  | succ n ih =>
    intro v2 h S iv0 hm
    rw [f_X12_stores_181]
    by_cases q1 : v2 < 8
    · rw [if_pos q1]
      have t2 : (8 : Int32).toInt = 8 := by decide
      first | have hx_3 := i32_hi (v2) | skip
      first | have hx_4 := i32_lo (v2) | skip
      first | have f5 : (v2 : Int32).toInt < (8 : Int32).toInt := Int32.lt_iff_toInt_lt.mp q1 | skip
      have q6 : mIn v2 8 = true := (mIn_bd (by omega) (by omega))
      rw [if_pos q6]
      first | have o7 : (8 * v1).toInt = 8 * (v1 : Int32).toInt := ti_km (by decide) (by omega) (by omega) | skip
      first | have o8 : ((8 * v1) + v2 : Int32).toInt = (8 * v1 : Int32).toInt + (v2 : Int32).toInt := ti_add (by omega) (by omega) | skip
      have q9 : mIn ((8 * v1) + v2) 64 = true := (mIn_bd (by omega) (by omega))
      rw [if_pos q9]
      have t10 : (1 : Int32).toInt = 1 := by decide
      first | have o11 : (v2 + 1 : Int32).toInt = (v2 : Int32).toInt + (1 : Int32).toInt := ti_add (by omega) (by omega) | skip
      exact ih (v2 + 1) (uI h 78 0 ((8 * v1) + v2).toNatClampNeg (h.1 68 0 v2.toNatClampNeg)) (SI.f S rfl w4992 rfl) (by omega) (by omega)
    · rw [if_neg q1]
      have t12 : (8 : Int32).toInt = 8 := by decide
      first | have hx_13 := i32_hi (v2) | skip
      first | have hx_14 := i32_lo (v2) | skip
      first | have f15 : (8 : Int32).toInt ≤ (v2 : Int32).toInt := Int32.le_iff_toInt_le.mp (Int32.not_lt.mp q1) | skip
      exact hk v2 h S iv0
def W_X12_stores_212 : List Nat := [5120, 5184, 5248]
set_option maxHeartbeats 400000 in
theorem z_X12_stores_212 {fp : Nat → Bool} {b : mH} {m : Nat} {P : mH → Prop} (k : Int32 → Int32 → mH → Option (mH))  (v1 : Int32) (ff : ∀ c ∈ W_X12_stores_212, fp c = false) (cp0 : (0 ≤ v1.toInt ∧ v1.toInt < 8)) (hk : ∀ (v2 : Int32) (h : mH), SI fp b m h → 0 ≤ v2.toInt → ∃ r, k v1 v2 h = some r ∧ P r) : ∀ (n : Nat) (v2 : Int32) (h : mH), SI fp b m h → 0 ≤ v2.toInt → 2147483648 - v2.toInt < n → ∃ r, f_X12_stores_212 k  n v1 v2 h = some r ∧ P r := by
  have w5120 : fp 5120 = false := ff 5120 (by decide)
  have w5184 : fp 5184 = false := ff 5184 (by decide)
  have w5248 : fp 5248 = false := ff 5248 (by decide)
  intro n
  induction n with
  | zero =>
    intro v2 h S iv0 hm
    have hz := i32_hi v2
    omega
  | succ n ih =>
    intro v2 h S iv0 hm
    rw [f_X12_stores_212]
    by_cases q1 : v2 < (h.1 12 0 30)
    · rw [if_pos q1]
      have b2 : 0 ≤ (h.1 12 0 30).toInt ∧ (h.1 12 0 30).toInt ≤ 16 := (S).1 12 0 30
      first | have hx_3 := i32_hi (v2) | skip
      first | have hx_4 := i32_lo (v2) | skip
      first | have hx_5 := i32_hi (h.1 12 0 30) | skip
      first | have hx_6 := i32_lo (h.1 12 0 30) | skip
      first | have f7 : (v2 : Int32).toInt < (h.1 12 0 30 : Int32).toInt := Int32.lt_iff_toInt_lt.mp q1 | skip
      have q8 : mIn v2 17 = true := (mIn_bd (by omega) (by omega))
      rw [if_pos q8]
      have t9 : (17 : Int32).toInt = 17 := by decide
      first | have o10 : (17 * v1).toInt = 17 * (v1 : Int32).toInt := ti_km (by decide) (by omega) (by omega) | skip
      first | have o11 : ((17 * v1) + v2 : Int32).toInt = (17 * v1 : Int32).toInt + (v2 : Int32).toInt := ti_add (by omega) (by omega) | skip
      have q12 : mIn ((17 * v1) + v2) 136 = true := (mIn_bd (by omega) (by omega))
      rw [if_pos q12]
      have b13 : 0 ≤ (h.1 69 0 v2.toNatClampNeg).toInt ∧ (h.1 69 0 v2.toNatClampNeg).toInt ≤ 23 := (S).1 69 0 v2.toNatClampNeg
      have w_14 : 0 ≤ (h.1 69 0 v2.toNatClampNeg : Int32).toInt ∧ (h.1 69 0 v2.toNatClampNeg : Int32).toInt ≤ 23 := by omega
      refine let_ex (fun h28 e_h28 => ?_)
      have S_h28 : SI fp b m h28 := e_h28 ▸ (SI.u S rfl w5120 w_14)
      refine let_ex (fun h29 e_h29 => ?_)
      have S_h29 : SI fp b m h29 := e_h29 ▸ (SI.f S_h28 rfl w5184 rfl)
      have t15 : (1 : Int32).toInt = 1 := by decide
      first | have o16 : (v2 + 1 : Int32).toInt = (v2 : Int32).toInt + (1 : Int32).toInt := ti_add (by omega) (by omega) | skip
      exact ih (v2 + 1) (uI h29 82 0 ((17 * v1) + v2).toNatClampNeg (h29.1 71 0 v2.toNatClampNeg)) (SI.f S_h29 rfl w5248 rfl) (by omega) (by omega)
    · rw [if_neg q1]
      have b17 : 0 ≤ (h.1 12 0 30).toInt ∧ (h.1 12 0 30).toInt ≤ 16 := (S).1 12 0 30
      first | have hx_18 := i32_hi (v2) | skip
      first | have hx_19 := i32_lo (v2) | skip
      first | have hx_20 := i32_hi (h.1 12 0 30) | skip
      first | have hx_21 := i32_lo (h.1 12 0 30) | skip
      first | have f22 : (h.1 12 0 30 : Int32).toInt ≤ (v2 : Int32).toInt := Int32.le_iff_toInt_le.mp (Int32.not_lt.mp q1) | skip
      exact hk v2 h S iv0
def W_X12_stores_82 : List Nat := [4672, 4736, 4800, 4864, 4928]
set_option maxHeartbeats 400000 in
theorem z_X12_stores_82 {fp : Nat → Bool} {b : mH} {m : Nat} {P : mH → Prop} (k : Int32 → Int32 → mH → Option (mH))  (v1 : Int32) (ff : ∀ c ∈ W_X12_stores_82, fp c = false) (cp0 : (0 ≤ v1.toInt ∧ v1.toInt < 8)) (hk : ∀ (v2 : Int32) (h : mH), SI fp b m h → 0 ≤ v2.toInt → ∃ r, k v1 v2 h = some r ∧ P r) : ∀ (n : Nat) (v2 : Int32) (h : mH), SI fp b m h → 0 ≤ v2.toInt → 2147483648 - v2.toInt < n → ∃ r, f_X12_stores_82 k  n v1 v2 h = some r ∧ P r := by
  have w4672 : fp 4672 = false := ff 4672 (by decide)
  have w4736 : fp 4736 = false := ff 4736 (by decide)
  have w4800 : fp 4800 = false := ff 4800 (by decide)
  have w4864 : fp 4864 = false := ff 4864 (by decide)
  have w4928 : fp 4928 = false := ff 4928 (by decide)
  intro n
  induction n with
  | zero =>
    intro v2 h S iv0 hm
    have hz := i32_hi v2
    omega
  | succ n ih =>
    intro v2 h S iv0 hm
    rw [f_X12_stores_82]
    by_cases q1 : v2 < 24
    · rw [if_pos q1]
      have t2 : (24 : Int32).toInt = 24 := by decide
      first | have hx_3 := i32_hi (v2) | skip
      first | have hx_4 := i32_lo (v2) | skip
      first | have f5 : (v2 : Int32).toInt < (24 : Int32).toInt := Int32.lt_iff_toInt_lt.mp q1 | skip
      have q6 : mIn v2 24 = true := (mIn_bd (by omega) (by omega))
      rw [if_pos q6]
      first | have o7 : (24 * v1).toInt = 24 * (v1 : Int32).toInt := ti_km (by decide) (by omega) (by omega) | skip
      first | have o8 : ((24 * v1) + v2 : Int32).toInt = (24 * v1 : Int32).toInt + (v2 : Int32).toInt := ti_add (by omega) (by omega) | skip
      have q9 : mIn ((24 * v1) + v2) 192 = true := (mIn_bd (by omega) (by omega))
      rw [if_pos q9]
      refine let_ex (fun h12 e_h12 => ?_)
      have S_h12 : SI fp b m h12 := e_h12 ▸ (SI.f S rfl w4672 rfl)
      refine let_ex (fun h13 e_h13 => ?_)
      have S_h13 : SI fp b m h13 := e_h13 ▸ (SI.f S_h12 rfl w4736 rfl)
      refine let_ex (fun h14 e_h14 => ?_)
      have S_h14 : SI fp b m h14 := e_h14 ▸ (SI.f S_h13 rfl w4800 rfl)
      refine let_ex (fun h15 e_h15 => ?_)
      have S_h15 : SI fp b m h15 := e_h15 ▸ (SI.f S_h14 rfl w4864 rfl)
      have t10 : (1 : Int32).toInt = 1 := by decide
      first | have o11 : (v2 + 1 : Int32).toInt = (v2 : Int32).toInt + (1 : Int32).toInt := ti_add (by omega) (by omega) | skip
      exact ih (v2 + 1) (uI h15 77 0 ((24 * v1) + v2).toNatClampNeg (h15.1 67 0 v2.toNatClampNeg)) (SI.f S_h15 rfl w4928 rfl) (by omega) (by omega)
    · rw [if_neg q1]
      have t12 : (24 : Int32).toInt = 24 := by decide
      first | have hx_13 := i32_hi (v2) | skip
      first | have hx_14 := i32_lo (v2) | skip
      first | have f15 : (24 : Int32).toInt ≤ (v2 : Int32).toInt := Int32.le_iff_toInt_le.mp (Int32.not_lt.mp q1) | skip
      exact hk v2 h S iv0
def W_X12_stores : List Nat := [4608, 4672, 4736, 4800, 4864, 4928, 4992, 5056, 5120, 5184, 5248, 5312, 5376, 5440, 5504, 5568, 5632]
set_option maxHeartbeats 400000 in
theorem z_X12_stores {fp : Nat → Bool} {b : mH} {m : Nat} (x1 : Int32) (h : mH) (S : SI fp b m h) (ff : ∀ c ∈ W_X12_stores, fp c = false) (pr0 : (0 ≤ x1.toInt ∧ x1.toInt < 8)) : ∃ r, f_X12_stores x1 h = some r ∧ SI fp b m r ∧ (r.1 72 0 x1.toNatClampNeg = r.1 12 0 23) := by
  have ff_X12_stores_181 : ∀ c ∈ W_X12_stores_181, fp c = false := fun c hc => ff c ((by decide : ∀ c ∈ W_X12_stores_181, c ∈ W_X12_stores) c hc)
  have ff_X12_stores_212 : ∀ c ∈ W_X12_stores_212, fp c = false := fun c hc => ff c ((by decide : ∀ c ∈ W_X12_stores_212, c ∈ W_X12_stores) c hc)
  have ff_X12_stores_82 : ∀ c ∈ W_X12_stores_82, fp c = false := fun c hc => ff c ((by decide : ∀ c ∈ W_X12_stores_82, c ∈ W_X12_stores) c hc)
  have w4608 : fp 4608 = false := ff 4608 (by decide)
  have w5056 : fp 5056 = false := ff 5056 (by decide)
  have w5312 : fp 5312 = false := ff 5312 (by decide)
  have w5376 : fp 5376 = false := ff 5376 (by decide)
  have w5440 : fp 5440 = false := ff 5440 (by decide)
  have w5504 : fp 5504 = false := ff 5504 (by decide)
  have w5568 : fp 5568 = false := ff 5568 (by decide)
  have w5632 : fp 5632 = false := ff 5632 (by decide)
  unfold f_X12_stores
  have q1 : mIn x1 8 = true := (mIn_bd (by omega) (by omega))
  rw [if_pos q1]
  refine let_ex (fun h2 e_h2 => ?_)
  have S_h2 : SI fp b m h2 := e_h2 ▸ (SI.f S rfl w4608 rfl)
  have b2 : 0 ≤ (h2.1 12 0 30).toInt ∧ (h2.1 12 0 30).toInt ≤ 16 := (S_h2).1 12 0 30
  have l3 : (h2.1 12 0 30).toInt = (h.1 12 0 30).toInt := by rw [← e_h2, uI_t _ rfl]
  have b4 : 0 ≤ (h.1 12 0 30).toInt ∧ (h.1 12 0 30).toInt ≤ 16 := (S).1 12 0 30
  have w_5 : 0 ≤ (h2.1 12 0 30 : Int32).toInt ∧ (h2.1 12 0 30 : Int32).toInt ≤ 16 := by omega
  refine let_ex (fun h3 e_h3 => ?_)
  have S_h3 : SI fp b m h3 := e_h3 ▸ (SI.u S_h2 rfl w5056 w_5)
  refine let_ex (fun h4 e_h4 => ?_)
  have S_h4 : SI fp b m h4 := e_h4 ▸ (SI.f S_h3 rfl w5312 rfl)
  refine let_ex (fun h5 e_h5 => ?_)
  have S_h5 : SI fp b m h5 := e_h5 ▸ (SI.f S_h4 rfl w5376 rfl)
  refine let_ex (fun h6 e_h6 => ?_)
  have S_h6 : SI fp b m h6 := e_h6 ▸ (SI.f S_h5 rfl w5440 rfl)
  refine let_ex (fun h7 e_h7 => ?_)
  have S_h7 : SI fp b m h7 := e_h7 ▸ (SI.f S_h6 rfl w5504 rfl)
  refine let_ex (fun h8 e_h8 => ?_)
  have S_h8 : SI fp b m h8 := e_h8 ▸ (SI.f S_h7 rfl w5568 rfl)
  obtain ⟨g6, e_g6⟩ : ∃ g, uI h8 88 0 x1.toNatClampNeg (h8.1 12 0 55) = g := ⟨_, rfl⟩
  rw [e_g6]
  have S_g6 : SI fp b m g6 := e_g6 ▸ (SI.f S_h8 rfl w5632 rfl)
  have t7 : (0 : Int32).toInt = 0 := by decide
  have R0 : SI (fun c => fp c || ([4608, 791] : List Nat).contains c) g6 0 g6 := S_g6.re _
  refine z_X12_stores_82 (m := 0) _  x1 (fun c hc => Bool.or_eq_false_iff.mpr ⟨ff_X12_stores_82 c hc, (by decide : ∀ c ∈ W_X12_stores_82, ([4608, 791] : List Nat).contains c = false) c hc⟩) pr0 (fun u17 h18 S_h18 y8 => ?_)  mFu 0 g6 R0 (by omega) (by have := mFu_big; omega)
  try dsimp only
  refine z_X12_stores_181 (m := 0) _  x1 (fun c hc => Bool.or_eq_false_iff.mpr ⟨ff_X12_stores_181 c hc, (by decide : ∀ c ∈ W_X12_stores_181, ([4608, 791] : List Nat).contains c = false) c hc⟩) pr0 (fun u23 h24 S_h24 y9 => ?_)  mFu 0 h18 S_h18 (by omega) (by have := mFu_big; omega)
  try dsimp only
  refine z_X12_stores_212 (m := 0) _  x1 (fun c hc => Bool.or_eq_false_iff.mpr ⟨ff_X12_stores_212 c hc, (by decide : ∀ c ∈ W_X12_stores_212, ([4608, 791] : List Nat).contains c = false) c hc⟩) pr0 (fun u31 h32 S_h32 y10 => ?_)  mFu 0 h24 S_h24 (by omega) (by have := mFu_big; omega)
  try dsimp only
  have k1 : h32.1 72 0 x1.toNatClampNeg = g6.1 72 0 x1.toNatClampNeg := (S_h32.2.2.1 72 0 _ (Bool.or_eq_true_iff.mpr (Or.inr rfl))).1
  have k2 : h32.1 12 0 23 = g6.1 12 0 23 := (S_h32.2.2.1 12 0 23 (Bool.or_eq_true_iff.mpr (Or.inr rfl))).1
  have k3 : g6.1 72 0 x1.toNatClampNeg = h.1 12 0 23 := by rw [← e_g6, uI_t _ rfl, ← e_h8, uI_t _ rfl, ← e_h7, uI_t _ rfl, ← e_h6, uI_t _ rfl, ← e_h5, uI_t _ rfl, ← e_h4, uI_t _ rfl, ← e_h3, uI_t _ rfl, ← e_h2, uI_s']
  have k4 : g6.1 12 0 23 = h.1 12 0 23 := by rw [← e_g6, uI_t _ rfl, ← e_h8, uI_t _ rfl, ← e_h7, uI_t _ rfl, ← e_h6, uI_t _ rfl, ← e_h5, uI_t _ rfl, ← e_h4, uI_t _ rfl, ← e_h3, uI_t _ rfl, ← e_h2, uI_t _ rfl]
  have pp := k1.trans (k3.trans (k2.trans k4).symm)
  exact ⟨_, rfl, SI.mono (S_g6.back S_h32 (fun c hc => Bool.or_eq_true_iff.mpr (Or.inl hc))) (by omega), pp⟩
set_option maxHeartbeats 400000 in
theorem y_X12_stores {fp : Nat → Bool} {b : mH} {m : Nat} (x1 : Int32) (h : mH) (S : SI fp b m h) (ff : ∀ c ∈ W_X12_stores, fp c = false) (pr0 : (0 ≤ x1.toInt ∧ x1.toInt < 8)) : ∃ r, f_X12_stores x1 h = some r ∧ SI fp b m r ∧ (r.1 72 0 x1.toNatClampNeg = r.1 12 0 23) ∧ fz (fun c => !(W_X12_stores.contains c)) h r := by
  obtain ⟨r, e1, s1, q0⟩ := z_X12_stores (fp := fun c => fp c || !(W_X12_stores.contains c)) (b := h) (m := 0) x1 h (S.re _) (fun c hc => Bool.or_eq_false_iff.mpr ⟨ff c hc, by rw [List.contains_iff_mem.mpr hc]; rfl⟩) pr0
  refine ⟨r, e1, SI.mono (S.back s1 (fun c hc => Bool.or_eq_true_iff.mpr (Or.inl hc))) (by omega), q0, fun t i k hc => s1.2.2.1 t i k (Bool.or_eq_true_iff.mpr (Or.inr hc))⟩
def W_X12_brings_171 : List Nat := [4352]
set_option maxHeartbeats 400000 in
theorem z_X12_brings_171 {fp : Nat → Bool} {b : mH} {m : Nat} {P : mH → Prop} (k : Int32 → Int32 → mH → Option (mH))  (v1 : Int32) (ff : ∀ c ∈ W_X12_brings_171, fp c = false) (cp0 : (0 ≤ v1.toInt ∧ v1.toInt < 8)) (hk : ∀ (v2 : Int32) (h : mH), SI fp b m h → 0 ≤ v2.toInt → ∃ r, k v1 v2 h = some r ∧ P r) : ∀ (n : Nat) (v2 : Int32) (h : mH), SI fp b m h → 0 ≤ v2.toInt → 2147483648 - v2.toInt < n → ∃ r, f_X12_brings_171 k  n v1 v2 h = some r ∧ P r := by
  have w4352 : fp 4352 = false := ff 4352 (by decide)
  intro n
  induction n with
  | zero =>
    intro v2 h S iv0 hm
    have hz := i32_hi v2
    omega
  | succ n ih =>
    intro v2 h S iv0 hm
    rw [f_X12_brings_171]
    by_cases q1 : v2 < 8
    · rw [if_pos q1]
      have t2 : (8 : Int32).toInt = 8 := by decide
      first | have hx_3 := i32_hi (v2) | skip
      first | have hx_4 := i32_lo (v2) | skip
      first | have f5 : (v2 : Int32).toInt < (8 : Int32).toInt := Int32.lt_iff_toInt_lt.mp q1 | skip
      first | have o6 : (8 * v1).toInt = 8 * (v1 : Int32).toInt := ti_km (by decide) (by omega) (by omega) | skip
      first | have o7 : ((8 * v1) + v2 : Int32).toInt = (8 * v1 : Int32).toInt + (v2 : Int32).toInt := ti_add (by omega) (by omega) | skip
      have q8 : mIn ((8 * v1) + v2) 64 = true := (mIn_bd (by omega) (by omega))
      rw [if_pos q8]
      have q9 : mIn v2 8 = true := (mIn_bd (by omega) (by omega))
      rw [if_pos q9]
      have t10 : (1 : Int32).toInt = 1 := by decide
      first | have o11 : (v2 + 1 : Int32).toInt = (v2 : Int32).toInt + (1 : Int32).toInt := ti_add (by omega) (by omega) | skip
      exact ih (v2 + 1) (uI h 68 0 v2.toNatClampNeg (h.1 78 0 ((8 * v1) + v2).toNatClampNeg)) (SI.f S rfl w4352 rfl) (by omega) (by omega)
    · rw [if_neg q1]
      have t12 : (8 : Int32).toInt = 8 := by decide
      first | have hx_13 := i32_hi (v2) | skip
      first | have hx_14 := i32_lo (v2) | skip
      first | have f15 : (8 : Int32).toInt ≤ (v2 : Int32).toInt := Int32.le_iff_toInt_le.mp (Int32.not_lt.mp q1) | skip
      exact hk v2 h S iv0
def W_X12_brings_202 : List Nat := [4416, 4480, 4544]
set_option maxHeartbeats 400000 in
theorem z_X12_brings_202 {fp : Nat → Bool} {b : mH} {m : Nat} {P : mH → Prop} (k : Int32 → Int32 → mH → Option (mH))  (v1 : Int32) (ff : ∀ c ∈ W_X12_brings_202, fp c = false) (cp0 : (0 ≤ v1.toInt ∧ v1.toInt < 8)) (hk : ∀ (v2 : Int32) (h : mH), SI fp b m h → 0 ≤ v2.toInt → ∃ r, k v1 v2 h = some r ∧ P r) : ∀ (n : Nat) (v2 : Int32) (h : mH), SI fp b m h → 0 ≤ v2.toInt → 2147483648 - v2.toInt < n → ∃ r, f_X12_brings_202 k  n v1 v2 h = some r ∧ P r := by
  have w4416 : fp 4416 = false := ff 4416 (by decide)
  have w4480 : fp 4480 = false := ff 4480 (by decide)
  have w4544 : fp 4544 = false := ff 4544 (by decide)
  intro n
  induction n with
  | zero =>
    intro v2 h S iv0 hm
    have hz := i32_hi v2
    omega
  | succ n ih =>
    intro v2 h S iv0 hm
    rw [f_X12_brings_202]
    by_cases q1 : v2 < (h.1 12 0 30)
    · rw [if_pos q1]
      have b2 : 0 ≤ (h.1 12 0 30).toInt ∧ (h.1 12 0 30).toInt ≤ 16 := (S).1 12 0 30
      first | have hx_3 := i32_hi (v2) | skip
      first | have hx_4 := i32_lo (v2) | skip
      first | have hx_5 := i32_hi (h.1 12 0 30) | skip
      first | have hx_6 := i32_lo (h.1 12 0 30) | skip
      first | have f7 : (v2 : Int32).toInt < (h.1 12 0 30 : Int32).toInt := Int32.lt_iff_toInt_lt.mp q1 | skip
      have t8 : (17 : Int32).toInt = 17 := by decide
      first | have o9 : (17 * v1).toInt = 17 * (v1 : Int32).toInt := ti_km (by decide) (by omega) (by omega) | skip
      first | have o10 : ((17 * v1) + v2 : Int32).toInt = (17 * v1 : Int32).toInt + (v2 : Int32).toInt := ti_add (by omega) (by omega) | skip
      have q11 : mIn ((17 * v1) + v2) 136 = true := (mIn_bd (by omega) (by omega))
      rw [if_pos q11]
      have q12 : mIn v2 17 = true := (mIn_bd (by omega) (by omega))
      rw [if_pos q12]
      have b13 : 0 ≤ (h.1 80 0 ((17 * v1) + v2).toNatClampNeg).toInt ∧ (h.1 80 0 ((17 * v1) + v2).toNatClampNeg).toInt ≤ 23 := (S).1 80 0 (((17 * v1) + v2).toNatClampNeg)
      have w_14 : 0 ≤ (h.1 80 0 ((17 * v1) + v2).toNatClampNeg : Int32).toInt ∧ (h.1 80 0 ((17 * v1) + v2).toNatClampNeg : Int32).toInt ≤ 23 := by omega
      refine let_ex (fun h27 e_h27 => ?_)
      have S_h27 : SI fp b m h27 := e_h27 ▸ (SI.u S rfl w4416 w_14)
      refine let_ex (fun h28 e_h28 => ?_)
      have S_h28 : SI fp b m h28 := e_h28 ▸ (SI.f S_h27 rfl w4480 rfl)
      have t15 : (1 : Int32).toInt = 1 := by decide
      first | have o16 : (v2 + 1 : Int32).toInt = (v2 : Int32).toInt + (1 : Int32).toInt := ti_add (by omega) (by omega) | skip
      exact ih (v2 + 1) (uI h28 71 0 v2.toNatClampNeg (h28.1 82 0 ((17 * v1) + v2).toNatClampNeg)) (SI.f S_h28 rfl w4544 rfl) (by omega) (by omega)
    · rw [if_neg q1]
      have b17 : 0 ≤ (h.1 12 0 30).toInt ∧ (h.1 12 0 30).toInt ≤ 16 := (S).1 12 0 30
      first | have hx_18 := i32_hi (v2) | skip
      first | have hx_19 := i32_lo (v2) | skip
      first | have hx_20 := i32_hi (h.1 12 0 30) | skip
      first | have hx_21 := i32_lo (h.1 12 0 30) | skip
      first | have f22 : (h.1 12 0 30 : Int32).toInt ≤ (v2 : Int32).toInt := Int32.le_iff_toInt_le.mp (Int32.not_lt.mp q1) | skip
      exact hk v2 h S iv0
def W_X12_brings_72 : List Nat := [4032, 4096, 4160, 4224, 4288]
set_option maxHeartbeats 400000 in
theorem z_X12_brings_72 {fp : Nat → Bool} {b : mH} {m : Nat} {P : mH → Prop} (k : Int32 → Int32 → mH → Option (mH))  (v1 : Int32) (ff : ∀ c ∈ W_X12_brings_72, fp c = false) (cp0 : (0 ≤ v1.toInt ∧ v1.toInt < 8)) (hk : ∀ (v2 : Int32) (h : mH), SI fp b m h → 0 ≤ v2.toInt → ∃ r, k v1 v2 h = some r ∧ P r) : ∀ (n : Nat) (v2 : Int32) (h : mH), SI fp b m h → 0 ≤ v2.toInt → 2147483648 - v2.toInt < n → ∃ r, f_X12_brings_72 k  n v1 v2 h = some r ∧ P r := by
  have w4032 : fp 4032 = false := ff 4032 (by decide)
  have w4096 : fp 4096 = false := ff 4096 (by decide)
  have w4160 : fp 4160 = false := ff 4160 (by decide)
  have w4224 : fp 4224 = false := ff 4224 (by decide)
  have w4288 : fp 4288 = false := ff 4288 (by decide)
  intro n
  induction n with
  | zero =>
    intro v2 h S iv0 hm
    have hz := i32_hi v2
    omega
  | succ n ih =>
    intro v2 h S iv0 hm
    rw [f_X12_brings_72]
    by_cases q1 : v2 < 24
    · rw [if_pos q1]
      have t2 : (24 : Int32).toInt = 24 := by decide
      first | have hx_3 := i32_hi (v2) | skip
      first | have hx_4 := i32_lo (v2) | skip
      first | have f5 : (v2 : Int32).toInt < (24 : Int32).toInt := Int32.lt_iff_toInt_lt.mp q1 | skip
      first | have o6 : (24 * v1).toInt = 24 * (v1 : Int32).toInt := ti_km (by decide) (by omega) (by omega) | skip
      first | have o7 : ((24 * v1) + v2 : Int32).toInt = (24 * v1 : Int32).toInt + (v2 : Int32).toInt := ti_add (by omega) (by omega) | skip
      have q8 : mIn ((24 * v1) + v2) 192 = true := (mIn_bd (by omega) (by omega))
      rw [if_pos q8]
      have q9 : mIn v2 24 = true := (mIn_bd (by omega) (by omega))
      rw [if_pos q9]
      refine let_ex (fun h11 e_h11 => ?_)
      have S_h11 : SI fp b m h11 := e_h11 ▸ (SI.f S rfl w4032 rfl)
      refine let_ex (fun h12 e_h12 => ?_)
      have S_h12 : SI fp b m h12 := e_h12 ▸ (SI.f S_h11 rfl w4096 rfl)
      refine let_ex (fun h13 e_h13 => ?_)
      have S_h13 : SI fp b m h13 := e_h13 ▸ (SI.f S_h12 rfl w4160 rfl)
      refine let_ex (fun h14 e_h14 => ?_)
      have S_h14 : SI fp b m h14 := e_h14 ▸ (SI.f S_h13 rfl w4224 rfl)
      have t10 : (1 : Int32).toInt = 1 := by decide
      first | have o11 : (v2 + 1 : Int32).toInt = (v2 : Int32).toInt + (1 : Int32).toInt := ti_add (by omega) (by omega) | skip
      exact ih (v2 + 1) (uI h14 67 0 v2.toNatClampNeg (h14.1 77 0 ((24 * v1) + v2).toNatClampNeg)) (SI.f S_h14 rfl w4288 rfl) (by omega) (by omega)
    · rw [if_neg q1]
      have t12 : (24 : Int32).toInt = 24 := by decide
      first | have hx_13 := i32_hi (v2) | skip
      first | have hx_14 := i32_lo (v2) | skip
      first | have f15 : (24 : Int32).toInt ≤ (v2 : Int32).toInt := Int32.le_iff_toInt_le.mp (Int32.not_lt.mp q1) | skip
      exact hk v2 h S iv0
def W_X12_brings : List Nat := [791, 798, 802, 803, 804, 805, 806, 4032, 4096, 4160, 4224, 4288, 4352, 4416, 4480, 4544, 9999]
set_option maxHeartbeats 400000 in
theorem z_X12_brings {fp : Nat → Bool} {b : mH} {m : Nat} (x1 : Int32) (h : mH) (S : SI fp b m h) (ff : ∀ c ∈ W_X12_brings, fp c = false) (pr0 : (0 ≤ x1.toInt ∧ x1.toInt < 8)) : ∃ r, f_X12_brings x1 h = some r ∧ SI fp b m r ∧ (r.1 12 0 30).toInt = (h.1 79 0 x1.toNatClampNeg).toInt := by
  have ff_X12_brings_171 : ∀ c ∈ W_X12_brings_171, fp c = false := fun c hc => ff c ((by decide : ∀ c ∈ W_X12_brings_171, c ∈ W_X12_brings) c hc)
  have ff_X12_brings_202 : ∀ c ∈ W_X12_brings_202, fp c = false := fun c hc => ff c ((by decide : ∀ c ∈ W_X12_brings_202, c ∈ W_X12_brings) c hc)
  have ff_X12_brings_72 : ∀ c ∈ W_X12_brings_72, fp c = false := fun c hc => ff c ((by decide : ∀ c ∈ W_X12_brings_72, c ∈ W_X12_brings) c hc)
  have w791 : fp 791 = false := ff 791 (by decide)
  have w798 : fp 798 = false := ff 798 (by decide)
  have w802 : fp 802 = false := ff 802 (by decide)
  have w803 : fp 803 = false := ff 803 (by decide)
  have w804 : fp 804 = false := ff 804 (by decide)
  have w805 : fp 805 = false := ff 805 (by decide)
  have w806 : fp 806 = false := ff 806 (by decide)
  have w9999 : fp 9999 = false := ff 9999 (by decide)
  unfold f_X12_brings
  have q1 : mIn x1 8 = true := (mIn_bd (by omega) (by omega))
  rw [if_pos q1]
  refine let_ex (fun h2 e_h2 => ?_)
  have S_h2 : SI fp b m h2 := e_h2 ▸ (SI.un S w9999 w791)
  have b2 : 0 ≤ (h2.1 79 0 x1.toNatClampNeg).toInt ∧ (h2.1 79 0 x1.toNatClampNeg).toInt ≤ 16 := (S_h2).1 79 0 x1.toNatClampNeg
  have l3 : (h2.1 79 0 x1.toNatClampNeg).toInt = (h.1 79 0 x1.toNatClampNeg).toInt := by rw [← e_h2, uI_t _ rfl]
  have b4 : 0 ≤ (h.1 79 0 x1.toNatClampNeg).toInt ∧ (h.1 79 0 x1.toNatClampNeg).toInt ≤ 16 := (S).1 79 0 x1.toNatClampNeg
  have w_5 : 0 ≤ (h2.1 79 0 x1.toNatClampNeg : Int32).toInt ∧ (h2.1 79 0 x1.toNatClampNeg : Int32).toInt ≤ 16 := by omega
  refine let_ex (fun h3 e_h3 => ?_)
  have S_h3 : SI fp b m h3 := e_h3 ▸ (SI.u S_h2 rfl w798 w_5)
  refine let_ex (fun h4 e_h4 => ?_)
  have S_h4 : SI fp b m h4 := e_h4 ▸ (SI.f S_h3 rfl w802 rfl)
  refine let_ex (fun h5 e_h5 => ?_)
  have S_h5 : SI fp b m h5 := e_h5 ▸ (SI.f S_h4 rfl w803 rfl)
  refine let_ex (fun h6 e_h6 => ?_)
  have S_h6 : SI fp b m h6 := e_h6 ▸ (SI.f S_h5 rfl w804 rfl)
  refine let_ex (fun h7 e_h7 => ?_)
  have S_h7 : SI fp b m h7 := e_h7 ▸ (SI.f S_h6 rfl w805 rfl)
  obtain ⟨g6, e_g6⟩ : ∃ g, uI h7 12 0 38 (h7.1 87 0 x1.toNatClampNeg) = g := ⟨_, rfl⟩
  rw [e_g6]
  have S_g6 : SI fp b m g6 := e_g6 ▸ (SI.f S_h7 rfl w806 rfl)
  have t7 : (0 : Int32).toInt = 0 := by decide
  have R0 : SI (fun c => fp c || ([798] : List Nat).contains c) g6 0 g6 := S_g6.re _
  refine z_X12_brings_72 (m := 0) _  x1 (fun c hc => Bool.or_eq_false_iff.mpr ⟨ff_X12_brings_72 c hc, (by decide : ∀ c ∈ W_X12_brings_72, ([798] : List Nat).contains c = false) c hc⟩) pr0 (fun u16 h17 S_h17 y8 => ?_)  mFu 0 g6 R0 (by omega) (by have := mFu_big; omega)
  try dsimp only
  refine z_X12_brings_171 (m := 0) _  x1 (fun c hc => Bool.or_eq_false_iff.mpr ⟨ff_X12_brings_171 c hc, (by decide : ∀ c ∈ W_X12_brings_171, ([798] : List Nat).contains c = false) c hc⟩) pr0 (fun u22 h23 S_h23 y9 => ?_)  mFu 0 h17 S_h17 (by omega) (by have := mFu_big; omega)
  try dsimp only
  refine z_X12_brings_202 (m := 0) _  x1 (fun c hc => Bool.or_eq_false_iff.mpr ⟨ff_X12_brings_202 c hc, (by decide : ∀ c ∈ W_X12_brings_202, ([798] : List Nat).contains c = false) c hc⟩) pr0 (fun u30 h31 S_h31 y10 => ?_)  mFu 0 h23 S_h23 (by omega) (by have := mFu_big; omega)
  try dsimp only
  have b11 : 0 ≤ (h31.1 12 0 30).toInt ∧ (h31.1 12 0 30).toInt ≤ 16 := (S_h31).1 12 0 30
  have k2 : h31.1 12 0 30 = g6.1 12 0 30 := (S_h31.2.2.1 12 0 30 (Bool.or_eq_true_iff.mpr (Or.inr rfl))).1
  have k4 : g6.1 12 0 30 = h.1 79 0 x1.toNatClampNeg := by rw [← e_g6, uI_k _ rfl, ← e_h7, uI_k _ rfl, ← e_h6, uI_k _ rfl, ← e_h5, uI_k _ rfl, ← e_h4, uI_k _ rfl, ← e_h3, uI_s', ← e_h2, uI_t _ rfl]
  have pp := congrArg Int32.toInt (k2.trans k4)
  exact ⟨_, rfl, SI.mono (S_g6.back S_h31 (fun c hc => Bool.or_eq_true_iff.mpr (Or.inl hc))) (by omega), pp⟩
set_option maxHeartbeats 400000 in
theorem y_X12_brings {fp : Nat → Bool} {b : mH} {m : Nat} (x1 : Int32) (h : mH) (S : SI fp b m h) (ff : ∀ c ∈ W_X12_brings, fp c = false) (pr0 : (0 ≤ x1.toInt ∧ x1.toInt < 8)) : ∃ r, f_X12_brings x1 h = some r ∧ SI fp b m r ∧ (r.1 12 0 30).toInt = (h.1 79 0 x1.toNatClampNeg).toInt ∧ fz (fun c => !(W_X12_brings.contains c)) h r := by
  obtain ⟨r, e1, s1, q0⟩ := z_X12_brings (fp := fun c => fp c || !(W_X12_brings.contains c)) (b := h) (m := 0) x1 h (S.re _) (fun c hc => Bool.or_eq_false_iff.mpr ⟨ff c hc, by rw [List.contains_iff_mem.mpr hc]; rfl⟩) pr0
  refine ⟨r, e1, SI.mono (S.back s1 (fun c hc => Bool.or_eq_true_iff.mpr (Or.inl hc))) (by omega), q0, fun t i k hc => s1.2.2.1 t i k (Bool.or_eq_true_iff.mpr (Or.inr hc))⟩
set_option maxHeartbeats 400000 in
theorem z_X12_setTo_8 {fp : Nat → Bool} {b : mH} {m : Nat} {P : Int32 × mH → Prop} (k : Int32 → Int32 → Int32 → Int32 → mH → Option (Int32 × mH))  (v1 : Int32) (v2 : Int32) (h : mH) (S : SI fp b m h) (cp0 : (0 ≤ v1.toInt ∧ v1.toInt < 6)) (hk : ∀ (v3 : Int32) (v4 : Int32), 0 ≤ v4.toInt → ∃ r, k v1 v2 v3 v4 h = some r ∧ P r) : ∀ (n : Nat) (v3 : Int32) (v4 : Int32), 0 ≤ v4.toInt → 2147483648 - v4.toInt < n → ∃ r, f_X12_setTo_8 k  n v1 v2 v3 v4 h = some r ∧ P r := by
  intro n
  induction n with
  | zero =>
    intro v3 v4 iv0 hm
    have hz := i32_hi v4
    omega
  | succ n ih =>
    intro v3 v4 iv0 hm
    rw [f_X12_setTo_8]
    have q1 : mIn v1 6 = true := (mIn_bd (by omega) (by omega))
    rw [if_pos q1]
    by_cases q2 : v4 < ((12 * v1) + (h.1 58 0 v1.toNatClampNeg))
    · rw [if_pos q2]
      have t3 : (12 : Int32).toInt = 12 := by decide
      first | have o4 : (12 * v1).toInt = 12 * (v1 : Int32).toInt := ti_km (by decide) (by omega) (by omega) | skip
      have b5 : 0 ≤ (h.1 58 0 v1.toNatClampNeg).toInt ∧ (h.1 58 0 v1.toNatClampNeg).toInt ≤ 12 := (S).1 58 0 v1.toNatClampNeg
      first | have o6 : ((12 * v1) + (h.1 58 0 v1.toNatClampNeg) : Int32).toInt = (12 * v1 : Int32).toInt + (h.1 58 0 v1.toNatClampNeg : Int32).toInt := ti_add (by omega) (by omega) | skip
      first | have hx_7 := i32_hi (v4) | skip
      first | have hx_8 := i32_lo (v4) | skip
      first | have hx_9 := i32_hi ((12 * v1) + (h.1 58 0 v1.toNatClampNeg)) | skip
      first | have hx_10 := i32_lo ((12 * v1) + (h.1 58 0 v1.toNatClampNeg)) | skip
      first | have f11 : (v4 : Int32).toInt < ((12 * v1) + (h.1 58 0 v1.toNatClampNeg) : Int32).toInt := Int32.lt_iff_toInt_lt.mp q2 | skip
      have q12 : mIn v4 72 = true := (mIn_bd (by omega) (by omega))
      rw [if_pos q12]
      by_cases q13 : (h.1 59 0 v4.toNatClampNeg) = 0
      · rw [if_pos q13]
        have b14 : 0 ≤ (h.1 59 0 v4.toNatClampNeg).toInt ∧ (h.1 59 0 v4.toNatClampNeg).toInt ≤ 3 := (S).1 59 0 v4.toNatClampNeg
        have b15 : ((h.1 59 0 v4.toNatClampNeg).toInt = 3 ∧ (h.1 61 0 v4.toNatClampNeg).toInt ≤ 9) ∨ ((h.1 59 0 v4.toNatClampNeg).toInt ≠ 3 ∧ 0 ≤ (h.1 60 0 v4.toNatClampNeg).toInt) := (S).2.1.2.2.1 v4.toNatClampNeg
        have t16 : (0 : Int32).toInt = 0 := by decide
        first | have hx_17 := i32_hi (h.1 59 0 v4.toNatClampNeg) | skip
        first | have hx_18 := i32_lo (h.1 59 0 v4.toNatClampNeg) | skip
        first | have f19 : (h.1 59 0 v4.toNatClampNeg : Int32).toInt = (0 : Int32).toInt := congrArg Int32.toInt q13 | skip
        by_cases q20 : (h.1 60 0 v4.toNatClampNeg) = v2
        · rw [if_pos q20]
          have b21 : -1 ≤ (h.1 60 0 v4.toNatClampNeg).toInt ∧ (h.1 60 0 v4.toNatClampNeg).toInt ≤ 23 := (S).1 60 0 v4.toNatClampNeg
          first | have hx_22 := i32_hi (h.1 60 0 v4.toNatClampNeg) | skip
          first | have hx_23 := i32_lo (h.1 60 0 v4.toNatClampNeg) | skip
          first | have hx_24 := i32_hi (v2) | skip
          first | have hx_25 := i32_lo (v2) | skip
          first | have f26 : (h.1 60 0 v4.toNatClampNeg : Int32).toInt = (v2 : Int32).toInt := congrArg Int32.toInt q20 | skip
          have t27 : (1 : Int32).toInt = 1 := by decide
          first | have o28 : (v4 + 1 : Int32).toInt = (v4 : Int32).toInt + (1 : Int32).toInt := ti_add (by omega) (by omega) | skip
          exact ih (h.1 61 0 v4.toNatClampNeg) (v4 + 1) (by omega) (by omega)
        · rw [if_neg q20]
          have b29 : -1 ≤ (h.1 60 0 v4.toNatClampNeg).toInt ∧ (h.1 60 0 v4.toNatClampNeg).toInt ≤ 23 := (S).1 60 0 v4.toNatClampNeg
          first | have hx_30 := i32_hi (h.1 60 0 v4.toNatClampNeg) | skip
          first | have hx_31 := i32_lo (h.1 60 0 v4.toNatClampNeg) | skip
          first | have hx_32 := i32_hi (v2) | skip
          first | have hx_33 := i32_lo (v2) | skip
          first | have f34 : (h.1 60 0 v4.toNatClampNeg : Int32).toInt ≠ (v2 : Int32).toInt := ti_ne q20 | skip
          have t35 : (1 : Int32).toInt = 1 := by decide
          first | have o36 : (v4 + 1 : Int32).toInt = (v4 : Int32).toInt + (1 : Int32).toInt := ti_add (by omega) (by omega) | skip
          exact ih v3 (v4 + 1) (by omega) (by omega)
      · rw [if_neg q13]
        have b37 : 0 ≤ (h.1 59 0 v4.toNatClampNeg).toInt ∧ (h.1 59 0 v4.toNatClampNeg).toInt ≤ 3 := (S).1 59 0 v4.toNatClampNeg
        have b38 : ((h.1 59 0 v4.toNatClampNeg).toInt = 3 ∧ (h.1 61 0 v4.toNatClampNeg).toInt ≤ 9) ∨ ((h.1 59 0 v4.toNatClampNeg).toInt ≠ 3 ∧ 0 ≤ (h.1 60 0 v4.toNatClampNeg).toInt) := (S).2.1.2.2.1 v4.toNatClampNeg
        have t39 : (0 : Int32).toInt = 0 := by decide
        first | have hx_40 := i32_hi (h.1 59 0 v4.toNatClampNeg) | skip
        first | have hx_41 := i32_lo (h.1 59 0 v4.toNatClampNeg) | skip
        first | have f42 : (h.1 59 0 v4.toNatClampNeg : Int32).toInt ≠ (0 : Int32).toInt := ti_ne q13 | skip
        have t43 : (1 : Int32).toInt = 1 := by decide
        first | have o44 : (v4 + 1 : Int32).toInt = (v4 : Int32).toInt + (1 : Int32).toInt := ti_add (by omega) (by omega) | skip
        exact ih v3 (v4 + 1) (by omega) (by omega)
    · rw [if_neg q2]
      have t45 : (12 : Int32).toInt = 12 := by decide
      first | have o46 : (12 * v1).toInt = 12 * (v1 : Int32).toInt := ti_km (by decide) (by omega) (by omega) | skip
      have b47 : 0 ≤ (h.1 58 0 v1.toNatClampNeg).toInt ∧ (h.1 58 0 v1.toNatClampNeg).toInt ≤ 12 := (S).1 58 0 v1.toNatClampNeg
      first | have o48 : ((12 * v1) + (h.1 58 0 v1.toNatClampNeg) : Int32).toInt = (12 * v1 : Int32).toInt + (h.1 58 0 v1.toNatClampNeg : Int32).toInt := ti_add (by omega) (by omega) | skip
      first | have hx_49 := i32_hi (v4) | skip
      first | have hx_50 := i32_lo (v4) | skip
      first | have hx_51 := i32_hi ((12 * v1) + (h.1 58 0 v1.toNatClampNeg)) | skip
      first | have hx_52 := i32_lo ((12 * v1) + (h.1 58 0 v1.toNatClampNeg)) | skip
      first | have f53 : ((12 * v1) + (h.1 58 0 v1.toNatClampNeg) : Int32).toInt ≤ (v4 : Int32).toInt := Int32.le_iff_toInt_le.mp (Int32.not_lt.mp q2) | skip
      exact hk v3 v4 iv0
set_option maxHeartbeats 400000 in
theorem z_X12_setTo {fp : Nat → Bool} {b : mH} {m : Nat} (x1 : Int32) (x2 : Int32) (h : mH) (S : SI fp b m h)  (pr0 : (0 ≤ x1.toInt ∧ x1.toInt < 6)) : ∃ r, f_X12_setTo x1 x2 h = some r ∧ r.2 = h := by
  unfold f_X12_setTo
  have t1 : (12 : Int32).toInt = 12 := by decide
  first | have o2 : (12 * x1).toInt = 12 * (x1 : Int32).toInt := ti_km (by decide) (by omega) (by omega) | skip
  refine z_X12_setTo_8 _  x1 x2 h S pr0 (fun u8 u9 y3 => ?_)  mFu (-1) (12 * x1) (by omega) (by have := mFu_big; omega)
  try dsimp only
  exact ⟨_, rfl, rfl⟩
set_option maxHeartbeats 400000 in
theorem z_X12_astray_2 {fp : Nat → Bool} {b : mH} {m : Nat} {P : Int32 × mH → Prop} (k : Int32 → Int32 → Int32 → mH → Option (Int32 × mH))  (v1 : Int32) (v2 : Int32) (h : mH) (S : SI fp b m h) (cp0 : (0 ≤ v1.toInt ∧ v1.toInt < 6)) (cp1 : (0 ≤ v2.toInt ∧ v2.toInt < 6)) (hk : ∀ (v3 : Int32), 0 ≤ v3.toInt → ∃ r, k v1 v2 v3 h = some r ∧ P r) (he : ∀ rv : Int32, P (rv, h)) : ∀ (n : Nat) (v3 : Int32), 0 ≤ v3.toInt → 2147483648 - v3.toInt < n → ∃ r, f_X12_astray_2 k  n v1 v2 v3 h = some r ∧ P r := by
  intro n
  induction n with
  | zero =>
    intro v3 iv0 hm
    have hz := i32_hi v3
    omega
  | succ n ih =>
    intro v3 iv0 hm
    rw [f_X12_astray_2]
    by_cases q1 : v3 < (h.1 12 0 2)
    · rw [if_pos q1]
      have b2 : 0 ≤ (h.1 12 0 2).toInt ∧ (h.1 12 0 2).toInt ≤ 24 := (S).1 12 0 2
      first | have hx_3 := i32_hi (v3) | skip
      first | have hx_4 := i32_lo (v3) | skip
      first | have hx_5 := i32_hi (h.1 12 0 2) | skip
      first | have hx_6 := i32_lo (h.1 12 0 2) | skip
      first | have f7 : (v3 : Int32).toInt < (h.1 12 0 2 : Int32).toInt := Int32.lt_iff_toInt_lt.mp q1 | skip
      have q8 : mIn v3 24 = true := (mIn_bd (by omega) (by omega))
      rw [if_pos q8]
      by_cases q9 : (h.1 49 0 v3.toNatClampNeg) = 5
      · rw [if_pos q9]
        have t10 : (5 : Int32).toInt = 5 := by decide
        first | have hx_11 := i32_hi (h.1 49 0 v3.toNatClampNeg) | skip
        first | have hx_12 := i32_lo (h.1 49 0 v3.toNatClampNeg) | skip
        first | have f13 : (h.1 49 0 v3.toNatClampNeg : Int32).toInt = (5 : Int32).toInt := congrArg Int32.toInt q9 | skip
        have t14 : (144 : Int32).toInt = 144 := by decide
        first | have o15 : (144 + v3 : Int32).toInt = (144 : Int32).toInt + (v3 : Int32).toInt := ti_add (by omega) (by omega) | skip
        have q16 : mIn (144 + v3) 192 = true := (mIn_bd (by omega) (by omega))
        rw [if_pos q16]
        obtain ⟨⟨r23v, r23h⟩, e_r23, (hh_r23 : r23h = h)⟩ := z_X12_setTo v1 v3 h S  cp0
        replace hh_r23 := hh_r23.symm
        subst hh_r23
        rw [e_r23, Option.bind_some]
        try dsimp only
        obtain ⟨⟨r24v, r24h⟩, e_r24, (hh_r24 : r24h = h)⟩ := z_X12_setTo v2 v3 h S  cp1
        replace hh_r24 := hh_r24.symm
        subst hh_r24
        rw [e_r24, Option.bind_some]
        try dsimp only
        by_cases q17 : r23v = (-1)
        · rw [if_pos q17]
          have t18 : ((-1) : Int32).toInt = (-1) := by decide
          first | have hx_19 := i32_hi (r23v) | skip
          first | have hx_20 := i32_lo (r23v) | skip
          first | have f21 : (r23v : Int32).toInt = (-1 : Int32).toInt := congrArg Int32.toInt q17 | skip
          by_cases q22 : r24v = (-1)
          · rw [if_pos q22]
            first | have hx_23 := i32_hi (r24v) | skip
            first | have hx_24 := i32_lo (r24v) | skip
            first | have f25 : (r24v : Int32).toInt = (-1 : Int32).toInt := congrArg Int32.toInt q22 | skip
            by_cases q26 : (h.1 64 0 v3.toNatClampNeg) = (h.1 74 0 (144 + v3).toNatClampNeg)
            · rw [if_pos q26]
              first | have hx_27 := i32_hi (h.1 64 0 v3.toNatClampNeg) | skip
              first | have hx_28 := i32_lo (h.1 64 0 v3.toNatClampNeg) | skip
              first | have hx_29 := i32_hi (h.1 74 0 (144 + v3).toNatClampNeg) | skip
              first | have hx_30 := i32_lo (h.1 74 0 (144 + v3).toNatClampNeg) | skip
              first | have f31 : (h.1 64 0 v3.toNatClampNeg : Int32).toInt = (h.1 74 0 (144 + v3).toNatClampNeg : Int32).toInt := congrArg Int32.toInt q26 | skip
              have t32 : (1 : Int32).toInt = 1 := by decide
              first | have o33 : (v3 + 1 : Int32).toInt = (v3 : Int32).toInt + (1 : Int32).toInt := ti_add (by omega) (by omega) | skip
              exact ih (v3 + 1) (by omega) (by omega)
            · rw [if_neg q26]
              first | have hx_34 := i32_hi (h.1 64 0 v3.toNatClampNeg) | skip
              first | have hx_35 := i32_lo (h.1 64 0 v3.toNatClampNeg) | skip
              first | have hx_36 := i32_hi (h.1 74 0 (144 + v3).toNatClampNeg) | skip
              first | have hx_37 := i32_lo (h.1 74 0 (144 + v3).toNatClampNeg) | skip
              first | have f38 : (h.1 64 0 v3.toNatClampNeg : Int32).toInt ≠ (h.1 74 0 (144 + v3).toNatClampNeg : Int32).toInt := ti_ne q26 | skip
              exact ⟨_, rfl, he v3 ⟩
          · rw [if_neg q22]
            first | have hx_39 := i32_hi (r24v) | skip
            first | have hx_40 := i32_lo (r24v) | skip
            first | have f41 : (r24v : Int32).toInt ≠ (-1 : Int32).toInt := ti_ne q22 | skip
            by_cases q42 : (h.1 64 0 v3.toNatClampNeg) = r24v
            · rw [if_pos q42]
              first | have hx_43 := i32_hi (h.1 64 0 v3.toNatClampNeg) | skip
              first | have hx_44 := i32_lo (h.1 64 0 v3.toNatClampNeg) | skip
              first | have f45 : (h.1 64 0 v3.toNatClampNeg : Int32).toInt = (r24v : Int32).toInt := congrArg Int32.toInt q42 | skip
              have t46 : (1 : Int32).toInt = 1 := by decide
              first | have o47 : (v3 + 1 : Int32).toInt = (v3 : Int32).toInt + (1 : Int32).toInt := ti_add (by omega) (by omega) | skip
              exact ih (v3 + 1) (by omega) (by omega)
            · rw [if_neg q42]
              first | have hx_48 := i32_hi (h.1 64 0 v3.toNatClampNeg) | skip
              first | have hx_49 := i32_lo (h.1 64 0 v3.toNatClampNeg) | skip
              first | have f50 : (h.1 64 0 v3.toNatClampNeg : Int32).toInt ≠ (r24v : Int32).toInt := ti_ne q42 | skip
              exact ⟨_, rfl, he v3 ⟩
        · rw [if_neg q17]
          have t51 : ((-1) : Int32).toInt = (-1) := by decide
          first | have hx_52 := i32_hi (r23v) | skip
          first | have hx_53 := i32_lo (r23v) | skip
          first | have f54 : (r23v : Int32).toInt ≠ (-1 : Int32).toInt := ti_ne q17 | skip
          by_cases q55 : (h.1 64 0 v3.toNatClampNeg) = r23v
          · rw [if_pos q55]
            first | have hx_56 := i32_hi (h.1 64 0 v3.toNatClampNeg) | skip
            first | have hx_57 := i32_lo (h.1 64 0 v3.toNatClampNeg) | skip
            first | have f58 : (h.1 64 0 v3.toNatClampNeg : Int32).toInt = (r23v : Int32).toInt := congrArg Int32.toInt q55 | skip
            have t59 : (1 : Int32).toInt = 1 := by decide
            first | have o60 : (v3 + 1 : Int32).toInt = (v3 : Int32).toInt + (1 : Int32).toInt := ti_add (by omega) (by omega) | skip
            exact ih (v3 + 1) (by omega) (by omega)
          · rw [if_neg q55]
            first | have hx_61 := i32_hi (h.1 64 0 v3.toNatClampNeg) | skip
            first | have hx_62 := i32_lo (h.1 64 0 v3.toNatClampNeg) | skip
            first | have f63 : (h.1 64 0 v3.toNatClampNeg : Int32).toInt ≠ (r23v : Int32).toInt := ti_ne q55 | skip
            by_cases q64 : r24v = (-1)
            · rw [if_pos q64]
              first | have hx_65 := i32_hi (r24v) | skip
              first | have hx_66 := i32_lo (r24v) | skip
              first | have f67 : (r24v : Int32).toInt = (-1 : Int32).toInt := congrArg Int32.toInt q64 | skip
              exact ⟨_, rfl, he v3 ⟩
            · rw [if_neg q64]
              first | have hx_68 := i32_hi (r24v) | skip
              first | have hx_69 := i32_lo (r24v) | skip
              first | have f70 : (r24v : Int32).toInt ≠ (-1 : Int32).toInt := ti_ne q64 | skip
              by_cases q71 : (h.1 64 0 v3.toNatClampNeg) = r24v
              · rw [if_pos q71]
                first | have f72 : (h.1 64 0 v3.toNatClampNeg : Int32).toInt = (r24v : Int32).toInt := congrArg Int32.toInt q71 | skip
                have t73 : (1 : Int32).toInt = 1 := by decide
                first | have o74 : (v3 + 1 : Int32).toInt = (v3 : Int32).toInt + (1 : Int32).toInt := ti_add (by omega) (by omega) | skip
                exact ih (v3 + 1) (by omega) (by omega)
              · rw [if_neg q71]
                first | have f75 : (h.1 64 0 v3.toNatClampNeg : Int32).toInt ≠ (r24v : Int32).toInt := ti_ne q71 | skip
                exact ⟨_, rfl, he v3 ⟩
      · rw [if_neg q9]
        have t76 : (5 : Int32).toInt = 5 := by decide
        first | have hx_77 := i32_hi (h.1 49 0 v3.toNatClampNeg) | skip
        first | have hx_78 := i32_lo (h.1 49 0 v3.toNatClampNeg) | skip
        first | have f79 : (h.1 49 0 v3.toNatClampNeg : Int32).toInt ≠ (5 : Int32).toInt := ti_ne q9 | skip
        have t80 : (144 : Int32).toInt = 144 := by decide
        first | have o81 : (144 + v3 : Int32).toInt = (144 : Int32).toInt + (v3 : Int32).toInt := ti_add (by omega) (by omega) | skip
        have q82 : mIn (144 + v3) 192 = true := (mIn_bd (by omega) (by omega))
        rw [if_pos q82]
        obtain ⟨⟨r5v, r5h⟩, e_r5, (hh_r5 : r5h = h)⟩ := z_X12_setTo v1 v3 h S  cp0
        replace hh_r5 := hh_r5.symm
        subst hh_r5
        rw [e_r5, Option.bind_some]
        try dsimp only
        obtain ⟨⟨r6v, r6h⟩, e_r6, (hh_r6 : r6h = h)⟩ := z_X12_setTo v2 v3 h S  cp1
        replace hh_r6 := hh_r6.symm
        subst hh_r6
        rw [e_r6, Option.bind_some]
        try dsimp only
        by_cases q83 : r5v = (-1)
        · rw [if_pos q83]
          have t84 : ((-1) : Int32).toInt = (-1) := by decide
          first | have hx_85 := i32_hi (r5v) | skip
          first | have hx_86 := i32_lo (r5v) | skip
          first | have f87 : (r5v : Int32).toInt = (-1 : Int32).toInt := congrArg Int32.toInt q83 | skip
          by_cases q88 : r6v = (-1)
          · rw [if_pos q88]
            first | have hx_89 := i32_hi (r6v) | skip
            first | have hx_90 := i32_lo (r6v) | skip
            first | have f91 : (r6v : Int32).toInt = (-1 : Int32).toInt := congrArg Int32.toInt q88 | skip
            by_cases q92 : (h.1 63 0 v3.toNatClampNeg) = (h.1 73 0 (144 + v3).toNatClampNeg)
            · rw [if_pos q92]
              first | have hx_93 := i32_hi (h.1 63 0 v3.toNatClampNeg) | skip
              first | have hx_94 := i32_lo (h.1 63 0 v3.toNatClampNeg) | skip
              first | have hx_95 := i32_hi (h.1 73 0 (144 + v3).toNatClampNeg) | skip
              first | have hx_96 := i32_lo (h.1 73 0 (144 + v3).toNatClampNeg) | skip
              first | have f97 : (h.1 63 0 v3.toNatClampNeg : Int32).toInt = (h.1 73 0 (144 + v3).toNatClampNeg : Int32).toInt := congrArg Int32.toInt q92 | skip
              by_cases q98 : (h.1 49 0 v3.toNatClampNeg) = 0
              · rw [if_pos q98]
                have t99 : (0 : Int32).toInt = 0 := by decide
                first | have f100 : (h.1 49 0 v3.toNatClampNeg : Int32).toInt = (0 : Int32).toInt := congrArg Int32.toInt q98 | skip
                have t101 : (1 : Int32).toInt = 1 := by decide
                first | have o102 : (v3 + 1 : Int32).toInt = (v3 : Int32).toInt + (1 : Int32).toInt := ti_add (by omega) (by omega) | skip
                exact ih (v3 + 1) (by omega) (by omega)
              · rw [if_neg q98]
                have t103 : (0 : Int32).toInt = 0 := by decide
                first | have f104 : (h.1 49 0 v3.toNatClampNeg : Int32).toInt ≠ (0 : Int32).toInt := ti_ne q98 | skip
                have t105 : (1 : Int32).toInt = 1 := by decide
                first | have o106 : (v3 + 1 : Int32).toInt = (v3 : Int32).toInt + (1 : Int32).toInt := ti_add (by omega) (by omega) | skip
                exact ih (v3 + 1) (by omega) (by omega)
            · rw [if_neg q92]
              first | have hx_107 := i32_hi (h.1 63 0 v3.toNatClampNeg) | skip
              first | have hx_108 := i32_lo (h.1 63 0 v3.toNatClampNeg) | skip
              first | have hx_109 := i32_hi (h.1 73 0 (144 + v3).toNatClampNeg) | skip
              first | have hx_110 := i32_lo (h.1 73 0 (144 + v3).toNatClampNeg) | skip
              first | have f111 : (h.1 63 0 v3.toNatClampNeg : Int32).toInt ≠ (h.1 73 0 (144 + v3).toNatClampNeg : Int32).toInt := ti_ne q92 | skip
              by_cases q112 : (h.1 49 0 v3.toNatClampNeg) = 0
              · rw [if_pos q112]
                have t113 : (0 : Int32).toInt = 0 := by decide
                first | have f114 : (h.1 49 0 v3.toNatClampNeg : Int32).toInt = (0 : Int32).toInt := congrArg Int32.toInt q112 | skip
                exact ⟨_, rfl, he v3 ⟩
              · rw [if_neg q112]
                have t115 : (0 : Int32).toInt = 0 := by decide
                first | have f116 : (h.1 49 0 v3.toNatClampNeg : Int32).toInt ≠ (0 : Int32).toInt := ti_ne q112 | skip
                have t117 : (1 : Int32).toInt = 1 := by decide
                first | have o118 : (v3 + 1 : Int32).toInt = (v3 : Int32).toInt + (1 : Int32).toInt := ti_add (by omega) (by omega) | skip
                exact ih (v3 + 1) (by omega) (by omega)
          · rw [if_neg q88]
            first | have hx_119 := i32_hi (r6v) | skip
            first | have hx_120 := i32_lo (r6v) | skip
            first | have f121 : (r6v : Int32).toInt ≠ (-1 : Int32).toInt := ti_ne q88 | skip
            by_cases q122 : (h.1 63 0 v3.toNatClampNeg) = r6v
            · rw [if_pos q122]
              first | have hx_123 := i32_hi (h.1 63 0 v3.toNatClampNeg) | skip
              first | have hx_124 := i32_lo (h.1 63 0 v3.toNatClampNeg) | skip
              first | have f125 : (h.1 63 0 v3.toNatClampNeg : Int32).toInt = (r6v : Int32).toInt := congrArg Int32.toInt q122 | skip
              by_cases q126 : (h.1 49 0 v3.toNatClampNeg) = 0
              · rw [if_pos q126]
                have t127 : (0 : Int32).toInt = 0 := by decide
                first | have f128 : (h.1 49 0 v3.toNatClampNeg : Int32).toInt = (0 : Int32).toInt := congrArg Int32.toInt q126 | skip
                have t129 : (1 : Int32).toInt = 1 := by decide
                first | have o130 : (v3 + 1 : Int32).toInt = (v3 : Int32).toInt + (1 : Int32).toInt := ti_add (by omega) (by omega) | skip
                exact ih (v3 + 1) (by omega) (by omega)
              · rw [if_neg q126]
                have t131 : (0 : Int32).toInt = 0 := by decide
                first | have f132 : (h.1 49 0 v3.toNatClampNeg : Int32).toInt ≠ (0 : Int32).toInt := ti_ne q126 | skip
                have t133 : (1 : Int32).toInt = 1 := by decide
                first | have o134 : (v3 + 1 : Int32).toInt = (v3 : Int32).toInt + (1 : Int32).toInt := ti_add (by omega) (by omega) | skip
                exact ih (v3 + 1) (by omega) (by omega)
            · rw [if_neg q122]
              first | have hx_135 := i32_hi (h.1 63 0 v3.toNatClampNeg) | skip
              first | have hx_136 := i32_lo (h.1 63 0 v3.toNatClampNeg) | skip
              first | have f137 : (h.1 63 0 v3.toNatClampNeg : Int32).toInt ≠ (r6v : Int32).toInt := ti_ne q122 | skip
              by_cases q138 : (h.1 49 0 v3.toNatClampNeg) = 0
              · rw [if_pos q138]
                have t139 : (0 : Int32).toInt = 0 := by decide
                first | have f140 : (h.1 49 0 v3.toNatClampNeg : Int32).toInt = (0 : Int32).toInt := congrArg Int32.toInt q138 | skip
                exact ⟨_, rfl, he v3 ⟩
              · rw [if_neg q138]
                have t141 : (0 : Int32).toInt = 0 := by decide
                first | have f142 : (h.1 49 0 v3.toNatClampNeg : Int32).toInt ≠ (0 : Int32).toInt := ti_ne q138 | skip
                have t143 : (1 : Int32).toInt = 1 := by decide
                first | have o144 : (v3 + 1 : Int32).toInt = (v3 : Int32).toInt + (1 : Int32).toInt := ti_add (by omega) (by omega) | skip
                exact ih (v3 + 1) (by omega) (by omega)
        · rw [if_neg q83]
          have t145 : ((-1) : Int32).toInt = (-1) := by decide
          first | have hx_146 := i32_hi (r5v) | skip
          first | have hx_147 := i32_lo (r5v) | skip
          first | have f148 : (r5v : Int32).toInt ≠ (-1 : Int32).toInt := ti_ne q83 | skip
          by_cases q149 : (h.1 63 0 v3.toNatClampNeg) = r5v
          · rw [if_pos q149]
            first | have hx_150 := i32_hi (h.1 63 0 v3.toNatClampNeg) | skip
            first | have hx_151 := i32_lo (h.1 63 0 v3.toNatClampNeg) | skip
            first | have f152 : (h.1 63 0 v3.toNatClampNeg : Int32).toInt = (r5v : Int32).toInt := congrArg Int32.toInt q149 | skip
            by_cases q153 : (h.1 49 0 v3.toNatClampNeg) = 0
            · rw [if_pos q153]
              have t154 : (0 : Int32).toInt = 0 := by decide
              first | have f155 : (h.1 49 0 v3.toNatClampNeg : Int32).toInt = (0 : Int32).toInt := congrArg Int32.toInt q153 | skip
              have t156 : (1 : Int32).toInt = 1 := by decide
              first | have o157 : (v3 + 1 : Int32).toInt = (v3 : Int32).toInt + (1 : Int32).toInt := ti_add (by omega) (by omega) | skip
              exact ih (v3 + 1) (by omega) (by omega)
            · rw [if_neg q153]
              have t158 : (0 : Int32).toInt = 0 := by decide
              first | have f159 : (h.1 49 0 v3.toNatClampNeg : Int32).toInt ≠ (0 : Int32).toInt := ti_ne q153 | skip
              have t160 : (1 : Int32).toInt = 1 := by decide
              first | have o161 : (v3 + 1 : Int32).toInt = (v3 : Int32).toInt + (1 : Int32).toInt := ti_add (by omega) (by omega) | skip
              exact ih (v3 + 1) (by omega) (by omega)
          · rw [if_neg q149]
            first | have hx_162 := i32_hi (h.1 63 0 v3.toNatClampNeg) | skip
            first | have hx_163 := i32_lo (h.1 63 0 v3.toNatClampNeg) | skip
            first | have f164 : (h.1 63 0 v3.toNatClampNeg : Int32).toInt ≠ (r5v : Int32).toInt := ti_ne q149 | skip
            by_cases q165 : r6v = (-1)
            · rw [if_pos q165]
              first | have hx_166 := i32_hi (r6v) | skip
              first | have hx_167 := i32_lo (r6v) | skip
              first | have f168 : (r6v : Int32).toInt = (-1 : Int32).toInt := congrArg Int32.toInt q165 | skip
              by_cases q169 : (h.1 49 0 v3.toNatClampNeg) = 0
              · rw [if_pos q169]
                have t170 : (0 : Int32).toInt = 0 := by decide
                first | have f171 : (h.1 49 0 v3.toNatClampNeg : Int32).toInt = (0 : Int32).toInt := congrArg Int32.toInt q169 | skip
                exact ⟨_, rfl, he v3 ⟩
              · rw [if_neg q169]
                have t172 : (0 : Int32).toInt = 0 := by decide
                first | have f173 : (h.1 49 0 v3.toNatClampNeg : Int32).toInt ≠ (0 : Int32).toInt := ti_ne q169 | skip
                have t174 : (1 : Int32).toInt = 1 := by decide
                first | have o175 : (v3 + 1 : Int32).toInt = (v3 : Int32).toInt + (1 : Int32).toInt := ti_add (by omega) (by omega) | skip
                exact ih (v3 + 1) (by omega) (by omega)
            · rw [if_neg q165]
              first | have hx_176 := i32_hi (r6v) | skip
              first | have hx_177 := i32_lo (r6v) | skip
              first | have f178 : (r6v : Int32).toInt ≠ (-1 : Int32).toInt := ti_ne q165 | skip
              by_cases q179 : (h.1 63 0 v3.toNatClampNeg) = r6v
              · rw [if_pos q179]
                first | have f180 : (h.1 63 0 v3.toNatClampNeg : Int32).toInt = (r6v : Int32).toInt := congrArg Int32.toInt q179 | skip
                by_cases q181 : (h.1 49 0 v3.toNatClampNeg) = 0
                · rw [if_pos q181]
                  have t182 : (0 : Int32).toInt = 0 := by decide
                  first | have f183 : (h.1 49 0 v3.toNatClampNeg : Int32).toInt = (0 : Int32).toInt := congrArg Int32.toInt q181 | skip
                  have t184 : (1 : Int32).toInt = 1 := by decide
                  first | have o185 : (v3 + 1 : Int32).toInt = (v3 : Int32).toInt + (1 : Int32).toInt := ti_add (by omega) (by omega) | skip
                  exact ih (v3 + 1) (by omega) (by omega)
                · rw [if_neg q181]
                  have t186 : (0 : Int32).toInt = 0 := by decide
                  first | have f187 : (h.1 49 0 v3.toNatClampNeg : Int32).toInt ≠ (0 : Int32).toInt := ti_ne q181 | skip
                  have t188 : (1 : Int32).toInt = 1 := by decide
                  first | have o189 : (v3 + 1 : Int32).toInt = (v3 : Int32).toInt + (1 : Int32).toInt := ti_add (by omega) (by omega) | skip
                  exact ih (v3 + 1) (by omega) (by omega)
              · rw [if_neg q179]
                first | have f190 : (h.1 63 0 v3.toNatClampNeg : Int32).toInt ≠ (r6v : Int32).toInt := ti_ne q179 | skip
                by_cases q191 : (h.1 49 0 v3.toNatClampNeg) = 0
                · rw [if_pos q191]
                  have t192 : (0 : Int32).toInt = 0 := by decide
                  first | have f193 : (h.1 49 0 v3.toNatClampNeg : Int32).toInt = (0 : Int32).toInt := congrArg Int32.toInt q191 | skip
                  exact ⟨_, rfl, he v3 ⟩
                · rw [if_neg q191]
                  have t194 : (0 : Int32).toInt = 0 := by decide
                  first | have f195 : (h.1 49 0 v3.toNatClampNeg : Int32).toInt ≠ (0 : Int32).toInt := ti_ne q191 | skip
                  have t196 : (1 : Int32).toInt = 1 := by decide
                  first | have o197 : (v3 + 1 : Int32).toInt = (v3 : Int32).toInt + (1 : Int32).toInt := ti_add (by omega) (by omega) | skip
                  exact ih (v3 + 1) (by omega) (by omega)
    · rw [if_neg q1]
      have b198 : 0 ≤ (h.1 12 0 2).toInt ∧ (h.1 12 0 2).toInt ≤ 24 := (S).1 12 0 2
      first | have hx_199 := i32_hi (v3) | skip
      first | have hx_200 := i32_lo (v3) | skip
      first | have hx_201 := i32_hi (h.1 12 0 2) | skip
      first | have hx_202 := i32_lo (h.1 12 0 2) | skip
      first | have f203 : (h.1 12 0 2 : Int32).toInt ≤ (v3 : Int32).toInt := Int32.le_iff_toInt_le.mp (Int32.not_lt.mp q1) | skip
      exact hk v3 iv0
set_option maxHeartbeats 400000 in
theorem z_X12_astray {fp : Nat → Bool} {b : mH} {m : Nat} (x1 : Int32) (x2 : Int32) (h : mH) (S : SI fp b m h)  (pr0 : (0 ≤ x1.toInt ∧ x1.toInt < 6)) (pr1 : (0 ≤ x2.toInt ∧ x2.toInt < 6)) : ∃ r, f_X12_astray x1 x2 h = some r ∧ r.2 = h := by
  unfold f_X12_astray
  have t1 : (0 : Int32).toInt = 0 := by decide
  refine z_X12_astray_2 _  x1 x2 h S pr0 pr1 (fun u34 y2 => ?_) (fun rv  => rfl) mFu 0 (by omega) (by have := mFu_big; omega)
  try dsimp only
  exact ⟨_, rfl, rfl⟩
set_option maxHeartbeats 400000 in
theorem z_X12_fails {fp : Nat → Bool} {b : mH} {m : Nat} (x1 : Int32) (x2 : Int32) (x3 : Int32) (x4 : Int32) (h : mH) (S : SI fp b m h)  (pr0 : (0 ≤ x1.toInt ∧ x1.toInt < 6)) (pr1 : (0 ≤ x2.toInt ∧ x2.toInt < 24)) (pr2 : 0 ≤ (h.1 53 0 x2.toNatClampNeg).toInt) : ∃ r, f_X12_fails x1 x2 x3 x4 h = some r ∧ r.2 = h := by
  unfold f_X12_fails
  by_cases q1 : x3 = 0
  · rw [if_pos q1]
    have t2 : (0 : Int32).toInt = 0 := by decide
    first | have hx_3 := i32_hi (x3) | skip
    first | have hx_4 := i32_lo (x3) | skip
    first | have f5 : (x3 : Int32).toInt = (0 : Int32).toInt := congrArg Int32.toInt q1 | skip
    by_cases q6 : (h.1 12 0 34) ≤ (h.1 83 0 (6 : Int32).toNatClampNeg)
    · rw [if_pos q6]
      first | have hx_7 := i32_hi (h.1 12 0 34) | skip
      first | have hx_8 := i32_lo (h.1 12 0 34) | skip
      first | have hx_9 := i32_hi (h.1 83 0 (6 : Int32).toNatClampNeg) | skip
      first | have hx_10 := i32_lo (h.1 83 0 (6 : Int32).toNatClampNeg) | skip
      first | have f11 : (h.1 12 0 34 : Int32).toInt ≤ (h.1 83 0 (6 : Int32).toNatClampNeg : Int32).toInt := Int32.le_iff_toInt_le.mp q6 | skip
      have q12 : mIn x2 24 = true := (mIn_bd (by omega) (by omega))
      rw [if_pos q12]
      have b13 : -1 ≤ (h.1 53 0 x2.toNatClampNeg).toInt ∧ (h.1 53 0 x2.toNatClampNeg).toInt ≤ 5 := (S).1 53 0 x2.toNatClampNeg
      obtain ⟨⟨r4v, r4h⟩, e_r4, (hh_r4 : r4h = h)⟩ := z_X12_astray x1 (h.1 53 0 x2.toNatClampNeg) h S  pr0 (by omega)
      replace hh_r4 := hh_r4.symm
      subst hh_r4
      rw [e_r4, Option.bind_some]
      try dsimp only
      by_cases q14 : r4v = (-1)
      · rw [if_pos q14]
        have t15 : ((-1) : Int32).toInt = (-1) := by decide
        first | have hx_16 := i32_hi (r4v) | skip
        first | have hx_17 := i32_lo (r4v) | skip
        first | have f18 : (r4v : Int32).toInt = (-1 : Int32).toInt := congrArg Int32.toInt q14 | skip
        by_cases q19 : (h.1 12 0 37) = x4
        · rw [if_pos q19]
          first | have hx_20 := i32_hi (h.1 12 0 37) | skip
          first | have hx_21 := i32_lo (h.1 12 0 37) | skip
          first | have hx_22 := i32_hi (x4) | skip
          first | have hx_23 := i32_lo (x4) | skip
          first | have f24 : (h.1 12 0 37 : Int32).toInt = (x4 : Int32).toInt := congrArg Int32.toInt q19 | skip
          exact ⟨_, rfl, rfl⟩
        · rw [if_neg q19]
          first | have hx_25 := i32_hi (h.1 12 0 37) | skip
          first | have hx_26 := i32_lo (h.1 12 0 37) | skip
          first | have hx_27 := i32_hi (x4) | skip
          first | have hx_28 := i32_lo (x4) | skip
          first | have f29 : (h.1 12 0 37 : Int32).toInt ≠ (x4 : Int32).toInt := ti_ne q19 | skip
          exact ⟨_, rfl, rfl⟩
      · rw [if_neg q14]
        have t30 : ((-1) : Int32).toInt = (-1) := by decide
        first | have hx_31 := i32_hi (r4v) | skip
        first | have hx_32 := i32_lo (r4v) | skip
        first | have f33 : (r4v : Int32).toInt ≠ (-1 : Int32).toInt := ti_ne q14 | skip
        exact ⟨_, rfl, rfl⟩
    · rw [if_neg q6]
      first | have hx_34 := i32_hi (h.1 12 0 34) | skip
      first | have hx_35 := i32_lo (h.1 12 0 34) | skip
      first | have hx_36 := i32_hi (h.1 83 0 (6 : Int32).toNatClampNeg) | skip
      first | have hx_37 := i32_lo (h.1 83 0 (6 : Int32).toNatClampNeg) | skip
      first | have f38 : (h.1 83 0 (6 : Int32).toNatClampNeg : Int32).toInt < (h.1 12 0 34 : Int32).toInt := Int32.lt_iff_toInt_lt.mp (Int32.not_le.mp q6) | skip
      exact ⟨_, rfl, rfl⟩
  · rw [if_neg q1]
    have t39 : (0 : Int32).toInt = 0 := by decide
    first | have hx_40 := i32_hi (x3) | skip
    first | have hx_41 := i32_lo (x3) | skip
    first | have f42 : (x3 : Int32).toInt ≠ (0 : Int32).toInt := ti_ne q1 | skip
    exact ⟨_, rfl, rfl⟩
def W_X12_walk_107 : List Nat := [791, 798, 802, 803, 804, 805, 806, 825, 826, 835, 4032, 4096, 4160, 4224, 4288, 4352, 4416, 4480, 4544, 5888, 5952, 6016, 6080, 9999]
set_option maxHeartbeats 400000 in
theorem z_X12_walk_107 {fp : Nat → Bool} {b : mH} {m : Nat} {P : Int32 × mH → Prop} (k : Int32 → Int32 → Int32 → Int32 → Int32 → Int32 → mH → Option (Int32 × mH))  (v1 : Int32) (v2 : Int32) (v4 : Int32) (v5 : Int32) (ff : ∀ c ∈ W_X12_walk_107, fp c = false) (cp0 : (0 ≤ v1.toInt ∧ v1.toInt < 6)) (cp1 : (0 ≤ v2.toInt ∧ v2.toInt < 24)) (cp2 : v4.toInt ≤ 9000000) (hk : ∀ (v6 : Int32) (v7 : Int32) (h : mH), SI fp b (m + 8524656 * v7.toInt.toNat) h → 0 ≤ v7.toInt → v7.toInt ≤ 9000001 → (h.1 12 0 30).toInt < 16 → (h.1 79 0 (6 : Int32).toNatClampNeg).toInt < 16 → 0 ≤ (h.1 53 0 v2.toNatClampNeg).toInt → ∃ r, k v1 v2 v4 v5 v6 v7 h = some r ∧ P r) : ∀ (n : Nat) (v6 : Int32) (v7 : Int32) (h : mH), SI fp b (m + 8524656 * v7.toInt.toNat) h → 0 ≤ v7.toInt → v7.toInt ≤ 9000001 → (h.1 12 0 30).toInt < 16 → (h.1 79 0 (6 : Int32).toNatClampNeg).toInt < 16 → 0 ≤ (h.1 53 0 v2.toNatClampNeg).toInt → 2147483648 - v7.toInt < n → ∃ r, f_X12_walk_107 k  n v1 v2 v4 v5 v6 v7 h = some r ∧ P r := by
  have ff_X12_brings : ∀ c ∈ W_X12_brings, fp c = false := fun c hc => ff c ((by decide : ∀ c ∈ W_X12_brings, c ∈ W_X12_walk_107) c hc)
  have ff_X12_comes : ∀ c ∈ W_X12_comes, fp c = false := fun c hc => ff c ((by decide : ∀ c ∈ W_X12_comes, c ∈ W_X12_walk_107) c hc)
  have ff_X12_runs_2 : ∀ c ∈ W_X12_runs_2, fp c = false := fun c hc => ff c ((by decide : ∀ c ∈ W_X12_runs_2, c ∈ W_X12_walk_107) c hc)
  have w825 : fp 825 = false := ff 825 (by decide)
  have w826 : fp 826 = false := ff 826 (by decide)
  intro n
  induction n with
  | zero =>
    intro v6 v7 h S iv0 iv1 iv2 iv3 iv4 hm
    have hz := i32_hi v7
    omega
  | succ n ih =>
    intro v6 v7 h S iv0 iv1 iv2 iv3 iv4 hm
    rw [f_X12_walk_107]
    by_cases q1 : v7 ≤ v4
    · rw [if_pos q1]
      first | have hx_2 := i32_hi (v7) | skip
      first | have hx_3 := i32_lo (v7) | skip
      first | have hx_4 := i32_hi (v4) | skip
      first | have hx_5 := i32_lo (v4) | skip
      first | have f6 : (v7 : Int32).toInt ≤ (v4 : Int32).toInt := Int32.le_iff_toInt_le.mp q1 | skip
      by_cases q7 : v6 = 0
      · rw [if_pos q7]
        have t8 : (0 : Int32).toInt = 0 := by decide
        first | have hx_9 := i32_hi (v6) | skip
        first | have hx_10 := i32_lo (v6) | skip
        first | have f11 : (v6 : Int32).toInt = (0 : Int32).toInt := congrArg Int32.toInt q7 | skip
        obtain ⟨r15, e_r15, S_r15, fr_r15⟩ := y_X12_comes v2 1 ((h.1 12 0 23) + v7) h S ff_X12_comes iv2 cp1
        rw [e_r15, Option.bind_some]
        obtain ⟨r16, e_r16, S_r16, p_r16_0, fr_r16, tk_r16⟩ := y_X12_runs_2 0 v1 r15 S_r15 ff_X12_runs_2 (by omega) cp0
        rw [e_r16, Option.bind_some]
        have bb_r16 := bool_bd p_r16_0
        have b12 : -1 ≤ (r16.2.1 53 0 v2.toNatClampNeg).toInt ∧ (r16.2.1 53 0 v2.toNatClampNeg).toInt ≤ 5 := (S_r16).1 53 0 v2.toNatClampNeg
        have l13 : (r16.2.1 53 0 v2.toNatClampNeg).toInt = (r15.1 53 0 v2.toNatClampNeg).toInt := congrArg Int32.toInt (fr_r16 53 0 v2.toNatClampNeg rfl).1
        have b14 : -1 ≤ (r15.1 53 0 v2.toNatClampNeg).toInt ∧ (r15.1 53 0 v2.toNatClampNeg).toInt ≤ 5 := (S_r15).1 53 0 v2.toNatClampNeg
        have l15 : (r15.1 53 0 v2.toNatClampNeg).toInt = (h.1 53 0 v2.toNatClampNeg).toInt := congrArg Int32.toInt (fr_r15 53 0 v2.toNatClampNeg rfl).1
        have b16 : -1 ≤ (h.1 53 0 v2.toNatClampNeg).toInt ∧ (h.1 53 0 v2.toNatClampNeg).toInt ≤ 5 := (S).1 53 0 v2.toNatClampNeg
        obtain ⟨⟨r17v, r17h⟩, e_r17, (hh_r17 : r17h = r16.2)⟩ := z_X12_fails v1 v2 r16.1 v5 r16.2 S_r16  cp0 cp1 (by omega)
        replace hh_r17 := hh_r17.symm
        subst hh_r17
        rw [e_r17, Option.bind_some]
        try dsimp only
        by_cases q17 : r17v = 0
        · rw [if_pos q17]
          first | have hx_18 := i32_hi (r17v) | skip
          first | have hx_19 := i32_lo (r17v) | skip
          first | have f20 : (r17v : Int32).toInt = (0 : Int32).toInt := congrArg Int32.toInt q17 | skip
          have t21 : (6 : Int32).toInt = 6 := by decide
          obtain ⟨r19, e_r19, S_r19, p_r19_0, fr_r19⟩ := y_X12_brings 6 r16.2 S_r16 ff_X12_brings (by omega)
          rw [e_r19, Option.bind_some]
          have t22 : (1 : Int32).toInt = 1 := by decide
          first | have o23 : (v7 + 1 : Int32).toInt = (v7 : Int32).toInt + (1 : Int32).toInt := ti_add (by omega) (by omega) | skip
          have b24 : 0 ≤ (r19.1 12 0 30).toInt ∧ (r19.1 12 0 30).toInt ≤ 16 := (S_r19).1 12 0 30
          have b25 : 0 ≤ (r19.1 79 0 (6 : Int32).toNatClampNeg).toInt ∧ (r19.1 79 0 (6 : Int32).toNatClampNeg).toInt ≤ 16 := (S_r19).1 79 0 ((6 : Int32).toNatClampNeg)
          have l26 : (r19.1 79 0 (6 : Int32).toNatClampNeg).toInt = (r16.2.1 79 0 ((6 : Int32).toNatClampNeg)).toInt := congrArg Int32.toInt (fr_r19 79 0 ((6 : Int32).toNatClampNeg) rfl).1
          have b27 : 0 ≤ (r16.2.1 79 0 ((6 : Int32).toNatClampNeg)).toInt ∧ (r16.2.1 79 0 ((6 : Int32).toNatClampNeg)).toInt ≤ 16 := (S_r16).1 79 0 ((6 : Int32).toNatClampNeg)
          have l28 : (r16.2.1 79 0 ((6 : Int32).toNatClampNeg)).toInt = (r15.1 79 0 ((6 : Int32).toNatClampNeg)).toInt := congrArg Int32.toInt (fr_r16 79 0 ((6 : Int32).toNatClampNeg) rfl).1
          have b29 : 0 ≤ (r15.1 79 0 ((6 : Int32).toNatClampNeg)).toInt ∧ (r15.1 79 0 ((6 : Int32).toNatClampNeg)).toInt ≤ 16 := (S_r15).1 79 0 ((6 : Int32).toNatClampNeg)
          have l30 : (r15.1 79 0 ((6 : Int32).toNatClampNeg)).toInt = (h.1 79 0 ((6 : Int32).toNatClampNeg)).toInt := congrArg Int32.toInt (fr_r15 79 0 ((6 : Int32).toNatClampNeg) rfl).1
          have b31 : 0 ≤ (h.1 79 0 ((6 : Int32).toNatClampNeg)).toInt ∧ (h.1 79 0 ((6 : Int32).toNatClampNeg)).toInt ≤ 16 := (S).1 79 0 ((6 : Int32).toNatClampNeg)
          have b32 : -1 ≤ (r19.1 53 0 v2.toNatClampNeg).toInt ∧ (r19.1 53 0 v2.toNatClampNeg).toInt ≤ 5 := (S_r19).1 53 0 v2.toNatClampNeg
          have l33 : (r19.1 53 0 v2.toNatClampNeg).toInt = (r16.2.1 53 0 v2.toNatClampNeg).toInt := congrArg Int32.toInt (fr_r19 53 0 v2.toNatClampNeg rfl).1
          exact ih v6 (v7 + 1) r19 (SI.mono S_r19 (by omega)) (by omega) (by omega) (by omega) (by omega) (by omega) (by omega)
        · rw [if_neg q17]
          first | have hx_34 := i32_hi (r17v) | skip
          first | have hx_35 := i32_lo (r17v) | skip
          first | have f36 : (r17v : Int32).toInt ≠ (0 : Int32).toInt := ti_ne q17 | skip
          by_cases q37 : r17v = 3
          · rw [if_pos q37]
            have t38 : (3 : Int32).toInt = 3 := by decide
            first | have f39 : (r17v : Int32).toInt = (3 : Int32).toInt := congrArg Int32.toInt q37 | skip
            refine let_ex (fun h23 e_h23 => ?_)
            have S_h23 : SI fp b ((m + 8524656 * v7.toInt.toNat) + 8524656) h23 := e_h23 ▸ (SI.f S_r16 rfl w825 rfl)
            have q40 : mIn v2 24 = true := (mIn_bd (by omega) (by omega))
            rw [if_pos q40]
            have b41 : -1 ≤ (h23.1 53 0 v2.toNatClampNeg).toInt ∧ (h23.1 53 0 v2.toNatClampNeg).toInt ≤ 5 := (S_h23).1 53 0 v2.toNatClampNeg
            have l42 : (h23.1 53 0 v2.toNatClampNeg).toInt = (r16.2.1 53 0 v2.toNatClampNeg).toInt := by rw [← e_h23, uI_t _ rfl]
            obtain ⟨⟨r25v, r25h⟩, e_r25, (hh_r25 : r25h = h23)⟩ := z_X12_astray v1 (h23.1 53 0 v2.toNatClampNeg) h23 S_h23  cp0 (by omega)
            replace hh_r25 := hh_r25.symm
            subst hh_r25
            rw [e_r25, Option.bind_some]
            try dsimp only
            obtain ⟨g43, e_g43⟩ : ∃ g, uI h23 12 0 58 r25v = g := ⟨_, rfl⟩
            rw [e_g43]
            have S_g43 : SI fp b ((m + 8524656 * v7.toInt.toNat) + 8524656) g43 := e_g43 ▸ (SI.f S_h23 rfl w826 rfl)
            have t44 : (6 : Int32).toInt = 6 := by decide
            obtain ⟨r26, e_r26, S_r26, p_r26_0, fr_r26⟩ := y_X12_brings 6 g43 S_g43 ff_X12_brings (by omega)
            rw [e_r26, Option.bind_some]
            have t45 : (1 : Int32).toInt = 1 := by decide
            first | have o46 : (v7 + 1 : Int32).toInt = (v7 : Int32).toInt + (1 : Int32).toInt := ti_add (by omega) (by omega) | skip
            have b47 : 0 ≤ (r26.1 12 0 30).toInt ∧ (r26.1 12 0 30).toInt ≤ 16 := (S_r26).1 12 0 30
            have b48 : 0 ≤ (r26.1 79 0 (6 : Int32).toNatClampNeg).toInt ∧ (r26.1 79 0 (6 : Int32).toNatClampNeg).toInt ≤ 16 := (S_r26).1 79 0 ((6 : Int32).toNatClampNeg)
            have l49 : (r26.1 79 0 (6 : Int32).toNatClampNeg).toInt = (g43.1 79 0 ((6 : Int32).toNatClampNeg)).toInt := congrArg Int32.toInt (fr_r26 79 0 ((6 : Int32).toNatClampNeg) rfl).1
            have b50 : 0 ≤ (g43.1 79 0 ((6 : Int32).toNatClampNeg)).toInt ∧ (g43.1 79 0 ((6 : Int32).toNatClampNeg)).toInt ≤ 16 := (S_g43).1 79 0 ((6 : Int32).toNatClampNeg)
            have l51 : (g43.1 79 0 ((6 : Int32).toNatClampNeg)).toInt = (h23.1 79 0 ((6 : Int32).toNatClampNeg)).toInt := by rw [← e_g43, uI_t _ rfl]
            have b52 : 0 ≤ (h23.1 79 0 ((6 : Int32).toNatClampNeg)).toInt ∧ (h23.1 79 0 ((6 : Int32).toNatClampNeg)).toInt ≤ 16 := (S_h23).1 79 0 ((6 : Int32).toNatClampNeg)
            have l53 : (h23.1 79 0 ((6 : Int32).toNatClampNeg)).toInt = (r16.2.1 79 0 ((6 : Int32).toNatClampNeg)).toInt := by rw [← e_h23, uI_t _ rfl]
            have b54 : 0 ≤ (r16.2.1 79 0 ((6 : Int32).toNatClampNeg)).toInt ∧ (r16.2.1 79 0 ((6 : Int32).toNatClampNeg)).toInt ≤ 16 := (S_r16).1 79 0 ((6 : Int32).toNatClampNeg)
            have l55 : (r16.2.1 79 0 ((6 : Int32).toNatClampNeg)).toInt = (r15.1 79 0 ((6 : Int32).toNatClampNeg)).toInt := congrArg Int32.toInt (fr_r16 79 0 ((6 : Int32).toNatClampNeg) rfl).1
            have b56 : 0 ≤ (r15.1 79 0 ((6 : Int32).toNatClampNeg)).toInt ∧ (r15.1 79 0 ((6 : Int32).toNatClampNeg)).toInt ≤ 16 := (S_r15).1 79 0 ((6 : Int32).toNatClampNeg)
            have l57 : (r15.1 79 0 ((6 : Int32).toNatClampNeg)).toInt = (h.1 79 0 ((6 : Int32).toNatClampNeg)).toInt := congrArg Int32.toInt (fr_r15 79 0 ((6 : Int32).toNatClampNeg) rfl).1
            have b58 : 0 ≤ (h.1 79 0 ((6 : Int32).toNatClampNeg)).toInt ∧ (h.1 79 0 ((6 : Int32).toNatClampNeg)).toInt ≤ 16 := (S).1 79 0 ((6 : Int32).toNatClampNeg)
            have b59 : -1 ≤ (r26.1 53 0 v2.toNatClampNeg).toInt ∧ (r26.1 53 0 v2.toNatClampNeg).toInt ≤ 5 := (S_r26).1 53 0 v2.toNatClampNeg
            have l60 : (r26.1 53 0 v2.toNatClampNeg).toInt = (g43.1 53 0 v2.toNatClampNeg).toInt := congrArg Int32.toInt (fr_r26 53 0 v2.toNatClampNeg rfl).1
            have b61 : -1 ≤ (g43.1 53 0 v2.toNatClampNeg).toInt ∧ (g43.1 53 0 v2.toNatClampNeg).toInt ≤ 5 := (S_g43).1 53 0 v2.toNatClampNeg
            have l62 : (g43.1 53 0 v2.toNatClampNeg).toInt = (h23.1 53 0 v2.toNatClampNeg).toInt := by rw [← e_g43, uI_t _ rfl]
            exact ih v7 (v7 + 1) r26 (SI.mono S_r26 (by omega)) (by omega) (by omega) (by omega) (by omega) (by omega) (by omega)
          · rw [if_neg q37]
            have t63 : (3 : Int32).toInt = 3 := by decide
            first | have f64 : (r17v : Int32).toInt ≠ (3 : Int32).toInt := ti_ne q37 | skip
            refine let_ex (fun h21 e_h21 => ?_)
            have S_h21 : SI fp b ((m + 8524656 * v7.toInt.toNat) + 8524656) h21 := e_h21 ▸ (SI.f S_r16 rfl w825 rfl)
            obtain ⟨g65, e_g65⟩ : ∃ g, uI h21 12 0 58 (-2) = g := ⟨_, rfl⟩
            rw [e_g65]
            have S_g65 : SI fp b ((m + 8524656 * v7.toInt.toNat) + 8524656) g65 := e_g65 ▸ (SI.f S_h21 rfl w826 rfl)
            have t66 : (6 : Int32).toInt = 6 := by decide
            obtain ⟨r22, e_r22, S_r22, p_r22_0, fr_r22⟩ := y_X12_brings 6 g65 S_g65 ff_X12_brings (by omega)
            rw [e_r22, Option.bind_some]
            have t67 : (1 : Int32).toInt = 1 := by decide
            first | have o68 : (v7 + 1 : Int32).toInt = (v7 : Int32).toInt + (1 : Int32).toInt := ti_add (by omega) (by omega) | skip
            have b69 : 0 ≤ (r22.1 12 0 30).toInt ∧ (r22.1 12 0 30).toInt ≤ 16 := (S_r22).1 12 0 30
            have b70 : 0 ≤ (r22.1 79 0 (6 : Int32).toNatClampNeg).toInt ∧ (r22.1 79 0 (6 : Int32).toNatClampNeg).toInt ≤ 16 := (S_r22).1 79 0 ((6 : Int32).toNatClampNeg)
            have l71 : (r22.1 79 0 (6 : Int32).toNatClampNeg).toInt = (g65.1 79 0 ((6 : Int32).toNatClampNeg)).toInt := congrArg Int32.toInt (fr_r22 79 0 ((6 : Int32).toNatClampNeg) rfl).1
            have b72 : 0 ≤ (g65.1 79 0 ((6 : Int32).toNatClampNeg)).toInt ∧ (g65.1 79 0 ((6 : Int32).toNatClampNeg)).toInt ≤ 16 := (S_g65).1 79 0 ((6 : Int32).toNatClampNeg)
            have l73 : (g65.1 79 0 ((6 : Int32).toNatClampNeg)).toInt = (h21.1 79 0 ((6 : Int32).toNatClampNeg)).toInt := by rw [← e_g65, uI_t _ rfl]
            have b74 : 0 ≤ (h21.1 79 0 ((6 : Int32).toNatClampNeg)).toInt ∧ (h21.1 79 0 ((6 : Int32).toNatClampNeg)).toInt ≤ 16 := (S_h21).1 79 0 ((6 : Int32).toNatClampNeg)
            have l75 : (h21.1 79 0 ((6 : Int32).toNatClampNeg)).toInt = (r16.2.1 79 0 ((6 : Int32).toNatClampNeg)).toInt := by rw [← e_h21, uI_t _ rfl]
            have b76 : 0 ≤ (r16.2.1 79 0 ((6 : Int32).toNatClampNeg)).toInt ∧ (r16.2.1 79 0 ((6 : Int32).toNatClampNeg)).toInt ≤ 16 := (S_r16).1 79 0 ((6 : Int32).toNatClampNeg)
            have l77 : (r16.2.1 79 0 ((6 : Int32).toNatClampNeg)).toInt = (r15.1 79 0 ((6 : Int32).toNatClampNeg)).toInt := congrArg Int32.toInt (fr_r16 79 0 ((6 : Int32).toNatClampNeg) rfl).1
            have b78 : 0 ≤ (r15.1 79 0 ((6 : Int32).toNatClampNeg)).toInt ∧ (r15.1 79 0 ((6 : Int32).toNatClampNeg)).toInt ≤ 16 := (S_r15).1 79 0 ((6 : Int32).toNatClampNeg)
            have l79 : (r15.1 79 0 ((6 : Int32).toNatClampNeg)).toInt = (h.1 79 0 ((6 : Int32).toNatClampNeg)).toInt := congrArg Int32.toInt (fr_r15 79 0 ((6 : Int32).toNatClampNeg) rfl).1
            have b80 : 0 ≤ (h.1 79 0 ((6 : Int32).toNatClampNeg)).toInt ∧ (h.1 79 0 ((6 : Int32).toNatClampNeg)).toInt ≤ 16 := (S).1 79 0 ((6 : Int32).toNatClampNeg)
            have b81 : -1 ≤ (r22.1 53 0 v2.toNatClampNeg).toInt ∧ (r22.1 53 0 v2.toNatClampNeg).toInt ≤ 5 := (S_r22).1 53 0 v2.toNatClampNeg
            have l82 : (r22.1 53 0 v2.toNatClampNeg).toInt = (g65.1 53 0 v2.toNatClampNeg).toInt := congrArg Int32.toInt (fr_r22 53 0 v2.toNatClampNeg rfl).1
            have b83 : -1 ≤ (g65.1 53 0 v2.toNatClampNeg).toInt ∧ (g65.1 53 0 v2.toNatClampNeg).toInt ≤ 5 := (S_g65).1 53 0 v2.toNatClampNeg
            have l84 : (g65.1 53 0 v2.toNatClampNeg).toInt = (h21.1 53 0 v2.toNatClampNeg).toInt := by rw [← e_g65, uI_t _ rfl]
            have b85 : -1 ≤ (h21.1 53 0 v2.toNatClampNeg).toInt ∧ (h21.1 53 0 v2.toNatClampNeg).toInt ≤ 5 := (S_h21).1 53 0 v2.toNatClampNeg
            have l86 : (h21.1 53 0 v2.toNatClampNeg).toInt = (r16.2.1 53 0 v2.toNatClampNeg).toInt := by rw [← e_h21, uI_t _ rfl]
            exact ih v7 (v7 + 1) r22 (SI.mono S_r22 (by omega)) (by omega) (by omega) (by omega) (by omega) (by omega) (by omega)
      · rw [if_neg q7]
        have t87 : (0 : Int32).toInt = 0 := by decide
        first | have hx_88 := i32_hi (v6) | skip
        first | have hx_89 := i32_lo (v6) | skip
        first | have f90 : (v6 : Int32).toInt ≠ (0 : Int32).toInt := ti_ne q7 | skip
        exact hk v6 v7 h S iv0 iv1 iv2 iv3 iv4
    · rw [if_neg q1]
      first | have hx_91 := i32_hi (v7) | skip
      first | have hx_92 := i32_lo (v7) | skip
      first | have hx_93 := i32_hi (v4) | skip
      first | have hx_94 := i32_lo (v4) | skip
      first | have f95 : (v4 : Int32).toInt < (v7 : Int32).toInt := Int32.lt_iff_toInt_lt.mp (Int32.not_le.mp q1) | skip
      exact hk v6 v7 h S iv0 iv1 iv2 iv3 iv4
def W_X12_walk : List Nat := [791, 798, 802, 803, 804, 805, 806, 825, 826, 835, 4032, 4096, 4160, 4224, 4288, 4352, 4416, 4480, 4544, 4608, 4672, 4736, 4800, 4864, 4928, 4992, 5056, 5120, 5184, 5248, 5312, 5376, 5440, 5504, 5568, 5632, 5888, 5952, 6016, 6080, 9999]
set_option maxHeartbeats 400000 in
theorem z_X12_walk {fp : Nat → Bool} {b : mH} {m : Nat} (x1 : Int32) (x2 : Int32) (h : mH) (S : SI fp b m h) (ff : ∀ c ∈ W_X12_walk, fp c = false)  : ∃ r, f_X12_walk x1 x2 h = some r ∧ SI fp b (m + 76721938098624) r.2 := by
  have ff_X12_brings : ∀ c ∈ W_X12_brings, fp c = false := fun c hc => ff c ((by decide : ∀ c ∈ W_X12_brings, c ∈ W_X12_walk) c hc)
  have ff_X12_runs_2 : ∀ c ∈ W_X12_runs_2, fp c = false := fun c hc => ff c ((by decide : ∀ c ∈ W_X12_runs_2, c ∈ W_X12_walk) c hc)
  have ff_X12_stores : ∀ c ∈ W_X12_stores, fp c = false := fun c hc => ff c ((by decide : ∀ c ∈ W_X12_stores, c ∈ W_X12_walk) c hc)
  have ff_X12_walk_107 : ∀ c ∈ W_X12_walk_107, fp c = false := fun c hc => ff c ((by decide : ∀ c ∈ W_X12_walk_107, c ∈ W_X12_walk) c hc)
  unfold f_X12_walk
  obtain ⟨⟨r1v, r1h⟩, e_r1, (hh_r1 : r1h = h), p_r1_0, p_r1_1⟩ := z_X12_isAct x1 h S  
  replace hh_r1 := hh_r1.symm
  subst hh_r1
  dsimp only at p_r1_0 p_r1_1
  have bb_r1 := bool_bd p_r1_0
  rw [e_r1, Option.bind_some]
  try dsimp only
  by_cases q1 : r1v = 0
  · rw [if_pos q1]
    have t2 : (0 : Int32).toInt = 0 := by decide
    first | have hx_3 := i32_hi (r1v) | skip
    first | have hx_4 := i32_lo (r1v) | skip
    first | have f5 : (r1v : Int32).toInt = (0 : Int32).toInt := congrArg Int32.toInt q1 | skip
    exact ⟨_, rfl, (SI.mono S (by omega))⟩
  · rw [if_neg q1]
    have t6 : (0 : Int32).toInt = 0 := by decide
    first | have hx_7 := i32_hi (r1v) | skip
    first | have hx_8 := i32_lo (r1v) | skip
    first | have f9 : (r1v : Int32).toInt ≠ (0 : Int32).toInt := ti_ne q1 | skip
    obtain ⟨⟨r3v, r3h⟩, e_r3, (hh_r3 : r3h = h), p_r3_0, p_r3_1⟩ := z_X12_isField x2 h S  
    replace hh_r3 := hh_r3.symm
    subst hh_r3
    dsimp only at p_r3_0 p_r3_1
    have bb_r3 := bool_bd p_r3_0
    rw [e_r3, Option.bind_some]
    try dsimp only
    by_cases q10 : r3v = 0
    · rw [if_pos q10]
      first | have hx_11 := i32_hi (r3v) | skip
      first | have hx_12 := i32_lo (r3v) | skip
      first | have f13 : (r3v : Int32).toInt = (0 : Int32).toInt := congrArg Int32.toInt q10 | skip
      exact ⟨_, rfl, (SI.mono S (by omega))⟩
    · rw [if_neg q10]
      first | have hx_14 := i32_hi (r3v) | skip
      first | have hx_15 := i32_lo (r3v) | skip
      first | have f16 : (r3v : Int32).toInt ≠ (0 : Int32).toInt := ti_ne q10 | skip
      have q17 : mIn x2 24 = true := (mIn_bd (by omega) (by omega))
      rw [if_pos q17]
      by_cases q18 : (h.1 49 0 x2.toNatClampNeg) = 2
      · rw [if_pos q18]
        have t19 : (2 : Int32).toInt = 2 := by decide
        first | have hx_20 := i32_hi (h.1 49 0 x2.toNatClampNeg) | skip
        first | have hx_21 := i32_lo (h.1 49 0 x2.toNatClampNeg) | skip
        first | have f22 : (h.1 49 0 x2.toNatClampNeg : Int32).toInt = (2 : Int32).toInt := congrArg Int32.toInt q18 | skip
        by_cases q23 : (h.1 53 0 x2.toNatClampNeg) = (-1)
        · rw [if_pos q23]
          have b24 : -1 ≤ (h.1 53 0 x2.toNatClampNeg).toInt ∧ (h.1 53 0 x2.toNatClampNeg).toInt ≤ 5 := (S).1 53 0 x2.toNatClampNeg
          have t25 : ((-1) : Int32).toInt = (-1) := by decide
          first | have hx_26 := i32_hi (h.1 53 0 x2.toNatClampNeg) | skip
          first | have hx_27 := i32_lo (h.1 53 0 x2.toNatClampNeg) | skip
          first | have f28 : (h.1 53 0 x2.toNatClampNeg : Int32).toInt = (-1 : Int32).toInt := congrArg Int32.toInt q23 | skip
          exact ⟨_, rfl, (SI.mono S (by omega))⟩
        · rw [if_neg q23]
          have b29 : -1 ≤ (h.1 53 0 x2.toNatClampNeg).toInt ∧ (h.1 53 0 x2.toNatClampNeg).toInt ≤ 5 := (S).1 53 0 x2.toNatClampNeg
          have t30 : ((-1) : Int32).toInt = (-1) := by decide
          first | have hx_31 := i32_hi (h.1 53 0 x2.toNatClampNeg) | skip
          first | have hx_32 := i32_lo (h.1 53 0 x2.toNatClampNeg) | skip
          first | have f33 : (h.1 53 0 x2.toNatClampNeg : Int32).toInt ≠ (-1 : Int32).toInt := ti_ne q23 | skip
          have t34 : (6 : Int32).toInt = 6 := by decide
          obtain ⟨r8, e_r8, S_r8, p_r8_0, fr_r8⟩ := y_X12_stores 6 h S ff_X12_stores (by omega)
          rw [e_r8, Option.bind_some]
          obtain ⟨r9, e_r9, S_r9, p_r9_0, fr_r9, tk_r9⟩ := y_X12_runs_2 0 x1 r8 S_r8 ff_X12_runs_2 (by omega) (by omega)
          rw [e_r9, Option.bind_some]
          have bb_r9 := bool_bd p_r9_0
          obtain ⟨r10, e_r10, S_r10, p_r10_0, fr_r10⟩ := y_X12_brings 6 r9.2 S_r9 ff_X12_brings (by omega)
          rw [e_r10, Option.bind_some]
          by_cases q35 : r9.1 = 0
          · rw [if_pos q35]
            first | have hx_36 := i32_hi (r9.1) | skip
            first | have hx_37 := i32_lo (r9.1) | skip
            first | have f38 : (r9.1 : Int32).toInt = (0 : Int32).toInt := congrArg Int32.toInt q35 | skip
            by_cases q39 : (r10.1 12 0 30) = 16
            · rw [if_pos q39]
              have b40 : 0 ≤ (r10.1 12 0 30).toInt ∧ (r10.1 12 0 30).toInt ≤ 16 := (S_r10).1 12 0 30
              have t41 : (16 : Int32).toInt = 16 := by decide
              first | have hx_42 := i32_hi (r10.1 12 0 30) | skip
              first | have hx_43 := i32_lo (r10.1 12 0 30) | skip
              first | have f44 : (r10.1 12 0 30 : Int32).toInt = (16 : Int32).toInt := congrArg Int32.toInt q39 | skip
              exact ⟨_, rfl, (SI.mono S_r10 (by omega))⟩
            · rw [if_neg q39]
              have b45 : 0 ≤ (r10.1 12 0 30).toInt ∧ (r10.1 12 0 30).toInt ≤ 16 := (S_r10).1 12 0 30
              have t46 : (16 : Int32).toInt = 16 := by decide
              first | have hx_47 := i32_hi (r10.1 12 0 30) | skip
              first | have hx_48 := i32_lo (r10.1 12 0 30) | skip
              first | have f49 : (r10.1 12 0 30 : Int32).toInt ≠ (16 : Int32).toInt := ti_ne q39 | skip
              have t50 : (1 : Int32).toInt = 1 := by decide
              have b51 : 0 ≤ (r10.1 79 0 (6 : Int32).toNatClampNeg).toInt ∧ (r10.1 79 0 (6 : Int32).toNatClampNeg).toInt ≤ 16 := (S_r10).1 79 0 ((6 : Int32).toNatClampNeg)
              have l52 : (r10.1 79 0 (6 : Int32).toNatClampNeg).toInt = (r9.2.1 79 0 ((6 : Int32).toNatClampNeg)).toInt := congrArg Int32.toInt (fr_r10 79 0 ((6 : Int32).toNatClampNeg) rfl).1
              have b53 : 0 ≤ (r9.2.1 79 0 ((6 : Int32).toNatClampNeg)).toInt ∧ (r9.2.1 79 0 ((6 : Int32).toNatClampNeg)).toInt ≤ 16 := (S_r9).1 79 0 ((6 : Int32).toNatClampNeg)
              have l54 : (r9.2.1 79 0 ((6 : Int32).toNatClampNeg)).toInt = (r8.1 79 0 ((6 : Int32).toNatClampNeg)).toInt := congrArg Int32.toInt (fr_r9 79 0 ((6 : Int32).toNatClampNeg) rfl).1
              have b55 : 0 ≤ (r8.1 79 0 ((6 : Int32).toNatClampNeg)).toInt ∧ (r8.1 79 0 ((6 : Int32).toNatClampNeg)).toInt ≤ 16 := (S_r8).1 79 0 ((6 : Int32).toNatClampNeg)
              have b56 : -1 ≤ (r10.1 53 0 x2.toNatClampNeg).toInt ∧ (r10.1 53 0 x2.toNatClampNeg).toInt ≤ 5 := (S_r10).1 53 0 x2.toNatClampNeg
              have l57 : (r10.1 53 0 x2.toNatClampNeg).toInt = (r9.2.1 53 0 x2.toNatClampNeg).toInt := congrArg Int32.toInt (fr_r10 53 0 x2.toNatClampNeg rfl).1
              have b58 : -1 ≤ (r9.2.1 53 0 x2.toNatClampNeg).toInt ∧ (r9.2.1 53 0 x2.toNatClampNeg).toInt ≤ 5 := (S_r9).1 53 0 x2.toNatClampNeg
              have l59 : (r9.2.1 53 0 x2.toNatClampNeg).toInt = (r8.1 53 0 x2.toNatClampNeg).toInt := congrArg Int32.toInt (fr_r9 53 0 x2.toNatClampNeg rfl).1
              have b60 : -1 ≤ (r8.1 53 0 x2.toNatClampNeg).toInt ∧ (r8.1 53 0 x2.toNatClampNeg).toInt ≤ 5 := (S_r8).1 53 0 x2.toNatClampNeg
              have l61 : (r8.1 53 0 x2.toNatClampNeg).toInt = (h.1 53 0 x2.toNatClampNeg).toInt := congrArg Int32.toInt (fr_r8 53 0 x2.toNatClampNeg rfl).1
              obtain ⟨d_, hd_, ed_⟩ := tk_r9
              have k1_ := (fr_r9 72 0 ((6 : Int32).toNatClampNeg) rfl).1
              have hv_ : ((r9.2.1 12 0 23) - (r9.2.1 72 0 (6 : Int32).toNatClampNeg)).toInt ≤ 9000000 := by rw [ed_, k1_, p_r8_0]; exact now_d hd_
              refine z_X12_walk_107 (m := (m + 8524656)) _  x1 x2 ((r9.2.1 12 0 23) - (r9.2.1 72 0 (6 : Int32).toNatClampNeg)) ((r9.2.1 12 0 37) + 1) ff_X12_walk_107 (by omega) (by omega) hv_ (fun u31 u32 h33 S_h33 y64 y65 y66 y67 y68 => ?_)  mFu 0 1 r10 (SI.mono S_r10 (by omega)) (by omega) (by omega) (by omega) (by omega) (by omega) (by have := mFu_big; omega)
              try dsimp only
              exact ⟨_, rfl, (SI.mono S_h33 (by omega))⟩
          · rw [if_neg q35]
            first | have hx_69 := i32_hi (r9.1) | skip
            first | have hx_70 := i32_lo (r9.1) | skip
            first | have f71 : (r9.1 : Int32).toInt ≠ (0 : Int32).toInt := ti_ne q35 | skip
            exact ⟨_, rfl, (SI.mono S_r10 (by omega))⟩
      · rw [if_neg q18]
        have t72 : (2 : Int32).toInt = 2 := by decide
        first | have hx_73 := i32_hi (h.1 49 0 x2.toNatClampNeg) | skip
        first | have hx_74 := i32_lo (h.1 49 0 x2.toNatClampNeg) | skip
        first | have f75 : (h.1 49 0 x2.toNatClampNeg : Int32).toInt ≠ (2 : Int32).toInt := ti_ne q18 | skip
        exact ⟨_, rfl, (SI.mono S (by omega))⟩
set_option maxHeartbeats 400000 in
theorem z_X12_why {fp : Nat → Bool} {b : mH} {m : Nat} (x1 : Int32) (h : mH) (S : SI fp b m h)   : ∃ r, f_X12_why x1 h = some r ∧ r.2 = h := by
  unfold f_X12_why
  by_cases q1 : (h.1 12 0 57) = (-1)
  · rw [if_pos q1]
    have t2 : ((-1) : Int32).toInt = (-1) := by decide
    first | have hx_3 := i32_hi (h.1 12 0 57) | skip
    first | have hx_4 := i32_lo (h.1 12 0 57) | skip
    first | have f5 : (h.1 12 0 57 : Int32).toInt = (-1 : Int32).toInt := congrArg Int32.toInt q1 | skip
    exact ⟨_, rfl, rfl⟩
  · rw [if_neg q1]
    have t6 : ((-1) : Int32).toInt = (-1) := by decide
    first | have hx_7 := i32_hi (h.1 12 0 57) | skip
    first | have hx_8 := i32_lo (h.1 12 0 57) | skip
    first | have f9 : (h.1 12 0 57 : Int32).toInt ≠ (-1 : Int32).toInt := ti_ne q1 | skip
    by_cases q10 : x1 = 0
    · rw [if_pos q10]
      have t11 : (0 : Int32).toInt = 0 := by decide
      first | have hx_12 := i32_hi (x1) | skip
      first | have hx_13 := i32_lo (x1) | skip
      first | have f14 : (x1 : Int32).toInt = (0 : Int32).toInt := congrArg Int32.toInt q10 | skip
      exact ⟨_, rfl, rfl⟩
    · rw [if_neg q10]
      have t15 : (0 : Int32).toInt = 0 := by decide
      first | have hx_16 := i32_hi (x1) | skip
      first | have hx_17 := i32_lo (x1) | skip
      first | have f18 : (x1 : Int32).toInt ≠ (0 : Int32).toInt := ti_ne q10 | skip
      by_cases q19 : x1 = 1
      · rw [if_pos q19]
        have t20 : (1 : Int32).toInt = 1 := by decide
        first | have f21 : (x1 : Int32).toInt = (1 : Int32).toInt := congrArg Int32.toInt q19 | skip
        exact ⟨_, rfl, rfl⟩
      · rw [if_neg q19]
        have t22 : (1 : Int32).toInt = 1 := by decide
        first | have f23 : (x1 : Int32).toInt ≠ (1 : Int32).toInt := ti_ne q19 | skip
        exact ⟨_, rfl, rfl⟩
set_option maxHeartbeats 400000 in
theorem z_X12_isTape {fp : Nat → Bool} {b : mH} {m : Nat} (x0 : Int32) (h : mH) (S : SI fp b m h)   : ∃ r, f_X12_isTape x0 h = some r ∧ r.2 = h ∧ (r.1 = 0 ∨ r.1 = 1) ∧ (r.1.toInt = 0 ∨ (0 ≤ x0.toInt ∧ x0.toInt < 6)) := by
  unfold f_X12_isTape
  have t1 : (0 : Int32).toInt = 0 := by decide
  have t2 : (5 : Int32).toInt = 5 := by decide
  obtain ⟨⟨r1v, r1h⟩, e_r1, (hh_r1 : r1h = h), p_r1_0, p_r1_1⟩ := z_X12_in x0 0 5 h S  
  replace hh_r1 := hh_r1.symm
  subst hh_r1
  dsimp only at p_r1_0 p_r1_1
  have bb_r1 := bool_bd p_r1_0
  rw [e_r1, Option.bind_some]
  try dsimp only
  have q3 : (r1v = 0 ∨ r1v = 1) := p_r1_0
  rw [if_pos q3]
  have pp4 : (r1v.toInt = 0 ∨ (0 ≤ x0.toInt ∧ x0.toInt < 6)) := by omega
  exact ⟨_, rfl, rfl, q3, pp4⟩
def W_X12_tape_52 : List Nat := [5824]
set_option maxHeartbeats 400000 in
theorem z_X12_tape_52 {fp : Nat → Bool} {b : mH} {m : Nat} {P : Int32 × mH → Prop} (k : Int32 → Int32 → Int32 → mH → Option (Int32 × mH))  (v1 : Int32) (v3 : Int32) (ff : ∀ c ∈ W_X12_tape_52, fp c = false) (cp0 : (0 ≤ v1.toInt ∧ v1.toInt < 6)) (hk : ∀ (v4 : Int32) (h : mH), SI fp b m h → 0 ≤ v4.toInt → ∃ r, k v1 v3 v4 h = some r ∧ P r) : ∀ (n : Nat) (v4 : Int32) (h : mH), SI fp b m h → 0 ≤ v4.toInt → 2147483648 - v4.toInt < n → ∃ r, f_X12_tape_52 k  n v1 v3 v4 h = some r ∧ P r := by
  have w5824 : fp 5824 = false := ff 5824 (by decide)
  intro n
  induction n with
  | zero =>
    intro v4 h S iv0 hm
    have hz := i32_hi v4
    omega
  | succ n ih =>
    intro v4 h S iv0 hm
    rw [f_X12_tape_52]
    by_cases q1 : v4 < 64
    · rw [if_pos q1]
      have t2 : (64 : Int32).toInt = 64 := by decide
      first | have hx_3 := i32_hi (v4) | skip
      first | have hx_4 := i32_lo (v4) | skip
      first | have f5 : (v4 : Int32).toInt < (64 : Int32).toInt := Int32.lt_iff_toInt_lt.mp q1 | skip
      first | have o6 : (64 * v1).toInt = 64 * (v1 : Int32).toInt := ti_km (by decide) (by omega) (by omega) | skip
      first | have o7 : ((64 * v1) + v4 : Int32).toInt = (64 * v1 : Int32).toInt + (v4 : Int32).toInt := ti_add (by omega) (by omega) | skip
      have q8 : mIn ((64 * v1) + v4) 384 = true := (mIn_bd (by omega) (by omega))
      rw [if_pos q8]
      have t9 : (1 : Int32).toInt = 1 := by decide
      first | have o10 : (v4 + 1 : Int32).toInt = (v4 : Int32).toInt + (1 : Int32).toInt := ti_add (by omega) (by omega) | skip
      exact ih (v4 + 1) (uJ h 91 0 ((64 * v1) + v4).toNatClampNeg 0) (SI.j S rfl w5824) (by omega) (by omega)
    · rw [if_neg q1]
      have t11 : (64 : Int32).toInt = 64 := by decide
      first | have hx_12 := i32_hi (v4) | skip
      first | have hx_13 := i32_lo (v4) | skip
      first | have f14 : (64 : Int32).toInt ≤ (v4 : Int32).toInt := Int32.le_iff_toInt_le.mp (Int32.not_lt.mp q1) | skip
      exact hk v4 h S iv0
def W_X12_tape : List Nat := [830, 5696, 5760, 5824]
set_option maxHeartbeats 400000 in
theorem z_X12_tape {fp : Nat → Bool} {b : mH} {m : Nat} (x1 : Int32) (x2 : Int32) (x3 : Int32) (h : mH) (S : SI fp b m h) (ff : ∀ c ∈ W_X12_tape, fp c = false)  : ∃ r, f_X12_tape x1 x2 x3 h = some r ∧ SI fp b m r.2 := by
  have ff_X12_refuse : ∀ c ∈ W_X12_refuse, fp c = false := fun c hc => ff c ((by decide : ∀ c ∈ W_X12_refuse, c ∈ W_X12_tape) c hc)
  have ff_X12_tape_52 : ∀ c ∈ W_X12_tape_52, fp c = false := fun c hc => ff c ((by decide : ∀ c ∈ W_X12_tape_52, c ∈ W_X12_tape) c hc)
  have w5696 : fp 5696 = false := ff 5696 (by decide)
  have w5760 : fp 5760 = false := ff 5760 (by decide)
  unfold f_X12_tape
  obtain ⟨⟨r1v, r1h⟩, e_r1, (hh_r1 : r1h = h), p_r1_0, p_r1_1⟩ := z_X12_isTape x1 h S  
  replace hh_r1 := hh_r1.symm
  subst hh_r1
  dsimp only at p_r1_0 p_r1_1
  have bb_r1 := bool_bd p_r1_0
  rw [e_r1, Option.bind_some]
  try dsimp only
  by_cases q1 : r1v = 0
  · rw [if_pos q1]
    have t2 : (0 : Int32).toInt = 0 := by decide
    first | have hx_3 := i32_hi (r1v) | skip
    first | have hx_4 := i32_lo (r1v) | skip
    first | have f5 : (r1v : Int32).toInt = (0 : Int32).toInt := congrArg Int32.toInt q1 | skip
    exact ⟨_, rfl, S⟩
  · rw [if_neg q1]
    have t6 : (0 : Int32).toInt = 0 := by decide
    first | have hx_7 := i32_hi (r1v) | skip
    first | have hx_8 := i32_lo (r1v) | skip
    first | have f9 : (r1v : Int32).toInt ≠ (0 : Int32).toInt := ti_ne q1 | skip
    have t10 : (1 : Int32).toInt = 1 := by decide
    have t11 : (4 : Int32).toInt = 4 := by decide
    obtain ⟨⟨r3v, r3h⟩, e_r3, (hh_r3 : r3h = h), p_r3_0, p_r3_1⟩ := z_X12_in x2 1 4 h S  
    replace hh_r3 := hh_r3.symm
    subst hh_r3
    dsimp only at p_r3_0 p_r3_1
    have bb_r3 := bool_bd p_r3_0
    rw [e_r3, Option.bind_some]
    try dsimp only
    by_cases q12 : r3v = 0
    · rw [if_pos q12]
      first | have hx_13 := i32_hi (r3v) | skip
      first | have hx_14 := i32_lo (r3v) | skip
      first | have f15 : (r3v : Int32).toInt = (0 : Int32).toInt := congrArg Int32.toInt q12 | skip
      exact ⟨_, rfl, S⟩
    · rw [if_neg q12]
      first | have hx_16 := i32_hi (r3v) | skip
      first | have hx_17 := i32_lo (r3v) | skip
      first | have f18 : (r3v : Int32).toInt ≠ (0 : Int32).toInt := ti_ne q12 | skip
      by_cases q19 : x3 ≤ 64
      · rw [if_pos q19]
        have t20 : (64 : Int32).toInt = 64 := by decide
        first | have hx_21 := i32_hi (x3) | skip
        first | have hx_22 := i32_lo (x3) | skip
        first | have f23 : (x3 : Int32).toInt ≤ (64 : Int32).toInt := Int32.le_iff_toInt_le.mp q19 | skip
        by_cases q24 : x3 < 0
        · rw [if_pos q24]
          first | have f25 : (x3 : Int32).toInt < (0 : Int32).toInt := Int32.lt_iff_toInt_lt.mp q24 | skip
          obtain ⟨r15, e_r15, S_r15⟩ := z_X12_refuse (-14) h S ff_X12_refuse 
          rw [e_r15, Option.bind_some]
          exact ⟨_, rfl, S_r15⟩
        · rw [if_neg q24]
          first | have f26 : (0 : Int32).toInt ≤ (x3 : Int32).toInt := Int32.le_iff_toInt_le.mp (Int32.not_lt.mp q24) | skip
          have q27 : mIn x1 6 = true := (mIn_bd (by omega) (by omega))
          rw [if_pos q27]
          have w_28 : 0 ≤ (x2 : Int32).toInt ∧ (x2 : Int32).toInt ≤ 5 := by omega
          refine let_ex (fun h8 e_h8 => ?_)
          have S_h8 : SI fp b m h8 := e_h8 ▸ (SI.u S rfl w5696 w_28)
          have w_29 : 0 ≤ (x3 : Int32).toInt ∧ (x3 : Int32).toInt ≤ 64 := by omega
          obtain ⟨g30, e_g30⟩ : ∃ g, uI h8 90 0 x1.toNatClampNeg x3 = g := ⟨_, rfl⟩
          rw [e_g30]
          have S_g30 : SI fp b m g30 := e_g30 ▸ (SI.u S_h8 rfl w5760 w_29)
          refine z_X12_tape_52 (m := m) _  x1 x3 ff_X12_tape_52 (by omega) (fun u13 h14 S_h14 y31 => ?_)  mFu 0 g30 S_g30 (by omega) (by have := mFu_big; omega)
          try dsimp only
          exact ⟨_, rfl, S_h14⟩
      · rw [if_neg q19]
        have t32 : (64 : Int32).toInt = 64 := by decide
        first | have hx_33 := i32_hi (x3) | skip
        first | have hx_34 := i32_lo (x3) | skip
        first | have f35 : (64 : Int32).toInt < (x3 : Int32).toInt := Int32.lt_iff_toInt_lt.mp (Int32.not_le.mp q19) | skip
        exact ⟨_, rfl, S⟩
def W_X12_image : List Nat := [4608, 4672, 4736, 4800, 4864, 4928, 4992, 5056, 5120, 5184, 5248, 5312, 5376, 5440, 5504, 5568, 5632, 5696, 5760]
set_option maxHeartbeats 400000 in
theorem z_X12_image {fp : Nat → Bool} {b : mH} {m : Nat} (x1 : Int32) (h : mH) (S : SI fp b m h) (ff : ∀ c ∈ W_X12_image, fp c = false)  : ∃ r, f_X12_image x1 h = some r ∧ SI fp b m r.2 := by
  have ff_X12_stores : ∀ c ∈ W_X12_stores, fp c = false := fun c hc => ff c ((by decide : ∀ c ∈ W_X12_stores, c ∈ W_X12_image) c hc)
  have w5696 : fp 5696 = false := ff 5696 (by decide)
  have w5760 : fp 5760 = false := ff 5760 (by decide)
  unfold f_X12_image
  obtain ⟨⟨r1v, r1h⟩, e_r1, (hh_r1 : r1h = h), p_r1_0, p_r1_1⟩ := z_X12_isTape x1 h S  
  replace hh_r1 := hh_r1.symm
  subst hh_r1
  dsimp only at p_r1_0 p_r1_1
  have bb_r1 := bool_bd p_r1_0
  rw [e_r1, Option.bind_some]
  try dsimp only
  by_cases q1 : r1v = 0
  · rw [if_pos q1]
    have t2 : (0 : Int32).toInt = 0 := by decide
    first | have hx_3 := i32_hi (r1v) | skip
    first | have hx_4 := i32_lo (r1v) | skip
    first | have f5 : (r1v : Int32).toInt = (0 : Int32).toInt := congrArg Int32.toInt q1 | skip
    exact ⟨_, rfl, S⟩
  · rw [if_neg q1]
    have t6 : (0 : Int32).toInt = 0 := by decide
    first | have hx_7 := i32_hi (r1v) | skip
    first | have hx_8 := i32_lo (r1v) | skip
    first | have f9 : (r1v : Int32).toInt ≠ (0 : Int32).toInt := ti_ne q1 | skip
    have q10 : mIn x1 6 = true := (mIn_bd (by omega) (by omega))
    rw [if_pos q10]
    have t11 : (5 : Int32).toInt = 5 := by decide
    have w_12 : 0 ≤ (5 : Int32).toInt ∧ (5 : Int32).toInt ≤ 5 := by omega
    refine let_ex (fun h4 e_h4 => ?_)
    have S_h4 : SI fp b m h4 := e_h4 ▸ (SI.u S rfl w5696 w_12)
    have w_13 : 0 ≤ (0 : Int32).toInt ∧ (0 : Int32).toInt ≤ 64 := by omega
    obtain ⟨g14, e_g14⟩ : ∃ g, uI h4 90 0 x1.toNatClampNeg 0 = g := ⟨_, rfl⟩
    rw [e_g14]
    have S_g14 : SI fp b m g14 := e_g14 ▸ (SI.u S_h4 rfl w5760 w_13)
    obtain ⟨r5, e_r5, S_r5, p_r5_0, fr_r5⟩ := y_X12_stores x1 g14 S_g14 ff_X12_stores (by omega)
    rw [e_r5, Option.bind_some]
    exact ⟨_, rfl, S_r5⟩
def W_X12_lacks : List Nat := [830]
set_option maxHeartbeats 400000 in
theorem z_X12_lacks {fp : Nat → Bool} {b : mH} {m : Nat} (x1 : Int32) (h : mH) (S : SI fp b m h) (ff : ∀ c ∈ W_X12_lacks, fp c = false)  : ∃ r, f_X12_lacks x1 h = some r ∧ SI fp b m r.2 ∧ (r.1.toInt ≠ 0 ∨ (0 ≤ x1.toInt ∧ x1.toInt < 6)) := by
  have ff_X12_refuse : ∀ c ∈ W_X12_refuse, fp c = false := fun c hc => ff c ((by decide : ∀ c ∈ W_X12_refuse, c ∈ W_X12_lacks) c hc)
  unfold f_X12_lacks
  obtain ⟨⟨r1v, r1h⟩, e_r1, (hh_r1 : r1h = h), p_r1_0, p_r1_1⟩ := z_X12_isTape x1 h S  
  replace hh_r1 := hh_r1.symm
  subst hh_r1
  dsimp only at p_r1_0 p_r1_1
  have bb_r1 := bool_bd p_r1_0
  rw [e_r1, Option.bind_some]
  try dsimp only
  by_cases q1 : r1v = 0
  · rw [if_pos q1]
    have t2 : (0 : Int32).toInt = 0 := by decide
    first | have hx_3 := i32_hi (r1v) | skip
    first | have hx_4 := i32_lo (r1v) | skip
    first | have f5 : (r1v : Int32).toInt = (0 : Int32).toInt := congrArg Int32.toInt q1 | skip
    have t6 : ((-1) : Int32).toInt = (-1) := by decide
    have pp7 : ((-1 : Int32).toInt ≠ 0 ∨ (0 ≤ x1.toInt ∧ x1.toInt < 6)) := by omega
    exact ⟨_, rfl, S, pp7⟩
  · rw [if_neg q1]
    have t8 : (0 : Int32).toInt = 0 := by decide
    first | have hx_9 := i32_hi (r1v) | skip
    first | have hx_10 := i32_lo (r1v) | skip
    first | have f11 : (r1v : Int32).toInt ≠ (0 : Int32).toInt := ti_ne q1 | skip
    have q12 : mIn x1 6 = true := (mIn_bd (by omega) (by omega))
    rw [if_pos q12]
    by_cases q13 : (h.1 89 0 x1.toNatClampNeg) = 0
    · rw [if_pos q13]
      have b14 : 0 ≤ (h.1 89 0 x1.toNatClampNeg).toInt ∧ (h.1 89 0 x1.toNatClampNeg).toInt ≤ 5 := (S).1 89 0 x1.toNatClampNeg
      first | have hx_15 := i32_hi (h.1 89 0 x1.toNatClampNeg) | skip
      first | have hx_16 := i32_lo (h.1 89 0 x1.toNatClampNeg) | skip
      first | have f17 : (h.1 89 0 x1.toNatClampNeg : Int32).toInt = (0 : Int32).toInt := congrArg Int32.toInt q13 | skip
      obtain ⟨r7, e_r7, S_r7⟩ := z_X12_refuse (-11) h S ff_X12_refuse 
      rw [e_r7, Option.bind_some]
      have pp18 : (r7.1.toInt ≠ 0 ∨ (0 ≤ x1.toInt ∧ x1.toInt < 6)) := by omega
      exact ⟨_, rfl, S_r7, pp18⟩
    · rw [if_neg q13]
      have b19 : 0 ≤ (h.1 89 0 x1.toNatClampNeg).toInt ∧ (h.1 89 0 x1.toNatClampNeg).toInt ≤ 5 := (S).1 89 0 x1.toNatClampNeg
      first | have hx_20 := i32_hi (h.1 89 0 x1.toNatClampNeg) | skip
      first | have hx_21 := i32_lo (h.1 89 0 x1.toNatClampNeg) | skip
      first | have f22 : (h.1 89 0 x1.toNatClampNeg : Int32).toInt ≠ (0 : Int32).toInt := ti_ne q13 | skip
      by_cases q23 : (h.1 89 0 x1.toNatClampNeg) = 5
      · rw [if_pos q23]
        have t24 : (5 : Int32).toInt = 5 := by decide
        first | have f25 : (h.1 89 0 x1.toNatClampNeg : Int32).toInt = (5 : Int32).toInt := congrArg Int32.toInt q23 | skip
        have pp26 : ((0 : Int32).toInt ≠ 0 ∨ (0 ≤ x1.toInt ∧ x1.toInt < 6)) := by omega
        exact ⟨_, rfl, S, pp26⟩
      · rw [if_neg q23]
        have t27 : (5 : Int32).toInt = 5 := by decide
        first | have f28 : (h.1 89 0 x1.toNatClampNeg : Int32).toInt ≠ (5 : Int32).toInt := ti_ne q23 | skip
        obtain ⟨r6, e_r6, S_r6⟩ := z_X12_refuse (-12) h S ff_X12_refuse 
        rw [e_r6, Option.bind_some]
        have pp29 : (r6.1.toInt ≠ 0 ∨ (0 ≤ x1.toInt ∧ x1.toInt < 6)) := by omega
        exact ⟨_, rfl, S_r6, pp29⟩
def W_X12_back : List Nat := [791, 798, 802, 803, 804, 805, 806, 830, 4032, 4096, 4160, 4224, 4288, 4352, 4416, 4480, 4544, 9999]
set_option maxHeartbeats 400000 in
theorem z_X12_back {fp : Nat → Bool} {b : mH} {m : Nat} (x1 : Int32) (h : mH) (S : SI fp b m h) (ff : ∀ c ∈ W_X12_back, fp c = false)  : ∃ r, f_X12_back x1 h = some r ∧ SI fp b m r.2 := by
  have ff_X12_brings : ∀ c ∈ W_X12_brings, fp c = false := fun c hc => ff c ((by decide : ∀ c ∈ W_X12_brings, c ∈ W_X12_back) c hc)
  have ff_X12_lacks : ∀ c ∈ W_X12_lacks, fp c = false := fun c hc => ff c ((by decide : ∀ c ∈ W_X12_lacks, c ∈ W_X12_back) c hc)
  unfold f_X12_back
  obtain ⟨r1, e_r1, S_r1, p_r1_0⟩ := z_X12_lacks x1 h S ff_X12_lacks 
  rw [e_r1, Option.bind_some]
  by_cases q1 : r1.1 = 0
  · rw [if_pos q1]
    have t2 : (0 : Int32).toInt = 0 := by decide
    first | have hx_3 := i32_hi (r1.1) | skip
    first | have hx_4 := i32_lo (r1.1) | skip
    first | have f5 : (r1.1 : Int32).toInt = (0 : Int32).toInt := congrArg Int32.toInt q1 | skip
    have q6 : mIn x1 8 = true := (mIn_bd (by omega) (by omega))
    rw [if_pos q6]
    by_cases q7 : (r1.2.1 88 0 x1.toNatClampNeg) = (r1.2.1 12 0 55)
    · rw [if_pos q7]
      first | have hx_8 := i32_hi (r1.2.1 88 0 x1.toNatClampNeg) | skip
      first | have hx_9 := i32_lo (r1.2.1 88 0 x1.toNatClampNeg) | skip
      first | have hx_10 := i32_hi (r1.2.1 12 0 55) | skip
      first | have hx_11 := i32_lo (r1.2.1 12 0 55) | skip
      first | have f12 : (r1.2.1 88 0 x1.toNatClampNeg : Int32).toInt = (r1.2.1 12 0 55 : Int32).toInt := congrArg Int32.toInt q7 | skip
      obtain ⟨r5, e_r5, S_r5, p_r5_0, fr_r5⟩ := y_X12_brings x1 r1.2 S_r1 ff_X12_brings (by omega)
      rw [e_r5, Option.bind_some]
      exact ⟨_, rfl, S_r5⟩
    · rw [if_neg q7]
      first | have hx_13 := i32_hi (r1.2.1 88 0 x1.toNatClampNeg) | skip
      first | have hx_14 := i32_lo (r1.2.1 88 0 x1.toNatClampNeg) | skip
      first | have hx_15 := i32_hi (r1.2.1 12 0 55) | skip
      first | have hx_16 := i32_lo (r1.2.1 12 0 55) | skip
      first | have f17 : (r1.2.1 88 0 x1.toNatClampNeg : Int32).toInt ≠ (r1.2.1 12 0 55 : Int32).toInt := ti_ne q7 | skip
      exact ⟨_, rfl, S_r1⟩
  · rw [if_neg q1]
    have t18 : (0 : Int32).toInt = 0 := by decide
    first | have hx_19 := i32_hi (r1.1) | skip
    first | have hx_20 := i32_lo (r1.1) | skip
    first | have f21 : (r1.1 : Int32).toInt ≠ (0 : Int32).toInt := ti_ne q1 | skip
    exact ⟨_, rfl, S_r1⟩
def W_X12_toss : List Nat := [830]
set_option maxHeartbeats 400000 in
theorem z_X12_toss {fp : Nat → Bool} {b : mH} {m : Nat} (x1 : Int32) (h : mH) (S : SI fp b m h) (ff : ∀ c ∈ W_X12_toss, fp c = false)  : ∃ r, f_X12_toss x1 h = some r ∧ SI fp b m r.2 := by
  have ff_X12_lacks : ∀ c ∈ W_X12_lacks, fp c = false := fun c hc => ff c ((by decide : ∀ c ∈ W_X12_lacks, c ∈ W_X12_toss) c hc)
  have ff_X12_refuse : ∀ c ∈ W_X12_refuse, fp c = false := fun c hc => ff c ((by decide : ∀ c ∈ W_X12_refuse, c ∈ W_X12_toss) c hc)
  unfold f_X12_toss
  obtain ⟨r1, e_r1, S_r1, p_r1_0⟩ := z_X12_lacks x1 h S ff_X12_lacks 
  rw [e_r1, Option.bind_some]
  by_cases q1 : r1.1 = 0
  · rw [if_pos q1]
    have t2 : (0 : Int32).toInt = 0 := by decide
    first | have hx_3 := i32_hi (r1.1) | skip
    first | have hx_4 := i32_lo (r1.1) | skip
    first | have f5 : (r1.1 : Int32).toInt = (0 : Int32).toInt := congrArg Int32.toInt q1 | skip
    have q6 : mIn x1 8 = true := (mIn_bd (by omega) (by omega))
    rw [if_pos q6]
    by_cases q7 : (r1.2.1 83 0 x1.toNatClampNeg) = 0
    · rw [if_pos q7]
      first | have hx_8 := i32_hi (r1.2.1 83 0 x1.toNatClampNeg) | skip
      first | have hx_9 := i32_lo (r1.2.1 83 0 x1.toNatClampNeg) | skip
      first | have f10 : (r1.2.1 83 0 x1.toNatClampNeg : Int32).toInt = (0 : Int32).toInt := congrArg Int32.toInt q7 | skip
      obtain ⟨r5, e_r5, S_r5⟩ := z_X12_refuse (-15) r1.2 S_r1 ff_X12_refuse 
      rw [e_r5, Option.bind_some]
      exact ⟨_, rfl, S_r5⟩
    · rw [if_neg q7]
      first | have hx_11 := i32_hi (r1.2.1 83 0 x1.toNatClampNeg) | skip
      first | have hx_12 := i32_lo (r1.2.1 83 0 x1.toNatClampNeg) | skip
      first | have f13 : (r1.2.1 83 0 x1.toNatClampNeg : Int32).toInt ≠ (0 : Int32).toInt := ti_ne q7 | skip
      exact ⟨_, rfl, S_r1⟩
  · rw [if_neg q1]
    have t14 : (0 : Int32).toInt = 0 := by decide
    first | have hx_15 := i32_hi (r1.1) | skip
    first | have hx_16 := i32_lo (r1.1) | skip
    first | have f17 : (r1.1 : Int32).toInt ≠ (0 : Int32).toInt := ti_ne q1 | skip
    exact ⟨_, rfl, S_r1⟩
def W_X12_play_55 : List Nat := [791, 798, 802, 803, 804, 805, 806, 830, 835, 4032, 4096, 4160, 4224, 4288, 4352, 4416, 4480, 4544, 5888, 5952, 6016, 6080]
set_option maxHeartbeats 400000 in
theorem z_X12_play_55 {fp : Nat → Bool} {b : mH} {m : Nat} {P : Int32 × mH → Prop} (k : Int32 → Int32 → Int32 → Int32 → mH → Option (Int32 × mH))  (v1 : Int32) (v2 : Int32) (v3 : Int32) (ff : ∀ c ∈ W_X12_play_55, fp c = false) (cp0 : (0 ≤ v1.toInt ∧ v1.toInt < 6)) (cp1 : v3.toInt ≤ 64) (hk : ∀ (v4 : Int32) (h : mH), SI fp b (m + 8524656 * v4.toInt.toNat) h → 0 ≤ v4.toInt → v4.toInt ≤ 64 → ∃ r, k v1 v2 v3 v4 h = some r ∧ P r) (he : ∀ (rv : Int32) (rh : mH), SI fp b (m + 545577984) rh → P (rv, rh)) : ∀ (n : Nat) (v4 : Int32) (h : mH), SI fp b (m + 8524656 * v4.toInt.toNat) h → 0 ≤ v4.toInt → v4.toInt ≤ 64 → 2147483648 - v4.toInt < n → ∃ r, f_X12_play_55 k  n v1 v2 v3 v4 h = some r ∧ P r := by
  have ff_X12_refuse : ∀ c ∈ W_X12_refuse, fp c = false := fun c hc => ff c ((by decide : ∀ c ∈ W_X12_refuse, c ∈ W_X12_play_55) c hc)
  have ff_X12_runs_2 : ∀ c ∈ W_X12_runs_2, fp c = false := fun c hc => ff c ((by decide : ∀ c ∈ W_X12_runs_2, c ∈ W_X12_play_55) c hc)
  intro n
  induction n with
  | zero =>
    intro v4 h S iv0 iv1 hm
    have hz := i32_hi v4
    omega
  | succ n ih =>
    intro v4 h S iv0 iv1 hm
    rw [f_X12_play_55]
    by_cases q1 : v4 < v3
    · rw [if_pos q1]
      first | have hx_2 := i32_hi (v4) | skip
      first | have hx_3 := i32_lo (v4) | skip
      first | have hx_4 := i32_hi (v3) | skip
      first | have hx_5 := i32_lo (v3) | skip
      first | have f6 : (v4 : Int32).toInt < (v3 : Int32).toInt := Int32.lt_iff_toInt_lt.mp q1 | skip
      have q7 : mIn v1 6 = true := (mIn_bd (by omega) (by omega))
      rw [if_pos q7]
      first | have o8 : (v2 + v4 : Int32).toInt = (v2 : Int32).toInt + (v4 : Int32).toInt := ti_add (by omega) (by omega) | skip
      have t9 : (0 : Int32).toInt = 0 := by decide
      have b10 : 0 ≤ (h.1 90 0 v1.toNatClampNeg).toInt ∧ (h.1 90 0 v1.toNatClampNeg).toInt ≤ 64 := (S).1 90 0 v1.toNatClampNeg
      have t11 : (1 : Int32).toInt = 1 := by decide
      first | have o12 : ((h.1 90 0 v1.toNatClampNeg) - 1 : Int32).toInt = (h.1 90 0 v1.toNatClampNeg : Int32).toInt - (1 : Int32).toInt := ti_sub (by omega) (by omega) | skip
      obtain ⟨⟨r10v, r10h⟩, e_r10, (hh_r10 : r10h = h), p_r10_0, p_r10_1⟩ := z_X12_in (v2 + v4) 0 ((h.1 90 0 v1.toNatClampNeg) - 1) h S  
      replace hh_r10 := hh_r10.symm
      subst hh_r10
      dsimp only at p_r10_0 p_r10_1
      have bb_r10 := bool_bd p_r10_0
      rw [e_r10, Option.bind_some]
      try dsimp only
      by_cases q13 : r10v = 0
      · rw [if_pos q13]
        first | have hx_14 := i32_hi (r10v) | skip
        first | have hx_15 := i32_lo (r10v) | skip
        first | have f16 : (r10v : Int32).toInt = (0 : Int32).toInt := congrArg Int32.toInt q13 | skip
        obtain ⟨r17, e_r17, S_r17⟩ := z_X12_refuse (-13) h S ff_X12_refuse 
        rw [e_r17, Option.bind_some]
        exact ⟨_, rfl, he r17.1 r17.2 (SI.mono S_r17 (by omega)) ⟩
      · rw [if_neg q13]
        first | have hx_17 := i32_hi (r10v) | skip
        first | have hx_18 := i32_lo (r10v) | skip
        first | have f19 : (r10v : Int32).toInt ≠ (0 : Int32).toInt := ti_ne q13 | skip
        have t20 : (64 : Int32).toInt = 64 := by decide
        first | have o21 : (64 * v1).toInt = 64 * (v1 : Int32).toInt := ti_km (by decide) (by omega) (by omega) | skip
        first | have o22 : ((64 * v1) + (v2 + v4) : Int32).toInt = (64 * v1 : Int32).toInt + (v2 + v4 : Int32).toInt := ti_add (by omega) (by omega) | skip
        have q23 : mIn ((64 * v1) + (v2 + v4)) 384 = true := (mIn_bd (by omega) (by omega))
        rw [if_pos q23]
        obtain ⟨⟨r13v, r13h⟩, e_r13, (hh_r13 : r13h = h), p_r13_0, p_r13_1⟩ := z_X12_isAct ((h.2 91 0 ((64 * v1) + (v2 + v4)).toNatClampNeg).toInt32) h S  
        replace hh_r13 := hh_r13.symm
        subst hh_r13
        dsimp only at p_r13_0 p_r13_1
        have bb_r13 := bool_bd p_r13_0
        rw [e_r13, Option.bind_some]
        try dsimp only
        by_cases q24 : r13v = 0
        · rw [if_pos q24]
          first | have hx_25 := i32_hi (r13v) | skip
          first | have hx_26 := i32_lo (r13v) | skip
          first | have f27 : (r13v : Int32).toInt = (0 : Int32).toInt := congrArg Int32.toInt q24 | skip
          exact ⟨_, rfl, he v4 h (SI.mono S (by omega)) ⟩
        · rw [if_neg q24]
          first | have hx_28 := i32_hi (r13v) | skip
          first | have hx_29 := i32_lo (r13v) | skip
          first | have f30 : (r13v : Int32).toInt ≠ (0 : Int32).toInt := ti_ne q24 | skip
          obtain ⟨r15, e_r15, S_r15, p_r15_0, fr_r15, tk_r15⟩ := y_X12_runs_2 0 ((h.2 91 0 ((64 * v1) + (v2 + v4)).toNatClampNeg).toInt32) h S ff_X12_runs_2 (by omega) (by omega)
          rw [e_r15, Option.bind_some]
          have bb_r15 := bool_bd p_r15_0
          by_cases q31 : r15.1 = 0
          · rw [if_pos q31]
            first | have hx_32 := i32_hi (r15.1) | skip
            first | have hx_33 := i32_lo (r15.1) | skip
            first | have f34 : (r15.1 : Int32).toInt = (0 : Int32).toInt := congrArg Int32.toInt q31 | skip
            first | have o35 : (v4 + 1 : Int32).toInt = (v4 : Int32).toInt + (1 : Int32).toInt := ti_add (by omega) (by omega) | skip
            exact ih (v4 + 1) r15.2 (SI.mono S_r15 (by omega)) (by omega) (by omega) (by omega)
          · rw [if_neg q31]
            first | have hx_36 := i32_hi (r15.1) | skip
            first | have hx_37 := i32_lo (r15.1) | skip
            first | have f38 : (r15.1 : Int32).toInt ≠ (0 : Int32).toInt := ti_ne q31 | skip
            exact ⟨_, rfl, he v4 r15.2 (SI.mono S_r15 (by omega)) ⟩
    · rw [if_neg q1]
      first | have hx_39 := i32_hi (v4) | skip
      first | have hx_40 := i32_lo (v4) | skip
      first | have hx_41 := i32_hi (v3) | skip
      first | have hx_42 := i32_lo (v3) | skip
      first | have f43 : (v3 : Int32).toInt ≤ (v4 : Int32).toInt := Int32.le_iff_toInt_le.mp (Int32.not_lt.mp q1) | skip
      exact hk v4 h S iv0 iv1
def W_X12_play : List Nat := [791, 798, 802, 803, 804, 805, 806, 830, 835, 4032, 4096, 4160, 4224, 4288, 4352, 4416, 4480, 4544, 5888, 5952, 6016, 6080]
set_option maxHeartbeats 400000 in
theorem z_X12_play {fp : Nat → Bool} {b : mH} {m : Nat} (x1 : Int32) (x2 : Int32) (x3 : Int32) (h : mH) (S : SI fp b m h) (ff : ∀ c ∈ W_X12_play, fp c = false)  : ∃ r, f_X12_play x1 x2 x3 h = some r ∧ SI fp b (m + 545577984) r.2 := by
  have ff_X12_play_55 : ∀ c ∈ W_X12_play_55, fp c = false := fun c hc => ff c ((by decide : ∀ c ∈ W_X12_play_55, c ∈ W_X12_play) c hc)
  have ff_X12_refuse : ∀ c ∈ W_X12_refuse, fp c = false := fun c hc => ff c ((by decide : ∀ c ∈ W_X12_refuse, c ∈ W_X12_play) c hc)
  unfold f_X12_play
  obtain ⟨⟨r1v, r1h⟩, e_r1, (hh_r1 : r1h = h), p_r1_0, p_r1_1⟩ := z_X12_isTape x1 h S  
  replace hh_r1 := hh_r1.symm
  subst hh_r1
  dsimp only at p_r1_0 p_r1_1
  have bb_r1 := bool_bd p_r1_0
  rw [e_r1, Option.bind_some]
  try dsimp only
  by_cases q1 : r1v = 0
  · rw [if_pos q1]
    have t2 : (0 : Int32).toInt = 0 := by decide
    first | have hx_3 := i32_hi (r1v) | skip
    first | have hx_4 := i32_lo (r1v) | skip
    first | have f5 : (r1v : Int32).toInt = (0 : Int32).toInt := congrArg Int32.toInt q1 | skip
    exact ⟨_, rfl, (SI.mono S (by omega))⟩
  · rw [if_neg q1]
    have t6 : (0 : Int32).toInt = 0 := by decide
    first | have hx_7 := i32_hi (r1v) | skip
    first | have hx_8 := i32_lo (r1v) | skip
    first | have f9 : (r1v : Int32).toInt ≠ (0 : Int32).toInt := ti_ne q1 | skip
    have t10 : (64 : Int32).toInt = 64 := by decide
    obtain ⟨⟨r3v, r3h⟩, e_r3, (hh_r3 : r3h = h), p_r3_0, p_r3_1⟩ := z_X12_in x3 0 64 h S  
    replace hh_r3 := hh_r3.symm
    subst hh_r3
    dsimp only at p_r3_0 p_r3_1
    have bb_r3 := bool_bd p_r3_0
    rw [e_r3, Option.bind_some]
    try dsimp only
    by_cases q11 : r3v = 0
    · rw [if_pos q11]
      first | have hx_12 := i32_hi (r3v) | skip
      first | have hx_13 := i32_lo (r3v) | skip
      first | have f14 : (r3v : Int32).toInt = (0 : Int32).toInt := congrArg Int32.toInt q11 | skip
      exact ⟨_, rfl, (SI.mono S (by omega))⟩
    · rw [if_neg q11]
      first | have hx_15 := i32_hi (r3v) | skip
      first | have hx_16 := i32_lo (r3v) | skip
      first | have f17 : (r3v : Int32).toInt ≠ (0 : Int32).toInt := ti_ne q11 | skip
      have q18 : mIn x1 6 = true := (mIn_bd (by omega) (by omega))
      rw [if_pos q18]
      by_cases q19 : (h.1 89 0 x1.toNatClampNeg) = 0
      · rw [if_pos q19]
        have b20 : 0 ≤ (h.1 89 0 x1.toNatClampNeg).toInt ∧ (h.1 89 0 x1.toNatClampNeg).toInt ≤ 5 := (S).1 89 0 x1.toNatClampNeg
        first | have hx_21 := i32_hi (h.1 89 0 x1.toNatClampNeg) | skip
        first | have hx_22 := i32_lo (h.1 89 0 x1.toNatClampNeg) | skip
        first | have f23 : (h.1 89 0 x1.toNatClampNeg : Int32).toInt = (0 : Int32).toInt := congrArg Int32.toInt q19 | skip
        obtain ⟨r24, e_r24, S_r24⟩ := z_X12_refuse (-11) h S ff_X12_refuse 
        rw [e_r24, Option.bind_some]
        exact ⟨_, rfl, (SI.mono S_r24 (by omega))⟩
      · rw [if_neg q19]
        have b24 : 0 ≤ (h.1 89 0 x1.toNatClampNeg).toInt ∧ (h.1 89 0 x1.toNatClampNeg).toInt ≤ 5 := (S).1 89 0 x1.toNatClampNeg
        first | have hx_25 := i32_hi (h.1 89 0 x1.toNatClampNeg) | skip
        first | have hx_26 := i32_lo (h.1 89 0 x1.toNatClampNeg) | skip
        first | have f27 : (h.1 89 0 x1.toNatClampNeg : Int32).toInt ≠ (0 : Int32).toInt := ti_ne q19 | skip
        by_cases q28 : (h.1 89 0 x1.toNatClampNeg) = 3
        · rw [if_pos q28]
          have t29 : (3 : Int32).toInt = 3 := by decide
          first | have f30 : (h.1 89 0 x1.toNatClampNeg : Int32).toInt = (3 : Int32).toInt := congrArg Int32.toInt q28 | skip
          refine z_X12_play_55 (m := m) _  x1 x2 x3 ff_X12_play_55 (by omega) (by omega) (fun u21 h22 S_h22 y31 y32 => ?_) (fun rv rh SS  => SS.mono (by omega)) mFu 0 h (SI.mono S (by omega)) (by omega) (by omega) (by have := mFu_big; omega)
          try dsimp only
          exact ⟨_, rfl, (SI.mono S_h22 (by omega))⟩
        · rw [if_neg q28]
          have t33 : (3 : Int32).toInt = 3 := by decide
          first | have f34 : (h.1 89 0 x1.toNatClampNeg : Int32).toInt ≠ (3 : Int32).toInt := ti_ne q28 | skip
          obtain ⟨r23, e_r23, S_r23⟩ := z_X12_refuse (-12) h S ff_X12_refuse 
          rw [e_r23, Option.bind_some]
          exact ⟨_, rfl, (SI.mono S_r23 (by omega))⟩
def W_X12_clear : List Nat := [5696]
set_option maxHeartbeats 400000 in
theorem z_X12_clear {fp : Nat → Bool} {b : mH} {m : Nat} (x1 : Int32) (h : mH) (S : SI fp b m h) (ff : ∀ c ∈ W_X12_clear, fp c = false)  : ∃ r, f_X12_clear x1 h = some r ∧ SI fp b m r.2 := by
  have w5696 : fp 5696 = false := ff 5696 (by decide)
  unfold f_X12_clear
  obtain ⟨⟨r1v, r1h⟩, e_r1, (hh_r1 : r1h = h), p_r1_0, p_r1_1⟩ := z_X12_isTape x1 h S  
  replace hh_r1 := hh_r1.symm
  subst hh_r1
  dsimp only at p_r1_0 p_r1_1
  have bb_r1 := bool_bd p_r1_0
  rw [e_r1, Option.bind_some]
  try dsimp only
  by_cases q1 : r1v = 0
  · rw [if_pos q1]
    have t2 : (0 : Int32).toInt = 0 := by decide
    first | have hx_3 := i32_hi (r1v) | skip
    first | have hx_4 := i32_lo (r1v) | skip
    first | have f5 : (r1v : Int32).toInt = (0 : Int32).toInt := congrArg Int32.toInt q1 | skip
    exact ⟨_, rfl, S⟩
  · rw [if_neg q1]
    have t6 : (0 : Int32).toInt = 0 := by decide
    first | have hx_7 := i32_hi (r1v) | skip
    first | have hx_8 := i32_lo (r1v) | skip
    first | have f9 : (r1v : Int32).toInt ≠ (0 : Int32).toInt := ti_ne q1 | skip
    have q10 : mIn x1 6 = true := (mIn_bd (by omega) (by omega))
    rw [if_pos q10]
    have w_11 : 0 ≤ (0 : Int32).toInt ∧ (0 : Int32).toInt ≤ 5 := by omega
    exact ⟨_, rfl, (SI.u S rfl w5696 w_11)⟩
set_option maxHeartbeats 400000 in
theorem z_X12_narrowed {fp : Nat → Bool} {b : mH} {m : Nat} (x0 : Int32) (x1 : Int64) (h : mH) (S : SI fp b m h)   : ∃ r, f_X12_narrowed x0 x1 h = some r ∧ r.2 = h := by
  unfold f_X12_narrowed
  by_cases q1 : x0 = 1
  · rw [if_pos q1]
    have t2 : (1 : Int32).toInt = 1 := by decide
    first | have hx_3 := i32_hi (x0) | skip
    first | have hx_4 := i32_lo (x0) | skip
    first | have f5 : (x0 : Int32).toInt = (1 : Int32).toInt := congrArg Int32.toInt q1 | skip
    exact ⟨_, rfl, rfl⟩
  · rw [if_neg q1]
    have t6 : (1 : Int32).toInt = 1 := by decide
    first | have hx_7 := i32_hi (x0) | skip
    first | have hx_8 := i32_lo (x0) | skip
    first | have f9 : (x0 : Int32).toInt ≠ (1 : Int32).toInt := ti_ne q1 | skip
    by_cases q10 : x0 = 2
    · rw [if_pos q10]
      have t11 : (2 : Int32).toInt = 2 := by decide
      first | have f12 : (x0 : Int32).toInt = (2 : Int32).toInt := congrArg Int32.toInt q10 | skip
      exact ⟨_, rfl, rfl⟩
    · rw [if_neg q10]
      have t13 : (2 : Int32).toInt = 2 := by decide
      first | have f14 : (x0 : Int32).toInt ≠ (2 : Int32).toInt := ti_ne q10 | skip
      by_cases q15 : x0 = 3
      · rw [if_pos q15]
        have t16 : (3 : Int32).toInt = 3 := by decide
        first | have f17 : (x0 : Int32).toInt = (3 : Int32).toInt := congrArg Int32.toInt q15 | skip
        exact ⟨_, rfl, rfl⟩
      · rw [if_neg q15]
        have t18 : (3 : Int32).toInt = 3 := by decide
        first | have f19 : (x0 : Int32).toInt ≠ (3 : Int32).toInt := ti_ne q15 | skip
        exact ⟨_, rfl, rfl⟩
def W_X12_put : List Nat := [830, 5824]
set_option maxHeartbeats 400000 in
theorem z_X12_put {fp : Nat → Bool} {b : mH} {m : Nat} (x1 : Int32) (x2 : Int32) (x3 : Int64) (h : mH) (S : SI fp b m h) (ff : ∀ c ∈ W_X12_put, fp c = false)  : ∃ r, f_X12_put x1 x2 x3 h = some r ∧ SI fp b m r.2 := by
  have ff_X12_refuse : ∀ c ∈ W_X12_refuse, fp c = false := fun c hc => ff c ((by decide : ∀ c ∈ W_X12_refuse, c ∈ W_X12_put) c hc)
  have w5824 : fp 5824 = false := ff 5824 (by decide)
  unfold f_X12_put
  obtain ⟨⟨r1v, r1h⟩, e_r1, (hh_r1 : r1h = h), p_r1_0, p_r1_1⟩ := z_X12_isTape x1 h S  
  replace hh_r1 := hh_r1.symm
  subst hh_r1
  dsimp only at p_r1_0 p_r1_1
  have bb_r1 := bool_bd p_r1_0
  rw [e_r1, Option.bind_some]
  try dsimp only
  by_cases q1 : r1v = 0
  · rw [if_pos q1]
    have t2 : (0 : Int32).toInt = 0 := by decide
    first | have hx_3 := i32_hi (r1v) | skip
    first | have hx_4 := i32_lo (r1v) | skip
    first | have f5 : (r1v : Int32).toInt = (0 : Int32).toInt := congrArg Int32.toInt q1 | skip
    exact ⟨_, rfl, S⟩
  · rw [if_neg q1]
    have t6 : (0 : Int32).toInt = 0 := by decide
    first | have hx_7 := i32_hi (r1v) | skip
    first | have hx_8 := i32_lo (r1v) | skip
    first | have f9 : (r1v : Int32).toInt ≠ (0 : Int32).toInt := ti_ne q1 | skip
    have q10 : mIn x1 6 = true := (mIn_bd (by omega) (by omega))
    rw [if_pos q10]
    by_cases q11 : (h.1 89 0 x1.toNatClampNeg) = 0
    · rw [if_pos q11]
      have b12 : 0 ≤ (h.1 89 0 x1.toNatClampNeg).toInt ∧ (h.1 89 0 x1.toNatClampNeg).toInt ≤ 5 := (S).1 89 0 x1.toNatClampNeg
      first | have hx_13 := i32_hi (h.1 89 0 x1.toNatClampNeg) | skip
      first | have hx_14 := i32_lo (h.1 89 0 x1.toNatClampNeg) | skip
      first | have f15 : (h.1 89 0 x1.toNatClampNeg : Int32).toInt = (0 : Int32).toInt := congrArg Int32.toInt q11 | skip
      obtain ⟨r12, e_r12, S_r12⟩ := z_X12_refuse (-11) h S ff_X12_refuse 
      rw [e_r12, Option.bind_some]
      exact ⟨_, rfl, S_r12⟩
    · rw [if_neg q11]
      have b16 : 0 ≤ (h.1 89 0 x1.toNatClampNeg).toInt ∧ (h.1 89 0 x1.toNatClampNeg).toInt ≤ 5 := (S).1 89 0 x1.toNatClampNeg
      first | have hx_17 := i32_hi (h.1 89 0 x1.toNatClampNeg) | skip
      first | have hx_18 := i32_lo (h.1 89 0 x1.toNatClampNeg) | skip
      first | have f19 : (h.1 89 0 x1.toNatClampNeg : Int32).toInt ≠ (0 : Int32).toInt := ti_ne q11 | skip
      by_cases q20 : (h.1 89 0 x1.toNatClampNeg) = 5
      · rw [if_pos q20]
        have t21 : (5 : Int32).toInt = 5 := by decide
        first | have f22 : (h.1 89 0 x1.toNatClampNeg : Int32).toInt = (5 : Int32).toInt := congrArg Int32.toInt q20 | skip
        obtain ⟨r11, e_r11, S_r11⟩ := z_X12_refuse (-12) h S ff_X12_refuse 
        rw [e_r11, Option.bind_some]
        exact ⟨_, rfl, S_r11⟩
      · rw [if_neg q20]
        have t23 : (5 : Int32).toInt = 5 := by decide
        first | have f24 : (h.1 89 0 x1.toNatClampNeg : Int32).toInt ≠ (5 : Int32).toInt := ti_ne q20 | skip
        have b25 : 0 ≤ (h.1 90 0 x1.toNatClampNeg).toInt ∧ (h.1 90 0 x1.toNatClampNeg).toInt ≤ 64 := (S).1 90 0 x1.toNatClampNeg
        have t26 : (1 : Int32).toInt = 1 := by decide
        first | have o27 : ((h.1 90 0 x1.toNatClampNeg) - 1 : Int32).toInt = (h.1 90 0 x1.toNatClampNeg : Int32).toInt - (1 : Int32).toInt := ti_sub (by omega) (by omega) | skip
        obtain ⟨⟨r6v, r6h⟩, e_r6, (hh_r6 : r6h = h), p_r6_0, p_r6_1⟩ := z_X12_in x2 0 ((h.1 90 0 x1.toNatClampNeg) - 1) h S  
        replace hh_r6 := hh_r6.symm
        subst hh_r6
        dsimp only at p_r6_0 p_r6_1
        have bb_r6 := bool_bd p_r6_0
        rw [e_r6, Option.bind_some]
        try dsimp only
        by_cases q28 : r6v = 0
        · rw [if_pos q28]
          first | have hx_29 := i32_hi (r6v) | skip
          first | have hx_30 := i32_lo (r6v) | skip
          first | have f31 : (r6v : Int32).toInt = (0 : Int32).toInt := congrArg Int32.toInt q28 | skip
          obtain ⟨r10, e_r10, S_r10⟩ := z_X12_refuse (-13) h S ff_X12_refuse 
          rw [e_r10, Option.bind_some]
          exact ⟨_, rfl, S_r10⟩
        · rw [if_neg q28]
          first | have hx_32 := i32_hi (r6v) | skip
          first | have hx_33 := i32_lo (r6v) | skip
          first | have f34 : (r6v : Int32).toInt ≠ (0 : Int32).toInt := ti_ne q28 | skip
          obtain ⟨⟨r8v, r8h⟩, e_r8, (hh_r8 : r8h = h)⟩ := z_X12_narrowed (h.1 89 0 x1.toNatClampNeg) x3 h S  
          replace hh_r8 := hh_r8.symm
          subst hh_r8
          rw [e_r8, Option.bind_some]
          try dsimp only
          have t35 : (64 : Int32).toInt = 64 := by decide
          first | have o36 : (64 * x1).toInt = 64 * (x1 : Int32).toInt := ti_km (by decide) (by omega) (by omega) | skip
          first | have o37 : ((64 * x1) + x2 : Int32).toInt = (64 * x1 : Int32).toInt + (x2 : Int32).toInt := ti_add (by omega) (by omega) | skip
          have q38 : mIn ((64 * x1) + x2) 384 = true := (mIn_bd (by omega) (by omega))
          rw [if_pos q38]
          exact ⟨_, rfl, (SI.j S rfl w5824)⟩
def W_X12_at : List Nat := [768]
set_option maxHeartbeats 400000 in
theorem z_X12_at {fp : Nat → Bool} {b : mH} {m : Nat} (x1 : Int32) (x2 : Int32) (h : mH) (S : SI fp b m h) (ff : ∀ c ∈ W_X12_at, fp c = false)  : ∃ r, f_X12_at x1 x2 h = some r ∧ SI fp b m r.2 := by
  have w768 : fp 768 = false := ff 768 (by decide)
  unfold f_X12_at
  obtain ⟨⟨r1v, r1h⟩, e_r1, (hh_r1 : r1h = h), p_r1_0, p_r1_1⟩ := z_X12_isTape x1 h S  
  replace hh_r1 := hh_r1.symm
  subst hh_r1
  dsimp only at p_r1_0 p_r1_1
  have bb_r1 := bool_bd p_r1_0
  rw [e_r1, Option.bind_some]
  try dsimp only
  by_cases q1 : r1v = 0
  · rw [if_pos q1]
    have t2 : (0 : Int32).toInt = 0 := by decide
    first | have hx_3 := i32_hi (r1v) | skip
    first | have hx_4 := i32_lo (r1v) | skip
    first | have f5 : (r1v : Int32).toInt = (0 : Int32).toInt := congrArg Int32.toInt q1 | skip
    refine let_ex (fun h20 e_h20 => ?_)
    have S_h20 : SI fp b m h20 := e_h20 ▸ (SI.f S rfl w768 rfl)
    by_cases q6 : (h20.1 12 0 0) = 0
    · rw [if_pos q6]
      have t7 : (1 : Int32).toInt = 1 := by decide
      have l8 : (h20.1 12 0 0).toInt = (1 : Int32).toInt := by rw [← e_h20, uI_s']
      first | have hx_9 := i32_hi (h20.1 12 0 0) | skip
      first | have hx_10 := i32_lo (h20.1 12 0 0) | skip
      first | have f11 : (h20.1 12 0 0 : Int32).toInt = (0 : Int32).toInt := congrArg Int32.toInt q6 | skip
      have t12 : (64 : Int32).toInt = 64 := by decide
      first | have o13 : (64 * x1).toInt = 64 * (x1 : Int32).toInt := ti_km (by decide) (by omega) (by omega) | skip
      first | have o14 : ((64 * x1) + x2 : Int32).toInt = (64 * x1 : Int32).toInt + (x2 : Int32).toInt := ti_add (by omega) (by omega) | skip
      have q15 : mIn ((64 * x1) + x2) 384 = true := (mIn_bd (by omega) (by omega))
      rw [if_pos q15]
      exact ⟨_, rfl, S_h20⟩
    · rw [if_neg q6]
      have t16 : (1 : Int32).toInt = 1 := by decide
      have l17 : (h20.1 12 0 0).toInt = (1 : Int32).toInt := by rw [← e_h20, uI_s']
      first | have hx_18 := i32_hi (h20.1 12 0 0) | skip
      first | have hx_19 := i32_lo (h20.1 12 0 0) | skip
      first | have f20 : (h20.1 12 0 0 : Int32).toInt ≠ (0 : Int32).toInt := ti_ne q6 | skip
      exact ⟨_, rfl, S_h20⟩
  · rw [if_neg q1]
    have t21 : (0 : Int32).toInt = 0 := by decide
    first | have hx_22 := i32_hi (r1v) | skip
    first | have hx_23 := i32_lo (r1v) | skip
    first | have f24 : (r1v : Int32).toInt ≠ (0 : Int32).toInt := ti_ne q1 | skip
    have q25 : mIn x1 6 = true := (mIn_bd (by omega) (by omega))
    rw [if_pos q25]
    by_cases q26 : (h.1 89 0 x1.toNatClampNeg) = 0
    · rw [if_pos q26]
      have b27 : 0 ≤ (h.1 89 0 x1.toNatClampNeg).toInt ∧ (h.1 89 0 x1.toNatClampNeg).toInt ≤ 5 := (S).1 89 0 x1.toNatClampNeg
      first | have hx_28 := i32_hi (h.1 89 0 x1.toNatClampNeg) | skip
      first | have hx_29 := i32_lo (h.1 89 0 x1.toNatClampNeg) | skip
      first | have f30 : (h.1 89 0 x1.toNatClampNeg : Int32).toInt = (0 : Int32).toInt := congrArg Int32.toInt q26 | skip
      refine let_ex (fun h5 e_h5 => ?_)
      have S_h5 : SI fp b m h5 := e_h5 ▸ (SI.f S rfl w768 rfl)
      by_cases q31 : (h5.1 12 0 0) = 0
      · rw [if_pos q31]
        have t32 : (2 : Int32).toInt = 2 := by decide
        have l33 : (h5.1 12 0 0).toInt = (2 : Int32).toInt := by rw [← e_h5, uI_s']
        first | have hx_34 := i32_hi (h5.1 12 0 0) | skip
        first | have hx_35 := i32_lo (h5.1 12 0 0) | skip
        first | have f36 : (h5.1 12 0 0 : Int32).toInt = (0 : Int32).toInt := congrArg Int32.toInt q31 | skip
        have t37 : (64 : Int32).toInt = 64 := by decide
        first | have o38 : (64 * x1).toInt = 64 * (x1 : Int32).toInt := ti_km (by decide) (by omega) (by omega) | skip
        first | have o39 : ((64 * x1) + x2 : Int32).toInt = (64 * x1 : Int32).toInt + (x2 : Int32).toInt := ti_add (by omega) (by omega) | skip
        have q40 : mIn ((64 * x1) + x2) 384 = true := (mIn_bd (by omega) (by omega))
        rw [if_pos q40]
        exact ⟨_, rfl, S_h5⟩
      · rw [if_neg q31]
        have t41 : (2 : Int32).toInt = 2 := by decide
        have l42 : (h5.1 12 0 0).toInt = (2 : Int32).toInt := by rw [← e_h5, uI_s']
        first | have hx_43 := i32_hi (h5.1 12 0 0) | skip
        first | have hx_44 := i32_lo (h5.1 12 0 0) | skip
        first | have f45 : (h5.1 12 0 0 : Int32).toInt ≠ (0 : Int32).toInt := ti_ne q31 | skip
        exact ⟨_, rfl, S_h5⟩
    · rw [if_neg q26]
      have b46 : 0 ≤ (h.1 89 0 x1.toNatClampNeg).toInt ∧ (h.1 89 0 x1.toNatClampNeg).toInt ≤ 5 := (S).1 89 0 x1.toNatClampNeg
      first | have hx_47 := i32_hi (h.1 89 0 x1.toNatClampNeg) | skip
      first | have hx_48 := i32_lo (h.1 89 0 x1.toNatClampNeg) | skip
      first | have f49 : (h.1 89 0 x1.toNatClampNeg : Int32).toInt ≠ (0 : Int32).toInt := ti_ne q26 | skip
      by_cases q50 : (h.1 89 0 x1.toNatClampNeg) = 5
      · rw [if_pos q50]
        have t51 : (5 : Int32).toInt = 5 := by decide
        first | have f52 : (h.1 89 0 x1.toNatClampNeg : Int32).toInt = (5 : Int32).toInt := congrArg Int32.toInt q50 | skip
        refine let_ex (fun h9 e_h9 => ?_)
        have S_h9 : SI fp b m h9 := e_h9 ▸ (SI.f S rfl w768 rfl)
        by_cases q53 : (h9.1 12 0 0) = 0
        · rw [if_pos q53]
          have t54 : (2 : Int32).toInt = 2 := by decide
          have l55 : (h9.1 12 0 0).toInt = (2 : Int32).toInt := by rw [← e_h9, uI_s']
          first | have hx_56 := i32_hi (h9.1 12 0 0) | skip
          first | have hx_57 := i32_lo (h9.1 12 0 0) | skip
          first | have f58 : (h9.1 12 0 0 : Int32).toInt = (0 : Int32).toInt := congrArg Int32.toInt q53 | skip
          have t59 : (64 : Int32).toInt = 64 := by decide
          first | have o60 : (64 * x1).toInt = 64 * (x1 : Int32).toInt := ti_km (by decide) (by omega) (by omega) | skip
          first | have o61 : ((64 * x1) + x2 : Int32).toInt = (64 * x1 : Int32).toInt + (x2 : Int32).toInt := ti_add (by omega) (by omega) | skip
          have q62 : mIn ((64 * x1) + x2) 384 = true := (mIn_bd (by omega) (by omega))
          rw [if_pos q62]
          exact ⟨_, rfl, S_h9⟩
        · rw [if_neg q53]
          have t63 : (2 : Int32).toInt = 2 := by decide
          have l64 : (h9.1 12 0 0).toInt = (2 : Int32).toInt := by rw [← e_h9, uI_s']
          first | have hx_65 := i32_hi (h9.1 12 0 0) | skip
          first | have hx_66 := i32_lo (h9.1 12 0 0) | skip
          first | have f67 : (h9.1 12 0 0 : Int32).toInt ≠ (0 : Int32).toInt := ti_ne q53 | skip
          exact ⟨_, rfl, S_h9⟩
      · rw [if_neg q50]
        have t68 : (5 : Int32).toInt = 5 := by decide
        first | have f69 : (h.1 89 0 x1.toNatClampNeg : Int32).toInt ≠ (5 : Int32).toInt := ti_ne q50 | skip
        have b70 : 0 ≤ (h.1 90 0 x1.toNatClampNeg).toInt ∧ (h.1 90 0 x1.toNatClampNeg).toInt ≤ 64 := (S).1 90 0 x1.toNatClampNeg
        have t71 : (1 : Int32).toInt = 1 := by decide
        first | have o72 : ((h.1 90 0 x1.toNatClampNeg) - 1 : Int32).toInt = (h.1 90 0 x1.toNatClampNeg : Int32).toInt - (1 : Int32).toInt := ti_sub (by omega) (by omega) | skip
        obtain ⟨⟨r12v, r12h⟩, e_r12, (hh_r12 : r12h = h), p_r12_0, p_r12_1⟩ := z_X12_in x2 0 ((h.1 90 0 x1.toNatClampNeg) - 1) h S  
        replace hh_r12 := hh_r12.symm
        subst hh_r12
        dsimp only at p_r12_0 p_r12_1
        have bb_r12 := bool_bd p_r12_0
        rw [e_r12, Option.bind_some]
        try dsimp only
        by_cases q73 : r12v = 0
        · rw [if_pos q73]
          first | have hx_74 := i32_hi (r12v) | skip
          first | have hx_75 := i32_lo (r12v) | skip
          first | have f76 : (r12v : Int32).toInt = (0 : Int32).toInt := congrArg Int32.toInt q73 | skip
          refine let_ex (fun h17 e_h17 => ?_)
          have S_h17 : SI fp b m h17 := e_h17 ▸ (SI.f S rfl w768 rfl)
          by_cases q77 : (h17.1 12 0 0) = 0
          · rw [if_pos q77]
            have t78 : (2 : Int32).toInt = 2 := by decide
            have l79 : (h17.1 12 0 0).toInt = (2 : Int32).toInt := by rw [← e_h17, uI_s']
            first | have hx_80 := i32_hi (h17.1 12 0 0) | skip
            first | have hx_81 := i32_lo (h17.1 12 0 0) | skip
            first | have f82 : (h17.1 12 0 0 : Int32).toInt = (0 : Int32).toInt := congrArg Int32.toInt q77 | skip
            have t83 : (64 : Int32).toInt = 64 := by decide
            first | have o84 : (64 * x1).toInt = 64 * (x1 : Int32).toInt := ti_km (by decide) (by omega) (by omega) | skip
            first | have o85 : ((64 * x1) + x2 : Int32).toInt = (64 * x1 : Int32).toInt + (x2 : Int32).toInt := ti_add (by omega) (by omega) | skip
            have q86 : mIn ((64 * x1) + x2) 384 = true := (mIn_bd (by omega) (by omega))
            rw [if_pos q86]
            exact ⟨_, rfl, S_h17⟩
          · rw [if_neg q77]
            have t87 : (2 : Int32).toInt = 2 := by decide
            have l88 : (h17.1 12 0 0).toInt = (2 : Int32).toInt := by rw [← e_h17, uI_s']
            first | have hx_89 := i32_hi (h17.1 12 0 0) | skip
            first | have hx_90 := i32_lo (h17.1 12 0 0) | skip
            first | have f91 : (h17.1 12 0 0 : Int32).toInt ≠ (0 : Int32).toInt := ti_ne q77 | skip
            exact ⟨_, rfl, S_h17⟩
        · rw [if_neg q73]
          first | have hx_92 := i32_hi (r12v) | skip
          first | have hx_93 := i32_lo (r12v) | skip
          first | have f94 : (r12v : Int32).toInt ≠ (0 : Int32).toInt := ti_ne q73 | skip
          refine let_ex (fun h14 e_h14 => ?_)
          have S_h14 : SI fp b m h14 := e_h14 ▸ (SI.f S rfl w768 rfl)
          by_cases q95 : (h14.1 12 0 0) = 0
          · rw [if_pos q95]
            have l96 : (h14.1 12 0 0).toInt = (0 : Int32).toInt := by rw [← e_h14, uI_s']
            first | have hx_97 := i32_hi (h14.1 12 0 0) | skip
            first | have hx_98 := i32_lo (h14.1 12 0 0) | skip
            first | have f99 : (h14.1 12 0 0 : Int32).toInt = (0 : Int32).toInt := congrArg Int32.toInt q95 | skip
            have t100 : (64 : Int32).toInt = 64 := by decide
            first | have o101 : (64 * x1).toInt = 64 * (x1 : Int32).toInt := ti_km (by decide) (by omega) (by omega) | skip
            first | have o102 : ((64 * x1) + x2 : Int32).toInt = (64 * x1 : Int32).toInt + (x2 : Int32).toInt := ti_add (by omega) (by omega) | skip
            have q103 : mIn ((64 * x1) + x2) 384 = true := (mIn_bd (by omega) (by omega))
            rw [if_pos q103]
            exact ⟨_, rfl, S_h14⟩
          · rw [if_neg q95]
            have l104 : (h14.1 12 0 0).toInt = (0 : Int32).toInt := by rw [← e_h14, uI_s']
            first | have hx_105 := i32_hi (h14.1 12 0 0) | skip
            first | have hx_106 := i32_lo (h14.1 12 0 0) | skip
            first | have f107 : (h14.1 12 0 0 : Int32).toInt ≠ (0 : Int32).toInt := ti_ne q95 | skip
            exact ⟨_, rfl, S_h14⟩
def W_X12_copy_124 : List Nat := [6144]
set_option maxHeartbeats 400000 in
theorem z_X12_copy_124 {fp : Nat → Bool} {b : mH} {m : Nat} {P : Int32 × mH → Prop} (k : Int32 → Int32 → Int32 → Int32 → Int32 → Int32 → mH → Option (Int32 × mH))  (v1 : Int32) (v2 : Int32) (v3 : Int32) (v4 : Int32) (v5 : Int32) (ff : ∀ c ∈ W_X12_copy_124, fp c = false) (cp0 : (0 ≤ v1.toInt ∧ v1.toInt < 6)) (cp1 : (0 ≤ v2.toInt ∧ 0 ≤ v5.toInt ∧ v2.toInt + v5.toInt ≤ 64)) (hk : ∀ (v6 : Int32) (h : mH), SI fp b m h → 0 ≤ v6.toInt → ∃ r, k v1 v2 v3 v4 v5 v6 h = some r ∧ P r) : ∀ (n : Nat) (v6 : Int32) (h : mH), SI fp b m h → 0 ≤ v6.toInt → 2147483648 - v6.toInt < n → ∃ r, f_X12_copy_124 k  n v1 v2 v3 v4 v5 v6 h = some r ∧ P r := by
  have w6144 : fp 6144 = false := ff 6144 (by decide)
  intro n
  induction n with
  | zero =>
    intro v6 h S iv0 hm
    have hz := i32_hi v6
    omega
  | succ n ih =>
    intro v6 h S iv0 hm
    rw [f_X12_copy_124]
    by_cases q1 : v6 < v5
    · rw [if_pos q1]
      first | have hx_2 := i32_hi (v6) | skip
      first | have hx_3 := i32_lo (v6) | skip
      first | have hx_4 := i32_hi (v5) | skip
      first | have hx_5 := i32_lo (v5) | skip
      first | have f6 : (v6 : Int32).toInt < (v5 : Int32).toInt := Int32.lt_iff_toInt_lt.mp q1 | skip
      have t7 : (64 : Int32).toInt = 64 := by decide
      first | have o8 : (64 * v1).toInt = 64 * (v1 : Int32).toInt := ti_km (by decide) (by omega) (by omega) | skip
      first | have o9 : ((64 * v1) + v2 : Int32).toInt = (64 * v1 : Int32).toInt + (v2 : Int32).toInt := ti_add (by omega) (by omega) | skip
      first | have o10 : (((64 * v1) + v2) + v6 : Int32).toInt = ((64 * v1) + v2 : Int32).toInt + (v6 : Int32).toInt := ti_add (by omega) (by omega) | skip
      have q11 : mIn (((64 * v1) + v2) + v6) 384 = true := (mIn_bd (by omega) (by omega))
      rw [if_pos q11]
      have q12 : mIn v6 64 = true := (mIn_bd (by omega) (by omega))
      rw [if_pos q12]
      have t13 : (1 : Int32).toInt = 1 := by decide
      first | have o14 : (v6 + 1 : Int32).toInt = (v6 : Int32).toInt + (1 : Int32).toInt := ti_add (by omega) (by omega) | skip
      exact ih (v6 + 1) (uJ h 96 0 v6.toNatClampNeg (h.2 91 0 (((64 * v1) + v2) + v6).toNatClampNeg)) (SI.j S rfl w6144) (by omega) (by omega)
    · rw [if_neg q1]
      first | have hx_15 := i32_hi (v6) | skip
      first | have hx_16 := i32_lo (v6) | skip
      first | have hx_17 := i32_hi (v5) | skip
      first | have hx_18 := i32_lo (v5) | skip
      first | have f19 : (v5 : Int32).toInt ≤ (v6 : Int32).toInt := Int32.le_iff_toInt_le.mp (Int32.not_lt.mp q1) | skip
      exact hk v6 h S iv0
def W_X12_copy_161 : List Nat := [5824]
set_option maxHeartbeats 400000 in
theorem z_X12_copy_161 {fp : Nat → Bool} {b : mH} {m : Nat} {P : Int32 × mH → Prop} (k : Int32 → Int32 → Int32 → Int32 → mH → Option (Int32 × mH))  (v3 : Int32) (v4 : Int32) (v5 : Int32) (ff : ∀ c ∈ W_X12_copy_161, fp c = false) (cp0 : (0 ≤ v3.toInt ∧ v3.toInt < 6)) (cp1 : (0 ≤ v4.toInt ∧ 0 ≤ v5.toInt ∧ v4.toInt + v5.toInt ≤ 64)) (hk : ∀ (v6 : Int32) (h : mH), SI fp b m h → 0 ≤ v6.toInt → ∃ r, k v3 v4 v5 v6 h = some r ∧ P r) : ∀ (n : Nat) (v6 : Int32) (h : mH), SI fp b m h → 0 ≤ v6.toInt → 2147483648 - v6.toInt < n → ∃ r, f_X12_copy_161 k  n v3 v4 v5 v6 h = some r ∧ P r := by
  have w5824 : fp 5824 = false := ff 5824 (by decide)
  intro n
  induction n with
  | zero =>
    intro v6 h S iv0 hm
    have hz := i32_hi v6
    omega
  | succ n ih =>
    intro v6 h S iv0 hm
    rw [f_X12_copy_161]
    by_cases q1 : v6 < v5
    · rw [if_pos q1]
      first | have hx_2 := i32_hi (v6) | skip
      first | have hx_3 := i32_lo (v6) | skip
      first | have hx_4 := i32_hi (v5) | skip
      first | have hx_5 := i32_lo (v5) | skip
      first | have f6 : (v6 : Int32).toInt < (v5 : Int32).toInt := Int32.lt_iff_toInt_lt.mp q1 | skip
      have q7 : mIn v6 64 = true := (mIn_bd (by omega) (by omega))
      rw [if_pos q7]
      have t8 : (64 : Int32).toInt = 64 := by decide
      first | have o9 : (64 * v3).toInt = 64 * (v3 : Int32).toInt := ti_km (by decide) (by omega) (by omega) | skip
      first | have o10 : ((64 * v3) + v4 : Int32).toInt = (64 * v3 : Int32).toInt + (v4 : Int32).toInt := ti_add (by omega) (by omega) | skip
      first | have o11 : (((64 * v3) + v4) + v6 : Int32).toInt = ((64 * v3) + v4 : Int32).toInt + (v6 : Int32).toInt := ti_add (by omega) (by omega) | skip
      have q12 : mIn (((64 * v3) + v4) + v6) 384 = true := (mIn_bd (by omega) (by omega))
      rw [if_pos q12]
      have t13 : (1 : Int32).toInt = 1 := by decide
      first | have o14 : (v6 + 1 : Int32).toInt = (v6 : Int32).toInt + (1 : Int32).toInt := ti_add (by omega) (by omega) | skip
      exact ih (v6 + 1) (uJ h 91 0 (((64 * v3) + v4) + v6).toNatClampNeg (h.2 96 0 v6.toNatClampNeg)) (SI.j S rfl w5824) (by omega) (by omega)
    · rw [if_neg q1]
      first | have hx_15 := i32_hi (v6) | skip
      first | have hx_16 := i32_lo (v6) | skip
      first | have hx_17 := i32_hi (v5) | skip
      first | have hx_18 := i32_lo (v5) | skip
      first | have f19 : (v5 : Int32).toInt ≤ (v6 : Int32).toInt := Int32.le_iff_toInt_le.mp (Int32.not_lt.mp q1) | skip
      exact hk v6 h S iv0
def W_X12_copy : List Nat := [830, 5824, 6144]
set_option maxHeartbeats 400000 in
theorem z_X12_copy {fp : Nat → Bool} {b : mH} {m : Nat} (x1 : Int32) (x2 : Int32) (x3 : Int32) (x4 : Int32) (x5 : Int32) (h : mH) (S : SI fp b m h) (ff : ∀ c ∈ W_X12_copy, fp c = false)  : ∃ r, f_X12_copy x1 x2 x3 x4 x5 h = some r ∧ SI fp b m r.2 := by
  have ff_X12_copy_124 : ∀ c ∈ W_X12_copy_124, fp c = false := fun c hc => ff c ((by decide : ∀ c ∈ W_X12_copy_124, c ∈ W_X12_copy) c hc)
  have ff_X12_copy_161 : ∀ c ∈ W_X12_copy_161, fp c = false := fun c hc => ff c ((by decide : ∀ c ∈ W_X12_copy_161, c ∈ W_X12_copy) c hc)
  have ff_X12_refuse : ∀ c ∈ W_X12_refuse, fp c = false := fun c hc => ff c ((by decide : ∀ c ∈ W_X12_refuse, c ∈ W_X12_copy) c hc)
  unfold f_X12_copy
  obtain ⟨⟨r1v, r1h⟩, e_r1, (hh_r1 : r1h = h), p_r1_0, p_r1_1⟩ := z_X12_isTape x1 h S  
  replace hh_r1 := hh_r1.symm
  subst hh_r1
  dsimp only at p_r1_0 p_r1_1
  have bb_r1 := bool_bd p_r1_0
  rw [e_r1, Option.bind_some]
  try dsimp only
  by_cases q1 : r1v = 0
  · rw [if_pos q1]
    have t2 : (0 : Int32).toInt = 0 := by decide
    first | have hx_3 := i32_hi (r1v) | skip
    first | have hx_4 := i32_lo (r1v) | skip
    first | have f5 : (r1v : Int32).toInt = (0 : Int32).toInt := congrArg Int32.toInt q1 | skip
    exact ⟨_, rfl, S⟩
  · rw [if_neg q1]
    have t6 : (0 : Int32).toInt = 0 := by decide
    first | have hx_7 := i32_hi (r1v) | skip
    first | have hx_8 := i32_lo (r1v) | skip
    first | have f9 : (r1v : Int32).toInt ≠ (0 : Int32).toInt := ti_ne q1 | skip
    obtain ⟨⟨r3v, r3h⟩, e_r3, (hh_r3 : r3h = h), p_r3_0, p_r3_1⟩ := z_X12_isTape x3 h S  
    replace hh_r3 := hh_r3.symm
    subst hh_r3
    dsimp only at p_r3_0 p_r3_1
    have bb_r3 := bool_bd p_r3_0
    rw [e_r3, Option.bind_some]
    try dsimp only
    by_cases q10 : r3v = 0
    · rw [if_pos q10]
      first | have hx_11 := i32_hi (r3v) | skip
      first | have hx_12 := i32_lo (r3v) | skip
      first | have f13 : (r3v : Int32).toInt = (0 : Int32).toInt := congrArg Int32.toInt q10 | skip
      exact ⟨_, rfl, S⟩
    · rw [if_neg q10]
      first | have hx_14 := i32_hi (r3v) | skip
      first | have hx_15 := i32_lo (r3v) | skip
      first | have f16 : (r3v : Int32).toInt ≠ (0 : Int32).toInt := ti_ne q10 | skip
      have q17 : mIn x1 6 = true := (mIn_bd (by omega) (by omega))
      rw [if_pos q17]
      by_cases q18 : (h.1 89 0 x1.toNatClampNeg) = 0
      · rw [if_pos q18]
        have b19 : 0 ≤ (h.1 89 0 x1.toNatClampNeg).toInt ∧ (h.1 89 0 x1.toNatClampNeg).toInt ≤ 5 := (S).1 89 0 x1.toNatClampNeg
        first | have hx_20 := i32_hi (h.1 89 0 x1.toNatClampNeg) | skip
        first | have hx_21 := i32_lo (h.1 89 0 x1.toNatClampNeg) | skip
        first | have f22 : (h.1 89 0 x1.toNatClampNeg : Int32).toInt = (0 : Int32).toInt := congrArg Int32.toInt q18 | skip
        obtain ⟨r7, e_r7, S_r7⟩ := z_X12_refuse (-11) h S ff_X12_refuse 
        rw [e_r7, Option.bind_some]
        exact ⟨_, rfl, S_r7⟩
      · rw [if_neg q18]
        have b23 : 0 ≤ (h.1 89 0 x1.toNatClampNeg).toInt ∧ (h.1 89 0 x1.toNatClampNeg).toInt ≤ 5 := (S).1 89 0 x1.toNatClampNeg
        first | have hx_24 := i32_hi (h.1 89 0 x1.toNatClampNeg) | skip
        first | have hx_25 := i32_lo (h.1 89 0 x1.toNatClampNeg) | skip
        first | have f26 : (h.1 89 0 x1.toNatClampNeg : Int32).toInt ≠ (0 : Int32).toInt := ti_ne q18 | skip
        have q27 : mIn x3 6 = true := (mIn_bd (by omega) (by omega))
        rw [if_pos q27]
        by_cases q28 : (h.1 89 0 x3.toNatClampNeg) = 0
        · rw [if_pos q28]
          have b29 : 0 ≤ (h.1 89 0 x3.toNatClampNeg).toInt ∧ (h.1 89 0 x3.toNatClampNeg).toInt ≤ 5 := (S).1 89 0 x3.toNatClampNeg
          first | have hx_30 := i32_hi (h.1 89 0 x3.toNatClampNeg) | skip
          first | have hx_31 := i32_lo (h.1 89 0 x3.toNatClampNeg) | skip
          first | have f32 : (h.1 89 0 x3.toNatClampNeg : Int32).toInt = (0 : Int32).toInt := congrArg Int32.toInt q28 | skip
          obtain ⟨r42, e_r42, S_r42⟩ := z_X12_refuse (-11) h S ff_X12_refuse 
          rw [e_r42, Option.bind_some]
          exact ⟨_, rfl, S_r42⟩
        · rw [if_neg q28]
          have b33 : 0 ≤ (h.1 89 0 x3.toNatClampNeg).toInt ∧ (h.1 89 0 x3.toNatClampNeg).toInt ≤ 5 := (S).1 89 0 x3.toNatClampNeg
          first | have hx_34 := i32_hi (h.1 89 0 x3.toNatClampNeg) | skip
          first | have hx_35 := i32_lo (h.1 89 0 x3.toNatClampNeg) | skip
          first | have f36 : (h.1 89 0 x3.toNatClampNeg : Int32).toInt ≠ (0 : Int32).toInt := ti_ne q28 | skip
          by_cases q37 : (h.1 89 0 x1.toNatClampNeg) = 5
          · rw [if_pos q37]
            have t38 : (5 : Int32).toInt = 5 := by decide
            first | have f39 : (h.1 89 0 x1.toNatClampNeg : Int32).toInt = (5 : Int32).toInt := congrArg Int32.toInt q37 | skip
            obtain ⟨r11, e_r11, S_r11⟩ := z_X12_refuse (-12) h S ff_X12_refuse 
            rw [e_r11, Option.bind_some]
            exact ⟨_, rfl, S_r11⟩
          · rw [if_neg q37]
            have t40 : (5 : Int32).toInt = 5 := by decide
            first | have f41 : (h.1 89 0 x1.toNatClampNeg : Int32).toInt ≠ (5 : Int32).toInt := ti_ne q37 | skip
            by_cases q42 : (h.1 89 0 x1.toNatClampNeg) = (h.1 89 0 x3.toNatClampNeg)
            · rw [if_pos q42]
              first | have f43 : (h.1 89 0 x1.toNatClampNeg : Int32).toInt = (h.1 89 0 x3.toNatClampNeg : Int32).toInt := congrArg Int32.toInt q42 | skip
              by_cases q44 : x5 < 0
              · rw [if_pos q44]
                first | have hx_45 := i32_hi (x5) | skip
                first | have hx_46 := i32_lo (x5) | skip
                first | have f47 : (x5 : Int32).toInt < (0 : Int32).toInt := Int32.lt_iff_toInt_lt.mp q44 | skip
                obtain ⟨r14, e_r14, S_r14⟩ := z_X12_refuse (-13) h S ff_X12_refuse 
                rw [e_r14, Option.bind_some]
                exact ⟨_, rfl, S_r14⟩
              · rw [if_neg q44]
                first | have hx_48 := i32_hi (x5) | skip
                first | have hx_49 := i32_lo (x5) | skip
                first | have f50 : (0 : Int32).toInt ≤ (x5 : Int32).toInt := Int32.le_iff_toInt_le.mp (Int32.not_lt.mp q44) | skip
                by_cases q51 : x2 < 0
                · rw [if_pos q51]
                  first | have hx_52 := i32_hi (x2) | skip
                  first | have hx_53 := i32_lo (x2) | skip
                  first | have f54 : (x2 : Int32).toInt < (0 : Int32).toInt := Int32.lt_iff_toInt_lt.mp q51 | skip
                  obtain ⟨r16, e_r16, S_r16⟩ := z_X12_refuse (-13) h S ff_X12_refuse 
                  rw [e_r16, Option.bind_some]
                  exact ⟨_, rfl, S_r16⟩
                · rw [if_neg q51]
                  first | have hx_55 := i32_hi (x2) | skip
                  first | have hx_56 := i32_lo (x2) | skip
                  first | have f57 : (0 : Int32).toInt ≤ (x2 : Int32).toInt := Int32.le_iff_toInt_le.mp (Int32.not_lt.mp q51) | skip
                  by_cases q58 : x4 < 0
                  · rw [if_pos q58]
                    first | have hx_59 := i32_hi (x4) | skip
                    first | have hx_60 := i32_lo (x4) | skip
                    first | have f61 : (x4 : Int32).toInt < (0 : Int32).toInt := Int32.lt_iff_toInt_lt.mp q58 | skip
                    obtain ⟨r18, e_r18, S_r18⟩ := z_X12_refuse (-13) h S ff_X12_refuse 
                    rw [e_r18, Option.bind_some]
                    exact ⟨_, rfl, S_r18⟩
                  · rw [if_neg q58]
                    first | have hx_62 := i32_hi (x4) | skip
                    first | have hx_63 := i32_lo (x4) | skip
                    first | have f64 : (0 : Int32).toInt ≤ (x4 : Int32).toInt := Int32.le_iff_toInt_le.mp (Int32.not_lt.mp q58) | skip
                    by_cases q65 : x5 ≤ ((h.1 90 0 x1.toNatClampNeg) - x2)
                    · rw [if_pos q65]
                      have b66 : 0 ≤ (h.1 90 0 x1.toNatClampNeg).toInt ∧ (h.1 90 0 x1.toNatClampNeg).toInt ≤ 64 := (S).1 90 0 x1.toNatClampNeg
                      first | have o67 : ((h.1 90 0 x1.toNatClampNeg) - x2 : Int32).toInt = (h.1 90 0 x1.toNatClampNeg : Int32).toInt - (x2 : Int32).toInt := ti_sub (by omega) (by omega) | skip
                      first | have hx_68 := i32_hi ((h.1 90 0 x1.toNatClampNeg) - x2) | skip
                      first | have hx_69 := i32_lo ((h.1 90 0 x1.toNatClampNeg) - x2) | skip
                      first | have f70 : (x5 : Int32).toInt ≤ ((h.1 90 0 x1.toNatClampNeg) - x2 : Int32).toInt := Int32.le_iff_toInt_le.mp q65 | skip
                      by_cases q71 : x5 ≤ ((h.1 90 0 x3.toNatClampNeg) - x4)
                      · rw [if_pos q71]
                        have b72 : 0 ≤ (h.1 90 0 x3.toNatClampNeg).toInt ∧ (h.1 90 0 x3.toNatClampNeg).toInt ≤ 64 := (S).1 90 0 x3.toNatClampNeg
                        first | have o73 : ((h.1 90 0 x3.toNatClampNeg) - x4 : Int32).toInt = (h.1 90 0 x3.toNatClampNeg : Int32).toInt - (x4 : Int32).toInt := ti_sub (by omega) (by omega) | skip
                        first | have hx_74 := i32_hi ((h.1 90 0 x3.toNatClampNeg) - x4) | skip
                        first | have hx_75 := i32_lo ((h.1 90 0 x3.toNatClampNeg) - x4) | skip
                        first | have f76 : (x5 : Int32).toInt ≤ ((h.1 90 0 x3.toNatClampNeg) - x4 : Int32).toInt := Int32.le_iff_toInt_le.mp q71 | skip
                        refine z_X12_copy_124 (m := m) _  x1 x2 x3 x4 x5 ff_X12_copy_124 (by omega) (by omega) (fun u30 h31 S_h31 y77 => ?_)  mFu 0 h S (by omega) (by have := mFu_big; omega)
                        try dsimp only
                        refine z_X12_copy_161 (m := m) _  x3 x4 x5 ff_X12_copy_161 (by omega) (by omega) (fun u38 h39 S_h39 y78 => ?_)  mFu 0 h31 S_h31 (by omega) (by have := mFu_big; omega)
                        try dsimp only
                        exact ⟨_, rfl, S_h39⟩
                      · rw [if_neg q71]
                        have b79 : 0 ≤ (h.1 90 0 x3.toNatClampNeg).toInt ∧ (h.1 90 0 x3.toNatClampNeg).toInt ≤ 64 := (S).1 90 0 x3.toNatClampNeg
                        first | have o80 : ((h.1 90 0 x3.toNatClampNeg) - x4 : Int32).toInt = (h.1 90 0 x3.toNatClampNeg : Int32).toInt - (x4 : Int32).toInt := ti_sub (by omega) (by omega) | skip
                        first | have hx_81 := i32_hi ((h.1 90 0 x3.toNatClampNeg) - x4) | skip
                        first | have hx_82 := i32_lo ((h.1 90 0 x3.toNatClampNeg) - x4) | skip
                        first | have f83 : ((h.1 90 0 x3.toNatClampNeg) - x4 : Int32).toInt < (x5 : Int32).toInt := Int32.lt_iff_toInt_lt.mp (Int32.not_le.mp q71) | skip
                        obtain ⟨r40, e_r40, S_r40⟩ := z_X12_refuse (-13) h S ff_X12_refuse 
                        rw [e_r40, Option.bind_some]
                        exact ⟨_, rfl, S_r40⟩
                    · rw [if_neg q65]
                      have b84 : 0 ≤ (h.1 90 0 x1.toNatClampNeg).toInt ∧ (h.1 90 0 x1.toNatClampNeg).toInt ≤ 64 := (S).1 90 0 x1.toNatClampNeg
                      first | have o85 : ((h.1 90 0 x1.toNatClampNeg) - x2 : Int32).toInt = (h.1 90 0 x1.toNatClampNeg : Int32).toInt - (x2 : Int32).toInt := ti_sub (by omega) (by omega) | skip
                      first | have hx_86 := i32_hi ((h.1 90 0 x1.toNatClampNeg) - x2) | skip
                      first | have hx_87 := i32_lo ((h.1 90 0 x1.toNatClampNeg) - x2) | skip
                      first | have f88 : ((h.1 90 0 x1.toNatClampNeg) - x2 : Int32).toInt < (x5 : Int32).toInt := Int32.lt_iff_toInt_lt.mp (Int32.not_le.mp q65) | skip
                      obtain ⟨r20, e_r20, S_r20⟩ := z_X12_refuse (-13) h S ff_X12_refuse 
                      rw [e_r20, Option.bind_some]
                      exact ⟨_, rfl, S_r20⟩
            · rw [if_neg q42]
              first | have f89 : (h.1 89 0 x1.toNatClampNeg : Int32).toInt ≠ (h.1 89 0 x3.toNatClampNeg : Int32).toInt := ti_ne q42 | skip
              obtain ⟨r41, e_r41, S_r41⟩ := z_X12_refuse (-12) h S ff_X12_refuse 
              rw [e_r41, Option.bind_some]
              exact ⟨_, rfl, S_r41⟩
set_option maxHeartbeats 400000 in
theorem z_X12_count {fp : Nat → Bool} {b : mH} {m : Nat} (x1 : Int32) (h : mH) (S : SI fp b m h)   : ∃ r, f_X12_count x1 h = some r ∧ r.2 = h := by
  unfold f_X12_count
  by_cases q1 : x1 = 0
  · rw [if_pos q1]
    have t2 : (0 : Int32).toInt = 0 := by decide
    first | have hx_3 := i32_hi (x1) | skip
    first | have hx_4 := i32_lo (x1) | skip
    first | have f5 : (x1 : Int32).toInt = (0 : Int32).toInt := congrArg Int32.toInt q1 | skip
    exact ⟨_, rfl, rfl⟩
  · rw [if_neg q1]
    have t6 : (0 : Int32).toInt = 0 := by decide
    first | have hx_7 := i32_hi (x1) | skip
    first | have hx_8 := i32_lo (x1) | skip
    first | have f9 : (x1 : Int32).toInt ≠ (0 : Int32).toInt := ti_ne q1 | skip
    by_cases q10 : x1 = 1
    · rw [if_pos q10]
      have t11 : (1 : Int32).toInt = 1 := by decide
      first | have f12 : (x1 : Int32).toInt = (1 : Int32).toInt := congrArg Int32.toInt q10 | skip
      exact ⟨_, rfl, rfl⟩
    · rw [if_neg q10]
      have t13 : (1 : Int32).toInt = 1 := by decide
      first | have f14 : (x1 : Int32).toInt ≠ (1 : Int32).toInt := ti_ne q10 | skip
      by_cases q15 : x1 = 2
      · rw [if_pos q15]
        have t16 : (2 : Int32).toInt = 2 := by decide
        first | have f17 : (x1 : Int32).toInt = (2 : Int32).toInt := congrArg Int32.toInt q15 | skip
        exact ⟨_, rfl, rfl⟩
      · rw [if_neg q15]
        have t18 : (2 : Int32).toInt = 2 := by decide
        first | have f19 : (x1 : Int32).toInt ≠ (2 : Int32).toInt := ti_ne q15 | skip
        by_cases q20 : x1 = 3
        · rw [if_pos q20]
          have t21 : (3 : Int32).toInt = 3 := by decide
          first | have f22 : (x1 : Int32).toInt = (3 : Int32).toInt := congrArg Int32.toInt q20 | skip
          exact ⟨_, rfl, rfl⟩
        · rw [if_neg q20]
          have t23 : (3 : Int32).toInt = 3 := by decide
          first | have f24 : (x1 : Int32).toInt ≠ (3 : Int32).toInt := ti_ne q20 | skip
          by_cases q25 : x1 = 4
          · rw [if_pos q25]
            have t26 : (4 : Int32).toInt = 4 := by decide
            first | have f27 : (x1 : Int32).toInt = (4 : Int32).toInt := congrArg Int32.toInt q25 | skip
            exact ⟨_, rfl, rfl⟩
          · rw [if_neg q25]
            have t28 : (4 : Int32).toInt = 4 := by decide
            first | have f29 : (x1 : Int32).toInt ≠ (4 : Int32).toInt := ti_ne q25 | skip
            by_cases q30 : x1 = 5
            · rw [if_pos q30]
              have t31 : (5 : Int32).toInt = 5 := by decide
              first | have f32 : (x1 : Int32).toInt = (5 : Int32).toInt := congrArg Int32.toInt q30 | skip
              exact ⟨_, rfl, rfl⟩
            · rw [if_neg q30]
              have t33 : (5 : Int32).toInt = 5 := by decide
              first | have f34 : (x1 : Int32).toInt ≠ (5 : Int32).toInt := ti_ne q30 | skip
              by_cases q35 : x1 = 6
              · rw [if_pos q35]
                have t36 : (6 : Int32).toInt = 6 := by decide
                first | have f37 : (x1 : Int32).toInt = (6 : Int32).toInt := congrArg Int32.toInt q35 | skip
                exact ⟨_, rfl, rfl⟩
              · rw [if_neg q35]
                have t38 : (6 : Int32).toInt = 6 := by decide
                first | have f39 : (x1 : Int32).toInt ≠ (6 : Int32).toInt := ti_ne q35 | skip
                by_cases q40 : x1 = 7
                · rw [if_pos q40]
                  have t41 : (7 : Int32).toInt = 7 := by decide
                  first | have f42 : (x1 : Int32).toInt = (7 : Int32).toInt := congrArg Int32.toInt q40 | skip
                  exact ⟨_, rfl, rfl⟩
                · rw [if_neg q40]
                  have t43 : (7 : Int32).toInt = 7 := by decide
                  first | have f44 : (x1 : Int32).toInt ≠ (7 : Int32).toInt := ti_ne q40 | skip
                  by_cases q45 : x1 = 8
                  · rw [if_pos q45]
                    have t46 : (8 : Int32).toInt = 8 := by decide
                    first | have f47 : (x1 : Int32).toInt = (8 : Int32).toInt := congrArg Int32.toInt q45 | skip
                    exact ⟨_, rfl, rfl⟩
                  · rw [if_neg q45]
                    have t48 : (8 : Int32).toInt = 8 := by decide
                    first | have f49 : (x1 : Int32).toInt ≠ (8 : Int32).toInt := ti_ne q45 | skip
                    exact ⟨_, rfl, rfl⟩
