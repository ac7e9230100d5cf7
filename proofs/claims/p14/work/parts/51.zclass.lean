/-! ===== safety rows, class ===== -/
set_option maxHeartbeats 400000 in
theorem z_X11_isIn {fp : Nat → Bool} {b : mH} {m : Nat} (x0 : Int32) (x1 : Int32) (h : mH) (S : SI fp b m h)   : ∃ r, f_X11_isIn x0 x1 h = some r ∧ r.2 = h ∧ (r.1 = 0 ∨ r.1 = 1) := by
  unfold f_X11_isIn
  by_cases q1 : ((x0 >>> (x1 &&& 31)) &&& 1) = 0
  · rw [if_pos q1]
    have t2 : (0 : Int32).toInt = 0 := by decide
    first | have hx_3 := i32_hi ((x0 >>> (x1 &&& 31)) &&& 1) | skip
    first | have hx_4 := i32_lo ((x0 >>> (x1 &&& 31)) &&& 1) | skip
    first | have f5 : ((x0 >>> (x1 &&& 31)) &&& 1 : Int32).toInt = (0 : Int32).toInt := congrArg Int32.toInt q1 | skip
    exact ⟨_, rfl, rfl, (Or.inl rfl)⟩
  · rw [if_neg q1]
    have t6 : (0 : Int32).toInt = 0 := by decide
    first | have hx_7 := i32_hi ((x0 >>> (x1 &&& 31)) &&& 1) | skip
    first | have hx_8 := i32_lo ((x0 >>> (x1 &&& 31)) &&& 1) | skip
    first | have f9 : ((x0 >>> (x1 &&& 31)) &&& 1 : Int32).toInt ≠ (0 : Int32).toInt := ti_ne q1 | skip
    have t10 : (1 : Int32).toInt = 1 := by decide
    exact ⟨_, rfl, rfl, (Or.inr rfl)⟩
set_option maxHeartbeats 400000 in
theorem z_X11_nearestInt {fp : Nat → Bool} {b : mH} {m : Nat} (x0 : Int64) (h : mH) (S : SI fp b m h)   : ∃ r, f_X11_nearestInt x0 h = some r ∧ r.2 = h := by
  unfold f_X11_nearestInt
  exact ⟨_, rfl, rfl⟩
def W_X10_forget : List Nat := [646, 647]
set_option maxHeartbeats 400000 in
theorem z_X10_forget {fp : Nat → Bool} {b : mH} {m : Nat}  (h : mH) (S : SI fp b m h) (ff : ∀ c ∈ W_X10_forget, fp c = false)  : ∃ r, f_X10_forget h = some r ∧ SI fp b m r := by
  have w646 : fp 646 = false := ff 646 (by decide)
  have w647 : fp 647 = false := ff 647 (by decide)
  unfold f_X10_forget
  refine let_ex (fun h1 e_h1 => ?_)
  have S_h1 : SI fp b m h1 := e_h1 ▸ (SI.f S rfl w646 rfl)
  exact ⟨_, rfl, (SI.f S_h1 rfl w647 rfl)⟩
def W_X1_startAnew : List Nat := [67, 68, 69, 70, 71, 72, 73]
set_option maxHeartbeats 400000 in
theorem z_X1_startAnew {fp : Nat → Bool} {b : mH} {m : Nat} (x1 : Int32) (h : mH) (S : SI fp b m h) (ff : ∀ c ∈ W_X1_startAnew, fp c = false) (pr0 : (1 ≤ x1.toInt ∧ x1.toInt ≤ 8)) : ∃ r, f_X1_startAnew x1 h = some r ∧ SI fp b m r := by
  have w67 : fp 67 = false := ff 67 (by decide)
  have w68 : fp 68 = false := ff 68 (by decide)
  have w69 : fp 69 = false := ff 69 (by decide)
  have w70 : fp 70 = false := ff 70 (by decide)
  have w71 : fp 71 = false := ff 71 (by decide)
  have w72 : fp 72 = false := ff 72 (by decide)
  have w73 : fp 73 = false := ff 73 (by decide)
  unfold f_X1_startAnew
  have w_1 : 1 ≤ (x1 : Int32).toInt ∧ (x1 : Int32).toInt ≤ 8 := by omega
  refine let_ex (fun h1 e_h1 => ?_)
  have S_h1 : SI fp b m h1 := e_h1 ▸ (SI.u S rfl w67 w_1)
  have t2 : (0 : Int32).toInt = 0 := by decide
  have w_3 : 0 ≤ (0 : Int32).toInt ∧ (0 : Int32).toInt ≤ 24 := by omega
  refine let_ex (fun h2 e_h2 => ?_)
  have S_h2 : SI fp b m h2 := e_h2 ▸ (SI.u S_h1 rfl w68 w_3)
  have w_4 : 0 ≤ (0 : Int32).toInt ∧ (0 : Int32).toInt ≤ 12 := by omega
  refine let_ex (fun h3 e_h3 => ?_)
  have S_h3 : SI fp b m h3 := e_h3 ▸ (SI.u S_h2 rfl w69 w_4)
  have w_5 : 0 ≤ (0 : Int32).toInt ∧ (0 : Int32).toInt ≤ 6 := by omega
  refine let_ex (fun h4 e_h4 => ?_)
  have S_h4 : SI fp b m h4 := e_h4 ▸ (SI.u S_h3 rfl w70 w_5)
  refine let_ex (fun h5 e_h5 => ?_)
  have S_h5 : SI fp b m h5 := e_h5 ▸ (SI.f S_h4 rfl w71 rfl)
  refine let_ex (fun h6 e_h6 => ?_)
  have S_h6 : SI fp b m h6 := e_h6 ▸ (SI.f S_h5 rfl w72 rfl)
  have w_6 : 0 ≤ (0 : Int32).toInt ∧ (0 : Int32).toInt ≤ 1 := by omega
  exact ⟨_, rfl, (SI.u S_h6 rfl w73 w_6)⟩
set_option maxHeartbeats 400000 in
theorem z_X6_isKept {fp : Nat → Bool} {b : mH} {m : Nat} (i0 : Nat) (h : mH) (S : SI fp b m h)   : ∃ r, f_X6_isKept i0 h = some r ∧ r.2 = h ∧ (r.1 = 0 ∨ r.1 = 1) := by
  unfold f_X6_isKept
  by_cases q1 : (h.1 6 i0 3) = 0
  · rw [if_pos q1]
    have t2 : (0 : Int32).toInt = 0 := by decide
    first | have hx_3 := i32_hi (h.1 6 i0 3) | skip
    first | have hx_4 := i32_lo (h.1 6 i0 3) | skip
    first | have f5 : (h.1 6 i0 3 : Int32).toInt = (0 : Int32).toInt := congrArg Int32.toInt q1 | skip
    have t6 : (1 : Int32).toInt = 1 := by decide
    exact ⟨_, rfl, rfl, (Or.inr rfl)⟩
  · rw [if_neg q1]
    have t7 : (0 : Int32).toInt = 0 := by decide
    first | have hx_8 := i32_hi (h.1 6 i0 3) | skip
    first | have hx_9 := i32_lo (h.1 6 i0 3) | skip
    first | have f10 : (h.1 6 i0 3 : Int32).toInt ≠ (0 : Int32).toInt := ti_ne q1 | skip
    by_cases q11 : (h.1 6 i0 3) = 5
    · rw [if_pos q11]
      have t12 : (5 : Int32).toInt = 5 := by decide
      first | have f13 : (h.1 6 i0 3 : Int32).toInt = (5 : Int32).toInt := congrArg Int32.toInt q11 | skip
      have t14 : (1 : Int32).toInt = 1 := by decide
      exact ⟨_, rfl, rfl, (Or.inr rfl)⟩
    · rw [if_neg q11]
      have t15 : (5 : Int32).toInt = 5 := by decide
      first | have f16 : (h.1 6 i0 3 : Int32).toInt ≠ (5 : Int32).toInt := ti_ne q11 | skip
      exact ⟨_, rfl, rfl, (Or.inl rfl)⟩
def W_X2_sortIn_j40 : List Nat := [134, 1920, 1984]
set_option maxHeartbeats 400000 in
theorem z_X2_sortIn_j40 {fp : Nat → Bool} {b : mH} {m : Nat} (w1 : Int32) (j2 : Nat) (w3 : Int32) (h : mH) (S : SI fp b m h) (ff : ∀ c ∈ W_X2_sortIn_j40, fp c = false) (pr0 : (0 ≤ w1.toInt ∧ w1.toInt < 24)) (pr1 : (0 ≤ w3.toInt ∧ w3.toInt < 8)) (pr2 : (h.1 2 0 6).toInt < 24) : ∃ r, f_X2_sortIn_j40 w1 j2 w3 h = some r ∧ SI fp b m r ∧ (r.1 2 0 6).toInt ≤ (h.1 2 0 6).toInt + 1 := by
  have w134 : fp 134 = false := ff 134 (by decide)
  have w1920 : fp 1920 = false := ff 1920 (by decide)
  have w1984 : fp 1984 = false := ff 1984 (by decide)
  unfold f_X2_sortIn_j40
  obtain ⟨⟨r3v, r3h⟩, e_r3, (hh_r3 : r3h = h), p_r3_0⟩ := z_X6_isKept j2 h S  
  replace hh_r3 := hh_r3.symm
  subst hh_r3
  dsimp only at p_r3_0
  have bb_r3 := bool_bd p_r3_0
  rw [e_r3, Option.bind_some]
  try dsimp only
  by_cases q1 : r3v = 0
  · rw [if_pos q1]
    have t2 : (0 : Int32).toInt = 0 := by decide
    first | have hx_3 := i32_hi (r3v) | skip
    first | have hx_4 := i32_lo (r3v) | skip
    first | have f5 : (r3v : Int32).toInt = (0 : Int32).toInt := congrArg Int32.toInt q1 | skip
    by_cases q6 : (h.1 6 j2 3) = 4
    · rw [if_pos q6]
      have t7 : (4 : Int32).toInt = 4 := by decide
      first | have hx_8 := i32_hi (h.1 6 j2 3) | skip
      first | have hx_9 := i32_lo (h.1 6 j2 3) | skip
      first | have f10 : (h.1 6 j2 3 : Int32).toInt = (4 : Int32).toInt := congrArg Int32.toInt q6 | skip
      have b11 : 0 ≤ (h.1 2 0 6).toInt ∧ (h.1 2 0 6).toInt ≤ 24 := (S).1 2 0 6
      have q12 : mIn (h.1 2 0 6) 24 = true := (mIn_bd (by omega) (by omega))
      rw [if_pos q12]
      have w_13 : 0 ≤ (w1 : Int32).toInt ∧ (w1 : Int32).toInt ≤ 23 := by omega
      refine let_ex (fun h7 e_h7 => ?_)
      have S_h7 : SI fp b m h7 := e_h7 ▸ (SI.u S rfl w1984 w_13)
      have b14 : 0 ≤ (h7.1 2 0 6).toInt ∧ (h7.1 2 0 6).toInt ≤ 24 := (S_h7).1 2 0 6
      have l15 : (h7.1 2 0 6).toInt = (h.1 2 0 6).toInt := by rw [← e_h7, uI_t _ rfl]
      have t16 : (1 : Int32).toInt = 1 := by decide
      first | have o17 : ((h7.1 2 0 6) + 1 : Int32).toInt = (h7.1 2 0 6 : Int32).toInt + (1 : Int32).toInt := ti_add (by omega) (by omega) | skip
      have w_18 : 0 ≤ ((h7.1 2 0 6) + 1 : Int32).toInt ∧ ((h7.1 2 0 6) + 1 : Int32).toInt ≤ 24 := by omega
      obtain ⟨g19, e_g19⟩ : ∃ g, uI h7 2 0 6 ((h7.1 2 0 6) + 1) = g := ⟨_, rfl⟩
      rw [e_g19]
      have S_g19 : SI fp b m g19 := e_g19 ▸ (SI.u S_h7 rfl w134 w_18)
      have b20 : 0 ≤ (g19.1 2 0 6).toInt ∧ (g19.1 2 0 6).toInt ≤ 24 := (S_g19).1 2 0 6
      have l21 : (g19.1 2 0 6).toInt = ((h7.1 2 0 6) + 1 : Int32).toInt := by rw [← e_g19, uI_s']
      have pp22 : (g19.1 2 0 6).toInt ≤ (h.1 2 0 6).toInt + 1 := by omega
      exact ⟨_, rfl, S_g19, pp22⟩
    · rw [if_neg q6]
      have t23 : (4 : Int32).toInt = 4 := by decide
      first | have hx_24 := i32_hi (h.1 6 j2 3) | skip
      first | have hx_25 := i32_lo (h.1 6 j2 3) | skip
      first | have f26 : (h.1 6 j2 3 : Int32).toInt ≠ (4 : Int32).toInt := ti_ne q6 | skip
      have b27 : 0 ≤ (h.1 2 0 6).toInt ∧ (h.1 2 0 6).toInt ≤ 24 := (S).1 2 0 6
      have pp28 : (h.1 2 0 6).toInt ≤ (h.1 2 0 6).toInt + 1 := by omega
      exact ⟨_, rfl, S, pp28⟩
  · rw [if_neg q1]
    have t29 : (0 : Int32).toInt = 0 := by decide
    first | have hx_30 := i32_hi (r3v) | skip
    first | have hx_31 := i32_lo (r3v) | skip
    first | have f32 : (r3v : Int32).toInt ≠ (0 : Int32).toInt := ti_ne q1 | skip
    have q33 : mIn w3 8 = true := (mIn_bd (by omega) (by omega))
    rw [if_pos q33]
    refine let_ex (fun h9 e_h9 => ?_)
    have S_h9 : SI fp b m h9 := e_h9 ▸ (SI.f S rfl w1920 rfl)
    by_cases q34 : (h9.1 6 j2 3) = 4
    · rw [if_pos q34]
      have l35 : (h9.1 6 j2 3).toInt = (h.1 6 j2 3).toInt := by rw [← e_h9, uI_t _ rfl]
      have t36 : (4 : Int32).toInt = 4 := by decide
      first | have hx_37 := i32_hi (h9.1 6 j2 3) | skip
      first | have hx_38 := i32_lo (h9.1 6 j2 3) | skip
      first | have f39 : (h9.1 6 j2 3 : Int32).toInt = (4 : Int32).toInt := congrArg Int32.toInt q34 | skip
      have b40 : 0 ≤ (h9.1 2 0 6).toInt ∧ (h9.1 2 0 6).toInt ≤ 24 := (S_h9).1 2 0 6
      have l41 : (h9.1 2 0 6).toInt = (h.1 2 0 6).toInt := by rw [← e_h9, uI_t _ rfl]
      have b42 : 0 ≤ (h.1 2 0 6).toInt ∧ (h.1 2 0 6).toInt ≤ 24 := (S).1 2 0 6
      have q43 : mIn (h9.1 2 0 6) 24 = true := (mIn_bd (by omega) (by omega))
      rw [if_pos q43]
      have w_44 : 0 ≤ (w1 : Int32).toInt ∧ (w1 : Int32).toInt ≤ 23 := by omega
      refine let_ex (fun h12 e_h12 => ?_)
      have S_h12 : SI fp b m h12 := e_h12 ▸ (SI.u S_h9 rfl w1984 w_44)
      have b45 : 0 ≤ (h12.1 2 0 6).toInt ∧ (h12.1 2 0 6).toInt ≤ 24 := (S_h12).1 2 0 6
      have l46 : (h12.1 2 0 6).toInt = (h9.1 2 0 6).toInt := by rw [← e_h12, uI_t _ rfl]
      have t47 : (1 : Int32).toInt = 1 := by decide
      first | have o48 : ((h12.1 2 0 6) + 1 : Int32).toInt = (h12.1 2 0 6 : Int32).toInt + (1 : Int32).toInt := ti_add (by omega) (by omega) | skip
      have w_49 : 0 ≤ ((h12.1 2 0 6) + 1 : Int32).toInt ∧ ((h12.1 2 0 6) + 1 : Int32).toInt ≤ 24 := by omega
      obtain ⟨g50, e_g50⟩ : ∃ g, uI h12 2 0 6 ((h12.1 2 0 6) + 1) = g := ⟨_, rfl⟩
      rw [e_g50]
      have S_g50 : SI fp b m g50 := e_g50 ▸ (SI.u S_h12 rfl w134 w_49)
      have b51 : 0 ≤ (g50.1 2 0 6).toInt ∧ (g50.1 2 0 6).toInt ≤ 24 := (S_g50).1 2 0 6
      have l52 : (g50.1 2 0 6).toInt = ((h12.1 2 0 6) + 1 : Int32).toInt := by rw [← e_g50, uI_s']
      have pp53 : (g50.1 2 0 6).toInt ≤ (h.1 2 0 6).toInt + 1 := by omega
      exact ⟨_, rfl, S_g50, pp53⟩
    · rw [if_neg q34]
      have l54 : (h9.1 6 j2 3).toInt = (h.1 6 j2 3).toInt := by rw [← e_h9, uI_t _ rfl]
      have t55 : (4 : Int32).toInt = 4 := by decide
      first | have hx_56 := i32_hi (h9.1 6 j2 3) | skip
      first | have hx_57 := i32_lo (h9.1 6 j2 3) | skip
      first | have f58 : (h9.1 6 j2 3 : Int32).toInt ≠ (4 : Int32).toInt := ti_ne q34 | skip
      have b59 : 0 ≤ (h9.1 2 0 6).toInt ∧ (h9.1 2 0 6).toInt ≤ 24 := (S_h9).1 2 0 6
      have l60 : (h9.1 2 0 6).toInt = (h.1 2 0 6).toInt := by rw [← e_h9, uI_t _ rfl]
      have b61 : 0 ≤ (h.1 2 0 6).toInt ∧ (h.1 2 0 6).toInt ≤ 24 := (S).1 2 0 6
      have pp62 : (h9.1 2 0 6).toInt ≤ (h.1 2 0 6).toInt + 1 := by omega
      exact ⟨_, rfl, S_h9, pp62⟩
def W_X2_sortIn : List Nat := [134, 1792, 1856, 1920, 1984]
set_option maxHeartbeats 400000 in
theorem z_X2_sortIn {fp : Nat → Bool} {b : mH} {m : Nat} (x1 : Int32) (i2 : Nat) (h : mH) (S : SI fp b m h) (ff : ∀ c ∈ W_X2_sortIn, fp c = false) (pr0 : (0 ≤ x1.toInt ∧ x1.toInt < 24)) (pr1 : (h.1 2 0 6).toInt < 24) : ∃ r, f_X2_sortIn x1 i2 h = some r ∧ SI fp b m r ∧ (r.1 2 0 6).toInt ≤ (h.1 2 0 6).toInt + 1 := by
  have ff_X2_sortIn_j40 : ∀ c ∈ W_X2_sortIn_j40, fp c = false := fun c hc => ff c ((by decide : ∀ c ∈ W_X2_sortIn_j40, c ∈ W_X2_sortIn) c hc)
  have w1792 : fp 1792 = false := ff 1792 (by decide)
  have w1856 : fp 1856 = false := ff 1856 (by decide)
  unfold f_X2_sortIn
  have b1 : 0 ≤ (h.1 6 i2 0).toInt ∧ (h.1 6 i2 0).toInt ≤ 7 := (S).1 6 i2 0
  have q2 : mIn (h.1 6 i2 0) 8 = true := (mIn_bd (by omega) (by omega))
  rw [if_pos q2]
  by_cases q3 : (h.1 29 0 (h.1 6 i2 0).toNatClampNeg) < 16
  · rw [if_pos q3]
    have b4 : 0 ≤ (h.1 29 0 (h.1 6 i2 0).toNatClampNeg).toInt ∧ (h.1 29 0 (h.1 6 i2 0).toNatClampNeg).toInt ≤ 16 := (S).1 29 0 ((h.1 6 i2 0).toNatClampNeg)
    have t5 : (16 : Int32).toInt = 16 := by decide
    first | have hx_6 := i32_hi (h.1 29 0 (h.1 6 i2 0).toNatClampNeg) | skip
    first | have hx_7 := i32_lo (h.1 29 0 (h.1 6 i2 0).toNatClampNeg) | skip
    first | have f8 : (h.1 29 0 (h.1 6 i2 0).toNatClampNeg : Int32).toInt < (16 : Int32).toInt := Int32.lt_iff_toInt_lt.mp q3 | skip
    have q9 : mIn (h.1 29 0 (h.1 6 i2 0).toNatClampNeg) 16 = true := (mIn_bd (by omega) (by omega))
    rw [if_pos q9]
    have w_10 : 0 ≤ (x1 : Int32).toInt ∧ (x1 : Int32).toInt ≤ 23 := by omega
    refine let_ex (fun h14 e_h14 => ?_)
    have S_h14 : SI fp b m h14 := e_h14 ▸ (SI.u S rfl w1792 w_10)
    have b12 : 0 ≤ (h14.1 29 0 (h.1 6 i2 0).toNatClampNeg).toInt ∧ (h14.1 29 0 (h.1 6 i2 0).toNatClampNeg).toInt ≤ 16 := (S_h14).1 29 0 ((h.1 6 i2 0).toNatClampNeg)
    have l13 : (h14.1 29 0 (h.1 6 i2 0).toNatClampNeg).toInt = (h.1 29 0 ((h.1 6 i2 0).toNatClampNeg)).toInt := by rw [← e_h14, uI_t _ rfl]
    have b14 : 0 ≤ (h.1 29 0 ((h.1 6 i2 0).toNatClampNeg)).toInt ∧ (h.1 29 0 ((h.1 6 i2 0).toNatClampNeg)).toInt ≤ 16 := (S).1 29 0 ((h.1 6 i2 0).toNatClampNeg)
    have t15 : (1 : Int32).toInt = 1 := by decide
    first | have o16 : ((h14.1 29 0 (h.1 6 i2 0).toNatClampNeg) + 1 : Int32).toInt = (h14.1 29 0 (h.1 6 i2 0).toNatClampNeg : Int32).toInt + (1 : Int32).toInt := ti_add (by omega) (by omega) | skip
    have w_17 : 0 ≤ ((h14.1 29 0 (h.1 6 i2 0).toNatClampNeg) + 1 : Int32).toInt ∧ ((h14.1 29 0 (h.1 6 i2 0).toNatClampNeg) + 1 : Int32).toInt ≤ 16 := by omega
    obtain ⟨g18, e_g18⟩ : ∃ g, uI h14 29 0 (h.1 6 i2 0).toNatClampNeg ((h14.1 29 0 (h.1 6 i2 0).toNatClampNeg) + 1) = g := ⟨_, rfl⟩
    rw [e_g18]
    have S_g18 : SI fp b m g18 := e_g18 ▸ (SI.u S_h14 rfl w1856 w_17)
    have b19 : 0 ≤ (g18.1 2 0 6).toInt ∧ (g18.1 2 0 6).toInt ≤ 24 := (S_g18).1 2 0 6
    have l20 : (g18.1 2 0 6).toInt = (h14.1 2 0 6).toInt := by rw [← e_g18, uI_t _ rfl]
    have b21 : 0 ≤ (h14.1 2 0 6).toInt ∧ (h14.1 2 0 6).toInt ≤ 24 := (S_h14).1 2 0 6
    have l22 : (h14.1 2 0 6).toInt = (h.1 2 0 6).toInt := by rw [← e_h14, uI_t _ rfl]
    have b23 : 0 ≤ (h.1 2 0 6).toInt ∧ (h.1 2 0 6).toInt ≤ 24 := (S).1 2 0 6
    obtain ⟨rr11, e_rr11, S_rr11, p_rr11_0⟩ := z_X2_sortIn_j40 x1 i2 (h.1 6 i2 0) g18 S_g18 ff_X2_sortIn_j40 pr0 (by omega) (by omega)
    rw [e_rr11]
    have b24 : 0 ≤ (rr11.1 2 0 6).toInt ∧ (rr11.1 2 0 6).toInt ≤ 24 := (S_rr11).1 2 0 6
    have pp25 : (rr11.1 2 0 6).toInt ≤ (h.1 2 0 6).toInt + 1 := by omega
    exact ⟨_, rfl, S_rr11, pp25⟩
  · rw [if_neg q3]
    have b26 : 0 ≤ (h.1 29 0 (h.1 6 i2 0).toNatClampNeg).toInt ∧ (h.1 29 0 (h.1 6 i2 0).toNatClampNeg).toInt ≤ 16 := (S).1 29 0 ((h.1 6 i2 0).toNatClampNeg)
    have t27 : (16 : Int32).toInt = 16 := by decide
    first | have hx_28 := i32_hi (h.1 29 0 (h.1 6 i2 0).toNatClampNeg) | skip
    first | have hx_29 := i32_lo (h.1 29 0 (h.1 6 i2 0).toNatClampNeg) | skip
    first | have f30 : (16 : Int32).toInt ≤ (h.1 29 0 (h.1 6 i2 0).toNatClampNeg : Int32).toInt := Int32.le_iff_toInt_le.mp (Int32.not_lt.mp q3) | skip
    obtain ⟨rr31, e_rr31, S_rr31, p_rr31_0⟩ := z_X2_sortIn_j40 x1 i2 (h.1 6 i2 0) h S ff_X2_sortIn_j40 pr0 (by omega) pr1
    rw [e_rr31]
    exact ⟨_, rfl, S_rr31, p_rr31_0⟩
def W_X2_powerUp_30 : List Nat := [134, 1792, 1856, 1920, 1984, 2112, 2176, 2432]
set_option maxHeartbeats 400000 in
theorem z_X2_powerUp_30 {fp : Nat → Bool} {b : mH} {m : Nat} {P : mH → Prop} (k : Int32 → mH → Option (mH))   (ff : ∀ c ∈ W_X2_powerUp_30, fp c = false)  (hk : ∀ (v1 : Int32) (h : mH), SI fp b m h → 0 ≤ v1.toInt → (h.1 2 0 6).toInt ≤ v1.toInt → ∃ r, k v1 h = some r ∧ P r) : ∀ (n : Nat) (v1 : Int32) (h : mH), SI fp b m h → 0 ≤ v1.toInt → (h.1 2 0 6).toInt ≤ v1.toInt → 2147483648 - v1.toInt < n → ∃ r, f_X2_powerUp_30 k  n v1 h = some r ∧ P r := by
  have ff_X2_sortIn : ∀ c ∈ W_X2_sortIn, fp c = false := fun c hc => ff c ((by decide : ∀ c ∈ W_X2_sortIn, c ∈ W_X2_powerUp_30) c hc)
  have w2112 : fp 2112 = false := ff 2112 (by decide)
  have w2176 : fp 2176 = false := ff 2176 (by decide)
  have w2432 : fp 2432 = false := ff 2432 (by decide)
  intro n
  induction n with
  | zero =>
    intro v1 h S iv0 iv1 hm
    have hz := i32_hi v1
    omega
  | succ n ih =>
    intro v1 h S iv0 iv1 hm
    rw [f_X2_powerUp_30]
    by_cases q1 : v1 < (h.1 1 0 4)
    · rw [if_pos q1]
      have b2 : 0 ≤ (h.1 1 0 4).toInt ∧ (h.1 1 0 4).toInt ≤ 24 := (S).1 1 0 4
      first | have hx_3 := i32_hi (v1) | skip
      first | have hx_4 := i32_lo (v1) | skip
      first | have hx_5 := i32_hi (h.1 1 0 4) | skip
      first | have hx_6 := i32_lo (h.1 1 0 4) | skip
      first | have f7 : (v1 : Int32).toInt < (h.1 1 0 4 : Int32).toInt := Int32.lt_iff_toInt_lt.mp q1 | skip
      have q8 : mIn v1 24 = true := (mIn_bd (by omega) (by omega))
      rw [if_pos q8]
      have b9 : 0 ≤ (h.1 2 0 6).toInt ∧ (h.1 2 0 6).toInt ≤ 24 := (S).1 2 0 6
      obtain ⟨r6, e_r6, S_r6, p_r6_0⟩ := z_X2_sortIn v1 v1.toNatClampNeg h S ff_X2_sortIn (by omega) (by omega)
      rw [e_r6, Option.bind_some]
      refine let_ex (fun h7 e_h7 => ?_)
      have S_h7 : SI fp b m h7 := e_h7 ▸ (SI.f S_r6 rfl w2112 rfl)
      obtain ⟨g10, e_g10⟩ : ∃ g, uI h7 34 0 v1.toNatClampNeg (h7.1 6 v1.toNatClampNeg 4) = g := ⟨_, rfl⟩
      rw [e_g10]
      have S_g10 : SI fp b m g10 := e_g10 ▸ (SI.f S_h7 rfl w2176 rfl)
      obtain ⟨⟨r8v, r8h⟩, e_r8, (hh_r8 : r8h = g10), p_r8_0⟩ := z_X6_isKept v1.toNatClampNeg g10 S_g10  
      replace hh_r8 := hh_r8.symm
      subst hh_r8
      dsimp only at p_r8_0
      have bb_r8 := bool_bd p_r8_0
      rw [e_r8, Option.bind_some]
      try dsimp only
      by_cases q11 : r8v = 0
      · rw [if_pos q11]
        have t12 : (0 : Int32).toInt = 0 := by decide
        first | have hx_13 := i32_hi (r8v) | skip
        first | have hx_14 := i32_lo (r8v) | skip
        first | have f15 : (r8v : Int32).toInt = (0 : Int32).toInt := congrArg Int32.toInt q11 | skip
        have t16 : (1 : Int32).toInt = 1 := by decide
        first | have o17 : (v1 + 1 : Int32).toInt = (v1 : Int32).toInt + (1 : Int32).toInt := ti_add (by omega) (by omega) | skip
        have b18 : 0 ≤ (g10.1 2 0 6).toInt ∧ (g10.1 2 0 6).toInt ≤ 24 := (S_g10).1 2 0 6
        have l19 : (g10.1 2 0 6).toInt = (h7.1 2 0 6).toInt := by rw [← e_g10, uI_t _ rfl]
        have b20 : 0 ≤ (h7.1 2 0 6).toInt ∧ (h7.1 2 0 6).toInt ≤ 24 := (S_h7).1 2 0 6
        have l21 : (h7.1 2 0 6).toInt = (r6.1 2 0 6).toInt := by rw [← e_h7, uI_t _ rfl]
        have b22 : 0 ≤ (r6.1 2 0 6).toInt ∧ (r6.1 2 0 6).toInt ≤ 24 := (S_r6).1 2 0 6
        exact ih (v1 + 1) g10 S_g10 (by omega) (by omega) (by omega)
      · rw [if_neg q11]
        have t23 : (0 : Int32).toInt = 0 := by decide
        first | have hx_24 := i32_hi (r8v) | skip
        first | have hx_25 := i32_lo (r8v) | skip
        first | have f26 : (r8v : Int32).toInt ≠ (0 : Int32).toInt := ti_ne q11 | skip
        have b27 : 0 ≤ (g10.1 6 v1.toNatClampNeg 0).toInt ∧ (g10.1 6 v1.toNatClampNeg 0).toInt ≤ 7 := (S_g10).1 6 v1.toNatClampNeg 0
        have l28 : (g10.1 6 v1.toNatClampNeg 0).toInt = (h7.1 6 v1.toNatClampNeg 0).toInt := by rw [← e_g10, uI_t _ rfl]
        have b29 : 0 ≤ (h7.1 6 v1.toNatClampNeg 0).toInt ∧ (h7.1 6 v1.toNatClampNeg 0).toInt ≤ 7 := (S_h7).1 6 v1.toNatClampNeg 0
        have l30 : (h7.1 6 v1.toNatClampNeg 0).toInt = (r6.1 6 v1.toNatClampNeg 0).toInt := by rw [← e_h7, uI_t _ rfl]
        have b31 : 0 ≤ (r6.1 6 v1.toNatClampNeg 0).toInt ∧ (r6.1 6 v1.toNatClampNeg 0).toInt ≤ 7 := (S_r6).1 6 v1.toNatClampNeg 0
        have q32 : mIn (g10.1 6 v1.toNatClampNeg 0) 8 = true := (mIn_bd (by omega) (by omega))
        rw [if_pos q32]
        obtain ⟨g33, e_g33⟩ : ∃ g, uI g10 38 0 (g10.1 6 v1.toNatClampNeg 0).toNatClampNeg ((g10.1 38 0 (g10.1 6 v1.toNatClampNeg 0).toNatClampNeg) ||| ((g10.1 6 v1.toNatClampNeg 4) <<< ((g10.1 6 v1.toNatClampNeg 1) &&& 31))) = g := ⟨_, rfl⟩
        rw [e_g33]
        have S_g33 : SI fp b m g33 := e_g33 ▸ (SI.f S_g10 rfl w2432 rfl)
        have t34 : (1 : Int32).toInt = 1 := by decide
        first | have o35 : (v1 + 1 : Int32).toInt = (v1 : Int32).toInt + (1 : Int32).toInt := ti_add (by omega) (by omega) | skip
        have b36 : 0 ≤ (g33.1 2 0 6).toInt ∧ (g33.1 2 0 6).toInt ≤ 24 := (S_g33).1 2 0 6
        have l37 : (g33.1 2 0 6).toInt = (g10.1 2 0 6).toInt := by rw [← e_g33, uI_t _ rfl]
        have b38 : 0 ≤ (g10.1 2 0 6).toInt ∧ (g10.1 2 0 6).toInt ≤ 24 := (S_g10).1 2 0 6
        have l39 : (g10.1 2 0 6).toInt = (h7.1 2 0 6).toInt := by rw [← e_g10, uI_t _ rfl]
        have b40 : 0 ≤ (h7.1 2 0 6).toInt ∧ (h7.1 2 0 6).toInt ≤ 24 := (S_h7).1 2 0 6
        have l41 : (h7.1 2 0 6).toInt = (r6.1 2 0 6).toInt := by rw [← e_h7, uI_t _ rfl]
        have b42 : 0 ≤ (r6.1 2 0 6).toInt ∧ (r6.1 2 0 6).toInt ≤ 24 := (S_r6).1 2 0 6
        exact ih (v1 + 1) g33 S_g33 (by omega) (by omega) (by omega)
    · rw [if_neg q1]
      have b43 : 0 ≤ (h.1 1 0 4).toInt ∧ (h.1 1 0 4).toInt ≤ 24 := (S).1 1 0 4
      first | have hx_44 := i32_hi (v1) | skip
      first | have hx_45 := i32_lo (v1) | skip
      first | have hx_46 := i32_hi (h.1 1 0 4) | skip
      first | have hx_47 := i32_lo (h.1 1 0 4) | skip
      first | have f48 : (h.1 1 0 4 : Int32).toInt ≤ (v1 : Int32).toInt := Int32.le_iff_toInt_le.mp (Int32.not_lt.mp q1) | skip
      exact hk v1 h S iv0 iv1
def W_X8_blank_s0 : List Nat := [521, 522, 523, 524, 525, 526, 527, 2112, 2176, 2240, 2304, 2368, 2432, 9998]
set_option maxHeartbeats 400000 in
theorem z_X8_blank_s0 {fp : Nat → Bool} {b : mH} {m : Nat}  (h : mH) (S : SI fp b m h) (ff : ∀ c ∈ W_X8_blank_s0, fp c = false)  : ∃ r, f_X8_blank 0 h = some r ∧ SI fp b m r := by
  have w521 : fp 521 = false := ff 521 (by decide)
  have w522 : fp 522 = false := ff 522 (by decide)
  have w523 : fp 523 = false := ff 523 (by decide)
  have w524 : fp 524 = false := ff 524 (by decide)
  have w525 : fp 525 = false := ff 525 (by decide)
  have w526 : fp 526 = false := ff 526 (by decide)
  have w527 : fp 527 = false := ff 527 (by decide)
  have w2112 : fp 2112 = false := ff 2112 (by decide)
  have w2176 : fp 2176 = false := ff 2176 (by decide)
  have w2240 : fp 2240 = false := ff 2240 (by decide)
  have w2304 : fp 2304 = false := ff 2304 (by decide)
  have w2368 : fp 2368 = false := ff 2368 (by decide)
  have w2432 : fp 2432 = false := ff 2432 (by decide)
  have w9998 : fp 9998 = false := ff 9998 (by decide)
  unfold f_X8_blank
  obtain ⟨r1, e_r1, S_r1⟩ := zfl 33 24 0 0 (by decide) S rfl rfl (fun _ => w2112) (fun _ => ⟨i32_lo _, i32_hi _⟩)
  rw [e_r1, Option.bind_some]
  obtain ⟨r2, e_r2, S_r2⟩ := zfl 34 24 0 0 (by decide) S_r1 rfl rfl (fun _ => w2176) (fun _ => ⟨i32_lo _, i32_hi _⟩)
  rw [e_r2, Option.bind_some]
  obtain ⟨r3, e_r3, S_r3⟩ := zfl 35 24 0 0 (by decide) S_r2 rfl rfl (fun _ => w2240) (fun _ => ⟨i32_lo _, i32_hi _⟩)
  rw [e_r3, Option.bind_some]
  obtain ⟨r4, e_r4, S_r4⟩ := zfl 36 24 0 0 (by decide) S_r3 rfl rfl (fun _ => w2304) (fun _ => ⟨i32_lo _, i32_hi _⟩)
  rw [e_r4, Option.bind_some]
  obtain ⟨r5, e_r5, S_r5⟩ := zfj 37 24 0 (-1) (by decide) S_r4 rfl (fun _ => w2368)
  rw [e_r5, Option.bind_some]
  obtain ⟨r6, e_r6, S_r6⟩ := zfl 38 8 0 0 (by decide) S_r5 rfl rfl (fun _ => w2432) (fun _ => ⟨i32_lo _, i32_hi _⟩)
  rw [e_r6, Option.bind_some]
  have t1 : (0 : Int32).toInt = 0 := by decide
  have w_2 : 0 ≤ (0 : Int32).toInt ∧ (0 : Int32).toInt ≤ 16 := by omega
  refine let_ex (fun h7 e_h7 => ?_)
  have S_h7 : SI fp b m h7 := e_h7 ▸ (SI.u S_r6 rfl w521 w_2)
  refine let_ex (fun h8 e_h8 => ?_)
  have S_h8 : SI fp b m h8 := e_h8 ▸ (SI.jn S_h7 w9998 w522)
  refine let_ex (fun h9 e_h9 => ?_)
  have S_h9 : SI fp b m h9 := e_h9 ▸ (SI.f S_h8 rfl w523 rfl)
  refine let_ex (fun h10 e_h10 => ?_)
  have S_h10 : SI fp b m h10 := e_h10 ▸ (SI.f S_h9 rfl w524 rfl)
  refine let_ex (fun h11 e_h11 => ?_)
  have S_h11 : SI fp b m h11 := e_h11 ▸ (SI.j S_h10 rfl w525)
  refine let_ex (fun h12 e_h12 => ?_)
  have S_h12 : SI fp b m h12 := e_h12 ▸ (SI.f S_h11 rfl w526 rfl)
  exact ⟨_, rfl, (SI.j S_h12 rfl w527)⟩
def W_X2_powerUp : List Nat := [134, 521, 522, 523, 524, 525, 526, 527, 1792, 1856, 1920, 1984, 2112, 2176, 2240, 2304, 2368, 2432, 9998]
set_option maxHeartbeats 400000 in
theorem z_X2_powerUp {fp : Nat → Bool} {b : mH} {m : Nat}  (h : mH) (S : SI fp b m h) (ff : ∀ c ∈ W_X2_powerUp, fp c = false)  : ∃ r, f_X2_powerUp h = some r ∧ SI fp b m r := by
  have ff_X2_powerUp_30 : ∀ c ∈ W_X2_powerUp_30, fp c = false := fun c hc => ff c ((by decide : ∀ c ∈ W_X2_powerUp_30, c ∈ W_X2_powerUp) c hc)
  have ff_X8_blank_s0 : ∀ c ∈ W_X8_blank_s0, fp c = false := fun c hc => ff c ((by decide : ∀ c ∈ W_X8_blank_s0, c ∈ W_X2_powerUp) c hc)
  have w134 : fp 134 = false := ff 134 (by decide)
  have w1856 : fp 1856 = false := ff 1856 (by decide)
  have w1920 : fp 1920 = false := ff 1920 (by decide)
  unfold f_X2_powerUp
  obtain ⟨r1, e_r1, S_r1⟩ := z_X8_blank_s0  h S ff_X8_blank_s0 
  rw [e_r1, Option.bind_some]
  have t1 : (0 : Int32).toInt = 0 := by decide
  have w_2 : 0 ≤ (0 : Int32).toInt ∧ (0 : Int32).toInt ≤ 16 := by omega
  obtain ⟨r2, e_r2, S_r2⟩ := zfl 29 8 0 0 (by decide) S_r1 rfl rfl (fun _ => w1856) (fun _ => w_2)
  rw [e_r2, Option.bind_some]
  obtain ⟨r3, e_r3, S_r3⟩ := zfl 30 8 0 0 (by decide) S_r2 rfl rfl (fun _ => w1920) (fun _ => ⟨i32_lo _, i32_hi _⟩)
  rw [e_r3, Option.bind_some]
  have w_3 : 0 ≤ (0 : Int32).toInt ∧ (0 : Int32).toInt ≤ 24 := by omega
  obtain ⟨g4, e_g4⟩ : ∃ g, uI r3 2 0 6 0 = g := ⟨_, rfl⟩
  rw [e_g4]
  have S_g4 : SI fp b m g4 := e_g4 ▸ (SI.u S_r3 rfl w134 w_3)
  have b5 : 0 ≤ (g4.1 2 0 6).toInt ∧ (g4.1 2 0 6).toInt ≤ 24 := (S_g4).1 2 0 6
  have l6 : (g4.1 2 0 6).toInt = (0 : Int32).toInt := by rw [← e_g4, uI_s']
  refine z_X2_powerUp_30 (m := m) _   ff_X2_powerUp_30  (fun u11 h12 S_h12 y7 y8 => ?_)  mFu 0 g4 S_g4 (by omega) (by omega) (by have := mFu_big; omega)
  try dsimp only
  exact ⟨_, rfl, S_h12⟩
def W_X11_begin : List Nat := [67, 68, 69, 70, 71, 72, 73, 134, 521, 522, 523, 524, 525, 526, 527, 646, 647, 710, 1792, 1856, 1920, 1984, 2112, 2176, 2240, 2304, 2368, 2432, 9998]
set_option maxHeartbeats 400000 in
theorem z_X11_begin {fp : Nat → Bool} {b : mH} {m : Nat} (x1 : Int32) (h : mH) (S : SI fp b m h) (ff : ∀ c ∈ W_X11_begin, fp c = false)  : ∃ r, f_X11_begin x1 h = some r ∧ SI fp b m r.2 := by
  have ff_X10_forget : ∀ c ∈ W_X10_forget, fp c = false := fun c hc => ff c ((by decide : ∀ c ∈ W_X10_forget, c ∈ W_X11_begin) c hc)
  have ff_X1_startAnew : ∀ c ∈ W_X1_startAnew, fp c = false := fun c hc => ff c ((by decide : ∀ c ∈ W_X1_startAnew, c ∈ W_X11_begin) c hc)
  have ff_X2_powerUp : ∀ c ∈ W_X2_powerUp, fp c = false := fun c hc => ff c ((by decide : ∀ c ∈ W_X2_powerUp, c ∈ W_X11_begin) c hc)
  have w710 : fp 710 = false := ff 710 (by decide)
  unfold f_X11_begin
  by_cases q1 : x1 < 1
  · rw [if_pos q1]
    have t2 : (1 : Int32).toInt = 1 := by decide
    first | have hx_3 := i32_hi (x1) | skip
    first | have hx_4 := i32_lo (x1) | skip
    first | have f5 : (x1 : Int32).toInt < (1 : Int32).toInt := Int32.lt_iff_toInt_lt.mp q1 | skip
    exact ⟨_, rfl, S⟩
  · rw [if_neg q1]
    have t6 : (1 : Int32).toInt = 1 := by decide
    first | have hx_7 := i32_hi (x1) | skip
    first | have hx_8 := i32_lo (x1) | skip
    first | have f9 : (1 : Int32).toInt ≤ (x1 : Int32).toInt := Int32.le_iff_toInt_le.mp (Int32.not_lt.mp q1) | skip
    by_cases q10 : x1 ≤ 8
    · rw [if_pos q10]
      have t11 : (8 : Int32).toInt = 8 := by decide
      first | have f12 : (x1 : Int32).toInt ≤ (8 : Int32).toInt := Int32.le_iff_toInt_le.mp q10 | skip
      obtain ⟨r3, e_r3, S_r3⟩ := z_X1_startAnew x1 h S ff_X1_startAnew (by omega)
      rw [e_r3, Option.bind_some]
      obtain ⟨r4, e_r4, S_r4⟩ := z_X10_forget  r3 S_r3 ff_X10_forget 
      rw [e_r4, Option.bind_some]
      obtain ⟨g13, e_g13⟩ : ∃ g, uI r4 11 0 6 0 = g := ⟨_, rfl⟩
      rw [e_g13]
      have S_g13 : SI fp b m g13 := e_g13 ▸ (SI.f S_r4 rfl w710 rfl)
      obtain ⟨r5, e_r5, S_r5⟩ := z_X2_powerUp  g13 S_g13 ff_X2_powerUp 
      rw [e_r5, Option.bind_some]
      exact ⟨_, rfl, S_r5⟩
    · rw [if_neg q10]
      have t14 : (8 : Int32).toInt = 8 := by decide
      first | have f15 : (8 : Int32).toInt < (x1 : Int32).toInt := Int32.lt_iff_toInt_lt.mp (Int32.not_le.mp q10) | skip
      exact ⟨_, rfl, S⟩
set_option maxHeartbeats 400000 in
theorem z_X11_fits {fp : Nat → Bool} {b : mH} {m : Nat} (x0 : Int32) (x1 : Int32) (h : mH) (S : SI fp b m h)   : ∃ r, f_X11_fits x0 x1 h = some r ∧ r.2 = h ∧ (r.1 = 0 ∨ r.1 = 1) := by
  unfold f_X11_fits
  by_cases q1 : x0 < 0
  · rw [if_pos q1]
    have t2 : (0 : Int32).toInt = 0 := by decide
    first | have hx_3 := i32_hi (x0) | skip
    first | have hx_4 := i32_lo (x0) | skip
    first | have f5 : (x0 : Int32).toInt < (0 : Int32).toInt := Int32.lt_iff_toInt_lt.mp q1 | skip
    exact ⟨_, rfl, rfl, (Or.inl rfl)⟩
  · rw [if_neg q1]
    have t6 : (0 : Int32).toInt = 0 := by decide
    first | have hx_7 := i32_hi (x0) | skip
    first | have hx_8 := i32_lo (x0) | skip
    first | have f9 : (0 : Int32).toInt ≤ (x0 : Int32).toInt := Int32.le_iff_toInt_le.mp (Int32.not_lt.mp q1) | skip
    by_cases q10 : x0 < (1 <<< (x1 &&& 31))
    · rw [if_pos q10]
      first | have hx_11 := i32_hi (1 <<< (x1 &&& 31)) | skip
      first | have hx_12 := i32_lo (1 <<< (x1 &&& 31)) | skip
      first | have f13 : (x0 : Int32).toInt < (1 <<< (x1 &&& 31) : Int32).toInt := Int32.lt_iff_toInt_lt.mp q10 | skip
      have t14 : (1 : Int32).toInt = 1 := by decide
      exact ⟨_, rfl, rfl, (Or.inr rfl)⟩
    · rw [if_neg q10]
      first | have hx_15 := i32_hi (1 <<< (x1 &&& 31)) | skip
      first | have hx_16 := i32_lo (1 <<< (x1 &&& 31)) | skip
      first | have f17 : (1 <<< (x1 &&& 31) : Int32).toInt ≤ (x0 : Int32).toInt := Int32.le_iff_toInt_le.mp (Int32.not_lt.mp q10) | skip
      exact ⟨_, rfl, rfl, (Or.inl rfl)⟩
set_option maxHeartbeats 400000 in
theorem z_X1_bitsOfAll_4 {fp : Nat → Bool} {b : mH} {m : Nat} {P : Int32 × mH → Prop} (k : Int32 → Int32 → Int32 → mH → Option (Int32 × mH))  (v1 : Int32) (h : mH) (S : SI fp b m h)  (hk : ∀ (v2 : Int32) (v3 : Int32), 0 ≤ v3.toInt → ∃ r, k v1 v2 v3 h = some r ∧ P r) : ∀ (n : Nat) (v2 : Int32) (v3 : Int32), 0 ≤ v3.toInt → 2147483648 - v3.toInt < n → ∃ r, f_X1_bitsOfAll_4 k  n v1 v2 v3 h = some r ∧ P r := by
  intro n
  induction n with
  | zero =>
    intro v2 v3 iv0 hm
    have hz := i32_hi v3
    omega
  | succ n ih =>
    intro v2 v3 iv0 hm
    rw [f_X1_bitsOfAll_4]
    by_cases q1 : v3 < (h.1 1 0 4)
    · rw [if_pos q1]
      have b2 : 0 ≤ (h.1 1 0 4).toInt ∧ (h.1 1 0 4).toInt ≤ 24 := (S).1 1 0 4
      first | have hx_3 := i32_hi (v3) | skip
      first | have hx_4 := i32_lo (v3) | skip
      first | have hx_5 := i32_hi (h.1 1 0 4) | skip
      first | have hx_6 := i32_lo (h.1 1 0 4) | skip
      first | have f7 : (v3 : Int32).toInt < (h.1 1 0 4 : Int32).toInt := Int32.lt_iff_toInt_lt.mp q1 | skip
      have q8 : mIn v3 24 = true := (mIn_bd (by omega) (by omega))
      rw [if_pos q8]
      by_cases q9 : (h.1 6 v3.toNatClampNeg 0) = v1
      · rw [if_pos q9]
        have b10 : 0 ≤ (h.1 6 v3.toNatClampNeg 0).toInt ∧ (h.1 6 v3.toNatClampNeg 0).toInt ≤ 7 := (S).1 6 v3.toNatClampNeg 0
        first | have hx_11 := i32_hi (h.1 6 v3.toNatClampNeg 0) | skip
        first | have hx_12 := i32_lo (h.1 6 v3.toNatClampNeg 0) | skip
        first | have hx_13 := i32_hi (v1) | skip
        first | have hx_14 := i32_lo (v1) | skip
        first | have f15 : (h.1 6 v3.toNatClampNeg 0 : Int32).toInt = (v1 : Int32).toInt := congrArg Int32.toInt q9 | skip
        have t16 : (1 : Int32).toInt = 1 := by decide
        first | have o17 : (v3 + 1 : Int32).toInt = (v3 : Int32).toInt + (1 : Int32).toInt := ti_add (by omega) (by omega) | skip
        exact ih (v2 ||| (h.1 6 v3.toNatClampNeg 6)) (v3 + 1) (by omega) (by omega)
      · rw [if_neg q9]
        have b18 : 0 ≤ (h.1 6 v3.toNatClampNeg 0).toInt ∧ (h.1 6 v3.toNatClampNeg 0).toInt ≤ 7 := (S).1 6 v3.toNatClampNeg 0
        first | have hx_19 := i32_hi (h.1 6 v3.toNatClampNeg 0) | skip
        first | have hx_20 := i32_lo (h.1 6 v3.toNatClampNeg 0) | skip
        first | have hx_21 := i32_hi (v1) | skip
        first | have hx_22 := i32_lo (v1) | skip
        first | have f23 : (h.1 6 v3.toNatClampNeg 0 : Int32).toInt ≠ (v1 : Int32).toInt := ti_ne q9 | skip
        have t24 : (1 : Int32).toInt = 1 := by decide
        first | have o25 : (v3 + 1 : Int32).toInt = (v3 : Int32).toInt + (1 : Int32).toInt := ti_add (by omega) (by omega) | skip
        exact ih v2 (v3 + 1) (by omega) (by omega)
    · rw [if_neg q1]
      have b26 : 0 ≤ (h.1 1 0 4).toInt ∧ (h.1 1 0 4).toInt ≤ 24 := (S).1 1 0 4
      first | have hx_27 := i32_hi (v3) | skip
      first | have hx_28 := i32_lo (v3) | skip
      first | have hx_29 := i32_hi (h.1 1 0 4) | skip
      first | have hx_30 := i32_lo (h.1 1 0 4) | skip
      first | have f31 : (h.1 1 0 4 : Int32).toInt ≤ (v3 : Int32).toInt := Int32.le_iff_toInt_le.mp (Int32.not_lt.mp q1) | skip
      exact hk v2 v3 iv0
set_option maxHeartbeats 400000 in
theorem z_X1_bitsOfAll {fp : Nat → Bool} {b : mH} {m : Nat} (x1 : Int32) (h : mH) (S : SI fp b m h)   : ∃ r, f_X1_bitsOfAll x1 h = some r ∧ r.2 = h := by
  unfold f_X1_bitsOfAll
  have t1 : (0 : Int32).toInt = 0 := by decide
  refine z_X1_bitsOfAll_4 _  x1 h S  (fun u5 u6 y2 => ?_)  mFu 0 0 (by omega) (by have := mFu_big; omega)
  try dsimp only
  exact ⟨_, rfl, rfl⟩
def W_X1_tellField : List Nat := [68, 72, 73, 384, 385, 386, 387, 388, 389, 390, 391, 392, 393]
set_option maxHeartbeats 400000 in
theorem z_X1_tellField {fp : Nat → Bool} {b : mH} {m : Nat} (x1 : Int32) (x2 : Int32) (x3 : Int32) (x4 : Int32) (x5 : Int32) (h : mH) (S : SI fp b m h) (ff : ∀ c ∈ W_X1_tellField, fp c = false) (pr0 : (h.1 1 0 4).toInt < 24) (pr1 : (0 ≤ x1.toInt ∧ x1.toInt < 8)) : ∃ r, f_X1_tellField x1 x2 x3 x4 x5 h = some r ∧ SI fp b m r.2 := by
  have w68 : fp 68 = false := ff 68 (by decide)
  have w72 : fp 72 = false := ff 72 (by decide)
  have w73 : fp 73 = false := ff 73 (by decide)
  have w384 : fp 384 = false := ff 384 (by decide)
  have w385 : fp 385 = false := ff 385 (by decide)
  have w386 : fp 386 = false := ff 386 (by decide)
  have w387 : fp 387 = false := ff 387 (by decide)
  have w388 : fp 388 = false := ff 388 (by decide)
  have w389 : fp 389 = false := ff 389 (by decide)
  have w390 : fp 390 = false := ff 390 (by decide)
  have w391 : fp 391 = false := ff 391 (by decide)
  have w392 : fp 392 = false := ff 392 (by decide)
  have w393 : fp 393 = false := ff 393 (by decide)
  unfold f_X1_tellField
  have b1 : 0 ≤ (h.1 1 0 4).toInt ∧ (h.1 1 0 4).toInt ≤ 24 := (S).1 1 0 4
  have q2 : mIn (h.1 1 0 4) 24 = true := (mIn_bd (by omega) (by omega))
  rw [if_pos q2]
  have w_3 : 0 ≤ (x1 : Int32).toInt ∧ (x1 : Int32).toInt ≤ 7 := by omega
  refine let_ex (fun h2 e_h2 => ?_)
  have S_h2 : SI fp b m h2 := e_h2 ▸ (SI.u S rfl w384 w_3)
  refine let_ex (fun h3 e_h3 => ?_)
  have S_h3 : SI fp b m h3 := e_h3 ▸ (SI.f S_h2 rfl w385 rfl)
  refine let_ex (fun h4 e_h4 => ?_)
  have S_h4 : SI fp b m h4 := e_h4 ▸ (SI.f S_h3 rfl w386 rfl)
  refine let_ex (fun h5 e_h5 => ?_)
  have S_h5 : SI fp b m h5 := e_h5 ▸ (SI.f S_h4 rfl w387 rfl)
  refine let_ex (fun h6 e_h6 => ?_)
  have S_h6 : SI fp b m h6 := e_h6 ▸ (SI.f S_h5 rfl w388 rfl)
  refine let_ex (fun h7 e_h7 => ?_)
  have S_h7 : SI fp b m h7 := e_h7 ▸ (SI.f S_h6 rfl w389 rfl)
  refine let_ex (fun h8 e_h8 => ?_)
  have S_h8 : SI fp b m h8 := e_h8 ▸ (SI.f S_h7 rfl w390 rfl)
  refine let_ex (fun h9 e_h9 => ?_)
  have S_h9 : SI fp b m h9 := e_h9 ▸ (SI.f S_h8 rfl w391 rfl)
  have t4 : ((-1) : Int32).toInt = (-1) := by decide
  have w_5 : -1 ≤ (-1 : Int32).toInt ∧ (-1 : Int32).toInt ≤ 23 := by omega
  refine let_ex (fun h10 e_h10 => ?_)
  have S_h10 : SI fp b m h10 := e_h10 ▸ (SI.u S_h9 rfl w392 w_5)
  refine let_ex (fun h11 e_h11 => ?_)
  have S_h11 : SI fp b m h11 := e_h11 ▸ (SI.f S_h10 rfl w393 rfl)
  refine let_ex (fun h12 e_h12 => ?_)
  have S_h12 : SI fp b m h12 := e_h12 ▸ (SI.f S_h11 rfl w72 rfl)
  have t6 : (0 : Int32).toInt = 0 := by decide
  have w_7 : 0 ≤ (0 : Int32).toInt ∧ (0 : Int32).toInt ≤ 1 := by omega
  refine let_ex (fun h13 e_h13 => ?_)
  have S_h13 : SI fp b m h13 := e_h13 ▸ (SI.u S_h12 rfl w73 w_7)
  have b8 : 0 ≤ (h13.1 1 0 4).toInt ∧ (h13.1 1 0 4).toInt ≤ 24 := (S_h13).1 1 0 4
  have l9 : (h13.1 1 0 4).toInt = (h12.1 1 0 4).toInt := by rw [← e_h13, uI_k _ rfl]
  have b10 : 0 ≤ (h12.1 1 0 4).toInt ∧ (h12.1 1 0 4).toInt ≤ 24 := (S_h12).1 1 0 4
  have l11 : (h12.1 1 0 4).toInt = (h11.1 1 0 4).toInt := by rw [← e_h12, uI_k _ rfl]
  have b12 : 0 ≤ (h11.1 1 0 4).toInt ∧ (h11.1 1 0 4).toInt ≤ 24 := (S_h11).1 1 0 4
  have l13 : (h11.1 1 0 4).toInt = (h10.1 1 0 4).toInt := by rw [← e_h11, uI_t _ rfl]
  have b14 : 0 ≤ (h10.1 1 0 4).toInt ∧ (h10.1 1 0 4).toInt ≤ 24 := (S_h10).1 1 0 4
  have l15 : (h10.1 1 0 4).toInt = (h9.1 1 0 4).toInt := by rw [← e_h10, uI_t _ rfl]
  have b16 : 0 ≤ (h9.1 1 0 4).toInt ∧ (h9.1 1 0 4).toInt ≤ 24 := (S_h9).1 1 0 4
  have l17 : (h9.1 1 0 4).toInt = (h8.1 1 0 4).toInt := by rw [← e_h9, uI_t _ rfl]
  have b18 : 0 ≤ (h8.1 1 0 4).toInt ∧ (h8.1 1 0 4).toInt ≤ 24 := (S_h8).1 1 0 4
  have l19 : (h8.1 1 0 4).toInt = (h7.1 1 0 4).toInt := by rw [← e_h8, uI_t _ rfl]
  have b20 : 0 ≤ (h7.1 1 0 4).toInt ∧ (h7.1 1 0 4).toInt ≤ 24 := (S_h7).1 1 0 4
  have l21 : (h7.1 1 0 4).toInt = (h6.1 1 0 4).toInt := by rw [← e_h7, uI_t _ rfl]
  have b22 : 0 ≤ (h6.1 1 0 4).toInt ∧ (h6.1 1 0 4).toInt ≤ 24 := (S_h6).1 1 0 4
  have l23 : (h6.1 1 0 4).toInt = (h5.1 1 0 4).toInt := by rw [← e_h6, uI_t _ rfl]
  have b24 : 0 ≤ (h5.1 1 0 4).toInt ∧ (h5.1 1 0 4).toInt ≤ 24 := (S_h5).1 1 0 4
  have l25 : (h5.1 1 0 4).toInt = (h4.1 1 0 4).toInt := by rw [← e_h5, uI_t _ rfl]
  have b26 : 0 ≤ (h4.1 1 0 4).toInt ∧ (h4.1 1 0 4).toInt ≤ 24 := (S_h4).1 1 0 4
  have l27 : (h4.1 1 0 4).toInt = (h3.1 1 0 4).toInt := by rw [← e_h4, uI_t _ rfl]
  have b28 : 0 ≤ (h3.1 1 0 4).toInt ∧ (h3.1 1 0 4).toInt ≤ 24 := (S_h3).1 1 0 4
  have l29 : (h3.1 1 0 4).toInt = (h2.1 1 0 4).toInt := by rw [← e_h3, uI_t _ rfl]
  have b30 : 0 ≤ (h2.1 1 0 4).toInt ∧ (h2.1 1 0 4).toInt ≤ 24 := (S_h2).1 1 0 4
  have l31 : (h2.1 1 0 4).toInt = (h.1 1 0 4).toInt := by rw [← e_h2, uI_t _ rfl]
  have t32 : (1 : Int32).toInt = 1 := by decide
  first | have o33 : ((h13.1 1 0 4) + 1 : Int32).toInt = (h13.1 1 0 4 : Int32).toInt + (1 : Int32).toInt := ti_add (by omega) (by omega) | skip
  have w_34 : 0 ≤ ((h13.1 1 0 4) + 1 : Int32).toInt ∧ ((h13.1 1 0 4) + 1 : Int32).toInt ≤ 24 := by omega
  refine let_ex (fun h14 e_h14 => ?_)
  have S_h14 : SI fp b m h14 := e_h14 ▸ (SI.u S_h13 rfl w68 w_34)
  exact ⟨_, rfl, S_h14⟩
def W_X11_field_j79 : List Nat := [68, 72, 73, 134, 384, 385, 386, 387, 388, 389, 390, 391, 392, 393, 521, 522, 523, 524, 525, 526, 527, 1792, 1856, 1920, 1984, 2112, 2176, 2240, 2304, 2368, 2432, 9998]
set_option maxHeartbeats 400000 in
theorem z_X11_field_j79 {fp : Nat → Bool} {b : mH} {m : Nat} (w1 : Int32) (w2 : Int32) (w3 : Int32) (w4 : Int32) (w5 : Int32) (h : mH) (S : SI fp b m h) (ff : ∀ c ∈ W_X11_field_j79, fp c = false) (pr0 : (0 ≤ w1.toInt ∧ w1.toInt < 8)) : ∃ r, f_X11_field_j79 w1 w2 w3 w4 w5 h = some r ∧ SI fp b m r.2 := by
  have ff_X1_tellField : ∀ c ∈ W_X1_tellField, fp c = false := fun c hc => ff c ((by decide : ∀ c ∈ W_X1_tellField, c ∈ W_X11_field_j79) c hc)
  have ff_X2_powerUp : ∀ c ∈ W_X2_powerUp, fp c = false := fun c hc => ff c ((by decide : ∀ c ∈ W_X2_powerUp, c ∈ W_X11_field_j79) c hc)
  unfold f_X11_field_j79
  obtain ⟨⟨r12v, r12h⟩, e_r12, (hh_r12 : r12h = h)⟩ := z_X1_bitsOfAll w1 h S  
  replace hh_r12 := hh_r12.symm
  subst hh_r12
  rw [e_r12, Option.bind_some]
  try dsimp only
  by_cases q1 : (r12v &&& (((1 <<< (w3 &&& 31)) - 1) <<< (w2 &&& 31))) = 0
  · rw [if_pos q1]
    have t2 : (0 : Int32).toInt = 0 := by decide
    first | have hx_3 := i32_hi (r12v &&& (((1 <<< (w3 &&& 31)) - 1) <<< (w2 &&& 31))) | skip
    first | have hx_4 := i32_lo (r12v &&& (((1 <<< (w3 &&& 31)) - 1) <<< (w2 &&& 31))) | skip
    first | have f5 : (r12v &&& (((1 <<< (w3 &&& 31)) - 1) <<< (w2 &&& 31)) : Int32).toInt = (0 : Int32).toInt := congrArg Int32.toInt q1 | skip
    by_cases q6 : (h.1 1 0 4) < 24
    · rw [if_pos q6]
      have b7 : 0 ≤ (h.1 1 0 4).toInt ∧ (h.1 1 0 4).toInt ≤ 24 := (S).1 1 0 4
      have t8 : (24 : Int32).toInt = 24 := by decide
      first | have hx_9 := i32_hi (h.1 1 0 4) | skip
      first | have hx_10 := i32_lo (h.1 1 0 4) | skip
      first | have f11 : (h.1 1 0 4 : Int32).toInt < (24 : Int32).toInt := Int32.lt_iff_toInt_lt.mp q6 | skip
      obtain ⟨r15, e_r15, S_r15⟩ := z_X1_tellField w1 w2 w3 w4 w5 h S ff_X1_tellField (by omega) pr0
      rw [e_r15, Option.bind_some]
      obtain ⟨r16, e_r16, S_r16⟩ := z_X2_powerUp  r15.2 S_r15 ff_X2_powerUp 
      rw [e_r16, Option.bind_some]
      exact ⟨_, rfl, S_r16⟩
    · rw [if_neg q6]
      have b12 : 0 ≤ (h.1 1 0 4).toInt ∧ (h.1 1 0 4).toInt ≤ 24 := (S).1 1 0 4
      have t13 : (24 : Int32).toInt = 24 := by decide
      first | have hx_14 := i32_hi (h.1 1 0 4) | skip
      first | have hx_15 := i32_lo (h.1 1 0 4) | skip
      first | have f16 : (24 : Int32).toInt ≤ (h.1 1 0 4 : Int32).toInt := Int32.le_iff_toInt_le.mp (Int32.not_lt.mp q6) | skip
      exact ⟨_, rfl, S⟩
  · rw [if_neg q1]
    have t17 : (0 : Int32).toInt = 0 := by decide
    first | have hx_18 := i32_hi (r12v &&& (((1 <<< (w3 &&& 31)) - 1) <<< (w2 &&& 31))) | skip
    first | have hx_19 := i32_lo (r12v &&& (((1 <<< (w3 &&& 31)) - 1) <<< (w2 &&& 31))) | skip
    first | have f20 : (r12v &&& (((1 <<< (w3 &&& 31)) - 1) <<< (w2 &&& 31)) : Int32).toInt ≠ (0 : Int32).toInt := ti_ne q1 | skip
    exact ⟨_, rfl, S⟩
set_option maxHeartbeats 400000 in
theorem z_X1_hasRegister {fp : Nat → Bool} {b : mH} {m : Nat} (x1 : Int32) (h : mH) (S : SI fp b m h)   : ∃ r, f_X1_hasRegister x1 h = some r ∧ r.2 = h ∧ (r.1 = 0 ∨ r.1 = 1) ∧ (r.1.toInt = 0 ∨ (0 ≤ x1.toInt ∧ x1.toInt < 8)) := by
  unfold f_X1_hasRegister
  by_cases q1 : x1 < 0
  · rw [if_pos q1]
    have t2 : (0 : Int32).toInt = 0 := by decide
    first | have hx_3 := i32_hi (x1) | skip
    first | have hx_4 := i32_lo (x1) | skip
    first | have f5 : (x1 : Int32).toInt < (0 : Int32).toInt := Int32.lt_iff_toInt_lt.mp q1 | skip
    have pp6 : ((0 : Int32).toInt = 0 ∨ (0 ≤ x1.toInt ∧ x1.toInt < 8)) := by omega
    exact ⟨_, rfl, rfl, (Or.inl rfl), pp6⟩
  · rw [if_neg q1]
    have t7 : (0 : Int32).toInt = 0 := by decide
    first | have hx_8 := i32_hi (x1) | skip
    first | have hx_9 := i32_lo (x1) | skip
    first | have f10 : (0 : Int32).toInt ≤ (x1 : Int32).toInt := Int32.le_iff_toInt_le.mp (Int32.not_lt.mp q1) | skip
    by_cases q11 : x1 < (h.1 1 0 3)
    · rw [if_pos q11]
      have b12 : 1 ≤ (h.1 1 0 3).toInt ∧ (h.1 1 0 3).toInt ≤ 8 := (S).1 1 0 3
      first | have hx_13 := i32_hi (h.1 1 0 3) | skip
      first | have hx_14 := i32_lo (h.1 1 0 3) | skip
      first | have f15 : (x1 : Int32).toInt < (h.1 1 0 3 : Int32).toInt := Int32.lt_iff_toInt_lt.mp q11 | skip
      have t16 : (1 : Int32).toInt = 1 := by decide
      have pp17 : ((1 : Int32).toInt = 0 ∨ (0 ≤ x1.toInt ∧ x1.toInt < 8)) := by omega
      exact ⟨_, rfl, rfl, (Or.inr rfl), pp17⟩
    · rw [if_neg q11]
      have b18 : 1 ≤ (h.1 1 0 3).toInt ∧ (h.1 1 0 3).toInt ≤ 8 := (S).1 1 0 3
      first | have hx_19 := i32_hi (h.1 1 0 3) | skip
      first | have hx_20 := i32_lo (h.1 1 0 3) | skip
      first | have f21 : (h.1 1 0 3 : Int32).toInt ≤ (x1 : Int32).toInt := Int32.le_iff_toInt_le.mp (Int32.not_lt.mp q11) | skip
      have pp22 : ((0 : Int32).toInt = 0 ∨ (0 ≤ x1.toInt ∧ x1.toInt < 8)) := by omega
      exact ⟨_, rfl, rfl, (Or.inl rfl), pp22⟩
def W_X11_field : List Nat := [68, 72, 73, 134, 384, 385, 386, 387, 388, 389, 390, 391, 392, 393, 521, 522, 523, 524, 525, 526, 527, 1792, 1856, 1920, 1984, 2112, 2176, 2240, 2304, 2368, 2432, 9998]
set_option maxHeartbeats 400000 in
theorem z_X11_field {fp : Nat → Bool} {b : mH} {m : Nat} (x1 : Int32) (x2 : Int32) (x3 : Int32) (x4 : Int32) (x5 : Int32) (h : mH) (S : SI fp b m h) (ff : ∀ c ∈ W_X11_field, fp c = false)  : ∃ r, f_X11_field x1 x2 x3 x4 x5 h = some r ∧ SI fp b m r.2 := by
  have ff_X11_field_j79 : ∀ c ∈ W_X11_field_j79, fp c = false := fun c hc => ff c ((by decide : ∀ c ∈ W_X11_field_j79, c ∈ W_X11_field) c hc)
  unfold f_X11_field
  obtain ⟨⟨r1v, r1h⟩, e_r1, (hh_r1 : r1h = h), p_r1_0, p_r1_1⟩ := z_X1_hasRegister x1 h S  
  replace hh_r1 := hh_r1.symm
  subst hh_r1
  dsimp only at p_r1_0 p_r1_1
  have bb_r1 := bool_bd p_r1_0
  rw [e_r1, Option.bind_some]
  try dsimp only
  by_cases q1 : r1v = 0
  · rw [if_pos q1]
    have t2 : (0 : Int32).toInt = 0 := by decide
    first | have hx_3 := i32_hi (r1v) | skip
    first | have hx_4 := i32_lo (r1v) | skip
    first | have f5 : (r1v : Int32).toInt = (0 : Int32).toInt := congrArg Int32.toInt q1 | skip
    exact ⟨_, rfl, S⟩
  · rw [if_neg q1]
    have t6 : (0 : Int32).toInt = 0 := by decide
    first | have hx_7 := i32_hi (r1v) | skip
    first | have hx_8 := i32_lo (r1v) | skip
    first | have f9 : (r1v : Int32).toInt ≠ (0 : Int32).toInt := ti_ne q1 | skip
    by_cases q10 : x4 < 0
    · rw [if_pos q10]
      first | have hx_11 := i32_hi (x4) | skip
      first | have hx_12 := i32_lo (x4) | skip
      first | have f13 : (x4 : Int32).toInt < (0 : Int32).toInt := Int32.lt_iff_toInt_lt.mp q10 | skip
      exact ⟨_, rfl, S⟩
    · rw [if_neg q10]
      first | have hx_14 := i32_hi (x4) | skip
      first | have hx_15 := i32_lo (x4) | skip
      first | have f16 : (0 : Int32).toInt ≤ (x4 : Int32).toInt := Int32.le_iff_toInt_le.mp (Int32.not_lt.mp q10) | skip
      by_cases q17 : x4 ≤ 6
      · rw [if_pos q17]
        have t18 : (6 : Int32).toInt = 6 := by decide
        first | have f19 : (x4 : Int32).toInt ≤ (6 : Int32).toInt := Int32.le_iff_toInt_le.mp q17 | skip
        by_cases q20 : x2 < 0
        · rw [if_pos q20]
          first | have hx_21 := i32_hi (x2) | skip
          first | have hx_22 := i32_lo (x2) | skip
          first | have f23 : (x2 : Int32).toInt < (0 : Int32).toInt := Int32.lt_iff_toInt_lt.mp q20 | skip
          exact ⟨_, rfl, S⟩
        · rw [if_neg q20]
          first | have hx_24 := i32_hi (x2) | skip
          first | have hx_25 := i32_lo (x2) | skip
          first | have f26 : (0 : Int32).toInt ≤ (x2 : Int32).toInt := Int32.le_iff_toInt_le.mp (Int32.not_lt.mp q20) | skip
          by_cases q27 : x3 < 1
          · rw [if_pos q27]
            have t28 : (1 : Int32).toInt = 1 := by decide
            first | have hx_29 := i32_hi (x3) | skip
            first | have hx_30 := i32_lo (x3) | skip
            first | have f31 : (x3 : Int32).toInt < (1 : Int32).toInt := Int32.lt_iff_toInt_lt.mp q27 | skip
            exact ⟨_, rfl, S⟩
          · rw [if_neg q27]
            have t32 : (1 : Int32).toInt = 1 := by decide
            first | have hx_33 := i32_hi (x3) | skip
            first | have hx_34 := i32_lo (x3) | skip
            first | have f35 : (1 : Int32).toInt ≤ (x3 : Int32).toInt := Int32.le_iff_toInt_le.mp (Int32.not_lt.mp q27) | skip
            by_cases q36 : x3 ≤ 8
            · rw [if_pos q36]
              have t37 : (8 : Int32).toInt = 8 := by decide
              first | have f38 : (x3 : Int32).toInt ≤ (8 : Int32).toInt := Int32.le_iff_toInt_le.mp q36 | skip
              by_cases q39 : x2 ≤ (16 - x3)
              · rw [if_pos q39]
                have t40 : (16 : Int32).toInt = 16 := by decide
                first | have o41 : (16 - x3 : Int32).toInt = (16 : Int32).toInt - (x3 : Int32).toInt := ti_sub (by omega) (by omega) | skip
                first | have hx_42 := i32_hi (16 - x3) | skip
                first | have hx_43 := i32_lo (16 - x3) | skip
                first | have f44 : (x2 : Int32).toInt ≤ (16 - x3 : Int32).toInt := Int32.le_iff_toInt_le.mp q39 | skip
                obtain ⟨⟨r9v, r9h⟩, e_r9, (hh_r9 : r9h = h), p_r9_0⟩ := z_X11_fits x5 x3 h S  
                replace hh_r9 := hh_r9.symm
                subst hh_r9
                dsimp only at p_r9_0
                have bb_r9 := bool_bd p_r9_0
                rw [e_r9, Option.bind_some]
                try dsimp only
                by_cases q45 : r9v = 0
                · rw [if_pos q45]
                  first | have hx_46 := i32_hi (r9v) | skip
                  first | have hx_47 := i32_lo (r9v) | skip
                  first | have f48 : (r9v : Int32).toInt = (0 : Int32).toInt := congrArg Int32.toInt q45 | skip
                  exact ⟨_, rfl, S⟩
                · rw [if_neg q45]
                  first | have hx_49 := i32_hi (r9v) | skip
                  first | have hx_50 := i32_lo (r9v) | skip
                  first | have f51 : (r9v : Int32).toInt ≠ (0 : Int32).toInt := ti_ne q45 | skip
                  by_cases q52 : x5 = 0
                  · rw [if_pos q52]
                    first | have hx_53 := i32_hi (x5) | skip
                    first | have hx_54 := i32_lo (x5) | skip
                    first | have f55 : (x5 : Int32).toInt = (0 : Int32).toInt := congrArg Int32.toInt q52 | skip
                    obtain ⟨rr56, e_rr56, S_rr56⟩ := z_X11_field_j79 x1 x2 x3 x4 x5 h S ff_X11_field_j79 (by omega)
                    rw [e_rr56]
                    exact ⟨_, rfl, S_rr56⟩
                  · rw [if_neg q52]
                    first | have hx_57 := i32_hi (x5) | skip
                    first | have hx_58 := i32_lo (x5) | skip
                    first | have f59 : (x5 : Int32).toInt ≠ (0 : Int32).toInt := ti_ne q52 | skip
                    by_cases q60 : x4 = 4
                    · rw [if_pos q60]
                      have t61 : (4 : Int32).toInt = 4 := by decide
                      first | have f62 : (x4 : Int32).toInt = (4 : Int32).toInt := congrArg Int32.toInt q60 | skip
                      exact ⟨_, rfl, S⟩
                    · rw [if_neg q60]
                      have t63 : (4 : Int32).toInt = 4 := by decide
                      first | have f64 : (x4 : Int32).toInt ≠ (4 : Int32).toInt := ti_ne q60 | skip
                      by_cases q65 : x4 = 6
                      · rw [if_pos q65]
                        first | have f66 : (x4 : Int32).toInt = (6 : Int32).toInt := congrArg Int32.toInt q65 | skip
                        exact ⟨_, rfl, S⟩
                      · rw [if_neg q65]
                        first | have f67 : (x4 : Int32).toInt ≠ (6 : Int32).toInt := ti_ne q65 | skip
                        obtain ⟨rr68, e_rr68, S_rr68⟩ := z_X11_field_j79 x1 x2 x3 x4 x5 h S ff_X11_field_j79 (by omega)
                        rw [e_rr68]
                        exact ⟨_, rfl, S_rr68⟩
              · rw [if_neg q39]
                have t69 : (16 : Int32).toInt = 16 := by decide
                first | have o70 : (16 - x3 : Int32).toInt = (16 : Int32).toInt - (x3 : Int32).toInt := ti_sub (by omega) (by omega) | skip
                first | have hx_71 := i32_hi (16 - x3) | skip
                first | have hx_72 := i32_lo (16 - x3) | skip
                first | have f73 : (16 - x3 : Int32).toInt < (x2 : Int32).toInt := Int32.lt_iff_toInt_lt.mp (Int32.not_le.mp q39) | skip
                exact ⟨_, rfl, S⟩
            · rw [if_neg q36]
              have t74 : (8 : Int32).toInt = 8 := by decide
              first | have f75 : (8 : Int32).toInt < (x3 : Int32).toInt := Int32.lt_iff_toInt_lt.mp (Int32.not_le.mp q36) | skip
              exact ⟨_, rfl, S⟩
      · rw [if_neg q17]
        have t76 : (6 : Int32).toInt = 6 := by decide
        first | have f77 : (6 : Int32).toInt < (x4 : Int32).toInt := Int32.lt_iff_toInt_lt.mp (Int32.not_le.mp q17) | skip
        exact ⟨_, rfl, S⟩
def W_X1_changePeriod : List Nat := [72, 391]
set_option maxHeartbeats 400000 in
theorem z_X1_changePeriod {fp : Nat → Bool} {b : mH} {m : Nat} (x1 : Int32) (x2 : Int32) (h : mH) (S : SI fp b m h) (ff : ∀ c ∈ W_X1_changePeriod, fp c = false) (pr0 : (0 ≤ x1.toInt ∧ x1.toInt < 24)) : ∃ r, f_X1_changePeriod x1 x2 h = some r ∧ SI fp b m r.2 := by
  have w72 : fp 72 = false := ff 72 (by decide)
  have w391 : fp 391 = false := ff 391 (by decide)
  unfold f_X1_changePeriod
  have q1 : mIn x1 24 = true := (mIn_bd (by omega) (by omega))
  rw [if_pos q1]
  refine let_ex (fun h2 e_h2 => ?_)
  have S_h2 : SI fp b m h2 := e_h2 ▸ (SI.f S rfl w391 rfl)
  exact ⟨_, rfl, (SI.f S_h2 rfl w72 rfl)⟩
set_option maxHeartbeats 400000 in
theorem z_X1_hasField {fp : Nat → Bool} {b : mH} {m : Nat} (x1 : Int32) (h : mH) (S : SI fp b m h)   : ∃ r, f_X1_hasField x1 h = some r ∧ r.2 = h ∧ (r.1 = 0 ∨ r.1 = 1) ∧ (r.1.toInt = 0 ∨ (0 ≤ x1.toInt ∧ x1.toInt < 24)) := by
  unfold f_X1_hasField
  by_cases q1 : x1 < 0
  · rw [if_pos q1]
    have t2 : (0 : Int32).toInt = 0 := by decide
    first | have hx_3 := i32_hi (x1) | skip
    first | have hx_4 := i32_lo (x1) | skip
    first | have f5 : (x1 : Int32).toInt < (0 : Int32).toInt := Int32.lt_iff_toInt_lt.mp q1 | skip
    have pp6 : ((0 : Int32).toInt = 0 ∨ (0 ≤ x1.toInt ∧ x1.toInt < 24)) := by omega
    exact ⟨_, rfl, rfl, (Or.inl rfl), pp6⟩
  · rw [if_neg q1]
    have t7 : (0 : Int32).toInt = 0 := by decide
    first | have hx_8 := i32_hi (x1) | skip
    first | have hx_9 := i32_lo (x1) | skip
    first | have f10 : (0 : Int32).toInt ≤ (x1 : Int32).toInt := Int32.le_iff_toInt_le.mp (Int32.not_lt.mp q1) | skip
    by_cases q11 : x1 < (h.1 1 0 4)
    · rw [if_pos q11]
      have b12 : 0 ≤ (h.1 1 0 4).toInt ∧ (h.1 1 0 4).toInt ≤ 24 := (S).1 1 0 4
      first | have hx_13 := i32_hi (h.1 1 0 4) | skip
      first | have hx_14 := i32_lo (h.1 1 0 4) | skip
      first | have f15 : (x1 : Int32).toInt < (h.1 1 0 4 : Int32).toInt := Int32.lt_iff_toInt_lt.mp q11 | skip
      have t16 : (1 : Int32).toInt = 1 := by decide
      have pp17 : ((1 : Int32).toInt = 0 ∨ (0 ≤ x1.toInt ∧ x1.toInt < 24)) := by omega
      exact ⟨_, rfl, rfl, (Or.inr rfl), pp17⟩
    · rw [if_neg q11]
      have b18 : 0 ≤ (h.1 1 0 4).toInt ∧ (h.1 1 0 4).toInt ≤ 24 := (S).1 1 0 4
      first | have hx_19 := i32_hi (h.1 1 0 4) | skip
      first | have hx_20 := i32_lo (h.1 1 0 4) | skip
      first | have f21 : (h.1 1 0 4 : Int32).toInt ≤ (x1 : Int32).toInt := Int32.le_iff_toInt_le.mp (Int32.not_lt.mp q11) | skip
      have pp22 : ((0 : Int32).toInt = 0 ∨ (0 ≤ x1.toInt ∧ x1.toInt < 24)) := by omega
      exact ⟨_, rfl, rfl, (Or.inl rfl), pp22⟩
def W_X11_period : List Nat := [72, 134, 391, 521, 522, 523, 524, 525, 526, 527, 1792, 1856, 1920, 1984, 2112, 2176, 2240, 2304, 2368, 2432, 9998]
set_option maxHeartbeats 400000 in
theorem z_X11_period {fp : Nat → Bool} {b : mH} {m : Nat} (x1 : Int32) (x2 : Int32) (h : mH) (S : SI fp b m h) (ff : ∀ c ∈ W_X11_period, fp c = false)  : ∃ r, f_X11_period x1 x2 h = some r ∧ SI fp b m r.2 := by
  have ff_X1_changePeriod : ∀ c ∈ W_X1_changePeriod, fp c = false := fun c hc => ff c ((by decide : ∀ c ∈ W_X1_changePeriod, c ∈ W_X11_period) c hc)
  have ff_X2_powerUp : ∀ c ∈ W_X2_powerUp, fp c = false := fun c hc => ff c ((by decide : ∀ c ∈ W_X2_powerUp, c ∈ W_X11_period) c hc)
  unfold f_X11_period
  obtain ⟨⟨r1v, r1h⟩, e_r1, (hh_r1 : r1h = h), p_r1_0, p_r1_1⟩ := z_X1_hasField x1 h S  
  replace hh_r1 := hh_r1.symm
  subst hh_r1
  dsimp only at p_r1_0 p_r1_1
  have bb_r1 := bool_bd p_r1_0
  rw [e_r1, Option.bind_some]
  try dsimp only
  by_cases q1 : r1v = 0
  · rw [if_pos q1]
    have t2 : (0 : Int32).toInt = 0 := by decide
    first | have hx_3 := i32_hi (r1v) | skip
    first | have hx_4 := i32_lo (r1v) | skip
    first | have f5 : (r1v : Int32).toInt = (0 : Int32).toInt := congrArg Int32.toInt q1 | skip
    exact ⟨_, rfl, S⟩
  · rw [if_neg q1]
    have t6 : (0 : Int32).toInt = 0 := by decide
    first | have hx_7 := i32_hi (r1v) | skip
    first | have hx_8 := i32_lo (r1v) | skip
    first | have f9 : (r1v : Int32).toInt ≠ (0 : Int32).toInt := ti_ne q1 | skip
    by_cases q10 : x2 < 1
    · rw [if_pos q10]
      have t11 : (1 : Int32).toInt = 1 := by decide
      first | have hx_12 := i32_hi (x2) | skip
      first | have hx_13 := i32_lo (x2) | skip
      first | have f14 : (x2 : Int32).toInt < (1 : Int32).toInt := Int32.lt_iff_toInt_lt.mp q10 | skip
      exact ⟨_, rfl, S⟩
    · rw [if_neg q10]
      have t15 : (1 : Int32).toInt = 1 := by decide
      first | have hx_16 := i32_hi (x2) | skip
      first | have hx_17 := i32_lo (x2) | skip
      first | have f18 : (1 : Int32).toInt ≤ (x2 : Int32).toInt := Int32.le_iff_toInt_le.mp (Int32.not_lt.mp q10) | skip
      by_cases q19 : x2 ≤ 9
      · rw [if_pos q19]
        have t20 : (9 : Int32).toInt = 9 := by decide
        first | have f21 : (x2 : Int32).toInt ≤ (9 : Int32).toInt := Int32.le_iff_toInt_le.mp q19 | skip
        have q22 : mIn x1 24 = true := (mIn_bd (by omega) (by omega))
        rw [if_pos q22]
        by_cases q23 : (h.1 6 x1.toNatClampNeg 3) = 4
        · rw [if_pos q23]
          have t24 : (4 : Int32).toInt = 4 := by decide
          first | have hx_25 := i32_hi (h.1 6 x1.toNatClampNeg 3) | skip
          first | have hx_26 := i32_lo (h.1 6 x1.toNatClampNeg 3) | skip
          first | have f27 : (h.1 6 x1.toNatClampNeg 3 : Int32).toInt = (4 : Int32).toInt := congrArg Int32.toInt q23 | skip
          obtain ⟨r7, e_r7, S_r7⟩ := z_X1_changePeriod x1 x2 h S ff_X1_changePeriod (by omega)
          rw [e_r7, Option.bind_some]
          obtain ⟨r8, e_r8, S_r8⟩ := z_X2_powerUp  r7.2 S_r7 ff_X2_powerUp 
          rw [e_r8, Option.bind_some]
          exact ⟨_, rfl, S_r8⟩
        · rw [if_neg q23]
          have t28 : (4 : Int32).toInt = 4 := by decide
          first | have hx_29 := i32_hi (h.1 6 x1.toNatClampNeg 3) | skip
          first | have hx_30 := i32_lo (h.1 6 x1.toNatClampNeg 3) | skip
          first | have f31 : (h.1 6 x1.toNatClampNeg 3 : Int32).toInt ≠ (4 : Int32).toInt := ti_ne q23 | skip
          exact ⟨_, rfl, S⟩
      · rw [if_neg q19]
        have t32 : (9 : Int32).toInt = 9 := by decide
        first | have f33 : (9 : Int32).toInt < (x2 : Int32).toInt := Int32.lt_iff_toInt_lt.mp (Int32.not_le.mp q19) | skip
        exact ⟨_, rfl, S⟩
def W_X1_changeDone : List Nat := [72, 392]
set_option maxHeartbeats 400000 in
theorem z_X1_changeDone {fp : Nat → Bool} {b : mH} {m : Nat} (x1 : Int32) (x2 : Int32) (h : mH) (S : SI fp b m h) (ff : ∀ c ∈ W_X1_changeDone, fp c = false) (pr0 : (0 ≤ x1.toInt ∧ x1.toInt < 24)) (pr1 : (-1 ≤ x2.toInt ∧ x2.toInt ≤ 23)) : ∃ r, f_X1_changeDone x1 x2 h = some r ∧ SI fp b m r.2 := by
  have w72 : fp 72 = false := ff 72 (by decide)
  have w392 : fp 392 = false := ff 392 (by decide)
  unfold f_X1_changeDone
  have q1 : mIn x1 24 = true := (mIn_bd (by omega) (by omega))
  rw [if_pos q1]
  have w_2 : -1 ≤ (x2 : Int32).toInt ∧ (x2 : Int32).toInt ≤ 23 := by omega
  refine let_ex (fun h2 e_h2 => ?_)
  have S_h2 : SI fp b m h2 := e_h2 ▸ (SI.u S rfl w392 w_2)
  exact ⟨_, rfl, (SI.f S_h2 rfl w72 rfl)⟩
def W_X11_done_j29 : List Nat := [72, 134, 392, 521, 522, 523, 524, 525, 526, 527, 1792, 1856, 1920, 1984, 2112, 2176, 2240, 2304, 2368, 2432, 9998]
set_option maxHeartbeats 400000 in
theorem z_X11_done_j29 {fp : Nat → Bool} {b : mH} {m : Nat} (w1 : Int32) (w2 : Int32) (h : mH) (S : SI fp b m h) (ff : ∀ c ∈ W_X11_done_j29, fp c = false) (pr0 : (0 ≤ w1.toInt ∧ w1.toInt < 24)) (pr1 : (-1 ≤ w2.toInt ∧ w2.toInt ≤ 23)) : ∃ r, f_X11_done_j29 w1 w2 h = some r ∧ SI fp b m r.2 := by
  have ff_X1_changeDone : ∀ c ∈ W_X1_changeDone, fp c = false := fun c hc => ff c ((by decide : ∀ c ∈ W_X1_changeDone, c ∈ W_X11_done_j29) c hc)
  have ff_X2_powerUp : ∀ c ∈ W_X2_powerUp, fp c = false := fun c hc => ff c ((by decide : ∀ c ∈ W_X2_powerUp, c ∈ W_X11_done_j29) c hc)
  unfold f_X11_done_j29
  have q1 : mIn w1 24 = true := (mIn_bd (by omega) (by omega))
  rw [if_pos q1]
  by_cases q2 : (h.1 6 w1.toNatClampNeg 3) = 4
  · rw [if_pos q2]
    have t3 : (4 : Int32).toInt = 4 := by decide
    first | have hx_4 := i32_hi (h.1 6 w1.toNatClampNeg 3) | skip
    first | have hx_5 := i32_lo (h.1 6 w1.toNatClampNeg 3) | skip
    first | have f6 : (h.1 6 w1.toNatClampNeg 3 : Int32).toInt = (4 : Int32).toInt := congrArg Int32.toInt q2 | skip
    by_cases q7 : w2 = (-1)
    · rw [if_pos q7]
      have t8 : ((-1) : Int32).toInt = (-1) := by decide
      first | have hx_9 := i32_hi (w2) | skip
      first | have hx_10 := i32_lo (w2) | skip
      first | have f11 : (w2 : Int32).toInt = (-1 : Int32).toInt := congrArg Int32.toInt q7 | skip
      obtain ⟨r7, e_r7, S_r7⟩ := z_X1_changeDone w1 w2 h S ff_X1_changeDone pr0 pr1
      rw [e_r7, Option.bind_some]
      obtain ⟨r8, e_r8, S_r8⟩ := z_X2_powerUp  r7.2 S_r7 ff_X2_powerUp 
      rw [e_r8, Option.bind_some]
      exact ⟨_, rfl, S_r8⟩
    · rw [if_neg q7]
      have t12 : ((-1) : Int32).toInt = (-1) := by decide
      first | have hx_13 := i32_hi (w2) | skip
      first | have hx_14 := i32_lo (w2) | skip
      first | have f15 : (w2 : Int32).toInt ≠ (-1 : Int32).toInt := ti_ne q7 | skip
      have q16 : mIn w2 24 = true := (mIn_bd (by omega) (by omega))
      rw [if_pos q16]
      by_cases q17 : (h.1 6 w2.toNatClampNeg 3) = 1
      · rw [if_pos q17]
        have t18 : (1 : Int32).toInt = 1 := by decide
        first | have hx_19 := i32_hi (h.1 6 w2.toNatClampNeg 3) | skip
        first | have hx_20 := i32_lo (h.1 6 w2.toNatClampNeg 3) | skip
        first | have f21 : (h.1 6 w2.toNatClampNeg 3 : Int32).toInt = (1 : Int32).toInt := congrArg Int32.toInt q17 | skip
        obtain ⟨r11, e_r11, S_r11⟩ := z_X1_changeDone w1 w2 h S ff_X1_changeDone pr0 pr1
        rw [e_r11, Option.bind_some]
        obtain ⟨r12, e_r12, S_r12⟩ := z_X2_powerUp  r11.2 S_r11 ff_X2_powerUp 
        rw [e_r12, Option.bind_some]
        exact ⟨_, rfl, S_r12⟩
      · rw [if_neg q17]
        have t22 : (1 : Int32).toInt = 1 := by decide
        first | have hx_23 := i32_hi (h.1 6 w2.toNatClampNeg 3) | skip
        first | have hx_24 := i32_lo (h.1 6 w2.toNatClampNeg 3) | skip
        first | have f25 : (h.1 6 w2.toNatClampNeg 3 : Int32).toInt ≠ (1 : Int32).toInt := ti_ne q17 | skip
        by_cases q26 : (h.1 6 w2.toNatClampNeg 3) = 2
        · rw [if_pos q26]
          have t27 : (2 : Int32).toInt = 2 := by decide
          first | have f28 : (h.1 6 w2.toNatClampNeg 3 : Int32).toInt = (2 : Int32).toInt := congrArg Int32.toInt q26 | skip
          obtain ⟨r14, e_r14, S_r14⟩ := z_X1_changeDone w1 w2 h S ff_X1_changeDone pr0 pr1
          rw [e_r14, Option.bind_some]
          obtain ⟨r15, e_r15, S_r15⟩ := z_X2_powerUp  r14.2 S_r14 ff_X2_powerUp 
          rw [e_r15, Option.bind_some]
          exact ⟨_, rfl, S_r15⟩
        · rw [if_neg q26]
          have t29 : (2 : Int32).toInt = 2 := by decide
          first | have f30 : (h.1 6 w2.toNatClampNeg 3 : Int32).toInt ≠ (2 : Int32).toInt := ti_ne q26 | skip
          exact ⟨_, rfl, S⟩
  · rw [if_neg q2]
    have t31 : (4 : Int32).toInt = 4 := by decide
    first | have hx_32 := i32_hi (h.1 6 w1.toNatClampNeg 3) | skip
    first | have hx_33 := i32_lo (h.1 6 w1.toNatClampNeg 3) | skip
    first | have f34 : (h.1 6 w1.toNatClampNeg 3 : Int32).toInt ≠ (4 : Int32).toInt := ti_ne q2 | skip
    exact ⟨_, rfl, S⟩
def W_X11_done : List Nat := [72, 134, 392, 521, 522, 523, 524, 525, 526, 527, 1792, 1856, 1920, 1984, 2112, 2176, 2240, 2304, 2368, 2432, 9998]
set_option maxHeartbeats 400000 in
theorem z_X11_done {fp : Nat → Bool} {b : mH} {m : Nat} (x1 : Int32) (x2 : Int32) (h : mH) (S : SI fp b m h) (ff : ∀ c ∈ W_X11_done, fp c = false)  : ∃ r, f_X11_done x1 x2 h = some r ∧ SI fp b m r.2 := by
  have ff_X11_done_j29 : ∀ c ∈ W_X11_done_j29, fp c = false := fun c hc => ff c ((by decide : ∀ c ∈ W_X11_done_j29, c ∈ W_X11_done) c hc)
  unfold f_X11_done
  obtain ⟨⟨r1v, r1h⟩, e_r1, (hh_r1 : r1h = h), p_r1_0, p_r1_1⟩ := z_X1_hasField x1 h S  
  replace hh_r1 := hh_r1.symm
  subst hh_r1
  dsimp only at p_r1_0 p_r1_1
  have bb_r1 := bool_bd p_r1_0
  rw [e_r1, Option.bind_some]
  try dsimp only
  by_cases q1 : r1v = 0
  · rw [if_pos q1]
    have t2 : (0 : Int32).toInt = 0 := by decide
    first | have hx_3 := i32_hi (r1v) | skip
    first | have hx_4 := i32_lo (r1v) | skip
    first | have f5 : (r1v : Int32).toInt = (0 : Int32).toInt := congrArg Int32.toInt q1 | skip
    exact ⟨_, rfl, S⟩
  · rw [if_neg q1]
    have t6 : (0 : Int32).toInt = 0 := by decide
    first | have hx_7 := i32_hi (r1v) | skip
    first | have hx_8 := i32_lo (r1v) | skip
    first | have f9 : (r1v : Int32).toInt ≠ (0 : Int32).toInt := ti_ne q1 | skip
    by_cases q10 : x2 = (-1)
    · rw [if_pos q10]
      have t11 : ((-1) : Int32).toInt = (-1) := by decide
      first | have hx_12 := i32_hi (x2) | skip
      first | have hx_13 := i32_lo (x2) | skip
      first | have f14 : (x2 : Int32).toInt = (-1 : Int32).toInt := congrArg Int32.toInt q10 | skip
      obtain ⟨rr15, e_rr15, S_rr15⟩ := z_X11_done_j29 x1 x2 h S ff_X11_done_j29 (by omega) (by omega)
      rw [e_rr15]
      exact ⟨_, rfl, S_rr15⟩
    · rw [if_neg q10]
      have t16 : ((-1) : Int32).toInt = (-1) := by decide
      first | have hx_17 := i32_hi (x2) | skip
      first | have hx_18 := i32_lo (x2) | skip
      first | have f19 : (x2 : Int32).toInt ≠ (-1 : Int32).toInt := ti_ne q10 | skip
      obtain ⟨⟨r16v, r16h⟩, e_r16, (hh_r16 : r16h = h), p_r16_0, p_r16_1⟩ := z_X1_hasField x2 h S  
      replace hh_r16 := hh_r16.symm
      subst hh_r16
      dsimp only at p_r16_0 p_r16_1
      have bb_r16 := bool_bd p_r16_0
      rw [e_r16, Option.bind_some]
      try dsimp only
      by_cases q20 : r16v = 0
      · rw [if_pos q20]
        first | have hx_21 := i32_hi (r16v) | skip
        first | have hx_22 := i32_lo (r16v) | skip
        first | have f23 : (r16v : Int32).toInt = (0 : Int32).toInt := congrArg Int32.toInt q20 | skip
        exact ⟨_, rfl, S⟩
      · rw [if_neg q20]
        first | have hx_24 := i32_hi (r16v) | skip
        first | have hx_25 := i32_lo (r16v) | skip
        first | have f26 : (r16v : Int32).toInt ≠ (0 : Int32).toInt := ti_ne q20 | skip
        obtain ⟨rr27, e_rr27, S_rr27⟩ := z_X11_done_j29 x1 x2 h S ff_X11_done_j29 (by omega) (by omega)
        rw [e_rr27]
        exact ⟨_, rfl, S_rr27⟩
def W_X1_tellLaw : List Nat := [69, 73, 448, 449, 450, 451]
set_option maxHeartbeats 400000 in
theorem z_X1_tellLaw {fp : Nat → Bool} {b : mH} {m : Nat} (x1 : Int32) (x2 : Int32) (x3 : Int32) (x4 : Int32) (h : mH) (S : SI fp b m h) (ff : ∀ c ∈ W_X1_tellLaw, fp c = false) (pr0 : (h.1 1 0 5).toInt < 12) (pr1 : (0 ≤ x2.toInt ∧ x2.toInt < 24)) (pr2 : (0 ≤ x3.toInt ∧ x3.toInt < 24)) : ∃ r, f_X1_tellLaw x1 x2 x3 x4 h = some r ∧ SI fp b m r.2 := by
  have w69 : fp 69 = false := ff 69 (by decide)
  have w73 : fp 73 = false := ff 73 (by decide)
  have w448 : fp 448 = false := ff 448 (by decide)
  have w449 : fp 449 = false := ff 449 (by decide)
  have w450 : fp 450 = false := ff 450 (by decide)
  have w451 : fp 451 = false := ff 451 (by decide)
  unfold f_X1_tellLaw
  have b1 : 0 ≤ (h.1 1 0 5).toInt ∧ (h.1 1 0 5).toInt ≤ 12 := (S).1 1 0 5
  have q2 : mIn (h.1 1 0 5) 12 = true := (mIn_bd (by omega) (by omega))
  rw [if_pos q2]
  refine let_ex (fun h2 e_h2 => ?_)
  have S_h2 : SI fp b m h2 := e_h2 ▸ (SI.f S rfl w448 rfl)
  have w_3 : 0 ≤ (x2 : Int32).toInt ∧ (x2 : Int32).toInt ≤ 23 := by omega
  refine let_ex (fun h3 e_h3 => ?_)
  have S_h3 : SI fp b m h3 := e_h3 ▸ (SI.u S_h2 rfl w449 w_3)
  have w_4 : 0 ≤ (x3 : Int32).toInt ∧ (x3 : Int32).toInt ≤ 23 := by omega
  refine let_ex (fun h4 e_h4 => ?_)
  have S_h4 : SI fp b m h4 := e_h4 ▸ (SI.u S_h3 rfl w450 w_4)
  refine let_ex (fun h5 e_h5 => ?_)
  have S_h5 : SI fp b m h5 := e_h5 ▸ (SI.f S_h4 rfl w451 rfl)
  have t5 : (0 : Int32).toInt = 0 := by decide
  have w_6 : 0 ≤ (0 : Int32).toInt ∧ (0 : Int32).toInt ≤ 1 := by omega
  refine let_ex (fun h6 e_h6 => ?_)
  have S_h6 : SI fp b m h6 := e_h6 ▸ (SI.u S_h5 rfl w73 w_6)
  have b7 : 0 ≤ (h6.1 1 0 5).toInt ∧ (h6.1 1 0 5).toInt ≤ 12 := (S_h6).1 1 0 5
  have l8 : (h6.1 1 0 5).toInt = (h5.1 1 0 5).toInt := by rw [← e_h6, uI_k _ rfl]
  have b9 : 0 ≤ (h5.1 1 0 5).toInt ∧ (h5.1 1 0 5).toInt ≤ 12 := (S_h5).1 1 0 5
  have l10 : (h5.1 1 0 5).toInt = (h4.1 1 0 5).toInt := by rw [← e_h5, uI_t _ rfl]
  have b11 : 0 ≤ (h4.1 1 0 5).toInt ∧ (h4.1 1 0 5).toInt ≤ 12 := (S_h4).1 1 0 5
  have l12 : (h4.1 1 0 5).toInt = (h3.1 1 0 5).toInt := by rw [← e_h4, uI_t _ rfl]
  have b13 : 0 ≤ (h3.1 1 0 5).toInt ∧ (h3.1 1 0 5).toInt ≤ 12 := (S_h3).1 1 0 5
  have l14 : (h3.1 1 0 5).toInt = (h2.1 1 0 5).toInt := by rw [← e_h3, uI_t _ rfl]
  have b15 : 0 ≤ (h2.1 1 0 5).toInt ∧ (h2.1 1 0 5).toInt ≤ 12 := (S_h2).1 1 0 5
  have l16 : (h2.1 1 0 5).toInt = (h.1 1 0 5).toInt := by rw [← e_h2, uI_t _ rfl]
  have t17 : (1 : Int32).toInt = 1 := by decide
  first | have o18 : ((h6.1 1 0 5) + 1 : Int32).toInt = (h6.1 1 0 5 : Int32).toInt + (1 : Int32).toInt := ti_add (by omega) (by omega) | skip
  have w_19 : 0 ≤ ((h6.1 1 0 5) + 1 : Int32).toInt ∧ ((h6.1 1 0 5) + 1 : Int32).toInt ≤ 12 := by omega
  refine let_ex (fun h7 e_h7 => ?_)
  have S_h7 : SI fp b m h7 := e_h7 ▸ (SI.u S_h6 rfl w69 w_19)
  exact ⟨_, rfl, S_h7⟩
def W_X11_law : List Nat := [69, 73, 448, 449, 450, 451]
set_option maxHeartbeats 400000 in
theorem z_X11_law {fp : Nat → Bool} {b : mH} {m : Nat} (x1 : Int32) (x2 : Int32) (x3 : Int32) (x4 : Int32) (h : mH) (S : SI fp b m h) (ff : ∀ c ∈ W_X11_law, fp c = false)  : ∃ r, f_X11_law x1 x2 x3 x4 h = some r ∧ SI fp b m r.2 := by
  have ff_X1_tellLaw : ∀ c ∈ W_X1_tellLaw, fp c = false := fun c hc => ff c ((by decide : ∀ c ∈ W_X1_tellLaw, c ∈ W_X11_law) c hc)
  unfold f_X11_law
  by_cases q1 : x1 < 0
  · rw [if_pos q1]
    have t2 : (0 : Int32).toInt = 0 := by decide
    first | have hx_3 := i32_hi (x1) | skip
    first | have hx_4 := i32_lo (x1) | skip
    first | have f5 : (x1 : Int32).toInt < (0 : Int32).toInt := Int32.lt_iff_toInt_lt.mp q1 | skip
    exact ⟨_, rfl, S⟩
  · rw [if_neg q1]
    have t6 : (0 : Int32).toInt = 0 := by decide
    first | have hx_7 := i32_hi (x1) | skip
    first | have hx_8 := i32_lo (x1) | skip
    first | have f9 : (0 : Int32).toInt ≤ (x1 : Int32).toInt := Int32.le_iff_toInt_le.mp (Int32.not_lt.mp q1) | skip
    by_cases q10 : x1 ≤ 2
    · rw [if_pos q10]
      have t11 : (2 : Int32).toInt = 2 := by decide
      first | have f12 : (x1 : Int32).toInt ≤ (2 : Int32).toInt := Int32.le_iff_toInt_le.mp q10 | skip
      obtain ⟨⟨r3v, r3h⟩, e_r3, (hh_r3 : r3h = h), p_r3_0, p_r3_1⟩ := z_X1_hasField x2 h S  
      replace hh_r3 := hh_r3.symm
      subst hh_r3
      dsimp only at p_r3_0 p_r3_1
      have bb_r3 := bool_bd p_r3_0
      rw [e_r3, Option.bind_some]
      try dsimp only
      by_cases q13 : r3v = 0
      · rw [if_pos q13]
        first | have hx_14 := i32_hi (r3v) | skip
        first | have hx_15 := i32_lo (r3v) | skip
        first | have f16 : (r3v : Int32).toInt = (0 : Int32).toInt := congrArg Int32.toInt q13 | skip
        exact ⟨_, rfl, S⟩
      · rw [if_neg q13]
        first | have hx_17 := i32_hi (r3v) | skip
        first | have hx_18 := i32_lo (r3v) | skip
        first | have f19 : (r3v : Int32).toInt ≠ (0 : Int32).toInt := ti_ne q13 | skip
        obtain ⟨⟨r5v, r5h⟩, e_r5, (hh_r5 : r5h = h), p_r5_0, p_r5_1⟩ := z_X1_hasField x3 h S  
        replace hh_r5 := hh_r5.symm
        subst hh_r5
        dsimp only at p_r5_0 p_r5_1
        have bb_r5 := bool_bd p_r5_0
        rw [e_r5, Option.bind_some]
        try dsimp only
        by_cases q20 : r5v = 0
        · rw [if_pos q20]
          first | have hx_21 := i32_hi (r5v) | skip
          first | have hx_22 := i32_lo (r5v) | skip
          first | have f23 : (r5v : Int32).toInt = (0 : Int32).toInt := congrArg Int32.toInt q20 | skip
          exact ⟨_, rfl, S⟩
        · rw [if_neg q20]
          first | have hx_24 := i32_hi (r5v) | skip
          first | have hx_25 := i32_lo (r5v) | skip
          first | have f26 : (r5v : Int32).toInt ≠ (0 : Int32).toInt := ti_ne q20 | skip
          by_cases q27 : x4 < 0
          · rw [if_pos q27]
            first | have hx_28 := i32_hi (x4) | skip
            first | have hx_29 := i32_lo (x4) | skip
            first | have f30 : (x4 : Int32).toInt < (0 : Int32).toInt := Int32.lt_iff_toInt_lt.mp q27 | skip
            exact ⟨_, rfl, S⟩
          · rw [if_neg q27]
            first | have hx_31 := i32_hi (x4) | skip
            first | have hx_32 := i32_lo (x4) | skip
            first | have f33 : (0 : Int32).toInt ≤ (x4 : Int32).toInt := Int32.le_iff_toInt_le.mp (Int32.not_lt.mp q27) | skip
            by_cases q34 : x4 ≤ 255
            · rw [if_pos q34]
              have t35 : (255 : Int32).toInt = 255 := by decide
              first | have f36 : (x4 : Int32).toInt ≤ (255 : Int32).toInt := Int32.le_iff_toInt_le.mp q34 | skip
              by_cases q37 : (h.1 1 0 5) < 12
              · rw [if_pos q37]
                have b38 : 0 ≤ (h.1 1 0 5).toInt ∧ (h.1 1 0 5).toInt ≤ 12 := (S).1 1 0 5
                have t39 : (12 : Int32).toInt = 12 := by decide
                first | have hx_40 := i32_hi (h.1 1 0 5) | skip
                first | have hx_41 := i32_lo (h.1 1 0 5) | skip
                first | have f42 : (h.1 1 0 5 : Int32).toInt < (12 : Int32).toInt := Int32.lt_iff_toInt_lt.mp q37 | skip
                obtain ⟨r10, e_r10, S_r10⟩ := z_X1_tellLaw x1 x2 x3 x4 h S ff_X1_tellLaw (by omega) (by omega) (by omega)
                rw [e_r10, Option.bind_some]
                exact ⟨_, rfl, S_r10⟩
              · rw [if_neg q37]
                have b43 : 0 ≤ (h.1 1 0 5).toInt ∧ (h.1 1 0 5).toInt ≤ 12 := (S).1 1 0 5
                have t44 : (12 : Int32).toInt = 12 := by decide
                first | have hx_45 := i32_hi (h.1 1 0 5) | skip
                first | have hx_46 := i32_lo (h.1 1 0 5) | skip
                first | have f47 : (12 : Int32).toInt ≤ (h.1 1 0 5 : Int32).toInt := Int32.le_iff_toInt_le.mp (Int32.not_lt.mp q37) | skip
                exact ⟨_, rfl, S⟩
            · rw [if_neg q34]
              have t48 : (255 : Int32).toInt = 255 := by decide
              first | have f49 : (255 : Int32).toInt < (x4 : Int32).toInt := Int32.lt_iff_toInt_lt.mp (Int32.not_le.mp q34) | skip
              exact ⟨_, rfl, S⟩
    · rw [if_neg q10]
      have t50 : (2 : Int32).toInt = 2 := by decide
      first | have f51 : (2 : Int32).toInt < (x1 : Int32).toInt := Int32.lt_iff_toInt_lt.mp (Int32.not_le.mp q10) | skip
      exact ⟨_, rfl, S⟩
def W_X1_tellAct : List Nat := [5, 70, 73]
set_option maxHeartbeats 400000 in
theorem z_X1_tellAct {fp : Nat → Bool} {b : mH} {m : Nat}  (h : mH) (S : SI fp b m h) (ff : ∀ c ∈ W_X1_tellAct, fp c = false) (pr0 : (h.1 1 0 6).toInt < 6) : ∃ r, f_X1_tellAct h = some r ∧ SI fp b m r.2 := by
  have w5 : fp 5 = false := ff 5 (by decide)
  have w70 : fp 70 = false := ff 70 (by decide)
  have w73 : fp 73 = false := ff 73 (by decide)
  unfold f_X1_tellAct
  have b1 : 0 ≤ (h.1 1 0 6).toInt ∧ (h.1 1 0 6).toInt ≤ 6 := (S).1 1 0 6
  have q2 : mIn (h.1 1 0 6) 6 = true := (mIn_bd (by omega) (by omega))
  rw [if_pos q2]
  have t3 : (0 : Int32).toInt = 0 := by decide
  have w_4 : 0 ≤ (0 : Int32).toInt ∧ (0 : Int32).toInt ≤ 12 := by omega
  refine let_ex (fun h2 e_h2 => ?_)
  have S_h2 : SI fp b m h2 := e_h2 ▸ (SI.u S rfl w5 w_4)
  have w_5 : 0 ≤ (0 : Int32).toInt ∧ (0 : Int32).toInt ≤ 1 := by omega
  refine let_ex (fun h3 e_h3 => ?_)
  have S_h3 : SI fp b m h3 := e_h3 ▸ (SI.u S_h2 rfl w73 w_5)
  have b6 : 0 ≤ (h3.1 1 0 6).toInt ∧ (h3.1 1 0 6).toInt ≤ 6 := (S_h3).1 1 0 6
  have l7 : (h3.1 1 0 6).toInt = (h2.1 1 0 6).toInt := by rw [← e_h3, uI_k _ rfl]
  have b8 : 0 ≤ (h2.1 1 0 6).toInt ∧ (h2.1 1 0 6).toInt ≤ 6 := (S_h2).1 1 0 6
  have l9 : (h2.1 1 0 6).toInt = (h.1 1 0 6).toInt := by rw [← e_h2, uI_t _ rfl]
  have t10 : (1 : Int32).toInt = 1 := by decide
  first | have o11 : ((h3.1 1 0 6) + 1 : Int32).toInt = (h3.1 1 0 6 : Int32).toInt + (1 : Int32).toInt := ti_add (by omega) (by omega) | skip
  have w_12 : 0 ≤ ((h3.1 1 0 6) + 1 : Int32).toInt ∧ ((h3.1 1 0 6) + 1 : Int32).toInt ≤ 6 := by omega
  refine let_ex (fun h4 e_h4 => ?_)
  have S_h4 : SI fp b m h4 := e_h4 ▸ (SI.u S_h3 rfl w70 w_12)
  exact ⟨_, rfl, S_h4⟩
def W_X11_act : List Nat := [5, 70, 73]
set_option maxHeartbeats 400000 in
theorem z_X11_act {fp : Nat → Bool} {b : mH} {m : Nat}  (h : mH) (S : SI fp b m h) (ff : ∀ c ∈ W_X11_act, fp c = false)  : ∃ r, f_X11_act h = some r ∧ SI fp b m r.2 := by
  have ff_X1_tellAct : ∀ c ∈ W_X1_tellAct, fp c = false := fun c hc => ff c ((by decide : ∀ c ∈ W_X1_tellAct, c ∈ W_X11_act) c hc)
  unfold f_X11_act
  by_cases q1 : (h.1 1 0 6) < 6
  · rw [if_pos q1]
    have b2 : 0 ≤ (h.1 1 0 6).toInt ∧ (h.1 1 0 6).toInt ≤ 6 := (S).1 1 0 6
    have t3 : (6 : Int32).toInt = 6 := by decide
    first | have hx_4 := i32_hi (h.1 1 0 6) | skip
    first | have hx_5 := i32_lo (h.1 1 0 6) | skip
    first | have f6 : (h.1 1 0 6 : Int32).toInt < (6 : Int32).toInt := Int32.lt_iff_toInt_lt.mp q1 | skip
    obtain ⟨r2, e_r2, S_r2⟩ := z_X1_tellAct  h S ff_X1_tellAct (by omega)
    rw [e_r2, Option.bind_some]
    exact ⟨_, rfl, S_r2⟩
  · rw [if_neg q1]
    have b7 : 0 ≤ (h.1 1 0 6).toInt ∧ (h.1 1 0 6).toInt ≤ 6 := (S).1 1 0 6
    have t8 : (6 : Int32).toInt = 6 := by decide
    first | have hx_9 := i32_hi (h.1 1 0 6) | skip
    first | have hx_10 := i32_lo (h.1 1 0 6) | skip
    first | have f11 : (6 : Int32).toInt ≤ (h.1 1 0 6 : Int32).toInt := Int32.le_iff_toInt_le.mp (Int32.not_lt.mp q1) | skip
    exact ⟨_, rfl, S⟩
set_option maxHeartbeats 400000 in
theorem z_X11_isStepNumber {fp : Nat → Bool} {b : mH} {m : Nat} (x1 : Int32) (x2 : Int32) (x3 : Int32) (h : mH) (S : SI fp b m h)  (pr0 : (x1.toInt = 3 ∨ (0 ≤ x2.toInt ∧ x2.toInt < 24))) : ∃ r, f_X11_isStepNumber x1 x2 x3 h = some r ∧ r.2 = h ∧ (r.1 = 0 ∨ r.1 = 1) := by
  unfold f_X11_isStepNumber
  by_cases q1 : x1 = 2
  · rw [if_pos q1]
    have t2 : (2 : Int32).toInt = 2 := by decide
    first | have hx_3 := i32_hi (x1) | skip
    first | have hx_4 := i32_lo (x1) | skip
    first | have f5 : (x1 : Int32).toInt = (2 : Int32).toInt := congrArg Int32.toInt q1 | skip
    by_cases q6 : x3 = 0
    · rw [if_pos q6]
      have t7 : (0 : Int32).toInt = 0 := by decide
      first | have hx_8 := i32_hi (x3) | skip
      first | have hx_9 := i32_lo (x3) | skip
      first | have f10 : (x3 : Int32).toInt = (0 : Int32).toInt := congrArg Int32.toInt q6 | skip
      have t11 : (1 : Int32).toInt = 1 := by decide
      exact ⟨_, rfl, rfl, (Or.inr rfl)⟩
    · rw [if_neg q6]
      have t12 : (0 : Int32).toInt = 0 := by decide
      first | have hx_13 := i32_hi (x3) | skip
      first | have hx_14 := i32_lo (x3) | skip
      first | have f15 : (x3 : Int32).toInt ≠ (0 : Int32).toInt := ti_ne q6 | skip
      exact ⟨_, rfl, rfl, (Or.inl rfl)⟩
  · rw [if_neg q1]
    have t16 : (2 : Int32).toInt = 2 := by decide
    first | have hx_17 := i32_hi (x1) | skip
    first | have hx_18 := i32_lo (x1) | skip
    first | have f19 : (x1 : Int32).toInt ≠ (2 : Int32).toInt := ti_ne q1 | skip
    by_cases q20 : x1 = 3
    · rw [if_pos q20]
      have t21 : (3 : Int32).toInt = 3 := by decide
      first | have f22 : (x1 : Int32).toInt = (3 : Int32).toInt := congrArg Int32.toInt q20 | skip
      by_cases q23 : x3 < 1
      · rw [if_pos q23]
        have t24 : (1 : Int32).toInt = 1 := by decide
        first | have hx_25 := i32_hi (x3) | skip
        first | have hx_26 := i32_lo (x3) | skip
        first | have f27 : (x3 : Int32).toInt < (1 : Int32).toInt := Int32.lt_iff_toInt_lt.mp q23 | skip
        have t28 : (0 : Int32).toInt = 0 := by decide
        exact ⟨_, rfl, rfl, (Or.inl rfl)⟩
      · rw [if_neg q23]
        have t29 : (1 : Int32).toInt = 1 := by decide
        first | have hx_30 := i32_hi (x3) | skip
        first | have hx_31 := i32_lo (x3) | skip
        first | have f32 : (1 : Int32).toInt ≤ (x3 : Int32).toInt := Int32.le_iff_toInt_le.mp (Int32.not_lt.mp q23) | skip
        by_cases q33 : x3 ≤ 9
        · rw [if_pos q33]
          have t34 : (9 : Int32).toInt = 9 := by decide
          first | have f35 : (x3 : Int32).toInt ≤ (9 : Int32).toInt := Int32.le_iff_toInt_le.mp q33 | skip
          exact ⟨_, rfl, rfl, (Or.inr rfl)⟩
        · rw [if_neg q33]
          have t36 : (9 : Int32).toInt = 9 := by decide
          first | have f37 : (9 : Int32).toInt < (x3 : Int32).toInt := Int32.lt_iff_toInt_lt.mp (Int32.not_le.mp q33) | skip
          have t38 : (0 : Int32).toInt = 0 := by decide
          exact ⟨_, rfl, rfl, (Or.inl rfl)⟩
    · rw [if_neg q20]
      have t39 : (3 : Int32).toInt = 3 := by decide
      first | have f40 : (x1 : Int32).toInt ≠ (3 : Int32).toInt := ti_ne q20 | skip
      have q41 : mIn x2 24 = true := (mIn_bd (by omega) (by omega))
      rw [if_pos q41]
      obtain ⟨⟨r7v, r7h⟩, e_r7, (hh_r7 : r7h = h), p_r7_0⟩ := z_X11_fits x3 (h.1 6 x2.toNatClampNeg 2) h S  
      replace hh_r7 := hh_r7.symm
      subst hh_r7
      dsimp only at p_r7_0
      have bb_r7 := bool_bd p_r7_0
      rw [e_r7, Option.bind_some]
      try dsimp only
      have q42 : (r7v = 0 ∨ r7v = 1) := p_r7_0
      rw [if_pos q42]
      exact ⟨_, rfl, rfl, q42⟩
set_option maxHeartbeats 400000 in
theorem z_X11_allowsStep {fp : Nat → Bool} {b : mH} {m : Nat} (x0 : Int32) (x1 : Int32) (h : mH) (S : SI fp b m h)   : ∃ r, f_X11_allowsStep x0 x1 h = some r ∧ r.2 = h ∧ (r.1 = 0 ∨ r.1 = 1) := by
  unfold f_X11_allowsStep
  by_cases q1 : x1 = 0
  · rw [if_pos q1]
    have t2 : (0 : Int32).toInt = 0 := by decide
    first | have hx_3 := i32_hi (x1) | skip
    first | have hx_4 := i32_lo (x1) | skip
    first | have f5 : (x1 : Int32).toInt = (0 : Int32).toInt := congrArg Int32.toInt q1 | skip
    by_cases q6 : x0 = 1
    · rw [if_pos q6]
      have t7 : (1 : Int32).toInt = 1 := by decide
      first | have hx_8 := i32_hi (x0) | skip
      first | have hx_9 := i32_lo (x0) | skip
      first | have f10 : (x0 : Int32).toInt = (1 : Int32).toInt := congrArg Int32.toInt q6 | skip
      exact ⟨_, rfl, rfl, (Or.inl rfl)⟩
    · rw [if_neg q6]
      have t11 : (1 : Int32).toInt = 1 := by decide
      first | have hx_12 := i32_hi (x0) | skip
      first | have hx_13 := i32_lo (x0) | skip
      first | have f14 : (x0 : Int32).toInt ≠ (1 : Int32).toInt := ti_ne q6 | skip
      by_cases q15 : x0 = 3
      · rw [if_pos q15]
        have t16 : (3 : Int32).toInt = 3 := by decide
        first | have f17 : (x0 : Int32).toInt = (3 : Int32).toInt := congrArg Int32.toInt q15 | skip
        exact ⟨_, rfl, rfl, (Or.inl rfl)⟩
      · rw [if_neg q15]
        have t18 : (3 : Int32).toInt = 3 := by decide
        first | have f19 : (x0 : Int32).toInt ≠ (3 : Int32).toInt := ti_ne q15 | skip
        exact ⟨_, rfl, rfl, (Or.inr rfl)⟩
  · rw [if_neg q1]
    have t20 : (0 : Int32).toInt = 0 := by decide
    first | have hx_21 := i32_hi (x1) | skip
    first | have hx_22 := i32_lo (x1) | skip
    first | have f23 : (x1 : Int32).toInt ≠ (0 : Int32).toInt := ti_ne q1 | skip
    by_cases q24 : x1 = 1
    · rw [if_pos q24]
      have t25 : (1 : Int32).toInt = 1 := by decide
      first | have f26 : (x1 : Int32).toInt = (1 : Int32).toInt := congrArg Int32.toInt q24 | skip
      by_cases q27 : x0 = 3
      · rw [if_pos q27]
        have t28 : (3 : Int32).toInt = 3 := by decide
        first | have hx_29 := i32_hi (x0) | skip
        first | have hx_30 := i32_lo (x0) | skip
        first | have f31 : (x0 : Int32).toInt = (3 : Int32).toInt := congrArg Int32.toInt q27 | skip
        exact ⟨_, rfl, rfl, (Or.inl rfl)⟩
      · rw [if_neg q27]
        have t32 : (3 : Int32).toInt = 3 := by decide
        first | have hx_33 := i32_hi (x0) | skip
        first | have hx_34 := i32_lo (x0) | skip
        first | have f35 : (x0 : Int32).toInt ≠ (3 : Int32).toInt := ti_ne q27 | skip
        exact ⟨_, rfl, rfl, (Or.inr rfl)⟩
    · rw [if_neg q24]
      have t36 : (1 : Int32).toInt = 1 := by decide
      first | have f37 : (x1 : Int32).toInt ≠ (1 : Int32).toInt := ti_ne q24 | skip
      exact ⟨_, rfl, rfl, (Or.inr rfl)⟩
def W_X0_append : List Nat := [5, 1280, 1344, 1408, 1472]
theorem z_X0_append {fp : Nat → Bool} {b : mH} {m : Nat} (i0 : Nat) (x1 x2 x3 x4 : Int32) (h : mH) (S : SI fp b m h) (ff : ∀ c ∈ W_X0_append, fp c = false) (p1 : 0 ≤ x1.toInt ∧ x1.toInt ≤ 3) (p2 : -1 ≤ x2.toInt ∧ x2.toInt ≤ 23) (p3 : x1.toInt = 3 ∨ 0 ≤ x2.toInt) (p4 : (h.1 0 i0 5).toInt < 12) : ∃ r, f_X0_append i0 x1 x2 x3 x4 h = some r ∧ SI fp b m r.2 := by
  unfold f_X0_append
  have b1 : 0 ≤ (h.1 0 i0 5).toInt ∧ (h.1 0 i0 5).toInt ≤ 12 := S.1 0 i0 5
  have e1 : (1 : Int32).toInt = 1 := by decide
  have n1 : 0 ≤ (h.1 0 i0 5 + 1).toInt ∧ (h.1 0 i0 5 + 1).toInt ≤ 12 := by
    have : (h.1 0 i0 5 + 1).toInt = (h.1 0 i0 5).toInt + (1 : Int32).toInt := ti_add (by omega) (by omega)
    omega
  have q : mIn (h.1 0 i0 5) 12 = true := mIn_bd (by omega) (by omega)
  rw [if_pos q]
  dsimp only [mLet]
  have n : ∀ (g : mH) (t c : Nat) (x : Int32), t ≠ 0 → (uI g t i0 c x).1 0 i0 5 = g.1 0 i0 5 := fun g t c x q => uI_n _ (fun z => q z.1.symm)
  rw [n h 20 _ _ (by decide), if_pos q, n _ 21 _ _ (by decide), n h 20 _ _ (by decide), if_pos q, n _ 22 _ _ (by decide), n _ 21 _ _ (by decide), n h 20 _ _ (by decide), if_pos q]
  refine ⟨_, rfl, ?_⟩
  dsimp only
  rw [n _ 23 _ _ (by decide), n _ 22 _ _ (by decide), n _ 21 _ _ (by decide), n _ 20 _ _ (by decide)]
  exact SI.u (SI.step S (ff 1280 (by decide)) (ff 1344 (by decide)) (ff 1408 (by decide)) (ff 1472 (by decide)) p1 p2 p3) rfl (ff 5 (by decide)) n1
def W_X1_tellStep : List Nat := [5, 73, 1280, 1344, 1408, 1472]
set_option maxHeartbeats 400000 in
theorem z_X1_tellStep {fp : Nat → Bool} {b : mH} {m : Nat} (x1 : Int32) (x2 : Int32) (x3 : Int32) (x4 : Int32) (x5 : Int32) (h : mH) (S : SI fp b m h) (ff : ∀ c ∈ W_X1_tellStep, fp c = false) (pr0 : (0 ≤ x1.toInt ∧ x1.toInt < 6)) (pr1 : (0 ≤ x2.toInt ∧ x2.toInt ≤ 3)) (pr2 : (-1 ≤ x3.toInt ∧ x3.toInt ≤ 23)) (pr3 : (x2.toInt = 3 ∨ 0 ≤ x3.toInt)) (pr4 : (h.1 0 x1.toNatClampNeg 5).toInt < 12) : ∃ r, f_X1_tellStep x1 x2 x3 x4 x5 h = some r ∧ SI fp b m r.2 := by
  have ff_X0_append : ∀ c ∈ W_X0_append, fp c = false := fun c hc => ff c ((by decide : ∀ c ∈ W_X0_append, c ∈ W_X1_tellStep) c hc)
  have w73 : fp 73 = false := ff 73 (by decide)
  unfold f_X1_tellStep
  have q1 : mIn x1 6 = true := (mIn_bd (by omega) (by omega))
  rw [if_pos q1]
  have t2 : (0 : Int32).toInt = 0 := by decide
  have w_3 : 0 ≤ (0 : Int32).toInt ∧ (0 : Int32).toInt ≤ 1 := by omega
  obtain ⟨g4, e_g4⟩ : ∃ g, uI h 1 0 9 0 = g := ⟨_, rfl⟩
  rw [e_g4]
  have S_g4 : SI fp b m g4 := e_g4 ▸ (SI.u S rfl w73 w_3)
  have b5 : 0 ≤ (g4.1 0 x1.toNatClampNeg 5).toInt ∧ (g4.1 0 x1.toNatClampNeg 5).toInt ≤ 12 := (S_g4).1 0 x1.toNatClampNeg 5
  have l6 : (g4.1 0 x1.toNatClampNeg 5).toInt = (h.1 0 x1.toNatClampNeg 5).toInt := by rw [← e_g4, uI_t _ rfl]
  have b7 : 0 ≤ (h.1 0 x1.toNatClampNeg 5).toInt ∧ (h.1 0 x1.toNatClampNeg 5).toInt ≤ 12 := (S).1 0 x1.toNatClampNeg 5
  obtain ⟨r2, e_r2, S_r2⟩ := z_X0_append x1.toNatClampNeg x2 x3 x4 x5 g4 S_g4 ff_X0_append pr1 pr2 pr3 (by omega)
  rw [e_r2, Option.bind_some]
  exact ⟨_, rfl, S_r2⟩
def W_X11_step_j48 : List Nat := [5, 73, 1280, 1344, 1408, 1472]
set_option maxHeartbeats 400000 in
theorem z_X11_step_j48 {fp : Nat → Bool} {b : mH} {m : Nat} (w1 : Int32) (w2 : Int32) (w3 : Int32) (w4 : Int32) (w5 : Int32) (h : mH) (S : SI fp b m h) (ff : ∀ c ∈ W_X11_step_j48, fp c = false) (pr0 : (0 ≤ w1.toInt ∧ w1.toInt < 6)) (pr1 : (0 ≤ w2.toInt ∧ w2.toInt ≤ 3)) (pr2 : (-1 ≤ w3.toInt ∧ w3.toInt ≤ 23)) (pr3 : (w2.toInt = 3 ∨ 0 ≤ w3.toInt)) : ∃ r, f_X11_step_j48 w1 w2 w3 w4 w5 h = some r ∧ SI fp b m r.2 := by
  have ff_X1_tellStep : ∀ c ∈ W_X1_tellStep, fp c = false := fun c hc => ff c ((by decide : ∀ c ∈ W_X1_tellStep, c ∈ W_X11_step_j48) c hc)
  unfold f_X11_step_j48
  obtain ⟨⟨r8v, r8h⟩, e_r8, (hh_r8 : r8h = h), p_r8_0⟩ := z_X11_isStepNumber w2 w3 w4 h S  (by omega)
  replace hh_r8 := hh_r8.symm
  subst hh_r8
  dsimp only at p_r8_0
  have bb_r8 := bool_bd p_r8_0
  rw [e_r8, Option.bind_some]
  try dsimp only
  by_cases q1 : r8v = 0
  · rw [if_pos q1]
    have t2 : (0 : Int32).toInt = 0 := by decide
    first | have hx_3 := i32_hi (r8v) | skip
    first | have hx_4 := i32_lo (r8v) | skip
    first | have f5 : (r8v : Int32).toInt = (0 : Int32).toInt := congrArg Int32.toInt q1 | skip
    exact ⟨_, rfl, S⟩
  · rw [if_neg q1]
    have t6 : (0 : Int32).toInt = 0 := by decide
    first | have hx_7 := i32_hi (r8v) | skip
    first | have hx_8 := i32_lo (r8v) | skip
    first | have f9 : (r8v : Int32).toInt ≠ (0 : Int32).toInt := ti_ne q1 | skip
    by_cases q10 : w5 < 0
    · rw [if_pos q10]
      first | have hx_11 := i32_hi (w5) | skip
      first | have hx_12 := i32_lo (w5) | skip
      first | have f13 : (w5 : Int32).toInt < (0 : Int32).toInt := Int32.lt_iff_toInt_lt.mp q10 | skip
      exact ⟨_, rfl, S⟩
    · rw [if_neg q10]
      first | have hx_14 := i32_hi (w5) | skip
      first | have hx_15 := i32_lo (w5) | skip
      first | have f16 : (0 : Int32).toInt ≤ (w5 : Int32).toInt := Int32.le_iff_toInt_le.mp (Int32.not_lt.mp q10) | skip
      by_cases q17 : w2 = 1
      · rw [if_pos q17]
        have t18 : (1 : Int32).toInt = 1 := by decide
        first | have hx_19 := i32_hi (w2) | skip
        first | have hx_20 := i32_lo (w2) | skip
        first | have f21 : (w2 : Int32).toInt = (1 : Int32).toInt := congrArg Int32.toInt q17 | skip
        by_cases q22 : w5 ≤ 20
        · rw [if_pos q22]
          have t23 : (20 : Int32).toInt = 20 := by decide
          first | have f24 : (w5 : Int32).toInt ≤ (20 : Int32).toInt := Int32.le_iff_toInt_le.mp q22 | skip
          by_cases q25 : w2 = 3
          · rw [if_pos q25]
            have t26 : (3 : Int32).toInt = 3 := by decide
            first | have f27 : (w2 : Int32).toInt = (3 : Int32).toInt := congrArg Int32.toInt q25 | skip
            have q28 : mIn w1 6 = true := (mIn_bd (by omega) (by omega))
            rw [if_pos q28]
            by_cases q29 : (h.1 0 w1.toNatClampNeg 5) < 12
            · rw [if_pos q29]
              have b30 : 0 ≤ (h.1 0 w1.toNatClampNeg 5).toInt ∧ (h.1 0 w1.toNatClampNeg 5).toInt ≤ 12 := (S).1 0 w1.toNatClampNeg 5
              have t31 : (12 : Int32).toInt = 12 := by decide
              first | have hx_32 := i32_hi (h.1 0 w1.toNatClampNeg 5) | skip
              first | have hx_33 := i32_lo (h.1 0 w1.toNatClampNeg 5) | skip
              first | have f34 : (h.1 0 w1.toNatClampNeg 5 : Int32).toInt < (12 : Int32).toInt := Int32.lt_iff_toInt_lt.mp q29 | skip
              obtain ⟨r27, e_r27, S_r27⟩ := z_X1_tellStep w1 w2 w3 w4 w5 h S ff_X1_tellStep pr0 pr1 pr2 pr3 (by omega)
              rw [e_r27, Option.bind_some]
              exact ⟨_, rfl, S_r27⟩
            · rw [if_neg q29]
              have b35 : 0 ≤ (h.1 0 w1.toNatClampNeg 5).toInt ∧ (h.1 0 w1.toNatClampNeg 5).toInt ≤ 12 := (S).1 0 w1.toNatClampNeg 5
              have t36 : (12 : Int32).toInt = 12 := by decide
              first | have hx_37 := i32_hi (h.1 0 w1.toNatClampNeg 5) | skip
              first | have hx_38 := i32_lo (h.1 0 w1.toNatClampNeg 5) | skip
              first | have f39 : (12 : Int32).toInt ≤ (h.1 0 w1.toNatClampNeg 5 : Int32).toInt := Int32.le_iff_toInt_le.mp (Int32.not_lt.mp q29) | skip
              exact ⟨_, rfl, S⟩
          · rw [if_neg q25]
            have t40 : (3 : Int32).toInt = 3 := by decide
            first | have f41 : (w2 : Int32).toInt ≠ (3 : Int32).toInt := ti_ne q25 | skip
            have q42 : mIn w3 24 = true := (mIn_bd (by omega) (by omega))
            rw [if_pos q42]
            obtain ⟨⟨r29v, r29h⟩, e_r29, (hh_r29 : r29h = h), p_r29_0⟩ := z_X11_allowsStep (h.1 6 w3.toNatClampNeg 3) w2 h S  
            replace hh_r29 := hh_r29.symm
            subst hh_r29
            dsimp only at p_r29_0
            have bb_r29 := bool_bd p_r29_0
            rw [e_r29, Option.bind_some]
            try dsimp only
            by_cases q43 : r29v = 0
            · rw [if_pos q43]
              first | have hx_44 := i32_hi (r29v) | skip
              first | have hx_45 := i32_lo (r29v) | skip
              first | have f46 : (r29v : Int32).toInt = (0 : Int32).toInt := congrArg Int32.toInt q43 | skip
              exact ⟨_, rfl, S⟩
            · rw [if_neg q43]
              first | have hx_47 := i32_hi (r29v) | skip
              first | have hx_48 := i32_lo (r29v) | skip
              first | have f49 : (r29v : Int32).toInt ≠ (0 : Int32).toInt := ti_ne q43 | skip
              have q50 : mIn w1 6 = true := (mIn_bd (by omega) (by omega))
              rw [if_pos q50]
              by_cases q51 : (h.1 0 w1.toNatClampNeg 5) < 12
              · rw [if_pos q51]
                have b52 : 0 ≤ (h.1 0 w1.toNatClampNeg 5).toInt ∧ (h.1 0 w1.toNatClampNeg 5).toInt ≤ 12 := (S).1 0 w1.toNatClampNeg 5
                have t53 : (12 : Int32).toInt = 12 := by decide
                first | have hx_54 := i32_hi (h.1 0 w1.toNatClampNeg 5) | skip
                first | have hx_55 := i32_lo (h.1 0 w1.toNatClampNeg 5) | skip
                first | have f56 : (h.1 0 w1.toNatClampNeg 5 : Int32).toInt < (12 : Int32).toInt := Int32.lt_iff_toInt_lt.mp q51 | skip
                obtain ⟨r33, e_r33, S_r33⟩ := z_X1_tellStep w1 w2 w3 w4 w5 h S ff_X1_tellStep pr0 pr1 pr2 pr3 (by omega)
                rw [e_r33, Option.bind_some]
                exact ⟨_, rfl, S_r33⟩
              · rw [if_neg q51]
                have b57 : 0 ≤ (h.1 0 w1.toNatClampNeg 5).toInt ∧ (h.1 0 w1.toNatClampNeg 5).toInt ≤ 12 := (S).1 0 w1.toNatClampNeg 5
                have t58 : (12 : Int32).toInt = 12 := by decide
                first | have hx_59 := i32_hi (h.1 0 w1.toNatClampNeg 5) | skip
                first | have hx_60 := i32_lo (h.1 0 w1.toNatClampNeg 5) | skip
                first | have f61 : (12 : Int32).toInt ≤ (h.1 0 w1.toNatClampNeg 5 : Int32).toInt := Int32.le_iff_toInt_le.mp (Int32.not_lt.mp q51) | skip
                exact ⟨_, rfl, S⟩
        · rw [if_neg q22]
          have t62 : (20 : Int32).toInt = 20 := by decide
          first | have f63 : (20 : Int32).toInt < (w5 : Int32).toInt := Int32.lt_iff_toInt_lt.mp (Int32.not_le.mp q22) | skip
          exact ⟨_, rfl, S⟩
      · rw [if_neg q17]
        have t64 : (1 : Int32).toInt = 1 := by decide
        first | have hx_65 := i32_hi (w2) | skip
        first | have hx_66 := i32_lo (w2) | skip
        first | have f67 : (w2 : Int32).toInt ≠ (1 : Int32).toInt := ti_ne q17 | skip
        by_cases q68 : w5 ≤ 0
        · rw [if_pos q68]
          first | have f69 : (w5 : Int32).toInt ≤ (0 : Int32).toInt := Int32.le_iff_toInt_le.mp q68 | skip
          by_cases q70 : w2 = 3
          · rw [if_pos q70]
            have t71 : (3 : Int32).toInt = 3 := by decide
            first | have f72 : (w2 : Int32).toInt = (3 : Int32).toInt := congrArg Int32.toInt q70 | skip
            have q73 : mIn w1 6 = true := (mIn_bd (by omega) (by omega))
            rw [if_pos q73]
            by_cases q74 : (h.1 0 w1.toNatClampNeg 5) < 12
            · rw [if_pos q74]
              have b75 : 0 ≤ (h.1 0 w1.toNatClampNeg 5).toInt ∧ (h.1 0 w1.toNatClampNeg 5).toInt ≤ 12 := (S).1 0 w1.toNatClampNeg 5
              have t76 : (12 : Int32).toInt = 12 := by decide
              first | have hx_77 := i32_hi (h.1 0 w1.toNatClampNeg 5) | skip
              first | have hx_78 := i32_lo (h.1 0 w1.toNatClampNeg 5) | skip
              first | have f79 : (h.1 0 w1.toNatClampNeg 5 : Int32).toInt < (12 : Int32).toInt := Int32.lt_iff_toInt_lt.mp q74 | skip
              obtain ⟨r16, e_r16, S_r16⟩ := z_X1_tellStep w1 w2 w3 w4 w5 h S ff_X1_tellStep pr0 pr1 pr2 pr3 (by omega)
              rw [e_r16, Option.bind_some]
              exact ⟨_, rfl, S_r16⟩
            · rw [if_neg q74]
              have b80 : 0 ≤ (h.1 0 w1.toNatClampNeg 5).toInt ∧ (h.1 0 w1.toNatClampNeg 5).toInt ≤ 12 := (S).1 0 w1.toNatClampNeg 5
              have t81 : (12 : Int32).toInt = 12 := by decide
              first | have hx_82 := i32_hi (h.1 0 w1.toNatClampNeg 5) | skip
              first | have hx_83 := i32_lo (h.1 0 w1.toNatClampNeg 5) | skip
              first | have f84 : (12 : Int32).toInt ≤ (h.1 0 w1.toNatClampNeg 5 : Int32).toInt := Int32.le_iff_toInt_le.mp (Int32.not_lt.mp q74) | skip
              exact ⟨_, rfl, S⟩
          · rw [if_neg q70]
            have t85 : (3 : Int32).toInt = 3 := by decide
            first | have f86 : (w2 : Int32).toInt ≠ (3 : Int32).toInt := ti_ne q70 | skip
            have q87 : mIn w3 24 = true := (mIn_bd (by omega) (by omega))
            rw [if_pos q87]
            obtain ⟨⟨r18v, r18h⟩, e_r18, (hh_r18 : r18h = h), p_r18_0⟩ := z_X11_allowsStep (h.1 6 w3.toNatClampNeg 3) w2 h S  
            replace hh_r18 := hh_r18.symm
            subst hh_r18
            dsimp only at p_r18_0
            have bb_r18 := bool_bd p_r18_0
            rw [e_r18, Option.bind_some]
            try dsimp only
            by_cases q88 : r18v = 0
            · rw [if_pos q88]
              first | have hx_89 := i32_hi (r18v) | skip
              first | have hx_90 := i32_lo (r18v) | skip
              first | have f91 : (r18v : Int32).toInt = (0 : Int32).toInt := congrArg Int32.toInt q88 | skip
              exact ⟨_, rfl, S⟩
            · rw [if_neg q88]
              first | have hx_92 := i32_hi (r18v) | skip
              first | have hx_93 := i32_lo (r18v) | skip
              first | have f94 : (r18v : Int32).toInt ≠ (0 : Int32).toInt := ti_ne q88 | skip
              have q95 : mIn w1 6 = true := (mIn_bd (by omega) (by omega))
              rw [if_pos q95]
              by_cases q96 : (h.1 0 w1.toNatClampNeg 5) < 12
              · rw [if_pos q96]
                have b97 : 0 ≤ (h.1 0 w1.toNatClampNeg 5).toInt ∧ (h.1 0 w1.toNatClampNeg 5).toInt ≤ 12 := (S).1 0 w1.toNatClampNeg 5
                have t98 : (12 : Int32).toInt = 12 := by decide
                first | have hx_99 := i32_hi (h.1 0 w1.toNatClampNeg 5) | skip
                first | have hx_100 := i32_lo (h.1 0 w1.toNatClampNeg 5) | skip
                first | have f101 : (h.1 0 w1.toNatClampNeg 5 : Int32).toInt < (12 : Int32).toInt := Int32.lt_iff_toInt_lt.mp q96 | skip
                obtain ⟨r22, e_r22, S_r22⟩ := z_X1_tellStep w1 w2 w3 w4 w5 h S ff_X1_tellStep pr0 pr1 pr2 pr3 (by omega)
                rw [e_r22, Option.bind_some]
                exact ⟨_, rfl, S_r22⟩
              · rw [if_neg q96]
                have b102 : 0 ≤ (h.1 0 w1.toNatClampNeg 5).toInt ∧ (h.1 0 w1.toNatClampNeg 5).toInt ≤ 12 := (S).1 0 w1.toNatClampNeg 5
                have t103 : (12 : Int32).toInt = 12 := by decide
                first | have hx_104 := i32_hi (h.1 0 w1.toNatClampNeg 5) | skip
                first | have hx_105 := i32_lo (h.1 0 w1.toNatClampNeg 5) | skip
                first | have f106 : (12 : Int32).toInt ≤ (h.1 0 w1.toNatClampNeg 5 : Int32).toInt := Int32.le_iff_toInt_le.mp (Int32.not_lt.mp q96) | skip
                exact ⟨_, rfl, S⟩
        · rw [if_neg q68]
          first | have f107 : (0 : Int32).toInt < (w5 : Int32).toInt := Int32.lt_iff_toInt_lt.mp (Int32.not_le.mp q68) | skip
          exact ⟨_, rfl, S⟩
set_option maxHeartbeats 400000 in
theorem z_X1_hasAct {fp : Nat → Bool} {b : mH} {m : Nat} (x1 : Int32) (h : mH) (S : SI fp b m h)   : ∃ r, f_X1_hasAct x1 h = some r ∧ r.2 = h ∧ (r.1 = 0 ∨ r.1 = 1) ∧ (r.1.toInt = 0 ∨ (0 ≤ x1.toInt ∧ x1.toInt < 6)) := by
  unfold f_X1_hasAct
  by_cases q1 : x1 < 0
  · rw [if_pos q1]
    have t2 : (0 : Int32).toInt = 0 := by decide
    first | have hx_3 := i32_hi (x1) | skip
    first | have hx_4 := i32_lo (x1) | skip
    first | have f5 : (x1 : Int32).toInt < (0 : Int32).toInt := Int32.lt_iff_toInt_lt.mp q1 | skip
    have pp6 : ((0 : Int32).toInt = 0 ∨ (0 ≤ x1.toInt ∧ x1.toInt < 6)) := by omega
    exact ⟨_, rfl, rfl, (Or.inl rfl), pp6⟩
  · rw [if_neg q1]
    have t7 : (0 : Int32).toInt = 0 := by decide
    first | have hx_8 := i32_hi (x1) | skip
    first | have hx_9 := i32_lo (x1) | skip
    first | have f10 : (0 : Int32).toInt ≤ (x1 : Int32).toInt := Int32.le_iff_toInt_le.mp (Int32.not_lt.mp q1) | skip
    by_cases q11 : x1 < (h.1 1 0 6)
    · rw [if_pos q11]
      have b12 : 0 ≤ (h.1 1 0 6).toInt ∧ (h.1 1 0 6).toInt ≤ 6 := (S).1 1 0 6
      first | have hx_13 := i32_hi (h.1 1 0 6) | skip
      first | have hx_14 := i32_lo (h.1 1 0 6) | skip
      first | have f15 : (x1 : Int32).toInt < (h.1 1 0 6 : Int32).toInt := Int32.lt_iff_toInt_lt.mp q11 | skip
      have t16 : (1 : Int32).toInt = 1 := by decide
      have pp17 : ((1 : Int32).toInt = 0 ∨ (0 ≤ x1.toInt ∧ x1.toInt < 6)) := by omega
      exact ⟨_, rfl, rfl, (Or.inr rfl), pp17⟩
    · rw [if_neg q11]
      have b18 : 0 ≤ (h.1 1 0 6).toInt ∧ (h.1 1 0 6).toInt ≤ 6 := (S).1 1 0 6
      first | have hx_19 := i32_hi (h.1 1 0 6) | skip
      first | have hx_20 := i32_lo (h.1 1 0 6) | skip
      first | have f21 : (h.1 1 0 6 : Int32).toInt ≤ (x1 : Int32).toInt := Int32.le_iff_toInt_le.mp (Int32.not_lt.mp q11) | skip
      have pp22 : ((0 : Int32).toInt = 0 ∨ (0 ≤ x1.toInt ∧ x1.toInt < 6)) := by omega
      exact ⟨_, rfl, rfl, (Or.inl rfl), pp22⟩
def W_X11_step : List Nat := [5, 73, 1280, 1344, 1408, 1472]
set_option maxHeartbeats 400000 in
theorem z_X11_step {fp : Nat → Bool} {b : mH} {m : Nat} (x1 : Int32) (x2 : Int32) (x3 : Int32) (x4 : Int32) (x5 : Int32) (h : mH) (S : SI fp b m h) (ff : ∀ c ∈ W_X11_step, fp c = false)  : ∃ r, f_X11_step x1 x2 x3 x4 x5 h = some r ∧ SI fp b m r.2 := by
  have ff_X11_step_j48 : ∀ c ∈ W_X11_step_j48, fp c = false := fun c hc => ff c ((by decide : ∀ c ∈ W_X11_step_j48, c ∈ W_X11_step) c hc)
  unfold f_X11_step
  obtain ⟨⟨r1v, r1h⟩, e_r1, (hh_r1 : r1h = h), p_r1_0, p_r1_1⟩ := z_X1_hasAct x1 h S  
  replace hh_r1 := hh_r1.symm
  subst hh_r1
  dsimp only at p_r1_0 p_r1_1
  have bb_r1 := bool_bd p_r1_0
  rw [e_r1, Option.bind_some]
  try dsimp only
  by_cases q1 : r1v = 0
  · rw [if_pos q1]
    have t2 : (0 : Int32).toInt = 0 := by decide
    first | have hx_3 := i32_hi (r1v) | skip
    first | have hx_4 := i32_lo (r1v) | skip
    first | have f5 : (r1v : Int32).toInt = (0 : Int32).toInt := congrArg Int32.toInt q1 | skip
    exact ⟨_, rfl, S⟩
  · rw [if_neg q1]
    have t6 : (0 : Int32).toInt = 0 := by decide
    first | have hx_7 := i32_hi (r1v) | skip
    first | have hx_8 := i32_lo (r1v) | skip
    first | have f9 : (r1v : Int32).toInt ≠ (0 : Int32).toInt := ti_ne q1 | skip
    by_cases q10 : x2 < 0
    · rw [if_pos q10]
      first | have hx_11 := i32_hi (x2) | skip
      first | have hx_12 := i32_lo (x2) | skip
      first | have f13 : (x2 : Int32).toInt < (0 : Int32).toInt := Int32.lt_iff_toInt_lt.mp q10 | skip
      exact ⟨_, rfl, S⟩
    · rw [if_neg q10]
      first | have hx_14 := i32_hi (x2) | skip
      first | have hx_15 := i32_lo (x2) | skip
      first | have f16 : (0 : Int32).toInt ≤ (x2 : Int32).toInt := Int32.le_iff_toInt_le.mp (Int32.not_lt.mp q10) | skip
      by_cases q17 : x2 ≤ 3
      · rw [if_pos q17]
        have t18 : (3 : Int32).toInt = 3 := by decide
        first | have f19 : (x2 : Int32).toInt ≤ (3 : Int32).toInt := Int32.le_iff_toInt_le.mp q17 | skip
        by_cases q20 : x2 = 3
        · rw [if_pos q20]
          first | have f21 : (x2 : Int32).toInt = (3 : Int32).toInt := congrArg Int32.toInt q20 | skip
          by_cases q22 : x3 = (-1)
          · rw [if_pos q22]
            have t23 : ((-1) : Int32).toInt = (-1) := by decide
            first | have hx_24 := i32_hi (x3) | skip
            first | have hx_25 := i32_lo (x3) | skip
            first | have f26 : (x3 : Int32).toInt = (-1 : Int32).toInt := congrArg Int32.toInt q22 | skip
            obtain ⟨rr27, e_rr27, S_rr27⟩ := z_X11_step_j48 x1 x2 x3 x4 x5 h S ff_X11_step_j48 (by omega) (by omega) (by omega) (by omega)
            rw [e_rr27]
            exact ⟨_, rfl, S_rr27⟩
          · rw [if_neg q22]
            have t28 : ((-1) : Int32).toInt = (-1) := by decide
            first | have hx_29 := i32_hi (x3) | skip
            first | have hx_30 := i32_lo (x3) | skip
            first | have f31 : (x3 : Int32).toInt ≠ (-1 : Int32).toInt := ti_ne q22 | skip
            exact ⟨_, rfl, S⟩
        · rw [if_neg q20]
          first | have f32 : (x2 : Int32).toInt ≠ (3 : Int32).toInt := ti_ne q20 | skip
          obtain ⟨⟨r6v, r6h⟩, e_r6, (hh_r6 : r6h = h), p_r6_0, p_r6_1⟩ := z_X1_hasField x3 h S  
          replace hh_r6 := hh_r6.symm
          subst hh_r6
          dsimp only at p_r6_0 p_r6_1
          have bb_r6 := bool_bd p_r6_0
          rw [e_r6, Option.bind_some]
          try dsimp only
          by_cases q33 : r6v = 0
          · rw [if_pos q33]
            first | have hx_34 := i32_hi (r6v) | skip
            first | have hx_35 := i32_lo (r6v) | skip
            first | have f36 : (r6v : Int32).toInt = (0 : Int32).toInt := congrArg Int32.toInt q33 | skip
            exact ⟨_, rfl, S⟩
          · rw [if_neg q33]
            first | have hx_37 := i32_hi (r6v) | skip
            first | have hx_38 := i32_lo (r6v) | skip
            first | have f39 : (r6v : Int32).toInt ≠ (0 : Int32).toInt := ti_ne q33 | skip
            obtain ⟨rr40, e_rr40, S_rr40⟩ := z_X11_step_j48 x1 x2 x3 x4 x5 h S ff_X11_step_j48 (by omega) (by omega) (by omega) (by omega)
            rw [e_rr40]
            exact ⟨_, rfl, S_rr40⟩
      · rw [if_neg q17]
        have t41 : (3 : Int32).toInt = 3 := by decide
        first | have f42 : (3 : Int32).toInt < (x2 : Int32).toInt := Int32.lt_iff_toInt_lt.mp (Int32.not_le.mp q17) | skip
        exact ⟨_, rfl, S⟩
def W_X1_dropSteps : List Nat := [5, 73]
set_option maxHeartbeats 400000 in
theorem z_X1_dropSteps {fp : Nat → Bool} {b : mH} {m : Nat} (x1 : Int32) (h : mH) (S : SI fp b m h) (ff : ∀ c ∈ W_X1_dropSteps, fp c = false) (pr0 : (0 ≤ x1.toInt ∧ x1.toInt < 6)) : ∃ r, f_X1_dropSteps x1 h = some r ∧ SI fp b m r.2 := by
  have w5 : fp 5 = false := ff 5 (by decide)
  have w73 : fp 73 = false := ff 73 (by decide)
  unfold f_X1_dropSteps
  have q1 : mIn x1 6 = true := (mIn_bd (by omega) (by omega))
  rw [if_pos q1]
  have t2 : (0 : Int32).toInt = 0 := by decide
  have w_3 : 0 ≤ (0 : Int32).toInt ∧ (0 : Int32).toInt ≤ 12 := by omega
  refine let_ex (fun h2 e_h2 => ?_)
  have S_h2 : SI fp b m h2 := e_h2 ▸ (SI.u S rfl w5 w_3)
  have w_4 : 0 ≤ (0 : Int32).toInt ∧ (0 : Int32).toInt ≤ 1 := by omega
  exact ⟨_, rfl, (SI.u S_h2 rfl w73 w_4)⟩
def W_X11_bare : List Nat := [5, 73]
set_option maxHeartbeats 400000 in
theorem z_X11_bare {fp : Nat → Bool} {b : mH} {m : Nat} (x1 : Int32) (h : mH) (S : SI fp b m h) (ff : ∀ c ∈ W_X11_bare, fp c = false)  : ∃ r, f_X11_bare x1 h = some r ∧ SI fp b m r.2 := by
  have ff_X1_dropSteps : ∀ c ∈ W_X1_dropSteps, fp c = false := fun c hc => ff c ((by decide : ∀ c ∈ W_X1_dropSteps, c ∈ W_X11_bare) c hc)
  unfold f_X11_bare
  obtain ⟨⟨r1v, r1h⟩, e_r1, (hh_r1 : r1h = h), p_r1_0, p_r1_1⟩ := z_X1_hasAct x1 h S  
  replace hh_r1 := hh_r1.symm
  subst hh_r1
  dsimp only at p_r1_0 p_r1_1
  have bb_r1 := bool_bd p_r1_0
  rw [e_r1, Option.bind_some]
  try dsimp only
  by_cases q1 : r1v = 0
  · rw [if_pos q1]
    have t2 : (0 : Int32).toInt = 0 := by decide
    first | have hx_3 := i32_hi (r1v) | skip
    first | have hx_4 := i32_lo (r1v) | skip
    first | have f5 : (r1v : Int32).toInt = (0 : Int32).toInt := congrArg Int32.toInt q1 | skip
    exact ⟨_, rfl, S⟩
  · rw [if_neg q1]
    have t6 : (0 : Int32).toInt = 0 := by decide
    first | have hx_7 := i32_hi (r1v) | skip
    first | have hx_8 := i32_lo (r1v) | skip
    first | have f9 : (r1v : Int32).toInt ≠ (0 : Int32).toInt := ti_ne q1 | skip
    obtain ⟨r3, e_r3, S_r3⟩ := z_X1_dropSteps x1 h S ff_X1_dropSteps (by omega)
    rw [e_r3, Option.bind_some]
    exact ⟨_, rfl, S_r3⟩
def W_X1_changeHandler : List Nat := [73, 393]
set_option maxHeartbeats 400000 in
theorem z_X1_changeHandler {fp : Nat → Bool} {b : mH} {m : Nat} (x1 : Int32) (x2 : Int32) (h : mH) (S : SI fp b m h) (ff : ∀ c ∈ W_X1_changeHandler, fp c = false) (pr0 : (0 ≤ x1.toInt ∧ x1.toInt < 24)) : ∃ r, f_X1_changeHandler x1 x2 h = some r ∧ SI fp b m r.2 := by
  have w73 : fp 73 = false := ff 73 (by decide)
  have w393 : fp 393 = false := ff 393 (by decide)
  unfold f_X1_changeHandler
  have q1 : mIn x1 24 = true := (mIn_bd (by omega) (by omega))
  rw [if_pos q1]
  refine let_ex (fun h2 e_h2 => ?_)
  have S_h2 : SI fp b m h2 := e_h2 ▸ (SI.f S rfl w393 rfl)
  have t2 : (0 : Int32).toInt = 0 := by decide
  have w_3 : 0 ≤ (0 : Int32).toInt ∧ (0 : Int32).toInt ≤ 1 := by omega
  exact ⟨_, rfl, (SI.u S_h2 rfl w73 w_3)⟩
def W_X11_handler : List Nat := [73, 393]
set_option maxHeartbeats 400000 in
theorem z_X11_handler {fp : Nat → Bool} {b : mH} {m : Nat} (x1 : Int32) (x2 : Int32) (h : mH) (S : SI fp b m h) (ff : ∀ c ∈ W_X11_handler, fp c = false)  : ∃ r, f_X11_handler x1 x2 h = some r ∧ SI fp b m r.2 := by
  have ff_X1_changeHandler : ∀ c ∈ W_X1_changeHandler, fp c = false := fun c hc => ff c ((by decide : ∀ c ∈ W_X1_changeHandler, c ∈ W_X11_handler) c hc)
  unfold f_X11_handler
  obtain ⟨⟨r1v, r1h⟩, e_r1, (hh_r1 : r1h = h), p_r1_0, p_r1_1⟩ := z_X1_hasField x1 h S  
  replace hh_r1 := hh_r1.symm
  subst hh_r1
  dsimp only at p_r1_0 p_r1_1
  have bb_r1 := bool_bd p_r1_0
  rw [e_r1, Option.bind_some]
  try dsimp only
  by_cases q1 : r1v = 0
  · rw [if_pos q1]
    have t2 : (0 : Int32).toInt = 0 := by decide
    first | have hx_3 := i32_hi (r1v) | skip
    first | have hx_4 := i32_lo (r1v) | skip
    first | have f5 : (r1v : Int32).toInt = (0 : Int32).toInt := congrArg Int32.toInt q1 | skip
    exact ⟨_, rfl, S⟩
  · rw [if_neg q1]
    have t6 : (0 : Int32).toInt = 0 := by decide
    first | have hx_7 := i32_hi (r1v) | skip
    first | have hx_8 := i32_lo (r1v) | skip
    first | have f9 : (r1v : Int32).toInt ≠ (0 : Int32).toInt := ti_ne q1 | skip
    by_cases q10 : x2 = (-1)
    · rw [if_pos q10]
      have t11 : ((-1) : Int32).toInt = (-1) := by decide
      first | have hx_12 := i32_hi (x2) | skip
      first | have hx_13 := i32_lo (x2) | skip
      first | have f14 : (x2 : Int32).toInt = (-1 : Int32).toInt := congrArg Int32.toInt q10 | skip
      have q15 : mIn x1 24 = true := (mIn_bd (by omega) (by omega))
      rw [if_pos q15]
      by_cases q16 : (h.1 6 x1.toNatClampNeg 3) = 2
      · rw [if_pos q16]
        have t17 : (2 : Int32).toInt = 2 := by decide
        first | have hx_18 := i32_hi (h.1 6 x1.toNatClampNeg 3) | skip
        first | have hx_19 := i32_lo (h.1 6 x1.toNatClampNeg 3) | skip
        first | have f20 : (h.1 6 x1.toNatClampNeg 3 : Int32).toInt = (2 : Int32).toInt := congrArg Int32.toInt q16 | skip
        obtain ⟨r6, e_r6, S_r6⟩ := z_X1_changeHandler x1 x2 h S ff_X1_changeHandler (by omega)
        rw [e_r6, Option.bind_some]
        exact ⟨_, rfl, S_r6⟩
      · rw [if_neg q16]
        have t21 : (2 : Int32).toInt = 2 := by decide
        first | have hx_22 := i32_hi (h.1 6 x1.toNatClampNeg 3) | skip
        first | have hx_23 := i32_lo (h.1 6 x1.toNatClampNeg 3) | skip
        first | have f24 : (h.1 6 x1.toNatClampNeg 3 : Int32).toInt ≠ (2 : Int32).toInt := ti_ne q16 | skip
        exact ⟨_, rfl, S⟩
    · rw [if_neg q10]
      have t25 : ((-1) : Int32).toInt = (-1) := by decide
      first | have hx_26 := i32_hi (x2) | skip
      first | have hx_27 := i32_lo (x2) | skip
      first | have f28 : (x2 : Int32).toInt ≠ (-1 : Int32).toInt := ti_ne q10 | skip
      obtain ⟨⟨r7v, r7h⟩, e_r7, (hh_r7 : r7h = h), p_r7_0, p_r7_1⟩ := z_X1_hasAct x2 h S  
      replace hh_r7 := hh_r7.symm
      subst hh_r7
      dsimp only at p_r7_0 p_r7_1
      have bb_r7 := bool_bd p_r7_0
      rw [e_r7, Option.bind_some]
      try dsimp only
      by_cases q29 : r7v = 0
      · rw [if_pos q29]
        first | have hx_30 := i32_hi (r7v) | skip
        first | have hx_31 := i32_lo (r7v) | skip
        first | have f32 : (r7v : Int32).toInt = (0 : Int32).toInt := congrArg Int32.toInt q29 | skip
        exact ⟨_, rfl, S⟩
      · rw [if_neg q29]
        first | have hx_33 := i32_hi (r7v) | skip
        first | have hx_34 := i32_lo (r7v) | skip
        first | have f35 : (r7v : Int32).toInt ≠ (0 : Int32).toInt := ti_ne q29 | skip
        have q36 : mIn x1 24 = true := (mIn_bd (by omega) (by omega))
        rw [if_pos q36]
        by_cases q37 : (h.1 6 x1.toNatClampNeg 3) = 2
        · rw [if_pos q37]
          have t38 : (2 : Int32).toInt = 2 := by decide
          first | have hx_39 := i32_hi (h.1 6 x1.toNatClampNeg 3) | skip
          first | have hx_40 := i32_lo (h.1 6 x1.toNatClampNeg 3) | skip
          first | have f41 : (h.1 6 x1.toNatClampNeg 3 : Int32).toInt = (2 : Int32).toInt := congrArg Int32.toInt q37 | skip
          obtain ⟨r11, e_r11, S_r11⟩ := z_X1_changeHandler x1 x2 h S ff_X1_changeHandler (by omega)
          rw [e_r11, Option.bind_some]
          exact ⟨_, rfl, S_r11⟩
        · rw [if_neg q37]
          have t42 : (2 : Int32).toInt = 2 := by decide
          first | have hx_43 := i32_hi (h.1 6 x1.toNatClampNeg 3) | skip
          first | have hx_44 := i32_lo (h.1 6 x1.toNatClampNeg 3) | skip
          first | have f45 : (h.1 6 x1.toNatClampNeg 3 : Int32).toInt ≠ (2 : Int32).toInt := ti_ne q37 | skip
          exact ⟨_, rfl, S⟩
def W_X1_changeLocks : List Nat := [71, 73]
set_option maxHeartbeats 400000 in
theorem z_X1_changeLocks {fp : Nat → Bool} {b : mH} {m : Nat} (x1 : Int32) (h : mH) (S : SI fp b m h) (ff : ∀ c ∈ W_X1_changeLocks, fp c = false)  : ∃ r, f_X1_changeLocks x1 h = some r ∧ SI fp b m r.2 := by
  have w71 : fp 71 = false := ff 71 (by decide)
  have w73 : fp 73 = false := ff 73 (by decide)
  unfold f_X1_changeLocks
  refine let_ex (fun h1 e_h1 => ?_)
  have S_h1 : SI fp b m h1 := e_h1 ▸ (SI.f S rfl w71 rfl)
  have t1 : (0 : Int32).toInt = 0 := by decide
  have w_2 : 0 ≤ (0 : Int32).toInt ∧ (0 : Int32).toInt ≤ 1 := by omega
  exact ⟨_, rfl, (SI.u S_h1 rfl w73 w_2)⟩
def W_X11_locks : List Nat := [71, 73]
set_option maxHeartbeats 400000 in
theorem z_X11_locks {fp : Nat → Bool} {b : mH} {m : Nat} (x1 : Int32) (h : mH) (S : SI fp b m h) (ff : ∀ c ∈ W_X11_locks, fp c = false)  : ∃ r, f_X11_locks x1 h = some r ∧ SI fp b m r.2 := by
  have ff_X1_changeLocks : ∀ c ∈ W_X1_changeLocks, fp c = false := fun c hc => ff c ((by decide : ∀ c ∈ W_X1_changeLocks, c ∈ W_X11_locks) c hc)
  unfold f_X11_locks
  by_cases q1 : x1 = 0
  · rw [if_pos q1]
    have t2 : (0 : Int32).toInt = 0 := by decide
    first | have hx_3 := i32_hi (x1) | skip
    first | have hx_4 := i32_lo (x1) | skip
    first | have f5 : (x1 : Int32).toInt = (0 : Int32).toInt := congrArg Int32.toInt q1 | skip
    obtain ⟨r2, e_r2, S_r2⟩ := z_X1_changeLocks x1 h S ff_X1_changeLocks 
    rw [e_r2, Option.bind_some]
    exact ⟨_, rfl, S_r2⟩
  · rw [if_neg q1]
    have t6 : (0 : Int32).toInt = 0 := by decide
    first | have hx_7 := i32_hi (x1) | skip
    first | have hx_8 := i32_lo (x1) | skip
    first | have f9 : (x1 : Int32).toInt ≠ (0 : Int32).toInt := ti_ne q1 | skip
    by_cases q10 : x1 = 1
    · rw [if_pos q10]
      have t11 : (1 : Int32).toInt = 1 := by decide
      first | have f12 : (x1 : Int32).toInt = (1 : Int32).toInt := congrArg Int32.toInt q10 | skip
      obtain ⟨r4, e_r4, S_r4⟩ := z_X1_changeLocks x1 h S ff_X1_changeLocks 
      rw [e_r4, Option.bind_some]
      exact ⟨_, rfl, S_r4⟩
    · rw [if_neg q10]
      have t13 : (1 : Int32).toInt = 1 := by decide
      first | have f14 : (x1 : Int32).toInt ≠ (1 : Int32).toInt := ti_ne q10 | skip
      exact ⟨_, rfl, S⟩
set_option maxHeartbeats 400000 in
theorem z_X1_bitsOfKept_4 {fp : Nat → Bool} {b : mH} {m : Nat} {P : Int32 × mH → Prop} (k : Int32 → Int32 → Int32 → mH → Option (Int32 × mH))  (v1 : Int32) (h : mH) (S : SI fp b m h)  (hk : ∀ (v2 : Int32) (v3 : Int32), 0 ≤ v3.toInt → ∃ r, k v1 v2 v3 h = some r ∧ P r) : ∀ (n : Nat) (v2 : Int32) (v3 : Int32), 0 ≤ v3.toInt → 2147483648 - v3.toInt < n → ∃ r, f_X1_bitsOfKept_4 k  n v1 v2 v3 h = some r ∧ P r := by
  intro n
  induction n with
  | zero =>
    intro v2 v3 iv0 hm
    have hz := i32_hi v3
    omega
  | succ n ih =>
    intro v2 v3 iv0 hm
    rw [f_X1_bitsOfKept_4]
    by_cases q1 : v3 < (h.1 1 0 4)
    · rw [if_pos q1]
      have b2 : 0 ≤ (h.1 1 0 4).toInt ∧ (h.1 1 0 4).toInt ≤ 24 := (S).1 1 0 4
      first | have hx_3 := i32_hi (v3) | skip
      first | have hx_4 := i32_lo (v3) | skip
      first | have hx_5 := i32_hi (h.1 1 0 4) | skip
      first | have hx_6 := i32_lo (h.1 1 0 4) | skip
      first | have f7 : (v3 : Int32).toInt < (h.1 1 0 4 : Int32).toInt := Int32.lt_iff_toInt_lt.mp q1 | skip
      have q8 : mIn v3 24 = true := (mIn_bd (by omega) (by omega))
      rw [if_pos q8]
      by_cases q9 : (h.1 6 v3.toNatClampNeg 0) = v1
      · rw [if_pos q9]
        have b10 : 0 ≤ (h.1 6 v3.toNatClampNeg 0).toInt ∧ (h.1 6 v3.toNatClampNeg 0).toInt ≤ 7 := (S).1 6 v3.toNatClampNeg 0
        first | have hx_11 := i32_hi (h.1 6 v3.toNatClampNeg 0) | skip
        first | have hx_12 := i32_lo (h.1 6 v3.toNatClampNeg 0) | skip
        first | have hx_13 := i32_hi (v1) | skip
        first | have hx_14 := i32_lo (v1) | skip
        first | have f15 : (h.1 6 v3.toNatClampNeg 0 : Int32).toInt = (v1 : Int32).toInt := congrArg Int32.toInt q9 | skip
        obtain ⟨⟨r4v, r4h⟩, e_r4, (hh_r4 : r4h = h), p_r4_0⟩ := z_X6_isKept v3.toNatClampNeg h S  
        replace hh_r4 := hh_r4.symm
        subst hh_r4
        dsimp only at p_r4_0
        have bb_r4 := bool_bd p_r4_0
        rw [e_r4, Option.bind_some]
        try dsimp only
        by_cases q16 : r4v = 0
        · rw [if_pos q16]
          have t17 : (0 : Int32).toInt = 0 := by decide
          first | have hx_18 := i32_hi (r4v) | skip
          first | have hx_19 := i32_lo (r4v) | skip
          first | have f20 : (r4v : Int32).toInt = (0 : Int32).toInt := congrArg Int32.toInt q16 | skip
          have t21 : (1 : Int32).toInt = 1 := by decide
          first | have o22 : (v3 + 1 : Int32).toInt = (v3 : Int32).toInt + (1 : Int32).toInt := ti_add (by omega) (by omega) | skip
          exact ih v2 (v3 + 1) (by omega) (by omega)
        · rw [if_neg q16]
          have t23 : (0 : Int32).toInt = 0 := by decide
          first | have hx_24 := i32_hi (r4v) | skip
          first | have hx_25 := i32_lo (r4v) | skip
          first | have f26 : (r4v : Int32).toInt ≠ (0 : Int32).toInt := ti_ne q16 | skip
          have t27 : (1 : Int32).toInt = 1 := by decide
          first | have o28 : (v3 + 1 : Int32).toInt = (v3 : Int32).toInt + (1 : Int32).toInt := ti_add (by omega) (by omega) | skip
          exact ih (v2 ||| (h.1 6 v3.toNatClampNeg 6)) (v3 + 1) (by omega) (by omega)
      · rw [if_neg q9]
        have b29 : 0 ≤ (h.1 6 v3.toNatClampNeg 0).toInt ∧ (h.1 6 v3.toNatClampNeg 0).toInt ≤ 7 := (S).1 6 v3.toNatClampNeg 0
        first | have hx_30 := i32_hi (h.1 6 v3.toNatClampNeg 0) | skip
        first | have hx_31 := i32_lo (h.1 6 v3.toNatClampNeg 0) | skip
        first | have hx_32 := i32_hi (v1) | skip
        first | have hx_33 := i32_lo (v1) | skip
        first | have f34 : (h.1 6 v3.toNatClampNeg 0 : Int32).toInt ≠ (v1 : Int32).toInt := ti_ne q9 | skip
        have t35 : (1 : Int32).toInt = 1 := by decide
        first | have o36 : (v3 + 1 : Int32).toInt = (v3 : Int32).toInt + (1 : Int32).toInt := ti_add (by omega) (by omega) | skip
        exact ih v2 (v3 + 1) (by omega) (by omega)
    · rw [if_neg q1]
      have b37 : 0 ≤ (h.1 1 0 4).toInt ∧ (h.1 1 0 4).toInt ≤ 24 := (S).1 1 0 4
      first | have hx_38 := i32_hi (v3) | skip
      first | have hx_39 := i32_lo (v3) | skip
      first | have hx_40 := i32_hi (h.1 1 0 4) | skip
      first | have hx_41 := i32_lo (h.1 1 0 4) | skip
      first | have f42 : (h.1 1 0 4 : Int32).toInt ≤ (v3 : Int32).toInt := Int32.le_iff_toInt_le.mp (Int32.not_lt.mp q1) | skip
      exact hk v2 v3 iv0
set_option maxHeartbeats 400000 in
theorem z_X1_bitsOfKept {fp : Nat → Bool} {b : mH} {m : Nat} (x1 : Int32) (h : mH) (S : SI fp b m h)   : ∃ r, f_X1_bitsOfKept x1 h = some r ∧ r.2 = h := by
  unfold f_X1_bitsOfKept
  have t1 : (0 : Int32).toInt = 0 := by decide
  refine z_X1_bitsOfKept_4 _  x1 h S  (fun u7 u8 y2 => ?_)  mFu 0 0 (by omega) (by have := mFu_big; omega)
  try dsimp only
  exact ⟨_, rfl, rfl⟩
set_option maxHeartbeats 400000 in
theorem z_X1_hasHandlers_2 {fp : Nat → Bool} {b : mH} {m : Nat} {P : Int32 × mH → Prop} (k : Int32 → mH → Option (Int32 × mH))   (h : mH) (S : SI fp b m h)  (hk : ∀ (v1 : Int32), 0 ≤ v1.toInt → ∃ r, k v1 h = some r ∧ P r) (he : ∀ rv : Int32, (rv = 0 ∨ rv = 1) → P (rv, h)) : ∀ (n : Nat) (v1 : Int32), 0 ≤ v1.toInt → 2147483648 - v1.toInt < n → ∃ r, f_X1_hasHandlers_2 k  n v1 h = some r ∧ P r := by
  intro n
  induction n with
  | zero =>
    intro v1 iv0 hm
    have hz := i32_hi v1
    omega
  | succ n ih =>
    intro v1 iv0 hm
    rw [f_X1_hasHandlers_2]
    by_cases q1 : v1 < (h.1 1 0 4)
    · rw [if_pos q1]
      have b2 : 0 ≤ (h.1 1 0 4).toInt ∧ (h.1 1 0 4).toInt ≤ 24 := (S).1 1 0 4
      first | have hx_3 := i32_hi (v1) | skip
      first | have hx_4 := i32_lo (v1) | skip
      first | have hx_5 := i32_hi (h.1 1 0 4) | skip
      first | have hx_6 := i32_lo (h.1 1 0 4) | skip
      first | have f7 : (v1 : Int32).toInt < (h.1 1 0 4 : Int32).toInt := Int32.lt_iff_toInt_lt.mp q1 | skip
      have q8 : mIn v1 24 = true := (mIn_bd (by omega) (by omega))
      rw [if_pos q8]
      by_cases q9 : (h.1 6 v1.toNatClampNeg 9) < 0
      · rw [if_pos q9]
        have t10 : (0 : Int32).toInt = 0 := by decide
        first | have hx_11 := i32_hi (h.1 6 v1.toNatClampNeg 9) | skip
        first | have hx_12 := i32_lo (h.1 6 v1.toNatClampNeg 9) | skip
        first | have f13 : (h.1 6 v1.toNatClampNeg 9 : Int32).toInt < (0 : Int32).toInt := Int32.lt_iff_toInt_lt.mp q9 | skip
        have t14 : (1 : Int32).toInt = 1 := by decide
        first | have o15 : (v1 + 1 : Int32).toInt = (v1 : Int32).toInt + (1 : Int32).toInt := ti_add (by omega) (by omega) | skip
        exact ih (v1 + 1) (by omega) (by omega)
      · rw [if_neg q9]
        have t16 : (0 : Int32).toInt = 0 := by decide
        first | have hx_17 := i32_hi (h.1 6 v1.toNatClampNeg 9) | skip
        first | have hx_18 := i32_lo (h.1 6 v1.toNatClampNeg 9) | skip
        first | have f19 : (0 : Int32).toInt ≤ (h.1 6 v1.toNatClampNeg 9 : Int32).toInt := Int32.le_iff_toInt_le.mp (Int32.not_lt.mp q9) | skip
        have t20 : (1 : Int32).toInt = 1 := by decide
        exact ⟨_, rfl, he 1 (Or.inr rfl)⟩
    · rw [if_neg q1]
      have b21 : 0 ≤ (h.1 1 0 4).toInt ∧ (h.1 1 0 4).toInt ≤ 24 := (S).1 1 0 4
      first | have hx_22 := i32_hi (v1) | skip
      first | have hx_23 := i32_lo (v1) | skip
      first | have hx_24 := i32_hi (h.1 1 0 4) | skip
      first | have hx_25 := i32_lo (h.1 1 0 4) | skip
      first | have f26 : (h.1 1 0 4 : Int32).toInt ≤ (v1 : Int32).toInt := Int32.le_iff_toInt_le.mp (Int32.not_lt.mp q1) | skip
      exact hk v1 iv0
set_option maxHeartbeats 400000 in
theorem z_X1_hasHandlers {fp : Nat → Bool} {b : mH} {m : Nat}  (h : mH) (S : SI fp b m h)   : ∃ r, f_X1_hasHandlers h = some r ∧ r.2 = h ∧ (r.1 = 0 ∨ r.1 = 1) := by
  unfold f_X1_hasHandlers
  have t1 : (0 : Int32).toInt = 0 := by decide
  refine z_X1_hasHandlers_2 _   h S  (fun u4 y2 => ?_) (fun rv hp0 => ⟨rfl, hp0⟩) mFu 0 (by omega) (by have := mFu_big; omega)
  try dsimp only
  exact ⟨_, rfl, rfl, (Or.inl rfl)⟩
set_option maxHeartbeats 400000 in
theorem z_X1_isShadowed_2 {fp : Nat → Bool} {b : mH} {m : Nat} {P : Int32 × mH → Prop} (k : Int32 → Int32 → mH → Option (Int32 × mH))  (v1 : Int32) (h : mH) (S : SI fp b m h)  (hk : ∀ (v2 : Int32), 0 ≤ v2.toInt → ∃ r, k v1 v2 h = some r ∧ P r) (he : ∀ rv : Int32, (rv = 0 ∨ rv = 1) → P (rv, h)) : ∀ (n : Nat) (v2 : Int32), 0 ≤ v2.toInt → 2147483648 - v2.toInt < n → ∃ r, f_X1_isShadowed_2 k  n v1 v2 h = some r ∧ P r := by
  intro n
  induction n with
  | zero =>
    intro v2 iv0 hm
    have hz := i32_hi v2
    omega
  | succ n ih =>
    intro v2 iv0 hm
    rw [f_X1_isShadowed_2]
    by_cases q1 : v2 < (h.1 1 0 4)
    · rw [if_pos q1]
      have b2 : 0 ≤ (h.1 1 0 4).toInt ∧ (h.1 1 0 4).toInt ≤ 24 := (S).1 1 0 4
      first | have hx_3 := i32_hi (v2) | skip
      first | have hx_4 := i32_lo (v2) | skip
      first | have hx_5 := i32_hi (h.1 1 0 4) | skip
      first | have hx_6 := i32_lo (h.1 1 0 4) | skip
      first | have f7 : (v2 : Int32).toInt < (h.1 1 0 4 : Int32).toInt := Int32.lt_iff_toInt_lt.mp q1 | skip
      have q8 : mIn v2 24 = true := (mIn_bd (by omega) (by omega))
      rw [if_pos q8]
      by_cases q9 : (h.1 6 v2.toNatClampNeg 0) = v1
      · rw [if_pos q9]
        have b10 : 0 ≤ (h.1 6 v2.toNatClampNeg 0).toInt ∧ (h.1 6 v2.toNatClampNeg 0).toInt ≤ 7 := (S).1 6 v2.toNatClampNeg 0
        first | have hx_11 := i32_hi (h.1 6 v2.toNatClampNeg 0) | skip
        first | have hx_12 := i32_lo (h.1 6 v2.toNatClampNeg 0) | skip
        first | have hx_13 := i32_hi (v1) | skip
        first | have hx_14 := i32_lo (v1) | skip
        first | have f15 : (h.1 6 v2.toNatClampNeg 0 : Int32).toInt = (v1 : Int32).toInt := congrArg Int32.toInt q9 | skip
        by_cases q16 : (h.1 6 v2.toNatClampNeg 3) = 3
        · rw [if_pos q16]
          have t17 : (3 : Int32).toInt = 3 := by decide
          first | have hx_18 := i32_hi (h.1 6 v2.toNatClampNeg 3) | skip
          first | have hx_19 := i32_lo (h.1 6 v2.toNatClampNeg 3) | skip
          first | have f20 : (h.1 6 v2.toNatClampNeg 3 : Int32).toInt = (3 : Int32).toInt := congrArg Int32.toInt q16 | skip
          have t21 : (1 : Int32).toInt = 1 := by decide
          exact ⟨_, rfl, he 1 (Or.inr rfl)⟩
        · rw [if_neg q16]
          have t22 : (3 : Int32).toInt = 3 := by decide
          first | have hx_23 := i32_hi (h.1 6 v2.toNatClampNeg 3) | skip
          first | have hx_24 := i32_lo (h.1 6 v2.toNatClampNeg 3) | skip
          first | have f25 : (h.1 6 v2.toNatClampNeg 3 : Int32).toInt ≠ (3 : Int32).toInt := ti_ne q16 | skip
          by_cases q26 : (h.1 6 v2.toNatClampNeg 3) = 5
          · rw [if_pos q26]
            have t27 : (5 : Int32).toInt = 5 := by decide
            first | have f28 : (h.1 6 v2.toNatClampNeg 3 : Int32).toInt = (5 : Int32).toInt := congrArg Int32.toInt q26 | skip
            have t29 : (1 : Int32).toInt = 1 := by decide
            exact ⟨_, rfl, he 1 (Or.inr rfl)⟩
          · rw [if_neg q26]
            have t30 : (5 : Int32).toInt = 5 := by decide
            first | have f31 : (h.1 6 v2.toNatClampNeg 3 : Int32).toInt ≠ (5 : Int32).toInt := ti_ne q26 | skip
            have t32 : (1 : Int32).toInt = 1 := by decide
            first | have o33 : (v2 + 1 : Int32).toInt = (v2 : Int32).toInt + (1 : Int32).toInt := ti_add (by omega) (by omega) | skip
            exact ih (v2 + 1) (by omega) (by omega)
      · rw [if_neg q9]
        have b34 : 0 ≤ (h.1 6 v2.toNatClampNeg 0).toInt ∧ (h.1 6 v2.toNatClampNeg 0).toInt ≤ 7 := (S).1 6 v2.toNatClampNeg 0
        first | have hx_35 := i32_hi (h.1 6 v2.toNatClampNeg 0) | skip
        first | have hx_36 := i32_lo (h.1 6 v2.toNatClampNeg 0) | skip
        first | have hx_37 := i32_hi (v1) | skip
        first | have hx_38 := i32_lo (v1) | skip
        first | have f39 : (h.1 6 v2.toNatClampNeg 0 : Int32).toInt ≠ (v1 : Int32).toInt := ti_ne q9 | skip
        have t40 : (1 : Int32).toInt = 1 := by decide
        first | have o41 : (v2 + 1 : Int32).toInt = (v2 : Int32).toInt + (1 : Int32).toInt := ti_add (by omega) (by omega) | skip
        exact ih (v2 + 1) (by omega) (by omega)
    · rw [if_neg q1]
      have b42 : 0 ≤ (h.1 1 0 4).toInt ∧ (h.1 1 0 4).toInt ≤ 24 := (S).1 1 0 4
      first | have hx_43 := i32_hi (v2) | skip
      first | have hx_44 := i32_lo (v2) | skip
      first | have hx_45 := i32_hi (h.1 1 0 4) | skip
      first | have hx_46 := i32_lo (h.1 1 0 4) | skip
      first | have f47 : (h.1 1 0 4 : Int32).toInt ≤ (v2 : Int32).toInt := Int32.le_iff_toInt_le.mp (Int32.not_lt.mp q1) | skip
      exact hk v2 iv0
set_option maxHeartbeats 400000 in
theorem z_X1_isShadowed {fp : Nat → Bool} {b : mH} {m : Nat} (x1 : Int32) (h : mH) (S : SI fp b m h)   : ∃ r, f_X1_isShadowed x1 h = some r ∧ r.2 = h ∧ (r.1 = 0 ∨ r.1 = 1) := by
  unfold f_X1_isShadowed
  have t1 : (0 : Int32).toInt = 0 := by decide
  refine z_X1_isShadowed_2 _  x1 h S  (fun u7 y2 => ?_) (fun rv hp0 => ⟨rfl, hp0⟩) mFu 0 (by omega) (by have := mFu_big; omega)
  try dsimp only
  exact ⟨_, rfl, rfl, (Or.inl rfl)⟩
def W_X3_add : List Nat := [193, 2048]
theorem z_X3_add {fp : Nat → Bool} {b : mH} {m : Nat} (i0 : Nat) (x1 x2 x3 x4 x5 x6 : Int32) (h : mH) (S : SI fp b m h) (ff : ∀ c ∈ W_X3_add, fp c = false) (p : okQ x1.toInt x2.toInt) : ∃ r, f_X3_add i0 x1 x2 x3 x4 x5 x6 h = some r ∧ SI fp b m r := by
  unfold f_X3_add
  have b1 : 0 ≤ (h.1 3 i0 1).toInt ∧ (h.1 3 i0 1).toInt ≤ 48 := S.1 3 i0 1
  by_cases q : (h.1 3 i0 1) < 48
  · rw [if_pos q]
    have f1 := Int32.lt_iff_toInt_lt.mp q
    rw [show (48 : Int32).toInt = 48 from by decide] at f1
    have m1 : ((h.1 3 i0 1) * 6).toInt = (h.1 3 i0 1).toInt * 6 := ti_mk (by decide) (by omega) (by omega)
    have e0 : (0 : Int32).toInt = 0 := by decide
    have e1 : (1 : Int32).toInt = 1 := by decide
    have e2 : (2 : Int32).toInt = 2 := by decide
    have e3 : (3 : Int32).toInt = 3 := by decide
    have e4 : (4 : Int32).toInt = 4 := by decide
    have e5 : (5 : Int32).toInt = 5 := by decide
    have a0 : ((h.1 3 i0 1) * 6 + 0).toInt = ((h.1 3 i0 1) * 6).toInt + (0 : Int32).toInt := ti_add (by omega) (by omega)
    have a1 : ((h.1 3 i0 1) * 6 + 1).toInt = ((h.1 3 i0 1) * 6).toInt + (1 : Int32).toInt := ti_add (by omega) (by omega)
    have a2 : ((h.1 3 i0 1) * 6 + 2).toInt = ((h.1 3 i0 1) * 6).toInt + (2 : Int32).toInt := ti_add (by omega) (by omega)
    have a3 : ((h.1 3 i0 1) * 6 + 3).toInt = ((h.1 3 i0 1) * 6).toInt + (3 : Int32).toInt := ti_add (by omega) (by omega)
    have a4 : ((h.1 3 i0 1) * 6 + 4).toInt = ((h.1 3 i0 1) * 6).toInt + (4 : Int32).toInt := ti_add (by omega) (by omega)
    have a5 : ((h.1 3 i0 1) * 6 + 5).toInt = ((h.1 3 i0 1) * 6).toInt + (5 : Int32).toInt := ti_add (by omega) (by omega)
    have n1 : 0 ≤ (h.1 3 i0 1 + 1).toInt ∧ (h.1 3 i0 1 + 1).toInt ≤ 48 := by
      have : (h.1 3 i0 1 + 1).toInt = (h.1 3 i0 1).toInt + (1 : Int32).toInt := ti_add (by omega) (by omega)
      omega
    rw [if_pos (mIn_bd (by omega) (by omega))]
    dsimp only [mLet]
    rw [if_pos (mIn_bd (by omega) (by omega)), if_pos (mIn_bd (by omega) (by omega)), if_pos (mIn_bd (by omega) (by omega)), if_pos (mIn_bd (by omega) (by omega)), if_pos (mIn_bd (by omega) (by omega))]
    refine ⟨_, rfl, ?_⟩
    rw [cl_of (j := 6 * (h.1 3 i0 1).toInt.toNat) (x := (h.1 3 i0 1) * 6 + 0) (by omega), cl_of (j := 6 * (h.1 3 i0 1).toInt.toNat + 1) (x := (h.1 3 i0 1) * 6 + 1) (by omega), cl_of (j := 6 * (h.1 3 i0 1).toInt.toNat + 2) (x := (h.1 3 i0 1) * 6 + 2) (by omega), cl_of (j := 6 * (h.1 3 i0 1).toInt.toNat + 3) (x := (h.1 3 i0 1) * 6 + 3) (by omega), cl_of (j := 6 * (h.1 3 i0 1).toInt.toNat + 4) (x := (h.1 3 i0 1) * 6 + 4) (by omega), cl_of (j := 6 * (h.1 3 i0 1).toInt.toNat + 5) (x := (h.1 3 i0 1) * 6 + 5) (by omega)]
    refine SI.u (SI.code (N := (h.1 3 i0 1).toInt.toNat) (i0 := i0) S (ff 2048 (by decide)) rfl (fun t i k hq => ?_) ?_) rfl (ff 193 (by decide)) n1
    · rw [uI_n _ (fun z => hq ⟨z.1, z.2.1, by omega, by omega⟩), uI_n _ (fun z => hq ⟨z.1, z.2.1, by omega, by omega⟩), uI_n _ (fun z => hq ⟨z.1, z.2.1, by omega, by omega⟩), uI_n _ (fun z => hq ⟨z.1, z.2.1, by omega, by omega⟩), uI_n _ (fun z => hq ⟨z.1, z.2.1, by omega, by omega⟩), uI_n _ (fun z => hq ⟨z.1, z.2.1, by omega, by omega⟩)]
    · have n : ∀ (g : mH) (c d : Nat) (x : Int32), d ≠ c → (uI g 32 i0 c x).1 32 i0 d = g.1 32 i0 d := fun g c d x q => uI_n _ (fun z => q z.2.2)
      rw [n _ _ _ _ (by omega), n _ _ _ _ (by omega), n _ _ _ _ (by omega), n _ _ _ _ (by omega), n _ _ _ _ (by omega), uI_s', n _ _ _ _ (by omega), n _ _ _ _ (by omega), n _ _ _ _ (by omega), n _ _ _ _ (by omega), uI_s']
      exact p
  · rw [if_neg q]
    exact ⟨_, rfl, S⟩
def W_X3_addReadAndWrite_j19 : List Nat := [193, 2048]
set_option maxHeartbeats 400000 in
theorem z_X3_addReadAndWrite_j19 {fp : Nat → Bool} {b : mH} {m : Nat} (j0 : Nat) (w1 : Int32) (w2 : Int32) (w3 : Int32) (h : mH) (S : SI fp b m h) (ff : ∀ c ∈ W_X3_addReadAndWrite_j19, fp c = false) (pr0 : (0 ≤ w1.toInt ∧ w1.toInt ≤ 7)) : ∃ r, f_X3_addReadAndWrite_j19 j0 w1 w2 w3 h = some r ∧ SI fp b m r := by
  have ff_X3_add : ∀ c ∈ W_X3_add, fp c = false := fun c hc => ff c ((by decide : ∀ c ∈ W_X3_add, c ∈ W_X3_addReadAndWrite_j19) c hc)
  unfold f_X3_addReadAndWrite_j19
  have t1 : (0 : Int32).toInt = 0 := by decide
  obtain ⟨r2, e_r2, S_r2⟩ := z_X3_add j0 0 w1 (-2) (-2) (-2) (-2) h S ff_X3_add (by unfold okQ; omega)
  rw [e_r2, Option.bind_some]
  have t2 : (1 : Int32).toInt = 1 := by decide
  obtain ⟨r3, e_r3, S_r3⟩ := z_X3_add j0 1 w1 1 w2 (r2.1 3 j0 5) (-2) r2 S_r2 ff_X3_add (by unfold okQ; omega)
  rw [e_r3, Option.bind_some]
  by_cases q3 : w3 = 0
  · rw [if_pos q3]
    first | have hx_4 := i32_hi (w3) | skip
    first | have hx_5 := i32_lo (w3) | skip
    first | have f6 : (w3 : Int32).toInt = (0 : Int32).toInt := congrArg Int32.toInt q3 | skip
    exact ⟨_, rfl, S_r3⟩
  · rw [if_neg q3]
    first | have hx_7 := i32_hi (w3) | skip
    first | have hx_8 := i32_lo (w3) | skip
    first | have f9 : (w3 : Int32).toInt ≠ (0 : Int32).toInt := ti_ne q3 | skip
    have t10 : (6 : Int32).toInt = 6 := by decide
    have t11 : ((-2) : Int32).toInt = (-2) := by decide
    obtain ⟨r5, e_r5, S_r5⟩ := z_X3_add j0 6 (-2) (-2) (-2) (-2) (-2) r3 S_r3 ff_X3_add (by unfold okQ; omega)
    rw [e_r5, Option.bind_some]
    exact ⟨_, rfl, S_r5⟩
def W_X3_addReadAndWrite : List Nat := [193, 2048]
set_option maxHeartbeats 400000 in
theorem z_X3_addReadAndWrite {fp : Nat → Bool} {b : mH} {m : Nat} (i0 : Nat) (x1 : Int32) (x2 : Int32) (x3 : Int32) (h : mH) (S : SI fp b m h) (ff : ∀ c ∈ W_X3_addReadAndWrite, fp c = false) (pr0 : (0 ≤ x1.toInt ∧ x1.toInt ≤ 7)) : ∃ r, f_X3_addReadAndWrite i0 x1 x2 x3 h = some r ∧ SI fp b m r := by
  have ff_X3_add : ∀ c ∈ W_X3_add, fp c = false := fun c hc => ff c ((by decide : ∀ c ∈ W_X3_add, c ∈ W_X3_addReadAndWrite) c hc)
  have ff_X3_addReadAndWrite_j19 : ∀ c ∈ W_X3_addReadAndWrite_j19, fp c = false := fun c hc => ff c ((by decide : ∀ c ∈ W_X3_addReadAndWrite_j19, c ∈ W_X3_addReadAndWrite) c hc)
  unfold f_X3_addReadAndWrite
  by_cases q1 : x3 = 0
  · rw [if_pos q1]
    have t2 : (0 : Int32).toInt = 0 := by decide
    first | have hx_3 := i32_hi (x3) | skip
    first | have hx_4 := i32_lo (x3) | skip
    first | have f5 : (x3 : Int32).toInt = (0 : Int32).toInt := congrArg Int32.toInt q1 | skip
    obtain ⟨rr6, e_rr6, S_rr6⟩ := z_X3_addReadAndWrite_j19 i0 x1 x2 x3 h S ff_X3_addReadAndWrite_j19 pr0
    rw [e_rr6]
    exact ⟨_, rfl, S_rr6⟩
  · rw [if_neg q1]
    have t7 : (0 : Int32).toInt = 0 := by decide
    first | have hx_8 := i32_hi (x3) | skip
    first | have hx_9 := i32_lo (x3) | skip
    first | have f10 : (x3 : Int32).toInt ≠ (0 : Int32).toInt := ti_ne q1 | skip
    have t11 : (5 : Int32).toInt = 5 := by decide
    have t12 : ((-2) : Int32).toInt = (-2) := by decide
    obtain ⟨r6, e_r6, S_r6⟩ := z_X3_add i0 5 (-2) (-2) (-2) (-2) (-2) h S ff_X3_add (by unfold okQ; omega)
    rw [e_r6, Option.bind_some]
    obtain ⟨rr13, e_rr13, S_rr13⟩ := z_X3_addReadAndWrite_j19 i0 x1 x2 x3 r6 S_r6 ff_X3_addReadAndWrite_j19 pr0
    rw [e_rr13]
    exact ⟨_, rfl, S_rr13⟩
def W_X3_endGroup : List Nat := [193, 194, 2048]
set_option maxHeartbeats 400000 in
theorem z_X3_endGroup {fp : Nat → Bool} {b : mH} {m : Nat} (i0 : Nat) (h : mH) (S : SI fp b m h) (ff : ∀ c ∈ W_X3_endGroup, fp c = false)  : ∃ r, f_X3_endGroup i0 h = some r ∧ SI fp b m r := by
  have ff_X3_add : ∀ c ∈ W_X3_add, fp c = false := fun c hc => ff c ((by decide : ∀ c ∈ W_X3_add, c ∈ W_X3_endGroup) c hc)
  have ff_X3_addReadAndWrite : ∀ c ∈ W_X3_addReadAndWrite, fp c = false := fun c hc => ff c ((by decide : ∀ c ∈ W_X3_addReadAndWrite, c ∈ W_X3_endGroup) c hc)
  have w194 : fp 194 = false := ff 194 (by decide)
  unfold f_X3_endGroup
  by_cases q1 : (h.1 3 i0 2) = 0
  · rw [if_pos q1]
    have t2 : (0 : Int32).toInt = 0 := by decide
    first | have hx_3 := i32_hi (h.1 3 i0 2) | skip
    first | have hx_4 := i32_lo (h.1 3 i0 2) | skip
    first | have f5 : (h.1 3 i0 2 : Int32).toInt = (0 : Int32).toInt := congrArg Int32.toInt q1 | skip
    exact ⟨_, rfl, S⟩
  · rw [if_neg q1]
    have t6 : (0 : Int32).toInt = 0 := by decide
    first | have hx_7 := i32_hi (h.1 3 i0 2) | skip
    first | have hx_8 := i32_lo (h.1 3 i0 2) | skip
    first | have f9 : (h.1 3 i0 2 : Int32).toInt ≠ (0 : Int32).toInt := ti_ne q1 | skip
    refine let_ex (fun h2 e_h2 => ?_)
    have S_h2 : SI fp b m h2 := e_h2 ▸ (SI.f S rfl w194 rfl)
    obtain ⟨⟨r3v, r3h⟩, e_r3, (hh_r3 : r3h = h2)⟩ := z_X1_bitsOfKept (h2.1 3 i0 3) h2 S_h2  
    replace hh_r3 := hh_r3.symm
    subst hh_r3
    rw [e_r3, Option.bind_some]
    try dsimp only
    by_cases q10 : (r3v &&& ((h2.1 3 i0 4) ^^^ (-1))) = 0
    · rw [if_pos q10]
      first | have hx_11 := i32_hi (r3v &&& ((h2.1 3 i0 4) ^^^ (-1))) | skip
      first | have hx_12 := i32_lo (r3v &&& ((h2.1 3 i0 4) ^^^ (-1))) | skip
      first | have f13 : (r3v &&& ((h2.1 3 i0 4) ^^^ (-1)) : Int32).toInt = (0 : Int32).toInt := congrArg Int32.toInt q10 | skip
      have t14 : (1 : Int32).toInt = 1 := by decide
      have b15 : 0 ≤ (h2.1 3 i0 3).toInt ∧ (h2.1 3 i0 3).toInt ≤ 7 := (S_h2).1 3 i0 3
      have l16 : (h2.1 3 i0 3).toInt = (h.1 3 i0 3).toInt := by rw [← e_h2, uI_k _ rfl]
      have b17 : 0 ≤ (h.1 3 i0 3).toInt ∧ (h.1 3 i0 3).toInt ≤ 7 := (S).1 3 i0 3
      obtain ⟨r14, e_r14, S_r14⟩ := z_X3_add i0 1 (h2.1 3 i0 3) 0 0 (h2.1 3 i0 5) (-2) h2 S_h2 ff_X3_add (by unfold okQ; omega)
      rw [e_r14, Option.bind_some]
      exact ⟨_, rfl, S_r14⟩
    · rw [if_neg q10]
      first | have hx_18 := i32_hi (r3v &&& ((h2.1 3 i0 4) ^^^ (-1))) | skip
      first | have hx_19 := i32_lo (r3v &&& ((h2.1 3 i0 4) ^^^ (-1))) | skip
      first | have f20 : (r3v &&& ((h2.1 3 i0 4) ^^^ (-1)) : Int32).toInt ≠ (0 : Int32).toInt := ti_ne q10 | skip
      obtain ⟨⟨r5v, r5h⟩, e_r5, (hh_r5 : r5h = h2), p_r5_0⟩ := z_X1_isShadowed (h2.1 3 i0 3) h2 S_h2  
      replace hh_r5 := hh_r5.symm
      subst hh_r5
      dsimp only at p_r5_0
      have bb_r5 := bool_bd p_r5_0
      rw [e_r5, Option.bind_some]
      try dsimp only
      by_cases q21 : r5v = 0
      · rw [if_pos q21]
        first | have hx_22 := i32_hi (r5v) | skip
        first | have hx_23 := i32_lo (r5v) | skip
        first | have f24 : (r5v : Int32).toInt = (0 : Int32).toInt := congrArg Int32.toInt q21 | skip
        by_cases q25 : (h2.1 1 0 7) = 1
        · rw [if_pos q25]
          have l26 : (h2.1 1 0 7).toInt = (h.1 1 0 7).toInt := by rw [← e_h2, uI_t _ rfl]
          have t27 : (1 : Int32).toInt = 1 := by decide
          first | have hx_28 := i32_hi (h2.1 1 0 7) | skip
          first | have hx_29 := i32_lo (h2.1 1 0 7) | skip
          first | have f30 : (h2.1 1 0 7 : Int32).toInt = (1 : Int32).toInt := congrArg Int32.toInt q25 | skip
          obtain ⟨⟨r9v, r9h⟩, e_r9, (hh_r9 : r9h = h2), p_r9_0⟩ := z_X1_hasHandlers  h2 S_h2  
          replace hh_r9 := hh_r9.symm
          subst hh_r9
          dsimp only at p_r9_0
          have bb_r9 := bool_bd p_r9_0
          rw [e_r9, Option.bind_some]
          try dsimp only
          by_cases q31 : r9v = 0
          · rw [if_pos q31]
            first | have hx_32 := i32_hi (r9v) | skip
            first | have hx_33 := i32_lo (r9v) | skip
            first | have f34 : (r9v : Int32).toInt = (0 : Int32).toInt := congrArg Int32.toInt q31 | skip
            have b35 : 0 ≤ (h2.1 3 i0 3).toInt ∧ (h2.1 3 i0 3).toInt ≤ 7 := (S_h2).1 3 i0 3
            have l36 : (h2.1 3 i0 3).toInt = (h.1 3 i0 3).toInt := by rw [← e_h2, uI_k _ rfl]
            have b37 : 0 ≤ (h.1 3 i0 3).toInt ∧ (h.1 3 i0 3).toInt ≤ 7 := (S).1 3 i0 3
            obtain ⟨r11, e_r11, S_r11⟩ := z_X3_addReadAndWrite i0 (h2.1 3 i0 3) (r3v &&& ((h2.1 3 i0 4) ^^^ (-1))) 0 h2 S_h2 ff_X3_addReadAndWrite (by omega)
            rw [e_r11, Option.bind_some]
            exact ⟨_, rfl, S_r11⟩
          · rw [if_neg q31]
            first | have hx_38 := i32_hi (r9v) | skip
            first | have hx_39 := i32_lo (r9v) | skip
            first | have f40 : (r9v : Int32).toInt ≠ (0 : Int32).toInt := ti_ne q31 | skip
            have b41 : 0 ≤ (h2.1 3 i0 3).toInt ∧ (h2.1 3 i0 3).toInt ≤ 7 := (S_h2).1 3 i0 3
            have l42 : (h2.1 3 i0 3).toInt = (h.1 3 i0 3).toInt := by rw [← e_h2, uI_k _ rfl]
            have b43 : 0 ≤ (h.1 3 i0 3).toInt ∧ (h.1 3 i0 3).toInt ≤ 7 := (S).1 3 i0 3
            obtain ⟨r12, e_r12, S_r12⟩ := z_X3_addReadAndWrite i0 (h2.1 3 i0 3) (r3v &&& ((h2.1 3 i0 4) ^^^ (-1))) 1 h2 S_h2 ff_X3_addReadAndWrite (by omega)
            rw [e_r12, Option.bind_some]
            exact ⟨_, rfl, S_r12⟩
        · rw [if_neg q25]
          have l44 : (h2.1 1 0 7).toInt = (h.1 1 0 7).toInt := by rw [← e_h2, uI_t _ rfl]
          have t45 : (1 : Int32).toInt = 1 := by decide
          first | have hx_46 := i32_hi (h2.1 1 0 7) | skip
          first | have hx_47 := i32_lo (h2.1 1 0 7) | skip
          first | have f48 : (h2.1 1 0 7 : Int32).toInt ≠ (1 : Int32).toInt := ti_ne q25 | skip
          have b49 : 0 ≤ (h2.1 3 i0 3).toInt ∧ (h2.1 3 i0 3).toInt ≤ 7 := (S_h2).1 3 i0 3
          have l50 : (h2.1 3 i0 3).toInt = (h.1 3 i0 3).toInt := by rw [← e_h2, uI_k _ rfl]
          have b51 : 0 ≤ (h.1 3 i0 3).toInt ∧ (h.1 3 i0 3).toInt ≤ 7 := (S).1 3 i0 3
          obtain ⟨r8, e_r8, S_r8⟩ := z_X3_addReadAndWrite i0 (h2.1 3 i0 3) (r3v &&& ((h2.1 3 i0 4) ^^^ (-1))) 0 h2 S_h2 ff_X3_addReadAndWrite (by omega)
          rw [e_r8, Option.bind_some]
          exact ⟨_, rfl, S_r8⟩
      · rw [if_neg q21]
        first | have hx_52 := i32_hi (r5v) | skip
        first | have hx_53 := i32_lo (r5v) | skip
        first | have f54 : (r5v : Int32).toInt ≠ (0 : Int32).toInt := ti_ne q21 | skip
        have t55 : (1 : Int32).toInt = 1 := by decide
        have b56 : 0 ≤ (h2.1 3 i0 3).toInt ∧ (h2.1 3 i0 3).toInt ≤ 7 := (S_h2).1 3 i0 3
        have l57 : (h2.1 3 i0 3).toInt = (h.1 3 i0 3).toInt := by rw [← e_h2, uI_k _ rfl]
        have b58 : 0 ≤ (h.1 3 i0 3).toInt ∧ (h.1 3 i0 3).toInt ≤ 7 := (S).1 3 i0 3
        obtain ⟨r13, e_r13, S_r13⟩ := z_X3_add i0 1 (h2.1 3 i0 3) 2 (r3v &&& ((h2.1 3 i0 4) ^^^ (-1))) (h2.1 3 i0 5) (-2) h2 S_h2 ff_X3_add (by unfold okQ; omega)
        rw [e_r13, Option.bind_some]
        exact ⟨_, rfl, S_r13⟩
set_option maxHeartbeats 400000 in
theorem y_X3_endGroup {fp : Nat → Bool} {b : mH} {m : Nat} (i0 : Nat) (h : mH) (S : SI fp b m h) (ff : ∀ c ∈ W_X3_endGroup, fp c = false)  : ∃ r, f_X3_endGroup i0 h = some r ∧ SI fp b m r ∧ fz (fun c => !(W_X3_endGroup.contains c)) h r := by
  obtain ⟨r, e1, s1⟩ := z_X3_endGroup (fp := fun c => fp c || !(W_X3_endGroup.contains c)) (b := h) (m := 0) i0 h (S.re _) (fun c hc => Bool.or_eq_false_iff.mpr ⟨ff c hc, by rw [List.contains_iff_mem.mpr hc]; rfl⟩) 
  refine ⟨r, e1, SI.mono (S.back s1 (fun c hc => Bool.or_eq_true_iff.mpr (Or.inl hc))) (by omega), fun t i k hc => s1.2.2.1 t i k (Bool.or_eq_true_iff.mpr (Or.inr hc))⟩
def W_X3_addStep : List Nat := [193, 2048]
set_option maxHeartbeats 400000 in
theorem z_X3_addStep {fp : Nat → Bool} {b : mH} {m : Nat} (i0 : Nat) (i1 : Nat) (x2 : Int32) (h : mH) (S : SI fp b m h) (ff : ∀ c ∈ W_X3_addStep, fp c = false) (pr0 : (0 ≤ x2.toInt ∧ x2.toInt < 12)) : ∃ r, f_X3_addStep i0 i1 x2 h = some r ∧ SI fp b m r := by
  have ff_X3_add : ∀ c ∈ W_X3_add, fp c = false := fun c hc => ff c ((by decide : ∀ c ∈ W_X3_add, c ∈ W_X3_addStep) c hc)
  unfold f_X3_addStep
  have q1 : mIn x2 12 = true := (mIn_bd (by omega) (by omega))
  rw [if_pos q1]
  by_cases q2 : (h.1 20 i1 x2.toNatClampNeg) = 3
  · rw [if_pos q2]
    have b3 : 0 ≤ (h.1 20 i1 x2.toNatClampNeg).toInt ∧ (h.1 20 i1 x2.toNatClampNeg).toInt ≤ 3 := (S).1 20 i1 x2.toNatClampNeg
    have b4 : (h.1 20 i1 x2.toNatClampNeg).toInt = 3 ∨ 0 ≤ (h.1 21 i1 x2.toNatClampNeg).toInt := (S).2.1.1 i1 x2.toNatClampNeg
    have t5 : (3 : Int32).toInt = 3 := by decide
    first | have hx_6 := i32_hi (h.1 20 i1 x2.toNatClampNeg) | skip
    first | have hx_7 := i32_lo (h.1 20 i1 x2.toNatClampNeg) | skip
    first | have f8 : (h.1 20 i1 x2.toNatClampNeg : Int32).toInt = (3 : Int32).toInt := congrArg Int32.toInt q2 | skip
    obtain ⟨r3, e_r3, S_r3⟩ := z_X3_add i0 3 (h.1 22 i1 x2.toNatClampNeg) (-2) (-2) (-2) (-2) h S ff_X3_add (by unfold okQ; omega)
    rw [e_r3, Option.bind_some]
    exact ⟨_, rfl, S_r3⟩
  · rw [if_neg q2]
    have b9 : 0 ≤ (h.1 20 i1 x2.toNatClampNeg).toInt ∧ (h.1 20 i1 x2.toNatClampNeg).toInt ≤ 3 := (S).1 20 i1 x2.toNatClampNeg
    have b10 : (h.1 20 i1 x2.toNatClampNeg).toInt = 3 ∨ 0 ≤ (h.1 21 i1 x2.toNatClampNeg).toInt := (S).2.1.1 i1 x2.toNatClampNeg
    have t11 : (3 : Int32).toInt = 3 := by decide
    first | have hx_12 := i32_hi (h.1 20 i1 x2.toNatClampNeg) | skip
    first | have hx_13 := i32_lo (h.1 20 i1 x2.toNatClampNeg) | skip
    first | have f14 : (h.1 20 i1 x2.toNatClampNeg : Int32).toInt ≠ (3 : Int32).toInt := ti_ne q2 | skip
    have b15 : -1 ≤ (h.1 21 i1 x2.toNatClampNeg).toInt ∧ (h.1 21 i1 x2.toNatClampNeg).toInt ≤ 23 := (S).1 21 i1 x2.toNatClampNeg
    obtain ⟨⟨r4v, r4h⟩, e_r4, (hh_r4 : r4h = h), p_r4_0, p_r4_1⟩ := z_X1_hasField (h.1 21 i1 x2.toNatClampNeg) h S  
    replace hh_r4 := hh_r4.symm
    subst hh_r4
    dsimp only at p_r4_0 p_r4_1
    have bb_r4 := bool_bd p_r4_0
    rw [e_r4, Option.bind_some]
    try dsimp only
    by_cases q16 : r4v = 0
    · rw [if_pos q16]
      have t17 : (0 : Int32).toInt = 0 := by decide
      first | have hx_18 := i32_hi (r4v) | skip
      first | have hx_19 := i32_lo (r4v) | skip
      first | have f20 : (r4v : Int32).toInt = (0 : Int32).toInt := congrArg Int32.toInt q16 | skip
      obtain ⟨r11, e_r11, S_r11⟩ := z_X3_add i0 3 (h.1 22 i1 x2.toNatClampNeg) (-2) (-2) (-2) (-2) h S ff_X3_add (by unfold okQ; omega)
      rw [e_r11, Option.bind_some]
      exact ⟨_, rfl, S_r11⟩
    · rw [if_neg q16]
      have t21 : (0 : Int32).toInt = 0 := by decide
      first | have hx_22 := i32_hi (r4v) | skip
      first | have hx_23 := i32_lo (r4v) | skip
      first | have f24 : (r4v : Int32).toInt ≠ (0 : Int32).toInt := ti_ne q16 | skip
      have q25 : mIn (h.1 21 i1 x2.toNatClampNeg) 24 = true := (mIn_bd (by omega) (by omega))
      rw [if_pos q25]
      by_cases q26 : (h.1 20 i1 x2.toNatClampNeg) = 1
      · rw [if_pos q26]
        have t27 : (1 : Int32).toInt = 1 := by decide
        first | have f28 : (h.1 20 i1 x2.toNatClampNeg : Int32).toInt = (1 : Int32).toInt := congrArg Int32.toInt q26 | skip
        have t29 : (2 : Int32).toInt = 2 := by decide
        have b30 : 0 ≤ (h.1 6 ((h.1 21 i1 x2.toNatClampNeg).toNatClampNeg) 0).toInt ∧ (h.1 6 ((h.1 21 i1 x2.toNatClampNeg).toNatClampNeg) 0).toInt ≤ 7 := (S).1 6 ((h.1 21 i1 x2.toNatClampNeg).toNatClampNeg) 0
        obtain ⟨r10, e_r10, S_r10⟩ := z_X3_add i0 2 (h.1 6 ((h.1 21 i1 x2.toNatClampNeg).toNatClampNeg) 0) (-2) (h.1 6 ((h.1 21 i1 x2.toNatClampNeg).toNatClampNeg) 6) ((h.1 22 i1 x2.toNatClampNeg) <<< ((h.1 6 ((h.1 21 i1 x2.toNatClampNeg).toNatClampNeg) 1) &&& 31)) (h.1 23 i1 x2.toNatClampNeg) h S ff_X3_add (by unfold okQ; omega)
        rw [e_r10, Option.bind_some]
        exact ⟨_, rfl, S_r10⟩
      · rw [if_neg q26]
        have t31 : (1 : Int32).toInt = 1 := by decide
        first | have f32 : (h.1 20 i1 x2.toNatClampNeg : Int32).toInt ≠ (1 : Int32).toInt := ti_ne q26 | skip
        have b33 : 0 ≤ (h.1 6 ((h.1 21 i1 x2.toNatClampNeg).toNatClampNeg) 0).toInt ∧ (h.1 6 ((h.1 21 i1 x2.toNatClampNeg).toNatClampNeg) 0).toInt ≤ 7 := (S).1 6 ((h.1 21 i1 x2.toNatClampNeg).toNatClampNeg) 0
        obtain ⟨r8, e_r8, S_r8⟩ := z_X3_add i0 0 (h.1 6 ((h.1 21 i1 x2.toNatClampNeg).toNatClampNeg) 0) (-2) (-2) (-2) (-2) h S ff_X3_add (by unfold okQ; omega)
        rw [e_r8, Option.bind_some]
        have t34 : (4 : Int32).toInt = 4 := by decide
        obtain ⟨r9, e_r9, S_r9⟩ := z_X3_add i0 4 (h.1 21 i1 x2.toNatClampNeg) (-2) (-2) (-2) (-2) r8 S_r8 ff_X3_add (by unfold okQ; omega)
        rw [e_r9, Option.bind_some]
        exact ⟨_, rfl, S_r9⟩
def W_X3_join_j34 : List Nat := [194, 196, 197]
set_option maxHeartbeats 400000 in
theorem z_X3_join_j34 {fp : Nat → Bool} {b : mH} {m : Nat} (j0 : Nat) (w1 : Int32) (w2 : Int32) (j4 : Nat) (h : mH) (S : SI fp b m h) (ff : ∀ c ∈ W_X3_join_j34, fp c = false)  : ∃ r, f_X3_join_j34 j0 w1 w2 j4 h = some r ∧ SI fp b m r := by
  have w194 : fp 194 = false := ff 194 (by decide)
  have w196 : fp 196 = false := ff 196 (by decide)
  have w197 : fp 197 = false := ff 197 (by decide)
  unfold f_X3_join_j34
  refine let_ex (fun h3 e_h3 => ?_)
  have S_h3 : SI fp b m h3 := e_h3 ▸ (SI.f S rfl w194 rfl)
  refine let_ex (fun h4 e_h4 => ?_)
  have S_h4 : SI fp b m h4 := e_h4 ▸ (SI.f S_h3 rfl w196 rfl)
  exact ⟨_, rfl, (SI.f S_h4 rfl w197 rfl)⟩
def W_X3_join : List Nat := [194, 195, 196, 197]
set_option maxHeartbeats 400000 in
theorem z_X3_join {fp : Nat → Bool} {b : mH} {m : Nat} (i0 : Nat) (x1 : Int32) (x2 : Int32) (h : mH) (S : SI fp b m h) (ff : ∀ c ∈ W_X3_join, fp c = false) (pr0 : (0 ≤ x1.toInt ∧ x1.toInt < 24)) : ∃ r, f_X3_join i0 x1 x2 h = some r ∧ SI fp b m r := by
  have ff_X3_join_j34 : ∀ c ∈ W_X3_join_j34, fp c = false := fun c hc => ff c ((by decide : ∀ c ∈ W_X3_join_j34, c ∈ W_X3_join) c hc)
  have w195 : fp 195 = false := ff 195 (by decide)
  have w196 : fp 196 = false := ff 196 (by decide)
  have w197 : fp 197 = false := ff 197 (by decide)
  unfold f_X3_join
  have q1 : mIn x1 24 = true := (mIn_bd (by omega) (by omega))
  rw [if_pos q1]
  by_cases q2 : (h.1 3 i0 2) = 0
  · rw [if_pos q2]
    have t3 : (0 : Int32).toInt = 0 := by decide
    first | have hx_4 := i32_hi (h.1 3 i0 2) | skip
    first | have hx_5 := i32_lo (h.1 3 i0 2) | skip
    first | have f6 : (h.1 3 i0 2 : Int32).toInt = (0 : Int32).toInt := congrArg Int32.toInt q2 | skip
    have b7 : 0 ≤ (h.1 6 x1.toNatClampNeg 0).toInt ∧ (h.1 6 x1.toNatClampNeg 0).toInt ≤ 7 := (S).1 6 x1.toNatClampNeg 0
    have w_8 : 0 ≤ (h.1 6 x1.toNatClampNeg 0 : Int32).toInt ∧ (h.1 6 x1.toNatClampNeg 0 : Int32).toInt ≤ 7 := by omega
    refine let_ex (fun h5 e_h5 => ?_)
    have S_h5 : SI fp b m h5 := e_h5 ▸ (SI.u S rfl w195 w_8)
    refine let_ex (fun h6 e_h6 => ?_)
    have S_h6 : SI fp b m h6 := e_h6 ▸ (SI.f S_h5 rfl w196 rfl)
    obtain ⟨g10, e_g10⟩ : ∃ g, uI h6 3 i0 5 0 = g := ⟨_, rfl⟩
    rw [e_g10]
    have S_g10 : SI fp b m g10 := e_g10 ▸ (SI.f S_h6 rfl w197 rfl)
    obtain ⟨rr9, e_rr9, S_rr9⟩ := z_X3_join_j34 i0 x1 x2 x1.toNatClampNeg g10 S_g10 ff_X3_join_j34 
    rw [e_rr9]
    exact ⟨_, rfl, S_rr9⟩
  · rw [if_neg q2]
    have t11 : (0 : Int32).toInt = 0 := by decide
    first | have hx_12 := i32_hi (h.1 3 i0 2) | skip
    first | have hx_13 := i32_lo (h.1 3 i0 2) | skip
    first | have f14 : (h.1 3 i0 2 : Int32).toInt ≠ (0 : Int32).toInt := ti_ne q2 | skip
    obtain ⟨rr15, e_rr15, S_rr15⟩ := z_X3_join_j34 i0 x1 x2 x1.toNatClampNeg h S ff_X3_join_j34 
    rw [e_rr15]
    exact ⟨_, rfl, S_rr15⟩
set_option maxHeartbeats 400000 in
theorem z_X7_binds {fp : Nat → Bool} {b : mH} {m : Nat} (i0 : Nat) (x1 : Int32) (x2 : Int32) (h : mH) (S : SI fp b m h)   : ∃ r, f_X7_binds i0 x1 x2 h = some r ∧ r.2 = h ∧ (r.1 = 0 ∨ r.1 = 1) := by
  unfold f_X7_binds
  by_cases q1 : (h.1 7 i0 1) = x1
  · rw [if_pos q1]
    have b2 : 0 ≤ (h.1 7 i0 1).toInt ∧ (h.1 7 i0 1).toInt ≤ 23 := (S).1 7 i0 1
    first | have hx_3 := i32_hi (h.1 7 i0 1) | skip
    first | have hx_4 := i32_lo (h.1 7 i0 1) | skip
    first | have hx_5 := i32_hi (x1) | skip
    first | have hx_6 := i32_lo (x1) | skip
    first | have f7 : (h.1 7 i0 1 : Int32).toInt = (x1 : Int32).toInt := congrArg Int32.toInt q1 | skip
    obtain ⟨⟨r5v, r5h⟩, e_r5, (hh_r5 : r5h = h), p_r5_0⟩ := z_X11_isIn x2 (h.1 7 i0 2) h S  
    replace hh_r5 := hh_r5.symm
    subst hh_r5
    dsimp only at p_r5_0
    have bb_r5 := bool_bd p_r5_0
    rw [e_r5, Option.bind_some]
    try dsimp only
    by_cases q8 : r5v = 0
    · rw [if_pos q8]
      have t9 : (0 : Int32).toInt = 0 := by decide
      first | have hx_10 := i32_hi (r5v) | skip
      first | have hx_11 := i32_lo (r5v) | skip
      first | have f12 : (r5v : Int32).toInt = (0 : Int32).toInt := congrArg Int32.toInt q8 | skip
      by_cases q13 : (h.1 7 i0 2) = x1
      · rw [if_pos q13]
        have b14 : 0 ≤ (h.1 7 i0 2).toInt ∧ (h.1 7 i0 2).toInt ≤ 23 := (S).1 7 i0 2
        first | have hx_15 := i32_hi (h.1 7 i0 2) | skip
        first | have hx_16 := i32_lo (h.1 7 i0 2) | skip
        first | have f17 : (h.1 7 i0 2 : Int32).toInt = (x1 : Int32).toInt := congrArg Int32.toInt q13 | skip
        obtain ⟨⟨r8v, r8h⟩, e_r8, (hh_r8 : r8h = h), p_r8_0⟩ := z_X11_isIn x2 (h.1 7 i0 1) h S  
        replace hh_r8 := hh_r8.symm
        subst hh_r8
        dsimp only at p_r8_0
        have bb_r8 := bool_bd p_r8_0
        rw [e_r8, Option.bind_some]
        try dsimp only
        by_cases q18 : r8v = 0
        · rw [if_pos q18]
          first | have hx_19 := i32_hi (r8v) | skip
          first | have hx_20 := i32_lo (r8v) | skip
          first | have f21 : (r8v : Int32).toInt = (0 : Int32).toInt := congrArg Int32.toInt q18 | skip
          exact ⟨_, rfl, rfl, (Or.inl rfl)⟩
        · rw [if_neg q18]
          first | have hx_22 := i32_hi (r8v) | skip
          first | have hx_23 := i32_lo (r8v) | skip
          first | have f24 : (r8v : Int32).toInt ≠ (0 : Int32).toInt := ti_ne q18 | skip
          have t25 : (1 : Int32).toInt = 1 := by decide
          exact ⟨_, rfl, rfl, (Or.inr rfl)⟩
      · rw [if_neg q13]
        have b26 : 0 ≤ (h.1 7 i0 2).toInt ∧ (h.1 7 i0 2).toInt ≤ 23 := (S).1 7 i0 2
        first | have hx_27 := i32_hi (h.1 7 i0 2) | skip
        first | have hx_28 := i32_lo (h.1 7 i0 2) | skip
        first | have f29 : (h.1 7 i0 2 : Int32).toInt ≠ (x1 : Int32).toInt := ti_ne q13 | skip
        exact ⟨_, rfl, rfl, (Or.inl rfl)⟩
    · rw [if_neg q8]
      have t30 : (0 : Int32).toInt = 0 := by decide
      first | have hx_31 := i32_hi (r5v) | skip
      first | have hx_32 := i32_lo (r5v) | skip
      first | have f33 : (r5v : Int32).toInt ≠ (0 : Int32).toInt := ti_ne q8 | skip
      have t34 : (1 : Int32).toInt = 1 := by decide
      exact ⟨_, rfl, rfl, (Or.inr rfl)⟩
  · rw [if_neg q1]
    have b35 : 0 ≤ (h.1 7 i0 1).toInt ∧ (h.1 7 i0 1).toInt ≤ 23 := (S).1 7 i0 1
    first | have hx_36 := i32_hi (h.1 7 i0 1) | skip
    first | have hx_37 := i32_lo (h.1 7 i0 1) | skip
    first | have hx_38 := i32_hi (x1) | skip
    first | have hx_39 := i32_lo (x1) | skip
    first | have f40 : (h.1 7 i0 1 : Int32).toInt ≠ (x1 : Int32).toInt := ti_ne q1 | skip
    by_cases q41 : (h.1 7 i0 2) = x1
    · rw [if_pos q41]
      have b42 : 0 ≤ (h.1 7 i0 2).toInt ∧ (h.1 7 i0 2).toInt ≤ 23 := (S).1 7 i0 2
      first | have hx_43 := i32_hi (h.1 7 i0 2) | skip
      first | have hx_44 := i32_lo (h.1 7 i0 2) | skip
      first | have f45 : (h.1 7 i0 2 : Int32).toInt = (x1 : Int32).toInt := congrArg Int32.toInt q41 | skip
      obtain ⟨⟨r3v, r3h⟩, e_r3, (hh_r3 : r3h = h), p_r3_0⟩ := z_X11_isIn x2 (h.1 7 i0 1) h S  
      replace hh_r3 := hh_r3.symm
      subst hh_r3
      dsimp only at p_r3_0
      have bb_r3 := bool_bd p_r3_0
      rw [e_r3, Option.bind_some]
      try dsimp only
      by_cases q46 : r3v = 0
      · rw [if_pos q46]
        have t47 : (0 : Int32).toInt = 0 := by decide
        first | have hx_48 := i32_hi (r3v) | skip
        first | have hx_49 := i32_lo (r3v) | skip
        first | have f50 : (r3v : Int32).toInt = (0 : Int32).toInt := congrArg Int32.toInt q46 | skip
        exact ⟨_, rfl, rfl, (Or.inl rfl)⟩
      · rw [if_neg q46]
        have t51 : (0 : Int32).toInt = 0 := by decide
        first | have hx_52 := i32_hi (r3v) | skip
        first | have hx_53 := i32_lo (r3v) | skip
        first | have f54 : (r3v : Int32).toInt ≠ (0 : Int32).toInt := ti_ne q46 | skip
        have t55 : (1 : Int32).toInt = 1 := by decide
        exact ⟨_, rfl, rfl, (Or.inr rfl)⟩
    · rw [if_neg q41]
      have b56 : 0 ≤ (h.1 7 i0 2).toInt ∧ (h.1 7 i0 2).toInt ≤ 23 := (S).1 7 i0 2
      first | have hx_57 := i32_hi (h.1 7 i0 2) | skip
      first | have hx_58 := i32_lo (h.1 7 i0 2) | skip
      first | have f59 : (h.1 7 i0 2 : Int32).toInt ≠ (x1 : Int32).toInt := ti_ne q41 | skip
      have t60 : (0 : Int32).toInt = 0 := by decide
      exact ⟨_, rfl, rfl, (Or.inl rfl)⟩
set_option maxHeartbeats 400000 in
theorem z_X1_isBound_2 {fp : Nat → Bool} {b : mH} {m : Nat} {P : Int32 × mH → Prop} (k : Int32 → Int32 → Int32 → mH → Option (Int32 × mH))  (v1 : Int32) (v2 : Int32) (h : mH) (S : SI fp b m h)  (hk : ∀ (v3 : Int32), 0 ≤ v3.toInt → ∃ r, k v1 v2 v3 h = some r ∧ P r) (he : ∀ rv : Int32, (rv = 0 ∨ rv = 1) → P (rv, h)) : ∀ (n : Nat) (v3 : Int32), 0 ≤ v3.toInt → 2147483648 - v3.toInt < n → ∃ r, f_X1_isBound_2 k  n v1 v2 v3 h = some r ∧ P r := by
  intro n
  induction n with
  | zero =>
    intro v3 iv0 hm
    have hz := i32_hi v3
    omega
  | succ n ih =>
    intro v3 iv0 hm
    rw [f_X1_isBound_2]
    by_cases q1 : v3 < (h.1 1 0 5)
    · rw [if_pos q1]
      have b2 : 0 ≤ (h.1 1 0 5).toInt ∧ (h.1 1 0 5).toInt ≤ 12 := (S).1 1 0 5
      first | have hx_3 := i32_hi (v3) | skip
      first | have hx_4 := i32_lo (v3) | skip
      first | have hx_5 := i32_hi (h.1 1 0 5) | skip
      first | have hx_6 := i32_lo (h.1 1 0 5) | skip
      first | have f7 : (v3 : Int32).toInt < (h.1 1 0 5 : Int32).toInt := Int32.lt_iff_toInt_lt.mp q1 | skip
      have q8 : mIn v3 12 = true := (mIn_bd (by omega) (by omega))
      rw [if_pos q8]
      obtain ⟨⟨r3v, r3h⟩, e_r3, (hh_r3 : r3h = h), p_r3_0⟩ := z_X7_binds v3.toNatClampNeg v1 v2 h S  
      replace hh_r3 := hh_r3.symm
      subst hh_r3
      dsimp only at p_r3_0
      have bb_r3 := bool_bd p_r3_0
      rw [e_r3, Option.bind_some]
      try dsimp only
      by_cases q9 : r3v = 0
      · rw [if_pos q9]
        have t10 : (0 : Int32).toInt = 0 := by decide
        first | have hx_11 := i32_hi (r3v) | skip
        first | have hx_12 := i32_lo (r3v) | skip
        first | have f13 : (r3v : Int32).toInt = (0 : Int32).toInt := congrArg Int32.toInt q9 | skip
        have t14 : (1 : Int32).toInt = 1 := by decide
        first | have o15 : (v3 + 1 : Int32).toInt = (v3 : Int32).toInt + (1 : Int32).toInt := ti_add (by omega) (by omega) | skip
        exact ih (v3 + 1) (by omega) (by omega)
      · rw [if_neg q9]
        have t16 : (0 : Int32).toInt = 0 := by decide
        first | have hx_17 := i32_hi (r3v) | skip
        first | have hx_18 := i32_lo (r3v) | skip
        first | have f19 : (r3v : Int32).toInt ≠ (0 : Int32).toInt := ti_ne q9 | skip
        have t20 : (1 : Int32).toInt = 1 := by decide
        exact ⟨_, rfl, he 1 (Or.inr rfl)⟩
    · rw [if_neg q1]
      have b21 : 0 ≤ (h.1 1 0 5).toInt ∧ (h.1 1 0 5).toInt ≤ 12 := (S).1 1 0 5
      first | have hx_22 := i32_hi (v3) | skip
      first | have hx_23 := i32_lo (v3) | skip
      first | have hx_24 := i32_hi (h.1 1 0 5) | skip
      first | have hx_25 := i32_lo (h.1 1 0 5) | skip
      first | have f26 : (h.1 1 0 5 : Int32).toInt ≤ (v3 : Int32).toInt := Int32.le_iff_toInt_le.mp (Int32.not_lt.mp q1) | skip
      exact hk v3 iv0
set_option maxHeartbeats 400000 in
theorem z_X1_isBound {fp : Nat → Bool} {b : mH} {m : Nat} (x1 : Int32) (x2 : Int32) (h : mH) (S : SI fp b m h)   : ∃ r, f_X1_isBound x1 x2 h = some r ∧ r.2 = h ∧ (r.1 = 0 ∨ r.1 = 1) := by
  unfold f_X1_isBound
  have t1 : (0 : Int32).toInt = 0 := by decide
  refine z_X1_isBound_2 _  x1 x2 h S  (fun u7 y2 => ?_) (fun rv hp0 => ⟨rfl, hp0⟩) mFu 0 (by omega) (by have := mFu_big; omega)
  try dsimp only
  exact ⟨_, rfl, rfl, (Or.inl rfl)⟩
set_option maxHeartbeats 400000 in
theorem z_X3_joinsGroup {fp : Nat → Bool} {b : mH} {m : Nat} (i0 : Nat) (x1 : Int32) (h : mH) (S : SI fp b m h)  (pr0 : (0 ≤ x1.toInt ∧ x1.toInt < 24)) : ∃ r, f_X3_joinsGroup i0 x1 h = some r ∧ r.2 = h ∧ (r.1 = 0 ∨ r.1 = 1) := by
  unfold f_X3_joinsGroup
  by_cases q1 : (h.1 3 i0 2) = 0
  · rw [if_pos q1]
    have t2 : (0 : Int32).toInt = 0 := by decide
    first | have hx_3 := i32_hi (h.1 3 i0 2) | skip
    first | have hx_4 := i32_lo (h.1 3 i0 2) | skip
    first | have f5 : (h.1 3 i0 2 : Int32).toInt = (0 : Int32).toInt := congrArg Int32.toInt q1 | skip
    exact ⟨_, rfl, rfl, (Or.inl rfl)⟩
  · rw [if_neg q1]
    have t6 : (0 : Int32).toInt = 0 := by decide
    first | have hx_7 := i32_hi (h.1 3 i0 2) | skip
    first | have hx_8 := i32_lo (h.1 3 i0 2) | skip
    first | have f9 : (h.1 3 i0 2 : Int32).toInt ≠ (0 : Int32).toInt := ti_ne q1 | skip
    have q10 : mIn x1 24 = true := (mIn_bd (by omega) (by omega))
    rw [if_pos q10]
    by_cases q11 : (h.1 6 x1.toNatClampNeg 0) = (h.1 3 i0 3)
    · rw [if_pos q11]
      have b12 : 0 ≤ (h.1 6 x1.toNatClampNeg 0).toInt ∧ (h.1 6 x1.toNatClampNeg 0).toInt ≤ 7 := (S).1 6 x1.toNatClampNeg 0
      have b13 : 0 ≤ (h.1 3 i0 3).toInt ∧ (h.1 3 i0 3).toInt ≤ 7 := (S).1 3 i0 3
      first | have hx_14 := i32_hi (h.1 6 x1.toNatClampNeg 0) | skip
      first | have hx_15 := i32_lo (h.1 6 x1.toNatClampNeg 0) | skip
      first | have hx_16 := i32_hi (h.1 3 i0 3) | skip
      first | have hx_17 := i32_lo (h.1 3 i0 3) | skip
      first | have f18 : (h.1 6 x1.toNatClampNeg 0 : Int32).toInt = (h.1 3 i0 3 : Int32).toInt := congrArg Int32.toInt q11 | skip
      obtain ⟨⟨r4v, r4h⟩, e_r4, (hh_r4 : r4h = h), p_r4_0⟩ := z_X11_isIn (h.1 3 i0 2) x1 h S  
      replace hh_r4 := hh_r4.symm
      subst hh_r4
      dsimp only at p_r4_0
      have bb_r4 := bool_bd p_r4_0
      rw [e_r4, Option.bind_some]
      try dsimp only
      by_cases q19 : r4v = 0
      · rw [if_pos q19]
        first | have hx_20 := i32_hi (r4v) | skip
        first | have hx_21 := i32_lo (r4v) | skip
        first | have f22 : (r4v : Int32).toInt = (0 : Int32).toInt := congrArg Int32.toInt q19 | skip
        obtain ⟨⟨r6v, r6h⟩, e_r6, (hh_r6 : r6h = h), p_r6_0⟩ := z_X1_isBound x1 (h.1 3 i0 2) h S  
        replace hh_r6 := hh_r6.symm
        subst hh_r6
        dsimp only at p_r6_0
        have bb_r6 := bool_bd p_r6_0
        rw [e_r6, Option.bind_some]
        try dsimp only
        by_cases q23 : r6v = 0
        · rw [if_pos q23]
          first | have hx_24 := i32_hi (r6v) | skip
          first | have hx_25 := i32_lo (r6v) | skip
          first | have f26 : (r6v : Int32).toInt = (0 : Int32).toInt := congrArg Int32.toInt q23 | skip
          have t27 : (1 : Int32).toInt = 1 := by decide
          exact ⟨_, rfl, rfl, (Or.inr rfl)⟩
        · rw [if_neg q23]
          first | have hx_28 := i32_hi (r6v) | skip
          first | have hx_29 := i32_lo (r6v) | skip
          first | have f30 : (r6v : Int32).toInt ≠ (0 : Int32).toInt := ti_ne q23 | skip
          exact ⟨_, rfl, rfl, (Or.inl rfl)⟩
      · rw [if_neg q19]
        first | have hx_31 := i32_hi (r4v) | skip
        first | have hx_32 := i32_lo (r4v) | skip
        first | have f33 : (r4v : Int32).toInt ≠ (0 : Int32).toInt := ti_ne q19 | skip
        exact ⟨_, rfl, rfl, (Or.inl rfl)⟩
    · rw [if_neg q11]
      have b34 : 0 ≤ (h.1 6 x1.toNatClampNeg 0).toInt ∧ (h.1 6 x1.toNatClampNeg 0).toInt ≤ 7 := (S).1 6 x1.toNatClampNeg 0
      have b35 : 0 ≤ (h.1 3 i0 3).toInt ∧ (h.1 3 i0 3).toInt ≤ 7 := (S).1 3 i0 3
      first | have hx_36 := i32_hi (h.1 6 x1.toNatClampNeg 0) | skip
      first | have hx_37 := i32_lo (h.1 6 x1.toNatClampNeg 0) | skip
      first | have hx_38 := i32_hi (h.1 3 i0 3) | skip
      first | have hx_39 := i32_lo (h.1 3 i0 3) | skip
      first | have f40 : (h.1 6 x1.toNatClampNeg 0 : Int32).toInt ≠ (h.1 3 i0 3 : Int32).toInt := ti_ne q11 | skip
      exact ⟨_, rfl, rfl, (Or.inl rfl)⟩
def W_X3_makeFrom_12 : List Nat := [193, 194, 195, 196, 197, 2048]
set_option maxHeartbeats 400000 in
theorem z_X3_makeFrom_12 {fp : Nat → Bool} {b : mH} {m : Nat} {P : mH → Prop} (k : Int32 → mH → Option (mH)) (j0 : Nat) (j1 : Nat)  (ff : ∀ c ∈ W_X3_makeFrom_12, fp c = false)  (hk : ∀ (v3 : Int32) (h : mH), SI fp b m h → 0 ≤ v3.toInt → ∃ r, k v3 h = some r ∧ P r) : ∀ (n : Nat) (v3 : Int32) (h : mH), SI fp b m h → 0 ≤ v3.toInt → 2147483648 - v3.toInt < n → ∃ r, f_X3_makeFrom_12 k j0 j1 n v3 h = some r ∧ P r := by
  have ff_X3_addStep : ∀ c ∈ W_X3_addStep, fp c = false := fun c hc => ff c ((by decide : ∀ c ∈ W_X3_addStep, c ∈ W_X3_makeFrom_12) c hc)
  have ff_X3_endGroup : ∀ c ∈ W_X3_endGroup, fp c = false := fun c hc => ff c ((by decide : ∀ c ∈ W_X3_endGroup, c ∈ W_X3_makeFrom_12) c hc)
  have ff_X3_join : ∀ c ∈ W_X3_join, fp c = false := fun c hc => ff c ((by decide : ∀ c ∈ W_X3_join, c ∈ W_X3_makeFrom_12) c hc)
  intro n
  induction n with
  | zero =>
    intro v3 h S iv0 hm
    have hz := i32_hi v3
    omega
  | succ n ih =>
    intro v3 h S iv0 hm
    rw [f_X3_makeFrom_12]
    by_cases q1 : v3 < (h.1 0 j1 5)
    · rw [if_pos q1]
      have b2 : 0 ≤ (h.1 0 j1 5).toInt ∧ (h.1 0 j1 5).toInt ≤ 12 := (S).1 0 j1 5
      first | have hx_3 := i32_hi (v3) | skip
      first | have hx_4 := i32_lo (v3) | skip
      first | have hx_5 := i32_hi (h.1 0 j1 5) | skip
      first | have hx_6 := i32_lo (h.1 0 j1 5) | skip
      first | have f7 : (v3 : Int32).toInt < (h.1 0 j1 5 : Int32).toInt := Int32.lt_iff_toInt_lt.mp q1 | skip
      have q8 : mIn v3 12 = true := (mIn_bd (by omega) (by omega))
      rw [if_pos q8]
      by_cases q9 : (h.1 20 j1 v3.toNatClampNeg) = 0
      · rw [if_pos q9]
        have b10 : 0 ≤ (h.1 20 j1 v3.toNatClampNeg).toInt ∧ (h.1 20 j1 v3.toNatClampNeg).toInt ≤ 3 := (S).1 20 j1 v3.toNatClampNeg
        have b11 : (h.1 20 j1 v3.toNatClampNeg).toInt = 3 ∨ 0 ≤ (h.1 21 j1 v3.toNatClampNeg).toInt := (S).2.1.1 j1 v3.toNatClampNeg
        have t12 : (0 : Int32).toInt = 0 := by decide
        first | have hx_13 := i32_hi (h.1 20 j1 v3.toNatClampNeg) | skip
        first | have hx_14 := i32_lo (h.1 20 j1 v3.toNatClampNeg) | skip
        first | have f15 : (h.1 20 j1 v3.toNatClampNeg : Int32).toInt = (0 : Int32).toInt := congrArg Int32.toInt q9 | skip
        have b16 : -1 ≤ (h.1 21 j1 v3.toNatClampNeg).toInt ∧ (h.1 21 j1 v3.toNatClampNeg).toInt ≤ 23 := (S).1 21 j1 v3.toNatClampNeg
        obtain ⟨⟨r7v, r7h⟩, e_r7, (hh_r7 : r7h = h), p_r7_0⟩ := z_X3_joinsGroup j0 (h.1 21 j1 v3.toNatClampNeg) h S  (by omega)
        replace hh_r7 := hh_r7.symm
        subst hh_r7
        dsimp only at p_r7_0
        have bb_r7 := bool_bd p_r7_0
        rw [e_r7, Option.bind_some]
        try dsimp only
        by_cases q17 : r7v = 0
        · rw [if_pos q17]
          first | have hx_18 := i32_hi (r7v) | skip
          first | have hx_19 := i32_lo (r7v) | skip
          first | have f20 : (r7v : Int32).toInt = (0 : Int32).toInt := congrArg Int32.toInt q17 | skip
          obtain ⟨r10, e_r10, S_r10, fr_r10⟩ := y_X3_endGroup j0 h S ff_X3_endGroup 
          rw [e_r10, Option.bind_some]
          have b21 : -1 ≤ (r10.1 21 j1 v3.toNatClampNeg).toInt ∧ (r10.1 21 j1 v3.toNatClampNeg).toInt ≤ 23 := (S_r10).1 21 j1 v3.toNatClampNeg
          have b22 : (r10.1 20 j1 v3.toNatClampNeg).toInt = 3 ∨ 0 ≤ (r10.1 21 j1 v3.toNatClampNeg).toInt := (S_r10).2.1.1 j1 v3.toNatClampNeg
          have l23 : (r10.1 21 j1 v3.toNatClampNeg).toInt = (h.1 21 j1 v3.toNatClampNeg).toInt := congrArg Int32.toInt (fr_r10 21 j1 v3.toNatClampNeg rfl).1
          obtain ⟨r11, e_r11, S_r11⟩ := z_X3_join j0 (r10.1 21 j1 v3.toNatClampNeg) (r10.1 22 j1 v3.toNatClampNeg) r10 S_r10 ff_X3_join (by omega)
          rw [e_r11, Option.bind_some]
          have t24 : (1 : Int32).toInt = 1 := by decide
          first | have o25 : (v3 + 1 : Int32).toInt = (v3 : Int32).toInt + (1 : Int32).toInt := ti_add (by omega) (by omega) | skip
          exact ih (v3 + 1) r11 S_r11 (by omega) (by omega)
        · rw [if_neg q17]
          first | have hx_26 := i32_hi (r7v) | skip
          first | have hx_27 := i32_lo (r7v) | skip
          first | have f28 : (r7v : Int32).toInt ≠ (0 : Int32).toInt := ti_ne q17 | skip
          obtain ⟨r9, e_r9, S_r9⟩ := z_X3_join j0 (h.1 21 j1 v3.toNatClampNeg) (h.1 22 j1 v3.toNatClampNeg) h S ff_X3_join (by omega)
          rw [e_r9, Option.bind_some]
          have t29 : (1 : Int32).toInt = 1 := by decide
          first | have o30 : (v3 + 1 : Int32).toInt = (v3 : Int32).toInt + (1 : Int32).toInt := ti_add (by omega) (by omega) | skip
          exact ih (v3 + 1) r9 S_r9 (by omega) (by omega)
      · rw [if_neg q9]
        have b31 : 0 ≤ (h.1 20 j1 v3.toNatClampNeg).toInt ∧ (h.1 20 j1 v3.toNatClampNeg).toInt ≤ 3 := (S).1 20 j1 v3.toNatClampNeg
        have b32 : (h.1 20 j1 v3.toNatClampNeg).toInt = 3 ∨ 0 ≤ (h.1 21 j1 v3.toNatClampNeg).toInt := (S).2.1.1 j1 v3.toNatClampNeg
        have t33 : (0 : Int32).toInt = 0 := by decide
        first | have hx_34 := i32_hi (h.1 20 j1 v3.toNatClampNeg) | skip
        first | have hx_35 := i32_lo (h.1 20 j1 v3.toNatClampNeg) | skip
        first | have f36 : (h.1 20 j1 v3.toNatClampNeg : Int32).toInt ≠ (0 : Int32).toInt := ti_ne q9 | skip
        obtain ⟨r5, e_r5, S_r5, fr_r5⟩ := y_X3_endGroup j0 h S ff_X3_endGroup 
        rw [e_r5, Option.bind_some]
        obtain ⟨r6, e_r6, S_r6⟩ := z_X3_addStep j0 j1 v3 r5 S_r5 ff_X3_addStep (by omega)
        rw [e_r6, Option.bind_some]
        have t37 : (1 : Int32).toInt = 1 := by decide
        first | have o38 : (v3 + 1 : Int32).toInt = (v3 : Int32).toInt + (1 : Int32).toInt := ti_add (by omega) (by omega) | skip
        exact ih (v3 + 1) r6 S_r6 (by omega) (by omega)
    · rw [if_neg q1]
      have b39 : 0 ≤ (h.1 0 j1 5).toInt ∧ (h.1 0 j1 5).toInt ≤ 12 := (S).1 0 j1 5
      first | have hx_40 := i32_hi (v3) | skip
      first | have hx_41 := i32_lo (v3) | skip
      first | have hx_42 := i32_hi (h.1 0 j1 5) | skip
      first | have hx_43 := i32_lo (h.1 0 j1 5) | skip
      first | have f44 : (h.1 0 j1 5 : Int32).toInt ≤ (v3 : Int32).toInt := Int32.le_iff_toInt_le.mp (Int32.not_lt.mp q1) | skip
      exact hk v3 h S iv0
def W_X3_makeFrom : List Nat := [193, 194, 195, 196, 197, 2048]
set_option maxHeartbeats 400000 in
theorem z_X3_makeFrom {fp : Nat → Bool} {b : mH} {m : Nat} (i0 : Nat) (i1 : Nat) (h : mH) (S : SI fp b m h) (ff : ∀ c ∈ W_X3_makeFrom, fp c = false)  : ∃ r, f_X3_makeFrom i0 i1 h = some r ∧ SI fp b m r := by
  have ff_X3_endGroup : ∀ c ∈ W_X3_endGroup, fp c = false := fun c hc => ff c ((by decide : ∀ c ∈ W_X3_endGroup, c ∈ W_X3_makeFrom) c hc)
  have ff_X3_makeFrom_12 : ∀ c ∈ W_X3_makeFrom_12, fp c = false := fun c hc => ff c ((by decide : ∀ c ∈ W_X3_makeFrom_12, c ∈ W_X3_makeFrom) c hc)
  have w193 : fp 193 = false := ff 193 (by decide)
  have w194 : fp 194 = false := ff 194 (by decide)
  unfold f_X3_makeFrom
  have t1 : (0 : Int32).toInt = 0 := by decide
  have w_2 : 0 ≤ (0 : Int32).toInt ∧ (0 : Int32).toInt ≤ 48 := by omega
  refine let_ex (fun h1 e_h1 => ?_)
  have S_h1 : SI fp b m h1 := e_h1 ▸ (SI.u S rfl w193 w_2)
  obtain ⟨g3, e_g3⟩ : ∃ g, uI h1 3 i0 2 0 = g := ⟨_, rfl⟩
  rw [e_g3]
  have S_g3 : SI fp b m g3 := e_g3 ▸ (SI.f S_h1 rfl w194 rfl)
  refine z_X3_makeFrom_12 (m := m) _ i0 i1  ff_X3_makeFrom_12  (fun u12 h13 S_h13 y4 => ?_)  mFu 0 g3 S_g3 (by omega) (by have := mFu_big; omega)
  try dsimp only
  obtain ⟨r14, e_r14, S_r14, fr_r14⟩ := y_X3_endGroup i0 h13 S_h13 ff_X3_endGroup 
  rw [e_r14, Option.bind_some]
  exact ⟨_, rfl, S_r14⟩
def W_X1_makeCode_10 : List Nat := [193, 194, 195, 196, 197, 2048]
set_option maxHeartbeats 400000 in
theorem z_X1_makeCode_10 {fp : Nat → Bool} {b : mH} {m : Nat} {P : mH → Prop} (k : Int32 → mH → Option (mH))   (ff : ∀ c ∈ W_X1_makeCode_10, fp c = false)  (hk : ∀ (v1 : Int32) (h : mH), SI fp b m h → 0 ≤ v1.toInt → ∃ r, k v1 h = some r ∧ P r) : ∀ (n : Nat) (v1 : Int32) (h : mH), SI fp b m h → 0 ≤ v1.toInt → 2147483648 - v1.toInt < n → ∃ r, f_X1_makeCode_10 k  n v1 h = some r ∧ P r := by
  have ff_X3_makeFrom : ∀ c ∈ W_X3_makeFrom, fp c = false := fun c hc => ff c ((by decide : ∀ c ∈ W_X3_makeFrom, c ∈ W_X1_makeCode_10) c hc)
  intro n
  induction n with
  | zero =>
    intro v1 h S iv0 hm
    have hz := i32_hi v1
    omega
  | succ n ih =>
    intro v1 h S iv0 hm
    rw [f_X1_makeCode_10]
    by_cases q1 : v1 < (h.1 1 0 6)
    · rw [if_pos q1]
      have b2 : 0 ≤ (h.1 1 0 6).toInt ∧ (h.1 1 0 6).toInt ≤ 6 := (S).1 1 0 6
      first | have hx_3 := i32_hi (v1) | skip
      first | have hx_4 := i32_lo (v1) | skip
      first | have hx_5 := i32_hi (h.1 1 0 6) | skip
      first | have hx_6 := i32_lo (h.1 1 0 6) | skip
      first | have f7 : (v1 : Int32).toInt < (h.1 1 0 6 : Int32).toInt := Int32.lt_iff_toInt_lt.mp q1 | skip
      have q8 : mIn v1 6 = true := (mIn_bd (by omega) (by omega))
      rw [if_pos q8]
      obtain ⟨r4, e_r4, S_r4⟩ := z_X3_makeFrom v1.toNatClampNeg v1.toNatClampNeg h S ff_X3_makeFrom 
      rw [e_r4, Option.bind_some]
      have t9 : (1 : Int32).toInt = 1 := by decide
      first | have o10 : (v1 + 1 : Int32).toInt = (v1 : Int32).toInt + (1 : Int32).toInt := ti_add (by omega) (by omega) | skip
      exact ih (v1 + 1) r4 S_r4 (by omega) (by omega)
    · rw [if_neg q1]
      have b11 : 0 ≤ (h.1 1 0 6).toInt ∧ (h.1 1 0 6).toInt ≤ 6 := (S).1 1 0 6
      first | have hx_12 := i32_hi (v1) | skip
      first | have hx_13 := i32_lo (v1) | skip
      first | have hx_14 := i32_hi (h.1 1 0 6) | skip
      first | have hx_15 := i32_lo (h.1 1 0 6) | skip
      first | have f16 : (h.1 1 0 6 : Int32).toInt ≤ (v1 : Int32).toInt := Int32.le_iff_toInt_le.mp (Int32.not_lt.mp q1) | skip
      exact hk v1 h S iv0
def W_X1_makeCode : List Nat := [73, 193, 194, 195, 196, 197, 2048]
set_option maxHeartbeats 400000 in
theorem z_X1_makeCode {fp : Nat → Bool} {b : mH} {m : Nat}  (h : mH) (S : SI fp b m h) (ff : ∀ c ∈ W_X1_makeCode, fp c = false)  : ∃ r, f_X1_makeCode h = some r ∧ SI fp b m r := by
  have ff_X1_makeCode_10 : ∀ c ∈ W_X1_makeCode_10, fp c = false := fun c hc => ff c ((by decide : ∀ c ∈ W_X1_makeCode_10, c ∈ W_X1_makeCode) c hc)
  have w73 : fp 73 = false := ff 73 (by decide)
  unfold f_X1_makeCode
  by_cases q1 : (h.1 1 0 9) = 0
  · rw [if_pos q1]
    have b2 : 0 ≤ (h.1 1 0 9).toInt ∧ (h.1 1 0 9).toInt ≤ 1 := (S).1 1 0 9
    have t3 : (0 : Int32).toInt = 0 := by decide
    first | have hx_4 := i32_hi (h.1 1 0 9) | skip
    first | have hx_5 := i32_lo (h.1 1 0 9) | skip
    first | have f6 : (h.1 1 0 9 : Int32).toInt = (0 : Int32).toInt := congrArg Int32.toInt q1 | skip
    refine z_X1_makeCode_10 (m := m) _   ff_X1_makeCode_10  (fun u5 h6 S_h6 y7 => ?_)  mFu 0 h S (by omega) (by have := mFu_big; omega)
    try dsimp only
    have t8 : (1 : Int32).toInt = 1 := by decide
    have w_9 : 0 ≤ (1 : Int32).toInt ∧ (1 : Int32).toInt ≤ 1 := by omega
    exact ⟨_, rfl, (SI.u S_h6 rfl w73 w_9)⟩
  · rw [if_neg q1]
    have b10 : 0 ≤ (h.1 1 0 9).toInt ∧ (h.1 1 0 9).toInt ≤ 1 := (S).1 1 0 9
    have t11 : (0 : Int32).toInt = 0 := by decide
    first | have hx_12 := i32_hi (h.1 1 0 9) | skip
    first | have hx_13 := i32_lo (h.1 1 0 9) | skip
    first | have f14 : (h.1 1 0 9 : Int32).toInt ≠ (0 : Int32).toInt := ti_ne q1 | skip
    exact ⟨_, rfl, S⟩
set_option maxHeartbeats 400000 in
theorem y_X1_makeCode {fp : Nat → Bool} {b : mH} {m : Nat}  (h : mH) (S : SI fp b m h) (ff : ∀ c ∈ W_X1_makeCode, fp c = false)  : ∃ r, f_X1_makeCode h = some r ∧ SI fp b m r ∧ fz (fun c => !(W_X1_makeCode.contains c)) h r := by
  obtain ⟨r, e1, s1⟩ := z_X1_makeCode (fp := fun c => fp c || !(W_X1_makeCode.contains c)) (b := h) (m := 0)  h (S.re _) (fun c hc => Bool.or_eq_false_iff.mpr ⟨ff c hc, by rw [List.contains_iff_mem.mpr hc]; rfl⟩) 
  refine ⟨r, e1, SI.mono (S.back s1 (fun c hc => Bool.or_eq_true_iff.mpr (Or.inl hc))) (by omega), fun t i k hc => s1.2.2.1 t i k (Bool.or_eq_true_iff.mpr (Or.inr hc))⟩
def W_X11_code : List Nat := [73, 193, 194, 195, 196, 197, 2048]
set_option maxHeartbeats 400000 in
theorem z_X11_code {fp : Nat → Bool} {b : mH} {m : Nat} (x1 : Int32) (h : mH) (S : SI fp b m h) (ff : ∀ c ∈ W_X11_code, fp c = false)  : ∃ r, f_X11_code x1 h = some r ∧ SI fp b m r.2 := by
  have ff_X1_makeCode : ∀ c ∈ W_X1_makeCode, fp c = false := fun c hc => ff c ((by decide : ∀ c ∈ W_X1_makeCode, c ∈ W_X11_code) c hc)
  unfold f_X11_code
  obtain ⟨⟨r1v, r1h⟩, e_r1, (hh_r1 : r1h = h), p_r1_0, p_r1_1⟩ := z_X1_hasAct x1 h S  
  replace hh_r1 := hh_r1.symm
  subst hh_r1
  dsimp only at p_r1_0 p_r1_1
  have bb_r1 := bool_bd p_r1_0
  rw [e_r1, Option.bind_some]
  try dsimp only
  by_cases q1 : r1v = 0
  · rw [if_pos q1]
    have t2 : (0 : Int32).toInt = 0 := by decide
    first | have hx_3 := i32_hi (r1v) | skip
    first | have hx_4 := i32_lo (r1v) | skip
    first | have f5 : (r1v : Int32).toInt = (0 : Int32).toInt := congrArg Int32.toInt q1 | skip
    exact ⟨_, rfl, S⟩
  · rw [if_neg q1]
    have t6 : (0 : Int32).toInt = 0 := by decide
    first | have hx_7 := i32_hi (r1v) | skip
    first | have hx_8 := i32_lo (r1v) | skip
    first | have f9 : (r1v : Int32).toInt ≠ (0 : Int32).toInt := ti_ne q1 | skip
    obtain ⟨r3, e_r3, S_r3, fr_r3⟩ := y_X1_makeCode  h S ff_X1_makeCode 
    rw [e_r3, Option.bind_some]
    have q10 : mIn x1 6 = true := (mIn_bd (by omega) (by omega))
    rw [if_pos q10]
    exact ⟨_, rfl, S_r3⟩
theorem z_X3_part {fp : Nat → Bool} {b : mH} {m : Nat} (i0 : Nat) (x1 x2 : Int32) (h : mH) (S : SI fp b m h) (p1 : 0 ≤ x1.toInt ∧ x1.toInt < 48) (p2 : 0 ≤ x2.toInt ∧ x2.toInt ≤ 5) : f_X3_part i0 x1 x2 h = some (h.1 32 i0 ((x1 * 6) + x2).toNatClampNeg, h) := by
  unfold f_X3_part
  have m1 : (x1 * 6).toInt = x1.toInt * 6 := ti_mk (by decide) (by omega) (by omega)
  have a1 : (x1 * 6 + x2).toInt = (x1 * 6).toInt + x2.toInt := ti_add (by omega) (by omega)
  rw [if_pos (mIn_bd (by omega) (by omega))]
def W_X11_op : List Nat := [73, 193, 194, 195, 196, 197, 2048]
set_option maxHeartbeats 400000 in
theorem z_X11_op {fp : Nat → Bool} {b : mH} {m : Nat} (x1 : Int32) (x2 : Int32) (x3 : Int32) (h : mH) (S : SI fp b m h) (ff : ∀ c ∈ W_X11_op, fp c = false)  : ∃ r, f_X11_op x1 x2 x3 h = some r ∧ SI fp b m r.2 := by
  have ff_X1_makeCode : ∀ c ∈ W_X1_makeCode, fp c = false := fun c hc => ff c ((by decide : ∀ c ∈ W_X1_makeCode, c ∈ W_X11_op) c hc)
  unfold f_X11_op
  obtain ⟨⟨r1v, r1h⟩, e_r1, (hh_r1 : r1h = h), p_r1_0, p_r1_1⟩ := z_X1_hasAct x1 h S  
  replace hh_r1 := hh_r1.symm
  subst hh_r1
  dsimp only at p_r1_0 p_r1_1
  have bb_r1 := bool_bd p_r1_0
  rw [e_r1, Option.bind_some]
  try dsimp only
  by_cases q1 : r1v = 0
  · rw [if_pos q1]
    have t2 : (0 : Int32).toInt = 0 := by decide
    first | have hx_3 := i32_hi (r1v) | skip
    first | have hx_4 := i32_lo (r1v) | skip
    first | have f5 : (r1v : Int32).toInt = (0 : Int32).toInt := congrArg Int32.toInt q1 | skip
    exact ⟨_, rfl, S⟩
  · rw [if_neg q1]
    have t6 : (0 : Int32).toInt = 0 := by decide
    first | have hx_7 := i32_hi (r1v) | skip
    first | have hx_8 := i32_lo (r1v) | skip
    first | have f9 : (r1v : Int32).toInt ≠ (0 : Int32).toInt := ti_ne q1 | skip
    by_cases q10 : x3 < 0
    · rw [if_pos q10]
      first | have hx_11 := i32_hi (x3) | skip
      first | have hx_12 := i32_lo (x3) | skip
      first | have f13 : (x3 : Int32).toInt < (0 : Int32).toInt := Int32.lt_iff_toInt_lt.mp q10 | skip
      exact ⟨_, rfl, S⟩
    · rw [if_neg q10]
      first | have hx_14 := i32_hi (x3) | skip
      first | have hx_15 := i32_lo (x3) | skip
      first | have f16 : (0 : Int32).toInt ≤ (x3 : Int32).toInt := Int32.le_iff_toInt_le.mp (Int32.not_lt.mp q10) | skip
      by_cases q17 : x3 < 6
      · rw [if_pos q17]
        have t18 : (6 : Int32).toInt = 6 := by decide
        first | have f19 : (x3 : Int32).toInt < (6 : Int32).toInt := Int32.lt_iff_toInt_lt.mp q17 | skip
        obtain ⟨r5, e_r5, S_r5, fr_r5⟩ := y_X1_makeCode  h S ff_X1_makeCode 
        rw [e_r5, Option.bind_some]
        have q20 : mIn x1 6 = true := (mIn_bd (by omega) (by omega))
        rw [if_pos q20]
        by_cases q21 : x2 < 0
        · rw [if_pos q21]
          first | have hx_22 := i32_hi (x2) | skip
          first | have hx_23 := i32_lo (x2) | skip
          first | have f24 : (x2 : Int32).toInt < (0 : Int32).toInt := Int32.lt_iff_toInt_lt.mp q21 | skip
          exact ⟨_, rfl, S_r5⟩
        · rw [if_neg q21]
          first | have hx_25 := i32_hi (x2) | skip
          first | have hx_26 := i32_lo (x2) | skip
          first | have f27 : (0 : Int32).toInt ≤ (x2 : Int32).toInt := Int32.le_iff_toInt_le.mp (Int32.not_lt.mp q21) | skip
          by_cases q28 : x2 < (r5.1 3 x1.toNatClampNeg 1)
          · rw [if_pos q28]
            have b29 : 0 ≤ (r5.1 3 x1.toNatClampNeg 1).toInt ∧ (r5.1 3 x1.toNatClampNeg 1).toInt ≤ 48 := (S_r5).1 3 x1.toNatClampNeg 1
            first | have hx_30 := i32_hi (r5.1 3 x1.toNatClampNeg 1) | skip
            first | have hx_31 := i32_lo (r5.1 3 x1.toNatClampNeg 1) | skip
            first | have f32 : (x2 : Int32).toInt < (r5.1 3 x1.toNatClampNeg 1 : Int32).toInt := Int32.lt_iff_toInt_lt.mp q28 | skip
            have e_r9 := z_X3_part x1.toNatClampNeg x2 x3 r5 S_r5  (by omega) (by omega)
            rw [e_r9, Option.bind_some]
            try dsimp only
            exact ⟨_, rfl, S_r5⟩
          · rw [if_neg q28]
            have b33 : 0 ≤ (r5.1 3 x1.toNatClampNeg 1).toInt ∧ (r5.1 3 x1.toNatClampNeg 1).toInt ≤ 48 := (S_r5).1 3 x1.toNatClampNeg 1
            first | have hx_34 := i32_hi (r5.1 3 x1.toNatClampNeg 1) | skip
            first | have hx_35 := i32_lo (r5.1 3 x1.toNatClampNeg 1) | skip
            first | have f36 : (r5.1 3 x1.toNatClampNeg 1 : Int32).toInt ≤ (x2 : Int32).toInt := Int32.le_iff_toInt_le.mp (Int32.not_lt.mp q28) | skip
            exact ⟨_, rfl, S_r5⟩
      · rw [if_neg q17]
        have t37 : (6 : Int32).toInt = 6 := by decide
        first | have f38 : (6 : Int32).toInt ≤ (x3 : Int32).toInt := Int32.le_iff_toInt_le.mp (Int32.not_lt.mp q17) | skip
        exact ⟨_, rfl, S⟩
set_option maxHeartbeats 400000 in
theorem z_X3_isLike_15 {fp : Nat → Bool} {b : mH} {m : Nat} {P : Int32 × mH → Prop} (k : Int32 → mH → Option (Int32 × mH)) (j0 : Nat) (j1 : Nat)  (h : mH) (S : SI fp b m h)  (hk : ∀ (v2 : Int32), 0 ≤ v2.toInt → ∃ r, k v2 h = some r ∧ P r) (he : ∀ rv : Int32, (rv = 0 ∨ rv = 1) → P (rv, h)) : ∀ (n : Nat) (v2 : Int32), 0 ≤ v2.toInt → 2147483648 - v2.toInt < n → ∃ r, f_X3_isLike_15 k j0 j1 n v2 h = some r ∧ P r := by
  intro n
  induction n with
  | zero =>
    intro v2 iv0 hm
    have hz := i32_hi v2
    omega
  | succ n ih =>
    intro v2 iv0 hm
    rw [f_X3_isLike_15]
    by_cases q1 : v2 < ((h.1 3 j0 1) * 6)
    · rw [if_pos q1]
      have b2 : 0 ≤ (h.1 3 j0 1).toInt ∧ (h.1 3 j0 1).toInt ≤ 48 := (S).1 3 j0 1
      have t3 : (6 : Int32).toInt = 6 := by decide
      first | have o4 : ((h.1 3 j0 1) * 6).toInt = (h.1 3 j0 1 : Int32).toInt * 6 := ti_mk (by decide) (by omega) (by omega) | skip
      first | have hx_5 := i32_hi (v2) | skip
      first | have hx_6 := i32_lo (v2) | skip
      first | have hx_7 := i32_hi ((h.1 3 j0 1) * 6) | skip
      first | have hx_8 := i32_lo ((h.1 3 j0 1) * 6) | skip
      first | have f9 : (v2 : Int32).toInt < ((h.1 3 j0 1) * 6 : Int32).toInt := Int32.lt_iff_toInt_lt.mp q1 | skip
      have q10 : mIn v2 288 = true := (mIn_bd (by omega) (by omega))
      rw [if_pos q10]
      by_cases q11 : (h.1 32 j0 v2.toNatClampNeg) = (h.1 32 j1 v2.toNatClampNeg)
      · rw [if_pos q11]
        first | have hx_12 := i32_hi (h.1 32 j0 v2.toNatClampNeg) | skip
        first | have hx_13 := i32_lo (h.1 32 j0 v2.toNatClampNeg) | skip
        first | have hx_14 := i32_hi (h.1 32 j1 v2.toNatClampNeg) | skip
        first | have hx_15 := i32_lo (h.1 32 j1 v2.toNatClampNeg) | skip
        first | have f16 : (h.1 32 j0 v2.toNatClampNeg : Int32).toInt = (h.1 32 j1 v2.toNatClampNeg : Int32).toInt := congrArg Int32.toInt q11 | skip
        have t17 : (1 : Int32).toInt = 1 := by decide
        first | have o18 : (v2 + 1 : Int32).toInt = (v2 : Int32).toInt + (1 : Int32).toInt := ti_add (by omega) (by omega) | skip
        exact ih (v2 + 1) (by omega) (by omega)
      · rw [if_neg q11]
        first | have hx_19 := i32_hi (h.1 32 j0 v2.toNatClampNeg) | skip
        first | have hx_20 := i32_lo (h.1 32 j0 v2.toNatClampNeg) | skip
        first | have hx_21 := i32_hi (h.1 32 j1 v2.toNatClampNeg) | skip
        first | have hx_22 := i32_lo (h.1 32 j1 v2.toNatClampNeg) | skip
        first | have f23 : (h.1 32 j0 v2.toNatClampNeg : Int32).toInt ≠ (h.1 32 j1 v2.toNatClampNeg : Int32).toInt := ti_ne q11 | skip
        have t24 : (0 : Int32).toInt = 0 := by decide
        exact ⟨_, rfl, he 0 (Or.inl rfl)⟩
    · rw [if_neg q1]
      have b25 : 0 ≤ (h.1 3 j0 1).toInt ∧ (h.1 3 j0 1).toInt ≤ 48 := (S).1 3 j0 1
      have t26 : (6 : Int32).toInt = 6 := by decide
      first | have o27 : ((h.1 3 j0 1) * 6).toInt = (h.1 3 j0 1 : Int32).toInt * 6 := ti_mk (by decide) (by omega) (by omega) | skip
      first | have hx_28 := i32_hi (v2) | skip
      first | have hx_29 := i32_lo (v2) | skip
      first | have hx_30 := i32_hi ((h.1 3 j0 1) * 6) | skip
      first | have hx_31 := i32_lo ((h.1 3 j0 1) * 6) | skip
      first | have f32 : ((h.1 3 j0 1) * 6 : Int32).toInt ≤ (v2 : Int32).toInt := Int32.le_iff_toInt_le.mp (Int32.not_lt.mp q1) | skip
      exact hk v2 iv0
set_option maxHeartbeats 400000 in
theorem z_X3_isLike {fp : Nat → Bool} {b : mH} {m : Nat} (i0 : Nat) (i1 : Nat) (h : mH) (S : SI fp b m h)   : ∃ r, f_X3_isLike i0 i1 h = some r ∧ r.2 = h ∧ (r.1 = 0 ∨ r.1 = 1) := by
  unfold f_X3_isLike
  by_cases q1 : (h.1 3 i0 1) = (h.1 3 i1 1)
  · rw [if_pos q1]
    have b2 : 0 ≤ (h.1 3 i0 1).toInt ∧ (h.1 3 i0 1).toInt ≤ 48 := (S).1 3 i0 1
    have b3 : 0 ≤ (h.1 3 i1 1).toInt ∧ (h.1 3 i1 1).toInt ≤ 48 := (S).1 3 i1 1
    first | have hx_4 := i32_hi (h.1 3 i0 1) | skip
    first | have hx_5 := i32_lo (h.1 3 i0 1) | skip
    first | have hx_6 := i32_hi (h.1 3 i1 1) | skip
    first | have hx_7 := i32_lo (h.1 3 i1 1) | skip
    first | have f8 : (h.1 3 i0 1 : Int32).toInt = (h.1 3 i1 1 : Int32).toInt := congrArg Int32.toInt q1 | skip
    have t9 : (0 : Int32).toInt = 0 := by decide
    refine z_X3_isLike_15 _ i0 i1  h S  (fun u5 y10 => ?_) (fun rv hp0 => ⟨rfl, hp0⟩) mFu 0 (by omega) (by have := mFu_big; omega)
    try dsimp only
    have t11 : (1 : Int32).toInt = 1 := by decide
    exact ⟨_, rfl, rfl, (Or.inr rfl)⟩
  · rw [if_neg q1]
    have b12 : 0 ≤ (h.1 3 i0 1).toInt ∧ (h.1 3 i0 1).toInt ≤ 48 := (S).1 3 i0 1
    have b13 : 0 ≤ (h.1 3 i1 1).toInt ∧ (h.1 3 i1 1).toInt ≤ 48 := (S).1 3 i1 1
    first | have hx_14 := i32_hi (h.1 3 i0 1) | skip
    first | have hx_15 := i32_lo (h.1 3 i0 1) | skip
    first | have hx_16 := i32_hi (h.1 3 i1 1) | skip
    first | have hx_17 := i32_lo (h.1 3 i1 1) | skip
    first | have f18 : (h.1 3 i0 1 : Int32).toInt ≠ (h.1 3 i1 1 : Int32).toInt := ti_ne q1 | skip
    have t19 : (0 : Int32).toInt = 0 := by decide
    exact ⟨_, rfl, rfl, (Or.inl rfl)⟩
def W_X11_same : List Nat := [73, 193, 194, 195, 196, 197, 2048]
set_option maxHeartbeats 400000 in
theorem z_X11_same {fp : Nat → Bool} {b : mH} {m : Nat} (x1 : Int32) (x2 : Int32) (h : mH) (S : SI fp b m h) (ff : ∀ c ∈ W_X11_same, fp c = false)  : ∃ r, f_X11_same x1 x2 h = some r ∧ SI fp b m r.2 := by
  have ff_X1_makeCode : ∀ c ∈ W_X1_makeCode, fp c = false := fun c hc => ff c ((by decide : ∀ c ∈ W_X1_makeCode, c ∈ W_X11_same) c hc)
  unfold f_X11_same
  obtain ⟨⟨r1v, r1h⟩, e_r1, (hh_r1 : r1h = h), p_r1_0, p_r1_1⟩ := z_X1_hasAct x1 h S  
  replace hh_r1 := hh_r1.symm
  subst hh_r1
  dsimp only at p_r1_0 p_r1_1
  have bb_r1 := bool_bd p_r1_0
  rw [e_r1, Option.bind_some]
  try dsimp only
  by_cases q1 : r1v = 0
  · rw [if_pos q1]
    have t2 : (0 : Int32).toInt = 0 := by decide
    first | have hx_3 := i32_hi (r1v) | skip
    first | have hx_4 := i32_lo (r1v) | skip
    first | have f5 : (r1v : Int32).toInt = (0 : Int32).toInt := congrArg Int32.toInt q1 | skip
    exact ⟨_, rfl, S⟩
  · rw [if_neg q1]
    have t6 : (0 : Int32).toInt = 0 := by decide
    first | have hx_7 := i32_hi (r1v) | skip
    first | have hx_8 := i32_lo (r1v) | skip
    first | have f9 : (r1v : Int32).toInt ≠ (0 : Int32).toInt := ti_ne q1 | skip
    obtain ⟨⟨r3v, r3h⟩, e_r3, (hh_r3 : r3h = h), p_r3_0, p_r3_1⟩ := z_X1_hasAct x2 h S  
    replace hh_r3 := hh_r3.symm
    subst hh_r3
    dsimp only at p_r3_0 p_r3_1
    have bb_r3 := bool_bd p_r3_0
    rw [e_r3, Option.bind_some]
    try dsimp only
    by_cases q10 : r3v = 0
    · rw [if_pos q10]
      first | have hx_11 := i32_hi (r3v) | skip
      first | have hx_12 := i32_lo (r3v) | skip
      first | have f13 : (r3v : Int32).toInt = (0 : Int32).toInt := congrArg Int32.toInt q10 | skip
      exact ⟨_, rfl, S⟩
    · rw [if_neg q10]
      first | have hx_14 := i32_hi (r3v) | skip
      first | have hx_15 := i32_lo (r3v) | skip
      first | have f16 : (r3v : Int32).toInt ≠ (0 : Int32).toInt := ti_ne q10 | skip
      obtain ⟨r5, e_r5, S_r5, fr_r5⟩ := y_X1_makeCode  h S ff_X1_makeCode 
      rw [e_r5, Option.bind_some]
      have q17 : mIn x1 6 = true := (mIn_bd (by omega) (by omega))
      rw [if_pos q17]
      have q18 : mIn x2 6 = true := (mIn_bd (by omega) (by omega))
      rw [if_pos q18]
      obtain ⟨⟨r8v, r8h⟩, e_r8, (hh_r8 : r8h = r5), p_r8_0⟩ := z_X3_isLike x1.toNatClampNeg x2.toNatClampNeg r5 S_r5  
      replace hh_r8 := hh_r8.symm
      subst hh_r8
      dsimp only at p_r8_0
      have bb_r8 := bool_bd p_r8_0
      rw [e_r8, Option.bind_some]
      try dsimp only
      by_cases q19 : r8v = 0
      · rw [if_pos q19]
        first | have hx_20 := i32_hi (r8v) | skip
        first | have hx_21 := i32_lo (r8v) | skip
        first | have f22 : (r8v : Int32).toInt = (0 : Int32).toInt := congrArg Int32.toInt q19 | skip
        exact ⟨_, rfl, S_r5⟩
      · rw [if_neg q19]
        first | have hx_23 := i32_hi (r8v) | skip
        first | have hx_24 := i32_lo (r8v) | skip
        first | have f25 : (r8v : Int32).toInt ≠ (0 : Int32).toInt := ti_ne q19 | skip
        exact ⟨_, rfl, S_r5⟩
def W_X11_power : List Nat := [134, 521, 522, 523, 524, 525, 526, 527, 1792, 1856, 1920, 1984, 2112, 2176, 2240, 2304, 2368, 2432, 9998]
set_option maxHeartbeats 400000 in
theorem z_X11_power {fp : Nat → Bool} {b : mH} {m : Nat}  (h : mH) (S : SI fp b m h) (ff : ∀ c ∈ W_X11_power, fp c = false)  : ∃ r, f_X11_power h = some r ∧ SI fp b m r.2 := by
  have ff_X2_powerUp : ∀ c ∈ W_X2_powerUp, fp c = false := fun c hc => ff c ((by decide : ∀ c ∈ W_X2_powerUp, c ∈ W_X11_power) c hc)
  unfold f_X11_power
  obtain ⟨r1, e_r1, S_r1⟩ := z_X2_powerUp  h S ff_X2_powerUp 
  rw [e_r1, Option.bind_some]
  exact ⟨_, rfl, S_r1⟩
def W_X8_tellEvent_s0 : List Nat := [521, 2496, 2560, 2624]
set_option maxHeartbeats 400000 in
theorem z_X8_tellEvent_s0 {fp : Nat → Bool} {b : mH} {m : Nat} (x1 : Int32) (x2 : Int32) (x3 : Int64) (h : mH) (S : SI fp b m h) (ff : ∀ c ∈ W_X8_tellEvent_s0, fp c = false) (pr0 : (0 ≤ x1.toInt ∧ x1.toInt < 24)) : ∃ r, f_X8_tellEvent 0 x1 x2 x3 h = some r ∧ SI fp b m r := by
  have w521 : fp 521 = false := ff 521 (by decide)
  have w2496 : fp 2496 = false := ff 2496 (by decide)
  have w2560 : fp 2560 = false := ff 2560 (by decide)
  have w2624 : fp 2624 = false := ff 2624 (by decide)
  unfold f_X8_tellEvent
  by_cases q1 : (h.1 8 0 9) < 16
  · rw [if_pos q1]
    have b2 : 0 ≤ (h.1 8 0 9).toInt ∧ (h.1 8 0 9).toInt ≤ 16 := (S).1 8 0 9
    have t3 : (16 : Int32).toInt = 16 := by decide
    first | have hx_4 := i32_hi (h.1 8 0 9) | skip
    first | have hx_5 := i32_lo (h.1 8 0 9) | skip
    first | have f6 : (h.1 8 0 9 : Int32).toInt < (16 : Int32).toInt := Int32.lt_iff_toInt_lt.mp q1 | skip
    have q7 : mIn (h.1 8 0 9) 16 = true := (mIn_bd (by omega) (by omega))
    rw [if_pos q7]
    have w_8 : 0 ≤ (x1 : Int32).toInt ∧ (x1 : Int32).toInt ≤ 23 := by omega
    refine let_ex (fun h3 e_h3 => ?_)
    have S_h3 : SI fp b m h3 := e_h3 ▸ (SI.u S rfl w2496 w_8)
    have b9 : 0 ≤ (h3.1 8 0 9).toInt ∧ (h3.1 8 0 9).toInt ≤ 16 := (S_h3).1 8 0 9
    have l10 : (h3.1 8 0 9).toInt = (h.1 8 0 9).toInt := by rw [← e_h3, uI_t _ rfl]
    have q11 : mIn (h3.1 8 0 9) 16 = true := (mIn_bd (by omega) (by omega))
    rw [if_pos q11]
    refine let_ex (fun h5 e_h5 => ?_)
    have S_h5 : SI fp b m h5 := e_h5 ▸ (SI.f S_h3 rfl w2560 rfl)
    have b12 : 0 ≤ (h5.1 8 0 9).toInt ∧ (h5.1 8 0 9).toInt ≤ 16 := (S_h5).1 8 0 9
    have l13 : (h5.1 8 0 9).toInt = (h3.1 8 0 9).toInt := by rw [← e_h5, uI_t _ rfl]
    have q14 : mIn (h5.1 8 0 9) 16 = true := (mIn_bd (by omega) (by omega))
    rw [if_pos q14]
    refine let_ex (fun h7 e_h7 => ?_)
    have S_h7 : SI fp b m h7 := e_h7 ▸ (SI.j S_h5 rfl w2624)
    have b15 : 0 ≤ (h7.1 8 0 9).toInt ∧ (h7.1 8 0 9).toInt ≤ 16 := (S_h7).1 8 0 9
    have l16 : (h7.1 8 0 9).toInt = (h5.1 8 0 9).toInt := by rw [← e_h7]; rfl
    have t17 : (1 : Int32).toInt = 1 := by decide
    first | have o18 : ((h7.1 8 0 9) + 1 : Int32).toInt = (h7.1 8 0 9 : Int32).toInt + (1 : Int32).toInt := ti_add (by omega) (by omega) | skip
    have w_19 : 0 ≤ ((h7.1 8 0 9) + 1 : Int32).toInt ∧ ((h7.1 8 0 9) + 1 : Int32).toInt ≤ 16 := by omega
    exact ⟨_, rfl, (SI.u S_h7 rfl w521 w_19)⟩
  · rw [if_neg q1]
    have b20 : 0 ≤ (h.1 8 0 9).toInt ∧ (h.1 8 0 9).toInt ≤ 16 := (S).1 8 0 9
    have t21 : (16 : Int32).toInt = 16 := by decide
    first | have hx_22 := i32_hi (h.1 8 0 9) | skip
    first | have hx_23 := i32_lo (h.1 8 0 9) | skip
    first | have f24 : (16 : Int32).toInt ≤ (h.1 8 0 9 : Int32).toInt := Int32.le_iff_toInt_le.mp (Int32.not_lt.mp q1) | skip
    exact ⟨_, rfl, S⟩
def W_X11_event_j74 : List Nat := [521, 2496, 2560, 2624]
set_option maxHeartbeats 400000 in
theorem z_X11_event_j74 {fp : Nat → Bool} {b : mH} {m : Nat} (w1 : Int32) (w2 : Int32) (w3 : Int32) (h : mH) (S : SI fp b m h) (ff : ∀ c ∈ W_X11_event_j74, fp c = false) (pr0 : (0 ≤ w1.toInt ∧ w1.toInt < 24)) : ∃ r, f_X11_event_j74 w1 w2 w3 h = some r ∧ SI fp b m r.2 := by
  have ff_X8_tellEvent_s0 : ∀ c ∈ W_X8_tellEvent_s0, fp c = false := fun c hc => ff c ((by decide : ∀ c ∈ W_X8_tellEvent_s0, c ∈ W_X11_event_j74) c hc)
  unfold f_X11_event_j74
  by_cases q1 : (lg_cmp w3.toInt64 (h.2 8 0 10)) ≤ 0
  · rw [if_pos q1]
    exact ⟨_, rfl, S⟩
  · rw [if_neg q1]
    by_cases q2 : (h.1 8 0 9) < 16
    · rw [if_pos q2]
      have b3 : 0 ≤ (h.1 8 0 9).toInt ∧ (h.1 8 0 9).toInt ≤ 16 := (S).1 8 0 9
      have t4 : (16 : Int32).toInt = 16 := by decide
      first | have hx_5 := i32_hi (h.1 8 0 9) | skip
      first | have hx_6 := i32_lo (h.1 8 0 9) | skip
      first | have f7 : (h.1 8 0 9 : Int32).toInt < (16 : Int32).toInt := Int32.lt_iff_toInt_lt.mp q2 | skip
      obtain ⟨r10, e_r10, S_r10⟩ := z_X8_tellEvent_s0 w1 w2 w3.toInt64 h S ff_X8_tellEvent_s0 pr0
      rw [e_r10, Option.bind_some]
      exact ⟨_, rfl, S_r10⟩
    · rw [if_neg q2]
      have b8 : 0 ≤ (h.1 8 0 9).toInt ∧ (h.1 8 0 9).toInt ≤ 16 := (S).1 8 0 9
      have t9 : (16 : Int32).toInt = 16 := by decide
      first | have hx_10 := i32_hi (h.1 8 0 9) | skip
      first | have hx_11 := i32_lo (h.1 8 0 9) | skip
      first | have f12 : (16 : Int32).toInt ≤ (h.1 8 0 9 : Int32).toInt := Int32.le_iff_toInt_le.mp (Int32.not_lt.mp q2) | skip
      exact ⟨_, rfl, S⟩
def W_X11_event : List Nat := [521, 2496, 2560, 2624]
set_option maxHeartbeats 400000 in
theorem z_X11_event {fp : Nat → Bool} {b : mH} {m : Nat} (x1 : Int32) (x2 : Int32) (x3 : Int32) (h : mH) (S : SI fp b m h) (ff : ∀ c ∈ W_X11_event, fp c = false)  : ∃ r, f_X11_event x1 x2 x3 h = some r ∧ SI fp b m r.2 := by
  have ff_X11_event_j74 : ∀ c ∈ W_X11_event_j74, fp c = false := fun c hc => ff c ((by decide : ∀ c ∈ W_X11_event_j74, c ∈ W_X11_event) c hc)
  unfold f_X11_event
  obtain ⟨⟨r1v, r1h⟩, e_r1, (hh_r1 : r1h = h), p_r1_0, p_r1_1⟩ := z_X1_hasField x1 h S  
  replace hh_r1 := hh_r1.symm
  subst hh_r1
  dsimp only at p_r1_0 p_r1_1
  have bb_r1 := bool_bd p_r1_0
  rw [e_r1, Option.bind_some]
  try dsimp only
  by_cases q1 : r1v = 0
  · rw [if_pos q1]
    have t2 : (0 : Int32).toInt = 0 := by decide
    first | have hx_3 := i32_hi (r1v) | skip
    first | have hx_4 := i32_lo (r1v) | skip
    first | have f5 : (r1v : Int32).toInt = (0 : Int32).toInt := congrArg Int32.toInt q1 | skip
    exact ⟨_, rfl, S⟩
  · rw [if_neg q1]
    have t6 : (0 : Int32).toInt = 0 := by decide
    first | have hx_7 := i32_hi (r1v) | skip
    first | have hx_8 := i32_lo (r1v) | skip
    first | have f9 : (r1v : Int32).toInt ≠ (0 : Int32).toInt := ti_ne q1 | skip
    have q10 : mIn x1 24 = true := (mIn_bd (by omega) (by omega))
    rw [if_pos q10]
    obtain ⟨⟨r4v, r4h⟩, e_r4, (hh_r4 : r4h = h), p_r4_0⟩ := z_X11_fits x2 (h.1 6 x1.toNatClampNeg 2) h S  
    replace hh_r4 := hh_r4.symm
    subst hh_r4
    dsimp only at p_r4_0
    have bb_r4 := bool_bd p_r4_0
    rw [e_r4, Option.bind_some]
    try dsimp only
    by_cases q11 : r4v = 0
    · rw [if_pos q11]
      first | have hx_12 := i32_hi (r4v) | skip
      first | have hx_13 := i32_lo (r4v) | skip
      first | have f14 : (r4v : Int32).toInt = (0 : Int32).toInt := congrArg Int32.toInt q11 | skip
      exact ⟨_, rfl, S⟩
    · rw [if_neg q11]
      first | have hx_15 := i32_hi (r4v) | skip
      first | have hx_16 := i32_lo (r4v) | skip
      first | have f17 : (r4v : Int32).toInt ≠ (0 : Int32).toInt := ti_ne q11 | skip
      by_cases q18 : x3 ≤ 9999
      · rw [if_pos q18]
        have t19 : (9999 : Int32).toInt = 9999 := by decide
        first | have hx_20 := i32_hi (x3) | skip
        first | have hx_21 := i32_lo (x3) | skip
        first | have f22 : (x3 : Int32).toInt ≤ (9999 : Int32).toInt := Int32.le_iff_toInt_le.mp q18 | skip
        by_cases q23 : (h.1 6 x1.toNatClampNeg 3) = 1
        · rw [if_pos q23]
          have t24 : (1 : Int32).toInt = 1 := by decide
          first | have hx_25 := i32_hi (h.1 6 x1.toNatClampNeg 3) | skip
          first | have hx_26 := i32_lo (h.1 6 x1.toNatClampNeg 3) | skip
          first | have f27 : (h.1 6 x1.toNatClampNeg 3 : Int32).toInt = (1 : Int32).toInt := congrArg Int32.toInt q23 | skip
          obtain ⟨rr28, e_rr28, S_rr28⟩ := z_X11_event_j74 x1 x2 x3 h S ff_X11_event_j74 (by omega)
          rw [e_rr28]
          exact ⟨_, rfl, S_rr28⟩
        · rw [if_neg q23]
          have t29 : (1 : Int32).toInt = 1 := by decide
          first | have hx_30 := i32_hi (h.1 6 x1.toNatClampNeg 3) | skip
          first | have hx_31 := i32_lo (h.1 6 x1.toNatClampNeg 3) | skip
          first | have f32 : (h.1 6 x1.toNatClampNeg 3 : Int32).toInt ≠ (1 : Int32).toInt := ti_ne q23 | skip
          by_cases q33 : (h.1 6 x1.toNatClampNeg 3) = 2
          · rw [if_pos q33]
            have t34 : (2 : Int32).toInt = 2 := by decide
            first | have f35 : (h.1 6 x1.toNatClampNeg 3 : Int32).toInt = (2 : Int32).toInt := congrArg Int32.toInt q33 | skip
            obtain ⟨rr36, e_rr36, S_rr36⟩ := z_X11_event_j74 x1 x2 x3 h S ff_X11_event_j74 (by omega)
            rw [e_rr36]
            exact ⟨_, rfl, S_rr36⟩
          · rw [if_neg q33]
            have t37 : (2 : Int32).toInt = 2 := by decide
            first | have f38 : (h.1 6 x1.toNatClampNeg 3 : Int32).toInt ≠ (2 : Int32).toInt := ti_ne q33 | skip
            by_cases q39 : (h.1 6 x1.toNatClampNeg 3) = 3
            · rw [if_pos q39]
              have t40 : (3 : Int32).toInt = 3 := by decide
              first | have f41 : (h.1 6 x1.toNatClampNeg 3 : Int32).toInt = (3 : Int32).toInt := congrArg Int32.toInt q39 | skip
              obtain ⟨rr42, e_rr42, S_rr42⟩ := z_X11_event_j74 x1 x2 x3 h S ff_X11_event_j74 (by omega)
              rw [e_rr42]
              exact ⟨_, rfl, S_rr42⟩
            · rw [if_neg q39]
              have t43 : (3 : Int32).toInt = 3 := by decide
              first | have f44 : (h.1 6 x1.toNatClampNeg 3 : Int32).toInt ≠ (3 : Int32).toInt := ti_ne q39 | skip
              exact ⟨_, rfl, S⟩
      · rw [if_neg q18]
        have t45 : (9999 : Int32).toInt = 9999 := by decide
        first | have hx_46 := i32_hi (x3) | skip
        first | have hx_47 := i32_lo (x3) | skip
        first | have f48 : (9999 : Int32).toInt < (x3 : Int32).toInt := Int32.lt_iff_toInt_lt.mp (Int32.not_le.mp q18) | skip
        exact ⟨_, rfl, S⟩
def W_X4_start_s0 : List Nat := [256, 257, 258, 259]
set_option maxHeartbeats 400000 in
theorem z_X4_start_s0 {fp : Nat → Bool} {b : mH} {m : Nat}  (h : mH) (S : SI fp b m h) (ff : ∀ c ∈ W_X4_start_s0, fp c = false)  : ∃ r, f_X4_start 0 h = some r ∧ SI fp b m r := by
  have w256 : fp 256 = false := ff 256 (by decide)
  have w257 : fp 257 = false := ff 257 (by decide)
  have w258 : fp 258 = false := ff 258 (by decide)
  have w259 : fp 259 = false := ff 259 (by decide)
  unfold f_X4_start
  have t1 : (0 : Int32).toInt = 0 := by decide
  have w_2 : 0 ≤ (0 : Int32).toInt ∧ (0 : Int32).toInt ≤ 48 := by omega
  refine let_ex (fun h1 e_h1 => ?_)
  have S_h1 : SI fp b m h1 := e_h1 ▸ (SI.u S rfl w256 w_2)
  refine let_ex (fun h2 e_h2 => ?_)
  have S_h2 : SI fp b m h2 := e_h2 ▸ (SI.f S_h1 rfl w257 rfl)
  refine let_ex (fun h3 e_h3 => ?_)
  have S_h3 : SI fp b m h3 := e_h3 ▸ (SI.f S_h2 rfl w258 rfl)
  have w_3 : 0 ≤ (0 : Int32).toInt ∧ (0 : Int32).toInt ≤ 1 := by omega
  exact ⟨_, rfl, (SI.u S_h3 rfl w259 w_3)⟩
set_option maxHeartbeats 400000 in
theorem z_X4_goesOn_s0 {fp : Nat → Bool} {b : mH} {m : Nat} (i1 : Nat) (h : mH) (S : SI fp b m h)   : ∃ r, f_X4_goesOn 0 i1 h = some r ∧ r.2 = h ∧ (r.1 = 0 ∨ r.1 = 1) ∧ (r.1.toInt = 0 ∨ (h.1 4 0 0).toInt < 48) := by
  unfold f_X4_goesOn
  by_cases q1 : (h.1 4 0 0) < (h.1 3 i1 1)
  · rw [if_pos q1]
    have b2 : 0 ≤ (h.1 4 0 0).toInt ∧ (h.1 4 0 0).toInt ≤ 48 := (S).1 4 0 0
    have b3 : 0 ≤ (h.1 3 i1 1).toInt ∧ (h.1 3 i1 1).toInt ≤ 48 := (S).1 3 i1 1
    first | have hx_4 := i32_hi (h.1 4 0 0) | skip
    first | have hx_5 := i32_lo (h.1 4 0 0) | skip
    first | have hx_6 := i32_hi (h.1 3 i1 1) | skip
    first | have hx_7 := i32_lo (h.1 3 i1 1) | skip
    first | have f8 : (h.1 4 0 0 : Int32).toInt < (h.1 3 i1 1 : Int32).toInt := Int32.lt_iff_toInt_lt.mp q1 | skip
    by_cases q9 : (h.1 4 0 3) = 0
    · rw [if_pos q9]
      have b10 : 0 ≤ (h.1 4 0 3).toInt ∧ (h.1 4 0 3).toInt ≤ 1 := (S).1 4 0 3
      have t11 : (0 : Int32).toInt = 0 := by decide
      first | have hx_12 := i32_hi (h.1 4 0 3) | skip
      first | have hx_13 := i32_lo (h.1 4 0 3) | skip
      first | have f14 : (h.1 4 0 3 : Int32).toInt = (0 : Int32).toInt := congrArg Int32.toInt q9 | skip
      have t15 : (1 : Int32).toInt = 1 := by decide
      have pp16 : ((1 : Int32).toInt = 0 ∨ (h.1 4 0 0).toInt < 48) := by omega
      exact ⟨_, rfl, rfl, (Or.inr rfl), pp16⟩
    · rw [if_neg q9]
      have b17 : 0 ≤ (h.1 4 0 3).toInt ∧ (h.1 4 0 3).toInt ≤ 1 := (S).1 4 0 3
      have t18 : (0 : Int32).toInt = 0 := by decide
      first | have hx_19 := i32_hi (h.1 4 0 3) | skip
      first | have hx_20 := i32_lo (h.1 4 0 3) | skip
      first | have f21 : (h.1 4 0 3 : Int32).toInt ≠ (0 : Int32).toInt := ti_ne q9 | skip
      have pp22 : ((0 : Int32).toInt = 0 ∨ (h.1 4 0 0).toInt < 48) := by omega
      exact ⟨_, rfl, rfl, (Or.inl rfl), pp22⟩
  · rw [if_neg q1]
    have b23 : 0 ≤ (h.1 4 0 0).toInt ∧ (h.1 4 0 0).toInt ≤ 48 := (S).1 4 0 0
    have b24 : 0 ≤ (h.1 3 i1 1).toInt ∧ (h.1 3 i1 1).toInt ≤ 48 := (S).1 3 i1 1
    first | have hx_25 := i32_hi (h.1 4 0 0) | skip
    first | have hx_26 := i32_lo (h.1 4 0 0) | skip
    first | have hx_27 := i32_hi (h.1 3 i1 1) | skip
    first | have hx_28 := i32_lo (h.1 3 i1 1) | skip
    first | have f29 : (h.1 3 i1 1 : Int32).toInt ≤ (h.1 4 0 0 : Int32).toInt := Int32.le_iff_toInt_le.mp (Int32.not_lt.mp q1) | skip
    have t30 : (0 : Int32).toInt = 0 := by decide
    have pp31 : ((0 : Int32).toInt = 0 ∨ (h.1 4 0 0).toInt < 48) := by omega
    exact ⟨_, rfl, rfl, (Or.inl rfl), pp31⟩
def W_X2_readRegister_5 : List Nat := [2112, 2304]
set_option maxHeartbeats 400000 in
theorem z_X2_readRegister_5 {fp : Nat → Bool} {b : mH} {m : Nat} {P : Int32 × mH → Prop} (k : Int32 → Int32 → Int32 → Int32 → mH → Option (Int32 × mH))  (v1 : Int32) (v2 : Int32) (ff : ∀ c ∈ W_X2_readRegister_5, fp c = false) (cp0 : (0 ≤ v1.toInt ∧ v1.toInt < 8)) (hk : ∀ (v3 : Int32) (v4 : Int32) (h : mH), SI fp b m h → 0 ≤ v4.toInt → ∃ r, k v1 v2 v3 v4 h = some r ∧ P r) : ∀ (n : Nat) (v3 : Int32) (v4 : Int32) (h : mH), SI fp b m h → 0 ≤ v4.toInt → 2147483648 - v4.toInt < n → ∃ r, f_X2_readRegister_5 k  n v1 v2 v3 v4 h = some r ∧ P r := by
  have w2112 : fp 2112 = false := ff 2112 (by decide)
  have w2304 : fp 2304 = false := ff 2304 (by decide)
  intro n
  induction n with
  | zero =>
    intro v3 v4 h S iv0 hm
    have hz := i32_hi v4
    omega
  | succ n ih =>
    intro v3 v4 h S iv0 hm
    rw [f_X2_readRegister_5]
    have q1 : mIn v1 8 = true := (mIn_bd (by omega) (by omega))
    rw [if_pos q1]
    by_cases q2 : v4 < (h.1 29 0 v1.toNatClampNeg)
    · rw [if_pos q2]
      have b3 : 0 ≤ (h.1 29 0 v1.toNatClampNeg).toInt ∧ (h.1 29 0 v1.toNatClampNeg).toInt ≤ 16 := (S).1 29 0 v1.toNatClampNeg
      first | have hx_4 := i32_hi (v4) | skip
      first | have hx_5 := i32_lo (v4) | skip
      first | have hx_6 := i32_hi (h.1 29 0 v1.toNatClampNeg) | skip
      first | have hx_7 := i32_lo (h.1 29 0 v1.toNatClampNeg) | skip
      first | have f8 : (v4 : Int32).toInt < (h.1 29 0 v1.toNatClampNeg : Int32).toInt := Int32.lt_iff_toInt_lt.mp q2 | skip
      have q9 : mIn v4 16 = true := (mIn_bd (by omega) (by omega))
      rw [if_pos q9]
      have b10 : 0 ≤ (h.1 28 v1.toNatClampNeg v4.toNatClampNeg).toInt ∧ (h.1 28 v1.toNatClampNeg v4.toNatClampNeg).toInt ≤ 23 := (S).1 28 v1.toNatClampNeg v4.toNatClampNeg
      have q11 : mIn (h.1 28 v1.toNatClampNeg v4.toNatClampNeg) 24 = true := (mIn_bd (by omega) (by omega))
      rw [if_pos q11]
      by_cases q12 : (h.1 6 ((h.1 28 v1.toNatClampNeg v4.toNatClampNeg).toNatClampNeg) 3) = 3
      · rw [if_pos q12]
        have t13 : (3 : Int32).toInt = 3 := by decide
        first | have hx_14 := i32_hi (h.1 6 ((h.1 28 v1.toNatClampNeg v4.toNatClampNeg).toNatClampNeg) 3) | skip
        first | have hx_15 := i32_lo (h.1 6 ((h.1 28 v1.toNatClampNeg v4.toNatClampNeg).toNatClampNeg) 3) | skip
        first | have f16 : (h.1 6 ((h.1 28 v1.toNatClampNeg v4.toNatClampNeg).toNatClampNeg) 3 : Int32).toInt = (3 : Int32).toInt := congrArg Int32.toInt q12 | skip
        by_cases q17 : v2 = 0
        · rw [if_pos q17]
          have t18 : (0 : Int32).toInt = 0 := by decide
          first | have hx_19 := i32_hi (v2) | skip
          first | have hx_20 := i32_lo (v2) | skip
          first | have f21 : (v2 : Int32).toInt = (0 : Int32).toInt := congrArg Int32.toInt q17 | skip
          have t22 : (1 : Int32).toInt = 1 := by decide
          first | have o23 : (v4 + 1 : Int32).toInt = (v4 : Int32).toInt + (1 : Int32).toInt := ti_add (by omega) (by omega) | skip
          exact ih (v3 ||| ((h.1 33 0 (h.1 28 v1.toNatClampNeg v4.toNatClampNeg).toNatClampNeg) <<< ((h.1 6 ((h.1 28 v1.toNatClampNeg v4.toNatClampNeg).toNatClampNeg) 1) &&& 31))) (v4 + 1) (uI h 33 0 (h.1 28 v1.toNatClampNeg v4.toNatClampNeg).toNatClampNeg 0) (SI.f S rfl w2112 rfl) (by omega) (by omega)
        · rw [if_neg q17]
          have t24 : (0 : Int32).toInt = 0 := by decide
          first | have hx_25 := i32_hi (v2) | skip
          first | have hx_26 := i32_lo (v2) | skip
          first | have f27 : (v2 : Int32).toInt ≠ (0 : Int32).toInt := ti_ne q17 | skip
          refine let_ex (fun h7 e_h7 => ?_)
          have S_h7 : SI fp b m h7 := e_h7 ▸ (SI.f S rfl w2304 rfl)
          have t28 : (1 : Int32).toInt = 1 := by decide
          first | have o29 : (v4 + 1 : Int32).toInt = (v4 : Int32).toInt + (1 : Int32).toInt := ti_add (by omega) (by omega) | skip
          exact ih (v3 ||| ((h.1 33 0 (h.1 28 v1.toNatClampNeg v4.toNatClampNeg).toNatClampNeg) <<< ((h.1 6 ((h.1 28 v1.toNatClampNeg v4.toNatClampNeg).toNatClampNeg) 1) &&& 31))) (v4 + 1) (uI h7 33 0 (h.1 28 v1.toNatClampNeg v4.toNatClampNeg).toNatClampNeg 0) (SI.f S_h7 rfl w2112 rfl) (by omega) (by omega)
      · rw [if_neg q12]
        have t30 : (3 : Int32).toInt = 3 := by decide
        first | have hx_31 := i32_hi (h.1 6 ((h.1 28 v1.toNatClampNeg v4.toNatClampNeg).toNatClampNeg) 3) | skip
        first | have hx_32 := i32_lo (h.1 6 ((h.1 28 v1.toNatClampNeg v4.toNatClampNeg).toNatClampNeg) 3) | skip
        first | have f33 : (h.1 6 ((h.1 28 v1.toNatClampNeg v4.toNatClampNeg).toNatClampNeg) 3 : Int32).toInt ≠ (3 : Int32).toInt := ti_ne q12 | skip
        have t34 : (1 : Int32).toInt = 1 := by decide
        first | have o35 : (v4 + 1 : Int32).toInt = (v4 : Int32).toInt + (1 : Int32).toInt := ti_add (by omega) (by omega) | skip
        exact ih (v3 ||| ((h.1 33 0 (h.1 28 v1.toNatClampNeg v4.toNatClampNeg).toNatClampNeg) <<< ((h.1 6 ((h.1 28 v1.toNatClampNeg v4.toNatClampNeg).toNatClampNeg) 1) &&& 31))) (v4 + 1) h S (by omega) (by omega)
    · rw [if_neg q2]
      have b36 : 0 ≤ (h.1 29 0 v1.toNatClampNeg).toInt ∧ (h.1 29 0 v1.toNatClampNeg).toInt ≤ 16 := (S).1 29 0 v1.toNatClampNeg
      first | have hx_37 := i32_hi (v4) | skip
      first | have hx_38 := i32_lo (v4) | skip
      first | have hx_39 := i32_hi (h.1 29 0 v1.toNatClampNeg) | skip
      first | have hx_40 := i32_lo (h.1 29 0 v1.toNatClampNeg) | skip
      first | have f41 : (h.1 29 0 v1.toNatClampNeg : Int32).toInt ≤ (v4 : Int32).toInt := Int32.le_iff_toInt_le.mp (Int32.not_lt.mp q2) | skip
      exact hk v3 v4 h S iv0
def W_X2_fireEvents_4 : List Nat := [2112, 2496, 2560, 2624]
set_option maxHeartbeats 400000 in
theorem z_X2_fireEvents_4 {fp : Nat → Bool} {b : mH} {m : Nat} {P : mH → Prop} (k : Int32 → Int32 → mH → Option (mH))   (ff : ∀ c ∈ W_X2_fireEvents_4, fp c = false)  (hk : ∀ (v1 : Int32) (v2 : Int32) (h : mH), SI fp b m h → 0 ≤ v2.toInt → (0 ≤ v1.toInt ∧ v1.toInt ≤ v2.toInt ∧ v2.toInt ≤ 16) → ∃ r, k v1 v2 h = some r ∧ P r) : ∀ (n : Nat) (v1 : Int32) (v2 : Int32) (h : mH), SI fp b m h → 0 ≤ v2.toInt → (0 ≤ v1.toInt ∧ v1.toInt ≤ v2.toInt ∧ v2.toInt ≤ 16) → 2147483648 - v2.toInt < n → ∃ r, f_X2_fireEvents_4 k  n v1 v2 h = some r ∧ P r := by
  have w2112 : fp 2112 = false := ff 2112 (by decide)
  have w2496 : fp 2496 = false := ff 2496 (by decide)
  have w2560 : fp 2560 = false := ff 2560 (by decide)
  have w2624 : fp 2624 = false := ff 2624 (by decide)
  intro n
  induction n with
  | zero =>
    intro v1 v2 h S iv0 iv1 hm
    have hz := i32_hi v2
    omega
  | succ n ih =>
    intro v1 v2 h S iv0 iv1 hm
    rw [f_X2_fireEvents_4]
    by_cases q1 : v2 < (h.1 8 0 9)
    · rw [if_pos q1]
      have b2 : 0 ≤ (h.1 8 0 9).toInt ∧ (h.1 8 0 9).toInt ≤ 16 := (S).1 8 0 9
      first | have hx_3 := i32_hi (v2) | skip
      first | have hx_4 := i32_lo (v2) | skip
      first | have hx_5 := i32_hi (h.1 8 0 9) | skip
      first | have hx_6 := i32_lo (h.1 8 0 9) | skip
      first | have f7 : (v2 : Int32).toInt < (h.1 8 0 9 : Int32).toInt := Int32.lt_iff_toInt_lt.mp q1 | skip
      have q8 : mIn v2 16 = true := (mIn_bd (by omega) (by omega))
      rw [if_pos q8]
      by_cases q9 : (lg_cmp (h.2 41 0 v2.toNatClampNeg) (h.2 8 0 10)) = 0
      · rw [if_pos q9]
        have b10 : 0 ≤ (h.1 39 0 v2.toNatClampNeg).toInt ∧ (h.1 39 0 v2.toNatClampNeg).toInt ≤ 23 := (S).1 39 0 v2.toNatClampNeg
        have q11 : mIn (h.1 39 0 v2.toNatClampNeg) 24 = true := (mIn_bd (by omega) (by omega))
        rw [if_pos q11]
        by_cases q12 : (h.1 6 ((h.1 39 0 v2.toNatClampNeg).toNatClampNeg) 3) = 1
        · rw [if_pos q12]
          have t13 : (1 : Int32).toInt = 1 := by decide
          first | have hx_14 := i32_hi (h.1 6 ((h.1 39 0 v2.toNatClampNeg).toNatClampNeg) 3) | skip
          first | have hx_15 := i32_lo (h.1 6 ((h.1 39 0 v2.toNatClampNeg).toNatClampNeg) 3) | skip
          first | have f16 : (h.1 6 ((h.1 39 0 v2.toNatClampNeg).toNatClampNeg) 3 : Int32).toInt = (1 : Int32).toInt := congrArg Int32.toInt q12 | skip
          first | have o17 : (v2 + 1 : Int32).toInt = (v2 : Int32).toInt + (1 : Int32).toInt := ti_add (by omega) (by omega) | skip
          exact ih v1 (v2 + 1) (uI h 33 0 (h.1 39 0 v2.toNatClampNeg).toNatClampNeg (h.1 40 0 v2.toNatClampNeg)) (SI.f S rfl w2112 rfl) (by omega) (by omega) (by omega)
        · rw [if_neg q12]
          have t18 : (1 : Int32).toInt = 1 := by decide
          first | have hx_19 := i32_hi (h.1 6 ((h.1 39 0 v2.toNatClampNeg).toNatClampNeg) 3) | skip
          first | have hx_20 := i32_lo (h.1 6 ((h.1 39 0 v2.toNatClampNeg).toNatClampNeg) 3) | skip
          first | have f21 : (h.1 6 ((h.1 39 0 v2.toNatClampNeg).toNatClampNeg) 3 : Int32).toInt ≠ (1 : Int32).toInt := ti_ne q12 | skip
          first | have o22 : (v2 + 1 : Int32).toInt = (v2 : Int32).toInt + (1 : Int32).toInt := ti_add (by omega) (by omega) | skip
          exact ih v1 (v2 + 1) (uI h 33 0 (h.1 39 0 v2.toNatClampNeg).toNatClampNeg ((h.1 33 0 (h.1 39 0 v2.toNatClampNeg).toNatClampNeg) ||| (h.1 40 0 v2.toNatClampNeg))) (SI.f S rfl w2112 rfl) (by omega) (by omega) (by omega)
      · rw [if_neg q9]
        have q23 : mIn v1 16 = true := (mIn_bd (by omega) (by omega))
        rw [if_pos q23]
        have b24 : 0 ≤ (h.1 39 0 v2.toNatClampNeg).toInt ∧ (h.1 39 0 v2.toNatClampNeg).toInt ≤ 23 := (S).1 39 0 v2.toNatClampNeg
        have w_25 : 0 ≤ (h.1 39 0 v2.toNatClampNeg : Int32).toInt ∧ (h.1 39 0 v2.toNatClampNeg : Int32).toInt ≤ 23 := by omega
        refine let_ex (fun h7 e_h7 => ?_)
        have S_h7 : SI fp b m h7 := e_h7 ▸ (SI.u S rfl w2496 w_25)
        refine let_ex (fun h8 e_h8 => ?_)
        have S_h8 : SI fp b m h8 := e_h8 ▸ (SI.f S_h7 rfl w2560 rfl)
        have t26 : (1 : Int32).toInt = 1 := by decide
        first | have o27 : (v2 + 1 : Int32).toInt = (v2 : Int32).toInt + (1 : Int32).toInt := ti_add (by omega) (by omega) | skip
        first | have o28 : (v1 + 1 : Int32).toInt = (v1 : Int32).toInt + (1 : Int32).toInt := ti_add (by omega) (by omega) | skip
        exact ih (v1 + 1) (v2 + 1) (uJ h8 41 0 v1.toNatClampNeg (h8.2 41 0 v2.toNatClampNeg)) (SI.j S_h8 rfl w2624) (by omega) (by omega) (by omega)
    · rw [if_neg q1]
      have b29 : 0 ≤ (h.1 8 0 9).toInt ∧ (h.1 8 0 9).toInt ≤ 16 := (S).1 8 0 9
      first | have hx_30 := i32_hi (v2) | skip
      first | have hx_31 := i32_lo (v2) | skip
      first | have hx_32 := i32_hi (h.1 8 0 9) | skip
      first | have hx_33 := i32_lo (h.1 8 0 9) | skip
      first | have f34 : (h.1 8 0 9 : Int32).toInt ≤ (v2 : Int32).toInt := Int32.le_iff_toInt_le.mp (Int32.not_lt.mp q1) | skip
      exact hk v1 v2 h S iv0 iv1
def W_X2_fireEvents : List Nat := [521, 2112, 2496, 2560, 2624]
set_option maxHeartbeats 400000 in
theorem z_X2_fireEvents {fp : Nat → Bool} {b : mH} {m : Nat}  (h : mH) (S : SI fp b m h) (ff : ∀ c ∈ W_X2_fireEvents, fp c = false)  : ∃ r, f_X2_fireEvents h = some r ∧ SI fp b m r := by
  have ff_X2_fireEvents_4 : ∀ c ∈ W_X2_fireEvents_4, fp c = false := fun c hc => ff c ((by decide : ∀ c ∈ W_X2_fireEvents_4, c ∈ W_X2_fireEvents) c hc)
  have w521 : fp 521 = false := ff 521 (by decide)
  unfold f_X2_fireEvents
  have t1 : (0 : Int32).toInt = 0 := by decide
  refine z_X2_fireEvents_4 (m := m) _   ff_X2_fireEvents_4  (fun u9 u10 h11 S_h11 y2 y3 => ?_)  mFu 0 0 h S (by omega) (by omega) (by have := mFu_big; omega)
  try dsimp only
  have w_4 : 0 ≤ (u9 : Int32).toInt ∧ (u9 : Int32).toInt ≤ 16 := by omega
  exact ⟨_, rfl, (SI.u S_h11 rfl w521 w_4)⟩
def W_X2_endPulse : List Nat := [2112]
set_option maxHeartbeats 400000 in
theorem z_X2_endPulse {fp : Nat → Bool} {b : mH} {m : Nat} (x1 : Int32) (h : mH) (S : SI fp b m h) (ff : ∀ c ∈ W_X2_endPulse, fp c = false) (pr0 : (0 ≤ x1.toInt ∧ x1.toInt < 24)) : ∃ r, f_X2_endPulse x1 h = some r ∧ SI fp b m r := by
  have w2112 : fp 2112 = false := ff 2112 (by decide)
  unfold f_X2_endPulse
  have q1 : mIn x1 24 = true := (mIn_bd (by omega) (by omega))
  rw [if_pos q1]
  refine let_ex (fun h2 e_h2 => ?_)
  have S_h2 : SI fp b m h2 := e_h2 ▸ (SI.f S rfl w2112 rfl)
  by_cases q2 : (h2.1 6 x1.toNatClampNeg 8) < 0
  · rw [if_pos q2]
    have b3 : -1 ≤ (h2.1 6 x1.toNatClampNeg 8).toInt ∧ (h2.1 6 x1.toNatClampNeg 8).toInt ≤ 23 := (S_h2).1 6 x1.toNatClampNeg 8
    have l4 : (h2.1 6 x1.toNatClampNeg 8).toInt = (h.1 6 x1.toNatClampNeg 8).toInt := by rw [← e_h2, uI_t _ rfl]
    have b5 : -1 ≤ (h.1 6 x1.toNatClampNeg 8).toInt ∧ (h.1 6 x1.toNatClampNeg 8).toInt ≤ 23 := (S).1 6 x1.toNatClampNeg 8
    have t6 : (0 : Int32).toInt = 0 := by decide
    first | have hx_7 := i32_hi (h2.1 6 x1.toNatClampNeg 8) | skip
    first | have hx_8 := i32_lo (h2.1 6 x1.toNatClampNeg 8) | skip
    first | have f9 : (h2.1 6 x1.toNatClampNeg 8 : Int32).toInt < (0 : Int32).toInt := Int32.lt_iff_toInt_lt.mp q2 | skip
    exact ⟨_, rfl, S_h2⟩
  · rw [if_neg q2]
    have b10 : -1 ≤ (h2.1 6 x1.toNatClampNeg 8).toInt ∧ (h2.1 6 x1.toNatClampNeg 8).toInt ≤ 23 := (S_h2).1 6 x1.toNatClampNeg 8
    have l11 : (h2.1 6 x1.toNatClampNeg 8).toInt = (h.1 6 x1.toNatClampNeg 8).toInt := by rw [← e_h2, uI_t _ rfl]
    have b12 : -1 ≤ (h.1 6 x1.toNatClampNeg 8).toInt ∧ (h.1 6 x1.toNatClampNeg 8).toInt ≤ 23 := (S).1 6 x1.toNatClampNeg 8
    have t13 : (0 : Int32).toInt = 0 := by decide
    first | have hx_14 := i32_hi (h2.1 6 x1.toNatClampNeg 8) | skip
    first | have hx_15 := i32_lo (h2.1 6 x1.toNatClampNeg 8) | skip
    first | have f16 : (0 : Int32).toInt ≤ (h2.1 6 x1.toNatClampNeg 8 : Int32).toInt := Int32.le_iff_toInt_le.mp (Int32.not_lt.mp q2) | skip
    have q17 : mIn (h2.1 6 x1.toNatClampNeg 8) 24 = true := (mIn_bd (by omega) (by omega))
    rw [if_pos q17]
    exact ⟨_, rfl, (SI.f S_h2 rfl w2112 rfl)⟩
def W_X2_tick_15 : List Nat := [2112, 2240]
set_option maxHeartbeats 400000 in
theorem z_X2_tick_15 {fp : Nat → Bool} {b : mH} {m : Nat} {P : mH → Prop} (k : Int32 → mH → Option (mH))   (ff : ∀ c ∈ W_X2_tick_15, fp c = false)  (hk : ∀ (v1 : Int32) (h : mH), SI fp b m h → 0 ≤ v1.toInt → ∃ r, k v1 h = some r ∧ P r) : ∀ (n : Nat) (v1 : Int32) (h : mH), SI fp b m h → 0 ≤ v1.toInt → 2147483648 - v1.toInt < n → ∃ r, f_X2_tick_15 k  n v1 h = some r ∧ P r := by
  have ff_X2_endPulse : ∀ c ∈ W_X2_endPulse, fp c = false := fun c hc => ff c ((by decide : ∀ c ∈ W_X2_endPulse, c ∈ W_X2_tick_15) c hc)
  have w2240 : fp 2240 = false := ff 2240 (by decide)
  intro n
  induction n with
  | zero =>
    intro v1 h S iv0 hm
    have hz := i32_hi v1
    omega
  | succ n ih =>
    intro v1 h S iv0 hm
    rw [f_X2_tick_15]
    by_cases q1 : v1 < (h.1 2 0 6)
    · rw [if_pos q1]
      have b2 : 0 ≤ (h.1 2 0 6).toInt ∧ (h.1 2 0 6).toInt ≤ 24 := (S).1 2 0 6
      first | have hx_3 := i32_hi (v1) | skip
      first | have hx_4 := i32_lo (v1) | skip
      first | have hx_5 := i32_hi (h.1 2 0 6) | skip
      first | have hx_6 := i32_lo (h.1 2 0 6) | skip
      first | have f7 : (v1 : Int32).toInt < (h.1 2 0 6 : Int32).toInt := Int32.lt_iff_toInt_lt.mp q1 | skip
      have q8 : mIn v1 24 = true := (mIn_bd (by omega) (by omega))
      rw [if_pos q8]
      have b9 : 0 ≤ (h.1 31 0 v1.toNatClampNeg).toInt ∧ (h.1 31 0 v1.toNatClampNeg).toInt ≤ 23 := (S).1 31 0 v1.toNatClampNeg
      have q10 : mIn (h.1 31 0 v1.toNatClampNeg) 24 = true := (mIn_bd (by omega) (by omega))
      rw [if_pos q10]
      by_cases q11 : (h.1 35 0 (h.1 31 0 v1.toNatClampNeg).toNatClampNeg) ≤ 0
      · rw [if_pos q11]
        have t12 : (0 : Int32).toInt = 0 := by decide
        first | have hx_13 := i32_hi (h.1 35 0 (h.1 31 0 v1.toNatClampNeg).toNatClampNeg) | skip
        first | have hx_14 := i32_lo (h.1 35 0 (h.1 31 0 v1.toNatClampNeg).toNatClampNeg) | skip
        first | have f15 : (h.1 35 0 (h.1 31 0 v1.toNatClampNeg).toNatClampNeg : Int32).toInt ≤ (0 : Int32).toInt := Int32.le_iff_toInt_le.mp q11 | skip
        have t16 : (1 : Int32).toInt = 1 := by decide
        first | have o17 : (v1 + 1 : Int32).toInt = (v1 : Int32).toInt + (1 : Int32).toInt := ti_add (by omega) (by omega) | skip
        exact ih (v1 + 1) h S (by omega) (by omega)
      · rw [if_neg q11]
        have t18 : (0 : Int32).toInt = 0 := by decide
        first | have hx_19 := i32_hi (h.1 35 0 (h.1 31 0 v1.toNatClampNeg).toNatClampNeg) | skip
        first | have hx_20 := i32_lo (h.1 35 0 (h.1 31 0 v1.toNatClampNeg).toNatClampNeg) | skip
        first | have f21 : (0 : Int32).toInt < (h.1 35 0 (h.1 31 0 v1.toNatClampNeg).toNatClampNeg : Int32).toInt := Int32.lt_iff_toInt_lt.mp (Int32.not_le.mp q11) | skip
        refine let_ex (fun h5 e_h5 => ?_)
        have S_h5 : SI fp b m h5 := e_h5 ▸ (SI.f S rfl w2240 rfl)
        by_cases q22 : (h5.1 35 0 (h.1 31 0 v1.toNatClampNeg).toNatClampNeg) = 0
        · rw [if_pos q22]
          have t23 : (1 : Int32).toInt = 1 := by decide
          first | have o24 : ((h.1 35 0 (h.1 31 0 v1.toNatClampNeg).toNatClampNeg) - 1 : Int32).toInt = (h.1 35 0 (h.1 31 0 v1.toNatClampNeg).toNatClampNeg : Int32).toInt - (1 : Int32).toInt := ti_sub (by omega) (by omega) | skip
          have l25 : (h5.1 35 0 (h.1 31 0 v1.toNatClampNeg).toNatClampNeg).toInt = ((h.1 35 0 (h.1 31 0 v1.toNatClampNeg).toNatClampNeg) - 1 : Int32).toInt := by rw [← e_h5, uI_s']
          first | have hx_26 := i32_hi (h5.1 35 0 (h.1 31 0 v1.toNatClampNeg).toNatClampNeg) | skip
          first | have hx_27 := i32_lo (h5.1 35 0 (h.1 31 0 v1.toNatClampNeg).toNatClampNeg) | skip
          first | have f28 : (h5.1 35 0 (h.1 31 0 v1.toNatClampNeg).toNatClampNeg : Int32).toInt = (0 : Int32).toInt := congrArg Int32.toInt q22 | skip
          obtain ⟨r7, e_r7, S_r7⟩ := z_X2_endPulse (h.1 31 0 v1.toNatClampNeg) h5 S_h5 ff_X2_endPulse (by omega)
          rw [e_r7, Option.bind_some]
          first | have o29 : (v1 + 1 : Int32).toInt = (v1 : Int32).toInt + (1 : Int32).toInt := ti_add (by omega) (by omega) | skip
          exact ih (v1 + 1) r7 S_r7 (by omega) (by omega)
        · rw [if_neg q22]
          have t30 : (1 : Int32).toInt = 1 := by decide
          first | have o31 : ((h.1 35 0 (h.1 31 0 v1.toNatClampNeg).toNatClampNeg) - 1 : Int32).toInt = (h.1 35 0 (h.1 31 0 v1.toNatClampNeg).toNatClampNeg : Int32).toInt - (1 : Int32).toInt := ti_sub (by omega) (by omega) | skip
          have l32 : (h5.1 35 0 (h.1 31 0 v1.toNatClampNeg).toNatClampNeg).toInt = ((h.1 35 0 (h.1 31 0 v1.toNatClampNeg).toNatClampNeg) - 1 : Int32).toInt := by rw [← e_h5, uI_s']
          first | have hx_33 := i32_hi (h5.1 35 0 (h.1 31 0 v1.toNatClampNeg).toNatClampNeg) | skip
          first | have hx_34 := i32_lo (h5.1 35 0 (h.1 31 0 v1.toNatClampNeg).toNatClampNeg) | skip
          first | have f35 : (h5.1 35 0 (h.1 31 0 v1.toNatClampNeg).toNatClampNeg : Int32).toInt ≠ (0 : Int32).toInt := ti_ne q22 | skip
          first | have o36 : (v1 + 1 : Int32).toInt = (v1 : Int32).toInt + (1 : Int32).toInt := ti_add (by omega) (by omega) | skip
          exact ih (v1 + 1) h5 S_h5 (by omega) (by omega)
    · rw [if_neg q1]
      have b37 : 0 ≤ (h.1 2 0 6).toInt ∧ (h.1 2 0 6).toInt ≤ 24 := (S).1 2 0 6
      first | have hx_38 := i32_hi (v1) | skip
      first | have hx_39 := i32_lo (v1) | skip
      first | have hx_40 := i32_hi (h.1 2 0 6) | skip
      first | have hx_41 := i32_lo (h.1 2 0 6) | skip
      first | have f42 : (h.1 2 0 6 : Int32).toInt ≤ (v1 : Int32).toInt := Int32.le_iff_toInt_le.mp (Int32.not_lt.mp q1) | skip
      exact hk v1 h S iv0
def W_X2_tick : List Nat := [521, 522, 2112, 2240, 2496, 2560, 2624]
set_option maxHeartbeats 400000 in
theorem z_X2_tick {fp : Nat → Bool} {b : mH} {m : Nat}  (h : mH) (S : SI fp b m h) (ff : ∀ c ∈ W_X2_tick, fp c = false)  : ∃ r, f_X2_tick h = some r ∧ SI fp b (m + 1) r := by
  have ff_X2_fireEvents : ∀ c ∈ W_X2_fireEvents, fp c = false := fun c hc => ff c ((by decide : ∀ c ∈ W_X2_fireEvents, c ∈ W_X2_tick) c hc)
  have ff_X2_tick_15 : ∀ c ∈ W_X2_tick_15, fp c = false := fun c hc => ff c ((by decide : ∀ c ∈ W_X2_tick_15, c ∈ W_X2_tick) c hc)
  have w522 : fp 522 = false := ff 522 (by decide)
  unfold f_X2_tick
  obtain ⟨g1, e_g1⟩ : ∃ g, uJ h 8 0 10 ((h.2 8 0 10) + 1) = g := ⟨_, rfl⟩
  rw [e_g1]
  have S_g1 : SI fp b (m + 1) g1 := e_g1 ▸ (SI.tkC S w522)
  have t2 : (0 : Int32).toInt = 0 := by decide
  refine z_X2_tick_15 (m := (m + 1)) _   ff_X2_tick_15  (fun u8 h9 S_h9 y3 => ?_)  mFu 0 g1 S_g1 (by omega) (by have := mFu_big; omega)
  try dsimp only
  by_cases q4 : (h9.1 8 0 9) ≤ 0
  · rw [if_pos q4]
    have b5 : 0 ≤ (h9.1 8 0 9).toInt ∧ (h9.1 8 0 9).toInt ≤ 16 := (S_h9).1 8 0 9
    first | have hx_6 := i32_hi (h9.1 8 0 9) | skip
    first | have hx_7 := i32_lo (h9.1 8 0 9) | skip
    first | have f8 : (h9.1 8 0 9 : Int32).toInt ≤ (0 : Int32).toInt := Int32.le_iff_toInt_le.mp q4 | skip
    exact ⟨_, rfl, S_h9⟩
  · rw [if_neg q4]
    have b9 : 0 ≤ (h9.1 8 0 9).toInt ∧ (h9.1 8 0 9).toInt ≤ 16 := (S_h9).1 8 0 9
    first | have hx_10 := i32_hi (h9.1 8 0 9) | skip
    first | have hx_11 := i32_lo (h9.1 8 0 9) | skip
    first | have f12 : (0 : Int32).toInt < (h9.1 8 0 9 : Int32).toInt := Int32.lt_iff_toInt_lt.mp (Int32.not_le.mp q4) | skip
    obtain ⟨r11, e_r11, S_r11⟩ := z_X2_fireEvents  h9 S_h9 ff_X2_fireEvents 
    rw [e_r11, Option.bind_some]
    exact ⟨_, rfl, S_r11⟩
set_option maxHeartbeats 400000 in
theorem y_X2_tick {fp : Nat → Bool} {b : mH} {m : Nat}  (h : mH) (S : SI fp b m h) (ff : ∀ c ∈ W_X2_tick, fp c = false)  : ∃ r, f_X2_tick h = some r ∧ SI fp b (m + 1) r ∧ fz (fun c => !(W_X2_tick.contains c)) h r := by
  obtain ⟨r, e1, s1⟩ := z_X2_tick (fp := fun c => fp c || !(W_X2_tick.contains c)) (b := h) (m := 0)  h (S.re _) (fun c hc => Bool.or_eq_false_iff.mpr ⟨ff c hc, by rw [List.contains_iff_mem.mpr hc]; rfl⟩) 
  refine ⟨r, e1, SI.mono (S.back s1 (fun c hc => Bool.or_eq_true_iff.mpr (Or.inl hc))) (by omega), fun t i k hc => s1.2.2.1 t i k (Bool.or_eq_true_iff.mpr (Or.inr hc))⟩
def W_X2_readRegister : List Nat := [521, 522, 2112, 2240, 2304, 2496, 2560, 2624]
set_option maxHeartbeats 400000 in
theorem z_X2_readRegister {fp : Nat → Bool} {b : mH} {m : Nat} (x1 : Int32) (x2 : Int32) (h : mH) (S : SI fp b m h) (ff : ∀ c ∈ W_X2_readRegister, fp c = false) (pr0 : (0 ≤ x1.toInt ∧ x1.toInt < 8)) : ∃ r, f_X2_readRegister x1 x2 h = some r ∧ SI fp b (m + 1) r.2 := by
  have ff_X2_readRegister_5 : ∀ c ∈ W_X2_readRegister_5, fp c = false := fun c hc => ff c ((by decide : ∀ c ∈ W_X2_readRegister_5, c ∈ W_X2_readRegister) c hc)
  have ff_X2_tick : ∀ c ∈ W_X2_tick, fp c = false := fun c hc => ff c ((by decide : ∀ c ∈ W_X2_tick, c ∈ W_X2_readRegister) c hc)
  unfold f_X2_readRegister
  have t1 : (0 : Int32).toInt = 0 := by decide
  refine z_X2_readRegister_5 (m := m) _  x1 x2 ff_X2_readRegister_5 pr0 (fun u10 u11 h12 S_h12 y2 => ?_)  mFu 0 0 h S (by omega) (by have := mFu_big; omega)
  try dsimp only
  obtain ⟨r13, e_r13, S_r13, fr_r13⟩ := y_X2_tick  h12 S_h12 ff_X2_tick 
  rw [e_r13, Option.bind_some]
  exact ⟨_, rfl, S_r13⟩
set_option maxHeartbeats 400000 in
theorem y_X2_readRegister {fp : Nat → Bool} {b : mH} {m : Nat} (x1 : Int32) (x2 : Int32) (h : mH) (S : SI fp b m h) (ff : ∀ c ∈ W_X2_readRegister, fp c = false) (pr0 : (0 ≤ x1.toInt ∧ x1.toInt < 8)) : ∃ r, f_X2_readRegister x1 x2 h = some r ∧ SI fp b (m + 1) r.2 ∧ fz (fun c => !(W_X2_readRegister.contains c)) h r.2 := by
  obtain ⟨r, e1, s1⟩ := z_X2_readRegister (fp := fun c => fp c || !(W_X2_readRegister.contains c)) (b := h) (m := 0) x1 x2 h (S.re _) (fun c hc => Bool.or_eq_false_iff.mpr ⟨ff c hc, by rw [List.contains_iff_mem.mpr hc]; rfl⟩) pr0
  refine ⟨r, e1, SI.mono (S.back s1 (fun c hc => Bool.or_eq_true_iff.mpr (Or.inl hc))) (by omega), fun t i k hc => s1.2.2.1 t i k (Bool.or_eq_true_iff.mpr (Or.inr hc))⟩
set_option maxHeartbeats 400000 in
theorem z_X2_isHit {fp : Nat → Bool} {b : mH} {m : Nat} (x1 : Int32) (x2 : Int32) (h : mH) (S : SI fp b m h)  (pr0 : (0 ≤ x1.toInt ∧ x1.toInt < 24)) : ∃ r, f_X2_isHit x1 x2 h = some r ∧ r.2 = h ∧ (r.1 = 0 ∨ r.1 = 1) := by
  unfold f_X2_isHit
  have q1 : mIn x1 24 = true := (mIn_bd (by omega) (by omega))
  rw [if_pos q1]
  by_cases q2 : (h.1 6 x1.toNatClampNeg 3) = 0
  · rw [if_pos q2]
    have t3 : (0 : Int32).toInt = 0 := by decide
    first | have hx_4 := i32_hi (h.1 6 x1.toNatClampNeg 3) | skip
    first | have hx_5 := i32_lo (h.1 6 x1.toNatClampNeg 3) | skip
    first | have f6 : (h.1 6 x1.toNatClampNeg 3 : Int32).toInt = (0 : Int32).toInt := congrArg Int32.toInt q2 | skip
    by_cases q7 : x2 = (h.1 33 0 x1.toNatClampNeg)
    · rw [if_pos q7]
      first | have hx_8 := i32_hi (x2) | skip
      first | have hx_9 := i32_lo (x2) | skip
      first | have hx_10 := i32_hi (h.1 33 0 x1.toNatClampNeg) | skip
      first | have hx_11 := i32_lo (h.1 33 0 x1.toNatClampNeg) | skip
      first | have f12 : (x2 : Int32).toInt = (h.1 33 0 x1.toNatClampNeg : Int32).toInt := congrArg Int32.toInt q7 | skip
      exact ⟨_, rfl, rfl, (Or.inl rfl)⟩
    · rw [if_neg q7]
      first | have hx_13 := i32_hi (x2) | skip
      first | have hx_14 := i32_lo (x2) | skip
      first | have hx_15 := i32_hi (h.1 33 0 x1.toNatClampNeg) | skip
      first | have hx_16 := i32_lo (h.1 33 0 x1.toNatClampNeg) | skip
      first | have f17 : (x2 : Int32).toInt ≠ (h.1 33 0 x1.toNatClampNeg : Int32).toInt := ti_ne q7 | skip
      have t18 : (1 : Int32).toInt = 1 := by decide
      exact ⟨_, rfl, rfl, (Or.inr rfl)⟩
  · rw [if_neg q2]
    have t19 : (0 : Int32).toInt = 0 := by decide
    first | have hx_20 := i32_hi (h.1 6 x1.toNatClampNeg 3) | skip
    first | have hx_21 := i32_lo (h.1 6 x1.toNatClampNeg 3) | skip
    first | have f22 : (h.1 6 x1.toNatClampNeg 3 : Int32).toInt ≠ (0 : Int32).toInt := ti_ne q2 | skip
    by_cases q23 : (h.1 6 x1.toNatClampNeg 3) = 2
    · rw [if_pos q23]
      have t24 : (2 : Int32).toInt = 2 := by decide
      first | have f25 : (h.1 6 x1.toNatClampNeg 3 : Int32).toInt = (2 : Int32).toInt := congrArg Int32.toInt q23 | skip
      by_cases q26 : x2 = 0
      · rw [if_pos q26]
        first | have hx_27 := i32_hi (x2) | skip
        first | have hx_28 := i32_lo (x2) | skip
        first | have f29 : (x2 : Int32).toInt = (0 : Int32).toInt := congrArg Int32.toInt q26 | skip
        exact ⟨_, rfl, rfl, (Or.inl rfl)⟩
      · rw [if_neg q26]
        first | have hx_30 := i32_hi (x2) | skip
        first | have hx_31 := i32_lo (x2) | skip
        first | have f32 : (x2 : Int32).toInt ≠ (0 : Int32).toInt := ti_ne q26 | skip
        have t33 : (1 : Int32).toInt = 1 := by decide
        exact ⟨_, rfl, rfl, (Or.inr rfl)⟩
    · rw [if_neg q23]
      have t34 : (2 : Int32).toInt = 2 := by decide
      first | have f35 : (h.1 6 x1.toNatClampNeg 3 : Int32).toInt ≠ (2 : Int32).toInt := ti_ne q23 | skip
      by_cases q36 : (h.1 6 x1.toNatClampNeg 3) = 4
      · rw [if_pos q36]
        have t37 : (4 : Int32).toInt = 4 := by decide
        first | have f38 : (h.1 6 x1.toNatClampNeg 3 : Int32).toInt = (4 : Int32).toInt := congrArg Int32.toInt q36 | skip
        by_cases q39 : x2 = 0
        · rw [if_pos q39]
          first | have hx_40 := i32_hi (x2) | skip
          first | have hx_41 := i32_lo (x2) | skip
          first | have f42 : (x2 : Int32).toInt = (0 : Int32).toInt := congrArg Int32.toInt q39 | skip
          exact ⟨_, rfl, rfl, (Or.inl rfl)⟩
        · rw [if_neg q39]
          first | have hx_43 := i32_hi (x2) | skip
          first | have hx_44 := i32_lo (x2) | skip
          first | have f45 : (x2 : Int32).toInt ≠ (0 : Int32).toInt := ti_ne q39 | skip
          have t46 : (1 : Int32).toInt = 1 := by decide
          exact ⟨_, rfl, rfl, (Or.inr rfl)⟩
      · rw [if_neg q36]
        have t47 : (4 : Int32).toInt = 4 := by decide
        first | have f48 : (h.1 6 x1.toNatClampNeg 3 : Int32).toInt ≠ (4 : Int32).toInt := ti_ne q36 | skip
        by_cases q49 : (h.1 6 x1.toNatClampNeg 3) = 5
        · rw [if_pos q49]
          have t50 : (5 : Int32).toInt = 5 := by decide
          first | have f51 : (h.1 6 x1.toNatClampNeg 3 : Int32).toInt = (5 : Int32).toInt := congrArg Int32.toInt q49 | skip
          by_cases q52 : x2 = (h.1 34 0 x1.toNatClampNeg)
          · rw [if_pos q52]
            first | have hx_53 := i32_hi (x2) | skip
            first | have hx_54 := i32_lo (x2) | skip
            first | have hx_55 := i32_hi (h.1 34 0 x1.toNatClampNeg) | skip
            first | have hx_56 := i32_lo (h.1 34 0 x1.toNatClampNeg) | skip
            first | have f57 : (x2 : Int32).toInt = (h.1 34 0 x1.toNatClampNeg : Int32).toInt := congrArg Int32.toInt q52 | skip
            exact ⟨_, rfl, rfl, (Or.inl rfl)⟩
          · rw [if_neg q52]
            first | have hx_58 := i32_hi (x2) | skip
            first | have hx_59 := i32_lo (x2) | skip
            first | have hx_60 := i32_hi (h.1 34 0 x1.toNatClampNeg) | skip
            first | have hx_61 := i32_lo (h.1 34 0 x1.toNatClampNeg) | skip
            first | have f62 : (x2 : Int32).toInt ≠ (h.1 34 0 x1.toNatClampNeg : Int32).toInt := ti_ne q52 | skip
            have t63 : (1 : Int32).toInt = 1 := by decide
            exact ⟨_, rfl, rfl, (Or.inr rfl)⟩
        · rw [if_neg q49]
          have t64 : (5 : Int32).toInt = 5 := by decide
          first | have f65 : (h.1 6 x1.toNatClampNeg 3 : Int32).toInt ≠ (5 : Int32).toInt := ti_ne q49 | skip
          by_cases q66 : (h.1 6 x1.toNatClampNeg 3) = 6
          · rw [if_pos q66]
            have t67 : (6 : Int32).toInt = 6 := by decide
            first | have f68 : (h.1 6 x1.toNatClampNeg 3 : Int32).toInt = (6 : Int32).toInt := congrArg Int32.toInt q66 | skip
            by_cases q69 : x2 = 0
            · rw [if_pos q69]
              first | have hx_70 := i32_hi (x2) | skip
              first | have hx_71 := i32_lo (x2) | skip
              first | have f72 : (x2 : Int32).toInt = (0 : Int32).toInt := congrArg Int32.toInt q69 | skip
              exact ⟨_, rfl, rfl, (Or.inl rfl)⟩
            · rw [if_neg q69]
              first | have hx_73 := i32_hi (x2) | skip
              first | have hx_74 := i32_lo (x2) | skip
              first | have f75 : (x2 : Int32).toInt ≠ (0 : Int32).toInt := ti_ne q69 | skip
              have t76 : (1 : Int32).toInt = 1 := by decide
              exact ⟨_, rfl, rfl, (Or.inr rfl)⟩
          · rw [if_neg q66]
            have t77 : (6 : Int32).toInt = 6 := by decide
            first | have f78 : (h.1 6 x1.toNatClampNeg 3 : Int32).toInt ≠ (6 : Int32).toInt := ti_ne q66 | skip
            exact ⟨_, rfl, rfl, (Or.inl rfl)⟩
set_option maxHeartbeats 400000 in
theorem z_X6_bitsIn {fp : Nat → Bool} {b : mH} {m : Nat} (i0 : Nat) (x1 : Int32) (h : mH) (S : SI fp b m h)   : ∃ r, f_X6_bitsIn i0 x1 h = some r ∧ r.2 = h := by
  unfold f_X6_bitsIn
  exact ⟨_, rfl, rfl⟩
set_option maxHeartbeats 400000 in
theorem z_X2_hitsOf_5 {fp : Nat → Bool} {b : mH} {m : Nat} {P : Int32 × mH → Prop} (k : Int32 → Int32 → Int32 → Int32 → mH → Option (Int32 × mH))  (v1 : Int32) (v2 : Int32) (h : mH) (S : SI fp b m h) (cp0 : (0 ≤ v1.toInt ∧ v1.toInt < 8)) (hk : ∀ (v3 : Int32) (v4 : Int32), 0 ≤ v4.toInt → ∃ r, k v1 v2 v3 v4 h = some r ∧ P r) : ∀ (n : Nat) (v3 : Int32) (v4 : Int32), 0 ≤ v4.toInt → 2147483648 - v4.toInt < n → ∃ r, f_X2_hitsOf_5 k  n v1 v2 v3 v4 h = some r ∧ P r := by
  intro n
  induction n with
  | zero =>
    intro v3 v4 iv0 hm
    have hz := i32_hi v4
    omega
  | succ n ih =>
    intro v3 v4 iv0 hm
    rw [f_X2_hitsOf_5]
    have q1 : mIn v1 8 = true := (mIn_bd (by omega) (by omega))
    rw [if_pos q1]
    by_cases q2 : v4 < (h.1 29 0 v1.toNatClampNeg)
    · rw [if_pos q2]
      have b3 : 0 ≤ (h.1 29 0 v1.toNatClampNeg).toInt ∧ (h.1 29 0 v1.toNatClampNeg).toInt ≤ 16 := (S).1 29 0 v1.toNatClampNeg
      first | have hx_4 := i32_hi (v4) | skip
      first | have hx_5 := i32_lo (v4) | skip
      first | have hx_6 := i32_hi (h.1 29 0 v1.toNatClampNeg) | skip
      first | have hx_7 := i32_lo (h.1 29 0 v1.toNatClampNeg) | skip
      first | have f8 : (v4 : Int32).toInt < (h.1 29 0 v1.toNatClampNeg : Int32).toInt := Int32.lt_iff_toInt_lt.mp q2 | skip
      have q9 : mIn v4 16 = true := (mIn_bd (by omega) (by omega))
      rw [if_pos q9]
      have b10 : 0 ≤ (h.1 28 v1.toNatClampNeg v4.toNatClampNeg).toInt ∧ (h.1 28 v1.toNatClampNeg v4.toNatClampNeg).toInt ≤ 23 := (S).1 28 v1.toNatClampNeg v4.toNatClampNeg
      have q11 : mIn (h.1 28 v1.toNatClampNeg v4.toNatClampNeg) 24 = true := (mIn_bd (by omega) (by omega))
      rw [if_pos q11]
      obtain ⟨⟨r5v, r5h⟩, e_r5, (hh_r5 : r5h = h)⟩ := z_X6_bitsIn ((h.1 28 v1.toNatClampNeg v4.toNatClampNeg).toNatClampNeg) v2 h S  
      replace hh_r5 := hh_r5.symm
      subst hh_r5
      rw [e_r5, Option.bind_some]
      try dsimp only
      obtain ⟨⟨r6v, r6h⟩, e_r6, (hh_r6 : r6h = h), p_r6_0⟩ := z_X2_isHit (h.1 28 v1.toNatClampNeg v4.toNatClampNeg) r5v h S  (by omega)
      replace hh_r6 := hh_r6.symm
      subst hh_r6
      dsimp only at p_r6_0
      have bb_r6 := bool_bd p_r6_0
      rw [e_r6, Option.bind_some]
      try dsimp only
      by_cases q12 : r6v = 0
      · rw [if_pos q12]
        have t13 : (0 : Int32).toInt = 0 := by decide
        first | have hx_14 := i32_hi (r6v) | skip
        first | have hx_15 := i32_lo (r6v) | skip
        first | have f16 : (r6v : Int32).toInt = (0 : Int32).toInt := congrArg Int32.toInt q12 | skip
        have t17 : (1 : Int32).toInt = 1 := by decide
        first | have o18 : (v4 + 1 : Int32).toInt = (v4 : Int32).toInt + (1 : Int32).toInt := ti_add (by omega) (by omega) | skip
        exact ih v3 (v4 + 1) (by omega) (by omega)
      · rw [if_neg q12]
        have t19 : (0 : Int32).toInt = 0 := by decide
        first | have hx_20 := i32_hi (r6v) | skip
        first | have hx_21 := i32_lo (r6v) | skip
        first | have f22 : (r6v : Int32).toInt ≠ (0 : Int32).toInt := ti_ne q12 | skip
        have t23 : (1 : Int32).toInt = 1 := by decide
        first | have o24 : (v4 + 1 : Int32).toInt = (v4 : Int32).toInt + (1 : Int32).toInt := ti_add (by omega) (by omega) | skip
        exact ih (v3 ||| (1 <<< ((h.1 28 v1.toNatClampNeg v4.toNatClampNeg) &&& 31))) (v4 + 1) (by omega) (by omega)
    · rw [if_neg q2]
      have b25 : 0 ≤ (h.1 29 0 v1.toNatClampNeg).toInt ∧ (h.1 29 0 v1.toNatClampNeg).toInt ≤ 16 := (S).1 29 0 v1.toNatClampNeg
      first | have hx_26 := i32_hi (v4) | skip
      first | have hx_27 := i32_lo (v4) | skip
      first | have hx_28 := i32_hi (h.1 29 0 v1.toNatClampNeg) | skip
      first | have hx_29 := i32_lo (h.1 29 0 v1.toNatClampNeg) | skip
      first | have f30 : (h.1 29 0 v1.toNatClampNeg : Int32).toInt ≤ (v4 : Int32).toInt := Int32.le_iff_toInt_le.mp (Int32.not_lt.mp q2) | skip
      exact hk v3 v4 iv0
set_option maxHeartbeats 400000 in
theorem z_X2_hitsOf {fp : Nat → Bool} {b : mH} {m : Nat} (x1 : Int32) (x2 : Int32) (h : mH) (S : SI fp b m h)  (pr0 : (0 ≤ x1.toInt ∧ x1.toInt < 8)) : ∃ r, f_X2_hitsOf x1 x2 h = some r ∧ r.2 = h := by
  unfold f_X2_hitsOf
  have t1 : (0 : Int32).toInt = 0 := by decide
  refine z_X2_hitsOf_5 _  x1 x2 h S pr0 (fun u10 u11 y2 => ?_)  mFu 0 0 (by omega) (by have := mFu_big; omega)
  try dsimp only
  exact ⟨_, rfl, rfl⟩
set_option maxHeartbeats 400000 in
theorem z_X2_isBroken {fp : Nat → Bool} {b : mH} {m : Nat} (i1 : Nat) (h : mH) (S : SI fp b m h)   : ∃ r, f_X2_isBroken i1 h = some r ∧ r.2 = h ∧ (r.1 = 0 ∨ r.1 = 1) := by
  unfold f_X2_isBroken
  by_cases q1 : (h.1 7 i1 0) = 0
  · rw [if_pos q1]
    have t2 : (0 : Int32).toInt = 0 := by decide
    first | have hx_3 := i32_hi (h.1 7 i1 0) | skip
    first | have hx_4 := i32_lo (h.1 7 i1 0) | skip
    first | have f5 : (h.1 7 i1 0 : Int32).toInt = (0 : Int32).toInt := congrArg Int32.toInt q1 | skip
    have b6 : 0 ≤ (h.1 7 i1 2).toInt ∧ (h.1 7 i1 2).toInt ≤ 23 := (S).1 7 i1 2
    have q7 : mIn (h.1 7 i1 2) 24 = true := (mIn_bd (by omega) (by omega))
    rw [if_pos q7]
    by_cases q8 : (h.1 33 0 (h.1 7 i1 2).toNatClampNeg) = (h.1 7 i1 3)
    · rw [if_pos q8]
      first | have hx_9 := i32_hi (h.1 33 0 (h.1 7 i1 2).toNatClampNeg) | skip
      first | have hx_10 := i32_lo (h.1 33 0 (h.1 7 i1 2).toNatClampNeg) | skip
      first | have hx_11 := i32_hi (h.1 7 i1 3) | skip
      first | have hx_12 := i32_lo (h.1 7 i1 3) | skip
      first | have f13 : (h.1 33 0 (h.1 7 i1 2).toNatClampNeg : Int32).toInt = (h.1 7 i1 3 : Int32).toInt := congrArg Int32.toInt q8 | skip
      have t14 : (1 : Int32).toInt = 1 := by decide
      exact ⟨_, rfl, rfl, (Or.inr rfl)⟩
    · rw [if_neg q8]
      first | have hx_15 := i32_hi (h.1 33 0 (h.1 7 i1 2).toNatClampNeg) | skip
      first | have hx_16 := i32_lo (h.1 33 0 (h.1 7 i1 2).toNatClampNeg) | skip
      first | have hx_17 := i32_hi (h.1 7 i1 3) | skip
      first | have hx_18 := i32_lo (h.1 7 i1 3) | skip
      first | have f19 : (h.1 33 0 (h.1 7 i1 2).toNatClampNeg : Int32).toInt ≠ (h.1 7 i1 3 : Int32).toInt := ti_ne q8 | skip
      exact ⟨_, rfl, rfl, (Or.inl rfl)⟩
  · rw [if_neg q1]
    have t20 : (0 : Int32).toInt = 0 := by decide
    first | have hx_21 := i32_hi (h.1 7 i1 0) | skip
    first | have hx_22 := i32_lo (h.1 7 i1 0) | skip
    first | have f23 : (h.1 7 i1 0 : Int32).toInt ≠ (0 : Int32).toInt := ti_ne q1 | skip
    by_cases q24 : (h.1 7 i1 0) = 1
    · rw [if_pos q24]
      have t25 : (1 : Int32).toInt = 1 := by decide
      first | have f26 : (h.1 7 i1 0 : Int32).toInt = (1 : Int32).toInt := congrArg Int32.toInt q24 | skip
      have b27 : 0 ≤ (h.1 7 i1 2).toInt ∧ (h.1 7 i1 2).toInt ≤ 23 := (S).1 7 i1 2
      have q28 : mIn (h.1 7 i1 2) 24 = true := (mIn_bd (by omega) (by omega))
      rw [if_pos q28]
      by_cases q29 : (h.1 33 0 (h.1 7 i1 2).toNatClampNeg) = (h.1 7 i1 3)
      · rw [if_pos q29]
        first | have hx_30 := i32_hi (h.1 33 0 (h.1 7 i1 2).toNatClampNeg) | skip
        first | have hx_31 := i32_lo (h.1 33 0 (h.1 7 i1 2).toNatClampNeg) | skip
        first | have hx_32 := i32_hi (h.1 7 i1 3) | skip
        first | have hx_33 := i32_lo (h.1 7 i1 3) | skip
        first | have f34 : (h.1 33 0 (h.1 7 i1 2).toNatClampNeg : Int32).toInt = (h.1 7 i1 3 : Int32).toInt := congrArg Int32.toInt q29 | skip
        exact ⟨_, rfl, rfl, (Or.inl rfl)⟩
      · rw [if_neg q29]
        first | have hx_35 := i32_hi (h.1 33 0 (h.1 7 i1 2).toNatClampNeg) | skip
        first | have hx_36 := i32_lo (h.1 33 0 (h.1 7 i1 2).toNatClampNeg) | skip
        first | have hx_37 := i32_hi (h.1 7 i1 3) | skip
        first | have hx_38 := i32_lo (h.1 7 i1 3) | skip
        first | have f39 : (h.1 33 0 (h.1 7 i1 2).toNatClampNeg : Int32).toInt ≠ (h.1 7 i1 3 : Int32).toInt := ti_ne q29 | skip
        exact ⟨_, rfl, rfl, (Or.inr rfl)⟩
    · rw [if_neg q24]
      have t40 : (1 : Int32).toInt = 1 := by decide
      first | have f41 : (h.1 7 i1 0 : Int32).toInt ≠ (1 : Int32).toInt := ti_ne q24 | skip
      have b42 : 0 ≤ (h.1 7 i1 2).toInt ∧ (h.1 7 i1 2).toInt ≤ 23 := (S).1 7 i1 2
      have q43 : mIn (h.1 7 i1 2) 24 = true := (mIn_bd (by omega) (by omega))
      rw [if_pos q43]
      by_cases q44 : (lg_cmp (h.2 37 0 (h.1 7 i1 2).toNatClampNeg) (-1)) = 0
      · rw [if_pos q44]
        exact ⟨_, rfl, rfl, (Or.inl rfl)⟩
      · rw [if_neg q44]
        by_cases q45 : (lg_cmp ((h.2 8 0 10) - (h.2 37 0 (h.1 7 i1 2).toNatClampNeg)) ((h.1 7 i1 3).toInt64)) < 0
        · rw [if_pos q45]
          exact ⟨_, rfl, rfl, (Or.inr rfl)⟩
        · rw [if_neg q45]
          exact ⟨_, rfl, rfl, (Or.inl rfl)⟩
def W_X8_countBreak_s0 : List Nat := [525, 526, 527]
set_option maxHeartbeats 400000 in
theorem z_X8_countBreak_s0 {fp : Nat → Bool} {b : mH} {m : Nat} (x1 : Int32) (h : mH) (S : SI fp b m h) (ff : ∀ c ∈ W_X8_countBreak_s0, fp c = false)  : ∃ r, f_X8_countBreak 0 x1 h = some r ∧ SI fp b m r := by
  have w525 : fp 525 = false := ff 525 (by decide)
  have w526 : fp 526 = false := ff 526 (by decide)
  have w527 : fp 527 = false := ff 527 (by decide)
  unfold f_X8_countBreak
  by_cases q1 : (lg_cmp (h.2 8 0 13) 0) = 0
  · rw [if_pos q1]
    refine let_ex (fun h2 e_h2 => ?_)
    have S_h2 : SI fp b m h2 := e_h2 ▸ (SI.f S rfl w526 rfl)
    refine let_ex (fun h3 e_h3 => ?_)
    have S_h3 : SI fp b m h3 := e_h3 ▸ (SI.j S_h2 rfl w527)
    exact ⟨_, rfl, (SI.j S_h3 rfl w525)⟩
  · rw [if_neg q1]
    exact ⟨_, rfl, (SI.j S rfl w525)⟩
def W_X2_lookAtLaws_2 : List Nat := [525, 526, 527]
set_option maxHeartbeats 400000 in
theorem z_X2_lookAtLaws_2 {fp : Nat → Bool} {b : mH} {m : Nat} {P : mH → Prop} (k : Int32 → Int32 → mH → Option (mH))  (v1 : Int32) (ff : ∀ c ∈ W_X2_lookAtLaws_2, fp c = false)  (hk : ∀ (v2 : Int32) (h : mH), SI fp b m h → 0 ≤ v2.toInt → ∃ r, k v1 v2 h = some r ∧ P r) : ∀ (n : Nat) (v2 : Int32) (h : mH), SI fp b m h → 0 ≤ v2.toInt → 2147483648 - v2.toInt < n → ∃ r, f_X2_lookAtLaws_2 k  n v1 v2 h = some r ∧ P r := by
  have ff_X8_countBreak_s0 : ∀ c ∈ W_X8_countBreak_s0, fp c = false := fun c hc => ff c ((by decide : ∀ c ∈ W_X8_countBreak_s0, c ∈ W_X2_lookAtLaws_2) c hc)
  intro n
  induction n with
  | zero =>
    intro v2 h S iv0 hm
    have hz := i32_hi v2
    omega
  | succ n ih =>
    intro v2 h S iv0 hm
    rw [f_X2_lookAtLaws_2]
    by_cases q1 : v2 < (h.1 1 0 5)
    · rw [if_pos q1]
      have b2 : 0 ≤ (h.1 1 0 5).toInt ∧ (h.1 1 0 5).toInt ≤ 12 := (S).1 1 0 5
      first | have hx_3 := i32_hi (v2) | skip
      first | have hx_4 := i32_lo (v2) | skip
      first | have hx_5 := i32_hi (h.1 1 0 5) | skip
      first | have hx_6 := i32_lo (h.1 1 0 5) | skip
      first | have f7 : (v2 : Int32).toInt < (h.1 1 0 5 : Int32).toInt := Int32.lt_iff_toInt_lt.mp q1 | skip
      have q8 : mIn v2 12 = true := (mIn_bd (by omega) (by omega))
      rw [if_pos q8]
      obtain ⟨⟨r3v, r3h⟩, e_r3, (hh_r3 : r3h = h), p_r3_0⟩ := z_X11_isIn v1 (h.1 7 v2.toNatClampNeg 1) h S  
      replace hh_r3 := hh_r3.symm
      subst hh_r3
      dsimp only at p_r3_0
      have bb_r3 := bool_bd p_r3_0
      rw [e_r3, Option.bind_some]
      try dsimp only
      by_cases q9 : r3v = 0
      · rw [if_pos q9]
        have t10 : (0 : Int32).toInt = 0 := by decide
        first | have hx_11 := i32_hi (r3v) | skip
        first | have hx_12 := i32_lo (r3v) | skip
        first | have f13 : (r3v : Int32).toInt = (0 : Int32).toInt := congrArg Int32.toInt q9 | skip
        have t14 : (1 : Int32).toInt = 1 := by decide
        first | have o15 : (v2 + 1 : Int32).toInt = (v2 : Int32).toInt + (1 : Int32).toInt := ti_add (by omega) (by omega) | skip
        exact ih (v2 + 1) h S (by omega) (by omega)
      · rw [if_neg q9]
        have t16 : (0 : Int32).toInt = 0 := by decide
        first | have hx_17 := i32_hi (r3v) | skip
        first | have hx_18 := i32_lo (r3v) | skip
        first | have f19 : (r3v : Int32).toInt ≠ (0 : Int32).toInt := ti_ne q9 | skip
        obtain ⟨⟨r5v, r5h⟩, e_r5, (hh_r5 : r5h = h), p_r5_0⟩ := z_X2_isBroken v2.toNatClampNeg h S  
        replace hh_r5 := hh_r5.symm
        subst hh_r5
        dsimp only at p_r5_0
        have bb_r5 := bool_bd p_r5_0
        rw [e_r5, Option.bind_some]
        try dsimp only
        by_cases q20 : r5v = 0
        · rw [if_pos q20]
          first | have hx_21 := i32_hi (r5v) | skip
          first | have hx_22 := i32_lo (r5v) | skip
          first | have f23 : (r5v : Int32).toInt = (0 : Int32).toInt := congrArg Int32.toInt q20 | skip
          have t24 : (1 : Int32).toInt = 1 := by decide
          first | have o25 : (v2 + 1 : Int32).toInt = (v2 : Int32).toInt + (1 : Int32).toInt := ti_add (by omega) (by omega) | skip
          exact ih (v2 + 1) h S (by omega) (by omega)
        · rw [if_neg q20]
          first | have hx_26 := i32_hi (r5v) | skip
          first | have hx_27 := i32_lo (r5v) | skip
          first | have f28 : (r5v : Int32).toInt ≠ (0 : Int32).toInt := ti_ne q20 | skip
          obtain ⟨r7, e_r7, S_r7⟩ := z_X8_countBreak_s0 v2 h S ff_X8_countBreak_s0 
          rw [e_r7, Option.bind_some]
          have t29 : (1 : Int32).toInt = 1 := by decide
          first | have o30 : (v2 + 1 : Int32).toInt = (v2 : Int32).toInt + (1 : Int32).toInt := ti_add (by omega) (by omega) | skip
          exact ih (v2 + 1) r7 S_r7 (by omega) (by omega)
    · rw [if_neg q1]
      have b31 : 0 ≤ (h.1 1 0 5).toInt ∧ (h.1 1 0 5).toInt ≤ 12 := (S).1 1 0 5
      first | have hx_32 := i32_hi (v2) | skip
      first | have hx_33 := i32_lo (v2) | skip
      first | have hx_34 := i32_hi (h.1 1 0 5) | skip
      first | have hx_35 := i32_lo (h.1 1 0 5) | skip
      first | have f36 : (h.1 1 0 5 : Int32).toInt ≤ (v2 : Int32).toInt := Int32.le_iff_toInt_le.mp (Int32.not_lt.mp q1) | skip
      exact hk v2 h S iv0
def W_X2_lookAtLaws : List Nat := [525, 526, 527]
set_option maxHeartbeats 400000 in
theorem z_X2_lookAtLaws {fp : Nat → Bool} {b : mH} {m : Nat} (x1 : Int32) (h : mH) (S : SI fp b m h) (ff : ∀ c ∈ W_X2_lookAtLaws, fp c = false)  : ∃ r, f_X2_lookAtLaws x1 h = some r ∧ SI fp b m r := by
  have ff_X2_lookAtLaws_2 : ∀ c ∈ W_X2_lookAtLaws_2, fp c = false := fun c hc => ff c ((by decide : ∀ c ∈ W_X2_lookAtLaws_2, c ∈ W_X2_lookAtLaws) c hc)
  unfold f_X2_lookAtLaws
  have t1 : (0 : Int32).toInt = 0 := by decide
  refine z_X2_lookAtLaws_2 (m := m) _  x1 ff_X2_lookAtLaws_2  (fun u9 h10 S_h10 y2 => ?_)  mFu 0 h S (by omega) (by have := mFu_big; omega)
  try dsimp only
  exact ⟨_, rfl, S_h10⟩
def W_X2_loadHeld_2 : List Nat := [2112]
set_option maxHeartbeats 400000 in
theorem z_X2_loadHeld_2 {fp : Nat → Bool} {b : mH} {m : Nat} {P : mH → Prop} (k : Int32 → mH → Option (mH))   (ff : ∀ c ∈ W_X2_loadHeld_2, fp c = false)  (hk : ∀ (v1 : Int32) (h : mH), SI fp b m h → 0 ≤ v1.toInt → ∃ r, k v1 h = some r ∧ P r) : ∀ (n : Nat) (v1 : Int32) (h : mH), SI fp b m h → 0 ≤ v1.toInt → 2147483648 - v1.toInt < n → ∃ r, f_X2_loadHeld_2 k  n v1 h = some r ∧ P r := by
  have w2112 : fp 2112 = false := ff 2112 (by decide)
  intro n
  induction n with
  | zero =>
    intro v1 h S iv0 hm
    have hz := i32_hi v1
    omega
  | succ n ih =>
    intro v1 h S iv0 hm
    rw [f_X2_loadHeld_2]
    by_cases q1 : v1 < (h.1 1 0 4)
    · rw [if_pos q1]
      have b2 : 0 ≤ (h.1 1 0 4).toInt ∧ (h.1 1 0 4).toInt ≤ 24 := (S).1 1 0 4
      first | have hx_3 := i32_hi (v1) | skip
      first | have hx_4 := i32_lo (v1) | skip
      first | have hx_5 := i32_hi (h.1 1 0 4) | skip
      first | have hx_6 := i32_lo (h.1 1 0 4) | skip
      first | have f7 : (v1 : Int32).toInt < (h.1 1 0 4 : Int32).toInt := Int32.lt_iff_toInt_lt.mp q1 | skip
      have q8 : mIn v1 24 = true := (mIn_bd (by omega) (by omega))
      rw [if_pos q8]
      by_cases q9 : (h.1 6 v1.toNatClampNeg 3) = 5
      · rw [if_pos q9]
        have t10 : (5 : Int32).toInt = 5 := by decide
        first | have hx_11 := i32_hi (h.1 6 v1.toNatClampNeg 3) | skip
        first | have hx_12 := i32_lo (h.1 6 v1.toNatClampNeg 3) | skip
        first | have f13 : (h.1 6 v1.toNatClampNeg 3 : Int32).toInt = (5 : Int32).toInt := congrArg Int32.toInt q9 | skip
        have t14 : (1 : Int32).toInt = 1 := by decide
        first | have o15 : (v1 + 1 : Int32).toInt = (v1 : Int32).toInt + (1 : Int32).toInt := ti_add (by omega) (by omega) | skip
        exact ih (v1 + 1) (uI h 33 0 v1.toNatClampNeg (h.1 34 0 v1.toNatClampNeg)) (SI.f S rfl w2112 rfl) (by omega) (by omega)
      · rw [if_neg q9]
        have t16 : (5 : Int32).toInt = 5 := by decide
        first | have hx_17 := i32_hi (h.1 6 v1.toNatClampNeg 3) | skip
        first | have hx_18 := i32_lo (h.1 6 v1.toNatClampNeg 3) | skip
        first | have f19 : (h.1 6 v1.toNatClampNeg 3 : Int32).toInt ≠ (5 : Int32).toInt := ti_ne q9 | skip
        have t20 : (1 : Int32).toInt = 1 := by decide
        first | have o21 : (v1 + 1 : Int32).toInt = (v1 : Int32).toInt + (1 : Int32).toInt := ti_add (by omega) (by omega) | skip
        exact ih (v1 + 1) h S (by omega) (by omega)
    · rw [if_neg q1]
      have b22 : 0 ≤ (h.1 1 0 4).toInt ∧ (h.1 1 0 4).toInt ≤ 24 := (S).1 1 0 4
      first | have hx_23 := i32_hi (v1) | skip
      first | have hx_24 := i32_lo (v1) | skip
      first | have hx_25 := i32_hi (h.1 1 0 4) | skip
      first | have hx_26 := i32_lo (h.1 1 0 4) | skip
      first | have f27 : (h.1 1 0 4 : Int32).toInt ≤ (v1 : Int32).toInt := Int32.le_iff_toInt_le.mp (Int32.not_lt.mp q1) | skip
      exact hk v1 h S iv0
def W_X2_loadHeld : List Nat := [2112]
set_option maxHeartbeats 400000 in
theorem z_X2_loadHeld {fp : Nat → Bool} {b : mH} {m : Nat}  (h : mH) (S : SI fp b m h) (ff : ∀ c ∈ W_X2_loadHeld, fp c = false)  : ∃ r, f_X2_loadHeld h = some r ∧ SI fp b m r := by
  have ff_X2_loadHeld_2 : ∀ c ∈ W_X2_loadHeld_2, fp c = false := fun c hc => ff c ((by decide : ∀ c ∈ W_X2_loadHeld_2, c ∈ W_X2_loadHeld) c hc)
  unfold f_X2_loadHeld
  have t1 : (0 : Int32).toInt = 0 := by decide
  refine z_X2_loadHeld_2 (m := m) _   ff_X2_loadHeld_2  (fun u4 h5 S_h5 y2 => ?_)  mFu 0 h S (by omega) (by have := mFu_big; omega)
  try dsimp only
  exact ⟨_, rfl, S_h5⟩
def W_X2_writeField : List Nat := [2112, 2176, 2240]
set_option maxHeartbeats 400000 in
theorem z_X2_writeField {fp : Nat → Bool} {b : mH} {m : Nat} (x1 : Int32) (x2 : Int32) (h : mH) (S : SI fp b m h) (ff : ∀ c ∈ W_X2_writeField, fp c = false) (pr0 : (0 ≤ x1.toInt ∧ x1.toInt < 24)) : ∃ r, f_X2_writeField x1 x2 h = some r ∧ SI fp b m r := by
  have ff_X2_loadHeld : ∀ c ∈ W_X2_loadHeld, fp c = false := fun c hc => ff c ((by decide : ∀ c ∈ W_X2_loadHeld, c ∈ W_X2_writeField) c hc)
  have w2112 : fp 2112 = false := ff 2112 (by decide)
  have w2176 : fp 2176 = false := ff 2176 (by decide)
  have w2240 : fp 2240 = false := ff 2240 (by decide)
  unfold f_X2_writeField
  have q1 : mIn x1 24 = true := (mIn_bd (by omega) (by omega))
  rw [if_pos q1]
  by_cases q2 : (h.1 6 x1.toNatClampNeg 3) = 0
  · rw [if_pos q2]
    have t3 : (0 : Int32).toInt = 0 := by decide
    first | have hx_4 := i32_hi (h.1 6 x1.toNatClampNeg 3) | skip
    first | have hx_5 := i32_lo (h.1 6 x1.toNatClampNeg 3) | skip
    first | have f6 : (h.1 6 x1.toNatClampNeg 3 : Int32).toInt = (0 : Int32).toInt := congrArg Int32.toInt q2 | skip
    exact ⟨_, rfl, (SI.f S rfl w2112 rfl)⟩
  · rw [if_neg q2]
    have t7 : (0 : Int32).toInt = 0 := by decide
    first | have hx_8 := i32_hi (h.1 6 x1.toNatClampNeg 3) | skip
    first | have hx_9 := i32_lo (h.1 6 x1.toNatClampNeg 3) | skip
    first | have f10 : (h.1 6 x1.toNatClampNeg 3 : Int32).toInt ≠ (0 : Int32).toInt := ti_ne q2 | skip
    by_cases q11 : (h.1 6 x1.toNatClampNeg 3) = 2
    · rw [if_pos q11]
      have t12 : (2 : Int32).toInt = 2 := by decide
      first | have f13 : (h.1 6 x1.toNatClampNeg 3 : Int32).toInt = (2 : Int32).toInt := congrArg Int32.toInt q11 | skip
      exact ⟨_, rfl, (SI.f S rfl w2112 rfl)⟩
    · rw [if_neg q11]
      have t14 : (2 : Int32).toInt = 2 := by decide
      first | have f15 : (h.1 6 x1.toNatClampNeg 3 : Int32).toInt ≠ (2 : Int32).toInt := ti_ne q11 | skip
      by_cases q16 : (h.1 6 x1.toNatClampNeg 3) = 4
      · rw [if_pos q16]
        have t17 : (4 : Int32).toInt = 4 := by decide
        first | have f18 : (h.1 6 x1.toNatClampNeg 3 : Int32).toInt = (4 : Int32).toInt := congrArg Int32.toInt q16 | skip
        by_cases q19 : x2 = 0
        · rw [if_pos q19]
          first | have hx_20 := i32_hi (x2) | skip
          first | have hx_21 := i32_lo (x2) | skip
          first | have f22 : (x2 : Int32).toInt = (0 : Int32).toInt := congrArg Int32.toInt q19 | skip
          exact ⟨_, rfl, S⟩
        · rw [if_neg q19]
          first | have hx_23 := i32_hi (x2) | skip
          first | have hx_24 := i32_lo (x2) | skip
          first | have f25 : (x2 : Int32).toInt ≠ (0 : Int32).toInt := ti_ne q19 | skip
          refine let_ex (fun h6 e_h6 => ?_)
          have S_h6 : SI fp b m h6 := e_h6 ▸ (SI.f S rfl w2112 rfl)
          exact ⟨_, rfl, (SI.f S_h6 rfl w2240 rfl)⟩
      · rw [if_neg q16]
        have t26 : (4 : Int32).toInt = 4 := by decide
        first | have f27 : (h.1 6 x1.toNatClampNeg 3 : Int32).toInt ≠ (4 : Int32).toInt := ti_ne q16 | skip
        by_cases q28 : (h.1 6 x1.toNatClampNeg 3) = 5
        · rw [if_pos q28]
          have t29 : (5 : Int32).toInt = 5 := by decide
          first | have f30 : (h.1 6 x1.toNatClampNeg 3 : Int32).toInt = (5 : Int32).toInt := congrArg Int32.toInt q28 | skip
          exact ⟨_, rfl, (SI.f S rfl w2176 rfl)⟩
        · rw [if_neg q28]
          have t31 : (5 : Int32).toInt = 5 := by decide
          first | have f32 : (h.1 6 x1.toNatClampNeg 3 : Int32).toInt ≠ (5 : Int32).toInt := ti_ne q28 | skip
          by_cases q33 : (h.1 6 x1.toNatClampNeg 3) = 6
          · rw [if_pos q33]
            have t34 : (6 : Int32).toInt = 6 := by decide
            first | have f35 : (h.1 6 x1.toNatClampNeg 3 : Int32).toInt = (6 : Int32).toInt := congrArg Int32.toInt q33 | skip
            by_cases q36 : x2 = 0
            · rw [if_pos q36]
              first | have hx_37 := i32_hi (x2) | skip
              first | have hx_38 := i32_lo (x2) | skip
              first | have f39 : (x2 : Int32).toInt = (0 : Int32).toInt := congrArg Int32.toInt q36 | skip
              exact ⟨_, rfl, S⟩
            · rw [if_neg q36]
              first | have hx_40 := i32_hi (x2) | skip
              first | have hx_41 := i32_lo (x2) | skip
              first | have f42 : (x2 : Int32).toInt ≠ (0 : Int32).toInt := ti_ne q36 | skip
              obtain ⟨r10, e_r10, S_r10⟩ := z_X2_loadHeld  h S ff_X2_loadHeld 
              rw [e_r10, Option.bind_some]
              exact ⟨_, rfl, S_r10⟩
          · rw [if_neg q33]
            have t43 : (6 : Int32).toInt = 6 := by decide
            first | have f44 : (h.1 6 x1.toNatClampNeg 3 : Int32).toInt ≠ (6 : Int32).toInt := ti_ne q33 | skip
            exact ⟨_, rfl, S⟩
def W_X2_writeRegister_15 : List Nat := [2112, 2176, 2240, 2368]
set_option maxHeartbeats 400000 in
theorem z_X2_writeRegister_15 {fp : Nat → Bool} {b : mH} {m : Nat} {P : mH → Prop} (k : Int32 → Int32 → Int32 → Int32 → mH → Option (mH))  (v1 : Int32) (v2 : Int32) (v3 : Int32) (ff : ∀ c ∈ W_X2_writeRegister_15, fp c = false) (cp0 : (0 ≤ v1.toInt ∧ v1.toInt < 8)) (hk : ∀ (v4 : Int32) (h : mH), SI fp b m h → 0 ≤ v4.toInt → ∃ r, k v1 v2 v3 v4 h = some r ∧ P r) : ∀ (n : Nat) (v4 : Int32) (h : mH), SI fp b m h → 0 ≤ v4.toInt → 2147483648 - v4.toInt < n → ∃ r, f_X2_writeRegister_15 k  n v1 v2 v3 v4 h = some r ∧ P r := by
  have ff_X2_writeField : ∀ c ∈ W_X2_writeField, fp c = false := fun c hc => ff c ((by decide : ∀ c ∈ W_X2_writeField, c ∈ W_X2_writeRegister_15) c hc)
  have w2368 : fp 2368 = false := ff 2368 (by decide)
  intro n
  induction n with
  | zero =>
    intro v4 h S iv0 hm
    have hz := i32_hi v4
    omega
  | succ n ih =>
    intro v4 h S iv0 hm
    rw [f_X2_writeRegister_15]
    have q1 : mIn v1 8 = true := (mIn_bd (by omega) (by omega))
    rw [if_pos q1]
    by_cases q2 : v4 < (h.1 29 0 v1.toNatClampNeg)
    · rw [if_pos q2]
      have b3 : 0 ≤ (h.1 29 0 v1.toNatClampNeg).toInt ∧ (h.1 29 0 v1.toNatClampNeg).toInt ≤ 16 := (S).1 29 0 v1.toNatClampNeg
      first | have hx_4 := i32_hi (v4) | skip
      first | have hx_5 := i32_lo (v4) | skip
      first | have hx_6 := i32_hi (h.1 29 0 v1.toNatClampNeg) | skip
      first | have hx_7 := i32_lo (h.1 29 0 v1.toNatClampNeg) | skip
      first | have f8 : (v4 : Int32).toInt < (h.1 29 0 v1.toNatClampNeg : Int32).toInt := Int32.lt_iff_toInt_lt.mp q2 | skip
      have q9 : mIn v4 16 = true := (mIn_bd (by omega) (by omega))
      rw [if_pos q9]
      obtain ⟨⟨r6v, r6h⟩, e_r6, (hh_r6 : r6h = h), p_r6_0⟩ := z_X11_isIn v3 (h.1 28 v1.toNatClampNeg v4.toNatClampNeg) h S  
      replace hh_r6 := hh_r6.symm
      subst hh_r6
      dsimp only at p_r6_0
      have bb_r6 := bool_bd p_r6_0
      rw [e_r6, Option.bind_some]
      try dsimp only
      by_cases q10 : r6v = 0
      · rw [if_pos q10]
        have t11 : (0 : Int32).toInt = 0 := by decide
        first | have hx_12 := i32_hi (r6v) | skip
        first | have hx_13 := i32_lo (r6v) | skip
        first | have f14 : (r6v : Int32).toInt = (0 : Int32).toInt := congrArg Int32.toInt q10 | skip
        have b15 : 0 ≤ (h.1 28 v1.toNatClampNeg v4.toNatClampNeg).toInt ∧ (h.1 28 v1.toNatClampNeg v4.toNatClampNeg).toInt ≤ 23 := (S).1 28 v1.toNatClampNeg v4.toNatClampNeg
        have q16 : mIn (h.1 28 v1.toNatClampNeg v4.toNatClampNeg) 24 = true := (mIn_bd (by omega) (by omega))
        rw [if_pos q16]
        obtain ⟨⟨r9v, r9h⟩, e_r9, (hh_r9 : r9h = h)⟩ := z_X6_bitsIn ((h.1 28 v1.toNatClampNeg v4.toNatClampNeg).toNatClampNeg) v2 h S  
        replace hh_r9 := hh_r9.symm
        subst hh_r9
        rw [e_r9, Option.bind_some]
        try dsimp only
        obtain ⟨r10, e_r10, S_r10⟩ := z_X2_writeField (h.1 28 v1.toNatClampNeg v4.toNatClampNeg) r9v h S ff_X2_writeField (by omega)
        rw [e_r10, Option.bind_some]
        have t17 : (1 : Int32).toInt = 1 := by decide
        first | have o18 : (v4 + 1 : Int32).toInt = (v4 : Int32).toInt + (1 : Int32).toInt := ti_add (by omega) (by omega) | skip
        exact ih (v4 + 1) r10 S_r10 (by omega) (by omega)
      · rw [if_neg q10]
        have t19 : (0 : Int32).toInt = 0 := by decide
        first | have hx_20 := i32_hi (r6v) | skip
        first | have hx_21 := i32_lo (r6v) | skip
        first | have f22 : (r6v : Int32).toInt ≠ (0 : Int32).toInt := ti_ne q10 | skip
        have b23 : 0 ≤ (h.1 28 v1.toNatClampNeg v4.toNatClampNeg).toInt ∧ (h.1 28 v1.toNatClampNeg v4.toNatClampNeg).toInt ≤ 23 := (S).1 28 v1.toNatClampNeg v4.toNatClampNeg
        have q24 : mIn (h.1 28 v1.toNatClampNeg v4.toNatClampNeg) 24 = true := (mIn_bd (by omega) (by omega))
        rw [if_pos q24]
        obtain ⟨g25, e_g25⟩ : ∃ g, uJ h 37 0 (h.1 28 v1.toNatClampNeg v4.toNatClampNeg).toNatClampNeg (h.2 8 0 10) = g := ⟨_, rfl⟩
        rw [e_g25]
        have S_g25 : SI fp b m g25 := e_g25 ▸ (SI.j S rfl w2368)
        obtain ⟨⟨r12v, r12h⟩, e_r12, (hh_r12 : r12h = g25)⟩ := z_X6_bitsIn ((h.1 28 v1.toNatClampNeg v4.toNatClampNeg).toNatClampNeg) v2 g25 S_g25  
        replace hh_r12 := hh_r12.symm
        subst hh_r12
        rw [e_r12, Option.bind_some]
        try dsimp only
        obtain ⟨r13, e_r13, S_r13⟩ := z_X2_writeField (h.1 28 v1.toNatClampNeg v4.toNatClampNeg) r12v g25 S_g25 ff_X2_writeField (by omega)
        rw [e_r13, Option.bind_some]
        have t26 : (1 : Int32).toInt = 1 := by decide
        first | have o27 : (v4 + 1 : Int32).toInt = (v4 : Int32).toInt + (1 : Int32).toInt := ti_add (by omega) (by omega) | skip
        exact ih (v4 + 1) r13 S_r13 (by omega) (by omega)
    · rw [if_neg q2]
      have b28 : 0 ≤ (h.1 29 0 v1.toNatClampNeg).toInt ∧ (h.1 29 0 v1.toNatClampNeg).toInt ≤ 16 := (S).1 29 0 v1.toNatClampNeg
      first | have hx_29 := i32_hi (v4) | skip
      first | have hx_30 := i32_lo (v4) | skip
      first | have hx_31 := i32_hi (h.1 29 0 v1.toNatClampNeg) | skip
      first | have hx_32 := i32_lo (h.1 29 0 v1.toNatClampNeg) | skip
      first | have f33 : (h.1 29 0 v1.toNatClampNeg : Int32).toInt ≤ (v4 : Int32).toInt := Int32.le_iff_toInt_le.mp (Int32.not_lt.mp q2) | skip
      exact hk v4 h S iv0
def W_X2_writeRegister : List Nat := [521, 522, 525, 526, 527, 2112, 2176, 2240, 2368, 2496, 2560, 2624]
set_option maxHeartbeats 400000 in
theorem z_X2_writeRegister {fp : Nat → Bool} {b : mH} {m : Nat} (x1 : Int32) (x2 : Int32) (h : mH) (S : SI fp b m h) (ff : ∀ c ∈ W_X2_writeRegister, fp c = false) (pr0 : (0 ≤ x1.toInt ∧ x1.toInt < 8)) : ∃ r, f_X2_writeRegister x1 x2 h = some r ∧ SI fp b (m + 1) r := by
  have ff_X2_lookAtLaws : ∀ c ∈ W_X2_lookAtLaws, fp c = false := fun c hc => ff c ((by decide : ∀ c ∈ W_X2_lookAtLaws, c ∈ W_X2_writeRegister) c hc)
  have ff_X2_tick : ∀ c ∈ W_X2_tick, fp c = false := fun c hc => ff c ((by decide : ∀ c ∈ W_X2_tick, c ∈ W_X2_writeRegister) c hc)
  have ff_X2_writeRegister_15 : ∀ c ∈ W_X2_writeRegister_15, fp c = false := fun c hc => ff c ((by decide : ∀ c ∈ W_X2_writeRegister_15, c ∈ W_X2_writeRegister) c hc)
  unfold f_X2_writeRegister
  obtain ⟨⟨r1v, r1h⟩, e_r1, (hh_r1 : r1h = h)⟩ := z_X2_hitsOf x1 x2 h S  pr0
  replace hh_r1 := hh_r1.symm
  subst hh_r1
  rw [e_r1, Option.bind_some]
  try dsimp only
  obtain ⟨r2, e_r2, S_r2⟩ := z_X2_lookAtLaws r1v h S ff_X2_lookAtLaws 
  rw [e_r2, Option.bind_some]
  have t1 : (0 : Int32).toInt = 0 := by decide
  refine z_X2_writeRegister_15 (m := m) _  x1 x2 r1v ff_X2_writeRegister_15 pr0 (fun u17 h18 S_h18 y2 => ?_)  mFu 0 r2 S_r2 (by omega) (by have := mFu_big; omega)
  try dsimp only
  obtain ⟨r19, e_r19, S_r19, fr_r19⟩ := y_X2_tick  h18 S_h18 ff_X2_tick 
  rw [e_r19, Option.bind_some]
  exact ⟨_, rfl, S_r19⟩
set_option maxHeartbeats 400000 in
theorem y_X2_writeRegister {fp : Nat → Bool} {b : mH} {m : Nat} (x1 : Int32) (x2 : Int32) (h : mH) (S : SI fp b m h) (ff : ∀ c ∈ W_X2_writeRegister, fp c = false) (pr0 : (0 ≤ x1.toInt ∧ x1.toInt < 8)) : ∃ r, f_X2_writeRegister x1 x2 h = some r ∧ SI fp b (m + 1) r ∧ fz (fun c => !(W_X2_writeRegister.contains c)) h r := by
  obtain ⟨r, e1, s1⟩ := z_X2_writeRegister (fp := fun c => fp c || !(W_X2_writeRegister.contains c)) (b := h) (m := 0) x1 x2 h (S.re _) (fun c hc => Bool.or_eq_false_iff.mpr ⟨ff c hc, by rw [List.contains_iff_mem.mpr hc]; rfl⟩) pr0
  refine ⟨r, e1, SI.mono (S.back s1 (fun c hc => Bool.or_eq_true_iff.mpr (Or.inl hc))) (by omega), fun t i k hc => s1.2.2.1 t i k (Bool.or_eq_true_iff.mpr (Or.inr hc))⟩
def W_X4_next_s0 : List Nat := [256, 257]
set_option maxHeartbeats 400000 in
theorem z_X4_next_s0 {fp : Nat → Bool} {b : mH} {m : Nat}  (h : mH) (S : SI fp b m h) (ff : ∀ c ∈ W_X4_next_s0, fp c = false) (pr0 : (h.1 4 0 0).toInt < 48) : ∃ r, f_X4_next 0 h = some r ∧ SI fp b m r := by
  have w256 : fp 256 = false := ff 256 (by decide)
  have w257 : fp 257 = false := ff 257 (by decide)
  unfold f_X4_next
  have b1 : 0 ≤ (h.1 4 0 0).toInt ∧ (h.1 4 0 0).toInt ≤ 48 := (S).1 4 0 0
  have t2 : (1 : Int32).toInt = 1 := by decide
  first | have o3 : ((h.1 4 0 0) + 1 : Int32).toInt = (h.1 4 0 0 : Int32).toInt + (1 : Int32).toInt := ti_add (by omega) (by omega) | skip
  have w_4 : 0 ≤ ((h.1 4 0 0) + 1 : Int32).toInt ∧ ((h.1 4 0 0) + 1 : Int32).toInt ≤ 48 := by omega
  refine let_ex (fun h1 e_h1 => ?_)
  have S_h1 : SI fp b m h1 := e_h1 ▸ (SI.u S rfl w256 w_4)
  exact ⟨_, rfl, (SI.f S_h1 rfl w257 rfl)⟩
def W_X5_endPollBeat_s0 : List Nat := [256, 257, 259]
set_option maxHeartbeats 400000 in
theorem z_X5_endPollBeat_s0 {fp : Nat → Bool} {b : mH} {m : Nat} (i1 : Nat) (h : mH) (S : SI fp b m h) (ff : ∀ c ∈ W_X5_endPollBeat_s0, fp c = false) (pr0 : (h.1 4 0 0).toInt < 48) : ∃ r, f_X5_endPollBeat i1 0 h = some r ∧ SI fp b m r := by
  have ff_X4_next_s0 : ∀ c ∈ W_X4_next_s0, fp c = false := fun c hc => ff c ((by decide : ∀ c ∈ W_X4_next_s0, c ∈ W_X5_endPollBeat_s0) c hc)
  have w257 : fp 257 = false := ff 257 (by decide)
  have w259 : fp 259 = false := ff 259 (by decide)
  unfold f_X5_endPollBeat
  refine let_ex (fun h1 e_h1 => ?_)
  have S_h1 : SI fp b m h1 := e_h1 ▸ (SI.f S rfl w257 rfl)
  have b1 : 0 ≤ (h1.1 4 0 0).toInt ∧ (h1.1 4 0 0).toInt ≤ 48 := (S_h1).1 4 0 0
  have l2 : (h1.1 4 0 0).toInt = (h.1 4 0 0).toInt := by rw [← e_h1, uI_k _ rfl]
  have b3 : 0 ≤ (h.1 4 0 0).toInt ∧ (h.1 4 0 0).toInt ≤ 48 := (S).1 4 0 0
  have t4 : (3 : Int32).toInt = 3 := by decide
  have e_r2 := z_X3_part i1 (h1.1 4 0 0) 3 h1 S_h1  (by omega) (by omega)
  rw [e_r2, Option.bind_some]
  try dsimp only
  have t5 : (4 : Int32).toInt = 4 := by decide
  have e_r3 := z_X3_part i1 (h1.1 4 0 0) 4 h1 S_h1  (by omega) (by omega)
  rw [e_r3, Option.bind_some]
  try dsimp only
  by_cases q6 : ((h1.1 4 0 2) &&& (h1.1 32 i1 (((h1.1 4 0 0) * 6) + (3 : Int32)).toNatClampNeg)) = (h1.1 32 i1 (((h1.1 4 0 0) * 6) + (4 : Int32)).toNatClampNeg)
  · rw [if_pos q6]
    have l7 : (h1.1 32 i1 (((h1.1 4 0 0) * 6) + (4 : Int32)).toNatClampNeg).toInt = (h.1 32 i1 ((((h1.1 4 0 0) * 6) + (4 : Int32)).toNatClampNeg)).toInt := by rw [← e_h1, uI_t _ rfl]
    first | have hx_8 := i32_hi ((h1.1 4 0 2) &&& (h1.1 32 i1 (((h1.1 4 0 0) * 6) + (3 : Int32)).toNatClampNeg)) | skip
    first | have hx_9 := i32_lo ((h1.1 4 0 2) &&& (h1.1 32 i1 (((h1.1 4 0 0) * 6) + (3 : Int32)).toNatClampNeg)) | skip
    first | have hx_10 := i32_hi (h1.1 32 i1 (((h1.1 4 0 0) * 6) + (4 : Int32)).toNatClampNeg) | skip
    first | have hx_11 := i32_lo (h1.1 32 i1 (((h1.1 4 0 0) * 6) + (4 : Int32)).toNatClampNeg) | skip
    first | have f12 : ((h1.1 4 0 2) &&& (h1.1 32 i1 (((h1.1 4 0 0) * 6) + (3 : Int32)).toNatClampNeg) : Int32).toInt = (h1.1 32 i1 (((h1.1 4 0 0) * 6) + (4 : Int32)).toNatClampNeg : Int32).toInt := congrArg Int32.toInt q6 | skip
    obtain ⟨r7, e_r7, S_r7⟩ := z_X4_next_s0  h1 S_h1 ff_X4_next_s0 (by omega)
    rw [e_r7, Option.bind_some]
    exact ⟨_, rfl, S_r7⟩
  · rw [if_neg q6]
    have l13 : (h1.1 32 i1 (((h1.1 4 0 0) * 6) + (4 : Int32)).toNatClampNeg).toInt = (h.1 32 i1 ((((h1.1 4 0 0) * 6) + (4 : Int32)).toNatClampNeg)).toInt := by rw [← e_h1, uI_t _ rfl]
    first | have hx_14 := i32_hi ((h1.1 4 0 2) &&& (h1.1 32 i1 (((h1.1 4 0 0) * 6) + (3 : Int32)).toNatClampNeg)) | skip
    first | have hx_15 := i32_lo ((h1.1 4 0 2) &&& (h1.1 32 i1 (((h1.1 4 0 0) * 6) + (3 : Int32)).toNatClampNeg)) | skip
    first | have hx_16 := i32_hi (h1.1 32 i1 (((h1.1 4 0 0) * 6) + (4 : Int32)).toNatClampNeg) | skip
    first | have hx_17 := i32_lo (h1.1 32 i1 (((h1.1 4 0 0) * 6) + (4 : Int32)).toNatClampNeg) | skip
    first | have f18 : ((h1.1 4 0 2) &&& (h1.1 32 i1 (((h1.1 4 0 0) * 6) + (3 : Int32)).toNatClampNeg) : Int32).toInt ≠ (h1.1 32 i1 (((h1.1 4 0 0) * 6) + (4 : Int32)).toNatClampNeg : Int32).toInt := ti_ne q6 | skip
    have t19 : (5 : Int32).toInt = 5 := by decide
    have e_r5 := z_X3_part i1 (h1.1 4 0 0) 5 h1 S_h1  (by omega) (by omega)
    rw [e_r5, Option.bind_some]
    try dsimp only
    by_cases q20 : (h1.1 4 0 1) ≤ (h1.1 32 i1 (((h1.1 4 0 0) * 6) + (5 : Int32)).toNatClampNeg)
    · rw [if_pos q20]
      have t21 : (1 : Int32).toInt = 1 := by decide
      first | have o22 : ((h.1 4 0 1) + 1 : Int32).toInt = (h.1 4 0 1 : Int32).toInt + (1 : Int32).toInt := ti_add (by omega) (by omega) | skip
      have l23 : (h1.1 4 0 1).toInt = ((h.1 4 0 1) + 1 : Int32).toInt := by rw [← e_h1, uI_s']
      have l24 : (h1.1 32 i1 (((h1.1 4 0 0) * 6) + (5 : Int32)).toNatClampNeg).toInt = (h.1 32 i1 ((((h1.1 4 0 0) * 6) + (5 : Int32)).toNatClampNeg)).toInt := by rw [← e_h1, uI_t _ rfl]
      first | have hx_25 := i32_hi (h1.1 4 0 1) | skip
      first | have hx_26 := i32_lo (h1.1 4 0 1) | skip
      first | have hx_27 := i32_hi (h1.1 32 i1 (((h1.1 4 0 0) * 6) + (5 : Int32)).toNatClampNeg) | skip
      first | have hx_28 := i32_lo (h1.1 32 i1 (((h1.1 4 0 0) * 6) + (5 : Int32)).toNatClampNeg) | skip
      first | have f29 : (h1.1 4 0 1 : Int32).toInt ≤ (h1.1 32 i1 (((h1.1 4 0 0) * 6) + (5 : Int32)).toNatClampNeg : Int32).toInt := Int32.le_iff_toInt_le.mp q20 | skip
      exact ⟨_, rfl, S_h1⟩
    · rw [if_neg q20]
      have t30 : (1 : Int32).toInt = 1 := by decide
      first | have o31 : ((h.1 4 0 1) + 1 : Int32).toInt = (h.1 4 0 1 : Int32).toInt + (1 : Int32).toInt := ti_add (by omega) (by omega) | skip
      have l32 : (h1.1 4 0 1).toInt = ((h.1 4 0 1) + 1 : Int32).toInt := by rw [← e_h1, uI_s']
      have l33 : (h1.1 32 i1 (((h1.1 4 0 0) * 6) + (5 : Int32)).toNatClampNeg).toInt = (h.1 32 i1 ((((h1.1 4 0 0) * 6) + (5 : Int32)).toNatClampNeg)).toInt := by rw [← e_h1, uI_t _ rfl]
      first | have hx_34 := i32_hi (h1.1 4 0 1) | skip
      first | have hx_35 := i32_lo (h1.1 4 0 1) | skip
      first | have hx_36 := i32_hi (h1.1 32 i1 (((h1.1 4 0 0) * 6) + (5 : Int32)).toNatClampNeg) | skip
      first | have hx_37 := i32_lo (h1.1 32 i1 (((h1.1 4 0 0) * 6) + (5 : Int32)).toNatClampNeg) | skip
      first | have f38 : (h1.1 32 i1 (((h1.1 4 0 0) * 6) + (5 : Int32)).toNatClampNeg : Int32).toInt < (h1.1 4 0 1 : Int32).toInt := Int32.lt_iff_toInt_lt.mp (Int32.not_le.mp q20) | skip
      have w_39 : 0 ≤ (1 : Int32).toInt ∧ (1 : Int32).toInt ≤ 1 := by omega
      exact ⟨_, rfl, (SI.u S_h1 rfl w259 w_39)⟩
set_option maxHeartbeats 400000 in
theorem z_X5_numberToWrite_s0 {fp : Nat → Bool} {b : mH} {m : Nat} (i1 : Nat) (h : mH) (S : SI fp b m h)  (pr0 : (h.1 4 0 0).toInt < 48) (pr1 : (0 ≤ (h.1 32 i1 (((h.1 4 0 0) * 6) + 1).toNatClampNeg).toInt ∧ (h.1 32 i1 (((h.1 4 0 0) * 6) + 1).toNatClampNeg).toInt ≤ 7)) : ∃ r, f_X5_numberToWrite i1 0 h = some r ∧ r.2 = h := by
  unfold f_X5_numberToWrite
  have b1 : 0 ≤ (h.1 4 0 0).toInt ∧ (h.1 4 0 0).toInt ≤ 48 := (S).1 4 0 0
  have t2 : (4 : Int32).toInt = 4 := by decide
  have e_r1 := z_X3_part i1 (h.1 4 0 0) 4 h S  (by omega) (by omega)
  rw [e_r1, Option.bind_some]
  try dsimp only
  have t3 : (3 : Int32).toInt = 3 := by decide
  have e_r2 := z_X3_part i1 (h.1 4 0 0) 3 h S  (by omega) (by omega)
  rw [e_r2, Option.bind_some]
  try dsimp only
  have t4 : (2 : Int32).toInt = 2 := by decide
  have e_r3 := z_X3_part i1 (h.1 4 0 0) 2 h S  (by omega) (by omega)
  rw [e_r3, Option.bind_some]
  try dsimp only
  by_cases q5 : (h.1 32 i1 (((h.1 4 0 0) * 6) + (2 : Int32)).toNatClampNeg) = 1
  · rw [if_pos q5]
    have t6 : (1 : Int32).toInt = 1 := by decide
    first | have hx_7 := i32_hi (h.1 32 i1 (((h.1 4 0 0) * 6) + (2 : Int32)).toNatClampNeg) | skip
    first | have hx_8 := i32_lo (h.1 32 i1 (((h.1 4 0 0) * 6) + (2 : Int32)).toNatClampNeg) | skip
    first | have f9 : (h.1 32 i1 (((h.1 4 0 0) * 6) + (2 : Int32)).toNatClampNeg : Int32).toInt = (1 : Int32).toInt := congrArg Int32.toInt q5 | skip
    exact ⟨_, rfl, rfl⟩
  · rw [if_neg q5]
    have t10 : (1 : Int32).toInt = 1 := by decide
    first | have hx_11 := i32_hi (h.1 32 i1 (((h.1 4 0 0) * 6) + (2 : Int32)).toNatClampNeg) | skip
    first | have hx_12 := i32_lo (h.1 32 i1 (((h.1 4 0 0) * 6) + (2 : Int32)).toNatClampNeg) | skip
    first | have f13 : (h.1 32 i1 (((h.1 4 0 0) * 6) + (2 : Int32)).toNatClampNeg : Int32).toInt ≠ (1 : Int32).toInt := ti_ne q5 | skip
    by_cases q14 : (h.1 32 i1 (((h.1 4 0 0) * 6) + (2 : Int32)).toNatClampNeg) = 2
    · rw [if_pos q14]
      first | have f15 : (h.1 32 i1 (((h.1 4 0 0) * 6) + (2 : Int32)).toNatClampNeg : Int32).toInt = (2 : Int32).toInt := congrArg Int32.toInt q14 | skip
      have e_r6 := z_X3_part i1 (h.1 4 0 0) 1 h S  (by omega) (by omega)
      rw [e_r6, Option.bind_some]
      try dsimp only
      have q16 : mIn (h.1 32 i1 (((h.1 4 0 0) * 6) + (1 : Int32)).toNatClampNeg) 8 = true := (mIn_bd (by omega) (by omega))
      rw [if_pos q16]
      exact ⟨_, rfl, rfl⟩
    · rw [if_neg q14]
      first | have f17 : (h.1 32 i1 (((h.1 4 0 0) * 6) + (2 : Int32)).toNatClampNeg : Int32).toInt ≠ (2 : Int32).toInt := ti_ne q14 | skip
      exact ⟨_, rfl, rfl⟩
def W_X5_pick : List Nat := [523, 2304]
set_option maxHeartbeats 400000 in
theorem z_X5_pick {fp : Nat → Bool} {b : mH} {m : Nat} (x1 : Int32) (x2 : Int32) (h : mH) (S : SI fp b m h) (ff : ∀ c ∈ W_X5_pick, fp c = false) (pr0 : (0 ≤ x1.toInt ∧ x1.toInt < 24)) : ∃ r, f_X5_pick x1 x2 h = some r ∧ SI fp b m r := by
  have w523 : fp 523 = false := ff 523 (by decide)
  have w2304 : fp 2304 = false := ff 2304 (by decide)
  unfold f_X5_pick
  have q1 : mIn x1 24 = true := (mIn_bd (by omega) (by omega))
  rw [if_pos q1]
  by_cases q2 : (h.1 6 x1.toNatClampNeg 3) = 3
  · rw [if_pos q2]
    have t3 : (3 : Int32).toInt = 3 := by decide
    first | have hx_4 := i32_hi (h.1 6 x1.toNatClampNeg 3) | skip
    first | have hx_5 := i32_lo (h.1 6 x1.toNatClampNeg 3) | skip
    first | have f6 : (h.1 6 x1.toNatClampNeg 3 : Int32).toInt = (3 : Int32).toInt := congrArg Int32.toInt q2 | skip
    refine let_ex (fun h4 e_h4 => ?_)
    have S_h4 : SI fp b m h4 := e_h4 ▸ (SI.f S rfl w523 rfl)
    exact ⟨_, rfl, (SI.f S_h4 rfl w2304 rfl)⟩
  · rw [if_neg q2]
    have t7 : (3 : Int32).toInt = 3 := by decide
    first | have hx_8 := i32_hi (h.1 6 x1.toNatClampNeg 3) | skip
    first | have hx_9 := i32_lo (h.1 6 x1.toNatClampNeg 3) | skip
    first | have f10 : (h.1 6 x1.toNatClampNeg 3 : Int32).toInt ≠ (3 : Int32).toInt := ti_ne q2 | skip
    obtain ⟨⟨r3v, r3h⟩, e_r3, (hh_r3 : r3h = h)⟩ := z_X6_bitsIn x1.toNatClampNeg x2 h S  
    replace hh_r3 := hh_r3.symm
    subst hh_r3
    rw [e_r3, Option.bind_some]
    try dsimp only
    exact ⟨_, rfl, (SI.f S rfl w523 rfl)⟩
set_option maxHeartbeats 400000 in
theorem y_X5_pick {fp : Nat → Bool} {b : mH} {m : Nat} (x1 : Int32) (x2 : Int32) (h : mH) (S : SI fp b m h) (ff : ∀ c ∈ W_X5_pick, fp c = false) (pr0 : (0 ≤ x1.toInt ∧ x1.toInt < 24)) : ∃ r, f_X5_pick x1 x2 h = some r ∧ SI fp b m r ∧ fz (fun c => !(W_X5_pick.contains c)) h r := by
  obtain ⟨r, e1, s1⟩ := z_X5_pick (fp := fun c => fp c || !(W_X5_pick.contains c)) (b := h) (m := 0) x1 x2 h (S.re _) (fun c hc => Bool.or_eq_false_iff.mpr ⟨ff c hc, by rw [List.contains_iff_mem.mpr hc]; rfl⟩) pr0
  refine ⟨r, e1, SI.mono (S.back s1 (fun c hc => Bool.or_eq_true_iff.mpr (Or.inl hc))) (by omega), fun t i k hc => s1.2.2.1 t i k (Bool.or_eq_true_iff.mpr (Or.inr hc))⟩
def W_X5_beat_s0 : List Nat := [256, 257, 258, 259, 325, 521, 522, 523, 525, 526, 527, 2112, 2176, 2240, 2304, 2368, 2432, 2496, 2560, 2624]
set_option maxHeartbeats 400000 in
theorem z_X5_beat_s0 {fp : Nat → Bool} {b : mH} {m : Nat} (i1 : Nat) (h : mH) (S : SI fp b m h) (ff : ∀ c ∈ W_X5_beat_s0, fp c = false) (pr0 : (h.1 4 0 0).toInt < 48) : ∃ r, f_X5_beat i1 0 h = some r ∧ SI fp b (m + 1) r := by
  have ff_X2_readRegister : ∀ c ∈ W_X2_readRegister, fp c = false := fun c hc => ff c ((by decide : ∀ c ∈ W_X2_readRegister, c ∈ W_X5_beat_s0) c hc)
  have ff_X2_tick : ∀ c ∈ W_X2_tick, fp c = false := fun c hc => ff c ((by decide : ∀ c ∈ W_X2_tick, c ∈ W_X5_beat_s0) c hc)
  have ff_X2_writeRegister : ∀ c ∈ W_X2_writeRegister, fp c = false := fun c hc => ff c ((by decide : ∀ c ∈ W_X2_writeRegister, c ∈ W_X5_beat_s0) c hc)
  have ff_X4_next_s0 : ∀ c ∈ W_X4_next_s0, fp c = false := fun c hc => ff c ((by decide : ∀ c ∈ W_X4_next_s0, c ∈ W_X5_beat_s0) c hc)
  have ff_X5_endPollBeat_s0 : ∀ c ∈ W_X5_endPollBeat_s0, fp c = false := fun c hc => ff c ((by decide : ∀ c ∈ W_X5_endPollBeat_s0, c ∈ W_X5_beat_s0) c hc)
  have ff_X5_pick : ∀ c ∈ W_X5_pick, fp c = false := fun c hc => ff c ((by decide : ∀ c ∈ W_X5_pick, c ∈ W_X5_beat_s0) c hc)
  have w257 : fp 257 = false := ff 257 (by decide)
  have w258 : fp 258 = false := ff 258 (by decide)
  have w325 : fp 325 = false := ff 325 (by decide)
  have w2432 : fp 2432 = false := ff 2432 (by decide)
  have b0 : 0 ≤ (h.1 4 0 0).toInt ∧ (h.1 4 0 0).toInt ≤ 48 := S.1 4 0 0
  have okb := part_ok S i1 (x := h.1 4 0 0) (by omega) (by omega)
  unfold okQ at okb
  unfold f_X5_beat
  have b1 : 0 ≤ (h.1 4 0 0).toInt ∧ (h.1 4 0 0).toInt ≤ 48 := (S).1 4 0 0
  have t2 : (1 : Int32).toInt = 1 := by decide
  have e_r1 := z_X3_part i1 (h.1 4 0 0) 1 h S  (by omega) (by omega)
  rw [e_r1, Option.bind_some]
  try dsimp only
  have t3 : (0 : Int32).toInt = 0 := by decide
  have e_r2 := z_X3_part i1 (h.1 4 0 0) 0 h S  (by omega) (by omega)
  rw [e_r2, Option.bind_some]
  try dsimp only
  by_cases q4 : (h.1 32 i1 (((h.1 4 0 0) * 6) + (0 : Int32)).toNatClampNeg) = 0
  · rw [if_pos q4]
    first | have hx_5 := i32_hi (h.1 32 i1 (((h.1 4 0 0) * 6) + (0 : Int32)).toNatClampNeg) | skip
    first | have hx_6 := i32_lo (h.1 32 i1 (((h.1 4 0 0) * 6) + (0 : Int32)).toNatClampNeg) | skip
    first | have f7 : (h.1 32 i1 (((h.1 4 0 0) * 6) + (0 : Int32)).toNatClampNeg : Int32).toInt = (0 : Int32).toInt := congrArg Int32.toInt q4 | skip
    obtain ⟨r4, e_r4, S_r4, fr_r4⟩ := y_X2_readRegister (h.1 32 i1 (((h.1 4 0 0) * 6) + (1 : Int32)).toNatClampNeg) 1 h S ff_X2_readRegister (by omega)
    rw [e_r4, Option.bind_some]
    obtain ⟨g8, e_g8⟩ : ∃ g, uI r4.2 4 0 2 r4.1 = g := ⟨_, rfl⟩
    rw [e_g8]
    have S_g8 : SI fp b (m + 1) g8 := e_g8 ▸ (SI.f S_r4 rfl w258 rfl)
    have b9 : 0 ≤ (g8.1 4 0 0).toInt ∧ (g8.1 4 0 0).toInt ≤ 48 := (S_g8).1 4 0 0
    have l10 : (g8.1 4 0 0).toInt = (r4.2.1 4 0 0).toInt := by rw [← e_g8, uI_k _ rfl]
    have b11 : 0 ≤ (r4.2.1 4 0 0).toInt ∧ (r4.2.1 4 0 0).toInt ≤ 48 := (S_r4).1 4 0 0
    have l12 : (r4.2.1 4 0 0).toInt = (h.1 4 0 0).toInt := congrArg Int32.toInt (fr_r4 4 0 0 rfl).1
    obtain ⟨r5, e_r5, S_r5⟩ := z_X4_next_s0  g8 S_g8 ff_X4_next_s0 (by omega)
    rw [e_r5, Option.bind_some]
    exact ⟨_, rfl, S_r5⟩
  · rw [if_neg q4]
    first | have hx_13 := i32_hi (h.1 32 i1 (((h.1 4 0 0) * 6) + (0 : Int32)).toNatClampNeg) | skip
    first | have hx_14 := i32_lo (h.1 32 i1 (((h.1 4 0 0) * 6) + (0 : Int32)).toNatClampNeg) | skip
    first | have f15 : (h.1 32 i1 (((h.1 4 0 0) * 6) + (0 : Int32)).toNatClampNeg : Int32).toInt ≠ (0 : Int32).toInt := ti_ne q4 | skip
    by_cases q16 : (h.1 32 i1 (((h.1 4 0 0) * 6) + (0 : Int32)).toNatClampNeg) = 1
    · rw [if_pos q16]
      first | have f17 : (h.1 32 i1 (((h.1 4 0 0) * 6) + (0 : Int32)).toNatClampNeg : Int32).toInt = (1 : Int32).toInt := congrArg Int32.toInt q16 | skip
      obtain ⟨⟨r7v, r7h⟩, e_r7, (hh_r7 : r7h = h)⟩ := z_X5_numberToWrite_s0 i1 h S  pr0 (by omega)
      replace hh_r7 := hh_r7.symm
      subst hh_r7
      rw [e_r7, Option.bind_some]
      try dsimp only
      have q18 : mIn (h.1 32 i1 (((h.1 4 0 0) * 6) + (1 : Int32)).toNatClampNeg) 8 = true := (mIn_bd (by omega) (by omega))
      rw [if_pos q18]
      obtain ⟨g19, e_g19⟩ : ∃ g, uI h 38 0 (h.1 32 i1 (((h.1 4 0 0) * 6) + (1 : Int32)).toNatClampNeg).toNatClampNeg (r7v &&& (h.1 30 0 (h.1 32 i1 (((h.1 4 0 0) * 6) + (1 : Int32)).toNatClampNeg).toNatClampNeg)) = g := ⟨_, rfl⟩
      rw [e_g19]
      have S_g19 : SI fp b m g19 := e_g19 ▸ (SI.f S rfl w2432 rfl)
      obtain ⟨r9, e_r9, S_r9, fr_r9⟩ := y_X2_writeRegister (h.1 32 i1 (((h.1 4 0 0) * 6) + (1 : Int32)).toNatClampNeg) r7v g19 S_g19 ff_X2_writeRegister (by omega)
      rw [e_r9, Option.bind_some]
      have b20 : 0 ≤ (r9.1 4 0 0).toInt ∧ (r9.1 4 0 0).toInt ≤ 48 := (S_r9).1 4 0 0
      have l21 : (r9.1 4 0 0).toInt = (g19.1 4 0 0).toInt := congrArg Int32.toInt (fr_r9 4 0 0 rfl).1
      have b22 : 0 ≤ (g19.1 4 0 0).toInt ∧ (g19.1 4 0 0).toInt ≤ 48 := (S_g19).1 4 0 0
      have l23 : (g19.1 4 0 0).toInt = (h.1 4 0 0).toInt := by rw [← e_g19, uI_t _ rfl]
      obtain ⟨r10, e_r10, S_r10⟩ := z_X4_next_s0  r9 S_r9 ff_X4_next_s0 (by omega)
      rw [e_r10, Option.bind_some]
      exact ⟨_, rfl, S_r10⟩
    · rw [if_neg q16]
      first | have f24 : (h.1 32 i1 (((h.1 4 0 0) * 6) + (0 : Int32)).toNatClampNeg : Int32).toInt ≠ (1 : Int32).toInt := ti_ne q16 | skip
      by_cases q25 : (h.1 32 i1 (((h.1 4 0 0) * 6) + (0 : Int32)).toNatClampNeg) = 2
      · rw [if_pos q25]
        have t26 : (2 : Int32).toInt = 2 := by decide
        first | have f27 : (h.1 32 i1 (((h.1 4 0 0) * 6) + (0 : Int32)).toNatClampNeg : Int32).toInt = (2 : Int32).toInt := congrArg Int32.toInt q25 | skip
        obtain ⟨r12, e_r12, S_r12, fr_r12⟩ := y_X2_readRegister (h.1 32 i1 (((h.1 4 0 0) * 6) + (1 : Int32)).toNatClampNeg) 1 h S ff_X2_readRegister (by omega)
        rw [e_r12, Option.bind_some]
        obtain ⟨g28, e_g28⟩ : ∃ g, uI r12.2 4 0 2 r12.1 = g := ⟨_, rfl⟩
        rw [e_g28]
        have S_g28 : SI fp b (m + 1) g28 := e_g28 ▸ (SI.f S_r12 rfl w258 rfl)
        have b29 : 0 ≤ (g28.1 4 0 0).toInt ∧ (g28.1 4 0 0).toInt ≤ 48 := (S_g28).1 4 0 0
        have l30 : (g28.1 4 0 0).toInt = (r12.2.1 4 0 0).toInt := by rw [← e_g28, uI_k _ rfl]
        have b31 : 0 ≤ (r12.2.1 4 0 0).toInt ∧ (r12.2.1 4 0 0).toInt ≤ 48 := (S_r12).1 4 0 0
        have l32 : (r12.2.1 4 0 0).toInt = (h.1 4 0 0).toInt := congrArg Int32.toInt (fr_r12 4 0 0 rfl).1
        obtain ⟨r13, e_r13, S_r13⟩ := z_X5_endPollBeat_s0 i1 g28 S_g28 ff_X5_endPollBeat_s0 (by omega)
        rw [e_r13, Option.bind_some]
        exact ⟨_, rfl, S_r13⟩
      · rw [if_neg q25]
        have t33 : (2 : Int32).toInt = 2 := by decide
        first | have f34 : (h.1 32 i1 (((h.1 4 0 0) * 6) + (0 : Int32)).toNatClampNeg : Int32).toInt ≠ (2 : Int32).toInt := ti_ne q25 | skip
        by_cases q35 : (h.1 32 i1 (((h.1 4 0 0) * 6) + (0 : Int32)).toNatClampNeg) = 3
        · rw [if_pos q35]
          have t36 : (3 : Int32).toInt = 3 := by decide
          first | have f37 : (h.1 32 i1 (((h.1 4 0 0) * 6) + (0 : Int32)).toNatClampNeg : Int32).toInt = (3 : Int32).toInt := congrArg Int32.toInt q35 | skip
          obtain ⟨r15, e_r15, S_r15, fr_r15⟩ := y_X2_tick  h S ff_X2_tick 
          rw [e_r15, Option.bind_some]
          refine let_ex (fun h16 e_h16 => ?_)
          have S_h16 : SI fp b (m + 1) h16 := e_h16 ▸ (SI.f S_r15 rfl w257 rfl)
          by_cases q38 : (h16.1 4 0 1) < (h.1 32 i1 (((h.1 4 0 0) * 6) + (1 : Int32)).toNatClampNeg)
          · rw [if_pos q38]
            have l39 : (r15.1 4 0 1).toInt = (h.1 4 0 1).toInt := congrArg Int32.toInt (fr_r15 4 0 1 rfl).1
            first | have o40 : ((r15.1 4 0 1) + 1 : Int32).toInt = (r15.1 4 0 1 : Int32).toInt + (1 : Int32).toInt := ti_add (by omega) (by omega) | skip
            have l41 : (h16.1 4 0 1).toInt = ((r15.1 4 0 1) + 1 : Int32).toInt := by rw [← e_h16, uI_s']
            first | have hx_42 := i32_hi (h16.1 4 0 1) | skip
            first | have hx_43 := i32_lo (h16.1 4 0 1) | skip
            first | have hx_44 := i32_hi (h.1 32 i1 (((h.1 4 0 0) * 6) + (1 : Int32)).toNatClampNeg) | skip
            first | have hx_45 := i32_lo (h.1 32 i1 (((h.1 4 0 0) * 6) + (1 : Int32)).toNatClampNeg) | skip
            first | have f46 : (h16.1 4 0 1 : Int32).toInt < (h.1 32 i1 (((h.1 4 0 0) * 6) + (1 : Int32)).toNatClampNeg : Int32).toInt := Int32.lt_iff_toInt_lt.mp q38 | skip
            exact ⟨_, rfl, S_h16⟩
          · rw [if_neg q38]
            have l47 : (r15.1 4 0 1).toInt = (h.1 4 0 1).toInt := congrArg Int32.toInt (fr_r15 4 0 1 rfl).1
            first | have o48 : ((r15.1 4 0 1) + 1 : Int32).toInt = (r15.1 4 0 1 : Int32).toInt + (1 : Int32).toInt := ti_add (by omega) (by omega) | skip
            have l49 : (h16.1 4 0 1).toInt = ((r15.1 4 0 1) + 1 : Int32).toInt := by rw [← e_h16, uI_s']
            first | have hx_50 := i32_hi (h16.1 4 0 1) | skip
            first | have hx_51 := i32_lo (h16.1 4 0 1) | skip
            first | have hx_52 := i32_hi (h.1 32 i1 (((h.1 4 0 0) * 6) + (1 : Int32)).toNatClampNeg) | skip
            first | have hx_53 := i32_lo (h.1 32 i1 (((h.1 4 0 0) * 6) + (1 : Int32)).toNatClampNeg) | skip
            first | have f54 : (h.1 32 i1 (((h.1 4 0 0) * 6) + (1 : Int32)).toNatClampNeg : Int32).toInt ≤ (h16.1 4 0 1 : Int32).toInt := Int32.le_iff_toInt_le.mp (Int32.not_lt.mp q38) | skip
            have b55 : 0 ≤ (h16.1 4 0 0).toInt ∧ (h16.1 4 0 0).toInt ≤ 48 := (S_h16).1 4 0 0
            have l56 : (h16.1 4 0 0).toInt = (r15.1 4 0 0).toInt := by rw [← e_h16, uI_k _ rfl]
            have b57 : 0 ≤ (r15.1 4 0 0).toInt ∧ (r15.1 4 0 0).toInt ≤ 48 := (S_r15).1 4 0 0
            have l58 : (r15.1 4 0 0).toInt = (h.1 4 0 0).toInt := congrArg Int32.toInt (fr_r15 4 0 0 rfl).1
            obtain ⟨r18, e_r18, S_r18⟩ := z_X4_next_s0  h16 S_h16 ff_X4_next_s0 (by omega)
            rw [e_r18, Option.bind_some]
            exact ⟨_, rfl, S_r18⟩
        · rw [if_neg q35]
          have t59 : (3 : Int32).toInt = 3 := by decide
          first | have f60 : (h.1 32 i1 (((h.1 4 0 0) * 6) + (0 : Int32)).toNatClampNeg : Int32).toInt ≠ (3 : Int32).toInt := ti_ne q35 | skip
          by_cases q61 : (h.1 32 i1 (((h.1 4 0 0) * 6) + (0 : Int32)).toNatClampNeg) = 4
          · rw [if_pos q61]
            have t62 : (4 : Int32).toInt = 4 := by decide
            first | have f63 : (h.1 32 i1 (((h.1 4 0 0) * 6) + (0 : Int32)).toNatClampNeg : Int32).toInt = (4 : Int32).toInt := congrArg Int32.toInt q61 | skip
            obtain ⟨r20, e_r20, S_r20, fr_r20⟩ := y_X5_pick (h.1 32 i1 (((h.1 4 0 0) * 6) + (1 : Int32)).toNatClampNeg) (h.1 4 0 2) h S ff_X5_pick (by omega)
            rw [e_r20, Option.bind_some]
            have b64 : 0 ≤ (r20.1 4 0 0).toInt ∧ (r20.1 4 0 0).toInt ≤ 48 := (S_r20).1 4 0 0
            have l65 : (r20.1 4 0 0).toInt = (h.1 4 0 0).toInt := congrArg Int32.toInt (fr_r20 4 0 0 rfl).1
            obtain ⟨r21, e_r21, S_r21⟩ := z_X4_next_s0  r20 S_r20 ff_X4_next_s0 (by omega)
            rw [e_r21, Option.bind_some]
            exact ⟨_, rfl, (SI.mono S_r21 (by omega))⟩
          · rw [if_neg q61]
            have t66 : (4 : Int32).toInt = 4 := by decide
            first | have f67 : (h.1 32 i1 (((h.1 4 0 0) * 6) + (0 : Int32)).toNatClampNeg : Int32).toInt ≠ (4 : Int32).toInt := ti_ne q61 | skip
            rw [e_r2, Option.bind_some]
            dsimp only
            by_cases q68 : (h.1 32 i1 (((h.1 4 0 0) * 6) + (0 : Int32)).toNatClampNeg) = 5
            · rw [if_pos q68]
              have t69 : (5 : Int32).toInt = 5 := by decide
              first | have f70 : (h.1 32 i1 (((h.1 4 0 0) * 6) + (0 : Int32)).toNatClampNeg : Int32).toInt = (5 : Int32).toInt := congrArg Int32.toInt q68 | skip
              have w_71 : 0 ≤ (1 : Int32).toInt ∧ (1 : Int32).toInt ≤ 1 := by omega
              obtain ⟨g72, e_g72⟩ : ∃ g, uI h 5 0 5 1 = g := ⟨_, rfl⟩
              rw [e_g72]
              have S_g72 : SI fp b m g72 := e_g72 ▸ (SI.u S rfl w325 w_71)
              have b73 : 0 ≤ (g72.1 4 0 0).toInt ∧ (g72.1 4 0 0).toInt ≤ 48 := (S_g72).1 4 0 0
              have l74 : (g72.1 4 0 0).toInt = (h.1 4 0 0).toInt := by rw [← e_g72, uI_t _ rfl]
              obtain ⟨r25, e_r25, S_r25⟩ := z_X4_next_s0  g72 S_g72 ff_X4_next_s0 (by omega)
              rw [e_r25, Option.bind_some]
              exact ⟨_, rfl, (SI.mono S_r25 (by omega))⟩
            · rw [if_neg q68]
              have t75 : (5 : Int32).toInt = 5 := by decide
              first | have f76 : (h.1 32 i1 (((h.1 4 0 0) * 6) + (0 : Int32)).toNatClampNeg : Int32).toInt ≠ (5 : Int32).toInt := ti_ne q68 | skip
              have w_77 : 0 ≤ (0 : Int32).toInt ∧ (0 : Int32).toInt ≤ 1 := by omega
              obtain ⟨g78, e_g78⟩ : ∃ g, uI h 5 0 5 0 = g := ⟨_, rfl⟩
              rw [e_g78]
              have S_g78 : SI fp b m g78 := e_g78 ▸ (SI.u S rfl w325 w_77)
              have b79 : 0 ≤ (g78.1 4 0 0).toInt ∧ (g78.1 4 0 0).toInt ≤ 48 := (S_g78).1 4 0 0
              have l80 : (g78.1 4 0 0).toInt = (h.1 4 0 0).toInt := by rw [← e_g78, uI_t _ rfl]
              obtain ⟨r24, e_r24, S_r24⟩ := z_X4_next_s0  g78 S_g78 ff_X4_next_s0 (by omega)
              rw [e_r24, Option.bind_some]
              exact ⟨_, rfl, (SI.mono S_r24 (by omega))⟩
def W_X4_start_s1 : List Nat := [288, 289, 290, 291]
set_option maxHeartbeats 400000 in
theorem z_X4_start_s1 {fp : Nat → Bool} {b : mH} {m : Nat}  (h : mH) (S : SI fp b m h) (ff : ∀ c ∈ W_X4_start_s1, fp c = false)  : ∃ r, f_X4_start 1 h = some r ∧ SI fp b m r := by
  have w288 : fp 288 = false := ff 288 (by decide)
  have w289 : fp 289 = false := ff 289 (by decide)
  have w290 : fp 290 = false := ff 290 (by decide)
  have w291 : fp 291 = false := ff 291 (by decide)
  unfold f_X4_start
  have t1 : (0 : Int32).toInt = 0 := by decide
  have w_2 : 0 ≤ (0 : Int32).toInt ∧ (0 : Int32).toInt ≤ 48 := by omega
  refine let_ex (fun h1 e_h1 => ?_)
  have S_h1 : SI fp b m h1 := e_h1 ▸ (SI.u S rfl w288 w_2)
  refine let_ex (fun h2 e_h2 => ?_)
  have S_h2 : SI fp b m h2 := e_h2 ▸ (SI.f S_h1 rfl w289 rfl)
  refine let_ex (fun h3 e_h3 => ?_)
  have S_h3 : SI fp b m h3 := e_h3 ▸ (SI.f S_h2 rfl w290 rfl)
  have w_3 : 0 ≤ (0 : Int32).toInt ∧ (0 : Int32).toInt ≤ 1 := by omega
  exact ⟨_, rfl, (SI.u S_h3 rfl w291 w_3)⟩
set_option maxHeartbeats 400000 in
theorem z_X5_calledAct_2 {fp : Nat → Bool} {b : mH} {m : Nat} {P : Int32 × mH → Prop} (k : Int32 → mH → Option (Int32 × mH))   (h : mH) (S : SI fp b m h)  (hk : ∀ (v1 : Int32), 0 ≤ v1.toInt → ∃ r, k v1 h = some r ∧ P r) (he : ∀ rv : Int32, P (rv, h)) : ∀ (n : Nat) (v1 : Int32), 0 ≤ v1.toInt → 2147483648 - v1.toInt < n → ∃ r, f_X5_calledAct_2 k  n v1 h = some r ∧ P r := by
  intro n
  induction n with
  | zero =>
    intro v1 iv0 hm
    have hz := i32_hi v1
    omega
  | succ n ih =>
    intro v1 iv0 hm
    rw [f_X5_calledAct_2]
    by_cases q1 : v1 < (h.1 1 0 4)
    · rw [if_pos q1]
      have b2 : 0 ≤ (h.1 1 0 4).toInt ∧ (h.1 1 0 4).toInt ≤ 24 := (S).1 1 0 4
      first | have hx_3 := i32_hi (v1) | skip
      first | have hx_4 := i32_lo (v1) | skip
      first | have hx_5 := i32_hi (h.1 1 0 4) | skip
      first | have hx_6 := i32_lo (h.1 1 0 4) | skip
      first | have f7 : (v1 : Int32).toInt < (h.1 1 0 4 : Int32).toInt := Int32.lt_iff_toInt_lt.mp q1 | skip
      have q8 : mIn v1 24 = true := (mIn_bd (by omega) (by omega))
      rw [if_pos q8]
      by_cases q9 : (h.1 6 v1.toNatClampNeg 9) < 0
      · rw [if_pos q9]
        have t10 : (0 : Int32).toInt = 0 := by decide
        first | have hx_11 := i32_hi (h.1 6 v1.toNatClampNeg 9) | skip
        first | have hx_12 := i32_lo (h.1 6 v1.toNatClampNeg 9) | skip
        first | have f13 : (h.1 6 v1.toNatClampNeg 9 : Int32).toInt < (0 : Int32).toInt := Int32.lt_iff_toInt_lt.mp q9 | skip
        have t14 : (1 : Int32).toInt = 1 := by decide
        first | have o15 : (v1 + 1 : Int32).toInt = (v1 : Int32).toInt + (1 : Int32).toInt := ti_add (by omega) (by omega) | skip
        exact ih (v1 + 1) (by omega) (by omega)
      · rw [if_neg q9]
        have t16 : (0 : Int32).toInt = 0 := by decide
        first | have hx_17 := i32_hi (h.1 6 v1.toNatClampNeg 9) | skip
        first | have hx_18 := i32_lo (h.1 6 v1.toNatClampNeg 9) | skip
        first | have f19 : (0 : Int32).toInt ≤ (h.1 6 v1.toNatClampNeg 9 : Int32).toInt := Int32.le_iff_toInt_le.mp (Int32.not_lt.mp q9) | skip
        by_cases q20 : (h.1 33 0 v1.toNatClampNeg) = 0
        · rw [if_pos q20]
          first | have hx_21 := i32_hi (h.1 33 0 v1.toNatClampNeg) | skip
          first | have hx_22 := i32_lo (h.1 33 0 v1.toNatClampNeg) | skip
          first | have f23 : (h.1 33 0 v1.toNatClampNeg : Int32).toInt = (0 : Int32).toInt := congrArg Int32.toInt q20 | skip
          have t24 : (1 : Int32).toInt = 1 := by decide
          first | have o25 : (v1 + 1 : Int32).toInt = (v1 : Int32).toInt + (1 : Int32).toInt := ti_add (by omega) (by omega) | skip
          exact ih (v1 + 1) (by omega) (by omega)
        · rw [if_neg q20]
          first | have hx_26 := i32_hi (h.1 33 0 v1.toNatClampNeg) | skip
          first | have hx_27 := i32_lo (h.1 33 0 v1.toNatClampNeg) | skip
          first | have f28 : (h.1 33 0 v1.toNatClampNeg : Int32).toInt ≠ (0 : Int32).toInt := ti_ne q20 | skip
          exact ⟨_, rfl, he (h.1 6 v1.toNatClampNeg 9) ⟩
    · rw [if_neg q1]
      have b29 : 0 ≤ (h.1 1 0 4).toInt ∧ (h.1 1 0 4).toInt ≤ 24 := (S).1 1 0 4
      first | have hx_30 := i32_hi (v1) | skip
      first | have hx_31 := i32_lo (v1) | skip
      first | have hx_32 := i32_hi (h.1 1 0 4) | skip
      first | have hx_33 := i32_lo (h.1 1 0 4) | skip
      first | have f34 : (h.1 1 0 4 : Int32).toInt ≤ (v1 : Int32).toInt := Int32.le_iff_toInt_le.mp (Int32.not_lt.mp q1) | skip
      exact hk v1 iv0
set_option maxHeartbeats 400000 in
theorem z_X5_calledAct {fp : Nat → Bool} {b : mH} {m : Nat}  (h : mH) (S : SI fp b m h)   : ∃ r, f_X5_calledAct h = some r ∧ r.2 = h := by
  unfold f_X5_calledAct
  have t1 : (0 : Int32).toInt = 0 := by decide
  refine z_X5_calledAct_2 _   h S  (fun u5 y2 => ?_) (fun rv  => rfl) mFu 0 (by omega) (by have := mFu_big; omega)
  try dsimp only
  exact ⟨_, rfl, rfl⟩
set_option maxHeartbeats 400000 in
theorem z_X4_goesOn_s1 {fp : Nat → Bool} {b : mH} {m : Nat} (i1 : Nat) (h : mH) (S : SI fp b m h)   : ∃ r, f_X4_goesOn 1 i1 h = some r ∧ r.2 = h ∧ (r.1 = 0 ∨ r.1 = 1) ∧ (r.1.toInt = 0 ∨ (h.1 4 1 0).toInt < 48) := by
  unfold f_X4_goesOn
  by_cases q1 : (h.1 4 1 0) < (h.1 3 i1 1)
  · rw [if_pos q1]
    have b2 : 0 ≤ (h.1 4 1 0).toInt ∧ (h.1 4 1 0).toInt ≤ 48 := (S).1 4 1 0
    have b3 : 0 ≤ (h.1 3 i1 1).toInt ∧ (h.1 3 i1 1).toInt ≤ 48 := (S).1 3 i1 1
    first | have hx_4 := i32_hi (h.1 4 1 0) | skip
    first | have hx_5 := i32_lo (h.1 4 1 0) | skip
    first | have hx_6 := i32_hi (h.1 3 i1 1) | skip
    first | have hx_7 := i32_lo (h.1 3 i1 1) | skip
    first | have f8 : (h.1 4 1 0 : Int32).toInt < (h.1 3 i1 1 : Int32).toInt := Int32.lt_iff_toInt_lt.mp q1 | skip
    by_cases q9 : (h.1 4 1 3) = 0
    · rw [if_pos q9]
      have b10 : 0 ≤ (h.1 4 1 3).toInt ∧ (h.1 4 1 3).toInt ≤ 1 := (S).1 4 1 3
      have t11 : (0 : Int32).toInt = 0 := by decide
      first | have hx_12 := i32_hi (h.1 4 1 3) | skip
      first | have hx_13 := i32_lo (h.1 4 1 3) | skip
      first | have f14 : (h.1 4 1 3 : Int32).toInt = (0 : Int32).toInt := congrArg Int32.toInt q9 | skip
      have t15 : (1 : Int32).toInt = 1 := by decide
      have pp16 : ((1 : Int32).toInt = 0 ∨ (h.1 4 1 0).toInt < 48) := by omega
      exact ⟨_, rfl, rfl, (Or.inr rfl), pp16⟩
    · rw [if_neg q9]
      have b17 : 0 ≤ (h.1 4 1 3).toInt ∧ (h.1 4 1 3).toInt ≤ 1 := (S).1 4 1 3
      have t18 : (0 : Int32).toInt = 0 := by decide
      first | have hx_19 := i32_hi (h.1 4 1 3) | skip
      first | have hx_20 := i32_lo (h.1 4 1 3) | skip
      first | have f21 : (h.1 4 1 3 : Int32).toInt ≠ (0 : Int32).toInt := ti_ne q9 | skip
      have pp22 : ((0 : Int32).toInt = 0 ∨ (h.1 4 1 0).toInt < 48) := by omega
      exact ⟨_, rfl, rfl, (Or.inl rfl), pp22⟩
  · rw [if_neg q1]
    have b23 : 0 ≤ (h.1 4 1 0).toInt ∧ (h.1 4 1 0).toInt ≤ 48 := (S).1 4 1 0
    have b24 : 0 ≤ (h.1 3 i1 1).toInt ∧ (h.1 3 i1 1).toInt ≤ 48 := (S).1 3 i1 1
    first | have hx_25 := i32_hi (h.1 4 1 0) | skip
    first | have hx_26 := i32_lo (h.1 4 1 0) | skip
    first | have hx_27 := i32_hi (h.1 3 i1 1) | skip
    first | have hx_28 := i32_lo (h.1 3 i1 1) | skip
    first | have f29 : (h.1 3 i1 1 : Int32).toInt ≤ (h.1 4 1 0 : Int32).toInt := Int32.le_iff_toInt_le.mp (Int32.not_lt.mp q1) | skip
    have t30 : (0 : Int32).toInt = 0 := by decide
    have pp31 : ((0 : Int32).toInt = 0 ∨ (h.1 4 1 0).toInt < 48) := by omega
    exact ⟨_, rfl, rfl, (Or.inl rfl), pp31⟩
def W_X4_next_s1 : List Nat := [288, 289]
set_option maxHeartbeats 400000 in
theorem z_X4_next_s1 {fp : Nat → Bool} {b : mH} {m : Nat}  (h : mH) (S : SI fp b m h) (ff : ∀ c ∈ W_X4_next_s1, fp c = false) (pr0 : (h.1 4 1 0).toInt < 48) : ∃ r, f_X4_next 1 h = some r ∧ SI fp b m r := by
  have w288 : fp 288 = false := ff 288 (by decide)
  have w289 : fp 289 = false := ff 289 (by decide)
  unfold f_X4_next
  have b1 : 0 ≤ (h.1 4 1 0).toInt ∧ (h.1 4 1 0).toInt ≤ 48 := (S).1 4 1 0
  have t2 : (1 : Int32).toInt = 1 := by decide
  first | have o3 : ((h.1 4 1 0) + 1 : Int32).toInt = (h.1 4 1 0 : Int32).toInt + (1 : Int32).toInt := ti_add (by omega) (by omega) | skip
  have w_4 : 0 ≤ ((h.1 4 1 0) + 1 : Int32).toInt ∧ ((h.1 4 1 0) + 1 : Int32).toInt ≤ 48 := by omega
  refine let_ex (fun h1 e_h1 => ?_)
  have S_h1 : SI fp b m h1 := e_h1 ▸ (SI.u S rfl w288 w_4)
  exact ⟨_, rfl, (SI.f S_h1 rfl w289 rfl)⟩
def W_X5_endPollBeat_s1 : List Nat := [288, 289, 291]
set_option maxHeartbeats 400000 in
theorem z_X5_endPollBeat_s1 {fp : Nat → Bool} {b : mH} {m : Nat} (i1 : Nat) (h : mH) (S : SI fp b m h) (ff : ∀ c ∈ W_X5_endPollBeat_s1, fp c = false) (pr0 : (h.1 4 1 0).toInt < 48) : ∃ r, f_X5_endPollBeat i1 1 h = some r ∧ SI fp b m r := by
  have ff_X4_next_s1 : ∀ c ∈ W_X4_next_s1, fp c = false := fun c hc => ff c ((by decide : ∀ c ∈ W_X4_next_s1, c ∈ W_X5_endPollBeat_s1) c hc)
  have w289 : fp 289 = false := ff 289 (by decide)
  have w291 : fp 291 = false := ff 291 (by decide)
  unfold f_X5_endPollBeat
  refine let_ex (fun h1 e_h1 => ?_)
  have S_h1 : SI fp b m h1 := e_h1 ▸ (SI.f S rfl w289 rfl)
  have b1 : 0 ≤ (h1.1 4 1 0).toInt ∧ (h1.1 4 1 0).toInt ≤ 48 := (S_h1).1 4 1 0
  have l2 : (h1.1 4 1 0).toInt = (h.1 4 1 0).toInt := by rw [← e_h1, uI_k _ rfl]
  have b3 : 0 ≤ (h.1 4 1 0).toInt ∧ (h.1 4 1 0).toInt ≤ 48 := (S).1 4 1 0
  have t4 : (3 : Int32).toInt = 3 := by decide
  have e_r2 := z_X3_part i1 (h1.1 4 1 0) 3 h1 S_h1  (by omega) (by omega)
  rw [e_r2, Option.bind_some]
  try dsimp only
  have t5 : (4 : Int32).toInt = 4 := by decide
  have e_r3 := z_X3_part i1 (h1.1 4 1 0) 4 h1 S_h1  (by omega) (by omega)
  rw [e_r3, Option.bind_some]
  try dsimp only
  by_cases q6 : ((h1.1 4 1 2) &&& (h1.1 32 i1 (((h1.1 4 1 0) * 6) + (3 : Int32)).toNatClampNeg)) = (h1.1 32 i1 (((h1.1 4 1 0) * 6) + (4 : Int32)).toNatClampNeg)
  · rw [if_pos q6]
    have l7 : (h1.1 32 i1 (((h1.1 4 1 0) * 6) + (4 : Int32)).toNatClampNeg).toInt = (h.1 32 i1 ((((h1.1 4 1 0) * 6) + (4 : Int32)).toNatClampNeg)).toInt := by rw [← e_h1, uI_t _ rfl]
    first | have hx_8 := i32_hi ((h1.1 4 1 2) &&& (h1.1 32 i1 (((h1.1 4 1 0) * 6) + (3 : Int32)).toNatClampNeg)) | skip
    first | have hx_9 := i32_lo ((h1.1 4 1 2) &&& (h1.1 32 i1 (((h1.1 4 1 0) * 6) + (3 : Int32)).toNatClampNeg)) | skip
    first | have hx_10 := i32_hi (h1.1 32 i1 (((h1.1 4 1 0) * 6) + (4 : Int32)).toNatClampNeg) | skip
    first | have hx_11 := i32_lo (h1.1 32 i1 (((h1.1 4 1 0) * 6) + (4 : Int32)).toNatClampNeg) | skip
    first | have f12 : ((h1.1 4 1 2) &&& (h1.1 32 i1 (((h1.1 4 1 0) * 6) + (3 : Int32)).toNatClampNeg) : Int32).toInt = (h1.1 32 i1 (((h1.1 4 1 0) * 6) + (4 : Int32)).toNatClampNeg : Int32).toInt := congrArg Int32.toInt q6 | skip
    obtain ⟨r7, e_r7, S_r7⟩ := z_X4_next_s1  h1 S_h1 ff_X4_next_s1 (by omega)
    rw [e_r7, Option.bind_some]
    exact ⟨_, rfl, S_r7⟩
  · rw [if_neg q6]
    have l13 : (h1.1 32 i1 (((h1.1 4 1 0) * 6) + (4 : Int32)).toNatClampNeg).toInt = (h.1 32 i1 ((((h1.1 4 1 0) * 6) + (4 : Int32)).toNatClampNeg)).toInt := by rw [← e_h1, uI_t _ rfl]
    first | have hx_14 := i32_hi ((h1.1 4 1 2) &&& (h1.1 32 i1 (((h1.1 4 1 0) * 6) + (3 : Int32)).toNatClampNeg)) | skip
    first | have hx_15 := i32_lo ((h1.1 4 1 2) &&& (h1.1 32 i1 (((h1.1 4 1 0) * 6) + (3 : Int32)).toNatClampNeg)) | skip
    first | have hx_16 := i32_hi (h1.1 32 i1 (((h1.1 4 1 0) * 6) + (4 : Int32)).toNatClampNeg) | skip
    first | have hx_17 := i32_lo (h1.1 32 i1 (((h1.1 4 1 0) * 6) + (4 : Int32)).toNatClampNeg) | skip
    first | have f18 : ((h1.1 4 1 2) &&& (h1.1 32 i1 (((h1.1 4 1 0) * 6) + (3 : Int32)).toNatClampNeg) : Int32).toInt ≠ (h1.1 32 i1 (((h1.1 4 1 0) * 6) + (4 : Int32)).toNatClampNeg : Int32).toInt := ti_ne q6 | skip
    have t19 : (5 : Int32).toInt = 5 := by decide
    have e_r5 := z_X3_part i1 (h1.1 4 1 0) 5 h1 S_h1  (by omega) (by omega)
    rw [e_r5, Option.bind_some]
    try dsimp only
    by_cases q20 : (h1.1 4 1 1) ≤ (h1.1 32 i1 (((h1.1 4 1 0) * 6) + (5 : Int32)).toNatClampNeg)
    · rw [if_pos q20]
      have t21 : (1 : Int32).toInt = 1 := by decide
      first | have o22 : ((h.1 4 1 1) + 1 : Int32).toInt = (h.1 4 1 1 : Int32).toInt + (1 : Int32).toInt := ti_add (by omega) (by omega) | skip
      have l23 : (h1.1 4 1 1).toInt = ((h.1 4 1 1) + 1 : Int32).toInt := by rw [← e_h1, uI_s']
      have l24 : (h1.1 32 i1 (((h1.1 4 1 0) * 6) + (5 : Int32)).toNatClampNeg).toInt = (h.1 32 i1 ((((h1.1 4 1 0) * 6) + (5 : Int32)).toNatClampNeg)).toInt := by rw [← e_h1, uI_t _ rfl]
      first | have hx_25 := i32_hi (h1.1 4 1 1) | skip
      first | have hx_26 := i32_lo (h1.1 4 1 1) | skip
      first | have hx_27 := i32_hi (h1.1 32 i1 (((h1.1 4 1 0) * 6) + (5 : Int32)).toNatClampNeg) | skip
      first | have hx_28 := i32_lo (h1.1 32 i1 (((h1.1 4 1 0) * 6) + (5 : Int32)).toNatClampNeg) | skip
      first | have f29 : (h1.1 4 1 1 : Int32).toInt ≤ (h1.1 32 i1 (((h1.1 4 1 0) * 6) + (5 : Int32)).toNatClampNeg : Int32).toInt := Int32.le_iff_toInt_le.mp q20 | skip
      exact ⟨_, rfl, S_h1⟩
    · rw [if_neg q20]
      have t30 : (1 : Int32).toInt = 1 := by decide
      first | have o31 : ((h.1 4 1 1) + 1 : Int32).toInt = (h.1 4 1 1 : Int32).toInt + (1 : Int32).toInt := ti_add (by omega) (by omega) | skip
      have l32 : (h1.1 4 1 1).toInt = ((h.1 4 1 1) + 1 : Int32).toInt := by rw [← e_h1, uI_s']
      have l33 : (h1.1 32 i1 (((h1.1 4 1 0) * 6) + (5 : Int32)).toNatClampNeg).toInt = (h.1 32 i1 ((((h1.1 4 1 0) * 6) + (5 : Int32)).toNatClampNeg)).toInt := by rw [← e_h1, uI_t _ rfl]
      first | have hx_34 := i32_hi (h1.1 4 1 1) | skip
      first | have hx_35 := i32_lo (h1.1 4 1 1) | skip
      first | have hx_36 := i32_hi (h1.1 32 i1 (((h1.1 4 1 0) * 6) + (5 : Int32)).toNatClampNeg) | skip
      first | have hx_37 := i32_lo (h1.1 32 i1 (((h1.1 4 1 0) * 6) + (5 : Int32)).toNatClampNeg) | skip
      first | have f38 : (h1.1 32 i1 (((h1.1 4 1 0) * 6) + (5 : Int32)).toNatClampNeg : Int32).toInt < (h1.1 4 1 1 : Int32).toInt := Int32.lt_iff_toInt_lt.mp (Int32.not_le.mp q20) | skip
      have w_39 : 0 ≤ (1 : Int32).toInt ∧ (1 : Int32).toInt ≤ 1 := by omega
      exact ⟨_, rfl, (SI.u S_h1 rfl w291 w_39)⟩
set_option maxHeartbeats 400000 in
theorem z_X5_numberToWrite_s1 {fp : Nat → Bool} {b : mH} {m : Nat} (i1 : Nat) (h : mH) (S : SI fp b m h)  (pr0 : (h.1 4 1 0).toInt < 48) (pr1 : (0 ≤ (h.1 32 i1 (((h.1 4 1 0) * 6) + 1).toNatClampNeg).toInt ∧ (h.1 32 i1 (((h.1 4 1 0) * 6) + 1).toNatClampNeg).toInt ≤ 7)) : ∃ r, f_X5_numberToWrite i1 1 h = some r ∧ r.2 = h := by
  unfold f_X5_numberToWrite
  have b1 : 0 ≤ (h.1 4 1 0).toInt ∧ (h.1 4 1 0).toInt ≤ 48 := (S).1 4 1 0
  have t2 : (4 : Int32).toInt = 4 := by decide
  have e_r1 := z_X3_part i1 (h.1 4 1 0) 4 h S  (by omega) (by omega)
  rw [e_r1, Option.bind_some]
  try dsimp only
  have t3 : (3 : Int32).toInt = 3 := by decide
  have e_r2 := z_X3_part i1 (h.1 4 1 0) 3 h S  (by omega) (by omega)
  rw [e_r2, Option.bind_some]
  try dsimp only
  have t4 : (2 : Int32).toInt = 2 := by decide
  have e_r3 := z_X3_part i1 (h.1 4 1 0) 2 h S  (by omega) (by omega)
  rw [e_r3, Option.bind_some]
  try dsimp only
  by_cases q5 : (h.1 32 i1 (((h.1 4 1 0) * 6) + (2 : Int32)).toNatClampNeg) = 1
  · rw [if_pos q5]
    have t6 : (1 : Int32).toInt = 1 := by decide
    first | have hx_7 := i32_hi (h.1 32 i1 (((h.1 4 1 0) * 6) + (2 : Int32)).toNatClampNeg) | skip
    first | have hx_8 := i32_lo (h.1 32 i1 (((h.1 4 1 0) * 6) + (2 : Int32)).toNatClampNeg) | skip
    first | have f9 : (h.1 32 i1 (((h.1 4 1 0) * 6) + (2 : Int32)).toNatClampNeg : Int32).toInt = (1 : Int32).toInt := congrArg Int32.toInt q5 | skip
    exact ⟨_, rfl, rfl⟩
  · rw [if_neg q5]
    have t10 : (1 : Int32).toInt = 1 := by decide
    first | have hx_11 := i32_hi (h.1 32 i1 (((h.1 4 1 0) * 6) + (2 : Int32)).toNatClampNeg) | skip
    first | have hx_12 := i32_lo (h.1 32 i1 (((h.1 4 1 0) * 6) + (2 : Int32)).toNatClampNeg) | skip
    first | have f13 : (h.1 32 i1 (((h.1 4 1 0) * 6) + (2 : Int32)).toNatClampNeg : Int32).toInt ≠ (1 : Int32).toInt := ti_ne q5 | skip
    by_cases q14 : (h.1 32 i1 (((h.1 4 1 0) * 6) + (2 : Int32)).toNatClampNeg) = 2
    · rw [if_pos q14]
      first | have f15 : (h.1 32 i1 (((h.1 4 1 0) * 6) + (2 : Int32)).toNatClampNeg : Int32).toInt = (2 : Int32).toInt := congrArg Int32.toInt q14 | skip
      have e_r6 := z_X3_part i1 (h.1 4 1 0) 1 h S  (by omega) (by omega)
      rw [e_r6, Option.bind_some]
      try dsimp only
      have q16 : mIn (h.1 32 i1 (((h.1 4 1 0) * 6) + (1 : Int32)).toNatClampNeg) 8 = true := (mIn_bd (by omega) (by omega))
      rw [if_pos q16]
      exact ⟨_, rfl, rfl⟩
    · rw [if_neg q14]
      first | have f17 : (h.1 32 i1 (((h.1 4 1 0) * 6) + (2 : Int32)).toNatClampNeg : Int32).toInt ≠ (2 : Int32).toInt := ti_ne q14 | skip
      exact ⟨_, rfl, rfl⟩
def W_X5_beat_s1 : List Nat := [288, 289, 290, 291, 325, 521, 522, 523, 525, 526, 527, 2112, 2176, 2240, 2304, 2368, 2432, 2496, 2560, 2624]
set_option maxHeartbeats 400000 in
theorem z_X5_beat_s1 {fp : Nat → Bool} {b : mH} {m : Nat} (i1 : Nat) (h : mH) (S : SI fp b m h) (ff : ∀ c ∈ W_X5_beat_s1, fp c = false) (pr0 : (h.1 4 1 0).toInt < 48) : ∃ r, f_X5_beat i1 1 h = some r ∧ SI fp b (m + 1) r := by
  have ff_X2_readRegister : ∀ c ∈ W_X2_readRegister, fp c = false := fun c hc => ff c ((by decide : ∀ c ∈ W_X2_readRegister, c ∈ W_X5_beat_s1) c hc)
  have ff_X2_tick : ∀ c ∈ W_X2_tick, fp c = false := fun c hc => ff c ((by decide : ∀ c ∈ W_X2_tick, c ∈ W_X5_beat_s1) c hc)
  have ff_X2_writeRegister : ∀ c ∈ W_X2_writeRegister, fp c = false := fun c hc => ff c ((by decide : ∀ c ∈ W_X2_writeRegister, c ∈ W_X5_beat_s1) c hc)
  have ff_X4_next_s1 : ∀ c ∈ W_X4_next_s1, fp c = false := fun c hc => ff c ((by decide : ∀ c ∈ W_X4_next_s1, c ∈ W_X5_beat_s1) c hc)
  have ff_X5_endPollBeat_s1 : ∀ c ∈ W_X5_endPollBeat_s1, fp c = false := fun c hc => ff c ((by decide : ∀ c ∈ W_X5_endPollBeat_s1, c ∈ W_X5_beat_s1) c hc)
  have ff_X5_pick : ∀ c ∈ W_X5_pick, fp c = false := fun c hc => ff c ((by decide : ∀ c ∈ W_X5_pick, c ∈ W_X5_beat_s1) c hc)
  have w289 : fp 289 = false := ff 289 (by decide)
  have w290 : fp 290 = false := ff 290 (by decide)
  have w325 : fp 325 = false := ff 325 (by decide)
  have w2432 : fp 2432 = false := ff 2432 (by decide)
  have b0 : 0 ≤ (h.1 4 1 0).toInt ∧ (h.1 4 1 0).toInt ≤ 48 := S.1 4 1 0
  have okb := part_ok S i1 (x := h.1 4 1 0) (by omega) (by omega)
  unfold okQ at okb
  unfold f_X5_beat
  have b1 : 0 ≤ (h.1 4 1 0).toInt ∧ (h.1 4 1 0).toInt ≤ 48 := (S).1 4 1 0
  have t2 : (1 : Int32).toInt = 1 := by decide
  have e_r1 := z_X3_part i1 (h.1 4 1 0) 1 h S  (by omega) (by omega)
  rw [e_r1, Option.bind_some]
  try dsimp only
  have t3 : (0 : Int32).toInt = 0 := by decide
  have e_r2 := z_X3_part i1 (h.1 4 1 0) 0 h S  (by omega) (by omega)
  rw [e_r2, Option.bind_some]
  try dsimp only
  by_cases q4 : (h.1 32 i1 (((h.1 4 1 0) * 6) + (0 : Int32)).toNatClampNeg) = 0
  · rw [if_pos q4]
    first | have hx_5 := i32_hi (h.1 32 i1 (((h.1 4 1 0) * 6) + (0 : Int32)).toNatClampNeg) | skip
    first | have hx_6 := i32_lo (h.1 32 i1 (((h.1 4 1 0) * 6) + (0 : Int32)).toNatClampNeg) | skip
    first | have f7 : (h.1 32 i1 (((h.1 4 1 0) * 6) + (0 : Int32)).toNatClampNeg : Int32).toInt = (0 : Int32).toInt := congrArg Int32.toInt q4 | skip
    obtain ⟨r4, e_r4, S_r4, fr_r4⟩ := y_X2_readRegister (h.1 32 i1 (((h.1 4 1 0) * 6) + (1 : Int32)).toNatClampNeg) 1 h S ff_X2_readRegister (by omega)
    rw [e_r4, Option.bind_some]
    obtain ⟨g8, e_g8⟩ : ∃ g, uI r4.2 4 1 2 r4.1 = g := ⟨_, rfl⟩
    rw [e_g8]
    have S_g8 : SI fp b (m + 1) g8 := e_g8 ▸ (SI.f S_r4 rfl w290 rfl)
    have b9 : 0 ≤ (g8.1 4 1 0).toInt ∧ (g8.1 4 1 0).toInt ≤ 48 := (S_g8).1 4 1 0
    have l10 : (g8.1 4 1 0).toInt = (r4.2.1 4 1 0).toInt := by rw [← e_g8, uI_k _ rfl]
    have b11 : 0 ≤ (r4.2.1 4 1 0).toInt ∧ (r4.2.1 4 1 0).toInt ≤ 48 := (S_r4).1 4 1 0
    have l12 : (r4.2.1 4 1 0).toInt = (h.1 4 1 0).toInt := congrArg Int32.toInt (fr_r4 4 1 0 rfl).1
    obtain ⟨r5, e_r5, S_r5⟩ := z_X4_next_s1  g8 S_g8 ff_X4_next_s1 (by omega)
    rw [e_r5, Option.bind_some]
    exact ⟨_, rfl, S_r5⟩
  · rw [if_neg q4]
    first | have hx_13 := i32_hi (h.1 32 i1 (((h.1 4 1 0) * 6) + (0 : Int32)).toNatClampNeg) | skip
    first | have hx_14 := i32_lo (h.1 32 i1 (((h.1 4 1 0) * 6) + (0 : Int32)).toNatClampNeg) | skip
    first | have f15 : (h.1 32 i1 (((h.1 4 1 0) * 6) + (0 : Int32)).toNatClampNeg : Int32).toInt ≠ (0 : Int32).toInt := ti_ne q4 | skip
    by_cases q16 : (h.1 32 i1 (((h.1 4 1 0) * 6) + (0 : Int32)).toNatClampNeg) = 1
    · rw [if_pos q16]
      first | have f17 : (h.1 32 i1 (((h.1 4 1 0) * 6) + (0 : Int32)).toNatClampNeg : Int32).toInt = (1 : Int32).toInt := congrArg Int32.toInt q16 | skip
      obtain ⟨⟨r7v, r7h⟩, e_r7, (hh_r7 : r7h = h)⟩ := z_X5_numberToWrite_s1 i1 h S  pr0 (by omega)
      replace hh_r7 := hh_r7.symm
      subst hh_r7
      rw [e_r7, Option.bind_some]
      try dsimp only
      have q18 : mIn (h.1 32 i1 (((h.1 4 1 0) * 6) + (1 : Int32)).toNatClampNeg) 8 = true := (mIn_bd (by omega) (by omega))
      rw [if_pos q18]
      obtain ⟨g19, e_g19⟩ : ∃ g, uI h 38 0 (h.1 32 i1 (((h.1 4 1 0) * 6) + (1 : Int32)).toNatClampNeg).toNatClampNeg (r7v &&& (h.1 30 0 (h.1 32 i1 (((h.1 4 1 0) * 6) + (1 : Int32)).toNatClampNeg).toNatClampNeg)) = g := ⟨_, rfl⟩
      rw [e_g19]
      have S_g19 : SI fp b m g19 := e_g19 ▸ (SI.f S rfl w2432 rfl)
      obtain ⟨r9, e_r9, S_r9, fr_r9⟩ := y_X2_writeRegister (h.1 32 i1 (((h.1 4 1 0) * 6) + (1 : Int32)).toNatClampNeg) r7v g19 S_g19 ff_X2_writeRegister (by omega)
      rw [e_r9, Option.bind_some]
      have b20 : 0 ≤ (r9.1 4 1 0).toInt ∧ (r9.1 4 1 0).toInt ≤ 48 := (S_r9).1 4 1 0
      have l21 : (r9.1 4 1 0).toInt = (g19.1 4 1 0).toInt := congrArg Int32.toInt (fr_r9 4 1 0 rfl).1
      have b22 : 0 ≤ (g19.1 4 1 0).toInt ∧ (g19.1 4 1 0).toInt ≤ 48 := (S_g19).1 4 1 0
      have l23 : (g19.1 4 1 0).toInt = (h.1 4 1 0).toInt := by rw [← e_g19, uI_t _ rfl]
      obtain ⟨r10, e_r10, S_r10⟩ := z_X4_next_s1  r9 S_r9 ff_X4_next_s1 (by omega)
      rw [e_r10, Option.bind_some]
      exact ⟨_, rfl, S_r10⟩
    · rw [if_neg q16]
      first | have f24 : (h.1 32 i1 (((h.1 4 1 0) * 6) + (0 : Int32)).toNatClampNeg : Int32).toInt ≠ (1 : Int32).toInt := ti_ne q16 | skip
      by_cases q25 : (h.1 32 i1 (((h.1 4 1 0) * 6) + (0 : Int32)).toNatClampNeg) = 2
      · rw [if_pos q25]
        have t26 : (2 : Int32).toInt = 2 := by decide
        first | have f27 : (h.1 32 i1 (((h.1 4 1 0) * 6) + (0 : Int32)).toNatClampNeg : Int32).toInt = (2 : Int32).toInt := congrArg Int32.toInt q25 | skip
        obtain ⟨r12, e_r12, S_r12, fr_r12⟩ := y_X2_readRegister (h.1 32 i1 (((h.1 4 1 0) * 6) + (1 : Int32)).toNatClampNeg) 1 h S ff_X2_readRegister (by omega)
        rw [e_r12, Option.bind_some]
        obtain ⟨g28, e_g28⟩ : ∃ g, uI r12.2 4 1 2 r12.1 = g := ⟨_, rfl⟩
        rw [e_g28]
        have S_g28 : SI fp b (m + 1) g28 := e_g28 ▸ (SI.f S_r12 rfl w290 rfl)
        have b29 : 0 ≤ (g28.1 4 1 0).toInt ∧ (g28.1 4 1 0).toInt ≤ 48 := (S_g28).1 4 1 0
        have l30 : (g28.1 4 1 0).toInt = (r12.2.1 4 1 0).toInt := by rw [← e_g28, uI_k _ rfl]
        have b31 : 0 ≤ (r12.2.1 4 1 0).toInt ∧ (r12.2.1 4 1 0).toInt ≤ 48 := (S_r12).1 4 1 0
        have l32 : (r12.2.1 4 1 0).toInt = (h.1 4 1 0).toInt := congrArg Int32.toInt (fr_r12 4 1 0 rfl).1
        obtain ⟨r13, e_r13, S_r13⟩ := z_X5_endPollBeat_s1 i1 g28 S_g28 ff_X5_endPollBeat_s1 (by omega)
        rw [e_r13, Option.bind_some]
        exact ⟨_, rfl, S_r13⟩
      · rw [if_neg q25]
        have t33 : (2 : Int32).toInt = 2 := by decide
        first | have f34 : (h.1 32 i1 (((h.1 4 1 0) * 6) + (0 : Int32)).toNatClampNeg : Int32).toInt ≠ (2 : Int32).toInt := ti_ne q25 | skip
        by_cases q35 : (h.1 32 i1 (((h.1 4 1 0) * 6) + (0 : Int32)).toNatClampNeg) = 3
        · rw [if_pos q35]
          have t36 : (3 : Int32).toInt = 3 := by decide
          first | have f37 : (h.1 32 i1 (((h.1 4 1 0) * 6) + (0 : Int32)).toNatClampNeg : Int32).toInt = (3 : Int32).toInt := congrArg Int32.toInt q35 | skip
          obtain ⟨r15, e_r15, S_r15, fr_r15⟩ := y_X2_tick  h S ff_X2_tick 
          rw [e_r15, Option.bind_some]
          refine let_ex (fun h16 e_h16 => ?_)
          have S_h16 : SI fp b (m + 1) h16 := e_h16 ▸ (SI.f S_r15 rfl w289 rfl)
          by_cases q38 : (h16.1 4 1 1) < (h.1 32 i1 (((h.1 4 1 0) * 6) + (1 : Int32)).toNatClampNeg)
          · rw [if_pos q38]
            have l39 : (r15.1 4 1 1).toInt = (h.1 4 1 1).toInt := congrArg Int32.toInt (fr_r15 4 1 1 rfl).1
            first | have o40 : ((r15.1 4 1 1) + 1 : Int32).toInt = (r15.1 4 1 1 : Int32).toInt + (1 : Int32).toInt := ti_add (by omega) (by omega) | skip
            have l41 : (h16.1 4 1 1).toInt = ((r15.1 4 1 1) + 1 : Int32).toInt := by rw [← e_h16, uI_s']
            first | have hx_42 := i32_hi (h16.1 4 1 1) | skip
            first | have hx_43 := i32_lo (h16.1 4 1 1) | skip
            first | have hx_44 := i32_hi (h.1 32 i1 (((h.1 4 1 0) * 6) + (1 : Int32)).toNatClampNeg) | skip
            first | have hx_45 := i32_lo (h.1 32 i1 (((h.1 4 1 0) * 6) + (1 : Int32)).toNatClampNeg) | skip
            first | have f46 : (h16.1 4 1 1 : Int32).toInt < (h.1 32 i1 (((h.1 4 1 0) * 6) + (1 : Int32)).toNatClampNeg : Int32).toInt := Int32.lt_iff_toInt_lt.mp q38 | skip
            exact ⟨_, rfl, S_h16⟩
          · rw [if_neg q38]
            have l47 : (r15.1 4 1 1).toInt = (h.1 4 1 1).toInt := congrArg Int32.toInt (fr_r15 4 1 1 rfl).1
            first | have o48 : ((r15.1 4 1 1) + 1 : Int32).toInt = (r15.1 4 1 1 : Int32).toInt + (1 : Int32).toInt := ti_add (by omega) (by omega) | skip
            have l49 : (h16.1 4 1 1).toInt = ((r15.1 4 1 1) + 1 : Int32).toInt := by rw [← e_h16, uI_s']
            first | have hx_50 := i32_hi (h16.1 4 1 1) | skip
            first | have hx_51 := i32_lo (h16.1 4 1 1) | skip
            first | have hx_52 := i32_hi (h.1 32 i1 (((h.1 4 1 0) * 6) + (1 : Int32)).toNatClampNeg) | skip
            first | have hx_53 := i32_lo (h.1 32 i1 (((h.1 4 1 0) * 6) + (1 : Int32)).toNatClampNeg) | skip
            first | have f54 : (h.1 32 i1 (((h.1 4 1 0) * 6) + (1 : Int32)).toNatClampNeg : Int32).toInt ≤ (h16.1 4 1 1 : Int32).toInt := Int32.le_iff_toInt_le.mp (Int32.not_lt.mp q38) | skip
            have b55 : 0 ≤ (h16.1 4 1 0).toInt ∧ (h16.1 4 1 0).toInt ≤ 48 := (S_h16).1 4 1 0
            have l56 : (h16.1 4 1 0).toInt = (r15.1 4 1 0).toInt := by rw [← e_h16, uI_k _ rfl]
            have b57 : 0 ≤ (r15.1 4 1 0).toInt ∧ (r15.1 4 1 0).toInt ≤ 48 := (S_r15).1 4 1 0
            have l58 : (r15.1 4 1 0).toInt = (h.1 4 1 0).toInt := congrArg Int32.toInt (fr_r15 4 1 0 rfl).1
            obtain ⟨r18, e_r18, S_r18⟩ := z_X4_next_s1  h16 S_h16 ff_X4_next_s1 (by omega)
            rw [e_r18, Option.bind_some]
            exact ⟨_, rfl, S_r18⟩
        · rw [if_neg q35]
          have t59 : (3 : Int32).toInt = 3 := by decide
          first | have f60 : (h.1 32 i1 (((h.1 4 1 0) * 6) + (0 : Int32)).toNatClampNeg : Int32).toInt ≠ (3 : Int32).toInt := ti_ne q35 | skip
          by_cases q61 : (h.1 32 i1 (((h.1 4 1 0) * 6) + (0 : Int32)).toNatClampNeg) = 4
          · rw [if_pos q61]
            have t62 : (4 : Int32).toInt = 4 := by decide
            first | have f63 : (h.1 32 i1 (((h.1 4 1 0) * 6) + (0 : Int32)).toNatClampNeg : Int32).toInt = (4 : Int32).toInt := congrArg Int32.toInt q61 | skip
            obtain ⟨r20, e_r20, S_r20, fr_r20⟩ := y_X5_pick (h.1 32 i1 (((h.1 4 1 0) * 6) + (1 : Int32)).toNatClampNeg) (h.1 4 1 2) h S ff_X5_pick (by omega)
            rw [e_r20, Option.bind_some]
            have b64 : 0 ≤ (r20.1 4 1 0).toInt ∧ (r20.1 4 1 0).toInt ≤ 48 := (S_r20).1 4 1 0
            have l65 : (r20.1 4 1 0).toInt = (h.1 4 1 0).toInt := congrArg Int32.toInt (fr_r20 4 1 0 rfl).1
            obtain ⟨r21, e_r21, S_r21⟩ := z_X4_next_s1  r20 S_r20 ff_X4_next_s1 (by omega)
            rw [e_r21, Option.bind_some]
            exact ⟨_, rfl, (SI.mono S_r21 (by omega))⟩
          · rw [if_neg q61]
            have t66 : (4 : Int32).toInt = 4 := by decide
            first | have f67 : (h.1 32 i1 (((h.1 4 1 0) * 6) + (0 : Int32)).toNatClampNeg : Int32).toInt ≠ (4 : Int32).toInt := ti_ne q61 | skip
            rw [e_r2, Option.bind_some]
            dsimp only
            by_cases q68 : (h.1 32 i1 (((h.1 4 1 0) * 6) + (0 : Int32)).toNatClampNeg) = 5
            · rw [if_pos q68]
              have t69 : (5 : Int32).toInt = 5 := by decide
              first | have f70 : (h.1 32 i1 (((h.1 4 1 0) * 6) + (0 : Int32)).toNatClampNeg : Int32).toInt = (5 : Int32).toInt := congrArg Int32.toInt q68 | skip
              have w_71 : 0 ≤ (1 : Int32).toInt ∧ (1 : Int32).toInt ≤ 1 := by omega
              obtain ⟨g72, e_g72⟩ : ∃ g, uI h 5 0 5 1 = g := ⟨_, rfl⟩
              rw [e_g72]
              have S_g72 : SI fp b m g72 := e_g72 ▸ (SI.u S rfl w325 w_71)
              have b73 : 0 ≤ (g72.1 4 1 0).toInt ∧ (g72.1 4 1 0).toInt ≤ 48 := (S_g72).1 4 1 0
              have l74 : (g72.1 4 1 0).toInt = (h.1 4 1 0).toInt := by rw [← e_g72, uI_t _ rfl]
              obtain ⟨r25, e_r25, S_r25⟩ := z_X4_next_s1  g72 S_g72 ff_X4_next_s1 (by omega)
              rw [e_r25, Option.bind_some]
              exact ⟨_, rfl, (SI.mono S_r25 (by omega))⟩
            · rw [if_neg q68]
              have t75 : (5 : Int32).toInt = 5 := by decide
              first | have f76 : (h.1 32 i1 (((h.1 4 1 0) * 6) + (0 : Int32)).toNatClampNeg : Int32).toInt ≠ (5 : Int32).toInt := ti_ne q68 | skip
              have w_77 : 0 ≤ (0 : Int32).toInt ∧ (0 : Int32).toInt ≤ 1 := by omega
              obtain ⟨g78, e_g78⟩ : ∃ g, uI h 5 0 5 0 = g := ⟨_, rfl⟩
              rw [e_g78]
              have S_g78 : SI fp b m g78 := e_g78 ▸ (SI.u S rfl w325 w_77)
              have b79 : 0 ≤ (g78.1 4 1 0).toInt ∧ (g78.1 4 1 0).toInt ≤ 48 := (S_g78).1 4 1 0
              have l80 : (g78.1 4 1 0).toInt = (h.1 4 1 0).toInt := by rw [← e_g78, uI_t _ rfl]
              obtain ⟨r24, e_r24, S_r24⟩ := z_X4_next_s1  g78 S_g78 ff_X4_next_s1 (by omega)
              rw [e_r24, Option.bind_some]
              exact ⟨_, rfl, (SI.mono S_r24 (by omega))⟩
def W_X5_serve_64 : List Nat := [288, 289, 290, 291, 325, 521, 522, 523, 525, 526, 527, 2112, 2176, 2240, 2304, 2368, 2432, 2496, 2560, 2624]
set_option maxHeartbeats 400000 in
theorem z_X5_serve_64 {fp : Nat → Bool} {b : mH} {m : Nat} {P : mH → Prop} (k : Int32 → Int32 → Int32 → mH → Option (mH)) (j3 : Nat) (v1 : Int32) (v4 : Int32) (ff : ∀ c ∈ W_X5_serve_64, fp c = false)  (hk : ∀ (v5 : Int32) (h : mH), SI fp b (m + 1 * v5.toInt.toNat) h → 0 ≤ v5.toInt → v5.toInt ≤ 1008 → ∃ r, k v1 v4 v5 h = some r ∧ P r) : ∀ (n : Nat) (v5 : Int32) (h : mH), SI fp b (m + 1 * v5.toInt.toNat) h → 0 ≤ v5.toInt → v5.toInt ≤ 1008 → 2147483648 - v5.toInt < n → ∃ r, f_X5_serve_64 k j3 n v1 v4 v5 h = some r ∧ P r := by
  have ff_X5_beat_s1 : ∀ c ∈ W_X5_beat_s1, fp c = false := fun c hc => ff c ((by decide : ∀ c ∈ W_X5_beat_s1, c ∈ W_X5_serve_64) c hc)
  intro n
  induction n with
  | zero =>
    intro v5 h S iv0 iv1 hm
    have hz := i32_hi v5
    omega
  | succ n ih =>
    intro v5 h S iv0 iv1 hm
    rw [f_X5_serve_64]
    by_cases q1 : v5 < 1008
    · rw [if_pos q1]
      have t2 : (1008 : Int32).toInt = 1008 := by decide
      first | have hx_3 := i32_hi (v5) | skip
      first | have hx_4 := i32_lo (v5) | skip
      first | have f5 : (v5 : Int32).toInt < (1008 : Int32).toInt := Int32.lt_iff_toInt_lt.mp q1 | skip
      obtain ⟨⟨r9v, r9h⟩, e_r9, (hh_r9 : r9h = h), p_r9_0, p_r9_1⟩ := z_X4_goesOn_s1 j3 h S  
      replace hh_r9 := hh_r9.symm
      subst hh_r9
      dsimp only at p_r9_0 p_r9_1
      have bb_r9 := bool_bd p_r9_0
      rw [e_r9, Option.bind_some]
      try dsimp only
      by_cases q6 : r9v = 0
      · rw [if_pos q6]
        have t7 : (0 : Int32).toInt = 0 := by decide
        first | have hx_8 := i32_hi (r9v) | skip
        first | have hx_9 := i32_lo (r9v) | skip
        first | have f10 : (r9v : Int32).toInt = (0 : Int32).toInt := congrArg Int32.toInt q6 | skip
        exact hk v5 h S iv0 iv1
      · rw [if_neg q6]
        have t11 : (0 : Int32).toInt = 0 := by decide
        first | have hx_12 := i32_hi (r9v) | skip
        first | have hx_13 := i32_lo (r9v) | skip
        first | have f14 : (r9v : Int32).toInt ≠ (0 : Int32).toInt := ti_ne q6 | skip
        have b15 : 0 ≤ (h.1 4 1 0).toInt ∧ (h.1 4 1 0).toInt ≤ 48 := (S).1 4 1 0
        obtain ⟨r11, e_r11, S_r11⟩ := z_X5_beat_s1 j3 h S ff_X5_beat_s1 (by omega)
        rw [e_r11, Option.bind_some]
        have t16 : (1 : Int32).toInt = 1 := by decide
        first | have o17 : (v5 + 1 : Int32).toInt = (v5 : Int32).toInt + (1 : Int32).toInt := ti_add (by omega) (by omega) | skip
        exact ih (v5 + 1) r11 (SI.mono S_r11 (by omega)) (by omega) (by omega) (by omega)
    · rw [if_neg q1]
      have t18 : (1008 : Int32).toInt = 1008 := by decide
      first | have hx_19 := i32_hi (v5) | skip
      first | have hx_20 := i32_lo (v5) | skip
      first | have f21 : (1008 : Int32).toInt ≤ (v5 : Int32).toInt := Int32.le_iff_toInt_le.mp (Int32.not_lt.mp q1) | skip
      exact hk v5 h S iv0 iv1
def W_X5_serve_2 : List Nat := [288, 289, 290, 291, 325, 521, 522, 523, 524, 525, 526, 527, 2112, 2176, 2240, 2304, 2368, 2432, 2496, 2560, 2624]
set_option maxHeartbeats 400000 in
theorem z_X5_serve_2 {fp : Nat → Bool} {b : mH} {m : Nat} {P : mH → Prop} (k : Int32 → mH → Option (mH))   (ff : ∀ c ∈ W_X5_serve_2, fp c = false)  (hk : ∀ (v1 : Int32) (h : mH), SI fp b (m + 1008 * v1.toInt.toNat) h → 0 ≤ v1.toInt → v1.toInt ≤ 8 → ∃ r, k v1 h = some r ∧ P r) (he : ∀ rh : mH, SI fp b (m + 8064) rh → P rh) : ∀ (n : Nat) (v1 : Int32) (h : mH), SI fp b (m + 1008 * v1.toInt.toNat) h → 0 ≤ v1.toInt → v1.toInt ≤ 8 → 2147483648 - v1.toInt < n → ∃ r, f_X5_serve_2 k  n v1 h = some r ∧ P r := by
  have ff_X4_start_s1 : ∀ c ∈ W_X4_start_s1, fp c = false := fun c hc => ff c ((by decide : ∀ c ∈ W_X4_start_s1, c ∈ W_X5_serve_2) c hc)
  have ff_X5_serve_64 : ∀ c ∈ W_X5_serve_64, fp c = false := fun c hc => ff c ((by decide : ∀ c ∈ W_X5_serve_64, c ∈ W_X5_serve_2) c hc)
  have w523 : fp 523 = false := ff 523 (by decide)
  have w524 : fp 524 = false := ff 524 (by decide)
  intro n
  induction n with
  | zero =>
    intro v1 h S iv0 iv1 hm
    have hz := i32_hi v1
    omega
  | succ n ih =>
    intro v1 h S iv0 iv1 hm
    rw [f_X5_serve_2]
    by_cases q1 : v1 < 8
    · rw [if_pos q1]
      have t2 : (8 : Int32).toInt = 8 := by decide
      first | have hx_3 := i32_hi (v1) | skip
      first | have hx_4 := i32_lo (v1) | skip
      first | have f5 : (v1 : Int32).toInt < (8 : Int32).toInt := Int32.lt_iff_toInt_lt.mp q1 | skip
      by_cases q6 : (h.1 5 0 5) = 0
      · rw [if_pos q6]
        have b7 : 0 ≤ (h.1 5 0 5).toInt ∧ (h.1 5 0 5).toInt ≤ 1 := (S).1 5 0 5
        have t8 : (0 : Int32).toInt = 0 := by decide
        first | have hx_9 := i32_hi (h.1 5 0 5) | skip
        first | have hx_10 := i32_lo (h.1 5 0 5) | skip
        first | have f11 : (h.1 5 0 5 : Int32).toInt = (0 : Int32).toInt := congrArg Int32.toInt q6 | skip
        obtain ⟨⟨r3v, r3h⟩, e_r3, (hh_r3 : r3h = h)⟩ := z_X5_calledAct  h S  
        replace hh_r3 := hh_r3.symm
        subst hh_r3
        rw [e_r3, Option.bind_some]
        try dsimp only
        obtain ⟨⟨r4v, r4h⟩, e_r4, (hh_r4 : r4h = h), p_r4_0, p_r4_1⟩ := z_X1_hasAct r3v h S  
        replace hh_r4 := hh_r4.symm
        subst hh_r4
        dsimp only at p_r4_0 p_r4_1
        have bb_r4 := bool_bd p_r4_0
        rw [e_r4, Option.bind_some]
        try dsimp only
        by_cases q12 : r4v = 0
        · rw [if_pos q12]
          first | have hx_13 := i32_hi (r4v) | skip
          first | have hx_14 := i32_lo (r4v) | skip
          first | have f15 : (r4v : Int32).toInt = (0 : Int32).toInt := congrArg Int32.toInt q12 | skip
          exact ⟨_, rfl, he  h (SI.mono S (by omega)) ⟩
        · rw [if_neg q12]
          first | have hx_16 := i32_hi (r4v) | skip
          first | have hx_17 := i32_lo (r4v) | skip
          first | have f18 : (r4v : Int32).toInt ≠ (0 : Int32).toInt := ti_ne q12 | skip
          have q19 : mIn r3v 6 = true := (mIn_bd (by omega) (by omega))
          rw [if_pos q19]
          obtain ⟨r7, e_r7, S_r7⟩ := z_X4_start_s1  h S ff_X4_start_s1 
          rw [e_r7, Option.bind_some]
          refine z_X5_serve_64 (m := (m + 1008 * v1.toInt.toNat)) _ r3v.toNatClampNeg v1 (h.1 8 0 11) ff_X5_serve_64  (fun u14 h15 S_h15 y20 y21 => ?_)  mFu 0 r7 (SI.mono S_r7 (by omega)) (by omega) (by omega) (by have := mFu_big; omega)
          try dsimp only
          refine let_ex (fun h16 e_h16 => ?_)
          have S_h16 : SI fp b ((m + 1008 * v1.toInt.toNat) + 1 * u14.toInt.toNat) h16 := e_h16 ▸ (SI.f S_h15 rfl w523 rfl)
          have t22 : (1 : Int32).toInt = 1 := by decide
          first | have o23 : (v1 + 1 : Int32).toInt = (v1 : Int32).toInt + (1 : Int32).toInt := ti_add (by omega) (by omega) | skip
          exact ih (v1 + 1) (uI h16 8 0 12 ((h16.1 8 0 12) + 1)) (SI.mono (SI.f S_h16 rfl w524 rfl) (by omega)) (by omega) (by omega) (by omega)
      · rw [if_neg q6]
        have b24 : 0 ≤ (h.1 5 0 5).toInt ∧ (h.1 5 0 5).toInt ≤ 1 := (S).1 5 0 5
        have t25 : (0 : Int32).toInt = 0 := by decide
        first | have hx_26 := i32_hi (h.1 5 0 5) | skip
        first | have hx_27 := i32_lo (h.1 5 0 5) | skip
        first | have f28 : (h.1 5 0 5 : Int32).toInt ≠ (0 : Int32).toInt := ti_ne q6 | skip
        exact hk v1 h S iv0 iv1
    · rw [if_neg q1]
      have t29 : (8 : Int32).toInt = 8 := by decide
      first | have hx_30 := i32_hi (v1) | skip
      first | have hx_31 := i32_lo (v1) | skip
      first | have f32 : (8 : Int32).toInt ≤ (v1 : Int32).toInt := Int32.le_iff_toInt_le.mp (Int32.not_lt.mp q1) | skip
      exact hk v1 h S iv0 iv1
def W_X5_serve : List Nat := [288, 289, 290, 291, 325, 521, 522, 523, 524, 525, 526, 527, 2112, 2176, 2240, 2304, 2368, 2432, 2496, 2560, 2624]
set_option maxHeartbeats 400000 in
theorem z_X5_serve {fp : Nat → Bool} {b : mH} {m : Nat}  (h : mH) (S : SI fp b m h) (ff : ∀ c ∈ W_X5_serve, fp c = false)  : ∃ r, f_X5_serve h = some r ∧ SI fp b (m + 8064) r := by
  have ff_X5_serve_2 : ∀ c ∈ W_X5_serve_2, fp c = false := fun c hc => ff c ((by decide : ∀ c ∈ W_X5_serve_2, c ∈ W_X5_serve) c hc)
  unfold f_X5_serve
  have t1 : (0 : Int32).toInt = 0 := by decide
  refine z_X5_serve_2 (m := m) _   ff_X5_serve_2  (fun u17 h18 S_h18 y2 y3 => ?_) (fun rh SS  => SS.mono (by omega)) mFu 0 h (SI.mono S (by omega)) (by omega) (by omega) (by have := mFu_big; omega)
  try dsimp only
  exact ⟨_, rfl, (SI.mono S_h18 (by omega))⟩
set_option maxHeartbeats 400000 in
theorem y_X5_serve {fp : Nat → Bool} {b : mH} {m : Nat}  (h : mH) (S : SI fp b m h) (ff : ∀ c ∈ W_X5_serve, fp c = false)  : ∃ r, f_X5_serve h = some r ∧ SI fp b (m + 8064) r ∧ fz (fun c => !(W_X5_serve.contains c)) h r := by
  obtain ⟨r, e1, s1⟩ := z_X5_serve (fp := fun c => fp c || !(W_X5_serve.contains c)) (b := h) (m := 0)  h (S.re _) (fun c hc => Bool.or_eq_false_iff.mpr ⟨ff c hc, by rw [List.contains_iff_mem.mpr hc]; rfl⟩) 
  refine ⟨r, e1, SI.mono (S.back s1 (fun c hc => Bool.or_eq_true_iff.mpr (Or.inl hc))) (by omega), fun t i k hc => s1.2.2.1 t i k (Bool.or_eq_true_iff.mpr (Or.inr hc))⟩
def W_X5_runAct_27 : List Nat := [256, 257, 258, 259, 288, 289, 290, 291, 325, 521, 522, 523, 524, 525, 526, 527, 2112, 2176, 2240, 2304, 2368, 2432, 2496, 2560, 2624]
set_option maxHeartbeats 400000 in
theorem z_X5_runAct_27 {fp : Nat → Bool} {b : mH} {m : Nat} {P : Int32 × mH → Prop} (k : Int32 → mH → Option (Int32 × mH)) (j2 : Nat)  (ff : ∀ c ∈ W_X5_runAct_27, fp c = false)  (hk : ∀ (v3 : Int32) (h : mH), SI fp b (m + 8065 * v3.toInt.toNat) h → 0 ≤ v3.toInt → v3.toInt ≤ 1008 → ∃ r, k v3 h = some r ∧ P r) : ∀ (n : Nat) (v3 : Int32) (h : mH), SI fp b (m + 8065 * v3.toInt.toNat) h → 0 ≤ v3.toInt → v3.toInt ≤ 1008 → 2147483648 - v3.toInt < n → ∃ r, f_X5_runAct_27 k j2 n v3 h = some r ∧ P r := by
  have ff_X5_beat_s0 : ∀ c ∈ W_X5_beat_s0, fp c = false := fun c hc => ff c ((by decide : ∀ c ∈ W_X5_beat_s0, c ∈ W_X5_runAct_27) c hc)
  have ff_X5_serve : ∀ c ∈ W_X5_serve, fp c = false := fun c hc => ff c ((by decide : ∀ c ∈ W_X5_serve, c ∈ W_X5_runAct_27) c hc)
  intro n
  induction n with
  | zero =>
    intro v3 h S iv0 iv1 hm
    have hz := i32_hi v3
    omega
  | succ n ih =>
    intro v3 h S iv0 iv1 hm
    rw [f_X5_runAct_27]
    by_cases q1 : v3 < 1008
    · rw [if_pos q1]
      have t2 : (1008 : Int32).toInt = 1008 := by decide
      first | have hx_3 := i32_hi (v3) | skip
      first | have hx_4 := i32_lo (v3) | skip
      first | have f5 : (v3 : Int32).toInt < (1008 : Int32).toInt := Int32.lt_iff_toInt_lt.mp q1 | skip
      obtain ⟨⟨r4v, r4h⟩, e_r4, (hh_r4 : r4h = h), p_r4_0, p_r4_1⟩ := z_X4_goesOn_s0 j2 h S  
      replace hh_r4 := hh_r4.symm
      subst hh_r4
      dsimp only at p_r4_0 p_r4_1
      have bb_r4 := bool_bd p_r4_0
      rw [e_r4, Option.bind_some]
      try dsimp only
      by_cases q6 : r4v = 0
      · rw [if_pos q6]
        have t7 : (0 : Int32).toInt = 0 := by decide
        first | have hx_8 := i32_hi (r4v) | skip
        first | have hx_9 := i32_lo (r4v) | skip
        first | have f10 : (r4v : Int32).toInt = (0 : Int32).toInt := congrArg Int32.toInt q6 | skip
        exact hk v3 h S iv0 iv1
      · rw [if_neg q6]
        have t11 : (0 : Int32).toInt = 0 := by decide
        first | have hx_12 := i32_hi (r4v) | skip
        first | have hx_13 := i32_lo (r4v) | skip
        first | have f14 : (r4v : Int32).toInt ≠ (0 : Int32).toInt := ti_ne q6 | skip
        obtain ⟨r6, e_r6, S_r6, fr_r6⟩ := y_X5_serve  h S ff_X5_serve 
        rw [e_r6, Option.bind_some]
        have b15 : 0 ≤ (r6.1 4 0 0).toInt ∧ (r6.1 4 0 0).toInt ≤ 48 := (S_r6).1 4 0 0
        have l16 : (r6.1 4 0 0).toInt = (h.1 4 0 0).toInt := congrArg Int32.toInt (fr_r6 4 0 0 rfl).1
        have b17 : 0 ≤ (h.1 4 0 0).toInt ∧ (h.1 4 0 0).toInt ≤ 48 := (S).1 4 0 0
        obtain ⟨r7, e_r7, S_r7⟩ := z_X5_beat_s0 j2 r6 S_r6 ff_X5_beat_s0 (by omega)
        rw [e_r7, Option.bind_some]
        have t18 : (1 : Int32).toInt = 1 := by decide
        first | have o19 : (v3 + 1 : Int32).toInt = (v3 : Int32).toInt + (1 : Int32).toInt := ti_add (by omega) (by omega) | skip
        exact ih (v3 + 1) r7 (SI.mono S_r7 (by omega)) (by omega) (by omega) (by omega)
    · rw [if_neg q1]
      have t20 : (1008 : Int32).toInt = 1008 := by decide
      first | have hx_21 := i32_hi (v3) | skip
      first | have hx_22 := i32_lo (v3) | skip
      first | have f23 : (1008 : Int32).toInt ≤ (v3 : Int32).toInt := Int32.le_iff_toInt_le.mp (Int32.not_lt.mp q1) | skip
      exact hk v3 h S iv0 iv1
def W_X5_runAct : List Nat := [256, 257, 258, 259, 288, 289, 290, 291, 325, 521, 522, 523, 524, 525, 526, 527, 2112, 2176, 2240, 2304, 2368, 2432, 2496, 2560, 2624]
set_option maxHeartbeats 400000 in
theorem z_X5_runAct {fp : Nat → Bool} {b : mH} {m : Nat} (x1 : Int32) (h : mH) (S : SI fp b m h) (ff : ∀ c ∈ W_X5_runAct, fp c = false) (pr0 : (0 ≤ x1.toInt ∧ x1.toInt < 6)) : ∃ r, f_X5_runAct x1 h = some r ∧ SI fp b (m + 8145648) r.2 ∧ (r.1 = 0 ∨ r.1 = 1) := by
  have ff_X4_start_s0 : ∀ c ∈ W_X4_start_s0, fp c = false := fun c hc => ff c ((by decide : ∀ c ∈ W_X4_start_s0, c ∈ W_X5_runAct) c hc)
  have ff_X5_runAct_27 : ∀ c ∈ W_X5_runAct_27, fp c = false := fun c hc => ff c ((by decide : ∀ c ∈ W_X5_runAct_27, c ∈ W_X5_runAct) c hc)
  have ff_X5_serve : ∀ c ∈ W_X5_serve, fp c = false := fun c hc => ff c ((by decide : ∀ c ∈ W_X5_serve, c ∈ W_X5_runAct) c hc)
  have w325 : fp 325 = false := ff 325 (by decide)
  unfold f_X5_runAct
  have q1 : mIn x1 6 = true := (mIn_bd (by omega) (by omega))
  rw [if_pos q1]
  have t2 : (0 : Int32).toInt = 0 := by decide
  have w_3 : 0 ≤ (0 : Int32).toInt ∧ (0 : Int32).toInt ≤ 1 := by omega
  obtain ⟨g4, e_g4⟩ : ∃ g, uI h 5 0 5 0 = g := ⟨_, rfl⟩
  rw [e_g4]
  have S_g4 : SI fp b m g4 := e_g4 ▸ (SI.u S rfl w325 w_3)
  obtain ⟨r2, e_r2, S_r2⟩ := z_X4_start_s0  g4 S_g4 ff_X4_start_s0 
  rw [e_r2, Option.bind_some]
  refine z_X5_runAct_27 (m := m) _ x1.toNatClampNeg  ff_X5_runAct_27  (fun u8 h9 S_h9 y5 y6 => ?_)  mFu 0 r2 (SI.mono S_r2 (by omega)) (by omega) (by omega) (by have := mFu_big; omega)
  try dsimp only
  have w_7 : 0 ≤ (0 : Int32).toInt ∧ (0 : Int32).toInt ≤ 1 := by omega
  obtain ⟨g8, e_g8⟩ : ∃ g, uI h9 5 0 5 0 = g := ⟨_, rfl⟩
  rw [e_g8]
  have S_g8 : SI fp b (m + 8065 * u8.toInt.toNat) g8 := e_g8 ▸ (SI.u S_h9 rfl w325 w_7)
  obtain ⟨r10, e_r10, S_r10, fr_r10⟩ := y_X5_serve  g8 S_g8 ff_X5_serve 
  rw [e_r10, Option.bind_some]
  by_cases q9 : (r10.1 4 0 3) = 0
  · rw [if_pos q9]
    have b10 : 0 ≤ (r10.1 4 0 3).toInt ∧ (r10.1 4 0 3).toInt ≤ 1 := (S_r10).1 4 0 3
    have l11 : (r10.1 4 0 3).toInt = (g8.1 4 0 3).toInt := congrArg Int32.toInt (fr_r10 4 0 3 rfl).1
    have b12 : 0 ≤ (g8.1 4 0 3).toInt ∧ (g8.1 4 0 3).toInt ≤ 1 := (S_g8).1 4 0 3
    have l13 : (g8.1 4 0 3).toInt = (h9.1 4 0 3).toInt := by rw [← e_g8, uI_t _ rfl]
    have b14 : 0 ≤ (h9.1 4 0 3).toInt ∧ (h9.1 4 0 3).toInt ≤ 1 := (S_h9).1 4 0 3
    first | have hx_15 := i32_hi (r10.1 4 0 3) | skip
    first | have hx_16 := i32_lo (r10.1 4 0 3) | skip
    first | have f17 : (r10.1 4 0 3 : Int32).toInt = (0 : Int32).toInt := congrArg Int32.toInt q9 | skip
    have t18 : (1 : Int32).toInt = 1 := by decide
    exact ⟨_, rfl, (SI.mono S_r10 (by omega)), (Or.inr rfl)⟩
  · rw [if_neg q9]
    have b19 : 0 ≤ (r10.1 4 0 3).toInt ∧ (r10.1 4 0 3).toInt ≤ 1 := (S_r10).1 4 0 3
    have l20 : (r10.1 4 0 3).toInt = (g8.1 4 0 3).toInt := congrArg Int32.toInt (fr_r10 4 0 3 rfl).1
    have b21 : 0 ≤ (g8.1 4 0 3).toInt ∧ (g8.1 4 0 3).toInt ≤ 1 := (S_g8).1 4 0 3
    have l22 : (g8.1 4 0 3).toInt = (h9.1 4 0 3).toInt := by rw [← e_g8, uI_t _ rfl]
    have b23 : 0 ≤ (h9.1 4 0 3).toInt ∧ (h9.1 4 0 3).toInt ≤ 1 := (S_h9).1 4 0 3
    first | have hx_24 := i32_hi (r10.1 4 0 3) | skip
    first | have hx_25 := i32_lo (r10.1 4 0 3) | skip
    first | have f26 : (r10.1 4 0 3 : Int32).toInt ≠ (0 : Int32).toInt := ti_ne q9 | skip
    exact ⟨_, rfl, (SI.mono S_r10 (by omega)), (Or.inl rfl)⟩
set_option maxHeartbeats 400000 in
theorem y_X5_runAct {fp : Nat → Bool} {b : mH} {m : Nat} (x1 : Int32) (h : mH) (S : SI fp b m h) (ff : ∀ c ∈ W_X5_runAct, fp c = false) (pr0 : (0 ≤ x1.toInt ∧ x1.toInt < 6)) : ∃ r, f_X5_runAct x1 h = some r ∧ SI fp b (m + 8145648) r.2 ∧ (r.1 = 0 ∨ r.1 = 1) ∧ fz (fun c => !(W_X5_runAct.contains c)) h r.2 ∧ tkC h 8145648 r.2 := by
  obtain ⟨r, e1, s1, q0⟩ := z_X5_runAct (fp := fun c => fp c || !(W_X5_runAct.contains c)) (b := h) (m := 0) x1 h (S.re _) (fun c hc => Bool.or_eq_false_iff.mpr ⟨ff c hc, by rw [List.contains_iff_mem.mpr hc]; rfl⟩) pr0
  refine ⟨r, e1, SI.mono (S.back s1 (fun c hc => Bool.or_eq_true_iff.mpr (Or.inl hc))) (by omega), q0, fun t i k hc => s1.2.2.1 t i k (Bool.or_eq_true_iff.mpr (Or.inr hc)), (s1.mono (Nat.le_of_eq (Nat.zero_add 8145648))).2.2.2.1 (Bool.or_eq_true_iff.mpr (Or.inr (by decide)))⟩
def W_X11_run : List Nat := [73, 193, 194, 195, 196, 197, 256, 257, 258, 259, 288, 289, 290, 291, 325, 521, 522, 523, 524, 525, 526, 527, 2048, 2112, 2176, 2240, 2304, 2368, 2432, 2496, 2560, 2624]
set_option maxHeartbeats 400000 in
theorem z_X11_run {fp : Nat → Bool} {b : mH} {m : Nat} (x1 : Int32) (h : mH) (S : SI fp b m h) (ff : ∀ c ∈ W_X11_run, fp c = false)  : ∃ r, f_X11_run x1 h = some r ∧ SI fp b (m + 8145648) r.2 := by
  have ff_X1_makeCode : ∀ c ∈ W_X1_makeCode, fp c = false := fun c hc => ff c ((by decide : ∀ c ∈ W_X1_makeCode, c ∈ W_X11_run) c hc)
  have ff_X5_runAct : ∀ c ∈ W_X5_runAct, fp c = false := fun c hc => ff c ((by decide : ∀ c ∈ W_X5_runAct, c ∈ W_X11_run) c hc)
  unfold f_X11_run
  obtain ⟨⟨r1v, r1h⟩, e_r1, (hh_r1 : r1h = h), p_r1_0, p_r1_1⟩ := z_X1_hasAct x1 h S  
  replace hh_r1 := hh_r1.symm
  subst hh_r1
  dsimp only at p_r1_0 p_r1_1
  have bb_r1 := bool_bd p_r1_0
  rw [e_r1, Option.bind_some]
  try dsimp only
  by_cases q1 : r1v = 0
  · rw [if_pos q1]
    have t2 : (0 : Int32).toInt = 0 := by decide
    first | have hx_3 := i32_hi (r1v) | skip
    first | have hx_4 := i32_lo (r1v) | skip
    first | have f5 : (r1v : Int32).toInt = (0 : Int32).toInt := congrArg Int32.toInt q1 | skip
    exact ⟨_, rfl, (SI.mono S (by omega))⟩
  · rw [if_neg q1]
    have t6 : (0 : Int32).toInt = 0 := by decide
    first | have hx_7 := i32_hi (r1v) | skip
    first | have hx_8 := i32_lo (r1v) | skip
    first | have f9 : (r1v : Int32).toInt ≠ (0 : Int32).toInt := ti_ne q1 | skip
    obtain ⟨r3, e_r3, S_r3, fr_r3⟩ := y_X1_makeCode  h S ff_X1_makeCode 
    rw [e_r3, Option.bind_some]
    obtain ⟨r4, e_r4, S_r4, p_r4_0, fr_r4, tk_r4⟩ := y_X5_runAct x1 r3 S_r3 ff_X5_runAct (by omega)
    rw [e_r4, Option.bind_some]
    have bb_r4 := bool_bd p_r4_0
    by_cases q10 : r4.1 = 0
    · rw [if_pos q10]
      first | have hx_11 := i32_hi (r4.1) | skip
      first | have hx_12 := i32_lo (r4.1) | skip
      first | have f13 : (r4.1 : Int32).toInt = (0 : Int32).toInt := congrArg Int32.toInt q10 | skip
      exact ⟨_, rfl, S_r4⟩
    · rw [if_neg q10]
      first | have hx_14 := i32_hi (r4.1) | skip
      first | have hx_15 := i32_lo (r4.1) | skip
      first | have f16 : (r4.1 : Int32).toInt ≠ (0 : Int32).toInt := ti_ne q10 | skip
      obtain ⟨⟨r6v, r6h⟩, e_r6, (hh_r6 : r6h = r4.2)⟩ := z_X11_nearestInt ((r4.2.2 8 0 10) - (r3.2 8 0 10)) r4.2 S_r4  
      replace hh_r6 := hh_r6.symm
      subst hh_r6
      rw [e_r6, Option.bind_some]
      try dsimp only
      exact ⟨_, rfl, S_r4⟩
def W_X11_read : List Nat := [521, 522, 2112, 2240, 2304, 2496, 2560, 2624]
set_option maxHeartbeats 400000 in
theorem z_X11_read {fp : Nat → Bool} {b : mH} {m : Nat} (x1 : Int32) (h : mH) (S : SI fp b m h) (ff : ∀ c ∈ W_X11_read, fp c = false)  : ∃ r, f_X11_read x1 h = some r ∧ SI fp b (m + 1) r.2 := by
  have ff_X2_readRegister : ∀ c ∈ W_X2_readRegister, fp c = false := fun c hc => ff c ((by decide : ∀ c ∈ W_X2_readRegister, c ∈ W_X11_read) c hc)
  unfold f_X11_read
  obtain ⟨⟨r1v, r1h⟩, e_r1, (hh_r1 : r1h = h), p_r1_0, p_r1_1⟩ := z_X1_hasRegister x1 h S  
  replace hh_r1 := hh_r1.symm
  subst hh_r1
  dsimp only at p_r1_0 p_r1_1
  have bb_r1 := bool_bd p_r1_0
  rw [e_r1, Option.bind_some]
  try dsimp only
  by_cases q1 : r1v = 0
  · rw [if_pos q1]
    have t2 : (0 : Int32).toInt = 0 := by decide
    first | have hx_3 := i32_hi (r1v) | skip
    first | have hx_4 := i32_lo (r1v) | skip
    first | have f5 : (r1v : Int32).toInt = (0 : Int32).toInt := congrArg Int32.toInt q1 | skip
    exact ⟨_, rfl, (SI.mono S (by omega))⟩
  · rw [if_neg q1]
    have t6 : (0 : Int32).toInt = 0 := by decide
    first | have hx_7 := i32_hi (r1v) | skip
    first | have hx_8 := i32_lo (r1v) | skip
    first | have f9 : (r1v : Int32).toInt ≠ (0 : Int32).toInt := ti_ne q1 | skip
    obtain ⟨r3, e_r3, S_r3, fr_r3⟩ := y_X2_readRegister x1 0 h S ff_X2_readRegister (by omega)
    rw [e_r3, Option.bind_some]
    exact ⟨_, rfl, S_r3⟩
def W_X11_write : List Nat := [521, 522, 525, 526, 527, 2112, 2176, 2240, 2368, 2496, 2560, 2624]
set_option maxHeartbeats 400000 in
theorem z_X11_write {fp : Nat → Bool} {b : mH} {m : Nat} (x1 : Int32) (x2 : Int32) (h : mH) (S : SI fp b m h) (ff : ∀ c ∈ W_X11_write, fp c = false)  : ∃ r, f_X11_write x1 x2 h = some r ∧ SI fp b (m + 1) r.2 := by
  have ff_X2_writeRegister : ∀ c ∈ W_X2_writeRegister, fp c = false := fun c hc => ff c ((by decide : ∀ c ∈ W_X2_writeRegister, c ∈ W_X11_write) c hc)
  unfold f_X11_write
  obtain ⟨⟨r1v, r1h⟩, e_r1, (hh_r1 : r1h = h), p_r1_0, p_r1_1⟩ := z_X1_hasRegister x1 h S  
  replace hh_r1 := hh_r1.symm
  subst hh_r1
  dsimp only at p_r1_0 p_r1_1
  have bb_r1 := bool_bd p_r1_0
  rw [e_r1, Option.bind_some]
  try dsimp only
  by_cases q1 : r1v = 0
  · rw [if_pos q1]
    have t2 : (0 : Int32).toInt = 0 := by decide
    first | have hx_3 := i32_hi (r1v) | skip
    first | have hx_4 := i32_lo (r1v) | skip
    first | have f5 : (r1v : Int32).toInt = (0 : Int32).toInt := congrArg Int32.toInt q1 | skip
    exact ⟨_, rfl, (SI.mono S (by omega))⟩
  · rw [if_neg q1]
    have t6 : (0 : Int32).toInt = 0 := by decide
    first | have hx_7 := i32_hi (r1v) | skip
    first | have hx_8 := i32_lo (r1v) | skip
    first | have f9 : (r1v : Int32).toInt ≠ (0 : Int32).toInt := ti_ne q1 | skip
    obtain ⟨⟨r3v, r3h⟩, e_r3, (hh_r3 : r3h = h), p_r3_0⟩ := z_X11_fits x2 16 h S  
    replace hh_r3 := hh_r3.symm
    subst hh_r3
    dsimp only at p_r3_0
    have bb_r3 := bool_bd p_r3_0
    rw [e_r3, Option.bind_some]
    try dsimp only
    by_cases q10 : r3v = 0
    · rw [if_pos q10]
      first | have hx_11 := i32_hi (r3v) | skip
      first | have hx_12 := i32_lo (r3v) | skip
      first | have f13 : (r3v : Int32).toInt = (0 : Int32).toInt := congrArg Int32.toInt q10 | skip
      exact ⟨_, rfl, (SI.mono S (by omega))⟩
    · rw [if_neg q10]
      first | have hx_14 := i32_hi (r3v) | skip
      first | have hx_15 := i32_lo (r3v) | skip
      first | have f16 : (r3v : Int32).toInt ≠ (0 : Int32).toInt := ti_ne q10 | skip
      obtain ⟨r5, e_r5, S_r5, fr_r5⟩ := y_X2_writeRegister x1 x2 h S ff_X2_writeRegister (by omega)
      rw [e_r5, Option.bind_some]
      obtain ⟨⟨r6v, r6h⟩, e_r6, (hh_r6 : r6h = r5)⟩ := z_X11_nearestInt (r5.2 8 0 10) r5 S_r5  
      replace hh_r6 := hh_r6.symm
      subst hh_r6
      rw [e_r6, Option.bind_some]
      try dsimp only
      exact ⟨_, rfl, S_r5⟩
def W_X11_wait_14 : List Nat := [521, 522, 2112, 2240, 2496, 2560, 2624]
set_option maxHeartbeats 400000 in
theorem z_X11_wait_14 {fp : Nat → Bool} {b : mH} {m : Nat} {P : Int32 × mH → Prop} (k : Int32 → Int32 → mH → Option (Int32 × mH))  (v1 : Int32) (ff : ∀ c ∈ W_X11_wait_14, fp c = false) (cp0 : v1.toInt ≤ 50) (hk : ∀ (v2 : Int32) (h : mH), SI fp b (m + 1 * v2.toInt.toNat) h → 0 ≤ v2.toInt → v2.toInt ≤ 50 → ∃ r, k v1 v2 h = some r ∧ P r) : ∀ (n : Nat) (v2 : Int32) (h : mH), SI fp b (m + 1 * v2.toInt.toNat) h → 0 ≤ v2.toInt → v2.toInt ≤ 50 → 2147483648 - v2.toInt < n → ∃ r, f_X11_wait_14 k  n v1 v2 h = some r ∧ P r := by
  have ff_X2_tick : ∀ c ∈ W_X2_tick, fp c = false := fun c hc => ff c ((by decide : ∀ c ∈ W_X2_tick, c ∈ W_X11_wait_14) c hc)
  intro n
  induction n with
  | zero =>
    intro v2 h S iv0 iv1 hm
    have hz := i32_hi v2
    omega
  | succ n ih =>
    intro v2 h S iv0 iv1 hm
    rw [f_X11_wait_14]
    by_cases q1 : v2 < v1
    · rw [if_pos q1]
      first | have hx_2 := i32_hi (v2) | skip
      first | have hx_3 := i32_lo (v2) | skip
      first | have hx_4 := i32_hi (v1) | skip
      first | have hx_5 := i32_lo (v1) | skip
      first | have f6 : (v2 : Int32).toInt < (v1 : Int32).toInt := Int32.lt_iff_toInt_lt.mp q1 | skip
      obtain ⟨r4, e_r4, S_r4, fr_r4⟩ := y_X2_tick  h S ff_X2_tick 
      rw [e_r4, Option.bind_some]
      have t7 : (1 : Int32).toInt = 1 := by decide
      first | have o8 : (v2 + 1 : Int32).toInt = (v2 : Int32).toInt + (1 : Int32).toInt := ti_add (by omega) (by omega) | skip
      exact ih (v2 + 1) r4 (SI.mono S_r4 (by omega)) (by omega) (by omega) (by omega)
    · rw [if_neg q1]
      first | have hx_9 := i32_hi (v2) | skip
      first | have hx_10 := i32_lo (v2) | skip
      first | have hx_11 := i32_hi (v1) | skip
      first | have hx_12 := i32_lo (v1) | skip
      first | have f13 : (v1 : Int32).toInt ≤ (v2 : Int32).toInt := Int32.le_iff_toInt_le.mp (Int32.not_lt.mp q1) | skip
      exact hk v2 h S iv0 iv1
def W_X11_wait : List Nat := [521, 522, 2112, 2240, 2496, 2560, 2624]
set_option maxHeartbeats 400000 in
theorem z_X11_wait {fp : Nat → Bool} {b : mH} {m : Nat} (x1 : Int32) (h : mH) (S : SI fp b m h) (ff : ∀ c ∈ W_X11_wait, fp c = false)  : ∃ r, f_X11_wait x1 h = some r ∧ SI fp b (m + 50) r.2 := by
  have ff_X11_wait_14 : ∀ c ∈ W_X11_wait_14, fp c = false := fun c hc => ff c ((by decide : ∀ c ∈ W_X11_wait_14, c ∈ W_X11_wait) c hc)
  unfold f_X11_wait
  by_cases q1 : x1 < 0
  · rw [if_pos q1]
    have t2 : (0 : Int32).toInt = 0 := by decide
    first | have hx_3 := i32_hi (x1) | skip
    first | have hx_4 := i32_lo (x1) | skip
    first | have f5 : (x1 : Int32).toInt < (0 : Int32).toInt := Int32.lt_iff_toInt_lt.mp q1 | skip
    exact ⟨_, rfl, (SI.mono S (by omega))⟩
  · rw [if_neg q1]
    have t6 : (0 : Int32).toInt = 0 := by decide
    first | have hx_7 := i32_hi (x1) | skip
    first | have hx_8 := i32_lo (x1) | skip
    first | have f9 : (0 : Int32).toInt ≤ (x1 : Int32).toInt := Int32.le_iff_toInt_le.mp (Int32.not_lt.mp q1) | skip
    by_cases q10 : x1 ≤ 50
    · rw [if_pos q10]
      have t11 : (50 : Int32).toInt = 50 := by decide
      first | have f12 : (x1 : Int32).toInt ≤ (50 : Int32).toInt := Int32.le_iff_toInt_le.mp q10 | skip
      refine z_X11_wait_14 (m := m) _  x1 ff_X11_wait_14 (by omega) (fun u6 h7 S_h7 y13 y14 => ?_)  mFu 0 h (SI.mono S (by omega)) (by omega) (by omega) (by have := mFu_big; omega)
      try dsimp only
      obtain ⟨⟨r8v, r8h⟩, e_r8, (hh_r8 : r8h = h7)⟩ := z_X11_nearestInt (h7.2 8 0 10) h7 S_h7  
      replace hh_r8 := hh_r8.symm
      subst hh_r8
      rw [e_r8, Option.bind_some]
      try dsimp only
      exact ⟨_, rfl, (SI.mono S_h7 (by omega))⟩
    · rw [if_neg q10]
      have t15 : (50 : Int32).toInt = 50 := by decide
      first | have f16 : (50 : Int32).toInt < (x1 : Int32).toInt := Int32.lt_iff_toInt_lt.mp (Int32.not_le.mp q10) | skip
      exact ⟨_, rfl, (SI.mono S (by omega))⟩
set_option maxHeartbeats 400000 in
theorem z_X11_peek {fp : Nat → Bool} {b : mH} {m : Nat} (x1 : Int32) (x2 : Int32) (h : mH) (S : SI fp b m h)   : ∃ r, f_X11_peek x1 x2 h = some r ∧ r.2 = h := by
  unfold f_X11_peek
  obtain ⟨⟨r1v, r1h⟩, e_r1, (hh_r1 : r1h = h), p_r1_0, p_r1_1⟩ := z_X1_hasField x1 h S  
  replace hh_r1 := hh_r1.symm
  subst hh_r1
  dsimp only at p_r1_0 p_r1_1
  have bb_r1 := bool_bd p_r1_0
  rw [e_r1, Option.bind_some]
  try dsimp only
  by_cases q1 : r1v = 0
  · rw [if_pos q1]
    have t2 : (0 : Int32).toInt = 0 := by decide
    first | have hx_3 := i32_hi (r1v) | skip
    first | have hx_4 := i32_lo (r1v) | skip
    first | have f5 : (r1v : Int32).toInt = (0 : Int32).toInt := congrArg Int32.toInt q1 | skip
    exact ⟨_, rfl, rfl⟩
  · rw [if_neg q1]
    have t6 : (0 : Int32).toInt = 0 := by decide
    first | have hx_7 := i32_hi (r1v) | skip
    first | have hx_8 := i32_lo (r1v) | skip
    first | have f9 : (r1v : Int32).toInt ≠ (0 : Int32).toInt := ti_ne q1 | skip
    by_cases q10 : x2 < 0
    · rw [if_pos q10]
      first | have hx_11 := i32_hi (x2) | skip
      first | have hx_12 := i32_lo (x2) | skip
      first | have f13 : (x2 : Int32).toInt < (0 : Int32).toInt := Int32.lt_iff_toInt_lt.mp q10 | skip
      exact ⟨_, rfl, rfl⟩
    · rw [if_neg q10]
      first | have hx_14 := i32_hi (x2) | skip
      first | have hx_15 := i32_lo (x2) | skip
      first | have f16 : (0 : Int32).toInt ≤ (x2 : Int32).toInt := Int32.le_iff_toInt_le.mp (Int32.not_lt.mp q10) | skip
      by_cases q17 : x2 ≤ 3
      · rw [if_pos q17]
        have t18 : (3 : Int32).toInt = 3 := by decide
        first | have f19 : (x2 : Int32).toInt ≤ (3 : Int32).toInt := Int32.le_iff_toInt_le.mp q17 | skip
        have q20 : mIn x1 24 = true := (mIn_bd (by omega) (by omega))
        rw [if_pos q20]
        by_cases q21 : x2 = 0
        · rw [if_pos q21]
          first | have f22 : (x2 : Int32).toInt = (0 : Int32).toInt := congrArg Int32.toInt q21 | skip
          exact ⟨_, rfl, rfl⟩
        · rw [if_neg q21]
          first | have f23 : (x2 : Int32).toInt ≠ (0 : Int32).toInt := ti_ne q21 | skip
          by_cases q24 : x2 = 1
          · rw [if_pos q24]
            have t25 : (1 : Int32).toInt = 1 := by decide
            first | have f26 : (x2 : Int32).toInt = (1 : Int32).toInt := congrArg Int32.toInt q24 | skip
            by_cases q27 : (h.1 6 x1.toNatClampNeg 3) = 5
            · rw [if_pos q27]
              have t28 : (5 : Int32).toInt = 5 := by decide
              first | have hx_29 := i32_hi (h.1 6 x1.toNatClampNeg 3) | skip
              first | have hx_30 := i32_lo (h.1 6 x1.toNatClampNeg 3) | skip
              first | have f31 : (h.1 6 x1.toNatClampNeg 3 : Int32).toInt = (5 : Int32).toInt := congrArg Int32.toInt q27 | skip
              exact ⟨_, rfl, rfl⟩
            · rw [if_neg q27]
              have t32 : (5 : Int32).toInt = 5 := by decide
              first | have hx_33 := i32_hi (h.1 6 x1.toNatClampNeg 3) | skip
              first | have hx_34 := i32_lo (h.1 6 x1.toNatClampNeg 3) | skip
              first | have f35 : (h.1 6 x1.toNatClampNeg 3 : Int32).toInt ≠ (5 : Int32).toInt := ti_ne q27 | skip
              exact ⟨_, rfl, rfl⟩
          · rw [if_neg q24]
            have t36 : (1 : Int32).toInt = 1 := by decide
            first | have f37 : (x2 : Int32).toInt ≠ (1 : Int32).toInt := ti_ne q24 | skip
            by_cases q38 : x2 = 2
            · rw [if_pos q38]
              have t39 : (2 : Int32).toInt = 2 := by decide
              first | have f40 : (x2 : Int32).toInt = (2 : Int32).toInt := congrArg Int32.toInt q38 | skip
              by_cases q41 : (h.1 6 x1.toNatClampNeg 3) = 4
              · rw [if_pos q41]
                have t42 : (4 : Int32).toInt = 4 := by decide
                first | have hx_43 := i32_hi (h.1 6 x1.toNatClampNeg 3) | skip
                first | have hx_44 := i32_lo (h.1 6 x1.toNatClampNeg 3) | skip
                first | have f45 : (h.1 6 x1.toNatClampNeg 3 : Int32).toInt = (4 : Int32).toInt := congrArg Int32.toInt q41 | skip
                exact ⟨_, rfl, rfl⟩
              · rw [if_neg q41]
                have t46 : (4 : Int32).toInt = 4 := by decide
                first | have hx_47 := i32_hi (h.1 6 x1.toNatClampNeg 3) | skip
                first | have hx_48 := i32_lo (h.1 6 x1.toNatClampNeg 3) | skip
                first | have f49 : (h.1 6 x1.toNatClampNeg 3 : Int32).toInt ≠ (4 : Int32).toInt := ti_ne q41 | skip
                exact ⟨_, rfl, rfl⟩
            · rw [if_neg q38]
              have t50 : (2 : Int32).toInt = 2 := by decide
              first | have f51 : (x2 : Int32).toInt ≠ (2 : Int32).toInt := ti_ne q38 | skip
              by_cases q52 : (h.1 6 x1.toNatClampNeg 3) = 3
              · rw [if_pos q52]
                first | have hx_53 := i32_hi (h.1 6 x1.toNatClampNeg 3) | skip
                first | have hx_54 := i32_lo (h.1 6 x1.toNatClampNeg 3) | skip
                first | have f55 : (h.1 6 x1.toNatClampNeg 3 : Int32).toInt = (3 : Int32).toInt := congrArg Int32.toInt q52 | skip
                exact ⟨_, rfl, rfl⟩
              · rw [if_neg q52]
                first | have hx_56 := i32_hi (h.1 6 x1.toNatClampNeg 3) | skip
                first | have hx_57 := i32_lo (h.1 6 x1.toNatClampNeg 3) | skip
                first | have f58 : (h.1 6 x1.toNatClampNeg 3 : Int32).toInt ≠ (3 : Int32).toInt := ti_ne q52 | skip
                exact ⟨_, rfl, rfl⟩
      · rw [if_neg q17]
        have t59 : (3 : Int32).toInt = 3 := by decide
        first | have f60 : (3 : Int32).toInt < (x2 : Int32).toInt := Int32.lt_iff_toInt_lt.mp (Int32.not_le.mp q17) | skip
        exact ⟨_, rfl, rfl⟩
set_option maxHeartbeats 400000 in
theorem z_X11_shadow {fp : Nat → Bool} {b : mH} {m : Nat} (x1 : Int32) (h : mH) (S : SI fp b m h)   : ∃ r, f_X11_shadow x1 h = some r ∧ r.2 = h := by
  unfold f_X11_shadow
  obtain ⟨⟨r1v, r1h⟩, e_r1, (hh_r1 : r1h = h), p_r1_0, p_r1_1⟩ := z_X1_hasRegister x1 h S  
  replace hh_r1 := hh_r1.symm
  subst hh_r1
  dsimp only at p_r1_0 p_r1_1
  have bb_r1 := bool_bd p_r1_0
  rw [e_r1, Option.bind_some]
  try dsimp only
  by_cases q1 : r1v = 0
  · rw [if_pos q1]
    have t2 : (0 : Int32).toInt = 0 := by decide
    first | have hx_3 := i32_hi (r1v) | skip
    first | have hx_4 := i32_lo (r1v) | skip
    first | have f5 : (r1v : Int32).toInt = (0 : Int32).toInt := congrArg Int32.toInt q1 | skip
    exact ⟨_, rfl, rfl⟩
  · rw [if_neg q1]
    have t6 : (0 : Int32).toInt = 0 := by decide
    first | have hx_7 := i32_hi (r1v) | skip
    first | have hx_8 := i32_lo (r1v) | skip
    first | have f9 : (r1v : Int32).toInt ≠ (0 : Int32).toInt := ti_ne q1 | skip
    have q10 : mIn x1 8 = true := (mIn_bd (by omega) (by omega))
    rw [if_pos q10]
    exact ⟨_, rfl, rfl⟩
set_option maxHeartbeats 400000 in
theorem z_X11_result {fp : Nat → Bool} {b : mH} {m : Nat}  (h : mH) (S : SI fp b m h)   : ∃ r, f_X11_result h = some r ∧ r.2 = h := by
  unfold f_X11_result
  exact ⟨_, rfl, rfl⟩
set_option maxHeartbeats 400000 in
theorem z_X11_breaks {fp : Nat → Bool} {b : mH} {m : Nat} (x1 : Int32) (h : mH) (S : SI fp b m h)   : ∃ r, f_X11_breaks x1 h = some r ∧ r.2 = h := by
  unfold f_X11_breaks
  by_cases q1 : x1 = 0
  · rw [if_pos q1]
    have t2 : (0 : Int32).toInt = 0 := by decide
    first | have hx_3 := i32_hi (x1) | skip
    first | have hx_4 := i32_lo (x1) | skip
    first | have f5 : (x1 : Int32).toInt = (0 : Int32).toInt := congrArg Int32.toInt q1 | skip
    obtain ⟨⟨r2v, r2h⟩, e_r2, (hh_r2 : r2h = h)⟩ := z_X11_nearestInt (h.2 8 0 13) h S  
    replace hh_r2 := hh_r2.symm
    subst hh_r2
    rw [e_r2, Option.bind_some]
    try dsimp only
    exact ⟨_, rfl, rfl⟩
  · rw [if_neg q1]
    have t6 : (0 : Int32).toInt = 0 := by decide
    first | have hx_7 := i32_hi (x1) | skip
    first | have hx_8 := i32_lo (x1) | skip
    first | have f9 : (x1 : Int32).toInt ≠ (0 : Int32).toInt := ti_ne q1 | skip
    by_cases q10 : x1 = 1
    · rw [if_pos q10]
      have t11 : (1 : Int32).toInt = 1 := by decide
      first | have f12 : (x1 : Int32).toInt = (1 : Int32).toInt := congrArg Int32.toInt q10 | skip
      by_cases q13 : (lg_cmp (h.2 8 0 13) 0) ≤ 0
      · rw [if_pos q13]
        exact ⟨_, rfl, rfl⟩
      · rw [if_neg q13]
        exact ⟨_, rfl, rfl⟩
    · rw [if_neg q10]
      have t14 : (1 : Int32).toInt = 1 := by decide
      first | have f15 : (x1 : Int32).toInt ≠ (1 : Int32).toInt := ti_ne q10 | skip
      by_cases q16 : x1 = 2
      · rw [if_pos q16]
        have t17 : (2 : Int32).toInt = 2 := by decide
        first | have f18 : (x1 : Int32).toInt = (2 : Int32).toInt := congrArg Int32.toInt q16 | skip
        by_cases q19 : (lg_cmp (h.2 8 0 13) 0) ≤ 0
        · rw [if_pos q19]
          exact ⟨_, rfl, rfl⟩
        · rw [if_neg q19]
          obtain ⟨⟨r7v, r7h⟩, e_r7, (hh_r7 : r7h = h)⟩ := z_X11_nearestInt (h.2 8 0 15) h S  
          replace hh_r7 := hh_r7.symm
          subst hh_r7
          rw [e_r7, Option.bind_some]
          try dsimp only
          exact ⟨_, rfl, rfl⟩
      · rw [if_neg q16]
        have t20 : (2 : Int32).toInt = 2 := by decide
        first | have f21 : (x1 : Int32).toInt ≠ (2 : Int32).toInt := ti_ne q16 | skip
        exact ⟨_, rfl, rfl⟩
theorem z_X0_lastSet_7 {fp : Nat → Bool} {b : mH} {m : Nat} {P : Int32 × mH → Prop} (k : Int32 → Int32 → mH → Option (Int32 × mH)) (j0 : Nat) (v1 : Int32) (h : mH) (S : SI fp b m h) (hk : ∀ v2 : Int32, (-1 ≤ v2.toInt ∧ v2.toInt < 12) → ∃ r, k v1 v2 h = some r ∧ P r) (he : ∀ rv : Int32, P (rv, h)) : ∀ (n : Nat) (v2 : Int32), (-1 ≤ v2.toInt ∧ v2.toInt < 12) → v2.toInt + 1 < n → ∃ r, f_X0_lastSet_7 k j0 n v1 v2 h = some r ∧ P r := by
  intro n
  induction n with
  | zero =>
    intro v2 iv hm
    omega
  | succ n ih =>
    intro v2 iv hm
    rw [f_X0_lastSet_7]
    have e0 : (0 : Int32).toInt = 0 := by decide
    have e1 : (-1 : Int32).toInt = -1 := by decide
    by_cases q : v2 < 0
    · rw [if_pos q]
      exact hk v2 iv
    · rw [if_neg q]
      have f1 := Int32.le_iff_toInt_le.mp (Int32.not_lt.mp q)
      have a1 : (v2 + (-1)).toInt = v2.toInt + (-1 : Int32).toInt := ti_add (by omega) (by omega)
      rw [if_pos (mIn_bd (by omega) (by omega))]
      by_cases q1 : (h.1 20 j0 v2.toNatClampNeg) = 0
      · rw [if_pos q1]
        by_cases q2 : (h.1 21 j0 v2.toNatClampNeg) = v1
        · rw [if_pos q2]
          exact ⟨_, rfl, he _⟩
        · rw [if_neg q2]
          exact ih _ (by omega) (by omega)
      · rw [if_neg q1]
        exact ih _ (by omega) (by omega)
set_option maxHeartbeats 400000 in
theorem z_X0_lastSet {fp : Nat → Bool} {b : mH} {m : Nat} (i0 : Nat) (x1 : Int32) (h : mH) (S : SI fp b m h)   : ∃ r, f_X0_lastSet i0 x1 h = some r ∧ r.2 = h := by
  unfold f_X0_lastSet
  have b1 : 0 ≤ (h.1 0 i0 5).toInt ∧ (h.1 0 i0 5).toInt ≤ 12 := (S).1 0 i0 5
  have t2 : (1 : Int32).toInt = 1 := by decide
  first | have o3 : ((h.1 0 i0 5) - 1 : Int32).toInt = (h.1 0 i0 5 : Int32).toInt - (1 : Int32).toInt := ti_sub (by omega) (by omega) | skip
  refine z_X0_lastSet_7 _ i0 x1 h S  (fun u6 y4 => ?_) (fun rv  => rfl) mFu ((h.1 0 i0 5) - 1) (by omega) (by have := mFu_big; omega)
  try dsimp only
  exact ⟨_, rfl, rfl⟩
def W_X10_noteSets_2 : List Nat := [2752, 2816]
set_option maxHeartbeats 400000 in
theorem z_X10_noteSets_2 {fp : Nat → Bool} {b : mH} {m : Nat} {P : mH → Prop} (k : Int32 → mH → Option (mH)) (j1 : Nat) (j2 : Nat)  (ff : ∀ c ∈ W_X10_noteSets_2, fp c = false)  (hk : ∀ (v3 : Int32) (h : mH), SI fp b m h → 0 ≤ v3.toInt → ∃ r, k v3 h = some r ∧ P r) : ∀ (n : Nat) (v3 : Int32) (h : mH), SI fp b m h → 0 ≤ v3.toInt → 2147483648 - v3.toInt < n → ∃ r, f_X10_noteSets_2 k j1 j2 n v3 h = some r ∧ P r := by
  have w2752 : fp 2752 = false := ff 2752 (by decide)
  have w2816 : fp 2816 = false := ff 2816 (by decide)
  intro n
  induction n with
  | zero =>
    intro v3 h S iv0 hm
    have hz := i32_hi v3
    omega
  | succ n ih =>
    intro v3 h S iv0 hm
    rw [f_X10_noteSets_2]
    by_cases q1 : v3 < (h.1 1 0 4)
    · rw [if_pos q1]
      have b2 : 0 ≤ (h.1 1 0 4).toInt ∧ (h.1 1 0 4).toInt ≤ 24 := (S).1 1 0 4
      first | have hx_3 := i32_hi (v3) | skip
      first | have hx_4 := i32_lo (v3) | skip
      first | have hx_5 := i32_hi (h.1 1 0 4) | skip
      first | have hx_6 := i32_lo (h.1 1 0 4) | skip
      first | have f7 : (v3 : Int32).toInt < (h.1 1 0 4 : Int32).toInt := Int32.lt_iff_toInt_lt.mp q1 | skip
      obtain ⟨⟨r2v, r2h⟩, e_r2, (hh_r2 : r2h = h)⟩ := z_X0_lastSet j1 v3 h S  
      replace hh_r2 := hh_r2.symm
      subst hh_r2
      rw [e_r2, Option.bind_some]
      try dsimp only
      have q8 : mIn v3 24 = true := (mIn_bd (by omega) (by omega))
      rw [if_pos q8]
      obtain ⟨g9, e_g9⟩ : ∃ g, uI h 43 0 v3.toNatClampNeg r2v = g := ⟨_, rfl⟩
      rw [e_g9]
      have S_g9 : SI fp b m g9 := e_g9 ▸ (SI.f S rfl w2752 rfl)
      obtain ⟨⟨r4v, r4h⟩, e_r4, (hh_r4 : r4h = g9)⟩ := z_X0_lastSet j2 v3 g9 S_g9  
      replace hh_r4 := hh_r4.symm
      subst hh_r4
      rw [e_r4, Option.bind_some]
      try dsimp only
      have t10 : (1 : Int32).toInt = 1 := by decide
      first | have o11 : (v3 + 1 : Int32).toInt = (v3 : Int32).toInt + (1 : Int32).toInt := ti_add (by omega) (by omega) | skip
      exact ih (v3 + 1) (uI g9 44 0 v3.toNatClampNeg r4v) (SI.f S_g9 rfl w2816 rfl) (by omega) (by omega)
    · rw [if_neg q1]
      have b12 : 0 ≤ (h.1 1 0 4).toInt ∧ (h.1 1 0 4).toInt ≤ 24 := (S).1 1 0 4
      first | have hx_13 := i32_hi (v3) | skip
      first | have hx_14 := i32_lo (v3) | skip
      first | have hx_15 := i32_hi (h.1 1 0 4) | skip
      first | have hx_16 := i32_lo (h.1 1 0 4) | skip
      first | have f17 : (h.1 1 0 4 : Int32).toInt ≤ (v3 : Int32).toInt := Int32.le_iff_toInt_le.mp (Int32.not_lt.mp q1) | skip
      exact hk v3 h S iv0
def W_X10_noteSets : List Nat := [2752, 2816]
set_option maxHeartbeats 400000 in
theorem z_X10_noteSets {fp : Nat → Bool} {b : mH} {m : Nat} (i1 : Nat) (i2 : Nat) (h : mH) (S : SI fp b m h) (ff : ∀ c ∈ W_X10_noteSets, fp c = false)  : ∃ r, f_X10_noteSets i1 i2 h = some r ∧ SI fp b m r := by
  have ff_X10_noteSets_2 : ∀ c ∈ W_X10_noteSets_2, fp c = false := fun c hc => ff c ((by decide : ∀ c ∈ W_X10_noteSets_2, c ∈ W_X10_noteSets) c hc)
  unfold f_X10_noteSets
  have t1 : (0 : Int32).toInt = 0 := by decide
  refine z_X10_noteSets_2 (m := m) _ i1 i2  ff_X10_noteSets_2  (fun u5 h6 S_h6 y2 => ?_)  mFu 0 h S (by omega) (by have := mFu_big; omega)
  try dsimp only
  exact ⟨_, rfl, S_h6⟩
set_option maxHeartbeats 400000 in
theorem z_X10_isRight {fp : Nat → Bool} {b : mH} {m : Nat} (x1 : Int32) (h : mH) (S : SI fp b m h)  (pr0 : (0 ≤ x1.toInt ∧ x1.toInt < 24)) : ∃ r, f_X10_isRight x1 h = some r ∧ r.2 = h ∧ (r.1 = 0 ∨ r.1 = 1) := by
  unfold f_X10_isRight
  have q1 : mIn x1 24 = true := (mIn_bd (by omega) (by omega))
  rw [if_pos q1]
  by_cases q2 : (h.1 6 x1.toNatClampNeg 3) = 0
  · rw [if_pos q2]
    have t3 : (0 : Int32).toInt = 0 := by decide
    first | have hx_4 := i32_hi (h.1 6 x1.toNatClampNeg 3) | skip
    first | have hx_5 := i32_lo (h.1 6 x1.toNatClampNeg 3) | skip
    first | have f6 : (h.1 6 x1.toNatClampNeg 3 : Int32).toInt = (0 : Int32).toInt := congrArg Int32.toInt q2 | skip
    by_cases q7 : (h.1 43 0 x1.toNatClampNeg) < 0
    · rw [if_pos q7]
      first | have hx_8 := i32_hi (h.1 43 0 x1.toNatClampNeg) | skip
      first | have hx_9 := i32_lo (h.1 43 0 x1.toNatClampNeg) | skip
      first | have f10 : (h.1 43 0 x1.toNatClampNeg : Int32).toInt < (0 : Int32).toInt := Int32.lt_iff_toInt_lt.mp q7 | skip
      by_cases q11 : (h.1 44 0 x1.toNatClampNeg) < 0
      · rw [if_pos q11]
        first | have hx_12 := i32_hi (h.1 44 0 x1.toNatClampNeg) | skip
        first | have hx_13 := i32_lo (h.1 44 0 x1.toNatClampNeg) | skip
        first | have f14 : (h.1 44 0 x1.toNatClampNeg : Int32).toInt < (0 : Int32).toInt := Int32.lt_iff_toInt_lt.mp q11 | skip
        by_cases q15 : (h.1 33 0 x1.toNatClampNeg) = (h.1 33 1 x1.toNatClampNeg)
        · rw [if_pos q15]
          first | have hx_16 := i32_hi (h.1 33 0 x1.toNatClampNeg) | skip
          first | have hx_17 := i32_lo (h.1 33 0 x1.toNatClampNeg) | skip
          first | have hx_18 := i32_hi (h.1 33 1 x1.toNatClampNeg) | skip
          first | have hx_19 := i32_lo (h.1 33 1 x1.toNatClampNeg) | skip
          first | have f20 : (h.1 33 0 x1.toNatClampNeg : Int32).toInt = (h.1 33 1 x1.toNatClampNeg : Int32).toInt := congrArg Int32.toInt q15 | skip
          have t21 : (1 : Int32).toInt = 1 := by decide
          exact ⟨_, rfl, rfl, (Or.inr rfl)⟩
        · rw [if_neg q15]
          first | have hx_22 := i32_hi (h.1 33 0 x1.toNatClampNeg) | skip
          first | have hx_23 := i32_lo (h.1 33 0 x1.toNatClampNeg) | skip
          first | have hx_24 := i32_hi (h.1 33 1 x1.toNatClampNeg) | skip
          first | have hx_25 := i32_lo (h.1 33 1 x1.toNatClampNeg) | skip
          first | have f26 : (h.1 33 0 x1.toNatClampNeg : Int32).toInt ≠ (h.1 33 1 x1.toNatClampNeg : Int32).toInt := ti_ne q15 | skip
          exact ⟨_, rfl, rfl, (Or.inl rfl)⟩
      · rw [if_neg q11]
        first | have hx_27 := i32_hi (h.1 44 0 x1.toNatClampNeg) | skip
        first | have hx_28 := i32_lo (h.1 44 0 x1.toNatClampNeg) | skip
        first | have f29 : (0 : Int32).toInt ≤ (h.1 44 0 x1.toNatClampNeg : Int32).toInt := Int32.le_iff_toInt_le.mp (Int32.not_lt.mp q11) | skip
        by_cases q30 : (h.1 33 0 x1.toNatClampNeg) = (h.1 43 0 x1.toNatClampNeg)
        · rw [if_pos q30]
          first | have hx_31 := i32_hi (h.1 33 0 x1.toNatClampNeg) | skip
          first | have hx_32 := i32_lo (h.1 33 0 x1.toNatClampNeg) | skip
          first | have f33 : (h.1 33 0 x1.toNatClampNeg : Int32).toInt = (h.1 43 0 x1.toNatClampNeg : Int32).toInt := congrArg Int32.toInt q30 | skip
          have t34 : (1 : Int32).toInt = 1 := by decide
          exact ⟨_, rfl, rfl, (Or.inr rfl)⟩
        · rw [if_neg q30]
          first | have hx_35 := i32_hi (h.1 33 0 x1.toNatClampNeg) | skip
          first | have hx_36 := i32_lo (h.1 33 0 x1.toNatClampNeg) | skip
          first | have f37 : (h.1 33 0 x1.toNatClampNeg : Int32).toInt ≠ (h.1 43 0 x1.toNatClampNeg : Int32).toInt := ti_ne q30 | skip
          by_cases q38 : (h.1 33 0 x1.toNatClampNeg) = (h.1 44 0 x1.toNatClampNeg)
          · rw [if_pos q38]
            first | have f39 : (h.1 33 0 x1.toNatClampNeg : Int32).toInt = (h.1 44 0 x1.toNatClampNeg : Int32).toInt := congrArg Int32.toInt q38 | skip
            have t40 : (1 : Int32).toInt = 1 := by decide
            exact ⟨_, rfl, rfl, (Or.inr rfl)⟩
          · rw [if_neg q38]
            first | have f41 : (h.1 33 0 x1.toNatClampNeg : Int32).toInt ≠ (h.1 44 0 x1.toNatClampNeg : Int32).toInt := ti_ne q38 | skip
            exact ⟨_, rfl, rfl, (Or.inl rfl)⟩
    · rw [if_neg q7]
      first | have hx_42 := i32_hi (h.1 43 0 x1.toNatClampNeg) | skip
      first | have hx_43 := i32_lo (h.1 43 0 x1.toNatClampNeg) | skip
      first | have f44 : (0 : Int32).toInt ≤ (h.1 43 0 x1.toNatClampNeg : Int32).toInt := Int32.le_iff_toInt_le.mp (Int32.not_lt.mp q7) | skip
      by_cases q45 : (h.1 33 0 x1.toNatClampNeg) = (h.1 43 0 x1.toNatClampNeg)
      · rw [if_pos q45]
        first | have hx_46 := i32_hi (h.1 33 0 x1.toNatClampNeg) | skip
        first | have hx_47 := i32_lo (h.1 33 0 x1.toNatClampNeg) | skip
        first | have f48 : (h.1 33 0 x1.toNatClampNeg : Int32).toInt = (h.1 43 0 x1.toNatClampNeg : Int32).toInt := congrArg Int32.toInt q45 | skip
        have t49 : (1 : Int32).toInt = 1 := by decide
        exact ⟨_, rfl, rfl, (Or.inr rfl)⟩
      · rw [if_neg q45]
        first | have hx_50 := i32_hi (h.1 33 0 x1.toNatClampNeg) | skip
        first | have hx_51 := i32_lo (h.1 33 0 x1.toNatClampNeg) | skip
        first | have f52 : (h.1 33 0 x1.toNatClampNeg : Int32).toInt ≠ (h.1 43 0 x1.toNatClampNeg : Int32).toInt := ti_ne q45 | skip
        by_cases q53 : (h.1 33 0 x1.toNatClampNeg) = (h.1 44 0 x1.toNatClampNeg)
        · rw [if_pos q53]
          first | have hx_54 := i32_hi (h.1 44 0 x1.toNatClampNeg) | skip
          first | have hx_55 := i32_lo (h.1 44 0 x1.toNatClampNeg) | skip
          first | have f56 : (h.1 33 0 x1.toNatClampNeg : Int32).toInt = (h.1 44 0 x1.toNatClampNeg : Int32).toInt := congrArg Int32.toInt q53 | skip
          have t57 : (1 : Int32).toInt = 1 := by decide
          exact ⟨_, rfl, rfl, (Or.inr rfl)⟩
        · rw [if_neg q53]
          first | have hx_58 := i32_hi (h.1 44 0 x1.toNatClampNeg) | skip
          first | have hx_59 := i32_lo (h.1 44 0 x1.toNatClampNeg) | skip
          first | have f60 : (h.1 33 0 x1.toNatClampNeg : Int32).toInt ≠ (h.1 44 0 x1.toNatClampNeg : Int32).toInt := ti_ne q53 | skip
          exact ⟨_, rfl, rfl, (Or.inl rfl)⟩
  · rw [if_neg q2]
    have t61 : (0 : Int32).toInt = 0 := by decide
    first | have hx_62 := i32_hi (h.1 6 x1.toNatClampNeg 3) | skip
    first | have hx_63 := i32_lo (h.1 6 x1.toNatClampNeg 3) | skip
    first | have f64 : (h.1 6 x1.toNatClampNeg 3 : Int32).toInt ≠ (0 : Int32).toInt := ti_ne q2 | skip
    by_cases q65 : (h.1 43 0 x1.toNatClampNeg) < 0
    · rw [if_pos q65]
      first | have hx_66 := i32_hi (h.1 43 0 x1.toNatClampNeg) | skip
      first | have hx_67 := i32_lo (h.1 43 0 x1.toNatClampNeg) | skip
      first | have f68 : (h.1 43 0 x1.toNatClampNeg : Int32).toInt < (0 : Int32).toInt := Int32.lt_iff_toInt_lt.mp q65 | skip
      by_cases q69 : (h.1 44 0 x1.toNatClampNeg) < 0
      · rw [if_pos q69]
        first | have hx_70 := i32_hi (h.1 44 0 x1.toNatClampNeg) | skip
        first | have hx_71 := i32_lo (h.1 44 0 x1.toNatClampNeg) | skip
        first | have f72 : (h.1 44 0 x1.toNatClampNeg : Int32).toInt < (0 : Int32).toInt := Int32.lt_iff_toInt_lt.mp q69 | skip
        by_cases q73 : (h.1 34 0 x1.toNatClampNeg) = (h.1 34 1 x1.toNatClampNeg)
        · rw [if_pos q73]
          first | have hx_74 := i32_hi (h.1 34 0 x1.toNatClampNeg) | skip
          first | have hx_75 := i32_lo (h.1 34 0 x1.toNatClampNeg) | skip
          first | have hx_76 := i32_hi (h.1 34 1 x1.toNatClampNeg) | skip
          first | have hx_77 := i32_lo (h.1 34 1 x1.toNatClampNeg) | skip
          first | have f78 : (h.1 34 0 x1.toNatClampNeg : Int32).toInt = (h.1 34 1 x1.toNatClampNeg : Int32).toInt := congrArg Int32.toInt q73 | skip
          have t79 : (1 : Int32).toInt = 1 := by decide
          exact ⟨_, rfl, rfl, (Or.inr rfl)⟩
        · rw [if_neg q73]
          first | have hx_80 := i32_hi (h.1 34 0 x1.toNatClampNeg) | skip
          first | have hx_81 := i32_lo (h.1 34 0 x1.toNatClampNeg) | skip
          first | have hx_82 := i32_hi (h.1 34 1 x1.toNatClampNeg) | skip
          first | have hx_83 := i32_lo (h.1 34 1 x1.toNatClampNeg) | skip
          first | have f84 : (h.1 34 0 x1.toNatClampNeg : Int32).toInt ≠ (h.1 34 1 x1.toNatClampNeg : Int32).toInt := ti_ne q73 | skip
          exact ⟨_, rfl, rfl, (Or.inl rfl)⟩
      · rw [if_neg q69]
        first | have hx_85 := i32_hi (h.1 44 0 x1.toNatClampNeg) | skip
        first | have hx_86 := i32_lo (h.1 44 0 x1.toNatClampNeg) | skip
        first | have f87 : (0 : Int32).toInt ≤ (h.1 44 0 x1.toNatClampNeg : Int32).toInt := Int32.le_iff_toInt_le.mp (Int32.not_lt.mp q69) | skip
        by_cases q88 : (h.1 34 0 x1.toNatClampNeg) = (h.1 43 0 x1.toNatClampNeg)
        · rw [if_pos q88]
          first | have hx_89 := i32_hi (h.1 34 0 x1.toNatClampNeg) | skip
          first | have hx_90 := i32_lo (h.1 34 0 x1.toNatClampNeg) | skip
          first | have f91 : (h.1 34 0 x1.toNatClampNeg : Int32).toInt = (h.1 43 0 x1.toNatClampNeg : Int32).toInt := congrArg Int32.toInt q88 | skip
          have t92 : (1 : Int32).toInt = 1 := by decide
          exact ⟨_, rfl, rfl, (Or.inr rfl)⟩
        · rw [if_neg q88]
          first | have hx_93 := i32_hi (h.1 34 0 x1.toNatClampNeg) | skip
          first | have hx_94 := i32_lo (h.1 34 0 x1.toNatClampNeg) | skip
          first | have f95 : (h.1 34 0 x1.toNatClampNeg : Int32).toInt ≠ (h.1 43 0 x1.toNatClampNeg : Int32).toInt := ti_ne q88 | skip
          by_cases q96 : (h.1 34 0 x1.toNatClampNeg) = (h.1 44 0 x1.toNatClampNeg)
          · rw [if_pos q96]
            first | have f97 : (h.1 34 0 x1.toNatClampNeg : Int32).toInt = (h.1 44 0 x1.toNatClampNeg : Int32).toInt := congrArg Int32.toInt q96 | skip
            have t98 : (1 : Int32).toInt = 1 := by decide
            exact ⟨_, rfl, rfl, (Or.inr rfl)⟩
          · rw [if_neg q96]
            first | have f99 : (h.1 34 0 x1.toNatClampNeg : Int32).toInt ≠ (h.1 44 0 x1.toNatClampNeg : Int32).toInt := ti_ne q96 | skip
            exact ⟨_, rfl, rfl, (Or.inl rfl)⟩
    · rw [if_neg q65]
      first | have hx_100 := i32_hi (h.1 43 0 x1.toNatClampNeg) | skip
      first | have hx_101 := i32_lo (h.1 43 0 x1.toNatClampNeg) | skip
      first | have f102 : (0 : Int32).toInt ≤ (h.1 43 0 x1.toNatClampNeg : Int32).toInt := Int32.le_iff_toInt_le.mp (Int32.not_lt.mp q65) | skip
      by_cases q103 : (h.1 34 0 x1.toNatClampNeg) = (h.1 43 0 x1.toNatClampNeg)
      · rw [if_pos q103]
        first | have hx_104 := i32_hi (h.1 34 0 x1.toNatClampNeg) | skip
        first | have hx_105 := i32_lo (h.1 34 0 x1.toNatClampNeg) | skip
        first | have f106 : (h.1 34 0 x1.toNatClampNeg : Int32).toInt = (h.1 43 0 x1.toNatClampNeg : Int32).toInt := congrArg Int32.toInt q103 | skip
        have t107 : (1 : Int32).toInt = 1 := by decide
        exact ⟨_, rfl, rfl, (Or.inr rfl)⟩
      · rw [if_neg q103]
        first | have hx_108 := i32_hi (h.1 34 0 x1.toNatClampNeg) | skip
        first | have hx_109 := i32_lo (h.1 34 0 x1.toNatClampNeg) | skip
        first | have f110 : (h.1 34 0 x1.toNatClampNeg : Int32).toInt ≠ (h.1 43 0 x1.toNatClampNeg : Int32).toInt := ti_ne q103 | skip
        by_cases q111 : (h.1 34 0 x1.toNatClampNeg) = (h.1 44 0 x1.toNatClampNeg)
        · rw [if_pos q111]
          first | have hx_112 := i32_hi (h.1 44 0 x1.toNatClampNeg) | skip
          first | have hx_113 := i32_lo (h.1 44 0 x1.toNatClampNeg) | skip
          first | have f114 : (h.1 34 0 x1.toNatClampNeg : Int32).toInt = (h.1 44 0 x1.toNatClampNeg : Int32).toInt := congrArg Int32.toInt q111 | skip
          have t115 : (1 : Int32).toInt = 1 := by decide
          exact ⟨_, rfl, rfl, (Or.inr rfl)⟩
        · rw [if_neg q111]
          first | have hx_116 := i32_hi (h.1 44 0 x1.toNatClampNeg) | skip
          first | have hx_117 := i32_lo (h.1 44 0 x1.toNatClampNeg) | skip
          first | have f118 : (h.1 34 0 x1.toNatClampNeg : Int32).toInt ≠ (h.1 44 0 x1.toNatClampNeg : Int32).toInt := ti_ne q111 | skip
          exact ⟨_, rfl, rfl, (Or.inl rfl)⟩
set_option maxHeartbeats 400000 in
theorem z_X10_wrongField_2 {fp : Nat → Bool} {b : mH} {m : Nat} {P : Int32 × mH → Prop} (k : Int32 → mH → Option (Int32 × mH))   (h : mH) (S : SI fp b m h)  (hk : ∀ (v1 : Int32), 0 ≤ v1.toInt → ∃ r, k v1 h = some r ∧ P r) (he : ∀ rv : Int32, P (rv, h)) : ∀ (n : Nat) (v1 : Int32), 0 ≤ v1.toInt → 2147483648 - v1.toInt < n → ∃ r, f_X10_wrongField_2 k  n v1 h = some r ∧ P r := by
  intro n
  induction n with
  | zero =>
    intro v1 iv0 hm
    have hz := i32_hi v1
    omega
  | succ n ih =>
    intro v1 iv0 hm
    rw [f_X10_wrongField_2]
    by_cases q1 : v1 < (h.1 1 0 4)
    · rw [if_pos q1]
      have b2 : 0 ≤ (h.1 1 0 4).toInt ∧ (h.1 1 0 4).toInt ≤ 24 := (S).1 1 0 4
      first | have hx_3 := i32_hi (v1) | skip
      first | have hx_4 := i32_lo (v1) | skip
      first | have hx_5 := i32_hi (h.1 1 0 4) | skip
      first | have hx_6 := i32_lo (h.1 1 0 4) | skip
      first | have f7 : (v1 : Int32).toInt < (h.1 1 0 4 : Int32).toInt := Int32.lt_iff_toInt_lt.mp q1 | skip
      have q8 : mIn v1 24 = true := (mIn_bd (by omega) (by omega))
      rw [if_pos q8]
      obtain ⟨⟨r3v, r3h⟩, e_r3, (hh_r3 : r3h = h), p_r3_0⟩ := z_X6_isKept v1.toNatClampNeg h S  
      replace hh_r3 := hh_r3.symm
      subst hh_r3
      dsimp only at p_r3_0
      have bb_r3 := bool_bd p_r3_0
      rw [e_r3, Option.bind_some]
      try dsimp only
      by_cases q9 : r3v = 0
      · rw [if_pos q9]
        have t10 : (0 : Int32).toInt = 0 := by decide
        first | have hx_11 := i32_hi (r3v) | skip
        first | have hx_12 := i32_lo (r3v) | skip
        first | have f13 : (r3v : Int32).toInt = (0 : Int32).toInt := congrArg Int32.toInt q9 | skip
        have t14 : (1 : Int32).toInt = 1 := by decide
        first | have o15 : (v1 + 1 : Int32).toInt = (v1 : Int32).toInt + (1 : Int32).toInt := ti_add (by omega) (by omega) | skip
        exact ih (v1 + 1) (by omega) (by omega)
      · rw [if_neg q9]
        have t16 : (0 : Int32).toInt = 0 := by decide
        first | have hx_17 := i32_hi (r3v) | skip
        first | have hx_18 := i32_lo (r3v) | skip
        first | have f19 : (r3v : Int32).toInt ≠ (0 : Int32).toInt := ti_ne q9 | skip
        obtain ⟨⟨r5v, r5h⟩, e_r5, (hh_r5 : r5h = h), p_r5_0⟩ := z_X10_isRight v1 h S  (by omega)
        replace hh_r5 := hh_r5.symm
        subst hh_r5
        dsimp only at p_r5_0
        have bb_r5 := bool_bd p_r5_0
        rw [e_r5, Option.bind_some]
        try dsimp only
        by_cases q20 : r5v = 0
        · rw [if_pos q20]
          first | have hx_21 := i32_hi (r5v) | skip
          first | have hx_22 := i32_lo (r5v) | skip
          first | have f23 : (r5v : Int32).toInt = (0 : Int32).toInt := congrArg Int32.toInt q20 | skip
          exact ⟨_, rfl, he v1 ⟩
        · rw [if_neg q20]
          first | have hx_24 := i32_hi (r5v) | skip
          first | have hx_25 := i32_lo (r5v) | skip
          first | have f26 : (r5v : Int32).toInt ≠ (0 : Int32).toInt := ti_ne q20 | skip
          have t27 : (1 : Int32).toInt = 1 := by decide
          first | have o28 : (v1 + 1 : Int32).toInt = (v1 : Int32).toInt + (1 : Int32).toInt := ti_add (by omega) (by omega) | skip
          exact ih (v1 + 1) (by omega) (by omega)
    · rw [if_neg q1]
      have b29 : 0 ≤ (h.1 1 0 4).toInt ∧ (h.1 1 0 4).toInt ≤ 24 := (S).1 1 0 4
      first | have hx_30 := i32_hi (v1) | skip
      first | have hx_31 := i32_lo (v1) | skip
      first | have hx_32 := i32_hi (h.1 1 0 4) | skip
      first | have hx_33 := i32_lo (h.1 1 0 4) | skip
      first | have f34 : (h.1 1 0 4 : Int32).toInt ≤ (v1 : Int32).toInt := Int32.le_iff_toInt_le.mp (Int32.not_lt.mp q1) | skip
      exact hk v1 iv0
set_option maxHeartbeats 400000 in
theorem z_X10_wrongField {fp : Nat → Bool} {b : mH} {m : Nat}  (h : mH) (S : SI fp b m h)   : ∃ r, f_X10_wrongField h = some r ∧ r.2 = h := by
  unfold f_X10_wrongField
  have t1 : (0 : Int32).toInt = 0 := by decide
  refine z_X10_wrongField_2 _   h S  (fun u7 y2 => ?_) (fun rv  => rfl) mFu 0 (by omega) (by have := mFu_big; omega)
  try dsimp only
  exact ⟨_, rfl, rfl⟩
set_option maxHeartbeats 400000 in
theorem z_X10_brokenRule {fp : Nat → Bool} {b : mH} {m : Nat} (x1 : Int32) (x2 : Int32) (h : mH) (S : SI fp b m h)   : ∃ r, f_X10_brokenRule x1 x2 h = some r ∧ r.2 = h := by
  unfold f_X10_brokenRule
  by_cases q1 : x1 = 0
  · rw [if_pos q1]
    have t2 : (0 : Int32).toInt = 0 := by decide
    first | have hx_3 := i32_hi (x1) | skip
    first | have hx_4 := i32_lo (x1) | skip
    first | have f5 : (x1 : Int32).toInt = (0 : Int32).toInt := congrArg Int32.toInt q1 | skip
    exact ⟨_, rfl, rfl⟩
  · rw [if_neg q1]
    have t6 : (0 : Int32).toInt = 0 := by decide
    first | have hx_7 := i32_hi (x1) | skip
    first | have hx_8 := i32_lo (x1) | skip
    first | have f9 : (x1 : Int32).toInt ≠ (0 : Int32).toInt := ti_ne q1 | skip
    by_cases q10 : (lg_cmp (h.2 8 0 13) (h.2 8 1 13)) ≤ 0
    · rw [if_pos q10]
      obtain ⟨⟨r3v, r3h⟩, e_r3, (hh_r3 : r3h = h)⟩ := z_X10_wrongField  h S  
      replace hh_r3 := hh_r3.symm
      subst hh_r3
      rw [e_r3, Option.bind_some]
      try dsimp only
      by_cases q11 : r3v = (-2)
      · rw [if_pos q11]
        have t12 : ((-2) : Int32).toInt = (-2) := by decide
        first | have hx_13 := i32_hi (r3v) | skip
        first | have hx_14 := i32_lo (r3v) | skip
        first | have f15 : (r3v : Int32).toInt = (-2 : Int32).toInt := congrArg Int32.toInt q11 | skip
        by_cases q16 : (h.1 8 0 12) = (x2 + 1)
        · rw [if_pos q16]
          have t17 : (1 : Int32).toInt = 1 := by decide
          first | have o18 : (x2 + 1 : Int32).toInt = (x2 : Int32).toInt + (1 : Int32).toInt := ti_add (by omega) (by omega) | skip
          first | have hx_19 := i32_hi (h.1 8 0 12) | skip
          first | have hx_20 := i32_lo (h.1 8 0 12) | skip
          first | have hx_21 := i32_hi (x2 + 1) | skip
          first | have hx_22 := i32_lo (x2 + 1) | skip
          first | have f23 : (h.1 8 0 12 : Int32).toInt = (x2 + 1 : Int32).toInt := congrArg Int32.toInt q16 | skip
          exact ⟨_, rfl, rfl⟩
        · rw [if_neg q16]
          have t24 : (1 : Int32).toInt = 1 := by decide
          first | have o25 : (x2 + 1 : Int32).toInt = (x2 : Int32).toInt + (1 : Int32).toInt := ti_add (by omega) (by omega) | skip
          first | have hx_26 := i32_hi (h.1 8 0 12) | skip
          first | have hx_27 := i32_lo (h.1 8 0 12) | skip
          first | have hx_28 := i32_hi (x2 + 1) | skip
          first | have hx_29 := i32_lo (x2 + 1) | skip
          first | have f30 : (h.1 8 0 12 : Int32).toInt ≠ (x2 + 1 : Int32).toInt := ti_ne q16 | skip
          exact ⟨_, rfl, rfl⟩
      · rw [if_neg q11]
        have t31 : ((-2) : Int32).toInt = (-2) := by decide
        first | have hx_32 := i32_hi (r3v) | skip
        first | have hx_33 := i32_lo (r3v) | skip
        first | have f34 : (r3v : Int32).toInt ≠ (-2 : Int32).toInt := ti_ne q11 | skip
        exact ⟨_, rfl, rfl⟩
    · rw [if_neg q10]
      exact ⟨_, rfl, rfl⟩
def W_X8_takeFrom : List Nat := [521, 522, 523, 524, 525, 526, 527, 553, 554, 555, 556, 557, 558, 559, 2112, 2176, 2240, 2304, 2368, 2432, 2496, 2560, 2624, 9998]
set_option maxHeartbeats 400000 in
theorem z_X8_takeFrom {fp : Nat → Bool} {b : mH} {m : Nat} (i0 : Nat) (i1 : Nat) (h : mH) (S : SI fp b m h) (ff : ∀ c ∈ W_X8_takeFrom, fp c = false)  : ∃ r, f_X8_takeFrom i0 i1 h = some r ∧ SI fp b m r := by
  have w521 : fp 521 = false := ff 521 (by decide)
  have w522 : fp 522 = false := ff 522 (by decide)
  have w523 : fp 523 = false := ff 523 (by decide)
  have w524 : fp 524 = false := ff 524 (by decide)
  have w525 : fp 525 = false := ff 525 (by decide)
  have w526 : fp 526 = false := ff 526 (by decide)
  have w527 : fp 527 = false := ff 527 (by decide)
  have w553 : fp 553 = false := ff 553 (by decide)
  have w554 : fp 554 = false := ff 554 (by decide)
  have w555 : fp 555 = false := ff 555 (by decide)
  have w556 : fp 556 = false := ff 556 (by decide)
  have w557 : fp 557 = false := ff 557 (by decide)
  have w558 : fp 558 = false := ff 558 (by decide)
  have w559 : fp 559 = false := ff 559 (by decide)
  have w2112 : fp 2112 = false := ff 2112 (by decide)
  have w2176 : fp 2176 = false := ff 2176 (by decide)
  have w2240 : fp 2240 = false := ff 2240 (by decide)
  have w2304 : fp 2304 = false := ff 2304 (by decide)
  have w2368 : fp 2368 = false := ff 2368 (by decide)
  have w2432 : fp 2432 = false := ff 2432 (by decide)
  have w2496 : fp 2496 = false := ff 2496 (by decide)
  have w2560 : fp 2560 = false := ff 2560 (by decide)
  have w2624 : fp 2624 = false := ff 2624 (by decide)
  have w9998 : fp 9998 = false := ff 9998 (by decide)
  unfold f_X8_takeFrom
  refine let_ex (fun h1 e_h1 => ?_)
  have S_h1 : SI fp b m h1 := e_h1 ▸ (SI.cp S rfl rfl (fun _ => w2112) (fun _ _ => rfl))
  refine let_ex (fun h2 e_h2 => ?_)
  have S_h2 : SI fp b m h2 := e_h2 ▸ (SI.cp S_h1 rfl rfl (fun _ => w2176) (fun _ _ => rfl))
  refine let_ex (fun h3 e_h3 => ?_)
  have S_h3 : SI fp b m h3 := e_h3 ▸ (SI.cp S_h2 rfl rfl (fun _ => w2240) (fun _ _ => rfl))
  refine let_ex (fun h4 e_h4 => ?_)
  have S_h4 : SI fp b m h4 := e_h4 ▸ (SI.cp S_h3 rfl rfl (fun _ => w2304) (fun _ _ => rfl))
  refine let_ex (fun h5 e_h5 => ?_)
  have S_h5 : SI fp b m h5 := e_h5 ▸ (SI.cj S_h4 rfl (fun _ => w2368))
  refine let_ex (fun h6 e_h6 => ?_)
  have S_h6 : SI fp b m h6 := e_h6 ▸ (SI.cp S_h5 rfl rfl (fun _ => w2432) (fun _ _ => rfl))
  refine let_ex (fun h7 e_h7 => ?_)
  have S_h7 : SI fp b m h7 := e_h7 ▸ (SI.cp S_h6 rfl rfl (fun _ => w2496) (fun _ _ => rfl))
  refine let_ex (fun h8 e_h8 => ?_)
  have S_h8 : SI fp b m h8 := e_h8 ▸ (SI.cp S_h7 rfl rfl (fun _ => w2560) (fun _ _ => rfl))
  refine let_ex (fun h9 e_h9 => ?_)
  have S_h9 : SI fp b m h9 := e_h9 ▸ (SI.cj S_h8 rfl (fun _ => w2624))
  have b1 : 0 ≤ (h9.1 8 i1 9).toInt ∧ (h9.1 8 i1 9).toInt ≤ 16 := (S_h9).1 8 i1 9
  have w_2 : 0 ≤ (h9.1 8 i1 9 : Int32).toInt ∧ (h9.1 8 i1 9 : Int32).toInt ≤ 16 := by omega
  refine let_ex (fun h10 e_h10 => ?_)
  have S_h10 : SI fp b m h10 := e_h10 ▸ (SI.u S_h9 rfl (ky8 w521 w553) w_2)
  refine let_ex (fun h11 e_h11 => ?_)
  have S_h11 : SI fp b m h11 := e_h11 ▸ (SI.jn S_h10 w9998 (ky8 w522 w554))
  refine let_ex (fun h12 e_h12 => ?_)
  have S_h12 : SI fp b m h12 := e_h12 ▸ (SI.f S_h11 rfl (ky8 w523 w555) rfl)
  refine let_ex (fun h13 e_h13 => ?_)
  have S_h13 : SI fp b m h13 := e_h13 ▸ (SI.f S_h12 rfl (ky8 w524 w556) rfl)
  refine let_ex (fun h14 e_h14 => ?_)
  have S_h14 : SI fp b m h14 := e_h14 ▸ (SI.j S_h13 rfl (ky8 w525 w557))
  refine let_ex (fun h15 e_h15 => ?_)
  have S_h15 : SI fp b m h15 := e_h15 ▸ (SI.f S_h14 rfl (ky8 w526 w558) rfl)
  exact ⟨_, rfl, (SI.j S_h15 rfl (ky8 w527 w559))⟩
def W_X10_restoreStart : List Nat := [521, 522, 523, 524, 525, 526, 527, 553, 554, 555, 556, 557, 558, 559, 2112, 2176, 2240, 2304, 2368, 2432, 2496, 2560, 2624, 9998]
set_option maxHeartbeats 400000 in
theorem z_X10_restoreStart {fp : Nat → Bool} {b : mH} {m : Nat}  (h : mH) (S : SI fp b m h) (ff : ∀ c ∈ W_X10_restoreStart, fp c = false)  : ∃ r, f_X10_restoreStart h = some r ∧ SI fp b m r := by
  have ff_X8_takeFrom : ∀ c ∈ W_X8_takeFrom, fp c = false := fun c hc => ff c ((by decide : ∀ c ∈ W_X8_takeFrom, c ∈ W_X10_restoreStart) c hc)
  unfold f_X10_restoreStart
  obtain ⟨r1, e_r1, S_r1⟩ := z_X8_takeFrom 0 1 h S ff_X8_takeFrom 
  rw [e_r1, Option.bind_some]
  exact ⟨_, rfl, S_r1⟩
def W_X10_firstUnwell_93 : List Nat := [256, 257, 258, 259, 288, 289, 290, 291, 325, 521, 522, 523, 524, 525, 526, 527, 553, 554, 555, 556, 557, 558, 559, 646, 647, 2112, 2176, 2240, 2304, 2368, 2432, 2496, 2560, 2624, 9998]
set_option maxHeartbeats 400000 in
theorem z_X10_firstUnwell_93 {fp : Nat → Bool} {b : mH} {m : Nat} {P : Int32 × mH → Prop} (k : Int32 → Int32 → Int32 → Int32 → Int32 → mH → Option (Int32 × mH))  (v1 : Int32) (v2 : Int32) (v3 : Int32) (v4 : Int32) (ff : ∀ c ∈ W_X10_firstUnwell_93, fp c = false) (cp0 : (0 ≤ v1.toInt ∧ v1.toInt < 6)) (cp1 : (0 ≤ v2.toInt ∧ v2.toInt < 24)) (cp2 : v3.toInt ≤ 9000000) (hk : ∀ (v5 : Int32) (h : mH), SI fp b (m + 8145648 * v5.toInt.toNat) h → 0 ≤ v5.toInt → v5.toInt ≤ 9000001 → ∃ r, k v1 v2 v3 v4 v5 h = some r ∧ P r) (he : ∀ (rv : Int32) (rh : mH), SI fp b (m + 73310848291296) rh → P (rv, rh)) : ∀ (n : Nat) (v5 : Int32) (h : mH), SI fp b (m + 8145648 * v5.toInt.toNat) h → 0 ≤ v5.toInt → v5.toInt ≤ 9000001 → 2147483648 - v5.toInt < n → ∃ r, f_X10_firstUnwell_93 k  n v1 v2 v3 v4 v5 h = some r ∧ P r := by
  have ff_X10_restoreStart : ∀ c ∈ W_X10_restoreStart, fp c = false := fun c hc => ff c ((by decide : ∀ c ∈ W_X10_restoreStart, c ∈ W_X10_firstUnwell_93) c hc)
  have ff_X5_runAct : ∀ c ∈ W_X5_runAct, fp c = false := fun c hc => ff c ((by decide : ∀ c ∈ W_X5_runAct, c ∈ W_X10_firstUnwell_93) c hc)
  have ff_X8_tellEvent_s0 : ∀ c ∈ W_X8_tellEvent_s0, fp c = false := fun c hc => ff c ((by decide : ∀ c ∈ W_X8_tellEvent_s0, c ∈ W_X10_firstUnwell_93) c hc)
  have w646 : fp 646 = false := ff 646 (by decide)
  have w647 : fp 647 = false := ff 647 (by decide)
  intro n
  induction n with
  | zero =>
    intro v5 h S iv0 iv1 hm
    have hz := i32_hi v5
    omega
  | succ n ih =>
    intro v5 h S iv0 iv1 hm
    rw [f_X10_firstUnwell_93]
    by_cases q1 : v5 ≤ v3
    · rw [if_pos q1]
      first | have hx_2 := i32_hi (v5) | skip
      first | have hx_3 := i32_lo (v5) | skip
      first | have hx_4 := i32_hi (v3) | skip
      first | have hx_5 := i32_lo (v3) | skip
      first | have f6 : (v5 : Int32).toInt ≤ (v3 : Int32).toInt := Int32.le_iff_toInt_le.mp q1 | skip
      obtain ⟨r10, e_r10, S_r10⟩ := z_X10_restoreStart  h S ff_X10_restoreStart 
      rw [e_r10, Option.bind_some]
      obtain ⟨r11, e_r11, S_r11⟩ := z_X8_tellEvent_s0 v2 1 ((r10.2 8 1 10) + v5.toInt64) r10 S_r10 ff_X8_tellEvent_s0 cp1
      rw [e_r11, Option.bind_some]
      obtain ⟨r12, e_r12, S_r12, p_r12_0, fr_r12, tk_r12⟩ := y_X5_runAct v1 r11 S_r11 ff_X5_runAct cp0
      rw [e_r12, Option.bind_some]
      have bb_r12 := bool_bd p_r12_0
      obtain ⟨⟨r13v, r13h⟩, e_r13, (hh_r13 : r13h = r12.2)⟩ := z_X10_brokenRule r12.1 v4 r12.2 S_r12  
      replace hh_r13 := hh_r13.symm
      subst hh_r13
      rw [e_r13, Option.bind_some]
      try dsimp only
      by_cases q7 : r13v = 0
      · rw [if_pos q7]
        have t8 : (0 : Int32).toInt = 0 := by decide
        first | have hx_9 := i32_hi (r13v) | skip
        first | have hx_10 := i32_lo (r13v) | skip
        first | have f11 : (r13v : Int32).toInt = (0 : Int32).toInt := congrArg Int32.toInt q7 | skip
        have t12 : (1 : Int32).toInt = 1 := by decide
        first | have o13 : (v5 + 1 : Int32).toInt = (v5 : Int32).toInt + (1 : Int32).toInt := ti_add (by omega) (by omega) | skip
        exact ih (v5 + 1) r12.2 (SI.mono S_r12 (by omega)) (by omega) (by omega) (by omega)
      · rw [if_neg q7]
        have t14 : (0 : Int32).toInt = 0 := by decide
        first | have hx_15 := i32_hi (r13v) | skip
        first | have hx_16 := i32_lo (r13v) | skip
        first | have f17 : (r13v : Int32).toInt ≠ (0 : Int32).toInt := ti_ne q7 | skip
        by_cases q18 : r13v = 3
        · rw [if_pos q18]
          have t19 : (3 : Int32).toInt = 3 := by decide
          first | have f20 : (r13v : Int32).toInt = (3 : Int32).toInt := congrArg Int32.toInt q18 | skip
          obtain ⟨g21, e_g21⟩ : ∃ g, uI r12.2 10 0 6 r13v = g := ⟨_, rfl⟩
          rw [e_g21]
          have S_g21 : SI fp b ((m + 8145648 * v5.toInt.toNat) + 8145648) g21 := e_g21 ▸ (SI.f S_r12 rfl w646 rfl)
          obtain ⟨⟨r17v, r17h⟩, e_r17, (hh_r17 : r17h = g21)⟩ := z_X10_wrongField  g21 S_g21  
          replace hh_r17 := hh_r17.symm
          subst hh_r17
          rw [e_r17, Option.bind_some]
          try dsimp only
          exact ⟨_, rfl, he v5 (uI g21 10 0 7 r17v) (SI.mono (SI.f S_g21 rfl w647 rfl) (by omega)) ⟩
        · rw [if_neg q18]
          have t22 : (3 : Int32).toInt = 3 := by decide
          first | have f23 : (r13v : Int32).toInt ≠ (3 : Int32).toInt := ti_ne q18 | skip
          refine let_ex (fun h16 e_h16 => ?_)
          have S_h16 : SI fp b ((m + 8145648 * v5.toInt.toNat) + 8145648) h16 := e_h16 ▸ (SI.f S_r12 rfl w646 rfl)
          exact ⟨_, rfl, he v5 (uI h16 10 0 7 (-2)) (SI.mono (SI.f S_h16 rfl w647 rfl) (by omega)) ⟩
    · rw [if_neg q1]
      first | have hx_24 := i32_hi (v5) | skip
      first | have hx_25 := i32_lo (v5) | skip
      first | have hx_26 := i32_hi (v3) | skip
      first | have hx_27 := i32_lo (v3) | skip
      first | have f28 : (v3 : Int32).toInt < (v5 : Int32).toInt := Int32.lt_iff_toInt_lt.mp (Int32.not_le.mp q1) | skip
      exact hk v5 h S iv0 iv1
def W_X10_firstUnwell : List Nat := [256, 257, 258, 259, 288, 289, 290, 291, 325, 521, 522, 523, 524, 525, 526, 527, 553, 554, 555, 556, 557, 558, 559, 646, 647, 2112, 2176, 2240, 2304, 2368, 2432, 2496, 2560, 2624, 2752, 2816, 9998]
theorem near_d {d : Nat} (hd : d < 2147483648) : ((if 2147483647 < Int64.ofNat d then 2147483647 else Int64.ofNat d).toInt32).toInt = d := by
  have e : (Int64.ofNat d).toInt = d := by
    rw [Int64.toInt_ofNat_of_lt (by omega)]
  have n : ¬ 2147483647 < Int64.ofNat d := fun z => by
    rw [Int64.lt_iff_toInt_lt, e] at z
    have : (2147483647 : Int64).toInt = 2147483647 := by decide
    omega
  rw [if_neg n, Int64.toInt_toInt32, e]
  exact Int.bmod_eq_of_le (by omega) (by omega)
theorem z_X10_firstUnwell {fp : Nat → Bool} {b : mH} {m : Nat} (x1 : Int32) (x2 : Int32) (h : mH) (S : SI fp b m h) (ff : ∀ c ∈ W_X10_firstUnwell, fp c = false) (pr0 : (0 ≤ x1.toInt ∧ x1.toInt < 6)) (pr1 : (0 ≤ x2.toInt ∧ x2.toInt < 24)) (pr2 : (0 ≤ (h.1 6 x2.toNatClampNeg 9).toInt ∧ (h.1 6 x2.toNatClampNeg 9).toInt < 6)) (pr3 : h.2 8 0 10 = h.2 8 1 10) : ∃ r, f_X10_firstUnwell x1 x2 h = some r ∧ SI fp b (m + 73310856436944) r.2 := by
  unfold f_X10_firstUnwell
  obtain ⟨r1, e_r1, S_r1, p_r1, fr, d, hd, ed⟩ := y_X5_runAct x1 h S (fun c hc => ff c ((by decide : ∀ c ∈ W_X5_runAct, c ∈ W_X10_firstUnwell) c hc)) pr0
  rw [e_r1, Option.bind_some]
  by_cases q1 : r1.1 = 0
  · rw [if_pos q1]
    exact ⟨_, rfl, S_r1.mono (by omega)⟩
  · rw [if_neg q1]
    by_cases q2 : (r1.2.1 8 1 9) < 16
    · rw [if_pos q2]
      have f1 : r1.2.2 8 1 10 = h.2 8 1 10 := (fr 8 1 10 rfl).2
      have nd : r1.2.2 8 0 10 - r1.2.2 8 1 10 = Int64.ofNat d := by
        rw [ed, f1, pr3, Int64.add_comm, Int64.add_sub_cancel]
      have f9 : r1.2.1 6 x2.toNatClampNeg 9 = h.1 6 x2.toNatClampNeg 9 := (fr 6 _ 9 rfl).1
      rw [nd]
      unfold f_X11_nearestInt
      rw [Option.bind_some]
      dsimp only
      rw [if_pos (mIn_bd (by omega) (by omega)), if_pos (mIn_bd (by omega) (by omega)), f9, if_pos (mIn_bd (by omega) (by omega))]
      obtain ⟨r8, e_r8, S_r8⟩ := z_X10_noteSets x1.toNatClampNeg (h.1 6 x2.toNatClampNeg 9).toNatClampNeg r1.2 S_r1 (fun c hc => ff c ((by decide : ∀ c ∈ W_X10_noteSets, c ∈ W_X10_firstUnwell) c hc))
      rw [e_r8, Option.bind_some]
      have hv := near_d (d := d) (by omega)
      have e1 : (1 : Int32).toInt = 1 := by decide
      refine z_X10_firstUnwell_93 (m := m + 8145648) (P := fun r => SI fp b (m + 73310856436944) r.2) _ x1 x2 _ _ (fun c hc => ff c ((by decide : ∀ c ∈ W_X10_firstUnwell_93, c ∈ W_X10_firstUnwell) c hc)) pr0 pr1 (by omega) (fun v5 h5 S5 i0 i1 => ⟨_, rfl, S5.mono (by omega)⟩) (fun rv rh SS => SS.mono (by omega)) mFu 1 r8 (S_r8.mono (by omega)) (by omega) (by omega) (by have := mFu_big; omega)
    · rw [if_neg q2]
      exact ⟨_, rfl, S_r1.mono (by omega)⟩
def W_X10_keepStart : List Nat := [521, 522, 523, 524, 525, 526, 527, 553, 554, 555, 556, 557, 558, 559, 2112, 2176, 2240, 2304, 2368, 2432, 2496, 2560, 2624, 9998]
theorem z_X10_keepStart {fp : Nat → Bool} {b : mH} {m : Nat} (h : mH) (S : SI fp b m h) (ff : ∀ c ∈ W_X10_keepStart, fp c = false) : ∃ r, f_X10_keepStart h = some r ∧ SI fp b m r ∧ (r.2 8 0 10 = r.2 8 1 10) := by
  obtain ⟨r, e1, s1⟩ := z_X8_takeFrom 1 0 h S (fun c hc => ff c ((by decide : ∀ c ∈ W_X8_takeFrom, c ∈ W_X10_keepStart) c hc))
  refine ⟨r, ?_, s1, ?_⟩
  · unfold f_X10_keepStart
    rw [e1, Option.bind_some]
  · unfold f_X8_takeFrom at e1
    dsimp only [mLet] at e1
    injection e1 with e1
    rw [← e1]
    rfl
set_option maxHeartbeats 400000 in
theorem y_X10_keepStart {fp : Nat → Bool} {b : mH} {m : Nat} (h : mH) (S : SI fp b m h) (ff : ∀ c ∈ W_X10_keepStart, fp c = false) : ∃ r, f_X10_keepStart h = some r ∧ SI fp b m r ∧ (r.2 8 0 10 = r.2 8 1 10) ∧ fz (fun c => !(W_X10_keepStart.contains c)) h r := by
  obtain ⟨r, e1, s1, q0⟩ := z_X10_keepStart (fp := fun c => fp c || !(W_X10_keepStart.contains c)) (b := h) (m := 0)  h (S.re _) (fun c hc => Bool.or_eq_false_iff.mpr ⟨ff c hc, by rw [List.contains_iff_mem.mpr hc]; rfl⟩) 
  refine ⟨r, e1, SI.mono (S.back s1 (fun c hc => Bool.or_eq_true_iff.mpr (Or.inl hc))) (by omega), q0, fun t i k hc => s1.2.2.1 t i k (Bool.or_eq_true_iff.mpr (Or.inr hc))⟩
def W_X11_walk : List Nat := [73, 193, 194, 195, 196, 197, 256, 257, 258, 259, 288, 289, 290, 291, 325, 521, 522, 523, 524, 525, 526, 527, 553, 554, 555, 556, 557, 558, 559, 646, 647, 2048, 2112, 2176, 2240, 2304, 2368, 2432, 2496, 2560, 2624, 2752, 2816, 9998]
set_option maxHeartbeats 400000 in
theorem z_X11_walk {fp : Nat → Bool} {b : mH} {m : Nat} (x1 : Int32) (x2 : Int32) (h : mH) (S : SI fp b m h) (ff : ∀ c ∈ W_X11_walk, fp c = false)  : ∃ r, f_X11_walk x1 x2 h = some r ∧ SI fp b (m + 73310864582592) r.2 := by
  have ff_X10_firstUnwell : ∀ c ∈ W_X10_firstUnwell, fp c = false := fun c hc => ff c ((by decide : ∀ c ∈ W_X10_firstUnwell, c ∈ W_X11_walk) c hc)
  have ff_X10_keepStart : ∀ c ∈ W_X10_keepStart, fp c = false := fun c hc => ff c ((by decide : ∀ c ∈ W_X10_keepStart, c ∈ W_X11_walk) c hc)
  have ff_X10_restoreStart : ∀ c ∈ W_X10_restoreStart, fp c = false := fun c hc => ff c ((by decide : ∀ c ∈ W_X10_restoreStart, c ∈ W_X11_walk) c hc)
  have ff_X1_makeCode : ∀ c ∈ W_X1_makeCode, fp c = false := fun c hc => ff c ((by decide : ∀ c ∈ W_X1_makeCode, c ∈ W_X11_walk) c hc)
  unfold f_X11_walk
  obtain ⟨⟨r1v, r1h⟩, e_r1, (hh_r1 : r1h = h), p_r1_0, p_r1_1⟩ := z_X1_hasAct x1 h S  
  replace hh_r1 := hh_r1.symm
  subst hh_r1
  dsimp only at p_r1_0 p_r1_1
  have bb_r1 := bool_bd p_r1_0
  rw [e_r1, Option.bind_some]
  try dsimp only
  by_cases q1 : r1v = 0
  · rw [if_pos q1]
    have t2 : (0 : Int32).toInt = 0 := by decide
    first | have hx_3 := i32_hi (r1v) | skip
    first | have hx_4 := i32_lo (r1v) | skip
    first | have f5 : (r1v : Int32).toInt = (0 : Int32).toInt := congrArg Int32.toInt q1 | skip
    exact ⟨_, rfl, (SI.mono S (by omega))⟩
  · rw [if_neg q1]
    have t6 : (0 : Int32).toInt = 0 := by decide
    first | have hx_7 := i32_hi (r1v) | skip
    first | have hx_8 := i32_lo (r1v) | skip
    first | have f9 : (r1v : Int32).toInt ≠ (0 : Int32).toInt := ti_ne q1 | skip
    obtain ⟨⟨r3v, r3h⟩, e_r3, (hh_r3 : r3h = h), p_r3_0, p_r3_1⟩ := z_X1_hasField x2 h S  
    replace hh_r3 := hh_r3.symm
    subst hh_r3
    dsimp only at p_r3_0 p_r3_1
    have bb_r3 := bool_bd p_r3_0
    rw [e_r3, Option.bind_some]
    try dsimp only
    by_cases q10 : r3v = 0
    · rw [if_pos q10]
      first | have hx_11 := i32_hi (r3v) | skip
      first | have hx_12 := i32_lo (r3v) | skip
      first | have f13 : (r3v : Int32).toInt = (0 : Int32).toInt := congrArg Int32.toInt q10 | skip
      exact ⟨_, rfl, (SI.mono S (by omega))⟩
    · rw [if_neg q10]
      first | have hx_14 := i32_hi (r3v) | skip
      first | have hx_15 := i32_lo (r3v) | skip
      first | have f16 : (r3v : Int32).toInt ≠ (0 : Int32).toInt := ti_ne q10 | skip
      have q17 : mIn x2 24 = true := (mIn_bd (by omega) (by omega))
      rw [if_pos q17]
      by_cases q18 : (h.1 6 x2.toNatClampNeg 3) = 2
      · rw [if_pos q18]
        have t19 : (2 : Int32).toInt = 2 := by decide
        first | have hx_20 := i32_hi (h.1 6 x2.toNatClampNeg 3) | skip
        first | have hx_21 := i32_lo (h.1 6 x2.toNatClampNeg 3) | skip
        first | have f22 : (h.1 6 x2.toNatClampNeg 3 : Int32).toInt = (2 : Int32).toInt := congrArg Int32.toInt q18 | skip
        obtain ⟨⟨r7v, r7h⟩, e_r7, (hh_r7 : r7h = h), p_r7_0, p_r7_1⟩ := z_X1_hasAct (h.1 6 x2.toNatClampNeg 9) h S  
        replace hh_r7 := hh_r7.symm
        subst hh_r7
        dsimp only at p_r7_0 p_r7_1
        have bb_r7 := bool_bd p_r7_0
        rw [e_r7, Option.bind_some]
        try dsimp only
        by_cases q23 : r7v = 0
        · rw [if_pos q23]
          first | have hx_24 := i32_hi (r7v) | skip
          first | have hx_25 := i32_lo (r7v) | skip
          first | have f26 : (r7v : Int32).toInt = (0 : Int32).toInt := congrArg Int32.toInt q23 | skip
          exact ⟨_, rfl, (SI.mono S (by omega))⟩
        · rw [if_neg q23]
          first | have hx_27 := i32_hi (r7v) | skip
          first | have hx_28 := i32_lo (r7v) | skip
          first | have f29 : (r7v : Int32).toInt ≠ (0 : Int32).toInt := ti_ne q23 | skip
          obtain ⟨r9, e_r9, S_r9, fr_r9⟩ := y_X1_makeCode  h S ff_X1_makeCode 
          rw [e_r9, Option.bind_some]
          obtain ⟨r10, e_r10, S_r10, p_r10_0, fr_r10⟩ := y_X10_keepStart  r9 S_r9 ff_X10_keepStart 
          rw [e_r10, Option.bind_some]
          have l30 : (r10.1 6 x2.toNatClampNeg 9).toInt = (r9.1 6 x2.toNatClampNeg 9).toInt := congrArg Int32.toInt (fr_r10 6 x2.toNatClampNeg 9 rfl).1
          have l31 : (r9.1 6 x2.toNatClampNeg 9).toInt = (h.1 6 x2.toNatClampNeg 9).toInt := congrArg Int32.toInt (fr_r9 6 x2.toNatClampNeg 9 rfl).1
          obtain ⟨r11, e_r11, S_r11⟩ := z_X10_firstUnwell x1 x2 r10 S_r10 ff_X10_firstUnwell (by omega) (by omega) (by omega) p_r10_0
          rw [e_r11, Option.bind_some]
          obtain ⟨r12, e_r12, S_r12⟩ := z_X10_restoreStart  r11.2 S_r11 ff_X10_restoreStart 
          rw [e_r12, Option.bind_some]
          exact ⟨_, rfl, (SI.mono S_r12 (by omega))⟩
      · rw [if_neg q18]
        have t32 : (2 : Int32).toInt = 2 := by decide
        first | have hx_33 := i32_hi (h.1 6 x2.toNatClampNeg 3) | skip
        first | have hx_34 := i32_lo (h.1 6 x2.toNatClampNeg 3) | skip
        first | have f35 : (h.1 6 x2.toNatClampNeg 3 : Int32).toInt ≠ (2 : Int32).toInt := ti_ne q18 | skip
        exact ⟨_, rfl, (SI.mono S (by omega))⟩
set_option maxHeartbeats 400000 in
theorem z_X11_why {fp : Nat → Bool} {b : mH} {m : Nat} (x1 : Int32) (h : mH) (S : SI fp b m h)   : ∃ r, f_X11_why x1 h = some r ∧ r.2 = h := by
  unfold f_X11_why
  by_cases q1 : (h.1 10 0 6) = 0
  · rw [if_pos q1]
    have t2 : (0 : Int32).toInt = 0 := by decide
    first | have hx_3 := i32_hi (h.1 10 0 6) | skip
    first | have hx_4 := i32_lo (h.1 10 0 6) | skip
    first | have f5 : (h.1 10 0 6 : Int32).toInt = (0 : Int32).toInt := congrArg Int32.toInt q1 | skip
    exact ⟨_, rfl, rfl⟩
  · rw [if_neg q1]
    have t6 : (0 : Int32).toInt = 0 := by decide
    first | have hx_7 := i32_hi (h.1 10 0 6) | skip
    first | have hx_8 := i32_lo (h.1 10 0 6) | skip
    first | have f9 : (h.1 10 0 6 : Int32).toInt ≠ (0 : Int32).toInt := ti_ne q1 | skip
    by_cases q10 : x1 = 0
    · rw [if_pos q10]
      first | have hx_11 := i32_hi (x1) | skip
      first | have hx_12 := i32_lo (x1) | skip
      first | have f13 : (x1 : Int32).toInt = (0 : Int32).toInt := congrArg Int32.toInt q10 | skip
      exact ⟨_, rfl, rfl⟩
    · rw [if_neg q10]
      first | have hx_14 := i32_hi (x1) | skip
      first | have hx_15 := i32_lo (x1) | skip
      first | have f16 : (x1 : Int32).toInt ≠ (0 : Int32).toInt := ti_ne q10 | skip
      by_cases q17 : x1 = 1
      · rw [if_pos q17]
        have t18 : (1 : Int32).toInt = 1 := by decide
        first | have f19 : (x1 : Int32).toInt = (1 : Int32).toInt := congrArg Int32.toInt q17 | skip
        exact ⟨_, rfl, rfl⟩
      · rw [if_neg q17]
        have t20 : (1 : Int32).toInt = 1 := by decide
        first | have f21 : (x1 : Int32).toInt ≠ (1 : Int32).toInt := ti_ne q17 | skip
        exact ⟨_, rfl, rfl⟩
set_option maxHeartbeats 400000 in
theorem z_X11_isTape {fp : Nat → Bool} {b : mH} {m : Nat} (x0 : Int32) (h : mH) (S : SI fp b m h)   : ∃ r, f_X11_isTape x0 h = some r ∧ r.2 = h ∧ (r.1 = 0 ∨ r.1 = 1) ∧ (r.1.toInt = 0 ∨ (0 ≤ x0.toInt ∧ x0.toInt < 6)) := by
  unfold f_X11_isTape
  by_cases q1 : x0 < 0
  · rw [if_pos q1]
    have t2 : (0 : Int32).toInt = 0 := by decide
    first | have hx_3 := i32_hi (x0) | skip
    first | have hx_4 := i32_lo (x0) | skip
    first | have f5 : (x0 : Int32).toInt < (0 : Int32).toInt := Int32.lt_iff_toInt_lt.mp q1 | skip
    have pp6 : ((0 : Int32).toInt = 0 ∨ (0 ≤ x0.toInt ∧ x0.toInt < 6)) := by omega
    exact ⟨_, rfl, rfl, (Or.inl rfl), pp6⟩
  · rw [if_neg q1]
    have t7 : (0 : Int32).toInt = 0 := by decide
    first | have hx_8 := i32_hi (x0) | skip
    first | have hx_9 := i32_lo (x0) | skip
    first | have f10 : (0 : Int32).toInt ≤ (x0 : Int32).toInt := Int32.le_iff_toInt_le.mp (Int32.not_lt.mp q1) | skip
    by_cases q11 : x0 < 6
    · rw [if_pos q11]
      have t12 : (6 : Int32).toInt = 6 := by decide
      first | have f13 : (x0 : Int32).toInt < (6 : Int32).toInt := Int32.lt_iff_toInt_lt.mp q11 | skip
      have t14 : (1 : Int32).toInt = 1 := by decide
      have pp15 : ((1 : Int32).toInt = 0 ∨ (0 ≤ x0.toInt ∧ x0.toInt < 6)) := by omega
      exact ⟨_, rfl, rfl, (Or.inr rfl), pp15⟩
    · rw [if_neg q11]
      have t16 : (6 : Int32).toInt = 6 := by decide
      first | have f17 : (6 : Int32).toInt ≤ (x0 : Int32).toInt := Int32.le_iff_toInt_le.mp (Int32.not_lt.mp q11) | skip
      have pp18 : ((0 : Int32).toInt = 0 ∨ (0 ≤ x0.toInt ∧ x0.toInt < 6)) := by omega
      exact ⟨_, rfl, rfl, (Or.inl rfl), pp18⟩
def W_X11_hostRefuses : List Nat := [710]
set_option maxHeartbeats 400000 in
theorem z_X11_hostRefuses {fp : Nat → Bool} {b : mH} {m : Nat} (x1 : Int32) (h : mH) (S : SI fp b m h) (ff : ∀ c ∈ W_X11_hostRefuses, fp c = false)  : ∃ r, f_X11_hostRefuses x1 h = some r ∧ SI fp b m r.2 := by
  have w710 : fp 710 = false := ff 710 (by decide)
  unfold f_X11_hostRefuses
  exact ⟨_, rfl, (SI.f S rfl w710 rfl)⟩
def W_X9_takeRow : List Nat := [576, 577, 2688]
set_option maxHeartbeats 400000 in
theorem z_X9_takeRow {fp : Nat → Bool} {b : mH} {m : Nat} (i0 : Nat) (x1 : Int32) (x2 : Int32) (h : mH) (S : SI fp b m h) (ff : ∀ c ∈ W_X9_takeRow, fp c = false) (pr0 : (0 ≤ x1.toInt ∧ x1.toInt ≤ 5)) (pr1 : (0 ≤ x2.toInt ∧ x2.toInt ≤ 64)) : ∃ r, f_X9_takeRow i0 x1 x2 h = some r ∧ SI fp b m r := by
  have w576 : fp 576 = false := ff 576 (by decide)
  have w577 : fp 577 = false := ff 577 (by decide)
  have w2688 : fp 2688 = false := ff 2688 (by decide)
  unfold f_X9_takeRow
  have w_1 : 0 ≤ (x1 : Int32).toInt ∧ (x1 : Int32).toInt ≤ 5 := by omega
  refine let_ex (fun h1 e_h1 => ?_)
  have S_h1 : SI fp b m h1 := e_h1 ▸ (SI.u S rfl w576 w_1)
  have w_2 : 0 ≤ (x2 : Int32).toInt ∧ (x2 : Int32).toInt ≤ 64 := by omega
  obtain ⟨g3, e_g3⟩ : ∃ g, uI h1 9 i0 1 x2 = g := ⟨_, rfl⟩
  rw [e_g3]
  have S_g3 : SI fp b m g3 := e_g3 ▸ (SI.u S_h1 rfl w577 w_2)
  obtain ⟨r2, e_r2, S_r2⟩ := zfj 42 64 i0 0 (by decide) S_g3 rfl (fun _ => w2688)
  rw [e_r2, Option.bind_some]
  exact ⟨_, rfl, S_r2⟩
def W_X11_tape : List Nat := [576, 577, 710, 2688]
set_option maxHeartbeats 400000 in
theorem z_X11_tape {fp : Nat → Bool} {b : mH} {m : Nat} (x1 : Int32) (x2 : Int32) (x3 : Int32) (h : mH) (S : SI fp b m h) (ff : ∀ c ∈ W_X11_tape, fp c = false)  : ∃ r, f_X11_tape x1 x2 x3 h = some r ∧ SI fp b m r.2 := by
  have ff_X11_hostRefuses : ∀ c ∈ W_X11_hostRefuses, fp c = false := fun c hc => ff c ((by decide : ∀ c ∈ W_X11_hostRefuses, c ∈ W_X11_tape) c hc)
  have ff_X9_takeRow : ∀ c ∈ W_X9_takeRow, fp c = false := fun c hc => ff c ((by decide : ∀ c ∈ W_X9_takeRow, c ∈ W_X11_tape) c hc)
  unfold f_X11_tape
  obtain ⟨⟨r1v, r1h⟩, e_r1, (hh_r1 : r1h = h), p_r1_0, p_r1_1⟩ := z_X11_isTape x1 h S  
  replace hh_r1 := hh_r1.symm
  subst hh_r1
  dsimp only at p_r1_0 p_r1_1
  have bb_r1 := bool_bd p_r1_0
  rw [e_r1, Option.bind_some]
  try dsimp only
  by_cases q1 : r1v = 0
  · rw [if_pos q1]
    have t2 : (0 : Int32).toInt = 0 := by decide
    first | have hx_3 := i32_hi (r1v) | skip
    first | have hx_4 := i32_lo (r1v) | skip
    first | have f5 : (r1v : Int32).toInt = (0 : Int32).toInt := congrArg Int32.toInt q1 | skip
    exact ⟨_, rfl, S⟩
  · rw [if_neg q1]
    have t6 : (0 : Int32).toInt = 0 := by decide
    first | have hx_7 := i32_hi (r1v) | skip
    first | have hx_8 := i32_lo (r1v) | skip
    first | have f9 : (r1v : Int32).toInt ≠ (0 : Int32).toInt := ti_ne q1 | skip
    by_cases q10 : x2 < 1
    · rw [if_pos q10]
      have t11 : (1 : Int32).toInt = 1 := by decide
      first | have hx_12 := i32_hi (x2) | skip
      first | have hx_13 := i32_lo (x2) | skip
      first | have f14 : (x2 : Int32).toInt < (1 : Int32).toInt := Int32.lt_iff_toInt_lt.mp q10 | skip
      exact ⟨_, rfl, S⟩
    · rw [if_neg q10]
      have t15 : (1 : Int32).toInt = 1 := by decide
      first | have hx_16 := i32_hi (x2) | skip
      first | have hx_17 := i32_lo (x2) | skip
      first | have f18 : (1 : Int32).toInt ≤ (x2 : Int32).toInt := Int32.le_iff_toInt_le.mp (Int32.not_lt.mp q10) | skip
      by_cases q19 : x2 ≤ 4
      · rw [if_pos q19]
        have t20 : (4 : Int32).toInt = 4 := by decide
        first | have f21 : (x2 : Int32).toInt ≤ (4 : Int32).toInt := Int32.le_iff_toInt_le.mp q19 | skip
        by_cases q22 : x3 ≤ 64
        · rw [if_pos q22]
          have t23 : (64 : Int32).toInt = 64 := by decide
          first | have hx_24 := i32_hi (x3) | skip
          first | have hx_25 := i32_lo (x3) | skip
          first | have f26 : (x3 : Int32).toInt ≤ (64 : Int32).toInt := Int32.le_iff_toInt_le.mp q22 | skip
          by_cases q27 : x3 < 0
          · rw [if_pos q27]
            first | have f28 : (x3 : Int32).toInt < (0 : Int32).toInt := Int32.lt_iff_toInt_lt.mp q27 | skip
            obtain ⟨r9, e_r9, S_r9⟩ := z_X11_hostRefuses (-14) h S ff_X11_hostRefuses 
            rw [e_r9, Option.bind_some]
            exact ⟨_, rfl, S_r9⟩
          · rw [if_neg q27]
            first | have f29 : (0 : Int32).toInt ≤ (x3 : Int32).toInt := Int32.le_iff_toInt_le.mp (Int32.not_lt.mp q27) | skip
            have q30 : mIn x1 6 = true := (mIn_bd (by omega) (by omega))
            rw [if_pos q30]
            obtain ⟨r8, e_r8, S_r8⟩ := z_X9_takeRow x1.toNatClampNeg x2 x3 h S ff_X9_takeRow (by omega) (by omega)
            rw [e_r8, Option.bind_some]
            exact ⟨_, rfl, S_r8⟩
        · rw [if_neg q22]
          have t31 : (64 : Int32).toInt = 64 := by decide
          first | have hx_32 := i32_hi (x3) | skip
          first | have hx_33 := i32_lo (x3) | skip
          first | have f34 : (64 : Int32).toInt < (x3 : Int32).toInt := Int32.lt_iff_toInt_lt.mp (Int32.not_le.mp q22) | skip
          exact ⟨_, rfl, S⟩
      · rw [if_neg q19]
        have t35 : (4 : Int32).toInt = 4 := by decide
        first | have f36 : (4 : Int32).toInt < (x2 : Int32).toInt := Int32.lt_iff_toInt_lt.mp (Int32.not_le.mp q19) | skip
        exact ⟨_, rfl, S⟩
def W_X9_takeImage : List Nat := [521, 522, 523, 524, 525, 526, 527, 553, 554, 555, 556, 557, 558, 559, 576, 580, 2112, 2176, 2240, 2304, 2368, 2432, 2496, 2560, 2624, 9998]
set_option maxHeartbeats 400000 in
theorem z_X9_takeImage {fp : Nat → Bool} {b : mH} {m : Nat} (i0 : Nat) (i1 : Nat) (x2 : Int32) (h : mH) (S : SI fp b m h) (ff : ∀ c ∈ W_X9_takeImage, fp c = false)  : ∃ r, f_X9_takeImage i0 i1 x2 h = some r ∧ SI fp b m r := by
  have ff_X8_takeFrom : ∀ c ∈ W_X8_takeFrom, fp c = false := fun c hc => ff c ((by decide : ∀ c ∈ W_X8_takeFrom, c ∈ W_X9_takeImage) c hc)
  have w576 : fp 576 = false := ff 576 (by decide)
  have w580 : fp 580 = false := ff 580 (by decide)
  unfold f_X9_takeImage
  have t1 : (5 : Int32).toInt = 5 := by decide
  have w_2 : 0 ≤ (5 : Int32).toInt ∧ (5 : Int32).toInt ≤ 5 := by omega
  obtain ⟨g3, e_g3⟩ : ∃ g, uI h 9 i0 0 5 = g := ⟨_, rfl⟩
  rw [e_g3]
  have S_g3 : SI fp b m g3 := e_g3 ▸ (SI.u S rfl w576 w_2)
  obtain ⟨r1, e_r1, S_r1⟩ := z_X8_takeFrom (i0 + 2) i1 g3 S_g3 ff_X8_takeFrom 
  rw [e_r1, Option.bind_some]
  exact ⟨_, rfl, (SI.f S_r1 rfl w580 rfl)⟩
def W_X11_image : List Nat := [521, 522, 523, 524, 525, 526, 527, 553, 554, 555, 556, 557, 558, 559, 576, 580, 2112, 2176, 2240, 2304, 2368, 2432, 2496, 2560, 2624, 9998]
set_option maxHeartbeats 400000 in
theorem z_X11_image {fp : Nat → Bool} {b : mH} {m : Nat} (x1 : Int32) (h : mH) (S : SI fp b m h) (ff : ∀ c ∈ W_X11_image, fp c = false)  : ∃ r, f_X11_image x1 h = some r ∧ SI fp b m r.2 := by
  have ff_X9_takeImage : ∀ c ∈ W_X9_takeImage, fp c = false := fun c hc => ff c ((by decide : ∀ c ∈ W_X9_takeImage, c ∈ W_X11_image) c hc)
  unfold f_X11_image
  obtain ⟨⟨r1v, r1h⟩, e_r1, (hh_r1 : r1h = h), p_r1_0, p_r1_1⟩ := z_X11_isTape x1 h S  
  replace hh_r1 := hh_r1.symm
  subst hh_r1
  dsimp only at p_r1_0 p_r1_1
  have bb_r1 := bool_bd p_r1_0
  rw [e_r1, Option.bind_some]
  try dsimp only
  by_cases q1 : r1v = 0
  · rw [if_pos q1]
    have t2 : (0 : Int32).toInt = 0 := by decide
    first | have hx_3 := i32_hi (r1v) | skip
    first | have hx_4 := i32_lo (r1v) | skip
    first | have f5 : (r1v : Int32).toInt = (0 : Int32).toInt := congrArg Int32.toInt q1 | skip
    exact ⟨_, rfl, S⟩
  · rw [if_neg q1]
    have t6 : (0 : Int32).toInt = 0 := by decide
    first | have hx_7 := i32_hi (r1v) | skip
    first | have hx_8 := i32_lo (r1v) | skip
    first | have f9 : (r1v : Int32).toInt ≠ (0 : Int32).toInt := ti_ne q1 | skip
    have q10 : mIn x1 6 = true := (mIn_bd (by omega) (by omega))
    rw [if_pos q10]
    obtain ⟨r4, e_r4, S_r4⟩ := z_X9_takeImage x1.toNatClampNeg 0 (h.1 1 0 8) h S ff_X9_takeImage 
    rw [e_r4, Option.bind_some]
    obtain ⟨⟨r5v, r5h⟩, e_r5, (hh_r5 : r5h = r4)⟩ := z_X11_nearestInt (r4.2 8 0 10) r4 S_r4  
    replace hh_r5 := hh_r5.symm
    subst hh_r5
    rw [e_r5, Option.bind_some]
    try dsimp only
    exact ⟨_, rfl, S_r4⟩
def W_X11_back : List Nat := [521, 522, 523, 524, 525, 526, 527, 553, 554, 555, 556, 557, 558, 559, 710, 2112, 2176, 2240, 2304, 2368, 2432, 2496, 2560, 2624, 9998]
set_option maxHeartbeats 400000 in
theorem z_X11_back {fp : Nat → Bool} {b : mH} {m : Nat} (x1 : Int32) (h : mH) (S : SI fp b m h) (ff : ∀ c ∈ W_X11_back, fp c = false)  : ∃ r, f_X11_back x1 h = some r ∧ SI fp b m r.2 := by
  have ff_X11_hostRefuses : ∀ c ∈ W_X11_hostRefuses, fp c = false := fun c hc => ff c ((by decide : ∀ c ∈ W_X11_hostRefuses, c ∈ W_X11_back) c hc)
  have ff_X8_takeFrom : ∀ c ∈ W_X8_takeFrom, fp c = false := fun c hc => ff c ((by decide : ∀ c ∈ W_X8_takeFrom, c ∈ W_X11_back) c hc)
  unfold f_X11_back
  obtain ⟨⟨r1v, r1h⟩, e_r1, (hh_r1 : r1h = h), p_r1_0, p_r1_1⟩ := z_X11_isTape x1 h S  
  replace hh_r1 := hh_r1.symm
  subst hh_r1
  dsimp only at p_r1_0 p_r1_1
  have bb_r1 := bool_bd p_r1_0
  rw [e_r1, Option.bind_some]
  try dsimp only
  by_cases q1 : r1v = 0
  · rw [if_pos q1]
    have t2 : (0 : Int32).toInt = 0 := by decide
    first | have hx_3 := i32_hi (r1v) | skip
    first | have hx_4 := i32_lo (r1v) | skip
    first | have f5 : (r1v : Int32).toInt = (0 : Int32).toInt := congrArg Int32.toInt q1 | skip
    exact ⟨_, rfl, S⟩
  · rw [if_neg q1]
    have t6 : (0 : Int32).toInt = 0 := by decide
    first | have hx_7 := i32_hi (r1v) | skip
    first | have hx_8 := i32_lo (r1v) | skip
    first | have f9 : (r1v : Int32).toInt ≠ (0 : Int32).toInt := ti_ne q1 | skip
    have q10 : mIn x1 6 = true := (mIn_bd (by omega) (by omega))
    rw [if_pos q10]
    by_cases q11 : (h.1 9 x1.toNatClampNeg 0) = 5
    · rw [if_pos q11]
      have b12 : 0 ≤ (h.1 9 x1.toNatClampNeg 0).toInt ∧ (h.1 9 x1.toNatClampNeg 0).toInt ≤ 5 := (S).1 9 x1.toNatClampNeg 0
      have t13 : (5 : Int32).toInt = 5 := by decide
      first | have hx_14 := i32_hi (h.1 9 x1.toNatClampNeg 0) | skip
      first | have hx_15 := i32_lo (h.1 9 x1.toNatClampNeg 0) | skip
      first | have f16 : (h.1 9 x1.toNatClampNeg 0 : Int32).toInt = (5 : Int32).toInt := congrArg Int32.toInt q11 | skip
      by_cases q17 : (h.1 9 x1.toNatClampNeg 4) = (h.1 1 0 8)
      · rw [if_pos q17]
        first | have hx_18 := i32_hi (h.1 9 x1.toNatClampNeg 4) | skip
        first | have hx_19 := i32_lo (h.1 9 x1.toNatClampNeg 4) | skip
        first | have hx_20 := i32_hi (h.1 1 0 8) | skip
        first | have hx_21 := i32_lo (h.1 1 0 8) | skip
        first | have f22 : (h.1 9 x1.toNatClampNeg 4 : Int32).toInt = (h.1 1 0 8 : Int32).toInt := congrArg Int32.toInt q17 | skip
        obtain ⟨r6, e_r6, S_r6⟩ := z_X8_takeFrom 0 (x1.toNatClampNeg + 2) h S ff_X8_takeFrom 
        rw [e_r6, Option.bind_some]
        obtain ⟨⟨r7v, r7h⟩, e_r7, (hh_r7 : r7h = r6)⟩ := z_X11_nearestInt (r6.2 8 0 10) r6 S_r6  
        replace hh_r7 := hh_r7.symm
        subst hh_r7
        rw [e_r7, Option.bind_some]
        try dsimp only
        exact ⟨_, rfl, S_r6⟩
      · rw [if_neg q17]
        first | have hx_23 := i32_hi (h.1 9 x1.toNatClampNeg 4) | skip
        first | have hx_24 := i32_lo (h.1 9 x1.toNatClampNeg 4) | skip
        first | have hx_25 := i32_hi (h.1 1 0 8) | skip
        first | have hx_26 := i32_lo (h.1 1 0 8) | skip
        first | have f27 : (h.1 9 x1.toNatClampNeg 4 : Int32).toInt ≠ (h.1 1 0 8 : Int32).toInt := ti_ne q17 | skip
        exact ⟨_, rfl, S⟩
    · rw [if_neg q11]
      have b28 : 0 ≤ (h.1 9 x1.toNatClampNeg 0).toInt ∧ (h.1 9 x1.toNatClampNeg 0).toInt ≤ 5 := (S).1 9 x1.toNatClampNeg 0
      have t29 : (5 : Int32).toInt = 5 := by decide
      first | have hx_30 := i32_hi (h.1 9 x1.toNatClampNeg 0) | skip
      first | have hx_31 := i32_lo (h.1 9 x1.toNatClampNeg 0) | skip
      first | have f32 : (h.1 9 x1.toNatClampNeg 0 : Int32).toInt ≠ (5 : Int32).toInt := ti_ne q11 | skip
      by_cases q33 : (h.1 9 x1.toNatClampNeg 0) = 0
      · rw [if_pos q33]
        first | have f34 : (h.1 9 x1.toNatClampNeg 0 : Int32).toInt = (0 : Int32).toInt := congrArg Int32.toInt q33 | skip
        obtain ⟨r10, e_r10, S_r10⟩ := z_X11_hostRefuses (-11) h S ff_X11_hostRefuses 
        rw [e_r10, Option.bind_some]
        exact ⟨_, rfl, S_r10⟩
      · rw [if_neg q33]
        first | have f35 : (h.1 9 x1.toNatClampNeg 0 : Int32).toInt ≠ (0 : Int32).toInt := ti_ne q33 | skip
        obtain ⟨r9, e_r9, S_r9⟩ := z_X11_hostRefuses (-12) h S ff_X11_hostRefuses 
        rw [e_r9, Option.bind_some]
        exact ⟨_, rfl, S_r9⟩
set_option maxHeartbeats 400000 in
theorem z_X9_hasPlace {fp : Nat → Bool} {b : mH} {m : Nat} (i0 : Nat) (x1 : Int32) (h : mH) (S : SI fp b m h)   : ∃ r, f_X9_hasPlace i0 x1 h = some r ∧ r.2 = h ∧ (r.1 = 0 ∨ r.1 = 1) ∧ (r.1.toInt = 0 ∨ (0 ≤ x1.toInt ∧ x1.toInt < 64)) := by
  unfold f_X9_hasPlace
  by_cases q1 : x1 < 0
  · rw [if_pos q1]
    have t2 : (0 : Int32).toInt = 0 := by decide
    first | have hx_3 := i32_hi (x1) | skip
    first | have hx_4 := i32_lo (x1) | skip
    first | have f5 : (x1 : Int32).toInt < (0 : Int32).toInt := Int32.lt_iff_toInt_lt.mp q1 | skip
    have pp6 : ((0 : Int32).toInt = 0 ∨ (0 ≤ x1.toInt ∧ x1.toInt < 64)) := by omega
    exact ⟨_, rfl, rfl, (Or.inl rfl), pp6⟩
  · rw [if_neg q1]
    have t7 : (0 : Int32).toInt = 0 := by decide
    first | have hx_8 := i32_hi (x1) | skip
    first | have hx_9 := i32_lo (x1) | skip
    first | have f10 : (0 : Int32).toInt ≤ (x1 : Int32).toInt := Int32.le_iff_toInt_le.mp (Int32.not_lt.mp q1) | skip
    by_cases q11 : x1 < (h.1 9 i0 1)
    · rw [if_pos q11]
      have b12 : 0 ≤ (h.1 9 i0 1).toInt ∧ (h.1 9 i0 1).toInt ≤ 64 := (S).1 9 i0 1
      first | have hx_13 := i32_hi (h.1 9 i0 1) | skip
      first | have hx_14 := i32_lo (h.1 9 i0 1) | skip
      first | have f15 : (x1 : Int32).toInt < (h.1 9 i0 1 : Int32).toInt := Int32.lt_iff_toInt_lt.mp q11 | skip
      have t16 : (1 : Int32).toInt = 1 := by decide
      have pp17 : ((1 : Int32).toInt = 0 ∨ (0 ≤ x1.toInt ∧ x1.toInt < 64)) := by omega
      exact ⟨_, rfl, rfl, (Or.inr rfl), pp17⟩
    · rw [if_neg q11]
      have b18 : 0 ≤ (h.1 9 i0 1).toInt ∧ (h.1 9 i0 1).toInt ≤ 64 := (S).1 9 i0 1
      first | have hx_19 := i32_hi (h.1 9 i0 1) | skip
      first | have hx_20 := i32_lo (h.1 9 i0 1) | skip
      first | have f21 : (h.1 9 i0 1 : Int32).toInt ≤ (x1 : Int32).toInt := Int32.le_iff_toInt_le.mp (Int32.not_lt.mp q11) | skip
      have pp22 : ((0 : Int32).toInt = 0 ∨ (0 ≤ x1.toInt ∧ x1.toInt < 64)) := by omega
      exact ⟨_, rfl, rfl, (Or.inl rfl), pp22⟩
def W_X11_play_66 : List Nat := [256, 257, 258, 259, 288, 289, 290, 291, 325, 521, 522, 523, 524, 525, 526, 527, 710, 2112, 2176, 2240, 2304, 2368, 2432, 2496, 2560, 2624]
set_option maxHeartbeats 400000 in
theorem z_X11_play_66 {fp : Nat → Bool} {b : mH} {m : Nat} {P : Int32 × mH → Prop} (k : Int32 → Int32 → Int32 → mH → Option (Int32 × mH)) (j4 : Nat) (v2 : Int32) (v3 : Int32) (ff : ∀ c ∈ W_X11_play_66, fp c = false) (cp0 : v3.toInt ≤ 64) (hk : ∀ (v5 : Int32) (h : mH), SI fp b (m + 8145648 * v5.toInt.toNat) h → 0 ≤ v5.toInt → v5.toInt ≤ 64 → ∃ r, k v2 v3 v5 h = some r ∧ P r) (he : ∀ (rv : Int32) (rh : mH), SI fp b (m + 521321472) rh → P (rv, rh)) : ∀ (n : Nat) (v5 : Int32) (h : mH), SI fp b (m + 8145648 * v5.toInt.toNat) h → 0 ≤ v5.toInt → v5.toInt ≤ 64 → 2147483648 - v5.toInt < n → ∃ r, f_X11_play_66 k j4 n v2 v3 v5 h = some r ∧ P r := by
  have ff_X11_hostRefuses : ∀ c ∈ W_X11_hostRefuses, fp c = false := fun c hc => ff c ((by decide : ∀ c ∈ W_X11_hostRefuses, c ∈ W_X11_play_66) c hc)
  have ff_X5_runAct : ∀ c ∈ W_X5_runAct, fp c = false := fun c hc => ff c ((by decide : ∀ c ∈ W_X5_runAct, c ∈ W_X11_play_66) c hc)
  intro n
  induction n with
  | zero =>
    intro v5 h S iv0 iv1 hm
    have hz := i32_hi v5
    omega
  | succ n ih =>
    intro v5 h S iv0 iv1 hm
    rw [f_X11_play_66]
    by_cases q1 : v5 < v3
    · rw [if_pos q1]
      first | have hx_2 := i32_hi (v5) | skip
      first | have hx_3 := i32_lo (v5) | skip
      first | have hx_4 := i32_hi (v3) | skip
      first | have hx_5 := i32_lo (v3) | skip
      first | have f6 : (v5 : Int32).toInt < (v3 : Int32).toInt := Int32.lt_iff_toInt_lt.mp q1 | skip
      first | have o7 : (v2 + v5 : Int32).toInt = (v2 : Int32).toInt + (v5 : Int32).toInt := ti_add (by omega) (by omega) | skip
      obtain ⟨⟨r9v, r9h⟩, e_r9, (hh_r9 : r9h = h), p_r9_0, p_r9_1⟩ := z_X9_hasPlace j4 (v2 + v5) h S  
      replace hh_r9 := hh_r9.symm
      subst hh_r9
      dsimp only at p_r9_0 p_r9_1
      have bb_r9 := bool_bd p_r9_0
      rw [e_r9, Option.bind_some]
      try dsimp only
      by_cases q8 : r9v = 0
      · rw [if_pos q8]
        have t9 : (0 : Int32).toInt = 0 := by decide
        first | have hx_10 := i32_hi (r9v) | skip
        first | have hx_11 := i32_lo (r9v) | skip
        first | have f12 : (r9v : Int32).toInt = (0 : Int32).toInt := congrArg Int32.toInt q8 | skip
        obtain ⟨r16, e_r16, S_r16⟩ := z_X11_hostRefuses (-13) h S ff_X11_hostRefuses 
        rw [e_r16, Option.bind_some]
        exact ⟨_, rfl, he r16.1 r16.2 (SI.mono S_r16 (by omega)) ⟩
      · rw [if_neg q8]
        have t13 : (0 : Int32).toInt = 0 := by decide
        first | have hx_14 := i32_hi (r9v) | skip
        first | have hx_15 := i32_lo (r9v) | skip
        first | have f16 : (r9v : Int32).toInt ≠ (0 : Int32).toInt := ti_ne q8 | skip
        have q17 : mIn (v2 + v5) 64 = true := (mIn_bd (by omega) (by omega))
        rw [if_pos q17]
        obtain ⟨⟨r12v, r12h⟩, e_r12, (hh_r12 : r12h = h), p_r12_0, p_r12_1⟩ := z_X1_hasAct ((h.2 42 j4 (v2 + v5).toNatClampNeg).toInt32) h S  
        replace hh_r12 := hh_r12.symm
        subst hh_r12
        dsimp only at p_r12_0 p_r12_1
        have bb_r12 := bool_bd p_r12_0
        rw [e_r12, Option.bind_some]
        try dsimp only
        by_cases q18 : r12v = 0
        · rw [if_pos q18]
          first | have hx_19 := i32_hi (r12v) | skip
          first | have hx_20 := i32_lo (r12v) | skip
          first | have f21 : (r12v : Int32).toInt = (0 : Int32).toInt := congrArg Int32.toInt q18 | skip
          exact ⟨_, rfl, he v5 h (SI.mono S (by omega)) ⟩
        · rw [if_neg q18]
          first | have hx_22 := i32_hi (r12v) | skip
          first | have hx_23 := i32_lo (r12v) | skip
          first | have f24 : (r12v : Int32).toInt ≠ (0 : Int32).toInt := ti_ne q18 | skip
          obtain ⟨r14, e_r14, S_r14, p_r14_0, fr_r14, tk_r14⟩ := y_X5_runAct ((h.2 42 j4 (v2 + v5).toNatClampNeg).toInt32) h S ff_X5_runAct (by omega)
          rw [e_r14, Option.bind_some]
          have bb_r14 := bool_bd p_r14_0
          by_cases q25 : r14.1 = 0
          · rw [if_pos q25]
            first | have hx_26 := i32_hi (r14.1) | skip
            first | have hx_27 := i32_lo (r14.1) | skip
            first | have f28 : (r14.1 : Int32).toInt = (0 : Int32).toInt := congrArg Int32.toInt q25 | skip
            exact ⟨_, rfl, he v5 r14.2 (SI.mono S_r14 (by omega)) ⟩
          · rw [if_neg q25]
            first | have hx_29 := i32_hi (r14.1) | skip
            first | have hx_30 := i32_lo (r14.1) | skip
            first | have f31 : (r14.1 : Int32).toInt ≠ (0 : Int32).toInt := ti_ne q25 | skip
            have t32 : (1 : Int32).toInt = 1 := by decide
            first | have o33 : (v5 + 1 : Int32).toInt = (v5 : Int32).toInt + (1 : Int32).toInt := ti_add (by omega) (by omega) | skip
            exact ih (v5 + 1) r14.2 (SI.mono S_r14 (by omega)) (by omega) (by omega) (by omega)
    · rw [if_neg q1]
      first | have hx_34 := i32_hi (v5) | skip
      first | have hx_35 := i32_lo (v5) | skip
      first | have hx_36 := i32_hi (v3) | skip
      first | have hx_37 := i32_lo (v3) | skip
      first | have f38 : (v3 : Int32).toInt ≤ (v5 : Int32).toInt := Int32.le_iff_toInt_le.mp (Int32.not_lt.mp q1) | skip
      exact hk v5 h S iv0 iv1
def W_X11_play : List Nat := [73, 193, 194, 195, 196, 197, 256, 257, 258, 259, 288, 289, 290, 291, 325, 521, 522, 523, 524, 525, 526, 527, 710, 2048, 2112, 2176, 2240, 2304, 2368, 2432, 2496, 2560, 2624]
set_option maxHeartbeats 400000 in
theorem z_X11_play {fp : Nat → Bool} {b : mH} {m : Nat} (x1 : Int32) (x2 : Int32) (x3 : Int32) (h : mH) (S : SI fp b m h) (ff : ∀ c ∈ W_X11_play, fp c = false)  : ∃ r, f_X11_play x1 x2 x3 h = some r ∧ SI fp b (m + 521321472) r.2 := by
  have ff_X11_hostRefuses : ∀ c ∈ W_X11_hostRefuses, fp c = false := fun c hc => ff c ((by decide : ∀ c ∈ W_X11_hostRefuses, c ∈ W_X11_play) c hc)
  have ff_X11_play_66 : ∀ c ∈ W_X11_play_66, fp c = false := fun c hc => ff c ((by decide : ∀ c ∈ W_X11_play_66, c ∈ W_X11_play) c hc)
  have ff_X1_makeCode : ∀ c ∈ W_X1_makeCode, fp c = false := fun c hc => ff c ((by decide : ∀ c ∈ W_X1_makeCode, c ∈ W_X11_play) c hc)
  unfold f_X11_play
  obtain ⟨⟨r1v, r1h⟩, e_r1, (hh_r1 : r1h = h), p_r1_0, p_r1_1⟩ := z_X11_isTape x1 h S  
  replace hh_r1 := hh_r1.symm
  subst hh_r1
  dsimp only at p_r1_0 p_r1_1
  have bb_r1 := bool_bd p_r1_0
  rw [e_r1, Option.bind_some]
  try dsimp only
  by_cases q1 : r1v = 0
  · rw [if_pos q1]
    have t2 : (0 : Int32).toInt = 0 := by decide
    first | have hx_3 := i32_hi (r1v) | skip
    first | have hx_4 := i32_lo (r1v) | skip
    first | have f5 : (r1v : Int32).toInt = (0 : Int32).toInt := congrArg Int32.toInt q1 | skip
    exact ⟨_, rfl, (SI.mono S (by omega))⟩
  · rw [if_neg q1]
    have t6 : (0 : Int32).toInt = 0 := by decide
    first | have hx_7 := i32_hi (r1v) | skip
    first | have hx_8 := i32_lo (r1v) | skip
    first | have f9 : (r1v : Int32).toInt ≠ (0 : Int32).toInt := ti_ne q1 | skip
    by_cases q10 : x3 < 0
    · rw [if_pos q10]
      first | have hx_11 := i32_hi (x3) | skip
      first | have hx_12 := i32_lo (x3) | skip
      first | have f13 : (x3 : Int32).toInt < (0 : Int32).toInt := Int32.lt_iff_toInt_lt.mp q10 | skip
      exact ⟨_, rfl, (SI.mono S (by omega))⟩
    · rw [if_neg q10]
      first | have hx_14 := i32_hi (x3) | skip
      first | have hx_15 := i32_lo (x3) | skip
      first | have f16 : (0 : Int32).toInt ≤ (x3 : Int32).toInt := Int32.le_iff_toInt_le.mp (Int32.not_lt.mp q10) | skip
      by_cases q17 : x3 ≤ 64
      · rw [if_pos q17]
        have t18 : (64 : Int32).toInt = 64 := by decide
        first | have f19 : (x3 : Int32).toInt ≤ (64 : Int32).toInt := Int32.le_iff_toInt_le.mp q17 | skip
        have q20 : mIn x1 6 = true := (mIn_bd (by omega) (by omega))
        rw [if_pos q20]
        by_cases q21 : (h.1 9 x1.toNatClampNeg 0) = 3
        · rw [if_pos q21]
          have b22 : 0 ≤ (h.1 9 x1.toNatClampNeg 0).toInt ∧ (h.1 9 x1.toNatClampNeg 0).toInt ≤ 5 := (S).1 9 x1.toNatClampNeg 0
          have t23 : (3 : Int32).toInt = 3 := by decide
          first | have hx_24 := i32_hi (h.1 9 x1.toNatClampNeg 0) | skip
          first | have hx_25 := i32_lo (h.1 9 x1.toNatClampNeg 0) | skip
          first | have f26 : (h.1 9 x1.toNatClampNeg 0 : Int32).toInt = (3 : Int32).toInt := congrArg Int32.toInt q21 | skip
          obtain ⟨r7, e_r7, S_r7, fr_r7⟩ := y_X1_makeCode  h S ff_X1_makeCode 
          rw [e_r7, Option.bind_some]
          refine z_X11_play_66 (m := m) _ x1.toNatClampNeg x2 x3 ff_X11_play_66 (by omega) (fun u19 h20 S_h20 y27 y28 => ?_) (fun rv rh SS  => SS.mono (by omega)) mFu 0 r7 (SI.mono S_r7 (by omega)) (by omega) (by omega) (by have := mFu_big; omega)
          try dsimp only
          exact ⟨_, rfl, (SI.mono S_h20 (by omega))⟩
        · rw [if_neg q21]
          have b29 : 0 ≤ (h.1 9 x1.toNatClampNeg 0).toInt ∧ (h.1 9 x1.toNatClampNeg 0).toInt ≤ 5 := (S).1 9 x1.toNatClampNeg 0
          have t30 : (3 : Int32).toInt = 3 := by decide
          first | have hx_31 := i32_hi (h.1 9 x1.toNatClampNeg 0) | skip
          first | have hx_32 := i32_lo (h.1 9 x1.toNatClampNeg 0) | skip
          first | have f33 : (h.1 9 x1.toNatClampNeg 0 : Int32).toInt ≠ (3 : Int32).toInt := ti_ne q21 | skip
          by_cases q34 : (h.1 9 x1.toNatClampNeg 0) = 0
          · rw [if_pos q34]
            first | have f35 : (h.1 9 x1.toNatClampNeg 0 : Int32).toInt = (0 : Int32).toInt := congrArg Int32.toInt q34 | skip
            obtain ⟨r23, e_r23, S_r23⟩ := z_X11_hostRefuses (-11) h S ff_X11_hostRefuses 
            rw [e_r23, Option.bind_some]
            exact ⟨_, rfl, (SI.mono S_r23 (by omega))⟩
          · rw [if_neg q34]
            first | have f36 : (h.1 9 x1.toNatClampNeg 0 : Int32).toInt ≠ (0 : Int32).toInt := ti_ne q34 | skip
            obtain ⟨r22, e_r22, S_r22⟩ := z_X11_hostRefuses (-12) h S ff_X11_hostRefuses 
            rw [e_r22, Option.bind_some]
            exact ⟨_, rfl, (SI.mono S_r22 (by omega))⟩
      · rw [if_neg q17]
        have t37 : (64 : Int32).toInt = 64 := by decide
        first | have f38 : (64 : Int32).toInt < (x3 : Int32).toInt := Int32.lt_iff_toInt_lt.mp (Int32.not_le.mp q17) | skip
        exact ⟨_, rfl, (SI.mono S (by omega))⟩
def W_X11_clear : List Nat := [576]
set_option maxHeartbeats 400000 in
theorem z_X11_clear {fp : Nat → Bool} {b : mH} {m : Nat} (x1 : Int32) (h : mH) (S : SI fp b m h) (ff : ∀ c ∈ W_X11_clear, fp c = false)  : ∃ r, f_X11_clear x1 h = some r ∧ SI fp b m r.2 := by
  have w576 : fp 576 = false := ff 576 (by decide)
  unfold f_X11_clear
  obtain ⟨⟨r1v, r1h⟩, e_r1, (hh_r1 : r1h = h), p_r1_0, p_r1_1⟩ := z_X11_isTape x1 h S  
  replace hh_r1 := hh_r1.symm
  subst hh_r1
  dsimp only at p_r1_0 p_r1_1
  have bb_r1 := bool_bd p_r1_0
  rw [e_r1, Option.bind_some]
  try dsimp only
  by_cases q1 : r1v = 0
  · rw [if_pos q1]
    have t2 : (0 : Int32).toInt = 0 := by decide
    first | have hx_3 := i32_hi (r1v) | skip
    first | have hx_4 := i32_lo (r1v) | skip
    first | have f5 : (r1v : Int32).toInt = (0 : Int32).toInt := congrArg Int32.toInt q1 | skip
    exact ⟨_, rfl, S⟩
  · rw [if_neg q1]
    have t6 : (0 : Int32).toInt = 0 := by decide
    first | have hx_7 := i32_hi (r1v) | skip
    first | have hx_8 := i32_lo (r1v) | skip
    first | have f9 : (r1v : Int32).toInt ≠ (0 : Int32).toInt := ti_ne q1 | skip
    have q10 : mIn x1 6 = true := (mIn_bd (by omega) (by omega))
    rw [if_pos q10]
    have w_11 : 0 ≤ (0 : Int32).toInt ∧ (0 : Int32).toInt ≤ 5 := by omega
    exact ⟨_, rfl, (SI.u S rfl w576 w_11)⟩
set_option maxHeartbeats 400000 in
theorem z_X9_holdsRow {fp : Nat → Bool} {b : mH} {m : Nat} (i0 : Nat) (h : mH) (S : SI fp b m h)   : ∃ r, f_X9_holdsRow i0 h = some r ∧ r.2 = h ∧ (r.1 = 0 ∨ r.1 = 1) := by
  unfold f_X9_holdsRow
  by_cases q1 : (h.1 9 i0 0) < 1
  · rw [if_pos q1]
    have b2 : 0 ≤ (h.1 9 i0 0).toInt ∧ (h.1 9 i0 0).toInt ≤ 5 := (S).1 9 i0 0
    have t3 : (1 : Int32).toInt = 1 := by decide
    first | have hx_4 := i32_hi (h.1 9 i0 0) | skip
    first | have hx_5 := i32_lo (h.1 9 i0 0) | skip
    first | have f6 : (h.1 9 i0 0 : Int32).toInt < (1 : Int32).toInt := Int32.lt_iff_toInt_lt.mp q1 | skip
    have t7 : (0 : Int32).toInt = 0 := by decide
    exact ⟨_, rfl, rfl, (Or.inl rfl)⟩
  · rw [if_neg q1]
    have b8 : 0 ≤ (h.1 9 i0 0).toInt ∧ (h.1 9 i0 0).toInt ≤ 5 := (S).1 9 i0 0
    have t9 : (1 : Int32).toInt = 1 := by decide
    first | have hx_10 := i32_hi (h.1 9 i0 0) | skip
    first | have hx_11 := i32_lo (h.1 9 i0 0) | skip
    first | have f12 : (1 : Int32).toInt ≤ (h.1 9 i0 0 : Int32).toInt := Int32.le_iff_toInt_le.mp (Int32.not_lt.mp q1) | skip
    by_cases q13 : (h.1 9 i0 0) ≤ 4
    · rw [if_pos q13]
      have t14 : (4 : Int32).toInt = 4 := by decide
      first | have f15 : (h.1 9 i0 0 : Int32).toInt ≤ (4 : Int32).toInt := Int32.le_iff_toInt_le.mp q13 | skip
      exact ⟨_, rfl, rfl, (Or.inr rfl)⟩
    · rw [if_neg q13]
      have t16 : (4 : Int32).toInt = 4 := by decide
      first | have f17 : (4 : Int32).toInt < (h.1 9 i0 0 : Int32).toInt := Int32.lt_iff_toInt_lt.mp (Int32.not_le.mp q13) | skip
      have t18 : (0 : Int32).toInt = 0 := by decide
      exact ⟨_, rfl, rfl, (Or.inl rfl)⟩
set_option maxHeartbeats 400000 in
theorem z_X9_narrowed {fp : Nat → Bool} {b : mH} {m : Nat} (i0 : Nat) (x1 : Int64) (h : mH) (S : SI fp b m h)   : ∃ r, f_X9_narrowed i0 x1 h = some r ∧ r.2 = h := by
  unfold f_X9_narrowed
  by_cases q1 : (h.1 9 i0 0) = 1
  · rw [if_pos q1]
    have b2 : 0 ≤ (h.1 9 i0 0).toInt ∧ (h.1 9 i0 0).toInt ≤ 5 := (S).1 9 i0 0
    have t3 : (1 : Int32).toInt = 1 := by decide
    first | have hx_4 := i32_hi (h.1 9 i0 0) | skip
    first | have hx_5 := i32_lo (h.1 9 i0 0) | skip
    first | have f6 : (h.1 9 i0 0 : Int32).toInt = (1 : Int32).toInt := congrArg Int32.toInt q1 | skip
    exact ⟨_, rfl, rfl⟩
  · rw [if_neg q1]
    have b7 : 0 ≤ (h.1 9 i0 0).toInt ∧ (h.1 9 i0 0).toInt ≤ 5 := (S).1 9 i0 0
    have t8 : (1 : Int32).toInt = 1 := by decide
    first | have hx_9 := i32_hi (h.1 9 i0 0) | skip
    first | have hx_10 := i32_lo (h.1 9 i0 0) | skip
    first | have f11 : (h.1 9 i0 0 : Int32).toInt ≠ (1 : Int32).toInt := ti_ne q1 | skip
    by_cases q12 : (h.1 9 i0 0) = 2
    · rw [if_pos q12]
      have t13 : (2 : Int32).toInt = 2 := by decide
      first | have f14 : (h.1 9 i0 0 : Int32).toInt = (2 : Int32).toInt := congrArg Int32.toInt q12 | skip
      exact ⟨_, rfl, rfl⟩
    · rw [if_neg q12]
      have t15 : (2 : Int32).toInt = 2 := by decide
      first | have f16 : (h.1 9 i0 0 : Int32).toInt ≠ (2 : Int32).toInt := ti_ne q12 | skip
      by_cases q17 : (h.1 9 i0 0) = 3
      · rw [if_pos q17]
        have t18 : (3 : Int32).toInt = 3 := by decide
        first | have f19 : (h.1 9 i0 0 : Int32).toInt = (3 : Int32).toInt := congrArg Int32.toInt q17 | skip
        exact ⟨_, rfl, rfl⟩
      · rw [if_neg q17]
        have t20 : (3 : Int32).toInt = 3 := by decide
        first | have f21 : (h.1 9 i0 0 : Int32).toInt ≠ (3 : Int32).toInt := ti_ne q17 | skip
        exact ⟨_, rfl, rfl⟩
def W_X11_put : List Nat := [710, 2688]
set_option maxHeartbeats 400000 in
theorem z_X11_put {fp : Nat → Bool} {b : mH} {m : Nat} (x1 : Int32) (x2 : Int32) (x3 : Int64) (h : mH) (S : SI fp b m h) (ff : ∀ c ∈ W_X11_put, fp c = false)  : ∃ r, f_X11_put x1 x2 x3 h = some r ∧ SI fp b m r.2 := by
  have ff_X11_hostRefuses : ∀ c ∈ W_X11_hostRefuses, fp c = false := fun c hc => ff c ((by decide : ∀ c ∈ W_X11_hostRefuses, c ∈ W_X11_put) c hc)
  have w2688 : fp 2688 = false := ff 2688 (by decide)
  unfold f_X11_put
  obtain ⟨⟨r1v, r1h⟩, e_r1, (hh_r1 : r1h = h), p_r1_0, p_r1_1⟩ := z_X11_isTape x1 h S  
  replace hh_r1 := hh_r1.symm
  subst hh_r1
  dsimp only at p_r1_0 p_r1_1
  have bb_r1 := bool_bd p_r1_0
  rw [e_r1, Option.bind_some]
  try dsimp only
  by_cases q1 : r1v = 0
  · rw [if_pos q1]
    have t2 : (0 : Int32).toInt = 0 := by decide
    first | have hx_3 := i32_hi (r1v) | skip
    first | have hx_4 := i32_lo (r1v) | skip
    first | have f5 : (r1v : Int32).toInt = (0 : Int32).toInt := congrArg Int32.toInt q1 | skip
    exact ⟨_, rfl, S⟩
  · rw [if_neg q1]
    have t6 : (0 : Int32).toInt = 0 := by decide
    first | have hx_7 := i32_hi (r1v) | skip
    first | have hx_8 := i32_lo (r1v) | skip
    first | have f9 : (r1v : Int32).toInt ≠ (0 : Int32).toInt := ti_ne q1 | skip
    have q10 : mIn x1 6 = true := (mIn_bd (by omega) (by omega))
    rw [if_pos q10]
    obtain ⟨⟨r4v, r4h⟩, e_r4, (hh_r4 : r4h = h), p_r4_0⟩ := z_X9_holdsRow x1.toNatClampNeg h S  
    replace hh_r4 := hh_r4.symm
    subst hh_r4
    dsimp only at p_r4_0
    have bb_r4 := bool_bd p_r4_0
    rw [e_r4, Option.bind_some]
    try dsimp only
    by_cases q11 : r4v = 0
    · rw [if_pos q11]
      first | have hx_12 := i32_hi (r4v) | skip
      first | have hx_13 := i32_lo (r4v) | skip
      first | have f14 : (r4v : Int32).toInt = (0 : Int32).toInt := congrArg Int32.toInt q11 | skip
      by_cases q15 : (h.1 9 x1.toNatClampNeg 0) = 0
      · rw [if_pos q15]
        have b16 : 0 ≤ (h.1 9 x1.toNatClampNeg 0).toInt ∧ (h.1 9 x1.toNatClampNeg 0).toInt ≤ 5 := (S).1 9 x1.toNatClampNeg 0
        first | have hx_17 := i32_hi (h.1 9 x1.toNatClampNeg 0) | skip
        first | have hx_18 := i32_lo (h.1 9 x1.toNatClampNeg 0) | skip
        first | have f19 : (h.1 9 x1.toNatClampNeg 0 : Int32).toInt = (0 : Int32).toInt := congrArg Int32.toInt q15 | skip
        obtain ⟨r13, e_r13, S_r13⟩ := z_X11_hostRefuses (-11) h S ff_X11_hostRefuses 
        rw [e_r13, Option.bind_some]
        exact ⟨_, rfl, S_r13⟩
      · rw [if_neg q15]
        have b20 : 0 ≤ (h.1 9 x1.toNatClampNeg 0).toInt ∧ (h.1 9 x1.toNatClampNeg 0).toInt ≤ 5 := (S).1 9 x1.toNatClampNeg 0
        first | have hx_21 := i32_hi (h.1 9 x1.toNatClampNeg 0) | skip
        first | have hx_22 := i32_lo (h.1 9 x1.toNatClampNeg 0) | skip
        first | have f23 : (h.1 9 x1.toNatClampNeg 0 : Int32).toInt ≠ (0 : Int32).toInt := ti_ne q15 | skip
        obtain ⟨r12, e_r12, S_r12⟩ := z_X11_hostRefuses (-12) h S ff_X11_hostRefuses 
        rw [e_r12, Option.bind_some]
        exact ⟨_, rfl, S_r12⟩
    · rw [if_neg q11]
      first | have hx_24 := i32_hi (r4v) | skip
      first | have hx_25 := i32_lo (r4v) | skip
      first | have f26 : (r4v : Int32).toInt ≠ (0 : Int32).toInt := ti_ne q11 | skip
      obtain ⟨⟨r6v, r6h⟩, e_r6, (hh_r6 : r6h = h), p_r6_0, p_r6_1⟩ := z_X9_hasPlace x1.toNatClampNeg x2 h S  
      replace hh_r6 := hh_r6.symm
      subst hh_r6
      dsimp only at p_r6_0 p_r6_1
      have bb_r6 := bool_bd p_r6_0
      rw [e_r6, Option.bind_some]
      try dsimp only
      by_cases q27 : r6v = 0
      · rw [if_pos q27]
        first | have hx_28 := i32_hi (r6v) | skip
        first | have hx_29 := i32_lo (r6v) | skip
        first | have f30 : (r6v : Int32).toInt = (0 : Int32).toInt := congrArg Int32.toInt q27 | skip
        obtain ⟨r10, e_r10, S_r10⟩ := z_X11_hostRefuses (-13) h S ff_X11_hostRefuses 
        rw [e_r10, Option.bind_some]
        exact ⟨_, rfl, S_r10⟩
      · rw [if_neg q27]
        first | have hx_31 := i32_hi (r6v) | skip
        first | have hx_32 := i32_lo (r6v) | skip
        first | have f33 : (r6v : Int32).toInt ≠ (0 : Int32).toInt := ti_ne q27 | skip
        obtain ⟨⟨r8v, r8h⟩, e_r8, (hh_r8 : r8h = h)⟩ := z_X9_narrowed x1.toNatClampNeg x3 h S  
        replace hh_r8 := hh_r8.symm
        subst hh_r8
        rw [e_r8, Option.bind_some]
        try dsimp only
        have q34 : mIn x2 64 = true := (mIn_bd (by omega) (by omega))
        rw [if_pos q34]
        exact ⟨_, rfl, (SI.j S rfl w2688)⟩
set_option maxHeartbeats 400000 in
theorem z_X9_hasPlaces {fp : Nat → Bool} {b : mH} {m : Nat} (i0 : Nat) (x1 : Int32) (x2 : Int32) (h : mH) (S : SI fp b m h)   : ∃ r, f_X9_hasPlaces i0 x1 x2 h = some r ∧ r.2 = h ∧ (r.1 = 0 ∨ r.1 = 1) ∧ (r.1.toInt = 0 ∨ (0 ≤ x1.toInt ∧ 0 ≤ x2.toInt ∧ x1.toInt + x2.toInt ≤ 64)) := by
  unfold f_X9_hasPlaces
  by_cases q1 : x2 < 0
  · rw [if_pos q1]
    have t2 : (0 : Int32).toInt = 0 := by decide
    first | have hx_3 := i32_hi (x2) | skip
    first | have hx_4 := i32_lo (x2) | skip
    first | have f5 : (x2 : Int32).toInt < (0 : Int32).toInt := Int32.lt_iff_toInt_lt.mp q1 | skip
    have pp6 : ((0 : Int32).toInt = 0 ∨ (0 ≤ x1.toInt ∧ 0 ≤ x2.toInt ∧ x1.toInt + x2.toInt ≤ 64)) := by omega
    exact ⟨_, rfl, rfl, (Or.inl rfl), pp6⟩
  · rw [if_neg q1]
    have t7 : (0 : Int32).toInt = 0 := by decide
    first | have hx_8 := i32_hi (x2) | skip
    first | have hx_9 := i32_lo (x2) | skip
    first | have f10 : (0 : Int32).toInt ≤ (x2 : Int32).toInt := Int32.le_iff_toInt_le.mp (Int32.not_lt.mp q1) | skip
    by_cases q11 : x1 < 0
    · rw [if_pos q11]
      first | have hx_12 := i32_hi (x1) | skip
      first | have hx_13 := i32_lo (x1) | skip
      first | have f14 : (x1 : Int32).toInt < (0 : Int32).toInt := Int32.lt_iff_toInt_lt.mp q11 | skip
      have pp15 : ((0 : Int32).toInt = 0 ∨ (0 ≤ x1.toInt ∧ 0 ≤ x2.toInt ∧ x1.toInt + x2.toInt ≤ 64)) := by omega
      exact ⟨_, rfl, rfl, (Or.inl rfl), pp15⟩
    · rw [if_neg q11]
      first | have hx_16 := i32_hi (x1) | skip
      first | have hx_17 := i32_lo (x1) | skip
      first | have f18 : (0 : Int32).toInt ≤ (x1 : Int32).toInt := Int32.le_iff_toInt_le.mp (Int32.not_lt.mp q11) | skip
      by_cases q19 : x2 ≤ (h.1 9 i0 1)
      · rw [if_pos q19]
        have b20 : 0 ≤ (h.1 9 i0 1).toInt ∧ (h.1 9 i0 1).toInt ≤ 64 := (S).1 9 i0 1
        first | have hx_21 := i32_hi (h.1 9 i0 1) | skip
        first | have hx_22 := i32_lo (h.1 9 i0 1) | skip
        first | have f23 : (x2 : Int32).toInt ≤ (h.1 9 i0 1 : Int32).toInt := Int32.le_iff_toInt_le.mp q19 | skip
        by_cases q24 : x1 ≤ ((h.1 9 i0 1) - x2)
        · rw [if_pos q24]
          first | have o25 : ((h.1 9 i0 1) - x2 : Int32).toInt = (h.1 9 i0 1 : Int32).toInt - (x2 : Int32).toInt := ti_sub (by omega) (by omega) | skip
          first | have hx_26 := i32_hi ((h.1 9 i0 1) - x2) | skip
          first | have hx_27 := i32_lo ((h.1 9 i0 1) - x2) | skip
          first | have f28 : (x1 : Int32).toInt ≤ ((h.1 9 i0 1) - x2 : Int32).toInt := Int32.le_iff_toInt_le.mp q24 | skip
          have t29 : (1 : Int32).toInt = 1 := by decide
          have pp30 : ((1 : Int32).toInt = 0 ∨ (0 ≤ x1.toInt ∧ 0 ≤ x2.toInt ∧ x1.toInt + x2.toInt ≤ 64)) := by omega
          exact ⟨_, rfl, rfl, (Or.inr rfl), pp30⟩
        · rw [if_neg q24]
          first | have o31 : ((h.1 9 i0 1) - x2 : Int32).toInt = (h.1 9 i0 1 : Int32).toInt - (x2 : Int32).toInt := ti_sub (by omega) (by omega) | skip
          first | have hx_32 := i32_hi ((h.1 9 i0 1) - x2) | skip
          first | have hx_33 := i32_lo ((h.1 9 i0 1) - x2) | skip
          first | have f34 : ((h.1 9 i0 1) - x2 : Int32).toInt < (x1 : Int32).toInt := Int32.lt_iff_toInt_lt.mp (Int32.not_le.mp q24) | skip
          have pp35 : ((0 : Int32).toInt = 0 ∨ (0 ≤ x1.toInt ∧ 0 ≤ x2.toInt ∧ x1.toInt + x2.toInt ≤ 64)) := by omega
          exact ⟨_, rfl, rfl, (Or.inl rfl), pp35⟩
      · rw [if_neg q19]
        have b36 : 0 ≤ (h.1 9 i0 1).toInt ∧ (h.1 9 i0 1).toInt ≤ 64 := (S).1 9 i0 1
        first | have hx_37 := i32_hi (h.1 9 i0 1) | skip
        first | have hx_38 := i32_lo (h.1 9 i0 1) | skip
        first | have f39 : (h.1 9 i0 1 : Int32).toInt < (x2 : Int32).toInt := Int32.lt_iff_toInt_lt.mp (Int32.not_le.mp q19) | skip
        have pp40 : ((0 : Int32).toInt = 0 ∨ (0 ≤ x1.toInt ∧ 0 ≤ x2.toInt ∧ x1.toInt + x2.toInt ≤ 64)) := by omega
        exact ⟨_, rfl, rfl, (Or.inl rfl), pp40⟩
def W_X11_copy : List Nat := [710, 2688]
set_option maxHeartbeats 400000 in
theorem z_X11_copy {fp : Nat → Bool} {b : mH} {m : Nat} (x1 : Int32) (x2 : Int32) (x3 : Int32) (x4 : Int32) (x5 : Int32) (h : mH) (S : SI fp b m h) (ff : ∀ c ∈ W_X11_copy, fp c = false)  : ∃ r, f_X11_copy x1 x2 x3 x4 x5 h = some r ∧ SI fp b m r.2 := by
  have ff_X11_hostRefuses : ∀ c ∈ W_X11_hostRefuses, fp c = false := fun c hc => ff c ((by decide : ∀ c ∈ W_X11_hostRefuses, c ∈ W_X11_copy) c hc)
  have w2688 : fp 2688 = false := ff 2688 (by decide)
  unfold f_X11_copy
  obtain ⟨⟨r1v, r1h⟩, e_r1, (hh_r1 : r1h = h), p_r1_0, p_r1_1⟩ := z_X11_isTape x1 h S  
  replace hh_r1 := hh_r1.symm
  subst hh_r1
  dsimp only at p_r1_0 p_r1_1
  have bb_r1 := bool_bd p_r1_0
  rw [e_r1, Option.bind_some]
  try dsimp only
  by_cases q1 : r1v = 0
  · rw [if_pos q1]
    have t2 : (0 : Int32).toInt = 0 := by decide
    first | have hx_3 := i32_hi (r1v) | skip
    first | have hx_4 := i32_lo (r1v) | skip
    first | have f5 : (r1v : Int32).toInt = (0 : Int32).toInt := congrArg Int32.toInt q1 | skip
    exact ⟨_, rfl, S⟩
  · rw [if_neg q1]
    have t6 : (0 : Int32).toInt = 0 := by decide
    first | have hx_7 := i32_hi (r1v) | skip
    first | have hx_8 := i32_lo (r1v) | skip
    first | have f9 : (r1v : Int32).toInt ≠ (0 : Int32).toInt := ti_ne q1 | skip
    obtain ⟨⟨r3v, r3h⟩, e_r3, (hh_r3 : r3h = h), p_r3_0, p_r3_1⟩ := z_X11_isTape x3 h S  
    replace hh_r3 := hh_r3.symm
    subst hh_r3
    dsimp only at p_r3_0 p_r3_1
    have bb_r3 := bool_bd p_r3_0
    rw [e_r3, Option.bind_some]
    try dsimp only
    by_cases q10 : r3v = 0
    · rw [if_pos q10]
      first | have hx_11 := i32_hi (r3v) | skip
      first | have hx_12 := i32_lo (r3v) | skip
      first | have f13 : (r3v : Int32).toInt = (0 : Int32).toInt := congrArg Int32.toInt q10 | skip
      exact ⟨_, rfl, S⟩
    · rw [if_neg q10]
      first | have hx_14 := i32_hi (r3v) | skip
      first | have hx_15 := i32_lo (r3v) | skip
      first | have f16 : (r3v : Int32).toInt ≠ (0 : Int32).toInt := ti_ne q10 | skip
      have q17 : mIn x1 6 = true := (mIn_bd (by omega) (by omega))
      rw [if_pos q17]
      have q18 : mIn x3 6 = true := (mIn_bd (by omega) (by omega))
      rw [if_pos q18]
      by_cases q19 : (h.1 9 x1.toNatClampNeg 0) = 0
      · rw [if_pos q19]
        have b20 : 0 ≤ (h.1 9 x1.toNatClampNeg 0).toInt ∧ (h.1 9 x1.toNatClampNeg 0).toInt ≤ 5 := (S).1 9 x1.toNatClampNeg 0
        first | have hx_21 := i32_hi (h.1 9 x1.toNatClampNeg 0) | skip
        first | have hx_22 := i32_lo (h.1 9 x1.toNatClampNeg 0) | skip
        first | have f23 : (h.1 9 x1.toNatClampNeg 0 : Int32).toInt = (0 : Int32).toInt := congrArg Int32.toInt q19 | skip
        obtain ⟨r8, e_r8, S_r8⟩ := z_X11_hostRefuses (-11) h S ff_X11_hostRefuses 
        rw [e_r8, Option.bind_some]
        exact ⟨_, rfl, S_r8⟩
      · rw [if_neg q19]
        have b24 : 0 ≤ (h.1 9 x1.toNatClampNeg 0).toInt ∧ (h.1 9 x1.toNatClampNeg 0).toInt ≤ 5 := (S).1 9 x1.toNatClampNeg 0
        first | have hx_25 := i32_hi (h.1 9 x1.toNatClampNeg 0) | skip
        first | have hx_26 := i32_lo (h.1 9 x1.toNatClampNeg 0) | skip
        first | have f27 : (h.1 9 x1.toNatClampNeg 0 : Int32).toInt ≠ (0 : Int32).toInt := ti_ne q19 | skip
        by_cases q28 : (h.1 9 x3.toNatClampNeg 0) = 0
        · rw [if_pos q28]
          have b29 : 0 ≤ (h.1 9 x3.toNatClampNeg 0).toInt ∧ (h.1 9 x3.toNatClampNeg 0).toInt ≤ 5 := (S).1 9 x3.toNatClampNeg 0
          first | have hx_30 := i32_hi (h.1 9 x3.toNatClampNeg 0) | skip
          first | have hx_31 := i32_lo (h.1 9 x3.toNatClampNeg 0) | skip
          first | have f32 : (h.1 9 x3.toNatClampNeg 0 : Int32).toInt = (0 : Int32).toInt := congrArg Int32.toInt q28 | skip
          obtain ⟨r22, e_r22, S_r22⟩ := z_X11_hostRefuses (-11) h S ff_X11_hostRefuses 
          rw [e_r22, Option.bind_some]
          exact ⟨_, rfl, S_r22⟩
        · rw [if_neg q28]
          have b33 : 0 ≤ (h.1 9 x3.toNatClampNeg 0).toInt ∧ (h.1 9 x3.toNatClampNeg 0).toInt ≤ 5 := (S).1 9 x3.toNatClampNeg 0
          first | have hx_34 := i32_hi (h.1 9 x3.toNatClampNeg 0) | skip
          first | have hx_35 := i32_lo (h.1 9 x3.toNatClampNeg 0) | skip
          first | have f36 : (h.1 9 x3.toNatClampNeg 0 : Int32).toInt ≠ (0 : Int32).toInt := ti_ne q28 | skip
          obtain ⟨⟨r10v, r10h⟩, e_r10, (hh_r10 : r10h = h), p_r10_0⟩ := z_X9_holdsRow x1.toNatClampNeg h S  
          replace hh_r10 := hh_r10.symm
          subst hh_r10
          dsimp only at p_r10_0
          have bb_r10 := bool_bd p_r10_0
          rw [e_r10, Option.bind_some]
          try dsimp only
          by_cases q37 : r10v = 0
          · rw [if_pos q37]
            first | have hx_38 := i32_hi (r10v) | skip
            first | have hx_39 := i32_lo (r10v) | skip
            first | have f40 : (r10v : Int32).toInt = (0 : Int32).toInt := congrArg Int32.toInt q37 | skip
            obtain ⟨r12, e_r12, S_r12⟩ := z_X11_hostRefuses (-12) h S ff_X11_hostRefuses 
            rw [e_r12, Option.bind_some]
            exact ⟨_, rfl, S_r12⟩
          · rw [if_neg q37]
            first | have hx_41 := i32_hi (r10v) | skip
            first | have hx_42 := i32_lo (r10v) | skip
            first | have f43 : (r10v : Int32).toInt ≠ (0 : Int32).toInt := ti_ne q37 | skip
            by_cases q44 : (h.1 9 x1.toNatClampNeg 0) = (h.1 9 x3.toNatClampNeg 0)
            · rw [if_pos q44]
              first | have f45 : (h.1 9 x1.toNatClampNeg 0 : Int32).toInt = (h.1 9 x3.toNatClampNeg 0 : Int32).toInt := congrArg Int32.toInt q44 | skip
              obtain ⟨⟨r14v, r14h⟩, e_r14, (hh_r14 : r14h = h), p_r14_0, p_r14_1⟩ := z_X9_hasPlaces x1.toNatClampNeg x2 x5 h S  
              replace hh_r14 := hh_r14.symm
              subst hh_r14
              dsimp only at p_r14_0 p_r14_1
              have bb_r14 := bool_bd p_r14_0
              rw [e_r14, Option.bind_some]
              try dsimp only
              by_cases q46 : r14v = 0
              · rw [if_pos q46]
                first | have hx_47 := i32_hi (r14v) | skip
                first | have hx_48 := i32_lo (r14v) | skip
                first | have f49 : (r14v : Int32).toInt = (0 : Int32).toInt := congrArg Int32.toInt q46 | skip
                obtain ⟨r16, e_r16, S_r16⟩ := z_X11_hostRefuses (-13) h S ff_X11_hostRefuses 
                rw [e_r16, Option.bind_some]
                exact ⟨_, rfl, S_r16⟩
              · rw [if_neg q46]
                first | have hx_50 := i32_hi (r14v) | skip
                first | have hx_51 := i32_lo (r14v) | skip
                first | have f52 : (r14v : Int32).toInt ≠ (0 : Int32).toInt := ti_ne q46 | skip
                obtain ⟨⟨r17v, r17h⟩, e_r17, (hh_r17 : r17h = h), p_r17_0, p_r17_1⟩ := z_X9_hasPlaces x3.toNatClampNeg x4 x5 h S  
                replace hh_r17 := hh_r17.symm
                subst hh_r17
                dsimp only at p_r17_0 p_r17_1
                have bb_r17 := bool_bd p_r17_0
                rw [e_r17, Option.bind_some]
                try dsimp only
                by_cases q53 : r17v = 0
                · rw [if_pos q53]
                  first | have hx_54 := i32_hi (r17v) | skip
                  first | have hx_55 := i32_lo (r17v) | skip
                  first | have f56 : (r17v : Int32).toInt = (0 : Int32).toInt := congrArg Int32.toInt q53 | skip
                  obtain ⟨r20, e_r20, S_r20⟩ := z_X11_hostRefuses (-13) h S ff_X11_hostRefuses 
                  rw [e_r20, Option.bind_some]
                  exact ⟨_, rfl, S_r20⟩
                · rw [if_neg q53]
                  first | have hx_57 := i32_hi (r17v) | skip
                  first | have hx_58 := i32_lo (r17v) | skip
                  first | have f59 : (r17v : Int32).toInt ≠ (0 : Int32).toInt := ti_ne q53 | skip
                  have q60 : mCp x2 x4 x5 64 64 = true := (mCp_bd (by omega) (by omega) (by omega) (by omega) (by omega))
                  rw [if_pos q60]
                  exact ⟨_, rfl, (SI.cj S rfl (fun _ => w2688))⟩
            · rw [if_neg q44]
              first | have f61 : (h.1 9 x1.toNatClampNeg 0 : Int32).toInt ≠ (h.1 9 x3.toNatClampNeg 0 : Int32).toInt := ti_ne q44 | skip
              obtain ⟨r21, e_r21, S_r21⟩ := z_X11_hostRefuses (-12) h S ff_X11_hostRefuses 
              rw [e_r21, Option.bind_some]
              exact ⟨_, rfl, S_r21⟩
set_option maxHeartbeats 400000 in
theorem z_X11_count {fp : Nat → Bool} {b : mH} {m : Nat} (x1 : Int32) (h : mH) (S : SI fp b m h)   : ∃ r, f_X11_count x1 h = some r ∧ r.2 = h := by
  unfold f_X11_count
  by_cases q1 : x1 = 0
  · rw [if_pos q1]
    have t2 : (0 : Int32).toInt = 0 := by decide
    first | have hx_3 := i32_hi (x1) | skip
    first | have hx_4 := i32_lo (x1) | skip
    first | have f5 : (x1 : Int32).toInt = (0 : Int32).toInt := congrArg Int32.toInt q1 | skip
    exact ⟨_, rfl, rfl⟩
  · rw [if_neg q1]
    have t6 : (0 : Int32).toInt = 0 := by decide
    first | have hx_7 := i32_hi (x1) | skip
    first | have hx_8 := i32_lo (x1) | skip
    first | have f9 : (x1 : Int32).toInt ≠ (0 : Int32).toInt := ti_ne q1 | skip
    by_cases q10 : x1 = 1
    · rw [if_pos q10]
      have t11 : (1 : Int32).toInt = 1 := by decide
      first | have f12 : (x1 : Int32).toInt = (1 : Int32).toInt := congrArg Int32.toInt q10 | skip
      exact ⟨_, rfl, rfl⟩
    · rw [if_neg q10]
      have t13 : (1 : Int32).toInt = 1 := by decide
      first | have f14 : (x1 : Int32).toInt ≠ (1 : Int32).toInt := ti_ne q10 | skip
      by_cases q15 : x1 = 2
      · rw [if_pos q15]
        have t16 : (2 : Int32).toInt = 2 := by decide
        first | have f17 : (x1 : Int32).toInt = (2 : Int32).toInt := congrArg Int32.toInt q15 | skip
        exact ⟨_, rfl, rfl⟩
      · rw [if_neg q15]
        have t18 : (2 : Int32).toInt = 2 := by decide
        first | have f19 : (x1 : Int32).toInt ≠ (2 : Int32).toInt := ti_ne q15 | skip
        by_cases q20 : x1 = 3
        · rw [if_pos q20]
          have t21 : (3 : Int32).toInt = 3 := by decide
          first | have f22 : (x1 : Int32).toInt = (3 : Int32).toInt := congrArg Int32.toInt q20 | skip
          exact ⟨_, rfl, rfl⟩
        · rw [if_neg q20]
          have t23 : (3 : Int32).toInt = 3 := by decide
          first | have f24 : (x1 : Int32).toInt ≠ (3 : Int32).toInt := ti_ne q20 | skip
          by_cases q25 : x1 = 4
          · rw [if_pos q25]
            have t26 : (4 : Int32).toInt = 4 := by decide
            first | have f27 : (x1 : Int32).toInt = (4 : Int32).toInt := congrArg Int32.toInt q25 | skip
            obtain ⟨⟨r6v, r6h⟩, e_r6, (hh_r6 : r6h = h)⟩ := z_X11_nearestInt (h.2 8 0 10) h S  
            replace hh_r6 := hh_r6.symm
            subst hh_r6
            rw [e_r6, Option.bind_some]
            try dsimp only
            exact ⟨_, rfl, rfl⟩
          · rw [if_neg q25]
            have t28 : (4 : Int32).toInt = 4 := by decide
            first | have f29 : (x1 : Int32).toInt ≠ (4 : Int32).toInt := ti_ne q25 | skip
            by_cases q30 : x1 = 5
            · rw [if_pos q30]
              have t31 : (5 : Int32).toInt = 5 := by decide
              first | have f32 : (x1 : Int32).toInt = (5 : Int32).toInt := congrArg Int32.toInt q30 | skip
              exact ⟨_, rfl, rfl⟩
            · rw [if_neg q30]
              have t33 : (5 : Int32).toInt = 5 := by decide
              first | have f34 : (x1 : Int32).toInt ≠ (5 : Int32).toInt := ti_ne q30 | skip
              by_cases q35 : x1 = 6
              · rw [if_pos q35]
                have t36 : (6 : Int32).toInt = 6 := by decide
                first | have f37 : (x1 : Int32).toInt = (6 : Int32).toInt := congrArg Int32.toInt q35 | skip
                exact ⟨_, rfl, rfl⟩
              · rw [if_neg q35]
                have t38 : (6 : Int32).toInt = 6 := by decide
                first | have f39 : (x1 : Int32).toInt ≠ (6 : Int32).toInt := ti_ne q35 | skip
                by_cases q40 : x1 = 7
                · rw [if_pos q40]
                  have t41 : (7 : Int32).toInt = 7 := by decide
                  first | have f42 : (x1 : Int32).toInt = (7 : Int32).toInt := congrArg Int32.toInt q40 | skip
                  exact ⟨_, rfl, rfl⟩
                · rw [if_neg q40]
                  have t43 : (7 : Int32).toInt = 7 := by decide
                  first | have f44 : (x1 : Int32).toInt ≠ (7 : Int32).toInt := ti_ne q40 | skip
                  by_cases q45 : x1 = 8
                  · rw [if_pos q45]
                    have t46 : (8 : Int32).toInt = 8 := by decide
                    first | have f47 : (x1 : Int32).toInt = (8 : Int32).toInt := congrArg Int32.toInt q45 | skip
                    exact ⟨_, rfl, rfl⟩
                  · rw [if_neg q45]
                    have t48 : (8 : Int32).toInt = 8 := by decide
                    first | have f49 : (x1 : Int32).toInt ≠ (8 : Int32).toInt := ti_ne q45 | skip
                    exact ⟨_, rfl, rfl⟩
