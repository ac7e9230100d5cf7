/-! ===== the law keeps J, call by call ===== -/
set_option maxHeartbeats 2000000 in
theorem law_step {sc : Nat → Int32} {L : Nat} (hL : L ≤ 3072) (kb : Int32 → mH → Option mH) (v : Int32) (h : mH) (j : JC h) (h1 : 0 ≤ v.toInt) (h2 : v.toInt + 6 ≤ L) (hk : ∀ g, JC g → ∃ h', kb (v + 6) g = some h') : ∃ h', f_L_23 sc L kb v h = some h' := by
  have e6 := six_l hL
  have m0 : mIn v L = true := mIn_bd (by omega) (by omega)
  have m1 : mIn (v + 1) L = true := m_at hL h1 h2 (c := 1) (k := 1) (by decide) (by decide)
  have m2 : mIn (v + 2) L = true := m_at hL h1 h2 (c := 2) (k := 2) (by decide) (by decide)
  have m3 : mIn (v + 3) L = true := m_at hL h1 h2 (c := 3) (k := 3) (by decide) (by decide)
  have m4 : mIn (v + 4) L = true := m_at hL h1 h2 (c := 4) (k := 4) (by decide) (by decide)
  have m5 : mIn (v + 5) L = true := m_at hL h1 h2 (c := 5) (k := 5) (by decide) (by decide)
  unfold f_L_23
  rw [if_pos (Int32.le_iff_toInt_le.mpr (by omega)), if_pos m0]
  generalize sc v.toNatClampNeg &&& 63 = o
  by_cases q0 : o = 0
  · rw [if_pos q0]
    unfold f_L_196
    rw [if_pos m1]
    exact law_no (NC_begin _ j) hk
  rw [if_neg q0]
  by_cases q1 : o = 1
  · rw [if_pos q1]
    unfold f_L_221
    rw [if_pos m1, if_pos m2, if_pos m3, if_pos m4, if_pos m5]
    exact law_no (NC_field _ _ _ _ _ j) hk
  rw [if_neg q1]
  by_cases q2 : o = 2
  · rw [if_pos q2]
    unfold f_L_294
    rw [if_pos m1, if_pos m2]
    exact law_no (NC_period _ _ j) hk
  rw [if_neg q2]
  by_cases q3 : o = 3
  · rw [if_pos q3]
    unfold f_L_331
    rw [if_pos m1, if_pos m2]
    exact law_no (NC_done _ _ j) hk
  rw [if_neg q3]
  by_cases q4 : o = 4
  · rw [if_pos q4]
    unfold f_L_368
    rw [if_pos m1, if_pos m2, if_pos m3, if_pos m4]
    exact law_no (NC_law _ _ _ _ j) hk
  rw [if_neg q4]
  by_cases q5 : o = 5
  · rw [if_pos q5]
    unfold f_L_429
    exact law_no (NC_act j) hk
  rw [if_neg q5]
  by_cases q6 : o = 6
  · rw [if_pos q6]
    unfold f_L_442
    rw [if_pos m1, if_pos m2, if_pos m3, if_pos m4, if_pos m5]
    exact law_no (NC_step _ _ _ _ _ j) hk
  rw [if_neg q6]
  by_cases q7 : o = 7
  · rw [if_pos q7]
    unfold f_L_515
    rw [if_pos m1]
    exact law_no (NC_bare _ j) hk
  rw [if_neg q7]
  by_cases q8 : o = 8
  · rw [if_pos q8]
    unfold f_L_540
    rw [if_pos m1, if_pos m2]
    exact law_no (NC_handler _ _ j) hk
  rw [if_neg q8]
  by_cases q9 : o = 9
  · rw [if_pos q9]
    unfold f_L_577
    rw [if_pos m1]
    exact law_no (NC_locks _ j) hk
  rw [if_neg q9]
  by_cases q10 : o = 10
  · rw [if_pos q10]
    unfold f_L_602
    rw [if_pos m1]
    exact law_no (NC_code _ j) hk
  rw [if_neg q10]
  by_cases q11 : o = 11
  · rw [if_pos q11]
    unfold f_L_627
    rw [if_pos m1, if_pos m2, if_pos m3]
    exact law_no (NC_op _ _ _ j) hk
  rw [if_neg q11]
  by_cases q12 : o = 12
  · rw [if_pos q12]
    unfold f_L_676
    rw [if_pos m1, if_pos m2]
    exact law_al (K_same _ _ j) hk
  rw [if_neg q12]
  by_cases q13 : o = 13
  · rw [if_pos q13]
    unfold f_L_713
    exact law_no (NC_power j) hk
  rw [if_neg q13]
  by_cases q14 : o = 14
  · rw [if_pos q14]
    unfold f_L_726
    rw [if_pos m1, if_pos m2, if_pos m3]
    exact law_no (NC_event _ _ _ j) hk
  rw [if_neg q14]
  by_cases q15 : o = 15
  · rw [if_pos q15]
    unfold f_L_775
    rw [if_pos m1]
    exact law_no (NC_run _ j) hk
  rw [if_neg q15]
  by_cases q16 : o = 16
  · rw [if_pos q16]
    unfold f_L_800
    rw [if_pos m1]
    exact law_no (NC_read _ j) hk
  rw [if_neg q16]
  by_cases q17 : o = 17
  · rw [if_pos q17]
    unfold f_L_825
    rw [if_pos m1, if_pos m2]
    exact law_no (NC_write _ _ j) hk
  rw [if_neg q17]
  by_cases q18 : o = 18
  · rw [if_pos q18]
    unfold f_L_862
    rw [if_pos m1]
    exact law_no (NC_wait _ j) hk
  rw [if_neg q18]
  by_cases q19 : o = 19
  · rw [if_pos q19]
    unfold f_L_887
    rw [if_pos m1, if_pos m2]
    exact law_no (NC_peek _ _ j) hk
  rw [if_neg q19]
  by_cases q20 : o = 20
  · rw [if_pos q20]
    unfold f_L_924
    rw [if_pos m1]
    exact law_no (NC_shadow _ j) hk
  rw [if_neg q20]
  by_cases q21 : o = 21
  · rw [if_pos q21]
    unfold f_L_949
    exact law_no (NC_result j) hk
  rw [if_neg q21]
  by_cases q22 : o = 22
  · rw [if_pos q22]
    unfold f_L_962
    rw [if_pos m1]
    exact law_no (NC_breaks _ j) hk
  rw [if_neg q22]
  by_cases q23 : o = 23
  · rw [if_pos q23]
    unfold f_L_987
    rw [if_pos m1, if_pos m2]
    exact law_no (NC_walk _ _ j) hk
  rw [if_neg q23]
  by_cases q24 : o = 24
  · rw [if_pos q24]
    unfold f_L_1024
    rw [if_pos m1]
    exact law_no (NC_why _ j) hk
  rw [if_neg q24]
  by_cases q25 : o = 25
  · rw [if_pos q25]
    unfold f_L_1049
    rw [if_pos m1, if_pos m2, if_pos m3]
    exact law_no (NC_tape _ _ _ j) hk
  rw [if_neg q25]
  by_cases q26 : o = 26
  · rw [if_pos q26]
    unfold f_L_1098
    rw [if_pos m1]
    exact law_no (NC_image _ j) hk
  rw [if_neg q26]
  by_cases q27 : o = 27
  · rw [if_pos q27]
    unfold f_L_1123
    rw [if_pos m1]
    exact law_no (NC_back _ j) hk
  rw [if_neg q27]
  by_cases q28 : o = 28
  · rw [if_pos q28]
    unfold f_L_1148
    rw [if_pos m1]
    exact law_no (NC_toss _ j) hk
  rw [if_neg q28]
  by_cases q29 : o = 29
  · rw [if_pos q29]
    unfold f_L_1173
    rw [if_pos m1, if_pos m2, if_pos m3]
    exact law_no (NC_play _ _ _ j) hk
  rw [if_neg q29]
  by_cases q30 : o = 30
  · rw [if_pos q30]
    unfold f_L_1222
    rw [if_pos m1]
    exact law_no (NC_clear _ j) hk
  rw [if_neg q30]
  by_cases q31 : o = 31
  · rw [if_pos q31]
    unfold f_L_1247
    rw [if_pos m1, if_pos m2, if_pos m3, if_pos m4]
    exact law_no (NC_put _ _ _ j) hk
  rw [if_neg q31]
  by_cases q32 : o = 32
  · rw [if_pos q32]
    unfold f_L_1328
    rw [if_pos m1, if_pos m2]
    exact law_no (NC_at _ _ j) hk
  rw [if_neg q32]
  by_cases q33 : o = 33
  · rw [if_pos q33]
    unfold f_L_1368
    rw [if_pos m1, if_pos m2, if_pos m3, if_pos m4, if_pos m5]
    exact law_no (NC_copy _ _ _ _ _ j) hk
  rw [if_neg q33]
  by_cases q34 : o = 34
  · rw [if_pos q34]
    unfold f_L_1441
    rw [if_pos m1]
    exact law_no (NC_count _ j) hk
  rw [if_neg q34]
  exact hk h j
theorem law_pure (sc : Nat → Int32) {L : Nat} (hL : L ≤ 3072) : ∃ h', f_law sc L 514 0 h0 = some h' :=
  law_loop hL (fun kb v h j h1 h2 hk => law_step hL kb v h j h1 h2 hk) 514 0 h0 JC_h0 (by decide) (by decide) (by decide)
