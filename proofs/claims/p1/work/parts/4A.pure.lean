/-! ===== one call on a fresh object: the law answers 1 ===== -/
theorem law_al {c m : mH → Option (Int32 × mH)} {k : mH → Option mH} (h : Al c m) (hk : ∀ g, k g = some g) : ∃ h', ((c h0).bind fun r => (m r.2).bind fun r' => if r.1 = r'.1 then k r'.2 else none) = some h' := by
  obtain ⟨r, r', e1, e2, e3⟩ := h
  refine ⟨r'.2, ?_⟩
  rw [e1, Option.bind_some, e2, Option.bind_some, if_pos e3]
  exact hk r'.2
theorem law_end (sc : Nat → Int32) (d : Nat) (h : mH) : f_law sc 6 (d + 1) 6 h = some h := by
  show f_L_23 sc 6 (f_law sc 6 d) 6 h = some h
  unfold f_L_23
  exact if_neg (by decide)
set_option maxHeartbeats 1000000 in
theorem law_one (sc : Nat → Int32) : ∃ h', f_law sc 6 2 0 h0 = some h' := by
  have hk : ∀ g, f_law sc 6 1 (0 + 6) g = some g := fun g => law_end sc 0 g
  generalize hkb : f_law sc 6 1 = kb at hk
  show ∃ h', f_L_23 sc 6 (f_law sc 6 1) 0 h0 = some h'
  rw [hkb]
  have m0 : mIn 0 6 = true := by decide
  have m1 : mIn (0 + 1) 6 = true := by decide
  have m2 : mIn (0 + 2) 6 = true := by decide
  have m3 : mIn (0 + 3) 6 = true := by decide
  have m4 : mIn (0 + 4) 6 = true := by decide
  have m5 : mIn (0 + 5) 6 = true := by decide
  unfold f_L_23
  rw [if_pos (by decide), if_pos m0]
  generalize sc (0 : Int32).toNatClampNeg &&& 63 = o
  by_cases q0 : o = 0
  · rw [if_pos q0]
    unfold f_L_196
    rw [if_pos m1]
    exact law_al (P0 _) hk
  rw [if_neg q0]
  by_cases q1 : o = 1
  · rw [if_pos q1]
    unfold f_L_221
    rw [if_pos m1, if_pos m2, if_pos m3, if_pos m4, if_pos m5]
    exact law_al (P1 _ _ _ _ _) hk
  rw [if_neg q1]
  by_cases q2 : o = 2
  · rw [if_pos q2]
    unfold f_L_294
    rw [if_pos m1, if_pos m2]
    exact law_al (P2 _ _) hk
  rw [if_neg q2]
  by_cases q3 : o = 3
  · rw [if_pos q3]
    unfold f_L_331
    rw [if_pos m1, if_pos m2]
    exact law_al (P3 _ _) hk
  rw [if_neg q3]
  by_cases q4 : o = 4
  · rw [if_pos q4]
    unfold f_L_368
    rw [if_pos m1, if_pos m2, if_pos m3, if_pos m4]
    exact law_al (P4 _ _ _ _) hk
  rw [if_neg q4]
  by_cases q5 : o = 5
  · rw [if_pos q5]
    unfold f_L_429
    exact law_al (P5) hk
  rw [if_neg q5]
  by_cases q6 : o = 6
  · rw [if_pos q6]
    unfold f_L_442
    rw [if_pos m1, if_pos m2, if_pos m3, if_pos m4, if_pos m5]
    exact law_al (P6 _ _ _ _ _) hk
  rw [if_neg q6]
  by_cases q7 : o = 7
  · rw [if_pos q7]
    unfold f_L_515
    rw [if_pos m1]
    exact law_al (P7 _) hk
  rw [if_neg q7]
  by_cases q8 : o = 8
  · rw [if_pos q8]
    unfold f_L_540
    rw [if_pos m1, if_pos m2]
    exact law_al (P8 _ _) hk
  rw [if_neg q8]
  by_cases q9 : o = 9
  · rw [if_pos q9]
    unfold f_L_577
    rw [if_pos m1]
    exact law_al (P9 _) hk
  rw [if_neg q9]
  by_cases q10 : o = 10
  · rw [if_pos q10]
    unfold f_L_602
    rw [if_pos m1]
    exact law_al (P10 _) hk
  rw [if_neg q10]
  by_cases q11 : o = 11
  · rw [if_pos q11]
    unfold f_L_627
    rw [if_pos m1, if_pos m2, if_pos m3]
    exact law_al (P11 _ _ _) hk
  rw [if_neg q11]
  by_cases q12 : o = 12
  · rw [if_pos q12]
    unfold f_L_676
    rw [if_pos m1, if_pos m2]
    exact law_al (P12 _ _) hk
  rw [if_neg q12]
  by_cases q13 : o = 13
  · rw [if_pos q13]
    unfold f_L_713
    exact law_al (P13) hk
  rw [if_neg q13]
  by_cases q14 : o = 14
  · rw [if_pos q14]
    unfold f_L_726
    rw [if_pos m1, if_pos m2, if_pos m3]
    exact law_al (P14 _ _ _) hk
  rw [if_neg q14]
  by_cases q15 : o = 15
  · rw [if_pos q15]
    unfold f_L_775
    rw [if_pos m1]
    exact law_al (P15 _) hk
  rw [if_neg q15]
  by_cases q16 : o = 16
  · rw [if_pos q16]
    unfold f_L_800
    rw [if_pos m1]
    exact law_al (P16 _) hk
  rw [if_neg q16]
  by_cases q17 : o = 17
  · rw [if_pos q17]
    unfold f_L_825
    rw [if_pos m1, if_pos m2]
    exact law_al (P17 _ _) hk
  rw [if_neg q17]
  by_cases q18 : o = 18
  · rw [if_pos q18]
    unfold f_L_862
    rw [if_pos m1]
    exact law_al (P18 _) hk
  rw [if_neg q18]
  by_cases q19 : o = 19
  · rw [if_pos q19]
    unfold f_L_887
    rw [if_pos m1, if_pos m2]
    exact law_al (P19 _ _) hk
  rw [if_neg q19]
  by_cases q20 : o = 20
  · rw [if_pos q20]
    unfold f_L_924
    rw [if_pos m1]
    exact law_al (P20 _) hk
  rw [if_neg q20]
  by_cases q21 : o = 21
  · rw [if_pos q21]
    unfold f_L_949
    exact law_al (P21) hk
  rw [if_neg q21]
  by_cases q22 : o = 22
  · rw [if_pos q22]
    unfold f_L_962
    rw [if_pos m1]
    exact law_al (P22 _) hk
  rw [if_neg q22]
  by_cases q23 : o = 23
  · rw [if_pos q23]
    unfold f_L_987
    rw [if_pos m1, if_pos m2]
    exact law_al (P23 _ _) hk
  rw [if_neg q23]
  by_cases q24 : o = 24
  · rw [if_pos q24]
    unfold f_L_1024
    rw [if_pos m1]
    exact law_al (P24 _) hk
  rw [if_neg q24]
  by_cases q25 : o = 25
  · rw [if_pos q25]
    unfold f_L_1049
    rw [if_pos m1, if_pos m2, if_pos m3]
    exact law_al (P25 _ _ _) hk
  rw [if_neg q25]
  by_cases q26 : o = 26
  · rw [if_pos q26]
    unfold f_L_1098
    rw [if_pos m1]
    exact law_al (P26 _) hk
  rw [if_neg q26]
  by_cases q27 : o = 27
  · rw [if_pos q27]
    unfold f_L_1123
    rw [if_pos m1]
    exact law_al (P27 _) hk
  rw [if_neg q27]
  by_cases q28 : o = 28
  · rw [if_pos q28]
    unfold f_L_1148
    rw [if_pos m1]
    exact law_al (P28 _) hk
  rw [if_neg q28]
  by_cases q29 : o = 29
  · rw [if_pos q29]
    unfold f_L_1173
    rw [if_pos m1, if_pos m2, if_pos m3]
    exact law_al (P29 _ _ _) hk
  rw [if_neg q29]
  by_cases q30 : o = 30
  · rw [if_pos q30]
    unfold f_L_1222
    rw [if_pos m1]
    exact law_al (P30 _) hk
  rw [if_neg q30]
  by_cases q31 : o = 31
  · rw [if_pos q31]
    unfold f_L_1247
    rw [if_pos m1, if_pos m2, if_pos m3, if_pos m4]
    exact law_al (P31 _ _ _) hk
  rw [if_neg q31]
  by_cases q32 : o = 32
  · rw [if_pos q32]
    unfold f_L_1328
    rw [if_pos m1, if_pos m2]
    obtain ⟨r, r', r'', e1, e2, e3, e4, e5⟩ := P32 (sc (0 + 1 : Int32).toNatClampNeg) (sc (0 + 2 : Int32).toNatClampNeg)
    refine ⟨r''.2, ?_⟩
    rw [e1, Option.bind_some, e2, Option.bind_some, e3, Option.bind_some, if_pos e4, if_neg e5]
    exact hk r''.2
  rw [if_neg q32]
  by_cases q33 : o = 33
  · rw [if_pos q33]
    unfold f_L_1395
    rw [if_pos m1, if_pos m2, if_pos m3, if_pos m4, if_pos m5]
    exact law_al (P33 _ _ _ _ _) hk
  rw [if_neg q33]
  by_cases q34 : o = 34
  · rw [if_pos q34]
    unfold f_L_1468
    rw [if_pos m1]
    exact law_al (P34 _) hk
  rw [if_neg q34]
  exact ⟨h0, hk h0⟩
theorem law_pure (sc : Nat → Int32) {L : Nat} (hL : L ≤ 6) : ∃ h', f_law sc L 2 0 h0 = some h' := by
  by_cases e : L = 6
  · subst e
    exact law_one sc
  · refine ⟨h0, ?_⟩
    show f_L_23 sc L (f_law sc L 1) 0 h0 = some h0
    unfold f_L_23
    rw [if_neg]
    have : L = 0 ∨ L = 1 ∨ L = 2 ∨ L = 3 ∨ L = 4 ∨ L = 5 := by omega
    rcases this with rfl | rfl | rfl | rfl | rfl | rfl <;> decide
