/-! ===== a fresh object: field, at ===== -/
theorem mFu_ss : ∃ n, mFu = n + 1 + 1 := ⟨8589934590, rfl⟩
theorem c_kept (i : Nat) (h : mH) : ∃ b, f_X6_isKept i h = some (b, h) ∧ (b = 0 ∨ b = 1) := by
  unfold f_X6_isKept
  by_cases q : h.1 6 i 3 = 0
  · rw [if_pos q]; exact ⟨1, rfl, Or.inr rfl⟩
  · rw [if_neg q]
    by_cases q2 : h.1 6 i 3 = 5
    · rw [if_pos q2]; exact ⟨1, rfl, Or.inr rfl⟩
    · rw [if_neg q2]; exact ⟨0, rfl, Or.inl rfl⟩
/-- what a step of POWER leaves -/
def Kp (g g1 : mH) : Prop := g1.1 1 0 4 = g.1 1 0 4 ∧ (∀ k, g1.1 6 0 k = g.1 6 0 k) ∧ (Fr g → Fr g1)
theorem c_j40 (x w : Int32) (g : mH) (h26 : g.1 2 0 6 = 0) (hr : mIn w 8 = true) : ∃ g1, f_X2_sortIn_j40 x 0 w g = some g1 ∧ Kp g g1 := by
  obtain ⟨b, eb, hb⟩ := c_kept 0 g
  have m0 : mIn (g.1 2 0 6) 24 = true := by rw [h26]; decide
  unfold f_X2_sortIn_j40
  rw [eb, Option.bind_some]
  rcases hb with rfl | rfl
  · rw [if_pos rfl]
    by_cases q : g.1 6 0 3 = 4
    · show ∃ g1, (if g.1 6 0 3 = 4 then _ else _) = some g1 ∧ _
      rw [if_pos q]
      show ∃ g1, (if mIn (g.1 2 0 6) 24 = true then _ else _) = some g1 ∧ _
      rw [if_pos m0]
      exact ⟨_, rfl, rfl, fun k => rfl, fun F => Fr.u (Fr.u F rfl) rfl⟩
    · show ∃ g1, (if g.1 6 0 3 = 4 then _ else _) = some g1 ∧ _
      rw [if_neg q]
      exact ⟨_, rfl, rfl, fun k => rfl, fun F => F⟩
  · rw [if_neg (show ¬ (1 : Int32) = 0 by decide), if_pos hr]
    simp only [mLet]
    by_cases q : g.1 6 0 3 = 4
    · show ∃ g1, (if g.1 6 0 3 = 4 then _ else _) = some g1 ∧ _
      rw [if_pos q]
      show ∃ g1, (if mIn (g.1 2 0 6) 24 = true then _ else _) = some g1 ∧ _
      rw [if_pos m0]
      exact ⟨_, rfl, rfl, fun k => rfl, fun F => Fr.u (Fr.u (Fr.u F rfl) rfl) rfl⟩
    · show ∃ g1, (if g.1 6 0 3 = 4 then _ else _) = some g1 ∧ _
      rw [if_neg q]
      exact ⟨_, rfl, rfl, fun k => rfl, fun F => Fr.u F rfl⟩
theorem c_sortIn (g : mH) (h26 : g.1 2 0 6 = 0) (h29 : ∀ r, r < 8 → g.1 29 0 r = 0) (hr : mIn (g.1 6 0 0) 8 = true) : ∃ g1, f_X2_sortIn 0 0 g = some g1 ∧ Kp g g1 := by
  have hr2 := hr
  obtain ⟨j, hj, ej⟩ := mIn_of hr
  have e29 : g.1 29 0 (g.1 6 0 0).toNatClampNeg = 0 := by
    rw [ej, nI_clamp (by omega)]
    exact h29 j hj
  unfold f_X2_sortIn
  rw [if_pos hr, e29, if_pos (by decide), if_pos (by decide)]
  simp only [mLet]
  obtain ⟨g1, e1, k1, k2, k3⟩ := c_j40 0 (g.1 6 0 0) (uI (uI g 28 (g.1 6 0 0).toNatClampNeg (0 : Int32).toNatClampNeg 0) 29 0 (g.1 6 0 0).toNatClampNeg ((uI g 28 (g.1 6 0 0).toNatClampNeg (0 : Int32).toNatClampNeg 0).1 29 0 (g.1 6 0 0).toNatClampNeg + 1)) h26 hr2
  exact ⟨g1, e1, k1, k2, fun F => k3 (Fr.u (Fr.u F rfl) rfl)⟩
theorem pwC_29 (h : mH) {r : Nat} (hr : r < 8) : (pwC h).1 29 0 r = 0 := by
  simp [pwC, uI, flI, hr]
theorem pwC_26 (h : mH) : (pwC h).1 2 0 6 = 0 := by
  simp [pwC, uI]
theorem c_powerUp1 (h : mH) (h4 : h.1 1 0 4 = 1) (hr : mIn (h.1 6 0 0) 8 = true) : ∃ g, f_X2_powerUp h = some g ∧ (Fr h → Fr g) := by
  rw [c_pw0]
  have e4 : (pwC h).1 1 0 4 = 1 := by rw [pwC_o h (by omega), h4]
  have e6 : (pwC h).1 6 0 0 = h.1 6 0 0 := pwC_o h (by omega) 0 0
  obtain ⟨g1, e1, k1, k2, k3⟩ := c_sortIn (pwC h) (pwC_26 h) (fun r hr => pwC_29 h hr) (by rw [e6]; exact hr)
  obtain ⟨n, hn⟩ := mFu_ss
  rw [hn, f_X2_powerUp_30, e4, if_pos (by decide), if_pos (by decide)]
  have c0 : (0 : Int32).toNatClampNeg = 0 := by decide
  rw [c0, e1, Option.bind_some]
  simp only [mLet]
  generalize hg2 : uI (uI g1 33 0 0 (g1.1 6 0 4)) 34 0 0 ((uI g1 33 0 0 (g1.1 6 0 4)).1 6 0 4) = g2
  have a1 : g2.1 1 0 4 = 1 := by
    rw [← hg2]
    show g1.1 1 0 4 = 1
    rw [k1, e4]
  have a2 : g2.1 6 0 0 = h.1 6 0 0 := by
    rw [← hg2]
    show g1.1 6 0 0 = _
    rw [k2, e6]
  have a3 : Fr h → Fr g2 := fun F => by
    rw [← hg2]
    exact Fr.u (Fr.u (k3 (Fr.pw F)) rfl) rfl
  obtain ⟨b, eb, hb⟩ := c_kept 0 g2
  rw [eb, Option.bind_some]
  rcases hb with rfl | rfl
  · rw [if_pos rfl, f_X2_powerUp_30, if_neg (show ¬ (0 + 1 : Int32) < g2.1 1 0 4 by rw [a1]; decide)]
    exact ⟨g2, rfl, a3⟩
  · rw [if_neg (show ¬ (1 : Int32) = 0 by decide)]
    show ∃ g, (if mIn (g2.1 6 0 0) 8 = true then _ else _) = some g ∧ _
    rw [if_pos (by rw [a2]; exact hr), f_X2_powerUp_30]
    generalize hg3 : uI (1, g2).2 38 0 _ _ = g3
    have a4 : g3.1 1 0 4 = 1 := by
      rw [← hg3]
      exact a1
    rw [if_neg (show ¬ (0 + 1 : Int32) < g3.1 1 0 4 by rw [a4]; decide)]
    exact ⟨g3, rfl, fun F => by rw [← hg3]; exact Fr.u (a3 F) rfl⟩
theorem c_bits (x : Int32) : f_X1_bitsOfAll x h0 = some (0, h0) := by
  unfold f_X1_bitsOfAll
  obtain ⟨n, hn⟩ := mFu_s
  rw [hn, f_X1_bitsOfAll_4, if_neg (show ¬ (0 : Int32) < h0.1 1 0 4 by decide)]
theorem c_tell (a b c d e : Int32) : ∃ g, f_X1_tellField a b c d e h0 = some (0, g) ∧ g.1 1 0 4 = 1 ∧ g.1 6 0 0 = a ∧ Fr g := by
  unfold f_X1_tellField
  have c0 : (h0.1 1 0 4).toNatClampNeg = 0 := by decide
  rw [if_pos (show mIn (h0.1 1 0 4) 24 = true by decide), c0]
  simp only [mLet]
  refine ⟨_, congrArg some (Prod.ext ?_ rfl), ?_, ?_, by repeat (first | exact Fr0 | refine Fr.u ?_ rfl)⟩
  · simp [uI]
    decide
  · simp [uI]
    decide
  · simp [uI]
theorem c_f79 (a b c d e : Int32) (hr : mIn a 4 = true) : ∃ g, f_X11_field_j79 a b c d e h0 = some (0, g) ∧ Fr g := by
  obtain ⟨g1, e1, k1, k2, k3⟩ := c_tell a b c d e
  have hr8 : mIn (g1.1 6 0 0) 8 = true := by
    rw [k2]
    obtain ⟨j, hj, rfl⟩ := mIn_of hr
    exact mIn_nI (by omega) (by decide)
  obtain ⟨g2, e2, k4⟩ := c_powerUp1 g1 k1 hr8
  refine ⟨g2, ?_, k4 k3⟩
  unfold f_X11_field_j79
  rw [c_bits, Option.bind_some, if_pos (by simp), if_pos (show h0.1 1 0 4 < 24 by decide), e1, Option.bind_some, e2]
  rfl
theorem pwSc_2 (M : mM) : (pwSc M).1 12 2 = M.1 12 2 := rfl
theorem m_f87 (a b c d e : Int32) (hr : mIn a 4 = true) (g : mH) (hF : Fr g) : ∃ g', f_X12_field_j87 a b c d e g = some (0, g') := by
  have h2 : (xM g).1 12 2 = 0 := hF 12 2 rfl
  have eg : f_X12_field_j87 a b c d e g = f_X12_field_j87 a b c d e (wM g (xM g)) := by rw [wM_x]
  rw [eg]
  generalize xM g = M at h2
  unfold f_X12_field_j87
  obtain ⟨n, hn⟩ := mFu_s
  rw [hn, f_X12_field_90, wM_1 _ _ rfl, h2, if_neg (by decide), if_neg (by decide)]
  have c0 : (0 : Int32).toNatClampNeg = 0 := by decide
  simp (config := { decide := true }) only [mLet, wM_1, wM_u, uM_t, h2, c0, if_true]
  unfold f_X12_changed
  simp (config := { decide := true }) only [wM_1, wM_u]
  have z := e_powers g (uM (uM (uM (uM (uM (uM (uM (uM (uM (uM M 46 0 a) 47 0 b) 48 0 c) 49 0 d) 50 0 e) 51 0 3) 52 0 (-1)) 53 0 (-1)) 12 2 (0 + 1)) 12 55 ((uM (uM (uM (uM (uM (uM (uM (uM (uM M 46 0 a) 47 0 b) 48 0 c) 49 0 d) 50 0 e) 51 0 3) 52 0 (-1)) 53 0 (-1)) 12 2 (0 + 1)).1 12 55 + 1)) (n := 1) (by rw [uM_k _ (by decide), uM_s]; rfl) (by omega) (fun f hf => by
    have : f = 0 := by omega
    subst this
    obtain ⟨j, hj, rfl⟩ := mIn_of hr
    rw [uM_t _ (by decide), uM_t _ (by decide), uM_t _ (by decide), uM_t _ (by decide), uM_t _ (by decide), uM_t _ (by decide), uM_t _ (by decide), uM_t _ (by decide), uM_t _ (by decide), uM_s]
    exact mIn_nI (by omega) (by decide))
  rw [z, Option.bind_some, Option.bind_some]
  refine ⟨_, congrArg some (Prod.ext ?_ rfl)⟩
  show (wM g (powM _)).1 12 0 2 - 1 = 0
  rw [wM_1 _ _ rfl]
  unfold powM
  rw [pwFs_o _ (by decide), pwSh_o _ (by decide)]
  rw [pwSc_2, uM_k _ (by decide), uM_s]
  decide
theorem fitK {x L : Int32} {n : Int} (h1 : L.toInt = n) (h2 : (L - 1).toInt = n - 1) : x < L ↔ x ≤ L - 1 := by
  rw [Int32.lt_iff_toInt_lt, Int32.le_iff_toInt_le]
  omega
theorem fit8 {x c : Int32} (q1 : ¬ c < 1) (q2 : c ≤ 8) : x < (1 : Int32) <<< (c &&& 31) ↔ x ≤ (1 : Int32) <<< (c &&& 31) - 1 := by
  have hp : ¬ c < 0 := fun z => q1 (Int32.lt_trans z (by decide))
  obtain ⟨j, hj, rfl⟩ := nI_of hp
  have h8 : j ≤ 8 := by
    have z : nI j ≤ nI 8 := q2
    exact (nI_leI hj (by decide)).mp z
  have h1 : 1 ≤ j := by
    rcases Nat.eq_zero_or_pos j with z | z
    · subst z
      exact absurd (show nI 0 < 1 by decide) q1
    · exact z
  have : j = 1 ∨ j = 2 ∨ j = 3 ∨ j = 4 ∨ j = 5 ∨ j = 6 ∨ j = 7 ∨ j = 8 := by omega
  rcases this with rfl | rfl | rfl | rfl | rfl | rfl | rfl | rfl
  · exact fitK (n := 2) (by decide) (by decide)
  · exact fitK (n := 4) (by decide) (by decide)
  · exact fitK (n := 8) (by decide) (by decide)
  · exact fitK (n := 16) (by decide) (by decide)
  · exact fitK (n := 32) (by decide) (by decide)
  · exact fitK (n := 64) (by decide) (by decide)
  · exact fitK (n := 128) (by decide) (by decide)
  · exact fitK (n := 256) (by decide) (by decide)
theorem P1 (a b c d e : Int32) : Al (f_X11_field a b c d e) (f_X12_field a b c d e) := by
  have go : mIn a 4 = true → f_X11_field a b c d e h0 = f_X11_field_j79 a b c d e h0 → (∀ g, Fr g → f_X12_field a b c d e g = f_X12_field_j87 a b c d e g) → Al (f_X11_field a b c d e) (f_X12_field a b c d e) := by
    intro hr h1 h2
    obtain ⟨g1, e1, F1⟩ := c_f79 a b c d e hr
    obtain ⟨g2, e2⟩ := m_f87 a b c d e hr g1 F1
    exact Al.mk (0, g1) (0, g2) (h1.trans e1) ((h2 g1 F1).trans e2) rfl
  have no : f_X11_field a b c d e h0 = some (-1, h0) → f_X12_field a b c d e h0 = some (-1, h0) → Al (f_X11_field a b c d e) (f_X12_field a b c d e) := fun h1 h2 => Al.no h1 ⟨h0, h2⟩
  have n1 : ¬ (1 : Int32) = 0 := by decide
  cases q : mIn a 4 with
  | false =>
    exact no (by unfold f_X11_field; rw [c_hasRegister, q]; rfl) (by unfold f_X12_field; rw [m_isRegister Fr0, q]; rfl)
  | true =>
    by_cases q1 : d < 0
    · exact no (by unfold f_X11_field; rw [c_hasRegister, Option.bind_some, if_neg (nb q), if_pos q1]) (by unfold f_X12_field; rw [m_isRegister Fr0, Option.bind_some, if_neg (nb q), e_in, if_pos q1]; rfl)
    by_cases q2 : d ≤ 6
    rotate_left
    · exact no (by unfold f_X11_field; rw [c_hasRegister, Option.bind_some, if_neg (nb q), if_neg q1, if_neg q2]) (by unfold f_X12_field; rw [m_isRegister Fr0, Option.bind_some, if_neg (nb q), e_in, if_neg q1, if_neg q2]; rfl)
    by_cases q3 : b < 0
    · exact no (by unfold f_X11_field; rw [c_hasRegister, Option.bind_some, if_neg (nb q), if_neg q1, if_pos q2, if_pos q3]) (by unfold f_X12_field; rw [m_isRegister Fr0, Option.bind_some, if_neg (nb q), e_in, if_neg q1, if_pos q2, Option.bind_some, if_neg n1, if_pos q3]; rfl)
    by_cases q4 : c < 1
    · exact no (by unfold f_X11_field; rw [c_hasRegister, Option.bind_some, if_neg (nb q), if_neg q1, if_pos q2, if_neg q3, if_pos q4]) (by unfold f_X12_field; rw [m_isRegister Fr0, Option.bind_some, if_neg (nb q), e_in, if_neg q1, if_pos q2, Option.bind_some, if_neg n1, if_neg q3, e_in, if_pos q4]; rfl)
    by_cases q5 : c ≤ 8
    rotate_left
    · exact no (by unfold f_X11_field; rw [c_hasRegister, Option.bind_some, if_neg (nb q), if_neg q1, if_pos q2, if_neg q3, if_neg q4, if_neg q5]) (by unfold f_X12_field; rw [m_isRegister Fr0, Option.bind_some, if_neg (nb q), e_in, if_neg q1, if_pos q2, Option.bind_some, if_neg n1, if_neg q3, e_in, if_neg q4, if_neg q5]; rfl)
    by_cases q6 : b ≤ 16 - c
    rotate_left
    · exact no (by unfold f_X11_field; rw [c_hasRegister, Option.bind_some, if_neg (nb q), if_neg q1, if_pos q2, if_neg q3, if_neg q4, if_pos q5, if_neg q6]) (by unfold f_X12_field; rw [m_isRegister Fr0, Option.bind_some, if_neg (nb q), e_in, if_neg q1, if_pos q2, Option.bind_some, if_neg n1, if_neg q3, e_in, if_neg q4, if_pos q5, Option.bind_some, if_neg n1, if_neg q6]; rfl)
    by_cases q7 : e < 0
    · exact no (by unfold f_X11_field f_X11_fits; rw [c_hasRegister, Option.bind_some, if_neg (nb q), if_neg q1, if_pos q2, if_neg q3, if_neg q4, if_pos q5, if_pos q6, if_pos q7]; rfl) (by unfold f_X12_field; rw [m_isRegister Fr0, Option.bind_some, if_neg (nb q), e_in, if_neg q1, if_pos q2, Option.bind_some, if_neg n1, if_neg q3, e_in, if_neg q4, if_pos q5, Option.bind_some, if_neg n1, if_pos q6, e_in, if_pos q7]; rfl)
    by_cases q8 : e < (1 : Int32) <<< (c &&& 31)
    rotate_left
    · exact no (by unfold f_X11_field f_X11_fits; rw [c_hasRegister, Option.bind_some, if_neg (nb q), if_neg q1, if_pos q2, if_neg q3, if_neg q4, if_pos q5, if_pos q6, if_neg q7, if_neg q8]; rfl) (by unfold f_X12_field; rw [m_isRegister Fr0, Option.bind_some, if_neg (nb q), e_in, if_neg q1, if_pos q2, Option.bind_some, if_neg n1, if_neg q3, e_in, if_neg q4, if_pos q5, Option.bind_some, if_neg n1, if_pos q6, e_in, if_neg q7, if_neg (fun w => q8 ((fit8 q4 q5).mpr w))]; rfl)
    have q9 := (fit8 q4 q5).mp q8
    have C : f_X11_field a b c d e h0 = if e = 0 then f_X11_field_j79 a b c d e h0 else if d = 4 then some (-1, h0) else if d = 6 then some (-1, h0) else f_X11_field_j79 a b c d e h0 := by
      unfold f_X11_field f_X11_fits
      rw [c_hasRegister, Option.bind_some, if_neg (nb q), if_neg q1, if_pos q2, if_neg q3, if_neg q4, if_pos q5, if_pos q6, if_neg q7, if_pos q8, Option.bind_some, if_neg n1]
    have Mo : ∀ g, Fr g → f_X12_field a b c d e g = if d = 4 then (if e = 0 then f_X12_field_j87 a b c d e g else some (-1, g)) else if d = 6 then (if e = 0 then f_X12_field_j87 a b c d e g else some (-1, g)) else f_X12_field_j87 a b c d e g := by
      intro g F
      unfold f_X12_field f_X12_field_j80
      rw [m_isRegister F, Option.bind_some, if_neg (nb q), e_in, if_neg q1, if_pos q2, Option.bind_some, if_neg n1, if_neg q3, e_in, if_neg q4, if_pos q5, Option.bind_some, if_neg n1, if_pos q6, e_in, if_neg q7, if_pos q9, Option.bind_some, if_neg n1]
    by_cases e0 : e = 0
    · refine go q (by rw [C, if_pos e0]) (fun g F => ?_)
      rw [Mo g F, if_pos e0]
      by_cases d4 : d = 4
      · rw [if_pos d4]
      · rw [if_neg d4]
        by_cases d6 : d = 6
        · rw [if_pos d6]
        · rw [if_neg d6]
    · by_cases d4 : d = 4
      · exact no (by rw [C, if_neg e0, if_pos d4]) (by rw [Mo h0 Fr0, if_pos d4, if_neg e0])
      · by_cases d6 : d = 6
        · exact no (by rw [C, if_neg e0, if_neg d4, if_pos d6]) (by rw [Mo h0 Fr0, if_neg d4, if_pos d6, if_neg e0])
        · exact go q (by rw [C, if_neg e0, if_neg d4, if_neg d6]) (fun g F => by rw [Mo g F, if_neg d4, if_neg d6])
theorem P32 (a b : Int32) : ∃ r r' r'', f_L_at a b h0 = some r ∧ f_X12_at a b r.2 = some r' ∧ f_X12_thrown r'.2 = some r'' ∧ r''.1 = r.1 ∧ ¬ r.1 = 0 := by
  cases q : mIn a 6 with
  | false =>
    refine ⟨(1, h0), (0, uI h0 12 0 0 1), (1, uI h0 12 0 0 1), ?_, ?_, rfl, rfl, by decide⟩
    · unfold f_L_at f_at
      rw [c_isTape, q]
      rfl
    · unfold f_X12_at
      rw [m_isTape, q]
      rfl
  | true =>
    refine ⟨(2, h0), (0, uI h0 12 0 0 2), (2, uI h0 12 0 0 2), ?_, ?_, rfl, rfl, by decide⟩
    · unfold f_L_at f_at
      rw [c_isTape, Option.bind_some, if_neg (nb q), if_pos q]
      unfold f_X9_holdsRow
      rw [if_pos (show h0.1 9 a.toNatClampNeg 0 < 1 by show (0 : Int32) < 1; decide)]
      rfl
    · unfold f_X12_at
      rw [m_isTape, Option.bind_some, if_neg (nb q), if_pos q]
      show (if h0.1 89 0 a.toNatClampNeg = 0 then _ else _) = _
      rw [if_pos (Fr0.t89 a.toNatClampNeg)]
      rfl
