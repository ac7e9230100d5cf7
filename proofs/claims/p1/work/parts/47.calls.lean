/-! ===== a fresh object: each call's answer ===== -/
theorem mFu_s : ∃ n, mFu = n + 1 := ⟨8589934591, rfl⟩
def blk (i : Nat) (h : mH) : mH := uJ (uI (uJ (uI (uI (uJ (uI (flI (flJ (flI (flI (flI (flI h 33 i 24 0) 34 i 24 0) 35 i 24 0) 36 i 24 0) 37 i 24 (-1)) 38 i 8 0) 8 i 9 0) 8 i 10 0) 8 i 11 0) 8 i 12 0) 8 i 13 0) 8 i 14 (-1)) 8 i 15 (-1)
theorem c_blank (i : Nat) (h : mH) : f_X8_blank i h = some (blk i h) := by
  unfold f_X8_blank
  rw [e_fill 33 (by omega), Option.bind_some, e_fill 34 (by omega), Option.bind_some, e_fill 35 (by omega), Option.bind_some, e_fill 36 (by omega), Option.bind_some, e_fillJ 37 (by omega), Option.bind_some, e_fill 38 (by omega), Option.bind_some]
  rfl
def pwC (h : mH) : mH := uI (flI (flI (blk 0 h) 29 0 8 0) 30 0 8 0) 2 0 6 0
theorem pwC_o (h : mH) {t : Nat} (ht : t ≠ 2 ∧ t ≠ 8 ∧ t ≠ 29 ∧ t ≠ 30 ∧ ¬ (33 ≤ t ∧ t ≤ 38)) (i k : Nat) : (pwC h).1 t i k = h.1 t i k := by
  obtain ⟨h1, h2, h3, h4, h5⟩ := ht
  have e33 : t ≠ 33 := by omega
  have e34 : t ≠ 34 := by omega
  have e35 : t ≠ 35 := by omega
  have e36 : t ≠ 36 := by omega
  have e38 : t ≠ 38 := by omega
  simp [pwC, blk, uI, uJ, flI, flJ, h1, h2, h3, h4, e33, e34, e35, e36, e38]
theorem Fr.pw {h : mH} (hF : Fr h) : Fr (pwC h) := by
  intro t k ht
  have e : t = 12 ∨ (46 ≤ t ∧ t ≤ 96) := by
    simp [isM] at ht
    omega
  rw [pwC_o h (by omega)]
  exact hF t k ht
theorem c_pw0 (h : mH) : f_X2_powerUp h = f_X2_powerUp_30 (fun u11 h12 => some h12) mFu 0 (pwC h) := by
  unfold f_X2_powerUp
  rw [c_blank, Option.bind_some, e_fill 29 (by omega), Option.bind_some, e_fill 30 (by omega), Option.bind_some]
  rfl
theorem c_powerUp0 (h : mH) (h4 : h.1 1 0 4 = 0) : f_X2_powerUp h = some (pwC h) := by
  rw [c_pw0]
  obtain ⟨n, hn⟩ := mFu_s
  rw [hn, f_X2_powerUp_30, if_neg]
  rw [pwC_o h (by omega), h4]
  decide
theorem m_powers (h : mH) (h2 : h.1 12 0 2 = 0) : ∃ h', f_X12_powers h = some h' ∧ h'.1 12 0 2 = 0 := by
  have z := e_powers h (xM h) (n := 0) h2 (by omega) (fun f hf => absurd hf (Nat.not_lt_zero f))
  rw [wM_x] at z
  refine ⟨_, z, ?_⟩
  rw [wM_1 _ _ rfl]
  unfold powM
  have e : (xM h).1 12 2 = 0 := h2
  rw [e]
  show (pwSh 8 (pwSc (xM h))).1 12 2 = 0
  rw [pwSh_o _ (by decide)]
  exact h2
theorem P13 : Al f_X11_power f_X12_power := by
  obtain ⟨h', e, e2⟩ := m_powers (pwC h0) (by rw [pwC_o h0 (by omega)]; rfl)
  refine ⟨((pwC h0).1 1 0 4, pwC h0), (h'.1 12 0 2, h'), ?_, ?_, ?_⟩
  · unfold f_X11_power
    rw [c_powerUp0 h0 rfl]
    rfl
  · unfold f_X12_power
    show (f_X12_powers (pwC h0)).bind _ = _
    rw [e]
    rfl
  · show (pwC h0).1 1 0 4 = h'.1 12 0 2
    rw [e2, pwC_o h0 (by omega)]
    rfl
theorem P0 (a : Int32) : Al (f_X11_begin a) (f_X12_begin a) := by
  by_cases q1 : a < 1
  · exact Al.no (x := -1) (by unfold f_X11_begin; rw [if_pos q1]) ⟨h0, by unfold f_X12_begin; rw [e_in, if_pos q1, Option.bind_some]; exact if_pos rfl⟩
  · by_cases q2 : a ≤ 8
    · obtain ⟨g1, e1, a1, b1⟩ : ∃ g, f_X1_startAnew a h0 = some g ∧ g.1 1 0 4 = 0 ∧ Fr g := ⟨_, rfl, rfl, by repeat (first | exact Fr0 | refine Fr.u ?_ rfl)⟩
      obtain ⟨g2, e2, a2, b2⟩ : ∃ g, f_X10_forget g1 = some g ∧ g.1 1 0 4 = 0 ∧ Fr g := ⟨_, rfl, a1, by repeat (first | exact b1 | refine Fr.u ?_ rfl)⟩
      have F3 : Fr (pwC (uI g2 11 0 6 0)) := Fr.pw (Fr.u b2 rfl)
      obtain ⟨g4, e4, -⟩ := m_powers (uI (uI (uI (uI (uI (uI (uI (uI (pwC (uI g2 11 0 6 0)) 12 0 1 a) 12 0 2 0) 12 0 11 0) 12 0 16 0) 12 0 22 1) 12 0 62 0) 12 0 57 (-1)) 12 0 55 ((uI (uI (uI (uI (uI (uI (uI (pwC (uI g2 11 0 6 0)) 12 0 1 a) 12 0 2 0) 12 0 11 0) 12 0 16 0) 12 0 22 1) 12 0 62 0) 12 0 57 (-1)).1 12 0 55 + 1)) rfl
      refine ⟨(a, pwC (uI g2 11 0 6 0)), (a, g4), ?_, ?_, rfl⟩
      · unfold f_X11_begin
        rw [if_neg q1, if_pos q2, e1, Option.bind_some, e2, Option.bind_some, c_powerUp0 (uI g2 11 0 6 0) a2]
        rfl
      · unfold f_X12_begin
        rw [e_in, if_neg q1, if_pos q2, Option.bind_some]
        rw [if_neg (show ¬ (1 : Int32) = 0 by decide)]
        simp only [mLet]
        unfold f_X12_changed
        rw [e4]
        rfl
    · exact Al.no (x := -1) (by unfold f_X11_begin; rw [if_neg q1, if_neg q2]) ⟨h0, by unfold f_X12_begin; rw [e_in, if_neg q1, if_neg q2, Option.bind_some]; exact if_pos rfl⟩
theorem P5 : Al f_X11_act f_X12_act := by
  obtain ⟨g1, e1, b1⟩ : ∃ g, f_X11_act h0 = some (0, g) ∧ Fr g := by
    refine ⟨uI (uI (uI h0 0 0 5 0) 1 0 9 0) 1 0 6 1, ?_, by repeat (first | exact Fr0 | refine Fr.u ?_ rfl)⟩
    unfold f_X11_act
    rw [if_pos (show h0.1 1 0 6 < 6 by decide)]
    unfold f_X1_tellAct
    rw [if_pos (show mIn (h0.1 1 0 6) 6 = true by decide)]
    rfl
  obtain ⟨g2, e2⟩ : ∃ g2, f_X12_act g1 = some (0, g2) := by
    unfold f_X12_act
    have e : g1.1 12 0 16 = 0 := b1 12 16 rfl
    rw [e, if_neg (by decide), if_pos (by decide)]
    simp only [mLet]
    have e2 : (uI g1 58 0 (0 : Int32).toNatClampNeg 0).1 12 0 16 = 0 := e
    rw [e2]
    refine ⟨_, congrArg some (Prod.ext ?_ rfl)⟩
    simp [uI]
  exact ⟨(0, g1), (0, g2), e1, e2, rfl⟩
theorem P9 (a : Int32) : Al (f_X11_locks a) (f_X12_locks a) := by
  by_cases q0 : a = 0
  · subst q0
    refine ⟨(1, uI (uI h0 1 0 7 0) 1 0 9 0), (1, uI (uI (uI h0 1 0 7 0) 1 0 9 0) 12 0 22 0), rfl, ?_, rfl⟩
    unfold f_X12_locks
    rw [e_in, if_neg (by decide), if_pos (by decide), Option.bind_some, if_neg (by decide)]
    rfl
  · by_cases q1 : a = 1
    · subst q1
      refine ⟨(1, uI (uI h0 1 0 7 1) 1 0 9 0), (1, uI (uI (uI h0 1 0 7 1) 1 0 9 0) 12 0 22 1), rfl, ?_, rfl⟩
      unfold f_X12_locks
      rw [e_in, if_neg (by decide), if_pos (by decide), Option.bind_some, if_neg (by decide)]
      rfl
    · refine Al.no (x := -1) (by unfold f_X11_locks; rw [if_neg q0, if_neg q1]) ⟨h0, ?_⟩
      unfold f_X12_locks
      rw [e_in, Option.bind_some]
      have e : (if a < 0 then (0 : Int32) else if a ≤ 1 then 1 else 0) = b2i (mIn a 2) := rng (x := a) (n := 2) (by decide)
      rw [e]
      have e2 : mIn a 2 = false := by
        cases hz : mIn a 2 with
        | false => rfl
        | true =>
          obtain ⟨j, hj, rfl⟩ := mIn_of hz
          have : j = 0 ∨ j = 1 := by omega
          rcases this with rfl | rfl
          · exact absurd rfl q0
          · exact absurd rfl q1
      rw [e2]
      exact if_pos rfl
theorem c_tick (h : mH) (hp : h.1 2 0 6 = 0) (he : h.1 8 0 9 = 0) : f_X2_tick h = some (uJ h 8 0 10 (h.2 8 0 10 + 1)) := by
  unfold f_X2_tick
  obtain ⟨n, hn⟩ := mFu_s
  rw [hn, f_X2_tick_15, if_neg (show ¬ (0 : Int32) < (uJ h 8 0 10 (h.2 8 0 10 + 1)).1 2 0 6 by show ¬ (0 : Int32) < h.1 2 0 6; rw [hp]; decide), if_pos (show (uJ h 8 0 10 (h.2 8 0 10 + 1)).1 8 0 9 ≤ 0 by show h.1 8 0 9 ≤ 0; rw [he]; decide)]
theorem Al.mk {c m : mH → Option (Int32 × mH)} (r r' : Int32 × mH) (h1 : c h0 = some r) (h2 : m r.2 = some r') (h3 : r.1 = r'.1) : Al c m := ⟨r, r', h1, h2, h3⟩
def hT1 : mH := uJ h0 8 0 10 (h0.2 8 0 10 + 1)
theorem FT1 : Fr hT1 := Fr.uj Fr0
theorem T1_2 : ((xM hT1).1 12 2).toNatClampNeg = 0 := by decide
theorem T1_11 : ((xM hT1).1 12 11).toNatClampNeg = 0 := by decide
theorem T1_30 : ((xM hT1).1 12 30).toNatClampNeg = 0 := by decide
theorem tk0 {h : mH} (hF : Fr h) : tkOK (xM h) := ⟨⟨0, by omega, hF 12 2 rfl, fun f hf => absurd hf (Nat.not_lt_zero f)⟩, ⟨0, by omega, hF 12 30 rfl, fun f hf => absurd hf (Nat.not_lt_zero f)⟩⟩
theorem P16 (a : Int32) : Al (f_X11_read a) (f_X12_read a) := by
  cases q : mIn a 4 with
  | false =>
    exact Al.no (x := -1) (by unfold f_X11_read; rw [c_hasRegister, q]; rfl) ⟨h0, by unfold f_X12_read; rw [m_isRegister Fr0, q]; rfl⟩
  | true =>
    have F1 := FT1
    have z := e_reads a 0 hT1 (xM hT1) (tk0 F1)
    rw [wM_x] at z
    refine Al.mk (0, hT1) ((redM a 0 (xM hT1)).1, wM hT1 (redM a 0 (xM hT1)).2) ?_ ?_ ?_
    · unfold f_X11_read
      rw [c_hasRegister, q, Option.bind_some, if_neg (show ¬ b2i true = 0 by decide)]
      unfold f_X2_readRegister
      obtain ⟨j, hj, rfl⟩ := mIn_of q
      obtain ⟨n, hn⟩ := mFu_s
      rw [hn, f_X2_readRegister_5, if_pos (mIn_nI (by omega) (by decide)), if_neg (show ¬ (0 : Int32) < h0.1 29 0 (nI j).toNatClampNeg by show ¬ (0 : Int32) < 0; decide), c_tick h0 rfl rfl]
      rfl
    · unfold f_X12_read
      show (f_X12_isRegister a hT1).bind _ = _
      rw [m_isRegister F1, q, Option.bind_some, if_neg (show ¬ b2i true = 0 by decide)]
      show (f_X12_reads a 0 hT1).bind _ = _
      rw [z]
      rfl
    · show 0 = (rdSs a 0 ((xM hT1).1 12 2).toNatClampNeg (xM hT1)).1
      rw [T1_2]
      rfl
theorem fit16 {x : Int32} (q : ¬ x < 0) : x < 65536 ↔ x ≤ 65535 := by
  rw [Int32.lt_iff_toInt_lt, Int32.le_iff_toInt_le]
  have e1 : (65536 : Int32).toInt = 65536 := by decide
  have e2 : (65535 : Int32).toInt = 65535 := by decide
  omega
theorem P17 (a x : Int32) : Al (f_X11_write a x) (f_X12_write a x) := by
  cases q : mIn a 4 with
  | false =>
    exact Al.no (x := -1) (by unfold f_X11_write; rw [c_hasRegister, q]; rfl) ⟨h0, by unfold f_X12_write; rw [m_isRegister Fr0, q]; rfl⟩
  | true =>
    by_cases p1 : x < 0
    · refine Al.no (x := -1) ?_ ⟨h0, ?_⟩
      · unfold f_X11_write f_X11_fits
        rw [c_hasRegister, q, Option.bind_some, if_neg (show ¬ b2i true = 0 by decide), if_pos p1]
        rfl
      · unfold f_X12_write
        rw [m_isRegister Fr0, q, Option.bind_some, if_neg (show ¬ b2i true = 0 by decide), e_in, if_pos p1]
        rfl
    · by_cases p2 : x < 65536
      · have F1 : Fr hT1 := Fr.uj Fr0
        have z := e_writes a x hT1 (xM hT1) (n := 0) rfl (by omega) ⟨0, by omega, rfl, fun f hf => absurd hf (Nat.not_lt_zero f)⟩
        rw [wM_x] at z
        have z2 := e_ticks hT1 (wrtM a x (xM hT1)) (by
          have ew : wrtM a x (xM hT1) = xM hT1 := by
            unfold wrtM
            rw [T1_2, T1_11]
            rfl
          rw [ew]
          exact tk0 F1)
        refine Al.mk (1, hT1) ((wM hT1 (tikM (wrtM a x (xM hT1)))).1 12 0 23, wM hT1 (tikM (wrtM a x (xM hT1)))) ?_ ?_ ?_
        · unfold f_X11_write f_X11_fits
          rw [c_hasRegister, q, Option.bind_some, if_neg (show ¬ b2i true = 0 by decide), if_neg p1, if_pos (show x < (1 : Int32) <<< ((16 : Int32) &&& 31) from p2), Option.bind_some, if_neg (by decide)]
          unfold f_X2_writeRegister f_X2_hitsOf f_X2_lookAtLaws
          obtain ⟨j, hj, rfl⟩ := mIn_of q
          obtain ⟨n, hn⟩ := mFu_s
          rw [hn, f_X2_hitsOf_5, if_pos (mIn_nI (by omega) (by decide)), if_neg (show ¬ (0 : Int32) < h0.1 29 0 (nI j).toNatClampNeg by show ¬ (0 : Int32) < 0; decide), Option.bind_some, f_X2_lookAtLaws_2, if_neg (show ¬ (0 : Int32) < h0.1 1 0 5 by decide), Option.bind_some, f_X2_writeRegister_15, if_pos (mIn_nI (by omega) (by decide)), if_neg (show ¬ (0 : Int32) < h0.1 29 0 (nI j).toNatClampNeg by show ¬ (0 : Int32) < 0; decide), c_tick h0 rfl rfl]
          rfl
        · unfold f_X12_write
          show (f_X12_isRegister a hT1).bind _ = _
          rw [m_isRegister F1, q, Option.bind_some, if_neg (show ¬ b2i true = 0 by decide), e_in, if_neg p1, if_pos ((fit16 p1).mp p2), Option.bind_some, if_neg (by decide)]
          show (f_X12_writes a x hT1).bind _ = _
          rw [z, Option.bind_some, z2]
          rfl
        · show 1 = (wM hT1 (tikM (wrtM a x (xM hT1)))).1 12 0 23
          rw [wM_1 _ _ rfl]
          have ew : wrtM a x (xM hT1) = xM hT1 := by
            unfold wrtM
            rw [T1_2, T1_11]
            rfl
          rw [ew]
          unfold tikM tikP
          rw [T1_2, T1_30]
          decide
      · refine Al.no (x := -1) ?_ ⟨h0, ?_⟩
        · unfold f_X11_write f_X11_fits
          rw [c_hasRegister, q, Option.bind_some, if_neg (show ¬ b2i true = 0 by decide), if_neg p1, if_neg (show ¬ x < (1 : Int32) <<< ((16 : Int32) &&& 31) from p2)]
          rfl
        · unfold f_X12_write
          rw [m_isRegister Fr0, q, Option.bind_some, if_neg (show ¬ b2i true = 0 by decide), e_in, if_neg p1, if_neg (fun w => p2 ((fit16 p1).mpr w))]
          rfl
theorem P20 (a : Int32) : Al (f_X11_shadow a) (f_X12_shadow a) := by
  cases q : mIn a 4 with
  | false =>
    exact Al.no (x := -1) (by unfold f_X11_shadow; rw [c_hasRegister, q]; rfl) ⟨h0, by unfold f_X12_shadow; rw [m_isRegister Fr0, q]; rfl⟩
  | true =>
    obtain ⟨j, hj, rfl⟩ := mIn_of q
    refine Al.no (x := 0) ?_ ⟨h0, ?_⟩
    · unfold f_X11_shadow
      rw [c_hasRegister, q, Option.bind_some, if_neg (show ¬ b2i true = 0 by decide), if_pos (mIn_nI (by omega) (by decide))]
      rfl
    · unfold f_X12_shadow
      rw [m_isRegister Fr0, q, Option.bind_some, if_neg (show ¬ b2i true = 0 by decide), if_pos (mIn_nI (by omega) (by decide))]
      rfl
theorem P22 (a : Int32) : Al (f_X11_breaks a) (f_X12_breaks a) := by
  by_cases q0 : a = 0
  · subst q0
    exact Al.no (x := 0) rfl ⟨h0, rfl⟩
  · refine Al.no (x := -1) ?_ ⟨h0, ?_⟩
    · unfold f_X11_breaks
      have he : lg_cmp (h0.2 8 0 13) 0 ≤ 0 := by decide
      rw [if_neg q0, if_pos he, if_pos he]
      simp
    · unfold f_X12_breaks
      rw [if_neg q0]
      exact if_pos rfl
theorem P34 (a : Int32) : Al (f_X11_count a) (f_X12_count a) := by
  unfold Al f_X11_count f_X12_count
  by_cases q0 : a = 0
  · subst q0; exact ⟨(4, h0), (4, h0), rfl, rfl, rfl⟩
  rw [if_neg q0]
  by_cases q1 : a = 1
  · subst q1; exact ⟨(0, h0), (0, h0), rfl, rfl, rfl⟩
  rw [if_neg q1]
  by_cases q2 : a = 2
  · subst q2; exact ⟨(0, h0), (0, h0), rfl, rfl, rfl⟩
  rw [if_neg q2]
  by_cases q3 : a = 3
  · subst q3; exact ⟨(0, h0), (0, h0), rfl, rfl, rfl⟩
  rw [if_neg q3]
  by_cases q4 : a = 4
  · subst q4; exact ⟨(0, h0), (0, h0), rfl, rfl, rfl⟩
  rw [if_neg q4]
  by_cases q5 : a = 5
  · subst q5; exact ⟨(0, h0), (0, h0), rfl, rfl, rfl⟩
  rw [if_neg q5]
  by_cases q6 : a = 6
  · subst q6; exact ⟨(0, h0), (0, h0), rfl, rfl, rfl⟩
  rw [if_neg q6]
  by_cases q7 : a = 7
  · subst q7; exact ⟨(1, h0), (1, h0), rfl, rfl, rfl⟩
  rw [if_neg q7]
  by_cases q8 : a = 8
  · subst q8; exact ⟨(0, h0), (0, h0), rfl, rfl, rfl⟩
  rw [if_neg q8]
  refine ⟨(-1, h0), (-1, h0), rfl, ?_, rfl⟩
  show (if a = 0 then _ else _) = _
  rw [if_neg q0, if_neg q1, if_neg q2, if_neg q3, if_neg q4, if_neg q5, if_neg q6, if_neg q7, if_neg q8]

/-! ===== wait ===== -/
def hW (j : Nat) : mH := uJ h0 8 0 10 (lN j)
theorem hW_s (j : Nat) : uJ (hW j) 8 0 10 ((hW j).2 8 0 10 + 1) = hW (j + 1) := by
  apply Prod.ext
  · rfl
  · funext t i k
    have e0 : (hW j).2 8 0 10 = lN j := by simp [hW, uJ]
    rw [e0]
    have e1 : lN j + 1 = lN (j + 1) := (Int64.ofNat_add j 1).symm
    rw [e1]
    simp only [uJ, hW]
    by_cases q : t = 8 ∧ i = 0 ∧ k = 10
    · rw [if_pos q, if_pos q]
    · rw [if_neg q, if_neg q, if_neg q]
theorem c_wait (K : Int32 → Int32 → mH → Option (Int32 × mH)) {x : Nat} (hx : x ≤ 50) : f_X11_wait_14 K mFu (nI x) 0 h0 = K (nI x) (nI x) (hW x) := by
  have e0 : hW 0 = h0 := by
    apply Prod.ext
    · rfl
    · funext t i k
      simp only [hW, uJ]
      by_cases q : t = 8 ∧ i = 0 ∧ k = 10
      · rw [if_pos q, q.1, q.2.1, q.2.2]
        rfl
      · rw [if_neg q]
  have z := mLoop (fun m (c : Int32 × mH) => f_X11_wait_14 K m (nI x) c.1 c.2) (fun j => (nI j, hW j)) x (K (nI x) (nI x) (hW x)) ?_ ?_ mFu (mFu_lt (by omega))
  · dsimp only at z
    rw [e0] at z
    exact z
  · intro j hj m
    dsimp only
    rw [f_X11_wait_14, if_pos (nI_lt hj (by omega)), c_tick (hW j) rfl rfl, Option.bind_some, hW_s, nI_succ]
  · intro m
    dsimp only
    rw [f_X11_wait_14, if_neg (nI_nlt (Nat.le_refl _) (by omega))]
theorem m_wait (K : Int32 → Int32 → mH → Option (Int32 × mH)) (g : mH) (hF : Fr g) {x : Nat} (hx : x ≤ 50) : ∃ N : mM, N.1 12 23 = nI x ∧ f_X12_wait_14 K mFu (nI x) 0 g = K (nI x) (nI x) (wM g N) := by
  have key := mLoopR (fun m (c : Int32 × mM) => f_X12_wait_14 K m (nI x) c.1 (wM g c.2)) (fun j c => c.1 = nI j ∧ c.2.1 12 2 = 0 ∧ c.2.1 12 30 = 0 ∧ c.2.1 12 23 = nI j) x (fun c => K (nI x) c.1 (wM g c.2)) ?_ ?_ (b0 := ((0 : Int32), xM g)) ⟨rfl, hF 12 2 rfl, hF 12 30 rfl, hF 12 23 rfl⟩ mFu (mFu_lt (by omega))
  · obtain ⟨⟨v, N⟩, ⟨b1, -, -, b4⟩, e⟩ := key
    dsimp only at b1 b4 e
    subst b1
    rw [wM_x] at e
    exact ⟨N, b4, e⟩
  · rintro j hj ⟨v, N⟩ ⟨b1, b2, b3, b4⟩
    dsimp only at b1 b2 b3 b4
    subst b1
    have ok : tkOK N := ⟨⟨0, by omega, b2, fun f hf => absurd hf (Nat.not_lt_zero f)⟩, ⟨0, by omega, b3, fun f hf => absurd hf (Nat.not_lt_zero f)⟩⟩
    have c2 : (N.1 12 2).toNatClampNeg = 0 := by rw [b2]; decide
    have c3 : (N.1 12 30).toNatClampNeg = 0 := by rw [b3]; decide
    have eT : tikM N = uM (uM N 12 23 (N.1 12 23 + 1)) 12 30 (nI 0) := by
      unfold tikM tikP
      rw [c2, c3]
      rfl
    refine ⟨(nI (j + 1), tikM N), ⟨rfl, ?_, ?_, ?_⟩, fun m => ?_⟩
    · rw [eT, uM_k _ (by decide), uM_k _ (by decide)]
      exact b2
    · rw [eT, uM_s]
      rfl
    · rw [eT, uM_k _ (by decide), uM_s, b4, nI_1]
    · dsimp only
      rw [f_X12_wait_14, if_pos (nI_lt hj (by omega)), e_ticks g N ok, Option.bind_some, nI_succ]
  · rintro ⟨v, N⟩ ⟨b1, -, -, -⟩ m
    dsimp only at b1
    subst b1
    dsimp only
    rw [f_X12_wait_14, if_neg (nI_nlt (Nat.le_refl _) (by omega))]
theorem near_nI : ∀ x, x ≤ 50 → (if (2147483647 : Int64) < lN x then (2147483647 : Int64) else lN x).toInt32 = nI x := by decide
theorem P18 (a : Int32) : Al (f_X11_wait a) (f_X12_wait a) := by
  have e50 : (if a < 0 then (0 : Int32) else if a ≤ 50 then 1 else 0) = b2i (mIn a 51) := rng (x := a) (n := 51) (by decide)
  cases q : mIn a 51 with
  | false =>
    rw [q] at e50
    refine Al.no (x := -1) ?_ ⟨h0, ?_⟩
    · unfold f_X11_wait
      by_cases q1 : a < 0
      · rw [if_pos q1]
      · rw [if_neg q1] at e50 ⊢
        by_cases q2 : a ≤ 50
        · rw [if_pos q2] at e50
          exact absurd e50 (by decide)
        · rw [if_neg q2]
    · unfold f_X12_wait
      rw [e_in, e50, Option.bind_some]
      exact if_pos rfl
  | true =>
    obtain ⟨j, hj, rfl⟩ := mIn_of q
    obtain ⟨N, n1, n2⟩ := m_wait (fun u5 u6 h7 => some (h7.1 12 0 23, h7)) (hW j) (Fr.uj Fr0) (x := j) (by omega)
    refine Al.mk (nI j, hW j) (nI j, wM (hW j) N) ?_ ?_ rfl
    · unfold f_X11_wait
      rw [if_neg (nI_pos (by omega)), if_pos (show nI j ≤ (50 : Int32) from nI_le (b := 50) (by omega) (by decide)), c_wait _ (by omega)]
      have e0 : (hW j).2 8 0 10 = lN j := by simp [hW, uJ]
      show (f_X11_nearestInt ((hW j).2 8 0 10) (hW j)).bind _ = _
      rw [e0]
      unfold f_X11_nearestInt
      rw [near_nI j (by omega)]
      rfl
    · unfold f_X12_wait
      rw [e_in, e50, q, Option.bind_some, if_neg (show ¬ b2i true = 0 by decide)]
      show f_X12_wait_14 _ mFu (nI j) 0 (hW j) = _
      rw [n2, wM_1 _ _ rfl, n1]
