/-! ===== a fresh object: tapes ===== -/
theorem Fr.t89 {h : mH} (hF : Fr h) (k : Nat) : h.1 89 0 k = 0 := hF 89 k rfl
theorem nb {b : Bool} (h : b = true) : ¬ b2i b = 0 := by rw [h]; decide
def hR1 : mH := uI h0 11 0 6 (h0.1 11 0 6 + 1)
theorem FR1 : Fr hR1 := Fr.u Fr0 rfl
theorem c_no (x : Int32) : f_X11_hostRefuses x h0 = some (x, hR1) := rfl
theorem m_no (x : Int32) (h : mH) : ∃ g, f_X12_refuse x h = some (x, g) := ⟨_, rfl⟩
theorem P30 (a : Int32) : Al (f_X11_clear a) (f_X12_clear a) := by
  cases q : mIn a 6 with
  | false => exact Al.no (x := -1) (by unfold f_X11_clear; rw [c_isTape, q]; rfl) ⟨h0, by unfold f_X12_clear; rw [m_isTape, q]; rfl⟩
  | true =>
    have F1 : Fr (uI h0 9 a.toNatClampNeg 0 0) := Fr.u Fr0 rfl
    refine Al.mk (0, uI h0 9 a.toNatClampNeg 0 0) (0, uI (uI h0 9 a.toNatClampNeg 0 0) 89 0 a.toNatClampNeg 0) ?_ ?_ rfl
    · unfold f_X11_clear
      rw [c_isTape, Option.bind_some, if_neg (nb q), if_pos q]
      rfl
    · unfold f_X12_clear
      rw [m_isTape, Option.bind_some, if_neg (nb q), if_pos q]
      show some ((uI h0 9 a.toNatClampNeg 0 0).1 89 0 a.toNatClampNeg, _) = _
      rw [F1.t89 a.toNatClampNeg]
theorem m_lacks {a : Int32} {h : mH} (hF : Fr h) (q : mIn a 6 = true) : ∃ g, f_X12_lacks a h = some (-11, g) := by
  obtain ⟨g, e⟩ := m_no (-11) h
  refine ⟨g, ?_⟩
  unfold f_X12_lacks
  rw [m_isTape, Option.bind_some, if_neg (nb q), if_pos q]
  show (if h.1 89 0 a.toNatClampNeg = 0 then _ else _) = _
  rw [if_pos (hF.t89 a.toNatClampNeg)]
  show (f_X12_refuse (-11) h).bind _ = _
  rw [e]
  rfl
theorem m_lacksN {a : Int32} {h : mH} (q : mIn a 6 = false) : f_X12_lacks a h = some (-1, h) := by
  unfold f_X12_lacks
  rw [m_isTape, q]
  rfl
theorem P27 (a : Int32) : Al (f_X11_back a) (f_X12_back a) := by
  cases q : mIn a 6 with
  | false => exact Al.no (x := -1) (by unfold f_X11_back; rw [c_isTape, q]; rfl) ⟨h0, by unfold f_X12_back; rw [m_lacksN q]; rfl⟩
  | true =>
    obtain ⟨g, e⟩ := m_lacks (a := a) FR1 q
    refine Al.mk (-11, hR1) (-11, g) ?_ ?_ rfl
    · unfold f_X11_back
      rw [c_isTape, Option.bind_some, if_neg (nb q), if_pos q]
      rfl
    · unfold f_X12_back
      show (f_X12_lacks a hR1).bind _ = _
      rw [e]
      rfl
theorem P28 (a : Int32) : Al (f_X11_toss a) (f_X12_toss a) := by
  cases q : mIn a 6 with
  | false => exact Al.no (x := -1) (by unfold f_X11_toss; rw [c_isTape, q]; rfl) ⟨h0, by unfold f_X12_toss; rw [m_lacksN q]; rfl⟩
  | true =>
    obtain ⟨g, e⟩ := m_lacks (a := a) FR1 q
    refine Al.mk (-11, hR1) (-11, g) ?_ ?_ rfl
    · unfold f_X11_toss
      rw [c_isTape, Option.bind_some, if_neg (nb q), if_pos q]
      rfl
    · unfold f_X12_toss
      show (f_X12_lacks a hR1).bind _ = _
      rw [e]
      rfl
theorem P31 (a b : Int32) (v : Int64) : Al (f_X11_put a b v) (f_X12_put a b v) := by
  cases q : mIn a 6 with
  | false => exact Al.no (x := -1) (by unfold f_X11_put; rw [c_isTape, q]; rfl) ⟨h0, by unfold f_X12_put; rw [m_isTape, q]; rfl⟩
  | true =>
    obtain ⟨g, e⟩ := m_no (-11) hR1
    refine Al.mk (-11, hR1) (-11, g) ?_ ?_ rfl
    · unfold f_X11_put
      rw [c_isTape, Option.bind_some, if_neg (nb q), if_pos q]
      unfold f_X9_holdsRow
      rw [if_pos (show h0.1 9 a.toNatClampNeg 0 < 1 by show (0 : Int32) < 1; decide)]
      rfl
    · unfold f_X12_put
      rw [m_isTape, Option.bind_some, if_neg (nb q), if_pos q]
      show (if hR1.1 89 0 a.toNatClampNeg = 0 then _ else _) = _
      rw [if_pos (FR1.t89 a.toNatClampNeg)]
      show (f_X12_refuse (-11) hR1).bind _ = _
      rw [e]
      rfl
theorem P33 (a b c d e : Int32) : Al (f_X11_copy a b c d e) (f_X12_copy a b c d e) := by
  cases q : mIn a 6 with
  | false => exact Al.no (x := -1) (by unfold f_X11_copy; rw [c_isTape, q]; rfl) ⟨h0, by unfold f_X12_copy; rw [m_isTape, q]; rfl⟩
  | true =>
    cases q2 : mIn c 6 with
    | false =>
      refine Al.no (x := -1) ?_ ⟨h0, ?_⟩
      · unfold f_X11_copy
        rw [c_isTape, Option.bind_some, if_neg (nb q), c_isTape, q2]
        rfl
      · unfold f_X12_copy
        rw [m_isTape, Option.bind_some, if_neg (nb q), m_isTape, q2]
        rfl
    | true =>
      obtain ⟨g, e1⟩ := m_no (-11) hR1
      refine Al.mk (-11, hR1) (-11, g) ?_ ?_ rfl
      · unfold f_X11_copy
        rw [c_isTape, Option.bind_some, if_neg (nb q), c_isTape, Option.bind_some, if_neg (nb q2), if_pos q, if_pos q2]
        rfl
      · unfold f_X12_copy
        rw [m_isTape, Option.bind_some, if_neg (nb q), m_isTape, Option.bind_some, if_neg (nb q2), if_pos q]
        show (if hR1.1 89 0 a.toNatClampNeg = 0 then _ else _) = _
        rw [if_pos (FR1.t89 a.toNatClampNeg)]
        show (f_X12_refuse (-11) hR1).bind _ = _
        rw [e1]
        rfl
theorem P29 (a b c : Int32) : Al (f_X11_play a b c) (f_X12_play a b c) := by
  cases q : mIn a 6 with
  | false => exact Al.no (x := -1) (by unfold f_X11_play; rw [c_isTape, q]; rfl) ⟨h0, by unfold f_X12_play; rw [m_isTape, q]; rfl⟩
  | true =>
    by_cases q1 : c < 0
    · refine Al.no (x := -1) ?_ ⟨h0, ?_⟩
      · unfold f_X11_play
        rw [c_isTape, Option.bind_some, if_neg (nb q), if_pos q1]
      · unfold f_X12_play
        rw [m_isTape, Option.bind_some, if_neg (nb q), e_in, if_pos q1]
        rfl
    · by_cases q2 : c ≤ 64
      · obtain ⟨g, e⟩ := m_no (-11) hR1
        refine Al.mk (-11, hR1) (-11, g) ?_ ?_ rfl
        · unfold f_X11_play
          rw [c_isTape, Option.bind_some, if_neg (nb q), if_neg q1, if_pos q2, if_pos q]
          rfl
        · unfold f_X12_play
          rw [m_isTape, Option.bind_some, if_neg (nb q), e_in, if_neg q1, if_pos q2, Option.bind_some, if_neg (show ¬ (1 : Int32) = 0 by decide), if_pos q]
          show (if hR1.1 89 0 a.toNatClampNeg = 0 then _ else _) = _
          rw [if_pos (FR1.t89 a.toNatClampNeg)]
          show (f_X12_refuse (-11) hR1).bind _ = _
          rw [e]
          rfl
      · refine Al.no (x := -1) ?_ ⟨h0, ?_⟩
        · unfold f_X11_play
          rw [c_isTape, Option.bind_some, if_neg (nb q), if_neg q1, if_neg q2]
        · unfold f_X12_play
          rw [m_isTape, Option.bind_some, if_neg (nb q), e_in, if_neg q1, if_neg q2]
          rfl
/-! tape -/
theorem m_tape52 {α : Type} (K : Int32 → Int32 → Int32 → mH → Option (Int32 × mH)) (v : Int32) {d : Nat} (hd : d < 6) (g : mH) : ∃ g', f_X12_tape_52 K mFu (nI d) v 0 g = K (nI d) v (nI 64) g' := by
  have key := mLoopR (fun m (c : Int32 × mH) => f_X12_tape_52 K m (nI d) v c.1 c.2) (fun j c => c.1 = nI j) 64 (fun c => K (nI d) v (nI 64) c.2) ?_ ?_ (b0 := ((0 : Int32), g)) rfl mFu (mFu_lt (by omega))
  · obtain ⟨⟨w, g'⟩, -, e⟩ := key
    exact ⟨g', e⟩
  · rintro j hj ⟨w, g'⟩ b1
    dsimp only at b1
    subst b1
    refine ⟨(nI (j + 1), uJ g' 91 0 (nI (64 * d + j)).toNatClampNeg 0), rfl, fun m => ?_⟩
    dsimp only
    have eQ : 64 * nI d + nI j = nI (64 * d + j) := nI_mad 64 d j
    rw [f_X12_tape_52, if_pos (show nI j < (64 : Int32) from nI_lt (b := 64) hj (by decide)), eQ, if_pos (mIn_nI (by omega) (by decide)), nI_succ]
  · rintro ⟨w, g'⟩ b1 m
    dsimp only at b1
    subst b1
    dsimp only
    rw [f_X12_tape_52, if_neg (show ¬ nI 64 < (64 : Int32) by decide)]
theorem c_tape {j : Nat} (hj : j < 6) {b c : Int32} (q1 : ¬ b < 1) (q2 : b ≤ 4) (q3 : c ≤ 64) (q4 : ¬ c < 0) : ∃ g, f_X11_tape (nI j) b c h0 = some (c, g) := by
  have q : mIn (nI j) 6 = true := mIn_nI hj (by decide)
  have e1 : f_X9_takeRow (nI j).toNatClampNeg b c h0 = some (flJ (uI (uI h0 9 (nI j).toNatClampNeg 0 b) 9 (nI j).toNatClampNeg 1 c) 42 (nI j).toNatClampNeg 64 0) := by
    unfold f_X9_takeRow
    simp only [mLet]
    rw [e_fillJ 42 (by omega)]
    rfl
  refine ⟨flJ (uI (uI h0 9 (nI j).toNatClampNeg 0 b) 9 (nI j).toNatClampNeg 1 c) 42 (nI j).toNatClampNeg 64 0, ?_⟩
  unfold f_X11_tape
  rw [c_isTape, Option.bind_some, if_neg (nb q), if_neg q1, if_pos q2, if_pos q3, if_neg q4, if_pos q, e1]
  rfl
theorem m_tape {j : Nat} (hj : j < 6) {b c : Int32} (q1 : ¬ b < 1) (q2 : b ≤ 4) (q3 : c ≤ 64) (q4 : ¬ c < 0) (h : mH) : ∃ g, f_X12_tape (nI j) b c h = some (c, g) := by
  have q : mIn (nI j) 6 = true := mIn_nI hj (by decide)
  obtain ⟨g2, e2⟩ := m_tape52 (α := Nat) (fun u11 u12 u13 h14 => some (u12, h14)) c hj (uI (uI h 89 0 (nI j).toNatClampNeg b) 90 0 (nI j).toNatClampNeg c)
  refine ⟨g2, ?_⟩
  unfold f_X12_tape
  rw [m_isTape]
  simp only [Option.bind_some, mLet]
  rw [if_neg (nb q), e_in, if_neg q1, if_pos q2]
  simp only [Option.bind_some]
  rw [if_neg (show ¬ (1 : Int32) = 0 by decide), if_pos q3, if_neg q4, if_pos q]
  exact e2
theorem P25 (a b c : Int32) : Al (f_X11_tape a b c) (f_X12_tape a b c) := by
  cases q : mIn a 6 with
  | false => exact Al.no (x := -1) (by unfold f_X11_tape; rw [c_isTape, q]; rfl) ⟨h0, by unfold f_X12_tape; rw [m_isTape, q]; rfl⟩
  | true =>
    by_cases q1 : b < 1
    · refine Al.no (x := -1) ?_ ⟨h0, ?_⟩
      · unfold f_X11_tape
        rw [c_isTape, Option.bind_some, if_neg (nb q), if_pos q1]
      · unfold f_X12_tape
        rw [m_isTape, Option.bind_some, if_neg (nb q), e_in, if_pos q1]
        rfl
    · by_cases q2 : b ≤ 4
      · by_cases q3 : c ≤ 64
        · by_cases q4 : c < 0
          · obtain ⟨g, e⟩ := m_no (-14) hR1
            refine Al.mk (-14, hR1) (-14, g) ?_ ?_ rfl
            · unfold f_X11_tape
              rw [c_isTape, Option.bind_some, if_neg (nb q), if_neg q1, if_pos q2, if_pos q3, if_pos q4]
              rfl
            · unfold f_X12_tape
              rw [m_isTape, Option.bind_some, if_neg (nb q), e_in, if_neg q1, if_pos q2, Option.bind_some, if_neg (show ¬ (1 : Int32) = 0 by decide), if_pos q3, if_pos q4]
              show (f_X12_refuse (-14) hR1).bind _ = _
              rw [e]
              rfl
          · obtain ⟨j, hj, rfl⟩ := mIn_of q
            obtain ⟨g1, e1⟩ := c_tape hj q1 q2 q3 q4
            obtain ⟨g2, e2⟩ := m_tape hj q1 q2 q3 q4 g1
            exact Al.mk (c, g1) (c, g2) e1 e2 rfl
        · refine Al.no (x := -1) ?_ ⟨h0, ?_⟩
          · unfold f_X11_tape
            rw [c_isTape, Option.bind_some, if_neg (nb q), if_neg q1, if_pos q2, if_neg q3]
          · unfold f_X12_tape
            rw [m_isTape, Option.bind_some, if_neg (nb q), e_in, if_neg q1, if_pos q2, Option.bind_some, if_neg (show ¬ (1 : Int32) = 0 by decide), if_neg q3]
      · refine Al.no (x := -1) ?_ ⟨h0, ?_⟩
        · unfold f_X11_tape
          rw [c_isTape, Option.bind_some, if_neg (nb q), if_neg q1, if_neg q2]
        · unfold f_X12_tape
          rw [m_isTape, Option.bind_some, if_neg (nb q), e_in, if_neg q1, if_neg q2]
          rfl
theorem P26 (a : Int32) : Al (f_X11_image a) (f_X12_image a) := by
  cases q : mIn a 6 with
  | false => exact Al.no (x := -1) (by unfold f_X11_image; rw [c_isTape, q]; rfl) ⟨h0, by unfold f_X12_image; rw [m_isTape, q]; rfl⟩
  | true =>
    obtain ⟨j, hj, rfl⟩ := mIn_of q
    have cj : (nI j).toNatClampNeg = j := nI_clamp (by omega)
    obtain ⟨g1, e1, F1, n1⟩ : ∃ g, f_X9_takeImage (nI j).toNatClampNeg 0 (h0.1 1 0 8) h0 = some g ∧ Fr g ∧ g.2 8 0 10 = 0 := by
      rw [cj]
      refine ⟨_, rfl, by repeat (first | exact Fr0 | refine Fr.u ?_ rfl | refine Fr.uj ?_ | refine Fr.cp ?_ rfl | refine Fr.cj ?_), ?_⟩
      have ej : ¬ 0 = j + 2 := by omega
      simp [uI, uJ, cpI, cpJ, ej]
      rfl
    have F2 : ∀ k, (uI (uI g1 89 0 (nI j).toNatClampNeg 5) 90 0 (nI j).toNatClampNeg 0).1 12 0 k = h0.1 12 0 k := fun k => F1 12 k rfl
    obtain ⟨N, eN, -, -, hN, -⟩ := e_stores (uI (uI g1 89 0 (nI j).toNatClampNeg 5) 90 0 (nI j).toNatClampNeg 0) (xM (uI (uI g1 89 0 (nI j).toNatClampNeg 5) 90 0 (nI j).toNatClampNeg 0)) (s := j) (e := 0) (by omega) (F2 30) (by omega)
    rw [wM_x] at eN
    refine Al.mk (0, g1) (0, wM (uI (uI g1 89 0 (nI j).toNatClampNeg 5) 90 0 (nI j).toNatClampNeg 0) N) ?_ ?_ rfl
    · unfold f_X11_image
      rw [c_isTape, Option.bind_some, if_neg (nb q), if_pos q]
      show (f_X9_takeImage (nI j).toNatClampNeg 0 (h0.1 1 0 8) h0).bind _ = _
      rw [e1, Option.bind_some]
      unfold f_X11_nearestInt
      rw [n1]
      rfl
    · unfold f_X12_image
      rw [m_isTape, Option.bind_some, if_neg (nb q), if_pos q]
      show (f_X12_stores (nI j) (uI (uI g1 89 0 (nI j).toNatClampNeg 5) 90 0 (nI j).toNatClampNeg 0)).bind _ = _
      rw [eN, Option.bind_some, wM_1 _ _ rfl, hN 12 23 (by omega) (by omega) (by omega) (by omega)]
      exact congrArg some (Prod.ext (F2 23) rfl)
