/-! ===== Arrays.fill, on the world ===== -/
def flI (h : mH) (t i n : Nat) (v : Int32) : mH := (fun t' i' k => if t' = t ∧ i' = i ∧ k < n then v else h.1 t' i' k, h.2)
theorem flI_u (h : mH) (t i n : Nat) (v : Int32) : uI (flI h t i n v) t i n v = flI h t i (n + 1) v := by
  apply Prod.ext
  · funext a b k
    show (if a = t ∧ b = i ∧ k = n then v else if a = t ∧ b = i ∧ k < n then v else h.1 a b k) = (if a = t ∧ b = i ∧ k < n + 1 then v else h.1 a b k)
    by_cases z : a = t ∧ b = i
    · by_cases y : k = n
      · rw [if_pos ⟨z.1, z.2, y⟩, if_pos ⟨z.1, z.2, by omega⟩]
      · rw [if_neg (fun w => y w.2.2)]
        by_cases x : k < n
        · rw [if_pos ⟨z.1, z.2, x⟩, if_pos ⟨z.1, z.2, by omega⟩]
        · rw [if_neg (fun w => x w.2.2), if_neg (fun w => by omega)]
    · rw [if_neg (fun w => z ⟨w.1, w.2.1⟩), if_neg (fun w => z ⟨w.1, w.2.1⟩), if_neg (fun w => z ⟨w.1, w.2.1⟩)]
  · rfl
theorem e_fill (t : Nat) {n : Nat} (hn : n ≤ 64) (i : Nat) (v : Int32) (h : mH) : f_J7_fill_53178 t n i v h = some (flI h t i n v) := by
  unfold f_J7_fill_53178
  have e0 : flI h t i 0 v = h := by
    apply Prod.ext
    · funext a b k
      exact if_neg (fun w => by omega)
    · rfl
  have z := mLoop (fun m (c : Int32 × mH) => f_J7_fill_53178_5 (fun _ _ _ h6 => some h6) t n i m v c.1 (nI n) c.2) (fun j => (nI j, flI h t i j v)) n (some (flI h t i n v)) ?_ ?_ mFu (mFu_lt (by omega))
  · dsimp only at z
    rw [e0] at z
    exact z
  · intro j hj m
    dsimp only
    rw [f_J7_fill_53178_5, if_pos (nI_lt hj (by omega)), if_pos (mIn_nI hj (by omega)), nI_clamp (by omega), flI_u, nI_succ]
  · intro m
    dsimp only
    rw [f_J7_fill_53178_5, if_neg (nI_nlt (Nat.le_refl _) (by omega))]
theorem flI_ne (h : mH) {t i n : Nat} {v : Int32} {t' i' : Nat} (e : ¬ (t' = t ∧ i' = i)) : (flI h t i n v).1 t' i' = h.1 t' i' := by
  funext k
  exact if_neg (fun w => e ⟨w.1, w.2.1⟩)
theorem flI_in (h : mH) {t i n : Nat} {v : Int32} {k : Nat} (hk : k < n) : (flI h t i n v).1 t i k = v := if_pos ⟨rfl, rfl, hk⟩
def flJ (h : mH) (t i n : Nat) (v : Int64) : mH := (h.1, fun t' i' k => if t' = t ∧ i' = i ∧ k < n then v else h.2 t' i' k)
theorem flJ_u (h : mH) (t i n : Nat) (v : Int64) : uJ (flJ h t i n v) t i n v = flJ h t i (n + 1) v := by
  apply Prod.ext
  · rfl
  · funext a b k
    show (if a = t ∧ b = i ∧ k = n then v else if a = t ∧ b = i ∧ k < n then v else h.2 a b k) = (if a = t ∧ b = i ∧ k < n + 1 then v else h.2 a b k)
    by_cases z : a = t ∧ b = i
    · by_cases y : k = n
      · rw [if_pos ⟨z.1, z.2, y⟩, if_pos ⟨z.1, z.2, by omega⟩]
      · rw [if_neg (fun w => y w.2.2)]
        by_cases x : k < n
        · rw [if_pos ⟨z.1, z.2, x⟩, if_pos ⟨z.1, z.2, by omega⟩]
        · rw [if_neg (fun w => x w.2.2), if_neg (fun w => by omega)]
    · rw [if_neg (fun w => z ⟨w.1, w.2.1⟩), if_neg (fun w => z ⟨w.1, w.2.1⟩), if_neg (fun w => z ⟨w.1, w.2.1⟩)]
theorem e_fillJ (t : Nat) {n : Nat} (hn : n ≤ 64) (i : Nat) (v : Int64) (h : mH) : f_J7_fill_d0a16 t n i v h = some (flJ h t i n v) := by
  unfold f_J7_fill_d0a16
  have e0 : flJ h t i 0 v = h := by
    apply Prod.ext
    · rfl
    · funext a b k
      exact if_neg (fun w => by omega)
  have z := mLoop (fun m (c : Int32 × mH) => f_J7_fill_d0a16_6 (fun _ _ _ h6 => some h6) t n i m v c.1 (nI n) c.2) (fun j => (nI j, flJ h t i j v)) n (some (flJ h t i n v)) ?_ ?_ mFu (mFu_lt (by omega))
  · dsimp only at z
    rw [e0] at z
    exact z
  · intro j hj m
    dsimp only
    rw [f_J7_fill_d0a16_6, if_pos (nI_lt hj (by omega)), if_pos (mIn_nI hj (by omega)), nI_clamp (by omega), flJ_u, nI_succ]
  · intro m
    dsimp only
    rw [f_J7_fill_d0a16_6, if_neg (nI_nlt (Nat.le_refl _) (by omega))]

/-! ===== a fresh object ===== -/
/-- the model's ints are as they were at the start -/
def Fr (h : mH) : Prop := ∀ t k, isM t = true → h.1 t 0 k = h0.1 t 0 k
theorem Fr0 : Fr h0 := fun _ _ _ => rfl
theorem Fr.u {h : mH} {t i k : Nat} {x : Int32} (hF : Fr h) (ht : isM t = false) : Fr (uI h t i k x) := by
  intro t' k' h'
  have e : t' ≠ t := fun z => by rw [z, ht] at h'; cases h'
  show (if t' = t ∧ 0 = i ∧ k' = k then x else h.1 t' 0 k') = _
  rw [if_neg (fun z => e z.1)]
  exact hF t' k' h'
theorem Fr.uj {h : mH} {t i k : Nat} {x : Int64} (hF : Fr h) : Fr (uJ h t i k x) := hF
theorem Fr.fl {h : mH} {t i n : Nat} {x : Int32} (hF : Fr h) (ht : isM t = false) : Fr (flI h t i n x) := by
  intro t' k' h'
  have e : t' ≠ t := fun z => by rw [z, ht] at h'; cases h'
  show (if t' = t ∧ 0 = i ∧ k' < n then x else h.1 t' 0 k') = _
  rw [if_neg (fun z => e z.1)]
  exact hF t' k' h'
theorem Fr.fj {h : mH} {t i n : Nat} {x : Int64} (hF : Fr h) : Fr (flJ h t i n x) := hF
theorem Fr.cp {h : mH} {t0 i0 t1 i1 a b n : Nat} (hF : Fr h) (ht : isM t1 = false) : Fr (cpI h t0 i0 t1 i1 a b n) := by
  intro t' k' h'
  have e : t' ≠ t1 := fun z => by rw [z, ht] at h'; cases h'
  show (if t' = t1 ∧ _ then _ else h.1 t' 0 k') = _
  rw [if_neg (fun z => e z.1)]
  exact hF t' k' h'
theorem Fr.cj {h : mH} {t0 i0 t1 i1 a b n : Nat} (hF : Fr h) : Fr (cpJ h t0 i0 t1 i1 a b n) := hF
theorem lt0_or (x : Int32) : (if x < 0 then (0 : Int32) else if x ≤ -1 then 1 else 0) = 0 := by
  by_cases q : x < 0
  · rw [if_pos q]
  · rw [if_neg q, if_neg]
    intro z
    apply q
    rw [Int32.lt_iff_toInt_lt]
    rw [Int32.le_iff_toInt_le] at z
    have e1 : (-1 : Int32).toInt = -1 := by decide
    have e2 : (0 : Int32).toInt = 0 := by decide
    omega
theorem mIn_0 (x : Int32) : mIn x 0 = false := by simp [mIn]
theorem m_isField {x : Int32} {h : mH} (hF : Fr h) : f_X12_isField x h = some (0, h) := by
  have z := e_isField (x := x) (h := h) (M := xM h) (n := 0) (hF 12 2 rfl) (by decide)
  rw [wM_x, mIn_0] at z
  exact z
theorem m_isAct {x : Int32} {h : mH} (hF : Fr h) : f_X12_isAct x h = some (0, h) := by
  have z := e_isAct (x := x) (h := h) (M := xM h) (n := 0) (hF 12 16 rfl) (by decide)
  rw [wM_x, mIn_0] at z
  exact z
theorem m_isRegister {x : Int32} {h : mH} (hF : Fr h) : f_X12_isRegister x h = some (b2i (mIn x 4), h) := by
  have z := e_isRegister (x := x) (h := h) (M := xM h) (n := 4) (hF 12 1 rfl) (by decide)
  rw [wM_x] at z
  exact z
theorem m_isTape (x : Int32) (h : mH) : f_X12_isTape x h = some (b2i (mIn x 6), h) := by
  unfold f_X12_isTape
  rw [e_in, Option.bind_some]
  have e : (if x < 0 then (0 : Int32) else if x ≤ 5 then 1 else 0) = b2i (mIn x 6) := rng (x := x) (n := 6) (by decide)
  rw [e, if_pos (b2i_01 _)]
theorem c_hasField (x : Int32) : f_X1_hasField x h0 = some (0, h0) := by
  unfold f_X1_hasField
  by_cases q : x < 0
  · rw [if_pos q]
  · rw [if_neg q]
    show (if x < 0 then _ else _) = _
    rw [if_neg q]
theorem c_hasAct (x : Int32) : f_X1_hasAct x h0 = some (0, h0) := by
  unfold f_X1_hasAct
  by_cases q : x < 0
  · rw [if_pos q]
  · rw [if_neg q]
    show (if x < 0 then _ else _) = _
    rw [if_neg q]
theorem mIn_lt {x : Int32} {n : Nat} (hn : n < 2147483648) : (if x < 0 then (0 : Int32) else if x < nI n then 1 else 0) = b2i (mIn x n) := by
  by_cases q : x < 0
  · rw [if_pos q, mIn_neg q]; rfl
  · rw [if_neg q]
    obtain ⟨j, hj, rfl⟩ := nI_of q
    by_cases z : j < n
    · rw [if_pos (nI_lt z (by omega)), mIn_nI z hn]; rfl
    · rw [if_neg (nI_nlt (by omega) hj)]
      have e : mIn (nI j) n = false := by
        simp [mIn, nI_clamp hj]
        intro _
        omega
      rw [e]; rfl
theorem c_hasRegister (x : Int32) : f_X1_hasRegister x h0 = some (b2i (mIn x 4), h0) := by
  unfold f_X1_hasRegister
  have e := mIn_lt (x := x) (n := 4) (by decide)
  rw [← e]
  show (if x < 0 then some (0, h0) else if x < 4 then some (1, h0) else some (0, h0)) = _
  by_cases q : x < 0
  · rw [if_pos q, if_pos q]
  · rw [if_neg q, if_neg q]
    by_cases z : x < 4
    · rw [if_pos z, if_pos (show x < nI 4 from z)]
    · rw [if_neg z, if_neg (show ¬ x < nI 4 from z)]
theorem c_isTape (x : Int32) (h : mH) : f_X11_isTape x h = some (b2i (mIn x 6), h) := by
  unfold f_X11_isTape
  have e := mIn_lt (x := x) (n := 6) (by decide)
  rw [← e]
  by_cases q : x < 0
  · rw [if_pos q, if_pos q]
  · rw [if_neg q, if_neg q]
    by_cases z : x < 6
    · rw [if_pos z, if_pos (show x < nI 6 from z)]
    · rw [if_neg z, if_neg (show ¬ x < nI 6 from z)]
/-- class and model answer alike -/
def Al (c m : mH → Option (Int32 × mH)) : Prop := ∃ r r', c h0 = some r ∧ m r.2 = some r' ∧ r.1 = r'.1
theorem Al.no {c m : mH → Option (Int32 × mH)} {x : Int32} (h1 : c h0 = some (x, h0)) (h2 : ∃ h', m h0 = some (x, h')) : Al c m := by
  obtain ⟨h', h2⟩ := h2
  exact ⟨(x, h0), (x, h'), h1, h2, rfl⟩
theorem P2 (a b : Int32) : Al (f_X11_period a b) (f_X12_period a b) := Al.no (x := -1) (by simp [f_X11_period, c_hasField]) ⟨_, by simp [f_X12_period, m_isField Fr0]; rfl⟩
theorem P3 (a b : Int32) : Al (f_X11_done a b) (f_X12_done a b) := Al.no (x := -1) (by simp [f_X11_done, c_hasField]) ⟨_, by simp [f_X12_done, m_isField Fr0]; rfl⟩
theorem P4 (a b c d : Int32) : Al (f_X11_law a b c d) (f_X12_law a b c d) := Al.no (x := -1) (by simp [f_X11_law, c_hasField]) ⟨h0, by simp [f_X12_law, m_isField Fr0, e_in]⟩
theorem P6 (a b c d e : Int32) : Al (f_X11_step a b c d e) (f_X12_step a b c d e) := Al.no (x := -1) (by simp [f_X11_step, c_hasAct]) ⟨_, by simp [f_X12_step, m_isAct Fr0]; rfl⟩
theorem P7 (a : Int32) : Al (f_X11_bare a) (f_X12_bare a) := Al.no (x := -1) (by simp [f_X11_bare, c_hasAct]) ⟨_, by simp [f_X12_bare, m_isAct Fr0]; rfl⟩
theorem P8 (a b : Int32) : Al (f_X11_handler a b) (f_X12_handler a b) := Al.no (x := -1) (by simp [f_X11_handler, c_hasField]) ⟨_, by simp [f_X12_handler, m_isField Fr0]; rfl⟩
theorem P10 (a : Int32) : Al (f_X11_code a) (f_X12_code a) := Al.no (x := -1) (by simp [f_X11_code, c_hasAct]) ⟨_, by simp [f_X12_code, m_isAct Fr0]; rfl⟩
theorem P11 (a b c : Int32) : Al (f_X11_op a b c) (f_X12_op a b c) := Al.no (x := -1) (by simp [f_X11_op, c_hasAct]) ⟨_, by simp [f_X12_op, m_isAct Fr0]; rfl⟩
theorem P12 (a b : Int32) : Al (f_X11_same a b) (f_X12_same a b) := Al.no (x := -1) (by simp [f_X11_same, c_hasAct]) ⟨_, by simp [f_X12_same, m_isAct Fr0]; rfl⟩
theorem P14 (a b c : Int32) : Al (f_X11_event a b c) (f_X12_event a b c) := Al.no (x := -1) (by simp [f_X11_event, c_hasField]) ⟨_, by simp [f_X12_event, m_isField Fr0]; rfl⟩
theorem P15 (a : Int32) : Al (f_X11_run a) (f_X12_run a) := Al.no (x := -1) (by simp [f_X11_run, c_hasAct]) ⟨_, by simp [f_X12_run, m_isAct Fr0]; rfl⟩
theorem P19 (a b : Int32) : Al (f_X11_peek a b) (f_X12_peek a b) := Al.no (x := -1) (by simp [f_X11_peek, c_hasField]) ⟨_, by simp [f_X12_peek, m_isField Fr0]; rfl⟩
theorem P23 (a b : Int32) : Al (f_X11_walk a b) (f_X12_walk a b) := Al.no (x := -1) (by simp [f_X11_walk, c_hasAct]) ⟨_, by simp [f_X12_walk, m_isAct Fr0]; rfl⟩
theorem P21 : Al (f_X11_result) (f_X12_result) := ⟨(0, h0), (0, h0), rfl, rfl, rfl⟩
theorem P24 (a : Int32) : Al (f_X11_why a) (f_X12_why a) := Al.no (x := -1) (by unfold f_X11_why; exact if_pos rfl) ⟨h0, by unfold f_X12_why; exact if_pos rfl⟩
