/-! ===== READ and WRITE in closed form ===== -/
def rdS (r b : Int32) (p : Int32 × mM) (f : Nat) : Int32 × mM :=
  if p.2.1 46 f = r then
    if p.2.1 49 f = 6 then p else
    if p.2.1 49 f = 3 then (p.1 ||| (p.2.1 63 f <<< (p.2.1 47 f &&& 31)), uM (uM p.2 66 f (p.2.1 66 f ||| (if b = 0 then 0 else p.2.1 63 f))) 63 f 0)
    else (p.1 ||| (p.2.1 63 f <<< (p.2.1 47 f &&& 31)), p.2)
  else p
def rdSs (r b : Int32) : Nat → mM → Int32 × mM
  | 0, M => (0, M)
  | f + 1, M => rdS r b (rdSs r b f M) f
theorem rdSs_o (r b : Int32) (M : mM) {t : Nat} (h1 : t ≠ 63) (h2 : t ≠ 66) (k : Nat) : ∀ j, (rdSs r b j M).2.1 t k = M.1 t k
  | 0 => rfl
  | j + 1 => by
    have ih := rdSs_o r b M h1 h2 k j
    show (rdS r b (rdSs r b j M) j).2.1 t k = _
    unfold rdS
    split
    · split
      · exact ih
      · split
        · show (uM (uM _ 66 _ _) 63 _ _).1 t k = _
          rw [uM_t _ h1, uM_t _ h2]
          exact ih
        · exact ih
    · exact ih
theorem e_rd5 (k : Int32 → Int32 → Int32 → Int32 → mH → Option (Int32 × mH)) (r b : Int32) (h : mH) (M : mM) {n : Nat} (hn : M.1 12 2 = nI n) (h24 : n ≤ 24) : f_X12_reads_5 k mFu r b 0 0 (wM h M) = k r b (rdSs r b n M).1 (nI n) (wM h (rdSs r b n M).2) := by
  refine mLoop (fun m (c : Int32 × Int32 × mH) => f_X12_reads_5 k m r b c.1 c.2.1 c.2.2) (fun j => ((rdSs r b j M).1, nI j, wM h (rdSs r b j M).2)) n _ ?_ ?_ mFu (mFu_lt (by omega))
  · intro j hj m
    show f_X12_reads_5 k (m + 1) r b (rdSs r b j M).1 (nI j) (wM h (rdSs r b j M).2) = f_X12_reads_5 k m r b (rdS r b (rdSs r b j M) j).1 (nI (j + 1)) (wM h (rdS r b (rdSs r b j M) j).2)
    have e12 : (rdSs r b j M).2.1 12 2 = nI n := by rw [rdSs_o _ _ _ (by decide) (by decide), hn]
    rw [f_X12_reads_5, wM_1 h _ rfl, e12, if_pos (nI_lt hj (by omega)), if_pos (mIn_nI (by omega) (by decide)), nI_clamp (by omega), nI_succ]
    generalize rdSs r b j M = p at e12 ⊢
    obtain ⟨x, N⟩ := p
    dsimp only at e12 ⊢
    unfold rdS
    dsimp only
    simp (config := { decide := true }) only [mLet, wM_1, wM_u, uM_t, uM_s]
    by_cases q1 : N.1 46 j = r
    · rw [if_pos q1, if_pos q1]
      by_cases q2 : N.1 49 j = 6
      · rw [if_pos q2, if_pos q2]
      · rw [if_neg q2, if_neg q2]
        by_cases q3 : N.1 49 j = 3
        · rw [if_pos q3, if_pos q3]
          by_cases q4 : b = 0
          · rw [if_pos q4, if_pos q4]
          · rw [if_neg q4, if_neg q4]
        · rw [if_neg q3, if_neg q3]
    · rw [if_neg q1, if_neg q1]
  · intro m
    show f_X12_reads_5 k (m + 1) r b (rdSs r b n M).1 (nI n) (wM h (rdSs r b n M).2) = _
    have e12 : (rdSs r b n M).2.1 12 2 = nI n := by rw [rdSs_o _ _ _ (by decide) (by decide), hn]
    rw [f_X12_reads_5, wM_1 h _ rfl, e12, if_neg (nI_nlt (Nat.le_refl _) (by omega))]
def redM (r b : Int32) (M : mM) : Int32 × mM := ((rdSs r b (M.1 12 2).toNatClampNeg M).1, tikM (rdSs r b (M.1 12 2).toNatClampNeg M).2)
theorem tkOK.to {M N : mM} (ok : tkOK M) (h12 : ∀ k, N.1 12 k = M.1 12 k) (h52 : ∀ k, N.1 52 k = M.1 52 k) (h69 : ∀ k, N.1 69 k = M.1 69 k) : tkOK N := by
  obtain ⟨⟨n, h24, hn, hd⟩, m, h17, hm, he⟩ := ok
  exact ⟨⟨n, h24, by rw [h12]; exact hn, fun f hf => by rw [h52]; exact hd f hf⟩, m, h17, by rw [h12]; exact hm, fun k hk => by rw [h69]; exact he k hk⟩
theorem e_reads (r b : Int32) (h : mH) (M : mM) (ok : tkOK M) : f_X12_reads r b (wM h M) = some ((redM r b M).1, wM h (redM r b M).2) := by
  unfold f_X12_reads
  obtain ⟨n, h24, hn, hd⟩ := ok.1
  rw [e_rd5 _ r b h M hn h24]
  have ok2 : tkOK (rdSs r b n M).2 := ok.to (fun k => rdSs_o _ _ _ (by decide) (by decide) k n) (fun k => rdSs_o _ _ _ (by decide) (by decide) k n) (fun k => rdSs_o _ _ _ (by decide) (by decide) k n)
  rw [e_ticks h _ ok2, Option.bind_some]
  unfold redM
  rw [hn, nI_clamp (by omega)]
/-- whether a WRITE of x into register r HITS field f -/
def hitM (M : mM) (f : Nat) (r x : Int32) : Bool :=
  decide (M.1 46 f = r) && (if M.1 49 f = 0 then !decide (bitM M f x = M.1 63 f) else if M.1 49 f = 5 then !decide (bitM M f x = M.1 64 f) else if M.1 49 f = 2 ∨ M.1 49 f = 4 ∨ M.1 49 f = 6 then !decide (bitM M f x = 0) else false)
theorem e_hits {f : Nat} (hf : f < 24) (r x : Int32) (h : mH) (M : mM) : f_X12_hits (nI f) r x (wM h M) = some (b2i (hitM M f r x), wM h M) := by
  unfold f_X12_hits hitM
  rw [if_pos (mIn_nI hf (by decide)), nI_clamp (by omega), wM_1 h M rfl]
  by_cases q : M.1 46 f = r
  · rw [if_pos q, e_bitsOf hf, Option.bind_some, decide_eq_true q]
    simp (config := { decide := true }) only [wM_1]
    generalize M.1 49 f = kd
    by_cases k0 : kd = 0
    · subst k0
      simp (config := { decide := true }) only [if_true]
      split <;> rename_i z <;> simp [z, b2i]
    · rw [if_neg k0, if_neg k0]
      by_cases k2 : kd = 2
      · subst k2
        simp (config := { decide := true }) only [if_true, if_false]
        split <;> rename_i z <;> simp [z, b2i]
      · rw [if_neg k2]
        by_cases k4 : kd = 4
        · subst k4
          simp (config := { decide := true }) only [if_true, if_false]
          split <;> rename_i z <;> simp [z, b2i]
        · rw [if_neg k4]
          by_cases k5 : kd = 5
          · subst k5
            simp (config := { decide := true }) only [if_true, if_false]
            split <;> rename_i z <;> simp [z, b2i]
          · rw [if_neg k5, if_neg k5]
            by_cases k6 : kd = 6
            · subst k6
              simp (config := { decide := true }) only [if_true, if_false]
              split <;> rename_i z <;> simp [z, b2i]
            · rw [if_neg k6, if_neg (fun z => z.elim k2 (fun z => z.elim k4 k6))]
              rfl
  · rw [if_neg q, decide_eq_false q]
    rfl
def brkM (M : mM) (l : Nat) : Bool :=
  if M.1 54 l = 0 then decide (M.1 63 (M.1 56 l).toNatClampNeg = M.1 57 l)
  else if M.1 54 l = 1 then !decide (M.1 63 (M.1 56 l).toNatClampNeg = M.1 57 l)
  else !decide (M.1 67 (M.1 56 l).toNatClampNeg = -1) && decide (M.1 12 23 - M.1 67 (M.1 56 l).toNatClampNeg < M.1 57 l)
theorem e_isBroken {l : Nat} (hl : l < 12) (h : mH) (M : mM) (hg : mIn (M.1 56 l) 24 = true) : f_X12_isBroken (nI l) (wM h M) = some (b2i (brkM M l), wM h M) := by
  unfold f_X12_isBroken brkM
  rw [if_pos (mIn_nI hl (by decide)), nI_clamp (by omega)]
  simp (config := { decide := true }) only [wM_1]
  by_cases q0 : M.1 54 l = 0
  · rw [if_pos q0, if_pos q0, if_pos hg]
    split <;> rename_i z <;> simp [z, b2i]
  · rw [if_neg q0, if_neg q0]
    by_cases q1 : M.1 54 l = 1
    · rw [if_pos q1, if_pos q1, if_pos hg]
      split <;> rename_i z <;> simp [z, b2i]
    · rw [if_neg q1, if_neg q1, if_pos hg]
      split <;> rename_i z
      · simp [z, b2i]
      · split <;> rename_i z2 <;> simp [z, z2, b2i]
/-- the LAWS are looked at -/
def cbM (M : mM) (l : Nat) : mM := if M.1 12 34 = 0 then uM (uM (uM M 12 35 (nI l)) 12 36 (M.1 12 23)) 12 34 (M.1 12 34 + 1) else uM M 12 34 (M.1 12 34 + 1)
def jdS (r x : Int32) (M : mM) (l : Nat) : mM := if (hitM M (M.1 55 l).toNatClampNeg r x && brkM M l) = true then cbM M l else M
def jdSs (r x : Int32) : Nat → mM → mM
  | 0, M => M
  | l + 1, M => jdS r x (jdSs r x l M) l
theorem cbM_o (M : mM) (l : Nat) {t k : Nat} (h : ¬ (t = 12 ∧ 34 ≤ k ∧ k ≤ 36)) : (cbM M l).1 t k = M.1 t k := by
  have e : ∀ (N : mM) (v : Int32) (j : Nat), 34 ≤ j ∧ j ≤ 36 → (uM N 12 j v).1 t k = N.1 t k := fun N v j hj => if_neg (fun z => h ⟨z.1, by rw [z.2]; exact hj⟩)
  unfold cbM
  split
  · rw [e _ _ 34 (by decide), e _ _ 36 (by decide), e _ _ 35 (by decide)]
  · rw [e _ _ 34 (by decide)]
theorem jdSs_o (r x : Int32) (M : mM) {t k : Nat} (h : ¬ (t = 12 ∧ 34 ≤ k ∧ k ≤ 36)) : ∀ j, (jdSs r x j M).1 t k = M.1 t k
  | 0 => rfl
  | j + 1 => by
    show (jdS r x (jdSs r x j M) j).1 t k = _
    unfold jdS
    split
    · rw [cbM_o _ _ h, jdSs_o r x M h j]
    · exact jdSs_o r x M h j
theorem e_jd2 (k : Int32 → Int32 → Int32 → mH → Option mH) (r x : Int32) (h : mH) (M : mM) {n : Nat} (hn : M.1 12 11 = nI n) (h12 : n ≤ 12) (hf : ∀ l, l < n → mIn (M.1 55 l) 24 = true ∧ mIn (M.1 56 l) 24 = true) : f_X12_judges_2 k mFu r x 0 (wM h M) = k r x (nI n) (wM h (jdSs r x n M)) := by
  refine mLoop (fun m (c : Int32 × mH) => f_X12_judges_2 k m r x c.1 c.2) (fun j => (nI j, wM h (jdSs r x j M))) n _ ?_ ?_ mFu (mFu_lt (by omega))
  · intro j hj m
    show f_X12_judges_2 k (m + 1) r x (nI j) (wM h (jdSs r x j M)) = f_X12_judges_2 k m r x (nI (j + 1)) (wM h (jdS r x (jdSs r x j M) j))
    have e12 : (jdSs r x j M).1 12 11 = nI n := by rw [jdSs_o _ _ _ (by omega), hn]
    have e55 : (jdSs r x j M).1 55 j = M.1 55 j := jdSs_o _ _ _ (by omega) j
    have e56 : (jdSs r x j M).1 56 j = M.1 56 j := jdSs_o _ _ _ (by omega) j
    obtain ⟨h55, h56⟩ := hf j hj
    rw [← e55] at h55
    rw [← e56] at h56
    rw [f_X12_judges_2, wM_1 h _ rfl, e12, if_pos (nI_lt hj (by omega)), if_pos (mIn_nI (by omega) (by decide)), nI_clamp (by omega), nI_succ, wM_1 h _ rfl]
    generalize jdSs r x j M = N at e12 e55 e56 h55 h56 ⊢
    obtain ⟨g, hg, eg⟩ := mIn_of h55
    unfold jdS
    rw [eg, e_hits hg, Option.bind_some, nI_clamp (by omega)]
    dsimp only
    cases hitM N g r x
    · simp [b2i]
    · rw [if_neg (by decide), e_isBroken (by omega) h N h56, Option.bind_some]
      dsimp only
      cases brkM N j
      · simp [b2i]
      · rw [if_neg (by decide), if_pos (show (true && true) = true from rfl)]
        simp (config := { decide := true }) only [mLet, wM_1, wM_u, uM_k]
        unfold cbM
        by_cases q : N.1 12 34 = 0
        · rw [if_pos q, if_pos q]
        · rw [if_neg q, if_neg q]
  · intro m
    show f_X12_judges_2 k (m + 1) r x (nI n) (wM h (jdSs r x n M)) = _
    have e12 : (jdSs r x n M).1 12 11 = nI n := by rw [jdSs_o _ _ _ (by omega), hn]
    rw [f_X12_judges_2, wM_1 h _ rfl, e12, if_neg (nI_nlt (Nat.le_refl _) (by omega))]
theorem e_judges (r x : Int32) (h : mH) (M : mM) {n : Nat} (hn : M.1 12 11 = nI n) (h12 : n ≤ 12) (hf : ∀ l, l < n → mIn (M.1 55 l) 24 = true ∧ mIn (M.1 56 l) 24 = true) : f_X12_judges r x (wM h M) = some (wM h (jdSs r x n M)) := by
  unfold f_X12_judges
  rw [e_jd2 _ r x h M hn h12 hf]
/-- HELD fields are loaded -/
def ldF (M : mM) (f : Nat) : mM := uM M 63 f (if M.1 49 f = 5 then M.1 64 f else M.1 63 f)
def ldFs : Nat → mM → mM
  | 0, M => M
  | f + 1, M => ldF (ldFs f M) f
theorem ldFs_o (M : mM) {t : Nat} (h1 : t ≠ 63) (k : Nat) : ∀ j, (ldFs j M).1 t k = M.1 t k
  | 0 => rfl
  | j + 1 => by
    show (ldF (ldFs j M) j).1 t k = _
    unfold ldF
    rw [uM_t _ h1, ldFs_o M h1 k j]
theorem e_tk133 (k : Int32 → Int32 → mH → Option mH) {b : Int32} (hb : ¬ b = 0) (h : mH) (M : mM) {n : Nat} (hn : M.1 12 2 = nI n) (h24 : n ≤ 24) : f_X12_takes_133 k mFu b 0 (wM h M) = k b (nI n) (wM h (ldFs n M)) := by
  refine mLoop (fun m (c : Int32 × mH) => f_X12_takes_133 k m b c.1 c.2) (fun j => (nI j, wM h (ldFs j M))) n _ ?_ ?_ mFu (mFu_lt (by omega))
  · intro j hj m
    show f_X12_takes_133 k (m + 1) b (nI j) (wM h (ldFs j M)) = f_X12_takes_133 k m b (nI (j + 1)) (wM h (ldF (ldFs j M) j))
    have e12 : (ldFs j M).1 12 2 = nI n := by rw [ldFs_o _ (by decide), hn]
    rw [f_X12_takes_133, wM_1 h _ rfl, e12, if_pos (nI_lt hj (by omega)), if_neg hb, if_pos (mIn_nI (by omega) (by decide)), nI_clamp (by omega), nI_succ]
    simp (config := { decide := true }) only [wM_1, wM_u]
    unfold ldF
    by_cases q : (ldFs j M).1 49 j = 5
    · rw [if_pos q, if_pos q]
    · rw [if_neg q, if_neg q]
  · intro m
    show f_X12_takes_133 k (m + 1) b (nI n) (wM h (ldFs n M)) = _
    have e12 : (ldFs n M).1 12 2 = nI n := by rw [ldFs_o _ (by decide), hn]
    rw [f_X12_takes_133, wM_1 h _ rfl, e12, if_neg (nI_nlt (Nat.le_refl _) (by omega))]
/-- what a WRITE does to a field -/
def tkeM (M : mM) (f : Nat) (b : Int32) : mM :=
  if M.1 49 f = 0 then uM M 63 f b else
  if M.1 49 f = 2 then uM M 63 f (M.1 63 f &&& (b ^^^ (-1))) else
  if M.1 49 f = 4 then (if b = 0 then uM (uM M 63 f (M.1 63 f)) 65 f (M.1 65 f) else uM (uM M 63 f b) 65 f (M.1 51 f)) else
  if M.1 49 f = 5 then uM M 64 f b else
  if M.1 49 f = 6 then (if b = 0 then M else ldFs (M.1 12 2).toNatClampNeg M) else M
theorem tkeM_o (M : mM) (f : Nat) (b : Int32) {t : Nat} (h1 : t < 63 ∨ 65 < t) (k : Nat) : (tkeM M f b).1 t k = M.1 t k := by
  unfold tkeM
  repeat' split
  all_goals first | rfl | exact ldFs_o _ (by omega) _ _ | (repeat rw [uM_t _ (by omega)])
theorem e_takes {f : Nat} (hf : f < 24) (b : Int32) (h : mH) (M : mM) {n : Nat} (hn : M.1 12 2 = nI n) (h24 : n ≤ 24) : f_X12_takes (nI f) b (wM h M) = some (wM h (tkeM M f b)) := by
  unfold f_X12_takes tkeM
  rw [if_pos (mIn_nI hf (by decide)), nI_clamp (by omega)]
  simp (config := { decide := true }) only [mLet, wM_1, wM_u, uM_t]
  by_cases k0 : M.1 49 f = 0
  · rw [if_pos k0, if_pos k0]
  · rw [if_neg k0, if_neg k0]
    by_cases k2 : M.1 49 f = 2
    · rw [if_pos k2, if_pos k2]
    · rw [if_neg k2, if_neg k2]
      by_cases k4 : M.1 49 f = 4
      · rw [if_pos k4, if_pos k4]
        split <;> rfl
      · rw [if_neg k4, if_neg k4]
        by_cases k5 : M.1 49 f = 5
        · rw [if_pos k5, if_pos k5]
        · rw [if_neg k5, if_neg k5]
          by_cases k6 : M.1 49 f = 6
          · rw [if_pos k6, if_pos k6]
            by_cases hb : b = 0
            · rw [if_pos hb]
              subst hb
              have e : ∀ m, f_X12_takes_133 (fun _ _ h16 => some h16) (m + 1) 0 0 (wM h M) = some (wM h M) := by
                intro m
                rw [f_X12_takes_133]
                split
                · rw [if_pos rfl]
                · rfl
              exact e 8589934591
            · rw [if_neg hb, e_tk133 _ hb h M hn h24, hn, nI_clamp (by omega)]
          · rw [if_neg k6, if_neg k6]
/-- which fields are HIT, noted in row 92 -/
def w8S (r x : Int32) (M : mM) (f : Nat) : mM := uM M 92 f (b2i (hitM M f r x))
def w8Ss (r x : Int32) : Nat → mM → mM
  | 0, M => M
  | f + 1, M => w8S r x (w8Ss r x f M) f
theorem w8Ss_o (r x : Int32) (M : mM) {t : Nat} (h1 : t ≠ 92) (k : Nat) : ∀ j, (w8Ss r x j M).1 t k = M.1 t k
  | 0 => rfl
  | j + 1 => by
    show (w8S r x (w8Ss r x j M) j).1 t k = _
    unfold w8S
    rw [uM_t _ h1, w8Ss_o r x M h1 k j]
theorem e_w8 (k : Int32 → Int32 → Int32 → mH → Option mH) (r x : Int32) (h : mH) (M : mM) {n : Nat} (hn : M.1 12 2 = nI n) (h24 : n ≤ 24) : f_X12_writes_8 k mFu r x 0 (wM h M) = k r x (nI n) (wM h (w8Ss r x n M)) := by
  refine mLoop (fun m (c : Int32 × mH) => f_X12_writes_8 k m r x c.1 c.2) (fun j => (nI j, wM h (w8Ss r x j M))) n _ ?_ ?_ mFu (mFu_lt (by omega))
  · intro j hj m
    show f_X12_writes_8 k (m + 1) r x (nI j) (wM h (w8Ss r x j M)) = f_X12_writes_8 k m r x (nI (j + 1)) (wM h (w8S r x (w8Ss r x j M) j))
    have e12 : (w8Ss r x j M).1 12 2 = nI n := by rw [w8Ss_o _ _ _ (by decide), hn]
    rw [f_X12_writes_8, wM_1 h _ rfl, e12, if_pos (nI_lt hj (by omega)), e_hits (by omega), Option.bind_some]
    dsimp only
    rw [if_pos (mIn_nI (by omega) (by decide)), if_pos (b2i_01 _), nI_clamp (by omega), nI_succ, wM_u h _ rfl]
    rfl
  · intro m
    show f_X12_writes_8 k (m + 1) r x (nI n) (wM h (w8Ss r x n M)) = _
    have e12 : (w8Ss r x n M).1 12 2 = nI n := by rw [w8Ss_o _ _ _ (by decide), hn]
    rw [f_X12_writes_8, wM_1 h _ rfl, e12, if_neg (nI_nlt (Nat.le_refl _) (by omega))]
def w37T (r x : Int32) (M : mM) (f : Nat) : mM := if M.1 46 f = r then tkeM M f (bitM M f x) else M
def w37S (r x : Int32) (M : mM) (f : Nat) : mM := uM (w37T r x M f) 67 f (if (w37T r x M f).1 92 f = 0 then (w37T r x M f).1 67 f else (w37T r x M f).1 12 23)
def w37Ss (r x : Int32) : Nat → mM → mM
  | 0, M => M
  | f + 1, M => w37S r x (w37Ss r x f M) f
theorem w37Ss_o (r x : Int32) (M : mM) {t : Nat} (h1 : t < 63 ∨ 67 < t ∨ t = 66) (k : Nat) : ∀ j, (w37Ss r x j M).1 t k = M.1 t k
  | 0 => rfl
  | j + 1 => by
    show (w37S r x (w37Ss r x j M) j).1 t k = _
    unfold w37S w37T
    rw [uM_t _ (by omega)]
    split
    · rw [tkeM_o _ _ _ (by omega), w37Ss_o r x M h1 k j]
    · exact w37Ss_o r x M h1 k j
theorem e_w37 (k : Int32 → Int32 → Int32 → mH → Option mH) (r x : Int32) (h : mH) (M : mM) {n : Nat} (hn : M.1 12 2 = nI n) (h24 : n ≤ 24) : f_X12_writes_37 k mFu r x 0 (wM h M) = k r x (nI n) (wM h (w37Ss r x n M)) := by
  refine mLoop (fun m (c : Int32 × mH) => f_X12_writes_37 k m r x c.1 c.2) (fun j => (nI j, wM h (w37Ss r x j M))) n _ ?_ ?_ mFu (mFu_lt (by omega))
  · intro j hj m
    show f_X12_writes_37 k (m + 1) r x (nI j) (wM h (w37Ss r x j M)) = f_X12_writes_37 k m r x (nI (j + 1)) (wM h (w37S r x (w37Ss r x j M) j))
    have e12 : (w37Ss r x j M).1 12 2 = nI n := by rw [w37Ss_o _ _ _ (by omega), hn]
    rw [f_X12_writes_37, wM_1 h _ rfl, e12, if_pos (nI_lt hj (by omega)), if_pos (mIn_nI (by omega) (by decide)), nI_clamp (by omega), nI_succ, wM_1 h _ rfl]
    generalize w37Ss r x j M = N at e12 ⊢
    unfold w37S w37T
    by_cases q : N.1 46 j = r
    · simp only [if_pos q]
      rw [e_bitsOf (by omega), Option.bind_some]
      dsimp only
      rw [e_takes (by omega) _ h N e12 h24, Option.bind_some]
      simp (config := { decide := true }) only [wM_1, wM_u]
      by_cases z : (tkeM N j (bitM N j x)).1 92 j = 0
      · rw [if_pos z, if_pos z]
      · rw [if_neg z, if_neg z]
    · simp only [if_neg q]
      simp (config := { decide := true }) only [wM_1, wM_u]
      by_cases z : N.1 92 j = 0
      · rw [if_pos z, if_pos z]
      · rw [if_neg z, if_neg z]
  · intro m
    show f_X12_writes_37 k (m + 1) r x (nI n) (wM h (w37Ss r x n M)) = _
    have e12 : (w37Ss r x n M).1 12 2 = nI n := by rw [w37Ss_o _ _ _ (by omega), hn]
    rw [f_X12_writes_37, wM_1 h _ rfl, e12, if_neg (nI_nlt (Nat.le_refl _) (by omega))]
/-- a WRITE without its tick -/
def wrtM (r x : Int32) (M : mM) : mM := w37Ss r x (M.1 12 2).toNatClampNeg (w8Ss r x (M.1 12 2).toNatClampNeg (jdSs r x (M.1 12 11).toNatClampNeg M))
def lwOK (M : mM) : Prop := ∃ n, n ≤ 12 ∧ M.1 12 11 = nI n ∧ ∀ l, l < n → mIn (M.1 55 l) 24 = true ∧ mIn (M.1 56 l) 24 = true
theorem e_writes (r x : Int32) (h : mH) (M : mM) {n : Nat} (hn : M.1 12 2 = nI n) (h24 : n ≤ 24) (hl : lwOK M) : f_X12_writes r x (wM h M) = some (wM h (wrtM r x M)) := by
  obtain ⟨m, h12, hm, hf⟩ := hl
  unfold f_X12_writes
  rw [e_judges r x h M hm h12 hf, Option.bind_some]
  have a1 : (jdSs r x m M).1 12 2 = nI n := by rw [jdSs_o _ _ _ (by omega), hn]
  rw [e_w8 _ r x h _ a1 h24]
  have a2 : (w8Ss r x n (jdSs r x m M)).1 12 2 = nI n := by rw [w8Ss_o _ _ _ (by decide), a1]
  rw [e_w37 _ r x h _ a2 h24]
  unfold wrtM
  rw [hn, hm, nI_clamp (by omega), nI_clamp (by omega)]
