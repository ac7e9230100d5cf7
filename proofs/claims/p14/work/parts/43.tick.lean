/-! ===== a TICK in closed form ===== -/
/-- a pulse's share of a tick -/
def plF (M : mM) (f : Nat) : mM :=
  if M.1 49 f = 4 then
    if M.1 65 f ≤ 0 then M else
    if M.1 65 f - 1 = 0 then
      if M.1 52 f = -1 then uM (uM M 65 f (M.1 65 f - 1)) 63 f 0
      else uM (uM (uM M 65 f (M.1 65 f - 1)) 63 f 0) 63 (M.1 52 f).toNatClampNeg (oneM M (M.1 52 f).toNatClampNeg)
    else uM M 65 f (M.1 65 f - 1)
  else M
def plFs : Nat → mM → mM
  | 0, M => M
  | f + 1, M => plF (plFs f M) f
theorem plF_o (M : mM) {t : Nat} (h1 : t ≠ 63) (h2 : t ≠ 65) (f k : Nat) : (plF M f).1 t k = M.1 t k := by
  unfold plF
  repeat' split
  all_goals first | rfl | simp only [uM_t _ h1, uM_t _ h2]
theorem plFs_o (M : mM) {t : Nat} (h1 : t ≠ 63) (h2 : t ≠ 65) (k : Nat) : ∀ j, (plFs j M).1 t k = M.1 t k
  | 0 => rfl
  | j + 1 => by
    show (plF (plFs j M) j).1 t k = _
    rw [plF_o _ h1 h2, plFs_o M h1 h2 k j]
theorem e_tk12 (k : Int32 → mH → Option mH) (h : mH) (M : mM) {n : Nat} (hn : M.1 12 2 = nI n) (h24 : n ≤ 24) (hd : ∀ f, f < n → M.1 52 f = -1 ∨ mIn (M.1 52 f) 24 = true) : f_X12_ticks_12 k mFu 0 (wM h M) = k (nI n) (wM h (plFs n M)) := by
  refine mLoop (fun m (b : Int32 × mH) => f_X12_ticks_12 k m b.1 b.2) (fun j => (nI j, wM h (plFs j M))) n _ ?_ ?_ mFu (mFu_lt (by omega))
  · intro j hj m
    show f_X12_ticks_12 k (m + 1) (nI j) (wM h (plFs j M)) = f_X12_ticks_12 k m (nI (j + 1)) (wM h (plF (plFs j M) j))
    have e12 : (plFs j M).1 12 2 = nI n := by rw [plFs_o _ (by decide) (by decide), hn]
    have e52 : (plFs j M).1 52 j = M.1 52 j := plFs_o M (by decide) (by decide) j j
    rw [f_X12_ticks_12, wM_1 h _ rfl, e12, if_pos (nI_lt hj (by omega)), if_pos (mIn_nI (by omega) (by decide)), nI_clamp (by omega), nI_succ]
    generalize plFs j M = N at e12 e52 ⊢
    unfold plF
    simp (config := { decide := true }) only [mLet, wM_1, wM_u, uM_t, uM_s]
    by_cases q4 : N.1 49 j = 4
    · rw [if_pos q4, if_pos q4]
      by_cases q0 : N.1 65 j ≤ 0
      · rw [if_pos q0, if_pos q0]
      · rw [if_neg q0, if_neg q0]
        by_cases q1 : N.1 65 j - 1 = 0
        · rw [if_pos q1, if_pos q1]
          by_cases q2 : N.1 52 j = -1
          · rw [if_pos q2, if_pos q2]
          · rw [if_neg q2, if_neg q2]
            have hz := (hd j hj).resolve_left (by rw [← e52]; exact q2)
            rw [← e52] at hz
            obtain ⟨g, hg, eg⟩ := mIn_of hz
            rw [eg, e_most hg, Option.bind_some, if_pos (mIn_nI hg (by decide)), nI_clamp (by omega)]
            simp (config := { decide := true }) only [wM_u]
            rfl
        · rw [if_neg q1, if_neg q1]
    · rw [if_neg q4, if_neg q4]
  · intro m
    show f_X12_ticks_12 k (m + 1) (nI n) (wM h (plFs n M)) = _
    have e12 : (plFs n M).1 12 2 = nI n := by rw [plFs_o _ (by decide) (by decide), hn]
    rw [f_X12_ticks_12, wM_1 h _ rfl, e12, if_neg (nI_nlt (Nat.le_refl _) (by omega))]
/-- an event's share: those that are left stand at the front -/
def evS (p : Nat × mM) (k : Nat) : Nat × mM :=
  if p.2.1 71 k = p.2.1 12 23 then
    (p.1, uM p.2 63 (p.2.1 69 k).toNatClampNeg (if p.2.1 49 (p.2.1 69 k).toNatClampNeg = 1 then p.2.1 70 k else p.2.1 63 (p.2.1 69 k).toNatClampNeg ||| p.2.1 70 k))
  else (p.1 + 1, uM (uM (uM p.2 69 p.1 (p.2.1 69 k)) 70 p.1 (p.2.1 70 k)) 71 p.1 (p.2.1 71 k))
def evSs : Nat → mM → Nat × mM
  | 0, M => (0, M)
  | k + 1, M => evS (evSs k M) k
theorem evSs_le (M : mM) : ∀ k, (evSs k M).1 ≤ k
  | 0 => Nat.le_refl _
  | k + 1 => by
    have ih := evSs_le M k
    show (evS (evSs k M) k).1 ≤ k + 1
    unfold evS
    split
    · exact Nat.le_succ_of_le ih
    · exact Nat.succ_le_succ ih
theorem evSs_o (M : mM) {t : Nat} (h1 : t ≠ 63) (h2 : t < 69 ∨ 71 < t) (k : Nat) : ∀ j, (evSs j M).2.1 t k = M.1 t k
  | 0 => rfl
  | j + 1 => by
    have ih := evSs_o M h1 h2 k j
    show (evS (evSs j M) j).2.1 t k = _
    unfold evS
    split
    · exact (uM_t _ h1).trans ih
    · show (uM (uM (uM _ 69 _ _) 70 _ _) 71 _ _).1 t k = _
      rw [uM_t _ (by omega), uM_t _ (by omega), uM_t _ (by omega)]
      exact ih
theorem evSs_hi (M : mM) {t : Nat} (h1 : t = 69 ∨ t = 70 ∨ t = 71) : ∀ j k, j ≤ k → (evSs j M).2.1 t k = M.1 t k
  | 0, _, _ => rfl
  | j + 1, k, hk => by
    have ih := evSs_hi M h1 j k (by omega)
    have hl := evSs_le M j
    show (evS (evSs j M) j).2.1 t k = _
    unfold evS
    split
    · exact (uM_t _ (by omega)).trans ih
    · show (uM (uM (uM _ 69 _ _) 70 _ _) 71 _ _).1 t k = _
      rw [uM_k _ (by omega), uM_k _ (by omega), uM_k _ (by omega)]
      exact ih
theorem e_tk106 (k : Int32 → Int32 → mH → Option mH) (h : mH) (M : mM) {n : Nat} (hn : M.1 12 30 = nI n) (h17 : n ≤ 17) (hd : ∀ f, f < n → mIn (M.1 69 f) 24 = true) : f_X12_ticks_106 k mFu 0 0 (wM h M) = k (nI (evSs n M).1) (nI n) (wM h (evSs n M).2) := by
  refine mLoop (fun m (b : Int32 × Int32 × mH) => f_X12_ticks_106 k m b.1 b.2.1 b.2.2) (fun j => (nI (evSs j M).1, nI j, wM h (evSs j M).2)) n _ ?_ ?_ mFu (mFu_lt (by omega))
  · intro j hj m
    show f_X12_ticks_106 k (m + 1) (nI (evSs j M).1) (nI j) (wM h (evSs j M).2) = f_X12_ticks_106 k m (nI (evS (evSs j M) j).1) (nI (j + 1)) (wM h (evS (evSs j M) j).2)
    have e12 : (evSs j M).2.1 12 30 = nI n := by rw [evSs_o _ (by decide) (by decide), hn]
    have e69 : (evSs j M).2.1 69 j = M.1 69 j := evSs_hi M (Or.inl rfl) j j (Nat.le_refl _)
    have hl := evSs_le M j
    have hz := hd j hj
    rw [← e69] at hz
    rw [f_X12_ticks_106, wM_1 h _ rfl, e12, if_pos (nI_lt hj (by omega)), if_pos (mIn_nI (by omega) (by decide)), nI_clamp (by omega), nI_succ]
    generalize evSs j M = p at e12 e69 hl hz ⊢
    obtain ⟨l, N⟩ := p
    dsimp only at e12 e69 hl hz ⊢
    unfold evS
    dsimp only
    rw [nI_clamp (n := l) (by omega)]
    simp (config := { decide := true }) only [mLet, wM_1, wM_u, uM_t, uM_s]
    by_cases q1 : N.1 71 j = N.1 12 23
    · rw [if_pos q1, if_pos q1, if_pos hz]
      by_cases q2 : N.1 49 (N.1 69 j).toNatClampNeg = 1
      · rw [if_pos q2, if_pos q2]
      · rw [if_neg q2, if_neg q2]
    · rw [if_neg q1, if_neg q1, if_pos (mIn_nI (by omega) (by decide)), ← nI_succ]
  · intro m
    show f_X12_ticks_106 k (m + 1) (nI (evSs n M).1) (nI n) (wM h (evSs n M).2) = _
    have e12 : (evSs n M).2.1 12 30 = nI n := by rw [evSs_o _ (by decide) (by decide), hn]
    rw [f_X12_ticks_106, wM_1 h _ rfl, e12, if_neg (nI_nlt (Nat.le_refl _) (by omega))]
def tikP (M : mM) : mM := plFs (M.1 12 2).toNatClampNeg (uM M 12 23 (M.1 12 23 + 1))
def tikM (M : mM) : mM := uM (evSs (M.1 12 30).toNatClampNeg (tikP M)).2 12 30 (nI (evSs (M.1 12 30).toNatClampNeg (tikP M)).1)
/-- what a tick needs: fields, DONE fields and events that are there -/
def tkOK (M : mM) : Prop := (∃ n, n ≤ 24 ∧ M.1 12 2 = nI n ∧ ∀ f, f < n → M.1 52 f = -1 ∨ mIn (M.1 52 f) 24 = true) ∧ ∃ m, m ≤ 17 ∧ M.1 12 30 = nI m ∧ ∀ k, k < m → mIn (M.1 69 k) 24 = true
theorem e_ticks (h : mH) (M : mM) (ok : tkOK M) : f_X12_ticks (wM h M) = some (wM h (tikM M)) := by
  obtain ⟨⟨n, h24, hn, hd⟩, m, h17, hm, he⟩ := ok
  unfold f_X12_ticks
  simp (config := { decide := true }) only [wM_1, wM_u]
  have a1 : (uM M 12 23 (M.1 12 23 + 1)).1 12 2 = nI n := by rw [uM_k _ (by decide)]; exact hn
  rw [e_tk12 _ h _ a1 h24 (fun f hf => by rw [uM_t _ (by decide)]; exact hd f hf)]
  have ep : plFs n (uM M 12 23 (M.1 12 23 + 1)) = tikP M := by unfold tikP; rw [hn, nI_clamp (by omega)]
  rw [ep]
  have a2 : (tikP M).1 12 30 = nI m := by
    unfold tikP
    rw [plFs_o _ (by decide) (by decide), uM_k _ (by decide)]
    exact hm
  have a3 : ∀ k, k < m → mIn ((tikP M).1 69 k) 24 = true := fun k hk => by
    unfold tikP
    rw [plFs_o _ (by decide) (by decide), uM_t _ (by decide)]
    exact he k hk
  rw [e_tk106 _ h _ a2 h17 a3]
  simp (config := { decide := true }) only [wM_u]
  unfold tikM
  rw [hm, nI_clamp (by omega)]
