/-! ===== POWER in closed form ===== -/
theorem pwSh_o (M : mM) {t : Nat} (ht : t ≠ 68) (k : Nat) : ∀ j, (pwSh j M).1 t k = M.1 t k
  | 0 => rfl
  | j + 1 => by
    show (uM (pwSh j M) 68 j 0).1 t k = _
    rw [uM_t _ ht, pwSh_o M ht k j]
theorem pwF_o (M : mM) {t : Nat} (ht : t < 63 ∨ 68 < t) (f k : Nat) : (pwF M f).1 t k = M.1 t k := by
  unfold pwF
  dsimp only
  rw [uM_t _ (by omega), uM_t _ (by omega), uM_t _ (by omega), uM_t _ (by omega), uM_t _ (by omega), uM_t _ (by omega)]
theorem pwFs_o (M : mM) {t : Nat} (ht : t < 63 ∨ 68 < t) (k : Nat) : ∀ j, (pwFs j M).1 t k = M.1 t k
  | 0 => rfl
  | j + 1 => by
    show (pwF (pwFs j M) j).1 t k = _
    rw [pwF_o _ ht, pwFs_o M ht k j]
theorem e_pw37 (k : Int32 → mH → Option mH) (h : mH) (M : mM) : f_X12_powers_37 k mFu 0 (wM h M) = k (nI 8) (wM h (pwSh 8 M)) := by
  refine mLoop (fun n (b : Int32 × mH) => f_X12_powers_37 k n b.1 b.2) (fun j => (nI j, wM h (pwSh j M))) 8 _ ?_ ?_ mFu (mFu_lt (by decide))
  · intro j hj n
    show f_X12_powers_37 k (n + 1) (nI j) (wM h (pwSh j M)) = f_X12_powers_37 k n (nI (j + 1)) (wM h (pwSh (j + 1) M))
    rw [f_X12_powers_37, if_pos (show nI j < (8 : Int32) from (nI_lt hj (by decide) : nI j < nI 8)), if_pos (mIn_nI hj (by decide)), wM_u h _ rfl, nI_clamp (by omega), nI_succ]
    rfl
  · intro n
    show f_X12_powers_37 k (n + 1) (nI 8) (wM h (pwSh 8 M)) = _
    rw [f_X12_powers_37, if_neg (show ¬ nI 8 < (8 : Int32) from (nI_nlt (Nat.le_refl _) (by decide) : ¬ nI 8 < nI 8))]
theorem e_pw58 (k : Int32 → mH → Option mH) (h : mH) (M : mM) {n : Nat} (hn : M.1 12 2 = nI n) (h24 : n ≤ 24) (hr : ∀ f, f < n → mIn (M.1 46 f) 8 = true) : f_X12_powers_58 k mFu 0 (wM h M) = k (nI n) (wM h (pwFs n M)) := by
  refine mLoop (fun m (b : Int32 × mH) => f_X12_powers_58 k m b.1 b.2) (fun j => (nI j, wM h (pwFs j M))) n _ ?_ ?_ mFu (mFu_lt (by omega))
  · intro j hj m
    show f_X12_powers_58 k (m + 1) (nI j) (wM h (pwFs j M)) = f_X12_powers_58 k m (nI (j + 1)) (wM h (pwFs (j + 1) M))
    have e12 : (pwFs j M).1 12 2 = nI n := by rw [pwFs_o _ (by omega), hn]
    have e46 : (pwFs j M).1 46 j = M.1 46 j := pwFs_o M (by omega) j j
    rw [f_X12_powers_58, wM_1 h _ rfl, e12, if_pos (nI_lt hj (by omega)), if_pos (mIn_nI (by omega) (by decide)), nI_clamp (by omega)]
    have hr' := hr j hj
    rw [← e46] at hr'
    simp (config := { decide := true }) only [mLet, wM_1, wM_u, uM_t, hr', if_true]
    show _ = f_X12_powers_58 k m (nI (j + 1)) (wM h (pwF (pwFs j M) j))
    rw [nI_succ]
    unfold pwF
    by_cases q0 : (pwFs j M).1 49 j = 0
    · rw [if_pos q0, if_pos (Or.inl q0)]
    · rw [if_neg q0]
      by_cases q5 : (pwFs j M).1 49 j = 5
      · rw [if_pos q5, if_pos (Or.inr q5)]
      · rw [if_neg q5, if_neg (fun z => z.elim q0 q5)]
  · intro m
    show f_X12_powers_58 k (m + 1) (nI n) (wM h (pwFs n M)) = _
    have e12 : (pwFs n M).1 12 2 = nI n := by rw [pwFs_o _ (by omega), hn]
    rw [f_X12_powers_58, wM_1 h _ rfl, e12, if_neg (nI_nlt (Nat.le_refl _) (by omega))]
theorem e_powers (h : mH) (M : mM) {n : Nat} (hn : M.1 12 2 = nI n) (h24 : n ≤ 24) (hr : ∀ f, f < n → mIn (M.1 46 f) 8 = true) : f_X12_powers (wM h M) = some (wM h (powM M)) := by
  unfold f_X12_powers
  simp (config := { decide := true }) only [mLet, wM_1, wM_u, uM_t]
  rw [e_pw37]
  have e12 : (pwSh 8 (pwSc M)).1 12 2 = nI n := by
    rw [pwSh_o _ (by decide)]
    unfold pwSc
    simp (config := { decide := true }) only [uM_k]
    exact hn
  have hr2 : ∀ f, f < n → mIn ((pwSh 8 (pwSc M)).1 46 f) 8 = true := by
    intro f hf
    rw [pwSh_o _ (by decide)]
    unfold pwSc
    simp (config := { decide := true }) only [uM_t]
    exact hr f hf
  show f_X12_powers_58 _ mFu 0 (wM h (pwSh 8 (pwSc M))) = _
  rw [e_pw58 _ h _ e12 h24 hr2]
  unfold powM
  rw [hn, nI_clamp (by omega)]
