/-! ===== states that the model stores ===== -/
theorem nI_mad (c s j : Nat) : nI c * nI s + nI j = nI (c * s + j) := by rw [nI_mul, nI_add]
theorem e_st82 (K : Int32 → Int32 → mH → Option mH) (g : mH) (M : mM) {s : Nat} (hs : s < 8) : ∃ N, f_X12_stores_82 K mFu (nI s) 0 (wM g M) = K (nI s) (nI 24) (wM g N) ∧ (∀ q, q < 5 → ∀ f, f < 24 → N.1 (73 + q) (24 * s + f) = M.1 (63 + q) f) ∧ (∀ t k, ¬ (73 ≤ t ∧ t ≤ 77 ∧ 24 * s ≤ k ∧ k < 24 * s + 24) → N.1 t k = M.1 t k) ∧ N.2 = M.2 := by
  have key := mLoopR (fun m (c : Int32 × mM) => f_X12_stores_82 K m (nI s) c.1 (wM g c.2)) (fun j c => c.1 = nI j ∧ (∀ q, q < 5 → ∀ f, f < j → c.2.1 (73 + q) (24 * s + f) = M.1 (63 + q) f) ∧ (∀ t k, ¬ (73 ≤ t ∧ t ≤ 77 ∧ 24 * s ≤ k ∧ k < 24 * s + 24) → c.2.1 t k = M.1 t k) ∧ c.2.2 = M.2) 24 (fun c => K (nI s) (nI 24) (wM g c.2)) ?_ ?_ (b0 := (0, M)) ⟨rfl, fun _ _ f hf => absurd hf (Nat.not_lt_zero f), fun _ _ _ => rfl, rfl⟩ mFu (mFu_lt (by omega))
  · obtain ⟨⟨v, N⟩, ⟨-, b2, b3, b4⟩, e⟩ := key
    exact ⟨N, e, b2, b3, b4⟩
  · rintro j hj ⟨v, N⟩ ⟨hv, b2, b3, b4⟩
    dsimp only at hv b2 b3 b4
    subst hv
    have eQ : 24 * nI s + nI j = nI (24 * s + j) := nI_mad 24 s j
    refine ⟨(nI (j + 1), uM (uM (uM (uM (uM N 73 (24 * s + j) (N.1 63 j)) 74 (24 * s + j) (N.1 64 j)) 75 (24 * s + j) (N.1 65 j)) 76 (24 * s + j) (N.1 66 j)) 77 (24 * s + j) (N.1 67 j)), ⟨rfl, fun q hq f hf => ?_, fun t k p => ?_, b4⟩, fun m => ?_⟩
    · dsimp only
      have n63 : ∀ q, q < 5 → N.1 (63 + q) j = M.1 (63 + q) j := fun q hq => b3 _ _ (by omega)
      by_cases z : f = j
      · subst z
        have hq : q = 0 ∨ q = 1 ∨ q = 2 ∨ q = 3 ∨ q = 4 := by omega
        rcases hq with rfl | rfl | rfl | rfl | rfl
        · rw [uM_t _ (by omega), uM_t _ (by omega), uM_t _ (by omega), uM_t _ (by omega)]
          exact (uM_s _ _ _ _).trans (n63 0 (by omega))
        · rw [uM_t _ (by omega), uM_t _ (by omega), uM_t _ (by omega)]
          exact (uM_s _ _ _ _).trans (n63 1 (by omega))
        · rw [uM_t _ (by omega), uM_t _ (by omega)]
          exact (uM_s _ _ _ _).trans (n63 2 (by omega))
        · rw [uM_t _ (by omega)]
          exact (uM_s _ _ _ _).trans (n63 3 (by omega))
        · exact (uM_s _ _ _ _).trans (n63 4 (by omega))
      · rw [uM_k _ (by omega), uM_k _ (by omega), uM_k _ (by omega), uM_k _ (by omega), uM_k _ (by omega)]
        exact b2 q hq f (by omega)
    · dsimp only
      rw [uM_1, if_neg (by omega), uM_1, if_neg (by omega), uM_1, if_neg (by omega), uM_1, if_neg (by omega), uM_1, if_neg (by omega)]
      exact b3 t k p
    · dsimp only
      rw [f_X12_stores_82, if_pos (show nI j < 24 from nI_lt (b := 24) hj (by omega)), if_pos (mIn_nI hj (by omega)), eQ, if_pos (mIn_nI (show 24 * s + j < 192 by omega) (by omega)), nI_clamp (by omega), nI_clamp (by omega), ← nI_succ]
      simp (config := { decide := true }) only [mLet, wM_1, wM_u, uM_t]
  · rintro ⟨v, N⟩ ⟨hv, -, -, -⟩ m
    dsimp only at hv
    subst hv
    dsimp only
    rw [f_X12_stores_82, if_neg (show ¬ nI 24 < 24 by decide)]
theorem e_st181 (K : Int32 → Int32 → mH → Option mH) (g : mH) (M : mM) {s : Nat} (hs : s < 8) : ∃ N, f_X12_stores_181 K mFu (nI s) 0 (wM g M) = K (nI s) (nI 8) (wM g N) ∧ (∀ f, f < 8 → N.1 78 (8 * s + f) = M.1 68 f) ∧ (∀ t k, ¬ (t = 78 ∧ 8 * s ≤ k ∧ k < 8 * s + 8) → N.1 t k = M.1 t k) ∧ N.2 = M.2 := by
  have key := mLoopR (fun m (c : Int32 × mM) => f_X12_stores_181 K m (nI s) c.1 (wM g c.2)) (fun j c => c.1 = nI j ∧ (∀ f, f < j → c.2.1 78 (8 * s + f) = M.1 68 f) ∧ (∀ t k, ¬ (t = 78 ∧ 8 * s ≤ k ∧ k < 8 * s + 8) → c.2.1 t k = M.1 t k) ∧ c.2.2 = M.2) 8 (fun c => K (nI s) (nI 8) (wM g c.2)) ?_ ?_ (b0 := (0, M)) ⟨rfl, fun f hf => absurd hf (Nat.not_lt_zero f), fun _ _ _ => rfl, rfl⟩ mFu (mFu_lt (by omega))
  · obtain ⟨⟨v, N⟩, ⟨-, b2, b3, b4⟩, e⟩ := key
    exact ⟨N, e, b2, b3, b4⟩
  · rintro j hj ⟨v, N⟩ ⟨hv, b2, b3, b4⟩
    dsimp only at hv b2 b3 b4
    subst hv
    have eQ : 8 * nI s + nI j = nI (8 * s + j) := nI_mad 8 s j
    refine ⟨(nI (j + 1), uM N 78 (8 * s + j) (N.1 68 j)), ⟨rfl, fun f hf => ?_, fun t k p => ?_, b4⟩, fun m => ?_⟩
    · dsimp only
      by_cases z : f = j
      · subst z
        rw [uM_s]
        exact b3 _ _ (by omega)
      · rw [uM_k _ (by omega)]
        exact b2 f (by omega)
    · dsimp only
      rw [uM_1, if_neg (by omega)]
      exact b3 t k p
    · dsimp only
      rw [f_X12_stores_181, if_pos (show nI j < 8 from nI_lt (b := 8) hj (by omega)), if_pos (mIn_nI hj (by omega)), eQ, if_pos (mIn_nI (show 8 * s + j < 64 by omega) (by omega)), nI_clamp (by omega), nI_clamp (by omega), ← nI_succ, wM_1 g _ rfl, wM_u g _ rfl]
  · rintro ⟨v, N⟩ ⟨hv, -, -, -⟩ m
    dsimp only at hv
    subst hv
    dsimp only
    rw [f_X12_stores_181, if_neg (show ¬ nI 8 < 8 by decide)]
theorem e_st212 (K : Int32 → Int32 → mH → Option mH) (g : mH) (M : mM) {s e : Nat} (hs : s < 8) (he : M.1 12 30 = nI e) (h17 : e ≤ 17) : ∃ N, f_X12_stores_212 K mFu (nI s) 0 (wM g M) = K (nI s) (nI e) (wM g N) ∧ (∀ q, q < 3 → ∀ f, f < e → N.1 (80 + q) (17 * s + f) = M.1 (69 + q) f) ∧ (∀ t k, ¬ (80 ≤ t ∧ t ≤ 82 ∧ 17 * s ≤ k ∧ k < 17 * s + 17) → N.1 t k = M.1 t k) ∧ N.2 = M.2 := by
  have key := mLoopR (fun m (c : Int32 × mM) => f_X12_stores_212 K m (nI s) c.1 (wM g c.2)) (fun j c => c.1 = nI j ∧ (∀ q, q < 3 → ∀ f, f < j → c.2.1 (80 + q) (17 * s + f) = M.1 (69 + q) f) ∧ (∀ t k, ¬ (80 ≤ t ∧ t ≤ 82 ∧ 17 * s ≤ k ∧ k < 17 * s + 17) → c.2.1 t k = M.1 t k) ∧ c.2.2 = M.2) e (fun c => K (nI s) (nI e) (wM g c.2)) ?_ ?_ (b0 := (0, M)) ⟨rfl, fun _ _ f hf => absurd hf (Nat.not_lt_zero f), fun _ _ _ => rfl, rfl⟩ mFu (mFu_lt (by omega))
  · obtain ⟨⟨v, N⟩, ⟨-, b2, b3, b4⟩, ee⟩ := key
    exact ⟨N, ee, b2, b3, b4⟩
  · rintro j hj ⟨v, N⟩ ⟨hv, b2, b3, b4⟩
    dsimp only at hv b2 b3 b4
    subst hv
    have eQ : 17 * nI s + nI j = nI (17 * s + j) := nI_mad 17 s j
    have e30 : N.1 12 30 = nI e := (b3 12 30 (by omega)).trans he
    refine ⟨(nI (j + 1), uM (uM (uM N 80 (17 * s + j) (N.1 69 j)) 81 (17 * s + j) (N.1 70 j)) 82 (17 * s + j) (N.1 71 j)), ⟨rfl, fun q hq f hf => ?_, fun t k p => ?_, b4⟩, fun m => ?_⟩
    · dsimp only
      have n69 : ∀ q, q < 3 → N.1 (69 + q) j = M.1 (69 + q) j := fun q hq => b3 _ _ (by omega)
      by_cases z : f = j
      · subst z
        have hq : q = 0 ∨ q = 1 ∨ q = 2 := by omega
        rcases hq with rfl | rfl | rfl
        · rw [uM_t _ (by omega), uM_t _ (by omega)]
          exact (uM_s _ _ _ _).trans (n69 0 (by omega))
        · rw [uM_t _ (by omega)]
          exact (uM_s _ _ _ _).trans (n69 1 (by omega))
        · exact (uM_s _ _ _ _).trans (n69 2 (by omega))
      · rw [uM_k _ (by omega), uM_k _ (by omega), uM_k _ (by omega)]
        exact b2 q hq f (by omega)
    · dsimp only
      rw [uM_1, if_neg (by omega), uM_1, if_neg (by omega), uM_1, if_neg (by omega)]
      exact b3 t k p
    · dsimp only
      rw [f_X12_stores_212, wM_1 g _ rfl, e30, if_pos (nI_lt hj (by omega)), if_pos (mIn_nI (show j < 17 by omega) (by omega)), eQ, if_pos (mIn_nI (show 17 * s + j < 136 by omega) (by omega)), nI_clamp (by omega), nI_clamp (by omega), ← nI_succ]
      simp (config := { decide := true }) only [mLet, wM_1, wM_u, uM_t]
  · rintro ⟨v, N⟩ ⟨hv, -, b3, -⟩ m
    dsimp only at hv b3
    subst hv
    have e30 : N.1 12 30 = nI e := (b3 12 30 (by omega)).trans he
    dsimp only
    rw [f_X12_stores_212, wM_1 g _ rfl, e30, if_neg (nI_nlt (Nat.le_refl _) (by omega))]
