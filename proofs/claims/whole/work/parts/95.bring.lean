/-! ===== states that the model stores and brings back ===== -/
/-- N's store s holds the state of M -/
def SN (N : mM) (s : Nat) (M : mM) : Prop := (N.1 72 s = M.1 12 23 ∧ N.1 79 s = M.1 12 30 ∧ N.1 83 s = M.1 12 34 ∧ N.1 84 s = M.1 12 35 ∧ N.1 85 s = M.1 12 36 ∧ N.1 86 s = M.1 12 37 ∧ N.1 87 s = M.1 12 38) ∧ (∀ q, q < 5 → ∀ f, f < 24 → N.1 (73 + q) (24 * s + f) = M.1 (63 + q) f) ∧ (∀ f, f < 8 → N.1 78 (8 * s + f) = M.1 68 f) ∧ ∀ e, M.1 12 30 = nI e → e ≤ 17 → ∀ q, q < 3 → ∀ f, f < e → N.1 (80 + q) (17 * s + f) = M.1 (69 + q) f
/-- only store s has changed -/
def Fst (s : Nat) (M N : mM) : Prop := (∀ t k, ¬ ((t = 72 ∨ t = 79 ∨ (83 ≤ t ∧ t ≤ 88)) ∧ k = s) → ¬ (73 ≤ t ∧ t ≤ 77 ∧ 24 * s ≤ k ∧ k < 24 * s + 24) → ¬ (t = 78 ∧ 8 * s ≤ k ∧ k < 8 * s + 8) → ¬ (80 ≤ t ∧ t ≤ 82 ∧ 17 * s ≤ k ∧ k < 17 * s + 17) → N.1 t k = M.1 t k) ∧ N.2 = M.2
theorem e_stores (g : mH) (M : mM) {s e : Nat} (hs : s < 8) (he : M.1 12 30 = nI e) (h17 : e ≤ 17) : ∃ N, f_X12_stores (nI s) (wM g M) = some (wM g N) ∧ SN N s M ∧ N.1 88 s = M.1 12 55 ∧ Fst s M N := by
  obtain ⟨N0, eN0⟩ : ∃ N0, N0 = uM (uM (uM (uM (uM (uM (uM (uM M 72 s (M.1 12 23)) 79 s (M.1 12 30)) 83 s (M.1 12 34)) 84 s (M.1 12 35)) 85 s (M.1 12 36)) 86 s (M.1 12 37)) 87 s (M.1 12 38)) 88 s (M.1 12 55) := ⟨_, rfl⟩
  have n0 : ∀ t k, ¬ ((t = 72 ∨ t = 79 ∨ (83 ≤ t ∧ t ≤ 88)) ∧ k = s) → N0.1 t k = M.1 t k := fun t k p => by
    rw [eN0, uM_1, if_neg (by omega), uM_1, if_neg (by omega), uM_1, if_neg (by omega), uM_1, if_neg (by omega), uM_1, if_neg (by omega), uM_1, if_neg (by omega), uM_1, if_neg (by omega), uM_1, if_neg (by omega)]
  have s0 : N0.1 72 s = M.1 12 23 ∧ N0.1 79 s = M.1 12 30 ∧ N0.1 83 s = M.1 12 34 ∧ N0.1 84 s = M.1 12 35 ∧ N0.1 85 s = M.1 12 36 ∧ N0.1 86 s = M.1 12 37 ∧ N0.1 87 s = M.1 12 38 ∧ N0.1 88 s = M.1 12 55 := by
    rw [eN0]
    simp (config := { decide := true }) only [uM_t, uM_s, and_self]
  have l0 : N0.2 = M.2 := by rw [eN0]; rfl
  obtain ⟨N1, e1, a1, b1, c1⟩ := e_st82 (fun u16 u17 h18 => f_X12_stores_181 (fun u22 u23 h24 => f_X12_stores_212 (fun u30 u31 h32 => some h32) mFu u22 0 h24) mFu u16 0 h18) g N0 hs
  obtain ⟨N2, e2, a2, b2, c2⟩ := e_st181 (fun u22 u23 h24 => f_X12_stores_212 (fun u30 u31 h32 => some h32) mFu u22 0 h24) g N1 hs
  have he2 : N2.1 12 30 = nI e := by rw [b2 _ _ (by omega), b1 _ _ (by omega), n0 _ _ (by omega)]; exact he
  obtain ⟨N3, e3, a3, b3, c3⟩ := e_st212 (fun u30 u31 h32 => some h32) g N2 hs he2 h17
  have sc : ∀ t, (t = 72 ∨ t = 79 ∨ (83 ≤ t ∧ t ≤ 88)) → N3.1 t s = N0.1 t s := fun t ht => by rw [b3 _ _ (by omega), b2 _ _ (by omega), b1 _ _ (by omega)]
  refine ⟨N3, ?_, ⟨?_, fun q hq f hf => ?_, fun f hf => ?_, fun e' he' h17' q hq f hf => ?_⟩, (sc 88 (by omega)).trans s0.2.2.2.2.2.2.2, fun t k p1 p2 p3 p4 => ?_, c3.trans (c2.trans (c1.trans l0))⟩
  · unfold f_X12_stores
    rw [if_pos (mIn_nI hs (by omega)), nI_clamp (by omega)]
    simp (config := { decide := true }) only [mLet, wM_1, wM_u, uM_t]
    rw [← eN0, e1, e2, e3]
  · rw [sc 72 (by omega), sc 79 (by omega), sc 83 (by omega), sc 84 (by omega), sc 85 (by omega), sc 86 (by omega), sc 87 (by omega)]
    exact ⟨s0.1, s0.2.1, s0.2.2.1, s0.2.2.2.1, s0.2.2.2.2.1, s0.2.2.2.2.2.1, s0.2.2.2.2.2.2.1⟩
  · rw [b3 _ _ (by omega), b2 _ _ (by omega), a1 q hq f hf, n0 _ _ (by omega)]
  · rw [b3 _ _ (by omega), a2 f hf, b1 _ _ (by omega), n0 _ _ (by omega)]
  · have ee : e' = e := by
      rw [he] at he'
      have z : (nI e).toNatClampNeg = (nI e').toNatClampNeg := by rw [he']
      rw [nI_clamp (by omega), nI_clamp (by omega)] at z
      exact z.symm
    subst ee
    rw [a3 q hq f hf, b2 _ _ (by omega), b1 _ _ (by omega), n0 _ _ (by omega)]
  · rw [b3 _ _ p4, b2 _ _ p3, b1 _ _ p2, n0 _ _ p1]
