/-! ===== loops by a relation; the model's stores ===== -/
theorem mLoopR {α β : Type} (F : Nat → β → Option α) (I : Nat → β → Prop) (N : Nat) (E : β → Option α) (hs : ∀ j, j < N → ∀ b, I j b → ∃ b', I (j + 1) b' ∧ ∀ n, F (n + 1) b = F n b') (he : ∀ b, I N b → ∀ n, F (n + 1) b = E b) {b0 : β} (h0 : I 0 b0) : ∀ n, N < n → ∃ b, I N b ∧ F n b0 = E b := by
  have key : ∀ d j, j + d = N → ∀ b, I j b → ∀ n, d < n → ∃ b', I N b' ∧ F n b = E b' := by
    intro d
    induction d with
    | zero =>
      intro j hj b hb n hn
      cases n with
      | zero => omega
      | succ n =>
        have e : j = N := by omega
        subst e
        exact ⟨b, hb, he b hb n⟩
    | succ d ih =>
      intro j hj b hb n hn
      cases n with
      | zero => omega
      | succ n =>
        obtain ⟨b', hb', e⟩ := hs j (by omega) b hb
        obtain ⟨b2, h1, h2⟩ := ih (j + 1) (by omega) b' hb' n (by omega)
        exact ⟨b2, h1, by rw [e n]; exact h2⟩
  intro n hn
  exact key N 0 (by omega) b0 h0 n hn
theorem nI_mul (a b : Nat) : nI a * nI b = nI (a * b) := (Int32.ofNat_mul a b).symm
/-! ===== states that the model stores ===== -/
theorem nI_mad (c s j : Nat) : nI c * nI s + nI j = nI (c * s + j) := by rw [nI_mul, nI_add]
theorem e_st82 (K : Int32 → Int32 → mH → Option mH) (g : mH) (M : mM) {s : Nat} (hs : s < 8) : ∃ N, f_X12_stores_82 K mFu (nI s) 0 (wM g M) = K (nI s) (nI 24) (wM g N) ∧ (∀ q, q < 5 → ∀ f, f < 24 → N.1 (73 + q) (24 * s + f) = M.1 (63 + q) f) ∧ (∀ t k, ¬ (73 ≤ t ∧ t ≤ 77 ∧ 24 * s ≤ k ∧ k < 24 * s + 24) → N.1 t k = M.1 t k) ∧ N.2 = M.2 := by
  have key := mLoopR (fun m (c : Int32 × mM) => f_X12_stores_82 K m (nI s) c.1 (wM g c.2)) (fun j c => c.1 = nI j ∧ (∀ q, q < 5 → ∀ f, f < j → c.2.1 (73 + q) (24 * s + f) = M.1 (63 + q) f) ∧ (∀ t k, ¬ (73 ≤ t ∧ t ≤ 77 ∧ 24 * s ≤ k ∧ k < 24 * s + 24) → c.2.1 t k = M.1 t k) ∧ c.2.2 = M.2) 24 (fun c => K (nI s) (nI 24) (wM g c.2)) ?_ ?_ (b0 := (0, M)) ⟨rfl, fun _ _ f hf => absurd hf (Nat.not_lt_zero f), fun _ _ _ => rfl, rfl⟩ mFu (mFu_lt (by omega))
  · obtain ⟨⟨v, N⟩, ⟨-, b2, b3, b4⟩, e⟩ := key
    exact ⟨N, e, b2, b3, b4⟩
  · rintro j hj ⟨v, N⟩ ⟨hv, b2, b3, b4⟩
    dsimp only at hv b2 b3 b4
    subst hv
    have eQ : 24 * nI s + nI j = nI (24 * s + j) := nI_mad 24 s j
    refine ⟨(nI (j + 1), uM (uM (uM (uM (uM N 73 (24 * s + j) (N.1 63 j)) 74 (24 * s + j) (N.1 64 j)) 75 (24 * s + j) (N.1 65 j)) 76 (24 * s + j) (N.1 66 j)) 77 (24 * s + j) (N.1 67 j)), ⟨rfl, fun q hq f hf => ?_, fun t k p => ?_, b4⟩, fun m => ?_⟩
    · dsimp only
      have n63 : ∀ q, q < 5 → N.1 (63 + q) j = M.1 (63 + q) j := fun q hq => b3 _ _ (by omega)
      by_cases z : f = j
      · subst z
        have hq : q = 0 ∨ q = 1 ∨ q = 2 ∨ q = 3 ∨ q = 4 := by omega
        rcases hq with rfl | rfl | rfl | rfl | rfl
        · rw [uM_t _ (by omega), uM_t _ (by omega), uM_t _ (by omega), uM_t _ (by omega)]
          exact (uM_s _ _ _ _).trans (n63 0 (by omega))
        · rw [uM_t _ (by omega), uM_t _ (by omega), uM_t _ (by omega)]
          exact (uM_s _ _ _ _).trans (n63 1 (by omega))
        · rw [uM_t _ (by omega), uM_t _ (by omega)]
          exact (uM_s _ _ _ _).trans (n63 2 (by omega))
        · rw [uM_t _ (by omega)]
          exact (uM_s _ _ _ _).trans (n63 3 (by omega))
        · exact (uM_s _ _ _ _).trans (n63 4 (by omega))
      · rw [uM_k _ (by omega), uM_k _ (by omega), uM_k _ (by omega), uM_k _ (by omega), uM_k _ (by omega)]
        exact b2 q hq f (by omega)
    · dsimp only
      rw [uM_1, if_neg (by omega), uM_1, if_neg (by omega), uM_1, if_neg (by omega), uM_1, if_neg (by omega), uM_1, if_neg (by omega)]
      exact b3 t k p
    · dsimp only
      rw [f_X12_stores_82, if_pos (show nI j < 24 from nI_lt (b := 24) hj (by omega)), if_pos (mIn_nI hj (by omega)), eQ, if_pos (mIn_nI (show 24 * s + j < 192 by omega) (by omega)), nI_clamp (by omega), nI_clamp (by omega), ← nI_succ]
      simp (config := { decide := true }) only [mLet, wM_1, wM_u, uM_t]
  · rintro ⟨v, N⟩ ⟨hv, -, -, -⟩ m
    dsimp only at hv
    subst hv
    dsimp only
    rw [f_X12_stores_82, if_neg (show ¬ nI 24 < 24 by decide)]
theorem e_st181 (K : Int32 → Int32 → mH → Option mH) (g : mH) (M : mM) {s : Nat} (hs : s < 8) : ∃ N, f_X12_stores_181 K mFu (nI s) 0 (wM g M) = K (nI s) (nI 8) (wM g N) ∧ (∀ f, f < 8 → N.1 78 (8 * s + f) = M.1 68 f) ∧ (∀ t k, ¬ (t = 78 ∧ 8 * s ≤ k ∧ k < 8 * s + 8) → N.1 t k = M.1 t k) ∧ N.2 = M.2 := by
  have key := mLoopR (fun m (c : Int32 × mM) => f_X12_stores_181 K m (nI s) c.1 (wM g c.2)) (fun j c => c.1 = nI j ∧ (∀ f, f < j → c.2.1 78 (8 * s + f) = M.1 68 f) ∧ (∀ t k, ¬ (t = 78 ∧ 8 * s ≤ k ∧ k < 8 * s + 8) → c.2.1 t k = M.1 t k) ∧ c.2.2 = M.2) 8 (fun c => K (nI s) (nI 8) (wM g c.2)) ?_ ?_ (b0 := (0, M)) ⟨rfl, fun f hf => absurd hf (Nat.not_lt_zero f), fun _ _ _ => rfl, rfl⟩ mFu (mFu_lt (by omega))
  · obtain ⟨⟨v, N⟩, ⟨-, b2, b3, b4⟩, e⟩ := key
    exact ⟨N, e, b2, b3, b4⟩
  · rintro j hj ⟨v, N⟩ ⟨hv, b2, b3, b4⟩
    dsimp only at hv b2 b3 b4
    subst hv
    have eQ : 8 * nI s + nI j = nI (8 * s + j) := nI_mad 8 s j
    refine ⟨(nI (j + 1), uM N 78 (8 * s + j) (N.1 68 j)), ⟨rfl, fun f hf => ?_, fun t k p => ?_, b4⟩, fun m => ?_⟩
    · dsimp only
      by_cases z : f = j
      · subst z
        rw [uM_s]
        exact b3 _ _ (by omega)
      · rw [uM_k _ (by omega)]
        exact b2 f (by omega)
    · dsimp only
      rw [uM_1, if_neg (by omega)]
      exact b3 t k p
    · dsimp only
      rw [f_X12_stores_181, if_pos (show nI j < 8 from nI_lt (b := 8) hj (by omega)), if_pos (mIn_nI hj (by omega)), eQ, if_pos (mIn_nI (show 8 * s + j < 64 by omega) (by omega)), nI_clamp (by omega), nI_clamp (by omega), ← nI_succ, wM_1 g _ rfl, wM_u g _ rfl]
  · rintro ⟨v, N⟩ ⟨hv, -, -, -⟩ m
    dsimp only at hv
    subst hv
    dsimp only
    rw [f_X12_stores_181, if_neg (show ¬ nI 8 < 8 by decide)]
theorem e_st212 (K : Int32 → Int32 → mH → Option mH) (g : mH) (M : mM) {s e : Nat} (hs : s < 8) (he : M.1 12 30 = nI e) (h17 : e ≤ 17) : ∃ N, f_X12_stores_212 K mFu (nI s) 0 (wM g M) = K (nI s) (nI e) (wM g N) ∧ (∀ q, q < 3 → ∀ f, f < e → N.1 (80 + q) (17 * s + f) = M.1 (69 + q) f) ∧ (∀ t k, ¬ (80 ≤ t ∧ t ≤ 82 ∧ 17 * s ≤ k ∧ k < 17 * s + 17) → N.1 t k = M.1 t k) ∧ N.2 = M.2 := by
  have key := mLoopR (fun m (c : Int32 × mM) => f_X12_stores_212 K m (nI s) c.1 (wM g c.2)) (fun j c => c.1 = nI j ∧ (∀ q, q < 3 → ∀ f, f < j → c.2.1 (80 + q) (17 * s + f) = M.1 (69 + q) f) ∧ (∀ t k, ¬ (80 ≤ t ∧ t ≤ 82 ∧ 17 * s ≤ k ∧ k < 17 * s + 17) → c.2.1 t k = M.1 t k) ∧ c.2.2 = M.2) e (fun c => K (nI s) (nI e) (wM g c.2)) ?_ ?_ (b0 := (0, M)) ⟨rfl, fun _ _ f hf => absurd hf (Nat.not_lt_zero f), fun _ _ _ => rfl, rfl⟩ mFu (mFu_lt (by omega))
  · obtain ⟨⟨v, N⟩, ⟨-, b2, b3, b4⟩, ee⟩ := key
    exact ⟨N, ee, b2, b3, b4⟩
  · rintro j hj ⟨v, N⟩ ⟨hv, b2, b3, b4⟩
    dsimp only at hv b2 b3 b4
    subst hv
    have eQ : 17 * nI s + nI j = nI (17 * s + j) := nI_mad 17 s j
    have e30 : N.1 12 30 = nI e := (b3 12 30 (by omega)).trans he
    refine ⟨(nI (j + 1), uM (uM (uM N 80 (17 * s + j) (N.1 69 j)) 81 (17 * s + j) (N.1 70 j)) 82 (17 * s + j) (N.1 71 j)), ⟨rfl, fun q hq f hf => ?_, fun t k p => ?_, b4⟩, fun m => ?_⟩
    · dsimp only
      have n69 : ∀ q, q < 3 → N.1 (69 + q) j = M.1 (69 + q) j := fun q hq => b3 _ _ (by omega)
      by_cases z : f = j
      · subst z
        have hq : q = 0 ∨ q = 1 ∨ q = 2 := by omega
        rcases hq with rfl | rfl | rfl
        · rw [uM_t _ (by omega), uM_t _ (by omega)]
          exact (uM_s _ _ _ _).trans (n69 0 (by omega))
        · rw [uM_t _ (by omega)]
          exact (uM_s _ _ _ _).trans (n69 1 (by omega))
        · exact (uM_s _ _ _ _).trans (n69 2 (by omega))
      · rw [uM_k _ (by omega), uM_k _ (by omega), uM_k _ (by omega)]
        exact b2 q hq f (by omega)
    · dsimp only
      rw [uM_1, if_neg (by omega), uM_1, if_neg (by omega), uM_1, if_neg (by omega)]
      exact b3 t k p
    · dsimp only
      rw [f_X12_stores_212, wM_1 g _ rfl, e30, if_pos (nI_lt hj (by omega)), if_pos (mIn_nI (show j < 17 by omega) (by omega)), eQ, if_pos (mIn_nI (show 17 * s + j < 136 by omega) (by omega)), nI_clamp (by omega), nI_clamp (by omega), ← nI_succ]
      simp (config := { decide := true }) only [mLet, wM_1, wM_u, uM_t]
  · rintro ⟨v, N⟩ ⟨hv, -, b3, -⟩ m
    dsimp only at hv b3
    subst hv
    have e30 : N.1 12 30 = nI e := (b3 12 30 (by omega)).trans he
    dsimp only
    rw [f_X12_stores_212, wM_1 g _ rfl, e30, if_neg (nI_nlt (Nat.le_refl _) (by omega))]
/-! ===== states that the model stores and brings back ===== -/
/-- N's store s holds the state of M -/
def SN (N : mM) (s : Nat) (M : mM) : Prop := (N.1 72 s = M.1 12 23 ∧ N.1 79 s = M.1 12 30 ∧ N.1 83 s = M.1 12 34 ∧ N.1 84 s = M.1 12 35 ∧ N.1 85 s = M.1 12 36 ∧ N.1 86 s = M.1 12 37 ∧ N.1 87 s = M.1 12 38) ∧ (∀ q, q < 5 → ∀ f, f < 24 → N.1 (73 + q) (24 * s + f) = M.1 (63 + q) f) ∧ (∀ f, f < 8 → N.1 78 (8 * s + f) = M.1 68 f) ∧ ∀ e, M.1 12 30 = nI e → e ≤ 17 → ∀ q, q < 3 → ∀ f, f < e → N.1 (80 + q) (17 * s + f) = M.1 (69 + q) f
/-- only store s has changed -/
def Fst (s : Nat) (M N : mM) : Prop := (∀ t k, ¬ ((t = 72 ∨ t = 79 ∨ (83 ≤ t ∧ t ≤ 88)) ∧ k = s) → ¬ (73 ≤ t ∧ t ≤ 77 ∧ 24 * s ≤ k ∧ k < 24 * s + 24) → ¬ (t = 78 ∧ 8 * s ≤ k ∧ k < 8 * s + 8) → ¬ (80 ≤ t ∧ t ≤ 82 ∧ 17 * s ≤ k ∧ k < 17 * s + 17) → N.1 t k = M.1 t k) ∧ N.2 = M.2
theorem e_stores (g : mH) (M : mM) {s e : Nat} (hs : s < 8) (he : M.1 12 30 = nI e) (h17 : e ≤ 17) : ∃ N, f_X12_stores (nI s) (wM g M) = some (wM g N) ∧ SN N s M ∧ N.1 88 s = M.1 12 55 ∧ Fst s M N := by
  obtain ⟨N0, eN0⟩ : ∃ N0, N0 = uM (uM (uM (uM (uM (uM (uM (uM M 72 s (M.1 12 23)) 79 s (M.1 12 30)) 83 s (M.1 12 34)) 84 s (M.1 12 35)) 85 s (M.1 12 36)) 86 s (M.1 12 37)) 87 s (M.1 12 38)) 88 s (M.1 12 55) := ⟨_, rfl⟩
  have n0 : ∀ t k, ¬ ((t = 72 ∨ t = 79 ∨ (83 ≤ t ∧ t ≤ 88)) ∧ k = s) → N0.1 t k = M.1 t k := fun t k p => by
    rw [eN0, uM_1, if_neg (by omega), uM_1, if_neg (by omega), uM_1, if_neg (by omega), uM_1, if_neg (by omega), uM_1, if_neg (by omega), uM_1, if_neg (by omega), uM_1, if_neg (by omega), uM_1, if_neg (by omega)]
  have s0 : N0.1 72 s = M.1 12 23 ∧ N0.1 79 s = M.1 12 30 ∧ N0.1 83 s = M.1 12 34 ∧ N0.1 84 s = M.1 12 35 ∧ N0.1 85 s = M.1 12 36 ∧ N0.1 86 s = M.1 12 37 ∧ N0.1 87 s = M.1 12 38 ∧ N0.1 88 s = M.1 12 55 := by
    rw [eN0]
    simp (config := { decide := true }) only [uM_t, uM_s, and_self]
  have l0 : N0.2 = M.2 := by rw [eN0]; rfl
  obtain ⟨N1, e1, a1, b1, c1⟩ := e_st82 (fun u16 u17 h18 => f_X12_stores_181 (fun u22 u23 h24 => f_X12_stores_212 (fun u30 u31 h32 => some h32) mFu u22 0 h24) mFu u16 0 h18) g N0 hs
  obtain ⟨N2, e2, a2, b2, c2⟩ := e_st181 (fun u22 u23 h24 => f_X12_stores_212 (fun u30 u31 h32 => some h32) mFu u22 0 h24) g N1 hs
  have he2 : N2.1 12 30 = nI e := by rw [b2 _ _ (by omega), b1 _ _ (by omega), n0 _ _ (by omega)]; exact he
  obtain ⟨N3, e3, a3, b3, c3⟩ := e_st212 (fun u30 u31 h32 => some h32) g N2 hs he2 h17
  have sc : ∀ t, (t = 72 ∨ t = 79 ∨ (83 ≤ t ∧ t ≤ 88)) → N3.1 t s = N0.1 t s := fun t ht => by rw [b3 _ _ (by omega), b2 _ _ (by omega), b1 _ _ (by omega)]
  refine ⟨N3, ?_, ⟨?_, fun q hq f hf => ?_, fun f hf => ?_, fun e' he' h17' q hq f hf => ?_⟩, (sc 88 (by omega)).trans s0.2.2.2.2.2.2.2, fun t k p1 p2 p3 p4 => ?_, c3.trans (c2.trans (c1.trans l0))⟩
  · unfold f_X12_stores
    rw [if_pos (mIn_nI hs (by omega)), nI_clamp (by omega)]
    simp (config := { decide := true }) only [mLet, wM_1, wM_u, uM_t]
    rw [← eN0, e1, e2, e3]
  · rw [sc 72 (by omega), sc 79 (by omega), sc 83 (by omega), sc 84 (by omega), sc 85 (by omega), sc 86 (by omega), sc 87 (by omega)]
    exact ⟨s0.1, s0.2.1, s0.2.2.1, s0.2.2.2.1, s0.2.2.2.2.1, s0.2.2.2.2.2.1, s0.2.2.2.2.2.2.1⟩
  · rw [b3 _ _ (by omega), b2 _ _ (by omega), a1 q hq f hf, n0 _ _ (by omega)]
  · rw [b3 _ _ (by omega), a2 f hf, b1 _ _ (by omega), n0 _ _ (by omega)]
  · have ee : e' = e := by
      rw [he] at he'
      have z : (nI e).toNatClampNeg = (nI e').toNatClampNeg := by rw [he']
      rw [nI_clamp (by omega), nI_clamp (by omega)] at z
      exact z.symm
    subst ee
    rw [a3 q hq f hf, b2 _ _ (by omega), b1 _ _ (by omega), n0 _ _ (by omega)]
  · rw [b3 _ _ p4, b2 _ _ p3, b1 _ _ p2, n0 _ _ p1]
