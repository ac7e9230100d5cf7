theorem e_br72 (K : Int32 → Int32 → mH → Option mH) (g : mH) (M : mM) {s : Nat} (hs : s < 8) : ∃ N, f_X12_brings_72 K mFu (nI s) 0 (wM g M) = K (nI s) (nI 24) (wM g N) ∧ (∀ q, q < 5 → ∀ f, f < 24 → N.1 (63 + q) f = M.1 (73 + q) (24 * s + f)) ∧ (∀ t k, ¬ (63 ≤ t ∧ t ≤ 67) → N.1 t k = M.1 t k) ∧ N.2 = M.2 := by
  have key := mLoopR (fun m (c : Int32 × mM) => f_X12_brings_72 K m (nI s) c.1 (wM g c.2)) (fun j c => c.1 = nI j ∧ (∀ q, q < 5 → ∀ f, f < j → c.2.1 (63 + q) f = M.1 (73 + q) (24 * s + f)) ∧ (∀ t k, ¬ (63 ≤ t ∧ t ≤ 67) → c.2.1 t k = M.1 t k) ∧ c.2.2 = M.2) 24 (fun c => K (nI s) (nI 24) (wM g c.2)) ?_ ?_ (b0 := (0, M)) ⟨rfl, fun _ _ f hf => absurd hf (Nat.not_lt_zero f), fun _ _ _ => rfl, rfl⟩ mFu (mFu_lt (by omega))
  · obtain ⟨⟨v, N⟩, ⟨-, b2, b3, b4⟩, e⟩ := key
    exact ⟨N, e, b2, b3, b4⟩
  · rintro j hj ⟨v, N⟩ ⟨hv, b2, b3, b4⟩
    dsimp only at hv b2 b3 b4
    subst hv
    have eQ : 24 * nI s + nI j = nI (24 * s + j) := nI_mad 24 s j
    refine ⟨(nI (j + 1), uM (uM (uM (uM (uM N 63 j (N.1 73 (24 * s + j))) 64 j (N.1 74 (24 * s + j))) 65 j (N.1 75 (24 * s + j))) 66 j (N.1 76 (24 * s + j))) 67 j (N.1 77 (24 * s + j))), ⟨rfl, fun q hq f hf => ?_, fun t k p => ?_, b4⟩, fun m => ?_⟩
    · dsimp only
      have n73 : ∀ q, q < 5 → N.1 (73 + q) (24 * s + j) = M.1 (73 + q) (24 * s + j) := fun q hq => b3 _ _ (by omega)
      by_cases z : f = j
      · subst z
        have hq : q = 0 ∨ q = 1 ∨ q = 2 ∨ q = 3 ∨ q = 4 := by omega
        rcases hq with rfl | rfl | rfl | rfl | rfl
        · rw [uM_t _ (by omega), uM_t _ (by omega), uM_t _ (by omega), uM_t _ (by omega)]
          exact (uM_s _ _ _ _).trans (n73 0 (by omega))
        · rw [uM_t _ (by omega), uM_t _ (by omega), uM_t _ (by omega)]
          exact (uM_s _ _ _ _).trans (n73 1 (by omega))
        · rw [uM_t _ (by omega), uM_t _ (by omega)]
          exact (uM_s _ _ _ _).trans (n73 2 (by omega))
        · rw [uM_t _ (by omega)]
          exact (uM_s _ _ _ _).trans (n73 3 (by omega))
        · exact (uM_s _ _ _ _).trans (n73 4 (by omega))
      · rw [uM_k _ z, uM_k _ z, uM_k _ z, uM_k _ z, uM_k _ z]
        exact b2 q hq f (by omega)
    · dsimp only
      rw [uM_t _ (by omega), uM_t _ (by omega), uM_t _ (by omega), uM_t _ (by omega), uM_t _ (by omega)]
      exact b3 t k p
    · dsimp only
      rw [f_X12_brings_72, if_pos (show nI j < 24 from nI_lt (b := 24) hj (by omega)), if_pos (mIn_nI hj (by omega)), eQ, if_pos (mIn_nI (show 24 * s + j < 192 by omega) (by omega)), nI_clamp (by omega), nI_clamp (by omega), ← nI_succ]
      simp (config := { decide := true }) only [mLet, wM_1, wM_u, uM_t]
  · rintro ⟨v, N⟩ ⟨hv, -, -, -⟩ m
    dsimp only at hv
    subst hv
    dsimp only
    rw [f_X12_brings_72, if_neg (show ¬ nI 24 < 24 by decide)]
theorem e_br171 (K : Int32 → Int32 → mH → Option mH) (g : mH) (M : mM) {s : Nat} (hs : s < 8) : ∃ N, f_X12_brings_171 K mFu (nI s) 0 (wM g M) = K (nI s) (nI 8) (wM g N) ∧ (∀ f, f < 8 → N.1 68 f = M.1 78 (8 * s + f)) ∧ (∀ t k, ¬ t = 68 → N.1 t k = M.1 t k) ∧ N.2 = M.2 := by
  have key := mLoopR (fun m (c : Int32 × mM) => f_X12_brings_171 K m (nI s) c.1 (wM g c.2)) (fun j c => c.1 = nI j ∧ (∀ f, f < j → c.2.1 68 f = M.1 78 (8 * s + f)) ∧ (∀ t k, ¬ t = 68 → c.2.1 t k = M.1 t k) ∧ c.2.2 = M.2) 8 (fun c => K (nI s) (nI 8) (wM g c.2)) ?_ ?_ (b0 := (0, M)) ⟨rfl, fun f hf => absurd hf (Nat.not_lt_zero f), fun _ _ _ => rfl, rfl⟩ mFu (mFu_lt (by omega))
  · obtain ⟨⟨v, N⟩, ⟨-, b2, b3, b4⟩, e⟩ := key
    exact ⟨N, e, b2, b3, b4⟩
  · rintro j hj ⟨v, N⟩ ⟨hv, b2, b3, b4⟩
    dsimp only at hv b2 b3 b4
    subst hv
    have eQ : 8 * nI s + nI j = nI (8 * s + j) := nI_mad 8 s j
    refine ⟨(nI (j + 1), uM N 68 j (N.1 78 (8 * s + j))), ⟨rfl, fun f hf => ?_, fun t k p => ?_, b4⟩, fun m => ?_⟩
    · dsimp only
      by_cases z : f = j
      · subst z
        rw [uM_s]
        exact b3 _ _ (by omega)
      · rw [uM_k _ z]
        exact b2 f (by omega)
    · dsimp only
      rw [uM_t _ p]
      exact b3 t k p
    · dsimp only
      rw [f_X12_brings_171, if_pos (show nI j < 8 from nI_lt (b := 8) hj (by omega)), if_pos (mIn_nI hj (by omega)), eQ, if_pos (mIn_nI (show 8 * s + j < 64 by omega) (by omega)), nI_clamp (by omega), nI_clamp (by omega), ← nI_succ, wM_1 g _ rfl, wM_u g _ rfl]
  · rintro ⟨v, N⟩ ⟨hv, -, -, -⟩ m
    dsimp only at hv
    subst hv
    dsimp only
    rw [f_X12_brings_171, if_neg (show ¬ nI 8 < 8 by decide)]
theorem e_br202 (K : Int32 → Int32 → mH → Option mH) (g : mH) (M : mM) {s e : Nat} (hs : s < 8) (he : M.1 12 30 = nI e) (h17 : e ≤ 17) : ∃ N, f_X12_brings_202 K mFu (nI s) 0 (wM g M) = K (nI s) (nI e) (wM g N) ∧ (∀ q, q < 3 → ∀ f, f < e → N.1 (69 + q) f = M.1 (80 + q) (17 * s + f)) ∧ (∀ t k, ¬ (69 ≤ t ∧ t ≤ 71) → N.1 t k = M.1 t k) ∧ N.2 = M.2 := by
  have key := mLoopR (fun m (c : Int32 × mM) => f_X12_brings_202 K m (nI s) c.1 (wM g c.2)) (fun j c => c.1 = nI j ∧ (∀ q, q < 3 → ∀ f, f < j → c.2.1 (69 + q) f = M.1 (80 + q) (17 * s + f)) ∧ (∀ t k, ¬ (69 ≤ t ∧ t ≤ 71) → c.2.1 t k = M.1 t k) ∧ c.2.2 = M.2) e (fun c => K (nI s) (nI e) (wM g c.2)) ?_ ?_ (b0 := (0, M)) ⟨rfl, fun _ _ f hf => absurd hf (Nat.not_lt_zero f), fun _ _ _ => rfl, rfl⟩ mFu (mFu_lt (by omega))
  · obtain ⟨⟨v, N⟩, ⟨-, b2, b3, b4⟩, ee⟩ := key
    exact ⟨N, ee, b2, b3, b4⟩
  · rintro j hj ⟨v, N⟩ ⟨hv, b2, b3, b4⟩
    dsimp only at hv b2 b3 b4
    subst hv
    have eQ : 17 * nI s + nI j = nI (17 * s + j) := nI_mad 17 s j
    have e30 : N.1 12 30 = nI e := (b3 12 30 (by omega)).trans he
    refine ⟨(nI (j + 1), uM (uM (uM N 69 j (N.1 80 (17 * s + j))) 70 j (N.1 81 (17 * s + j))) 71 j (N.1 82 (17 * s + j))), ⟨rfl, fun q hq f hf => ?_, fun t k p => ?_, b4⟩, fun m => ?_⟩
    · dsimp only
      have n80 : ∀ q, q < 3 → N.1 (80 + q) (17 * s + j) = M.1 (80 + q) (17 * s + j) := fun q hq => b3 _ _ (by omega)
      by_cases z : f = j
      · subst z
        have hq : q = 0 ∨ q = 1 ∨ q = 2 := by omega
        rcases hq with rfl | rfl | rfl
        · rw [uM_t _ (by omega), uM_t _ (by omega)]
          exact (uM_s _ _ _ _).trans (n80 0 (by omega))
        · rw [uM_t _ (by omega)]
          exact (uM_s _ _ _ _).trans (n80 1 (by omega))
        · exact (uM_s _ _ _ _).trans (n80 2 (by omega))
      · rw [uM_k _ z, uM_k _ z, uM_k _ z]
        exact b2 q hq f (by omega)
    · dsimp only
      rw [uM_t _ (by omega), uM_t _ (by omega), uM_t _ (by omega)]
      exact b3 t k p
    · dsimp only
      rw [f_X12_brings_202, wM_1 g _ rfl, e30, if_pos (nI_lt hj (by omega)), if_pos (mIn_nI (show j < 17 by omega) (by omega)), eQ, if_pos (mIn_nI (show 17 * s + j < 136 by omega) (by omega)), nI_clamp (by omega), nI_clamp (by omega), ← nI_succ]
      simp (config := { decide := true }) only [mLet, wM_1, wM_u, uM_t]
  · rintro ⟨v, N⟩ ⟨hv, -, b3, -⟩ m
    dsimp only at hv b3
    subst hv
    have e30 : N.1 12 30 = nI e := (b3 12 30 (by omega)).trans he
    dsimp only
    rw [f_X12_brings_202, wM_1 g _ rfl, e30, if_neg (nI_nlt (Nat.le_refl _) (by omega))]
/-- the states of M and N are the same -/
def StE (M N : mM) : Prop := (∀ k, (k = 23 ∨ k = 30 ∨ (34 ≤ k ∧ k ≤ 38)) → N.1 12 k = M.1 12 k) ∧ (∀ q, q < 5 → ∀ f, f < 24 → N.1 (63 + q) f = M.1 (63 + q) f) ∧ (∀ f, f < 8 → N.1 68 f = M.1 68 f) ∧ ∀ e, M.1 12 30 = nI e → e ≤ 17 → ∀ q, q < 3 → ∀ f, f < e → N.1 (69 + q) f = M.1 (69 + q) f
theorem e_brings (g : mH) {M M0 : mM} {s e : Nat} (hs : s < 8) (S : SN M s M0) (he : M0.1 12 30 = nI e) (h17 : e ≤ 17) : ∃ N, f_X12_brings (nI s) (wM g M) = some (wM g N) ∧ StE M0 N ∧ Fm M N := by
  obtain ⟨⟨t1, t2, t3, t4, t5, t6, t7⟩, S2, S3, S4⟩ := S
  obtain ⟨N0, eN0⟩ : ∃ N0, N0 = uM (uM (uM (uM (uM (uM (uM M 12 23 (M.1 72 s)) 12 30 (M.1 79 s)) 12 34 (M.1 83 s)) 12 35 (M.1 84 s)) 12 36 (M.1 85 s)) 12 37 (M.1 86 s)) 12 38 (M.1 87 s) := ⟨_, rfl⟩
  have n0 : ∀ t k, ¬ (t = 12 ∧ (k = 23 ∨ k = 30 ∨ (34 ≤ k ∧ k ≤ 38))) → N0.1 t k = M.1 t k := fun t k p => by
    rw [eN0, uM_1, if_neg (by omega), uM_1, if_neg (by omega), uM_1, if_neg (by omega), uM_1, if_neg (by omega), uM_1, if_neg (by omega), uM_1, if_neg (by omega), uM_1, if_neg (by omega)]
  have s0 : N0.1 12 23 = M0.1 12 23 ∧ N0.1 12 30 = M0.1 12 30 ∧ N0.1 12 34 = M0.1 12 34 ∧ N0.1 12 35 = M0.1 12 35 ∧ N0.1 12 36 = M0.1 12 36 ∧ N0.1 12 37 = M0.1 12 37 ∧ N0.1 12 38 = M0.1 12 38 := by
    rw [eN0, ← t1, ← t2, ← t3, ← t4, ← t5, ← t6, ← t7]
    simp (config := { decide := true }) only [uM_k, uM_s, and_self]
  have l0 : N0.2 = M.2 := by rw [eN0]; rfl
  obtain ⟨N1, e1, a1, b1, c1⟩ := e_br72 (fun u15 u16 h17 => f_X12_brings_171 (fun u21 u22 h23 => f_X12_brings_202 (fun u29 u30 h31 => some h31) mFu u21 0 h23) mFu u15 0 h17) g N0 hs
  obtain ⟨N2, e2, a2, b2, c2⟩ := e_br171 (fun u21 u22 h23 => f_X12_brings_202 (fun u29 u30 h31 => some h31) mFu u21 0 h23) g N1 hs
  have he2 : N2.1 12 30 = nI e := by rw [b2 _ _ (by omega), b1 _ _ (by omega), s0.2.1]; exact he
  obtain ⟨N3, e3, a3, b3, c3⟩ := e_br202 (fun u29 u30 h31 => some h31) g N2 hs he2 h17
  refine ⟨N3, ?_, ⟨fun k hk => ?_, fun q hq f hf => ?_, fun f hf => ?_, fun e' he' h17' q hq f hf => ?_⟩, fun t k p1 p2 p3 => ?_, c3.trans (c2.trans (c1.trans l0))⟩
  · unfold f_X12_brings
    rw [if_pos (mIn_nI hs (by omega)), nI_clamp (by omega)]
    simp (config := { decide := true }) only [mLet, wM_1, wM_u, uM_t]
    rw [← eN0, e1, e2, e3]
  · rw [b3 _ _ (by omega), b2 _ _ (by omega), b1 _ _ (by omega)]
    have hk : k = 23 ∨ k = 30 ∨ k = 34 ∨ k = 35 ∨ k = 36 ∨ k = 37 ∨ k = 38 := by omega
    rcases hk with rfl | rfl | rfl | rfl | rfl | rfl | rfl
    · exact s0.1
    · exact s0.2.1
    · exact s0.2.2.1
    · exact s0.2.2.2.1
    · exact s0.2.2.2.2.1
    · exact s0.2.2.2.2.2.1
    · exact s0.2.2.2.2.2.2
  · rw [b3 _ _ (by omega), b2 _ _ (by omega), a1 q hq f hf, n0 _ _ (by omega)]
    exact S2 q hq f hf
  · rw [b3 _ _ (by omega), a2 f hf, b1 _ _ (by omega), n0 _ _ (by omega)]
    exact S3 f hf
  · have ee : e' = e := by
      rw [he] at he'
      have z : (nI e).toNatClampNeg = (nI e').toNatClampNeg := by rw [he']
      rw [nI_clamp (by omega), nI_clamp (by omega)] at z
      exact z.symm
    subst ee
    rw [a3 q hq f hf, b2 _ _ (by omega), b1 _ _ (by omega), n0 _ _ (by omega)]
    exact S4 e' he h17 q hq f hf
  · rw [b3 _ _ (by omega), b2 _ _ (by omega), b1 _ _ (by omega), n0 _ _ p3]
