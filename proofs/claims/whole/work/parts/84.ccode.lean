/-! ===== CODE, the class's side: what it asks of the book ===== -/
theorem anN_t {p : Nat → Bool} {n j : Nat} (hj : j < n) (h : p j = true) : anN p n = true := anN_iff.mpr ⟨j, hj, h⟩
theorem anN_s {p : Nat → Bool} {j : Nat} (h : anN p j = false) (q : p j = false) : anN p (j + 1) = false := by
  show (anN p j || p j) = false
  rw [h, q]
  rfl
/-- a search that ends at the first that is found -/
theorem mAny {α : Type} (F : Nat → Nat → Option α) (p : Nat → Bool) (n : Nat) (res : Bool → Option α) (ht : ∀ j, j < n → p j = true → ∀ m, F (m + 1) j = res true) (hf : ∀ j, j < n → p j = false → ∀ m, F (m + 1) j = F m (j + 1)) (he : ∀ m, F (m + 1) n = res false) : ∀ m, n < m → F m 0 = res (anN p n) := by
  have key : ∀ d j, j + d = n → anN p j = false → ∀ m, d < m → F m j = res (anN p n) := by
    intro d
    induction d with
    | zero =>
      intro j hj hp m hm
      cases m with
      | zero => omega
      | succ m =>
        have e : j = n := by omega
        subst e
        rw [he, hp]
    | succ d ih =>
      intro j hj hp m hm
      cases m with
      | zero => omega
      | succ m =>
        cases q : p j
        · rw [hf j (by omega) q m]
          exact ih (j + 1) (by omega) (anN_s hp q) m (by omega)
        · rw [ht j (by omega) q m, anN_t (show j < n by omega) q]
  intro m hm
  exact key n 0 (by omega) rfl m hm
theorem c_isShadowed {h : mH} {n : Nat} {M : mM} (F : RF h n M) (x : Int32) : f_X1_isShadowed x h = some (b2i (shM M x), h) := by
  have h24 := F.1
  have en : (M.1 12 2).toNatClampNeg = n := by rw [F.2.1, nI_clamp (by omega)]
  unfold f_X1_isShadowed shM
  rw [en]
  refine mAny (fun m j => f_X1_isShadowed_2 (fun _ _ h8 => some (0, h8)) m x (nI j) h) (shP M x) n (fun b => some (b2i b, h)) ?_ ?_ ?_ mFu (mFu_lt (by omega))
  · intro j hj q m
    rw [f_X1_isShadowed_2, F.2.2.1, if_pos (nI_lt hj (by omega)), if_pos (mIn_nI (show j < 24 by omega) (by omega)), nI_clamp (by omega), (F.2.2.2 j hj).1.1, (F.2.2.2 j hj).1.2.2.2.1]
    unfold shP at q
    rw [Bool.and_eq_true, Bool.or_eq_true] at q
    rw [if_pos (of_decide_eq_true q.1)]
    rcases q.2 with z | z
    · rw [if_pos (of_decide_eq_true z)]
      rfl
    · rw [if_pos (of_decide_eq_true z)]
      split <;> rfl
  · intro j hj q m
    rw [f_X1_isShadowed_2, F.2.2.1, if_pos (nI_lt hj (by omega)), if_pos (mIn_nI (show j < 24 by omega) (by omega)), nI_clamp (by omega), (F.2.2.2 j hj).1.1, (F.2.2.2 j hj).1.2.2.2.1, ← nI_succ]
    unfold shP at q
    by_cases q1 : M.1 46 j = x
    · rw [decide_eq_true q1, Bool.true_and, Bool.or_eq_false_iff] at q
      rw [if_pos q1, if_neg (of_decide_eq_false q.1), if_neg (of_decide_eq_false q.2)]
    · rw [if_neg q1]
  · intro m
    rw [f_X1_isShadowed_2, F.2.2.1, if_neg (nI_nlt (Nat.le_refl _) (by omega))]
    rfl
theorem c_hasHandlers {h : mH} {n : Nat} {M : mM} (F : RF h n M) (hh : ∀ f, f < n → M.1 53 f = -1 ∨ ¬ M.1 53 f < 0) : f_X1_hasHandlers h = some (b2i (hhM M), h) := by
  have h24 := F.1
  have en : (M.1 12 2).toNatClampNeg = n := by rw [F.2.1, nI_clamp (by omega)]
  unfold f_X1_hasHandlers hhM
  rw [en]
  refine mAny (fun m j => f_X1_hasHandlers_2 (fun _ h5 => some (0, h5)) m (nI j) h) (hhP M) n (fun b => some (b2i b, h)) ?_ ?_ ?_ mFu (mFu_lt (by omega))
  · intro j hj q m
    unfold hhP at q
    have z : ¬ M.1 53 j = -1 := fun z => by rw [z] at q; simp at q
    rw [f_X1_hasHandlers_2, F.2.2.1, if_pos (nI_lt hj (by omega)), if_pos (mIn_nI (show j < 24 by omega) (by omega)), nI_clamp (by omega), (F.2.2.2 j hj).2.2.2.2.2, if_neg ((hh j hj).resolve_left z)]
    rfl
  · intro j hj q m
    unfold hhP at q
    have z : M.1 53 j = -1 := by
      by_cases z : M.1 53 j = -1
      · exact z
      · rw [decide_eq_false z] at q
        cases q
    rw [f_X1_hasHandlers_2, F.2.2.1, if_pos (nI_lt hj (by omega)), if_pos (mIn_nI (show j < 24 by omega) (by omega)), nI_clamp (by omega), (F.2.2.2 j hj).2.2.2.2.2, z, if_pos (by decide), ← nI_succ]
  · intro m
    rw [f_X1_hasHandlers_2, F.2.2.1, if_neg (nI_nlt (Nat.le_refl _) (by omega))]
    rfl
theorem c_bitsOfKept {h : mH} {n : Nat} {M : mM} (F : RF h n M) (r : Nat) : f_X1_bitsOfKept (nI r) h = some (kpB M r n, h) := by
  have h24 := F.1
  unfold f_X1_bitsOfKept
  refine mLoop (fun m (c : Int32 × Int32) => f_X1_bitsOfKept_4 (fun _ u7 _ h9 => some (u7, h9)) m (nI r) c.1 c.2 h) (fun j => (kpB M r j, nI j)) n (some (kpB M r n, h)) ?_ ?_ mFu (mFu_lt (by omega))
  · intro j hj m
    dsimp only
    rw [f_X1_bitsOfKept_4, F.2.2.1, if_pos (nI_lt hj (by omega)), if_pos (mIn_nI (show j < 24 by omega) (by omega)), nI_clamp (by omega), (F.2.2.2 j hj).1.1, c_isKept F hj, Option.bind_some, kpB_succ, ← nI_succ]
    dsimp only
    rw [(F.2.2.2 j hj).2.2.1]
    unfold inR
    by_cases q1 : M.1 46 j = nI r
    · rw [if_pos q1, decide_eq_true q1, Bool.true_and]
      cases kpM M j
      · rw [if_pos (show b2i false = 0 from rfl), if_neg (show ¬ (false = true) by decide)]
      · rw [if_neg (by decide), if_pos rfl]
    · rw [if_neg q1, decide_eq_false q1, Bool.false_and, if_neg (show ¬ (false = true) by decide)]
  · intro m
    dsimp only
    rw [f_X1_bitsOfKept_4, F.2.2.1, if_neg (nI_nlt (Nat.le_refl _) (by omega))]
/-- a law binds field x and one of the set y -/
def bnP (M : mM) (x y : Int32) (l : Nat) : Bool := (decide (M.1 55 l = x) && bt y (M.1 56 l).toNatClampNeg) || (decide (M.1 56 l = x) && bt y (M.1 55 l).toNatClampNeg)
theorem c_binds {h : mH} {n l f1 g1 : Nat} {M : mM} (h24 : n ≤ 24) (hl : h.1 7 l 0 = M.1 54 l ∧ h.1 7 l 1 = M.1 55 l ∧ h.1 7 l 2 = M.1 56 l ∧ h.1 7 l 3 = M.1 57 l) (hf : f1 < n) (ef : M.1 55 l = nI f1) (hg : g1 < n) (eg : M.1 56 l = nI g1) (x y : Int32) : f_X7_binds l x y h = some (b2i (bnP M x y l), h) := by
  unfold f_X7_binds bnP
  rw [hl.2.1, hl.2.2.1, ef, eg, e_isIn y (show g1 < 32 by omega), Option.bind_some, e_isIn y (show f1 < 32 by omega), Option.bind_some, nI_clamp (by omega), nI_clamp (by omega)]
  dsimp only
  rw [hl.2.2.1, hl.2.1, ef, eg, e_isIn y (show f1 < 32 by omega), Option.bind_some]
  dsimp only
  by_cases q1 : nI f1 = x
  · rw [if_pos q1, decide_eq_true q1, Bool.true_and]
    cases bt y g1
    · rw [if_pos (show b2i false = 0 from rfl), Bool.false_or]
      by_cases q2 : nI g1 = x
      · rw [if_pos q2, decide_eq_true q2, Bool.true_and]
        cases bt y f1 <;> rfl
      · rw [if_neg q2, decide_eq_false q2]
        rfl
    · rw [if_neg (by decide)]
      rfl
  · rw [if_neg q1, decide_eq_false q1, Bool.false_and, Bool.false_or]
    by_cases q2 : nI g1 = x
    · rw [if_pos q2, decide_eq_true q2, Bool.true_and]
      cases bt y f1 <;> rfl
    · rw [if_neg q2, decide_eq_false q2]
      rfl
theorem c_isBound {h : mH} {n : Nat} {M : mM} (h24 : n ≤ 24) (W : RLw h n M) (x y : Int32) : f_X1_isBound x y h = some (b2i (anN (bnP M x y) (M.1 12 11).toNatClampNeg), h) := by
  obtain ⟨w, w1, w2, w3, w4⟩ := W
  have en : (M.1 12 11).toNatClampNeg = w := by rw [w2, nI_clamp (by omega)]
  unfold f_X1_isBound
  rw [en]
  have ee : ∀ j, j < w → f_X7_binds j x y h = some (b2i (bnP M x y j), h) := fun j hj => by
    obtain ⟨a, ⟨f, f1, f2⟩, ⟨g, g1, g2⟩⟩ := w4 j hj
    exact c_binds h24 a f1 f2 g1 g2 x y
  refine mAny (fun m j => f_X1_isBound_2 (fun _ _ _ h8 => some (0, h8)) m x y (nI j) h) (bnP M x y) w (fun b => some (b2i b, h)) ?_ ?_ ?_ mFu (mFu_lt (by omega))
  · intro j hj q m
    rw [f_X1_isBound_2, w3, if_pos (nI_lt hj (by omega)), if_pos (mIn_nI (show j < 12 by omega) (by omega)), nI_clamp (by omega), ee j hj, Option.bind_some, q]
    rfl
  · intro j hj q m
    rw [f_X1_isBound_2, w3, if_pos (nI_lt hj (by omega)), if_pos (mIn_nI (show j < 12 by omega) (by omega)), nI_clamp (by omega), ee j hj, Option.bind_some, q, nI_succ]
    rfl
  · intro m
    rw [f_X1_isBound_2, w3, if_neg (nI_nlt (Nat.le_refl _) (by omega))]
    rfl
