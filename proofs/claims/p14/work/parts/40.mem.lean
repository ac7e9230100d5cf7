/-! ===== THE MODEL'S MEMORY: M.1 t k: slot k of the model's object (tag 12) or array (tags 46 .. 96); M.2: its longs ===== -/
abbrev mM : Type := (Nat → Nat → Int32) × (Nat → Nat → Int64)
def isM (t : Nat) : Bool := t == 12 || (Nat.ble 46 t && Nat.ble t 96)
def wM (h : mH) (M : mM) : mH := (fun t i k => if isM t = true ∧ i = 0 then M.1 t k else h.1 t i k, fun t i k => if isM t = true ∧ i = 0 then M.2 t k else h.2 t i k)
def xM (h : mH) : mM := (fun t k => h.1 t 0 k, fun t k => h.2 t 0 k)
def uM (M : mM) (t k : Nat) (v : Int32) : mM := (fun t' k' => if t' = t ∧ k' = k then v else M.1 t' k', M.2)
def uN (M : mM) (t k : Nat) (v : Int64) : mM := (M.1, fun t' k' => if t' = t ∧ k' = k then v else M.2 t' k')
theorem wM_x (h : mH) : wM h (xM h) = h := by
  apply Prod.ext
  · funext t i k
    show (if isM t = true ∧ i = 0 then h.1 t 0 k else h.1 t i k) = _
    by_cases q : isM t = true ∧ i = 0
    · rw [if_pos q, q.2]
    · rw [if_neg q]
  · funext t i k
    show (if isM t = true ∧ i = 0 then h.2 t 0 k else h.2 t i k) = _
    by_cases q : isM t = true ∧ i = 0
    · rw [if_pos q, q.2]
    · rw [if_neg q]
theorem wM_1 (h : mH) (M : mM) {t : Nat} (ht : isM t = true) (k : Nat) : (wM h M).1 t 0 k = M.1 t k := if_pos ⟨ht, rfl⟩
theorem wM_2 (h : mH) (M : mM) {t : Nat} (ht : isM t = true) (k : Nat) : (wM h M).2 t 0 k = M.2 t k := if_pos ⟨ht, rfl⟩
theorem wM_u (h : mH) (M : mM) {t : Nat} (ht : isM t = true) (k : Nat) (v : Int32) : uI (wM h M) t 0 k v = wM h (uM M t k v) := by
  apply Prod.ext
  · funext t' i' k'
    show (if t' = t ∧ i' = 0 ∧ k' = k then v else if isM t' = true ∧ i' = 0 then M.1 t' k' else h.1 t' i' k') = (if isM t' = true ∧ i' = 0 then (if t' = t ∧ k' = k then v else M.1 t' k') else h.1 t' i' k')
    by_cases q : isM t' = true ∧ i' = 0
    · rw [if_pos q, if_pos q]
      by_cases e : t' = t ∧ k' = k
      · rw [if_pos e, if_pos ⟨e.1, q.2, e.2⟩]
      · rw [if_neg e, if_neg (fun z => e ⟨z.1, z.2.2⟩)]
    · rw [if_neg q, if_neg q, if_neg (fun z => q ⟨by rw [z.1]; exact ht, z.2.1⟩)]
  · rfl
theorem wM_v (h : mH) (M : mM) {t : Nat} (ht : isM t = true) (k : Nat) (v : Int64) : uJ (wM h M) t 0 k v = wM h (uN M t k v) := by
  apply Prod.ext
  · rfl
  · funext t' i' k'
    show (if t' = t ∧ i' = 0 ∧ k' = k then v else if isM t' = true ∧ i' = 0 then M.2 t' k' else h.2 t' i' k') = (if isM t' = true ∧ i' = 0 then (if t' = t ∧ k' = k then v else M.2 t' k') else h.2 t' i' k')
    by_cases q : isM t' = true ∧ i' = 0
    · rw [if_pos q, if_pos q]
      by_cases e : t' = t ∧ k' = k
      · rw [if_pos e, if_pos ⟨e.1, q.2, e.2⟩]
      · rw [if_neg e, if_neg (fun z => e ⟨z.1, z.2.2⟩)]
    · rw [if_neg q, if_neg q, if_neg (fun z => q ⟨by rw [z.1]; exact ht, z.2.1⟩)]
theorem xM_w (h : mH) (M : mM) {t : Nat} (ht : isM t = true) (k : Nat) : (xM (wM h M)).1 t k = M.1 t k := if_pos ⟨ht, rfl⟩
/-- other cells are as they were -/
theorem wM_o (h : mH) (M : mM) {t i : Nat} (ht : isM t = false) : (wM h M).1 t i = h.1 t i := by
  funext k
  exact if_neg (fun z => by rw [ht] at z; cases z.1)
theorem wM_o2 (h : mH) (M : mM) {t i : Nat} (ht : isM t = false) : (wM h M).2 t i = h.2 t i := by
  funext k
  exact if_neg (fun z => by rw [ht] at z; cases z.1)
theorem uM_1 (M : mM) (t k : Nat) (v : Int32) (t' k' : Nat) : (uM M t k v).1 t' k' = if t' = t ∧ k' = k then v else M.1 t' k' := rfl
theorem uM_2 (M : mM) (t k : Nat) (v : Int32) : (uM M t k v).2 = M.2 := rfl
theorem uN_1 (M : mM) (t k : Nat) (v : Int64) : (uN M t k v).1 = M.1 := rfl
theorem uN_2 (M : mM) (t k : Nat) (v : Int64) (t' k' : Nat) : (uN M t k v).2 t' k' = if t' = t ∧ k' = k then v else M.2 t' k' := rfl
theorem uM_s (M : mM) (t k : Nat) (v : Int32) : (uM M t k v).1 t k = v := if_pos ⟨rfl, rfl⟩
theorem uM_t (M : mM) {t k : Nat} {v : Int32} {t' k' : Nat} (h : t' ≠ t) : (uM M t k v).1 t' k' = M.1 t' k' := if_neg (fun z => h z.1)
theorem uM_k (M : mM) {t k : Nat} {v : Int32} {t' k' : Nat} (h : k' ≠ k) : (uM M t k v).1 t' k' = M.1 t' k' := if_neg (fun z => h z.2)
/-- a loop with a known course -/
theorem mLoop {α β : Type} (F : Nat → β → Option α) (s : Nat → β) (N : Nat) (res : Option α) (hs : ∀ j, j < N → ∀ n, F (n + 1) (s j) = F n (s (j + 1))) (he : ∀ n, F (n + 1) (s N) = res) : ∀ n, N < n → F n (s 0) = res := by
  have key : ∀ d j, j + d = N → ∀ n, d < n → F n (s j) = res := by
    intro d
    induction d with
    | zero =>
      intro j hj n hn
      cases n with
      | zero => omega
      | succ n =>
        have : j = N := by omega
        rw [this]
        exact he n
    | succ d ih =>
      intro j hj n hn
      cases n with
      | zero => omega
      | succ n =>
        rw [hs j (by omega) n]
        exact ih (j + 1) (by omega) n (by omega)
  intro n hn
  exact key N 0 (by omega) n hn
theorem mFu_lt {N : Nat} (h : N < 8589934592) : N < mFu := h
theorem mIn_nI {j n : Nat} (h : j < n) (hn : n < 2147483648) : mIn (nI j) n = true := by
  have h1 : (nI j).toNatClampNeg = j := nI_clamp (by omega)
  have h2 : ¬ nI j < 0 := nI_pos (by omega)
  simp [mIn, h1, Int32.not_lt.mp h2, h]
theorem mIn_of {x : Int32} {n : Nat} (h : mIn x n = true) : ∃ j, j < n ∧ x = nI j := by
  simp [mIn] at h
  refine ⟨x.toNatClampNeg, h.2, ?_⟩
  have h0 := h.1
  rw [Int32.le_iff_toInt_le, Int32.toInt_zero] at h0
  apply Int32.toInt_inj.mp
  have e : (x.toNatClampNeg : Int) = x.toInt := by
    show ((x.toInt.toNat : Nat) : Int) = x.toInt
    omega
  have hlt : x.toInt < 2147483648 := Int32.toInt_lt x
  rw [nI_toInt (by omega), e]
