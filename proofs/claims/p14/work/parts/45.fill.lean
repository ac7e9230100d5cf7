/-! ===== Arrays.fill, on the world ===== -/
def flI (h : mH) (t i n : Nat) (v : Int32) : mH := (fun t' i' k => if t' = t ∧ i' = i ∧ k < n then v else h.1 t' i' k, h.2)
theorem flI_u (h : mH) (t i n : Nat) (v : Int32) : uI (flI h t i n v) t i n v = flI h t i (n + 1) v := by
  apply Prod.ext
  · funext a b k
    show (if a = t ∧ b = i ∧ k = n then v else if a = t ∧ b = i ∧ k < n then v else h.1 a b k) = (if a = t ∧ b = i ∧ k < n + 1 then v else h.1 a b k)
    by_cases z : a = t ∧ b = i
    · by_cases y : k = n
      · rw [if_pos ⟨z.1, z.2, y⟩, if_pos ⟨z.1, z.2, by omega⟩]
      · rw [if_neg (fun w => y w.2.2)]
        by_cases x : k < n
        · rw [if_pos ⟨z.1, z.2, x⟩, if_pos ⟨z.1, z.2, by omega⟩]
        · rw [if_neg (fun w => x w.2.2), if_neg (fun w => by omega)]
    · rw [if_neg (fun w => z ⟨w.1, w.2.1⟩), if_neg (fun w => z ⟨w.1, w.2.1⟩), if_neg (fun w => z ⟨w.1, w.2.1⟩)]
  · rfl
theorem e_fill (t : Nat) {n : Nat} (hn : n ≤ 64) (i : Nat) (v : Int32) (h : mH) : f_J7_fill_53178 t n i v h = some (flI h t i n v) := by
  unfold f_J7_fill_53178
  have e0 : flI h t i 0 v = h := by
    apply Prod.ext
    · funext a b k
      exact if_neg (fun w => by omega)
    · rfl
  have z := mLoop (fun m (c : Int32 × mH) => f_J7_fill_53178_5 (fun _ _ _ h6 => some h6) t n i m v c.1 (nI n) c.2) (fun j => (nI j, flI h t i j v)) n (some (flI h t i n v)) ?_ ?_ mFu (mFu_lt (by omega))
  · dsimp only at z
    rw [e0] at z
    exact z
  · intro j hj m
    dsimp only
    rw [f_J7_fill_53178_5, if_pos (nI_lt hj (by omega)), if_pos (mIn_nI hj (by omega)), nI_clamp (by omega), flI_u, nI_succ]
  · intro m
    dsimp only
    rw [f_J7_fill_53178_5, if_neg (nI_nlt (Nat.le_refl _) (by omega))]
theorem flI_ne (h : mH) {t i n : Nat} {v : Int32} {t' i' : Nat} (e : ¬ (t' = t ∧ i' = i)) : (flI h t i n v).1 t' i' = h.1 t' i' := by
  funext k
  exact if_neg (fun w => e ⟨w.1, w.2.1⟩)
theorem flI_in (h : mH) {t i n : Nat} {v : Int32} {k : Nat} (hk : k < n) : (flI h t i n v).1 t i k = v := if_pos ⟨rfl, rfl, hk⟩
def flJ (h : mH) (t i n : Nat) (v : Int64) : mH := (h.1, fun t' i' k => if t' = t ∧ i' = i ∧ k < n then v else h.2 t' i' k)
theorem flJ_u (h : mH) (t i n : Nat) (v : Int64) : uJ (flJ h t i n v) t i n v = flJ h t i (n + 1) v := by
  apply Prod.ext
  · rfl
  · funext a b k
    show (if a = t ∧ b = i ∧ k = n then v else if a = t ∧ b = i ∧ k < n then v else h.2 a b k) = (if a = t ∧ b = i ∧ k < n + 1 then v else h.2 a b k)
    by_cases z : a = t ∧ b = i
    · by_cases y : k = n
      · rw [if_pos ⟨z.1, z.2, y⟩, if_pos ⟨z.1, z.2, by omega⟩]
      · rw [if_neg (fun w => y w.2.2)]
        by_cases x : k < n
        · rw [if_pos ⟨z.1, z.2, x⟩, if_pos ⟨z.1, z.2, by omega⟩]
        · rw [if_neg (fun w => x w.2.2), if_neg (fun w => by omega)]
    · rw [if_neg (fun w => z ⟨w.1, w.2.1⟩), if_neg (fun w => z ⟨w.1, w.2.1⟩), if_neg (fun w => z ⟨w.1, w.2.1⟩)]
theorem e_fillJ (t : Nat) {n : Nat} (hn : n ≤ 64) (i : Nat) (v : Int64) (h : mH) : f_J7_fill_d0a16 t n i v h = some (flJ h t i n v) := by
  unfold f_J7_fill_d0a16
  have e0 : flJ h t i 0 v = h := by
    apply Prod.ext
    · rfl
    · funext a b k
      exact if_neg (fun w => by omega)
  have z := mLoop (fun m (c : Int32 × mH) => f_J7_fill_d0a16_6 (fun _ _ _ h6 => some h6) t n i m v c.1 (nI n) c.2) (fun j => (nI j, flJ h t i j v)) n (some (flJ h t i n v)) ?_ ?_ mFu (mFu_lt (by omega))
  · dsimp only at z
    rw [e0] at z
    exact z
  · intro j hj m
    dsimp only
    rw [f_J7_fill_d0a16_6, if_pos (nI_lt hj (by omega)), if_pos (mIn_nI hj (by omega)), nI_clamp (by omega), flJ_u, nI_succ]
  · intro m
    dsimp only
    rw [f_J7_fill_d0a16_6, if_neg (nI_nlt (Nat.le_refl _) (by omega))]

