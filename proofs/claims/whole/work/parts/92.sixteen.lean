/-! ===== a register has at most sixteen fields ===== -/
theorem lsP_or (p q : Nat → Bool) : ∀ n, (lsP (fun f => p f || q f) n).length ≤ (lsP p n).length + (lsP q n).length
  | 0 => Nat.zero_le _
  | n + 1 => by
    have ih := lsP_or p q n
    rw [lsP_succ, lsP_succ, lsP_succ]
    cases hp : p n <;> cases hq : q n
    · rw [if_neg (by simp), if_neg (by simp), if_neg (by simp)]
      exact ih
    · rw [if_pos (by simp), if_neg (by simp), if_pos rfl, List.length_append, List.length_append]
      show _ + 1 ≤ _ + (_ + 1)
      omega
    · rw [if_pos (by simp), if_pos rfl, if_neg (by simp), List.length_append, List.length_append]
      show _ + 1 ≤ _ + 1 + _
      omega
    · rw [if_pos (by simp), if_pos rfl, if_pos rfl, List.length_append, List.length_append, List.length_append]
      show _ + 1 ≤ _ + 1 + (_ + 1)
      omega
theorem lsP_nil {q : Nat → Bool} : ∀ n, (∀ f, f < n → q f = false) → (lsP q n).length = 0
  | 0, _ => rfl
  | n + 1, h => by
    rw [lsP_succ, h n (by omega), if_neg (by decide)]
    exact lsP_nil n (fun f hf => h f (by omega))
theorem lsP_one {q : Nat → Bool} : ∀ n, (∀ f g, f < n → g < n → q f = true → q g = true → f = g) → (lsP q n).length ≤ 1
  | 0, _ => Nat.zero_le _
  | n + 1, h => by
    rw [lsP_succ]
    by_cases z : q n = true
    · rw [if_pos z, List.length_append, lsP_nil n (fun f hf => by
        cases y : q f
        · rfl
        · have := h f n (by omega) (by omega) y z
          omega)]
      exact Nat.le_refl _
    · rw [if_neg z]
      exact lsP_one n (fun f g hf hg => h f g (by omega) (by omega))
theorem low_bit {n f : Nat} {B : mM} (o : okF n B) (hf : f < n) : (B.1 47 f).toNatClampNeg < 16 ∧ bt (mskM B f) (B.1 47 f).toNatClampNeg = true := by
  obtain ⟨w, l, h1, h2, h3, h4, h5⟩ := (o.2.2 f hf).2.1
  have e : (B.1 47 f).toNatClampNeg = l := by rw [h5, nI_clamp (by omega)]
  rw [e]
  refine ⟨by omega, ?_⟩
  unfold mskM oneM
  rw [h4, h5, b_shl l (by omega) _ (show l < 32 by omega), decide_eq_true (Nat.le_refl l), Nat.sub_self, Bool.true_and]
  have hw : w = 1 ∨ w = 2 ∨ w = 3 ∨ w = 4 ∨ w = 5 ∨ w = 6 ∨ w = 7 ∨ w = 8 := by omega
  rcases hw with rfl | rfl | rfl | rfl | rfl | rfl | rfl | rfl <;> decide
theorem six_k {n : Nat} {B : mM} (o : okF n B) (dj : djM n B) (r : Nat) : ∀ k, (lsP (fun f => inR B r f && decide ((B.1 47 f).toNatClampNeg < k)) n).length ≤ k
  | 0 => by
    rw [lsP_nil n (fun f _ => by rw [decide_eq_false (by omega), Bool.and_false])]
    exact Nat.le_refl _
  | k + 1 => by
    have ih := six_k o dj r k
    have e : (fun f => inR B r f && decide ((B.1 47 f).toNatClampNeg < k + 1)) = (fun f => (inR B r f && decide ((B.1 47 f).toNatClampNeg < k)) || (inR B r f && decide ((B.1 47 f).toNatClampNeg = k))) := by
      funext f
      rw [← Bool.and_or_distrib_left]
      congr 1
      by_cases z : (B.1 47 f).toNatClampNeg < k
      · rw [decide_eq_true z, decide_eq_true (by omega)]
        rfl
      · rw [decide_eq_false z, Bool.false_or]
        by_cases y : (B.1 47 f).toNatClampNeg = k
        · rw [decide_eq_true y, decide_eq_true (by omega)]
        · rw [decide_eq_false y, decide_eq_false (by omega)]
    rw [e]
    refine Nat.le_trans (lsP_or _ _ n) ?_
    have one : (lsP (fun f => inR B r f && decide ((B.1 47 f).toNatClampNeg = k)) n).length ≤ 1 := by
      refine lsP_one n (fun f g hf hg h1 h2 => ?_)
      rw [Bool.and_eq_true] at h1 h2
      have f1 : B.1 46 f = nI r := of_decide_eq_true h1.1
      have g1 : B.1 46 g = nI r := of_decide_eq_true h2.1
      have f2 := of_decide_eq_true h1.2
      have g2 := of_decide_eq_true h2.2
      by_cases z : f = g
      · exact z
      · have d := dj f g hf hg z (f1.trans g1.symm)
        have b1 := (low_bit o hf).2
        have b2 := (low_bit o hg).2
        rw [f2] at b1
        rw [g2] at b2
        have y : bt (mskM B f &&& mskM B g) k = true := by rw [b_and, b1, b2]; rfl
        rw [d, b_0] at y
        cases y
    omega
theorem sixteen {n : Nat} {B : mM} (o : okF n B) (dj : djM n B) (r : Nat) : (lsP (inR B r) n).length ≤ 16 := by
  have := six_k o dj r 16
  rw [lsP_congr (p := fun f => inR B r f && decide ((B.1 47 f).toNatClampNeg < 16)) (q := inR B r) n (fun f hf => by rw [decide_eq_true (low_bit o hf).1, Bool.and_true])] at this
  exact this
