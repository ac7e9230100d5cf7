/-! ===== a state taken from another (class) ===== -/
def cpH (h : mH) (t b a n : Nat) : mH := (fun t' i k => if t' = t ∧ i = a ∧ k < n then h.1 t b k else h.1 t' i k, h.2)
theorem cpI_H (h : mH) (t b a n : Nat) : cpI h t b t a 0 0 n = cpH h t b a n := by
  unfold cpI cpH
  apply Prod.ext
  · funext t' i k
    dsimp only
    rw [Nat.zero_add, Nat.zero_add, Nat.sub_zero]
    by_cases z : t' = t ∧ i = a ∧ k < n
    · rw [if_pos z, if_pos ⟨z.1, z.2.1, Nat.zero_le _, z.2.2⟩]
    · rw [if_neg z, if_neg (fun y => z ⟨y.1, y.2.1, y.2.2.2⟩)]
  · rfl
theorem cpH_1 (h : mH) (t b a n t' i k : Nat) : (cpH h t b a n).1 t' i k = if t' = t ∧ i = a ∧ k < n then h.1 t b k else h.1 t' i k := rfl
theorem cpH_ne (h : mH) {t b a n t' i : Nat} (e : ¬ (t' = t ∧ i = a)) : (cpH h t b a n).1 t' i = h.1 t' i := by
  funext k
  exact if_neg (fun z => e ⟨z.1, z.2.1⟩)
theorem cpH_s (h : mH) {t b a n k : Nat} (hk : k < n) : (cpH h t b a n).1 t a k = h.1 t b k := if_pos ⟨rfl, rfl, hk⟩
def cp9 (h : mH) (a b : Nat) : mH := cpH (cpH (cpH (cpH (cpH (cpH (cpH (cpH (cpH h 33 b a 24) 34 b a 24) 35 b a 24) 36 b a 24) 37 b a 24) 38 b a 8) 39 b a 16) 40 b a 16) 41 b a 16
def tkH (h : mH) (a b : Nat) : mH := uI (uI (uI (uI (uI (uI (uI (cp9 h a b) 8 a 9 (h.1 8 b 9)) 8 a 10 (h.1 8 b 10)) 8 a 11 (h.1 8 b 11)) 8 a 12 (h.1 8 b 12)) 8 a 13 (h.1 8 b 13)) 8 a 14 (h.1 8 b 14)) 8 a 15 (h.1 8 b 15)
theorem cp9_ne (h : mH) {a b t i : Nat} (e : ¬ (i = a ∧ 33 ≤ t ∧ t ≤ 41)) : (cp9 h a b).1 t i = h.1 t i := by
  unfold cp9
  rw [cpH_ne _ (fun z => e ⟨z.2, by omega⟩), cpH_ne _ (fun z => e ⟨z.2, by omega⟩), cpH_ne _ (fun z => e ⟨z.2, by omega⟩), cpH_ne _ (fun z => e ⟨z.2, by omega⟩), cpH_ne _ (fun z => e ⟨z.2, by omega⟩), cpH_ne _ (fun z => e ⟨z.2, by omega⟩), cpH_ne _ (fun z => e ⟨z.2, by omega⟩), cpH_ne _ (fun z => e ⟨z.2, by omega⟩), cpH_ne _ (fun z => e ⟨z.2, by omega⟩)]
theorem tkH_8 (h : mH) (a b : Nat) {t i : Nat} (e : ¬ (t = 8 ∧ i = a)) : (tkH h a b).1 t i = (cp9 h a b).1 t i := by
  unfold tkH
  rw [uI_ne e, uI_ne e, uI_ne e, uI_ne e, uI_ne e, uI_ne e, uI_ne e]
theorem c_take (h : mH) {a b : Nat} (hab : b ≠ a) : f_X8_takeFrom a b h = some (tkH h a b) := by
  have e24 : (24 : Int32).toNatClampNeg = 24 := rfl
  have e0 : (0 : Int32).toNatClampNeg = 0 := rfl
  have e8 : (8 : Int32).toNatClampNeg = 8 := rfl
  have e16 : (16 : Int32).toNatClampNeg = 16 := rfl
  unfold f_X8_takeFrom
  simp only [mLet]
  rw [e0, e24, e8, e16]
  simp only [cpI_H]
  have k8 : ∀ s, (cp9 h a b).1 8 b s = h.1 8 b s := fun s => by rw [cp9_ne h (fun z => by omega)]
  have u8 : ∀ (g : mH) (s s' : Nat) (x : Int32), (uI g 8 a s x).1 8 b s' = g.1 8 b s' := fun g s s' x => by rw [uI_ne (fun z => hab z.2)]
  show some (uI (uI (uI (uI (uI (uI (uI (cp9 h a b) 8 a 9 _) 8 a 10 _) 8 a 11 _) 8 a 12 _) 8 a 13 _) 8 a 14 _) 8 a 15 _) = _
  simp only [u8, k8]
  rfl
theorem tkH_v (h : mH) {a b q k : Nat} (hab : b ≠ a) (hq : q < 5) (hk : k < 24) : (tkH h a b).1 (33 + q) a k = h.1 (33 + q) b k := by
  have n1 : ∀ (g : mH) (t n t' : Nat), (cpH g t b a n).1 t' b = g.1 t' b := fun g t n t' => cpH_ne _ (fun z => hab z.2)
  rw [tkH_8 _ _ _ (fun z => by omega)]
  unfold cp9
  have hq : q = 0 ∨ q = 1 ∨ q = 2 ∨ q = 3 ∨ q = 4 := by omega
  rcases hq with rfl | rfl | rfl | rfl | rfl
  · rw [cpH_ne _ (fun z => by omega), cpH_ne _ (fun z => by omega), cpH_ne _ (fun z => by omega), cpH_ne _ (fun z => by omega), cpH_ne _ (fun z => by omega), cpH_ne _ (fun z => by omega), cpH_ne _ (fun z => by omega), cpH_ne _ (fun z => by omega)]
    exact cpH_s _ hk
  · rw [cpH_ne _ (fun z => by omega), cpH_ne _ (fun z => by omega), cpH_ne _ (fun z => by omega), cpH_ne _ (fun z => by omega), cpH_ne _ (fun z => by omega), cpH_ne _ (fun z => by omega), cpH_ne _ (fun z => by omega)]
    refine (cpH_s _ hk).trans ?_
    simp only [n1]
  · rw [cpH_ne _ (fun z => by omega), cpH_ne _ (fun z => by omega), cpH_ne _ (fun z => by omega), cpH_ne _ (fun z => by omega), cpH_ne _ (fun z => by omega), cpH_ne _ (fun z => by omega)]
    refine (cpH_s _ hk).trans ?_
    simp only [n1]
  · rw [cpH_ne _ (fun z => by omega), cpH_ne _ (fun z => by omega), cpH_ne _ (fun z => by omega), cpH_ne _ (fun z => by omega), cpH_ne _ (fun z => by omega)]
    refine (cpH_s _ hk).trans ?_
    simp only [n1]
  · rw [cpH_ne _ (fun z => by omega), cpH_ne _ (fun z => by omega), cpH_ne _ (fun z => by omega), cpH_ne _ (fun z => by omega)]
    refine (cpH_s _ hk).trans ?_
    simp only [n1]
theorem tkH_s (h : mH) {a b k : Nat} (hab : b ≠ a) (hk : k < 8) : (tkH h a b).1 38 a k = h.1 38 b k := by
  have n1 : ∀ (g : mH) (t n t' : Nat), (cpH g t b a n).1 t' b = g.1 t' b := fun g t n t' => cpH_ne _ (fun z => hab z.2)
  rw [tkH_8 _ _ _ (fun z => by omega)]
  unfold cp9
  rw [cpH_ne _ (fun z => by omega), cpH_ne _ (fun z => by omega), cpH_ne _ (fun z => by omega)]
  refine (cpH_s _ hk).trans ?_
  simp only [n1]
theorem tkH_e (h : mH) {a b q k : Nat} (hab : b ≠ a) (hq : q < 3) (hk : k < 16) : (tkH h a b).1 (39 + q) a k = h.1 (39 + q) b k := by
  have n1 : ∀ (g : mH) (t n t' : Nat), (cpH g t b a n).1 t' b = g.1 t' b := fun g t n t' => cpH_ne _ (fun z => hab z.2)
  rw [tkH_8 _ _ _ (fun z => by omega)]
  unfold cp9
  have hq : q = 0 ∨ q = 1 ∨ q = 2 := by omega
  rcases hq with rfl | rfl | rfl
  · rw [cpH_ne _ (fun z => by omega), cpH_ne _ (fun z => by omega)]
    refine (cpH_s _ hk).trans ?_
    simp only [n1]
  · rw [cpH_ne _ (fun z => by omega)]
    refine (cpH_s _ hk).trans ?_
    simp only [n1]
  · refine (cpH_s _ hk).trans ?_
    simp only [n1]
theorem tkH_c (h : mH) {a b k : Nat} (h9 : 9 ≤ k) (h15 : k ≤ 15) : (tkH h a b).1 8 a k = h.1 8 b k := by
  unfold tkH
  rw [uI3, uI3, uI3, uI3, uI3, uI3, uI3]
  have hk : k = 9 ∨ k = 10 ∨ k = 11 ∨ k = 12 ∨ k = 13 ∨ k = 14 ∨ k = 15 := by omega
  rcases hk with rfl | rfl | rfl | rfl | rfl | rfl | rfl <;> simp
theorem tkH_o (h : mH) {a b t i : Nat} (e : ¬ (i = a ∧ (t = 8 ∨ (33 ≤ t ∧ t ≤ 41)))) : (tkH h a b).1 t i = h.1 t i := by
  rw [tkH_8 _ _ _ (fun z => e ⟨z.2, Or.inl z.1⟩), cp9_ne _ (fun z => e ⟨z.1, Or.inr z.2⟩)]
/-- the state that is taken is the one it was taken from -/
theorem RS.take {h : mH} {a b n : Nat} {M : mM} (R : RS h b n M) (hab : b ≠ a) (h24 : n ≤ 24) : RS (tkH h a b) a n M := by
  obtain ⟨r1, r2, ⟨m, m1, m2, m3, m4⟩, r4, r5⟩ := R
  refine ⟨fun q hq f hf => by rw [tkH_v h hab hq (by omega)]; exact r1 q hq f hf, fun r hr => by rw [tkH_s h hab hr]; exact r2 r hr, ⟨m, m1, by rw [tkH_c h (by omega) (by omega)]; exact m2, m3, fun q hq k hk => by rw [tkH_e h hab hq (by omega)]; exact m4 q hq k hk⟩, ?_, ?_⟩
  · rw [tkH_c h (by omega) (by omega), tkH_c h (by omega) (by omega), tkH_c h (by omega) (by omega), tkH_c h (by omega) (by omega)]
    exact r4
  · rw [tkH_c h (by omega) (by omega), tkH_c h (by omega) (by omega)]
    exact r5
