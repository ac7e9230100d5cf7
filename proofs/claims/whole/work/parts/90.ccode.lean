/-! ===== CODE, the class's side: all acts' code ===== -/
def AB (h : mH) (B : mM) (n na : Nat) : Prop := ∀ a, a < na → ∃ s, s ≤ 12 ∧ B.1 58 a = nI s ∧ BR h B n a s ∧ ∀ j, j < s → stOK B n (12 * a + j)
/-- only code has changed -/
def Fw (h h' : mH) : Prop := (∀ t i, t ≠ 3 → t ≠ 32 → h'.1 t i = h.1 t i) ∧ h'.2 = h.2
theorem Fz.w {a : Nat} {h h' : mH} (f : Fz a h h') : Fw h h' := ⟨fun t i p q => f.1 t i (by omega) (by omega), f.2⟩
theorem Fw.tr {a b c : mH} (h1 : Fw a b) (h2 : Fw b c) : Fw a c := ⟨fun t i p q => (h2.1 t i p q).trans (h1.1 t i p q), h2.2.trans h1.2⟩
theorem AB.z {h h' : mH} {B : mM} {n na b : Nat} (r : AB h B n na) (e : Fz b h h') : AB h' B n na := fun a ha => by
  obtain ⟨s, s1, s2, s3, s4⟩ := r a ha
  exact ⟨s, s1, s2, s3.z e, s4⟩
theorem c_mc10 {n na : Nat} {B : mM} (h6 : na ≤ 6) (dj : djM n B) (hreg : ∀ f, f < n → ∃ r, r < 8 ∧ B.1 46 f = nI r) (hh : ∀ f, f < n → B.1 53 f = -1 ∨ ¬ B.1 53 f < 0) (k : Int32 → mH → Option mH) : ∀ d a, a + d = na → ∀ h, h.1 1 0 6 = nI na → AB h B n na → (∀ b, b < a → CC h b (cdM B b)) → ∀ m, d < m → ∃ h', f_X1_makeCode_10 k m (nI a) h = k (nI na) h' ∧ (∀ b, b < na → CC h' b (cdM B b)) ∧ Fw h h' := by
  intro d
  induction d with
  | zero =>
    intro a ha h e6 A C m hm
    cases m with
    | zero => omega
    | succ m =>
      have e : a = na := by omega
      subst e
      refine ⟨h, ?_, C, ⟨fun _ _ _ _ => rfl, rfl⟩⟩
      rw [f_X1_makeCode_10, e6, if_neg (nI_nlt (Nat.le_refl _) (by omega))]
  | succ d ih =>
    intro a ha h e6 A C m hm
    cases m with
    | zero => omega
    | succ m =>
      obtain ⟨s, s1, s2, s3, s4⟩ := A a (by omega)
      obtain ⟨h1, e1, C1, F1⟩ := c_makeFrom s1 s2 dj hreg hh s4 s3
      obtain ⟨h2, e2, C2, F2⟩ := ih (a + 1) (by omega) h1 (by rw [F1.1 1 0 (by omega) (by omega)]; exact e6) (A.z F1) (fun b hb => by
        by_cases z : b = a
        · subst z
          exact C1
        · exact (C b (by omega)).to (F1.1 3 b (by omega) (by omega)) (F1.1 32 b (by omega) (by omega))) m (by omega)
      refine ⟨h2, ?_, C2, F1.w.tr F2⟩
      rw [f_X1_makeCode_10, e6, if_pos (nI_lt (by omega) (by omega)), if_pos (mIn_nI (show a < 6 by omega) (by omega)), nI_clamp (by omega), e1, Option.bind_some, ← nI_succ]
      exact e2
/-- code that is made, if the book says so, is that of the book -/
def codeOK (h : mH) (B : mM) (na : Nat) : Prop := h.1 1 0 9 = 0 ∨ ∀ b, b < na → CC h b (cdM B b)
theorem c_makeCode {n na : Nat} {B : mM} {h : mH} (h6 : na ≤ 6) (dj : djM n B) (hreg : ∀ f, f < n → ∃ r, r < 8 ∧ B.1 46 f = nI r) (hh : ∀ f, f < n → B.1 53 f = -1 ∨ ¬ B.1 53 f < 0) (e6 : h.1 1 0 6 = nI na) (A : AB h B n na) (ok : codeOK h B na) : ∃ h', f_X1_makeCode h = some h' ∧ AL h' B na ∧ (∀ t i, t ≠ 3 → t ≠ 32 → t ≠ 1 → h'.1 t i = h.1 t i) ∧ (∀ s, s ≠ 9 → h'.1 1 0 s = h.1 1 0 s) ∧ h'.2 = h.2 := by
  unfold f_X1_makeCode
  by_cases q : h.1 1 0 9 = 0
  · rw [if_pos q]
    obtain ⟨h1, e1, C1, F1⟩ := c_mc10 h6 dj hreg hh (fun _ h6 => some (uI h6 1 0 9 1)) na 0 (by omega) h e6 A (fun b hb => absurd hb (Nat.not_lt_zero b)) mFu (mFu_lt (by omega))
    rw [nI_0] at e1
    refine ⟨uI h1 1 0 9 1, e1, ⟨h6, ?_, fun b hb => ?_⟩, fun t i p1 p2 p3 => ?_, fun s hs => ?_, F1.2⟩
    · rw [uI3, if_neg (by omega), F1.1 1 0 (by omega) (by omega)]
      exact e6
    · exact (C1 b hb).to (uI_ne (fun z => by omega)) (uI_ne (fun z => by omega))
    · rw [uI_ne (fun z => p3 z.1)]
      exact F1.1 t i p1 p2
    · rw [uI3, if_neg hs, F1.1 1 0 (by omega) (by omega)]
  · rw [if_neg q]
    exact ⟨h, rfl, ⟨h6, e6, ok.resolve_left q⟩, fun _ _ _ _ _ => rfl, fun _ _ => rfl, rfl⟩
