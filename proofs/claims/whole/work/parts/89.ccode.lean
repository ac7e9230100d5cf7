/-! ===== CODE, the class's side: an act's whole code ===== -/
def stOK (B : mM) (n P : Nat) : Prop := B.1 59 P = 3 ∨ ((B.1 59 P = 0 ∨ B.1 59 P = 1 ∨ B.1 59 P = 2) ∧ ∃ f, f < n ∧ B.1 60 P = nI f)
/-- what the class reads when it makes act a's code -/
def BR (h : mH) (B : mM) (n a s : Nat) : Prop := RF h n B ∧ RLw h n B ∧ h.1 1 0 7 = B.1 12 22 ∧ h.1 0 a 5 = nI s ∧ ∀ j, j < s → h.1 20 a j = B.1 59 (12 * a + j) ∧ h.1 21 a j = B.1 60 (12 * a + j) ∧ h.1 22 a j = B.1 61 (12 * a + j) ∧ h.1 23 a j = B.1 62 (12 * a + j)
theorem BR.z {h h' : mH} {B : mM} {n a b s : Nat} (r : BR h B n a s) (e : Fz b h h') : BR h' B n a s := by
  obtain ⟨r1, r2, r3, r4, r5⟩ := r
  refine ⟨r1.z e, r2.z e, by rw [e.1 1 0 (by omega) (by omega)]; exact r3, by rw [e.1 0 a (by omega) (by omega)]; exact r4, fun j hj => ?_⟩
  rw [e.1 20 a (by omega) (by omega), e.1 21 a (by omega) (by omega), e.1 22 a (by omega) (by omega), e.1 23 a (by omega) (by omega)]
  exact r5 j hj
theorem c_addStep {h : mH} {a n s j : Nat} {B : mM} {l : List (Nat → Int32)} (R : BR h B n a s) (hs : s ≤ 12) (hj : j < s) (ok : stOK B n (12 * a + j)) (k0 : ¬ B.1 59 (12 * a + j) = 0) (C : CC h a l) (hl : l.length + 2 ≤ 48) : ∃ h', f_X3_addStep a a (nI j) h = some h' ∧ CC h' a (l ++ stB B (12 * a + j)) ∧ Fk a h h' := by
  obtain ⟨F, W, h7, r4, r5⟩ := R
  have h24 := F.1
  obtain ⟨s1, s2, s3, s4⟩ := r5 j hj
  unfold f_X3_addStep stB
  rw [if_pos (mIn_nI (show j < 12 by omega) (by omega)), nI_clamp (by omega), s1, s2, s3]
  rcases ok with k3 | ⟨kk, f, hf, ef⟩
  · rw [if_pos k3, k3, if_neg (by decide), if_neg (by decide)]
    obtain ⟨h1, e1, C1, F1⟩ := c_add C (by omega) 3 (B.1 61 (12 * a + j)) (-2) (-2) (-2) (-2)
    rw [e1, Option.bind_some]
    exact ⟨h1, rfl, C1, F1⟩
  · have kk := kk.resolve_left k0
    have n3 : ¬ B.1 59 (12 * a + j) = 3 := fun z => by rw [z] at kk; rcases kk with y | y <;> exact absurd y (by decide)
    have e1 : f_X1_hasField (nI f) h = some (1, h) := by
      unfold f_X1_hasField
      rw [if_neg (nI_pos (by omega)), F.2.2.1, if_pos (nI_lt hf (by omega))]
    rw [if_neg n3, ef, e1, Option.bind_some, if_neg (show ¬ (1 : Int32) = 0 by decide), if_pos (mIn_nI (show f < 24 by omega) (by omega)), nI_clamp (n := f) (by omega), sf_eq (by omega) ef]
    dsimp only
    rw [s1, (F.2.2.2 f hf).1.1, (F.2.2.2 f hf).1.2.1, (F.2.2.2 f hf).2.2.1, s4]
    rcases kk with k1 | k2
    · rw [if_pos k1, if_pos k1]
      obtain ⟨h1, e1, C1, F1⟩ := c_add C (by omega) 2 (B.1 46 f) (-2) (mskM B f) (B.1 61 (12 * a + j) <<< (B.1 47 f &&& 31)) (B.1 62 (12 * a + j))
      rw [e1, Option.bind_some]
      exact ⟨h1, rfl, C1, F1⟩
    · rw [k2, if_neg (by decide), if_neg (by decide), if_pos rfl]
      obtain ⟨h1, e1, C1, F1⟩ := c_add C (by omega) 0 (B.1 46 f) (-2) (-2) (-2) (-2)
      obtain ⟨h2, e2, C2, F2⟩ := c_add C1 (by rw [List.length_append]; show _ + 1 < 48; omega) 4 (nI f) (-2) (-2) (-2) (-2)
      rw [e1, Option.bind_some, e2, Option.bind_some]
      refine ⟨h2, rfl, ?_, F1.tr F2⟩
      rw [List.append_assoc] at C2
      exact C2
theorem opG_len (B : mM) (p i : Nat) : (opG B p i).length ≤ (if p < i then 4 else 0) := by
  unfold opG
  split
  · exact (grB_len B p i).2
  · exact Nat.le_refl _
theorem c_mk12 {a n s : Nat} {B : mM} (hs : s ≤ 12) (dj : djM n B) (hreg : ∀ f, f < n → ∃ r, r < 8 ∧ B.1 46 f = nI r) (hh : ∀ f, f < n → B.1 53 f = -1 ∨ ¬ B.1 53 f < 0) (ok : ∀ j, j < s → stOK B n (12 * a + j)) : ∀ d j, j + d = s → ∀ h p l, BR h B n a s → 12 * a ≤ p → p ≤ 12 * a + j → GS h a B n p (12 * a + j) → CC h a l → l.length ≤ 4 * (p - 12 * a) → ∀ m, d < m → ∃ h', f_X3_makeFrom_12 (fun _ h13 => (f_X3_endGroup a h13).bind fun r14 => some r14) a a m (nI j) h = some h' ∧ CC h' a (l ++ cdS B d p (12 * a + j)) ∧ Fz a h h' := by
  intro d
  induction d with
  | zero =>
    intro j hj h p l R hp hpj G C hl m hm
    cases m with
    | zero => omega
    | succ m =>
      obtain ⟨h1, e1, C1, z1, F1⟩ := c_endGroup R.1 dj hreg hh R.2.2.1 C (fun z => by omega) G
      refine ⟨h1, ?_, C1, F1⟩
      rw [f_X3_makeFrom_12, R.2.2.2.1, if_neg (nI_nlt (by omega) (by omega)), e1, Option.bind_some]
  | succ d ih =>
    intro j hj h p l R hp hpj G C hl m hm
    cases m with
    | zero => omega
    | succ m =>
      have hjs : j < s := by omega
      obtain ⟨s1, s2, s3, s4⟩ := R.2.2.2.2 j hjs
      have h24 := R.1.1
      have lo := opG_len B p (12 * a + j)
      have lo2 : (l ++ opG B p (12 * a + j)).length ≤ 4 * (12 * a + j - 12 * a) := by
        rw [List.length_append]
        by_cases z : p < 12 * a + j
        · rw [if_pos z] at lo
          omega
        · rw [if_neg z] at lo
          omega
      rw [f_X3_makeFrom_12, R.2.2.2.1, if_pos (nI_lt hjs (by omega)), if_pos (mIn_nI (show j < 12 by omega) (by omega)), nI_clamp (by omega), s1, s2, ← nI_succ]
      by_cases k0 : B.1 59 (12 * a + j) = 0
      · have okj := ok j hjs
        obtain ⟨f, hf, ef⟩ : ∃ f, f < n ∧ B.1 60 (12 * a + j) = nI f := by
          rcases okj with z | z
          · rw [k0] at z
            exact absurd z (by decide)
          · exact z.2
        rw [if_pos k0, ef, c_joins R.1 R.2.1 G k0 hf ef, Option.bind_some]
        dsimp only
        rw [s2, s3, ef]
        cases hq : (decide (p < 12 * a + j) && joM B p (12 * a + j))
        · rw [if_pos (show b2i false = 0 from rfl)]
          obtain ⟨h1, e1, C1, z1, F1⟩ := c_endGroup R.1 dj hreg hh R.2.2.1 C (fun z => by omega) G
          have R1 := R.z F1
          obtain ⟨t1, t2, t3, t4⟩ := R1.2.2.2.2 j hjs
          obtain ⟨h2, e2, C2, G2, F2⟩ := c_join R1.1 C1 (p := 12 * a + j) (i := 12 * a + j) (Or.inl ⟨rfl, z1⟩) hf ef (fun z => absurd z (by omega))
          obtain ⟨h3, e3, C3, F3⟩ := ih (j + 1) (by omega) h2 (12 * a + j) _ (R1.z F2) (by omega) (by omega) G2 C2 lo2 m (by omega)
          rw [e1, Option.bind_some, t2, t3, ef, e2, Option.bind_some]
          refine ⟨h3, e3, ?_, (F1.tr F2).tr F3⟩
          rw [List.append_assoc] at C3
          unfold cdS
          rw [hq, if_neg (by decide), if_pos k0]
          exact C3
        · rw [if_neg (by decide)]
          rw [Bool.and_eq_true] at hq
          have hr : B.1 46 f = B.1 46 (sfM B p) := by
            have z := hq.2
            unfold joM at z
            rw [Bool.and_eq_true, Bool.and_eq_true, sf_eq (by omega) ef] at z
            exact of_decide_eq_true z.1.2
          obtain ⟨h2, e2, C2, G2, F2⟩ := c_join R.1 C G hf ef (fun _ => hr)
          obtain ⟨h3, e3, C3, F3⟩ := ih (j + 1) (by omega) h2 p l (R.z F2) hp (by omega) G2 C2 hl m (by omega)
          rw [e2, Option.bind_some]
          refine ⟨h3, e3, ?_, F2.tr F3⟩
          unfold cdS
          rw [if_pos (by rw [Bool.and_eq_true]; exact hq)]
          exact C3
      · rw [if_neg k0]
        obtain ⟨h1, e1, C1, z1, F1⟩ := c_endGroup R.1 dj hreg hh R.2.2.1 C (fun z => by omega) G
        have R1 := R.z F1
        obtain ⟨h2, e2, C2, F2⟩ := c_addStep R1 hs hjs (ok j hjs) k0 C1 (by omega)
        have sl := (stB_len B (12 * a + j)).2
        obtain ⟨h3, e3, C3, F3⟩ := ih (j + 1) (by omega) h2 (12 * a + j + 1) _ (R1.z F2.z) (by omega) (by omega) (Or.inl ⟨rfl, by rw [F2.2.1 2 (by omega)]; exact z1⟩) C2 (by rw [List.length_append]; omega) m (by omega)
        rw [e1, Option.bind_some, e2, Option.bind_some]
        refine ⟨h3, e3, ?_, (F1.tr F2.z).tr F3⟩
        rw [List.append_assoc, List.append_assoc] at C3
        unfold cdS
        rw [if_neg (fun z => by
          rw [Bool.and_eq_true] at z
          have y := z.2
          unfold joM at y
          rw [Bool.and_eq_true, Bool.and_eq_true] at y
          exact k0 (of_decide_eq_true y.1.1)), if_neg k0]
        exact C3
theorem c_makeFrom {a n s : Nat} {B : mM} {h : mH} (hs : s ≤ 12) (hs0 : B.1 58 a = nI s) (dj : djM n B) (hreg : ∀ f, f < n → ∃ r, r < 8 ∧ B.1 46 f = nI r) (hh : ∀ f, f < n → B.1 53 f = -1 ∨ ¬ B.1 53 f < 0) (ok : ∀ j, j < s → stOK B n (12 * a + j)) (R : BR h B n a s) : ∃ h', f_X3_makeFrom a a h = some h' ∧ CC h' a (cdM B a) ∧ Fz a h h' := by
  have F0 : Fz a h (uI (uI h 3 a 1 0) 3 a 2 0) := (Fz.u a _ _ _).tr (Fz.u a _ _ _)
  have C0 : CC (uI (uI h 3 a 1 0) 3 a 2 0) a [] := ⟨by simp, by rw [uI3, if_neg (by omega), uI3, if_pos rfl]; rfl, fun i w hi => absurd hi (Nat.not_lt_zero i)⟩
  obtain ⟨h1, e1, C1, F1⟩ := c_mk12 hs dj hreg hh ok s 0 (by omega) _ (12 * a) [] (R.z F0) (by omega) (by omega) (Or.inl ⟨rfl, by rw [uI3, if_pos rfl]⟩) C0 (by simp) mFu (mFu_lt (by omega))
  have e2 : f_X3_makeFrom a a h = some h1 := by
    rw [nI_0] at e1
    unfold f_X3_makeFrom
    simp only [mLet]
    exact e1
  refine ⟨h1, e2, ?_, F0.tr F1⟩
  unfold cdM
  rw [hs0, nI_clamp (by omega)]
  exact C1
