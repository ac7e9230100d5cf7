/-! ===== CODE, the class's side: groups ===== -/
/-- only act a's code has changed -/
def Fz (a : Nat) (h h' : mH) : Prop := (∀ t i, ¬ (t = 32 ∧ i = a) → ¬ (t = 3 ∧ i = a) → h'.1 t i = h.1 t i) ∧ h'.2 = h.2
theorem Fz.rf (a : Nat) (h : mH) : Fz a h h := ⟨fun _ _ _ _ => rfl, rfl⟩
theorem Fz.tr {k : Nat} {a b c : mH} (h1 : Fz k a b) (h2 : Fz k b c) : Fz k a c := ⟨fun t i p q => (h2.1 t i p q).trans (h1.1 t i p q), h2.2.trans h1.2⟩
theorem Fk.z {a : Nat} {h h' : mH} (f : Fk a h h') : Fz a h h' := ⟨f.1, f.2.2⟩
theorem Fz.u (a : Nat) (h : mH) (s : Nat) (x : Int32) : Fz a h (uI h 3 a s x) := ⟨fun t i _ q => uI_ne (fun z => q z), rfl⟩
theorem RF.z {a : Nat} {h h' : mH} {n : Nat} {M : mM} (r : RF h n M) (e : Fz a h h') : RF h' n M := by
  obtain ⟨h24, x, b, c⟩ := r
  refine ⟨h24, x, by rw [e.1 1 0 (by omega) (by omega)]; exact b, fun g hg => ?_⟩
  rw [e.1 6 g (by omega) (by omega)]
  exact c g hg
theorem RLw.z {a : Nat} {h h' : mH} {n : Nat} {M : mM} (r : RLw h n M) (e : Fz a h h') : RLw h' n M := by
  obtain ⟨w, h1, h2, h3, h4⟩ := r
  refine ⟨w, h1, h2, by rw [e.1 1 0 (by omega) (by omega)]; exact h3, fun l hl => ?_⟩
  rw [e.1 7 l (by omega) (by omega)]
  exact h4 l hl
/-- the open group of steps p to i -/
def GS (h : mH) (a : Nat) (B : mM) (n p i : Nat) : Prop := (p = i ∧ h.1 3 a 2 = 0) ∨ (p < i ∧ ¬ h.1 3 a 2 = 0 ∧ (∀ f, f < 24 → bt (h.1 3 a 2) f = anN (fun d => decide (B.1 60 (p + d) = nI f)) (i - p)) ∧ h.1 3 a 3 = B.1 46 (sfM B p) ∧ h.1 3 a 4 = orI (gmP B p) (i - p) ∧ h.1 3 a 5 = orI (ptP B p) (i - p) ∧ ∀ q, p ≤ q → q < i → ∃ f, f < n ∧ B.1 60 q = nI f ∧ B.1 46 f = B.1 46 (sfM B p))
theorem cc_u {h : mH} {a : Nat} {l : List (Nat → Int32)} (C : CC h a l) {s : Nat} (hs : s ≠ 1) (x : Int32) : CC (uI h 3 a s x) a l := ⟨C.1, by rw [uI3, if_neg (fun z => hs z.symm)]; exact C.2.1, fun i w hi hw => by rw [uI_ne (fun z => by omega)]; exact C.2.2 i w hi hw⟩
theorem c_rw {h : mH} {a : Nat} {l : List (Nat → Int32)} (C : CC h a l) (hl : l.length + 4 ≤ 48) (x k : Int32) (b : Bool) : ∃ h', f_X3_addReadAndWrite a x k (b2i b) h = some h' ∧ CC h' a (l ++ (if b = true then [o6 5 (-2) (-2) (-2) (-2) (-2), o6 0 x (-2) (-2) (-2) (-2), o6 1 x 1 k (h.1 3 a 5) (-2), o6 6 (-2) (-2) (-2) (-2) (-2)] else [o6 0 x (-2) (-2) (-2) (-2), o6 1 x 1 k (h.1 3 a 5) (-2)])) ∧ Fk a h h' := by
  unfold f_X3_addReadAndWrite f_X3_addReadAndWrite_j19
  cases b
  · obtain ⟨h1, e1, C1, F1⟩ := c_add C (by omega) 0 x (-2) (-2) (-2) (-2)
    obtain ⟨h2, e2, C2, F2⟩ := c_add C1 (by rw [List.length_append]; show _ + 1 < 48; omega) 1 x 1 k (h.1 3 a 5) (-2)
    refine ⟨h2, ?_, ?_, F1.tr F2⟩
    · rw [if_pos (show b2i false = 0 from rfl), e1, Option.bind_some, F1.2.1 5 (by omega), e2, Option.bind_some, if_pos (show b2i false = 0 from rfl)]
    · rw [if_neg (by decide)]
      rw [List.append_assoc] at C2
      exact C2
  · obtain ⟨h0, e0, C0, F0⟩ := c_add C (by omega) 5 (-2) (-2) (-2) (-2) (-2)
    obtain ⟨h1, e1, C1, F1⟩ := c_add C0 (by rw [List.length_append]; show _ + 1 < 48; omega) 0 x (-2) (-2) (-2) (-2)
    obtain ⟨h2, e2, C2, F2⟩ := c_add C1 (by rw [List.length_append, List.length_append]; show _ + 1 + 1 < 48; omega) 1 x 1 k (h.1 3 a 5) (-2)
    obtain ⟨h3, e3, C3, F3⟩ := c_add C2 (by rw [List.length_append, List.length_append, List.length_append]; show _ + 1 + 1 + 1 < 48; omega) 6 (-2) (-2) (-2) (-2) (-2)
    refine ⟨h3, ?_, ?_, ((F0.tr F1).tr F2).tr F3⟩
    · rw [if_neg (by decide), e0, Option.bind_some, e1, Option.bind_some, F1.2.1 5 (by omega), F0.2.1 5 (by omega), e2, Option.bind_some, if_neg (by decide), e3, Option.bind_some]
    · rw [if_pos rfl]
      rw [List.append_assoc, List.append_assoc, List.append_assoc] at C3
      exact C3
theorem c_endGroup {h : mH} {a n p i : Nat} {B : mM} {l : List (Nat → Int32)} (F : RF h n B) (dj : djM n B) (hreg : ∀ f, f < n → ∃ r, r < 8 ∧ B.1 46 f = nI r) (hh : ∀ f, f < n → B.1 53 f = -1 ∨ ¬ B.1 53 f < 0) (h7 : h.1 1 0 7 = B.1 12 22) (C : CC h a l) (hl : p < i → l.length + 4 ≤ 48) (G : GS h a B n p i) : ∃ h', f_X3_endGroup a h = some h' ∧ CC h' a (l ++ opG B p i) ∧ h'.1 3 a 2 = 0 ∧ Fz a h h' := by
  have h24 := F.1
  have en : (B.1 12 2).toNatClampNeg = n := by rw [F.2.1, nI_clamp (by omega)]
  unfold f_X3_endGroup opG
  rcases G with ⟨g1, g2⟩ | ⟨g1, g2, g3, g4, g5, g6, g7⟩
  · rw [if_pos g2, if_neg (by omega), List.append_nil]
    exact ⟨h, rfl, C, g2, Fz.rf _ _⟩
  · have hl := hl g1
    obtain ⟨f0, f1, f2, f3⟩ := g7 p (Nat.le_refl _) g1
    obtain ⟨r, hr, er⟩ := hreg f0 f1
    have ex : B.1 46 (sfM B p) = nI r := by rw [← f3, er]
    have C2 : CC (uI h 3 a 2 0) a l := cc_u C (by omega) 0
    have F2 : RF (uI h 3 a 2 0) n B := F.z (Fz.u a h 2 0)
    have k3 : (uI h 3 a 2 0).1 3 a 3 = nI r := by rw [uI3, if_neg (by omega), g4, ex]
    have k4 : (uI h 3 a 2 0).1 3 a 4 = orI (gmP B p) (i - p) := by rw [uI3, if_neg (by omega), g5]
    have k5 : (uI h 3 a 2 0).1 3 a 5 = orI (ptP B p) (i - p) := by rw [uI3, if_neg (by omega), g6]
    have k2 : (uI h 3 a 2 0).1 3 a 2 = 0 := by rw [uI3, if_pos rfl]
    have k7 : (uI h 3 a 2 0).1 1 0 7 = B.1 12 22 := by rw [uI_ne (fun z => by omega), h7]
    rw [if_neg g2, if_pos g1]
    simp only [mLet]
    rw [k3, c_bitsOfKept F2 r, Option.bind_some]
    dsimp only
    rw [k4, keep_eq h24 en dj (fun q q1 q2 => by obtain ⟨f, z1, z2, z3⟩ := g7 q q1 q2; exact ⟨f, z1, z2, by rw [z3, ex]⟩), k5, c_isShadowed F2, Option.bind_some]
    dsimp only
    rw [k7, k5, c_hasHandlers F2 hh, Option.bind_some]
    dsimp only
    unfold grB
    rw [ex, en]
    generalize orI (keP B (nI r) (shM B (nI r)) p i) n = kp
    by_cases q1 : kp = 0
    · rw [if_pos q1, if_pos q1]
      obtain ⟨h1, e1, C1, F1⟩ := c_add C2 (by omega) 1 (nI r) 0 0 (orI (ptP B p) (i - p)) (-2)
      rw [e1, Option.bind_some]
      exact ⟨h1, rfl, C1, by rw [F1.2.1 2 (by omega), k2], (Fz.u a h 2 0).tr F1.z⟩
    · rw [if_neg q1, if_neg q1]
      cases shM B (nI r)
      · rw [if_pos (show b2i false = 0 from rfl), if_neg (show ¬ (false = true) by decide)]
        obtain ⟨h1, e1, C1, F1⟩ := c_rw C2 hl (nI r) kp (decide (B.1 12 22 = 1) && hhM B)
        rw [k5] at C1
        refine ⟨h1, ?_, ?_, by rw [F1.2.1 2 (by omega), k2], (Fz.u a h 2 0).tr F1.z⟩
        · by_cases q2 : B.1 12 22 = 1
          · rw [if_pos q2]
            rw [decide_eq_true q2, Bool.true_and] at e1
            cases hq : hhM B
            · rw [hq] at e1
              have e1 : f_X3_addReadAndWrite a (nI r) kp 0 (uI h 3 a 2 0) = some h1 := e1
              rw [if_pos (show b2i false = 0 from rfl), e1, Option.bind_some]
            · rw [hq] at e1
              have e1 : f_X3_addReadAndWrite a (nI r) kp 1 (uI h 3 a 2 0) = some h1 := e1
              rw [if_neg (by decide), e1, Option.bind_some]
          · rw [if_neg q2]
            rw [decide_eq_false q2, Bool.false_and] at e1
            have e1 : f_X3_addReadAndWrite a (nI r) kp 0 (uI h 3 a 2 0) = some h1 := e1
            rw [e1, Option.bind_some]
        · have ec : ((decide (B.1 12 22 = 1) && hhM B) = true) = (B.1 12 22 = 1 ∧ hhM B = true) := by simp
          simp only [ec] at C1
          exact C1
      · rw [if_neg (by decide), if_pos rfl]
        obtain ⟨h1, e1, C1, F1⟩ := c_add C2 (by omega) 1 (nI r) 2 kp (orI (ptP B p) (i - p)) (-2)
        rw [e1, Option.bind_some]
        exact ⟨h1, rfl, C1, by rw [F1.2.1 2 (by omega), k2], (Fz.u a h 2 0).tr F1.z⟩
