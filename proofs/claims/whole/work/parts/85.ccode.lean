/-! ===== CODE, the class's side: instructions are added ===== -/
/-- of act a's code only parts and size have changed -/
def Fk (a : Nat) (h h' : mH) : Prop := (∀ t i, ¬ (t = 32 ∧ i = a) → ¬ (t = 3 ∧ i = a) → h'.1 t i = h.1 t i) ∧ (∀ s, s ≠ 1 → h'.1 3 a s = h.1 3 a s) ∧ h'.2 = h.2
theorem Fk.rf (a : Nat) (h : mH) : Fk a h h := ⟨fun _ _ _ _ => rfl, fun _ _ => rfl, rfl⟩
theorem Fk.tr {k : Nat} {a b c : mH} (h1 : Fk k a b) (h2 : Fk k b c) : Fk k a c := ⟨fun t i p q => (h2.1 t i p q).trans (h1.1 t i p q), fun s p => (h2.2.1 s p).trans (h1.2.1 s p), h2.2.2.trans h1.2.2⟩
theorem uI3 (h : mH) (t i s s' : Nat) (x : Int32) : (uI h t i s x).1 t i s' = if s' = s then x else h.1 t i s' := by
  rw [uI_1]
  by_cases z : s' = s
  · rw [if_pos ⟨rfl, rfl, z⟩, if_pos z]
  · rw [if_neg (fun y => z y.2.2), if_neg z]
theorem c_add {h : mH} {j : Nat} {l : List (Nat → Int32)} (C : CC h j l) (hl : l.length < 48) (a b c d e f : Int32) : ∃ h', f_X3_add j a b c d e f h = some h' ∧ CC h' j (l ++ [o6 a b c d e f]) ∧ Fk j h h' := by
  obtain ⟨c0, c1, c2⟩ := C
  obtain ⟨Q, hQ⟩ : ∃ Q, Q = 6 * l.length := ⟨_, rfl⟩
  have eQ : nI l.length * 6 = nI Q := by
    show nI l.length * nI 6 = nI Q
    rw [nI_mul, hQ, Nat.mul_comm]
  have q0 : nI Q + 0 = nI Q := nI_add Q 0
  have q1 : nI Q + 1 = nI (Q + 1) := nI_add Q 1
  have q2 : nI Q + 2 = nI (Q + 2) := nI_add Q 2
  have q3 : nI Q + 3 = nI (Q + 3) := nI_add Q 3
  have q4 : nI Q + 4 = nI (Q + 4) := nI_add Q 4
  have q5 : nI Q + 5 = nI (Q + 5) := nI_add Q 5
  refine ⟨uI (uI (uI (uI (uI (uI (uI h 32 j Q a) 32 j (Q + 1) b) 32 j (Q + 2) c) 32 j (Q + 3) d) 32 j (Q + 4) e) 32 j (Q + 5) f) 3 j 1 (nI (l.length + 1)), ?_, ⟨?_, ?_, ?_⟩, ?_⟩
  · unfold f_X3_add
    simp only [mLet]
    rw [c1, if_pos (show nI l.length < 48 from nI_lt (b := 48) hl (by omega)), eQ, q0, q1, q2, q3, q4, q5, if_pos (mIn_nI (show Q < 288 by omega) (by omega)), if_pos (mIn_nI (show Q + 1 < 288 by omega) (by omega)), if_pos (mIn_nI (show Q + 2 < 288 by omega) (by omega)), if_pos (mIn_nI (show Q + 3 < 288 by omega) (by omega)), if_pos (mIn_nI (show Q + 4 < 288 by omega) (by omega)), if_pos (mIn_nI (show Q + 5 < 288 by omega) (by omega)), nI_clamp (by omega), nI_clamp (by omega), nI_clamp (by omega), nI_clamp (by omega), nI_clamp (by omega), nI_clamp (by omega), uI_ne (fun z => by omega), uI_ne (fun z => by omega), uI_ne (fun z => by omega), uI_ne (fun z => by omega), uI_ne (fun z => by omega), uI_ne (fun z => by omega), c1, nI_succ]
  · rw [List.length_append]
    show _ + 1 ≤ 48
    omega
  · rw [uI3, if_pos rfl, List.length_append]
    rfl
  · intro i w hi hw
    rw [List.length_append] at hi
    have hi : i < l.length + 1 := hi
    rw [uI_ne (fun z => by omega), uI3, uI3, uI3, uI3, uI3, uI3]
    by_cases z : i = l.length
    · subst z
      rw [gd_r]
      have hw : w = 0 ∨ w = 1 ∨ w = 2 ∨ w = 3 ∨ w = 4 ∨ w = 5 := by omega
      rcases hw with rfl | rfl | rfl | rfl | rfl | rfl
      · rw [if_neg (by omega), if_neg (by omega), if_neg (by omega), if_neg (by omega), if_neg (by omega), if_pos (by omega)]
        rfl
      · rw [if_neg (by omega), if_neg (by omega), if_neg (by omega), if_neg (by omega), if_pos (by omega)]
        rfl
      · rw [if_neg (by omega), if_neg (by omega), if_neg (by omega), if_pos (by omega)]
        rfl
      · rw [if_neg (by omega), if_neg (by omega), if_pos (by omega)]
        rfl
      · rw [if_neg (by omega), if_pos (by omega)]
        rfl
      · rw [if_pos (by omega)]
        rfl
    · rw [if_neg (by omega), if_neg (by omega), if_neg (by omega), if_neg (by omega), if_neg (by omega), if_neg (by omega), gd_l _ _ _ (by omega)]
      exact c2 i w (by omega) hw
  · refine ⟨fun t i p q => ?_, fun s p => ?_, rfl⟩
    · rw [uI_ne (fun z => q z), uI_ne (fun z => p z), uI_ne (fun z => p z), uI_ne (fun z => p z), uI_ne (fun z => p z), uI_ne (fun z => p z), uI_ne (fun z => p z)]
    · rw [uI3, if_neg p, uI_ne (fun z => by omega), uI_ne (fun z => by omega), uI_ne (fun z => by omega), uI_ne (fun z => by omega), uI_ne (fun z => by omega), uI_ne (fun z => by omega)]
