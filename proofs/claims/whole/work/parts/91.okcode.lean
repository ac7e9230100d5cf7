/-! ===== code that a valid book makes is code that runs ===== -/
def okL (n : Nat) (l : List (Nat → Int32)) : Prop := (∀ o, o ∈ l → okO n o) ∧ LK false l
theorem okL.nil (n : Nat) : okL n [] := ⟨fun o h => absurd h (by simp), rfl⟩
theorem ok_r {n r : Nat} (hr : r < 8) (b c d e : Int32) : okO n (o6 0 (nI r) b c d e) := Or.inl ⟨rfl, r, hr, rfl⟩
theorem ok_w {n r : Nat} (hr : r < 8) (b c d e : Int32) : okO n (o6 1 (nI r) b c d e) := Or.inr (Or.inl ⟨rfl, r, hr, rfl⟩)
theorem ok_5 (n : Nat) (a b c d e : Int32) : okO n (o6 5 a b c d e) := Or.inr (Or.inr (Or.inr (Or.inr (Or.inr (Or.inl rfl)))))
theorem ok_6 (n : Nat) (a b c d e : Int32) : okO n (o6 6 a b c d e) := Or.inr (Or.inr (Or.inr (Or.inr (Or.inr (Or.inr rfl)))))
theorem LK_r (x b c d e : Int32) (t : Bool) (l : List (Nat → Int32)) (h : LK t l) : LK t (o6 0 x b c d e :: l) := by
  unfold LK
  rw [show o6 0 x b c d e 0 = 0 from rfl, if_neg (by decide), if_neg (by decide)]
  exact ⟨fun z => absurd z (by decide), h⟩
theorem LK_w (x b c d e : Int32) (t : Bool) (l : List (Nat → Int32)) (h : LK t l) : LK t (o6 1 x b c d e :: l) := by
  unfold LK
  rw [show o6 1 x b c d e 0 = 1 from rfl, if_neg (by decide), if_neg (by decide)]
  exact ⟨fun z => absurd z (by decide), h⟩
theorem LK_3 (x b c d e : Int32) (t : Bool) (l : List (Nat → Int32)) (h : LK t l) : LK t (o6 3 x b c d e :: l) := by
  unfold LK
  rw [show o6 3 x b c d e 0 = 3 from rfl, if_neg (by decide), if_neg (by decide)]
  exact ⟨fun z => absurd z (by decide), h⟩
theorem LK_4 (x b c d e : Int32) (t : Bool) (l : List (Nat → Int32)) (h : LK t l) : LK t (o6 4 x b c d e :: l) := by
  unfold LK
  rw [show o6 4 x b c d e 0 = 4 from rfl, if_neg (by decide), if_neg (by decide)]
  exact ⟨fun z => absurd z (by decide), h⟩
theorem LK_2 (x b c d e : Int32) (l : List (Nat → Int32)) (h : LK false l) : LK false (o6 2 x b c d e :: l) := by
  unfold LK
  rw [show o6 2 x b c d e 0 = 2 from rfl, if_neg (by decide), if_neg (by decide)]
  exact ⟨fun _ => rfl, h⟩
theorem LK_5 (x b c d e : Int32) (t : Bool) (l : List (Nat → Int32)) (h : LK true l) : LK t (o6 5 x b c d e :: l) := by
  unfold LK
  rw [show o6 5 x b c d e 0 = 5 from rfl, if_pos rfl]
  exact h
theorem LK_6 (x b c d e : Int32) (t : Bool) (l : List (Nat → Int32)) (h : LK false l) : LK t (o6 6 x b c d e :: l) := by
  unfold LK
  rw [show o6 6 x b c d e 0 = 6 from rfl, if_neg (by decide), if_pos rfl]
  exact h
theorem ok_gr {B : mM} {n p q : Nat} (hr : ∃ r, r < 8 ∧ B.1 46 (sfM B p) = nI r) {c : List (Nat → Int32)} (h : okL n c) : okL n (grB B p q ++ c) := by
  obtain ⟨r, hr, er⟩ := hr
  obtain ⟨h1, h2⟩ := h
  unfold grB
  rw [er]
  split
  · refine ⟨fun o ho => ?_, LK_w _ _ _ _ _ _ _ h2⟩
    rcases List.mem_cons.mp ho with z | z
    · rw [z]; exact ok_w hr _ _ _ _
    · exact h1 o z
  · split
    · refine ⟨fun o ho => ?_, LK_w _ _ _ _ _ _ _ h2⟩
      rcases List.mem_cons.mp ho with z | z
      · rw [z]; exact ok_w hr _ _ _ _
      · exact h1 o z
    · split
      · refine ⟨fun o ho => ?_, LK_5 _ _ _ _ _ _ _ (LK_r _ _ _ _ _ _ _ (LK_w _ _ _ _ _ _ _ (LK_6 _ _ _ _ _ _ _ h2)))⟩
        rcases List.mem_cons.mp ho with z | z
        · rw [z]; exact ok_5 _ _ _ _ _ _
        · rcases List.mem_cons.mp z with z | z
          · rw [z]; exact ok_r hr _ _ _ _
          · rcases List.mem_cons.mp z with z | z
            · rw [z]; exact ok_w hr _ _ _ _
            · rcases List.mem_cons.mp z with z | z
              · rw [z]; exact ok_6 _ _ _ _ _ _
              · exact h1 o z
      · refine ⟨fun o ho => ?_, LK_r _ _ _ _ _ _ _ (LK_w _ _ _ _ _ _ _ h2)⟩
        rcases List.mem_cons.mp ho with z | z
        · rw [z]; exact ok_r hr _ _ _ _
        · rcases List.mem_cons.mp z with z | z
          · rw [z]; exact ok_w hr _ _ _ _
          · exact h1 o z
/-- numbers of PAUSE and AWAIT steps -/
def stV (B : mM) (P : Nat) : Prop := (B.1 59 P = 3 → ∃ v, 1 ≤ v ∧ v ≤ 9 ∧ B.1 61 P = nI v) ∧ (B.1 59 P = 1 → ∃ l, l ≤ 20 ∧ B.1 62 P = nI l)
theorem ok_st {B : mM} {n P : Nat} (h24 : n ≤ 24) (hreg : ∀ f, f < n → ∃ r, r < 8 ∧ B.1 46 f = nI r) (k0 : ¬ B.1 59 P = 0) (s : stOK B n P) (v : stV B P) {c : List (Nat → Int32)} (h : okL n c) : okL n (stB B P ++ c) := by
  obtain ⟨h1, h2⟩ := h
  unfold stB
  rcases s with k3 | ⟨kk, f, hf, ef⟩
  · obtain ⟨y, y1, y2, y3⟩ := v.1 k3
    rw [k3, if_neg (by decide), if_neg (by decide), y3]
    refine ⟨fun o ho => ?_, LK_3 _ _ _ _ _ _ _ h2⟩
    rcases List.mem_cons.mp ho with z | z
    · rw [z]
      exact Or.inr (Or.inr (Or.inr (Or.inl ⟨rfl, y, y1, y2, rfl⟩)))
    · exact h1 o z
  · obtain ⟨r, hr, er⟩ := hreg f hf
    rw [sf_eq (by omega) ef, er, ef]
    rcases kk.resolve_left k0 with k1 | k2
    · obtain ⟨y, y1, y2⟩ := v.2 k1
      rw [if_pos k1, y2]
      refine ⟨fun o ho => ?_, LK_2 _ _ _ _ _ _ h2⟩
      rcases List.mem_cons.mp ho with z | z
      · rw [z]
        exact Or.inr (Or.inr (Or.inl ⟨rfl, ⟨r, hr, rfl⟩, y, y1, rfl⟩))
      · exact h1 o z
    · rw [k2, if_neg (by decide), if_pos rfl]
      refine ⟨fun o ho => ?_, LK_r _ _ _ _ _ _ _ (LK_4 _ _ _ _ _ _ _ h2)⟩
      rcases List.mem_cons.mp ho with z | z
      · rw [z]; exact ok_r hr _ _ _ _
      · rcases List.mem_cons.mp z with z | z
        · rw [z]
          exact Or.inr (Or.inr (Or.inr (Or.inr (Or.inl ⟨rfl, f, hf, rfl⟩))))
        · exact h1 o z
theorem ok_cdS {B : mM} {n : Nat} (h24 : n ≤ 24) (hreg : ∀ f, f < n → ∃ r, r < 8 ∧ B.1 46 f = nI r) : ∀ d p i, (p < i → ∃ r, r < 8 ∧ B.1 46 (sfM B p) = nI r) → (∀ q, i ≤ q → q < i + d → stOK B n q ∧ stV B q) → okL n (cdS B d p i)
  | 0, p, i, hp, _ => by
    show okL n (opG B p i)
    unfold opG
    split
    · rename_i z
      have := ok_gr (q := i) (hp z) (okL.nil n)
      rw [List.append_nil] at this
      exact this
    · exact okL.nil n
  | d + 1, p, i, hp, hs => by
    have app : ∀ c, okL n c → okL n (opG B p i ++ c) := fun c hc => by
      unfold opG
      split
      · rename_i z
        exact ok_gr (hp z) hc
      · exact hc
    unfold cdS
    split
    · rename_i z
      rw [Bool.and_eq_true] at z
      exact ok_cdS h24 hreg d p (i + 1) (fun _ => hp (of_decide_eq_true z.1)) (fun q q1 q2 => hs q (by omega) (by omega))
    · obtain ⟨s1, s2⟩ := hs i (by omega) (by omega)
      refine app _ ?_
      split
      · rename_i k0
        refine ok_cdS h24 hreg d i (i + 1) (fun _ => ?_) (fun q q1 q2 => hs q (by omega) (by omega))
        rcases s1 with y | ⟨-, f, hf, ef⟩
        · rw [k0] at y
          exact absurd y (by decide)
        · rw [sf_eq (by omega) ef]
          exact hreg f hf
      · rename_i k0
        exact ok_st h24 hreg k0 s1 s2 (ok_cdS h24 hreg d (i + 1) (i + 1) (fun z => absurd z (by omega)) (fun q q1 q2 => hs q (by omega) (by omega)))
theorem ok_cdM {B : mM} {n a s : Nat} (h24 : n ≤ 24) (hreg : ∀ f, f < n → ∃ r, r < 8 ∧ B.1 46 f = nI r) (hs0 : B.1 58 a = nI s) (h12 : s ≤ 12) (hs : ∀ j, j < s → stOK B n (12 * a + j) ∧ stV B (12 * a + j)) : (∀ i, i < (cdM B a).length → okO n ((cdM B a).getD i o0)) ∧ LK false (cdM B a) := by
  have z : okL n (cdM B a) := by
    unfold cdM
    rw [hs0, nI_clamp (by omega)]
    refine ok_cdS h24 hreg s (12 * a) (12 * a) (fun z => absurd z (by omega)) (fun q q1 q2 => ?_)
    have := hs (q - 12 * a) (by omega)
    rw [show 12 * a + (q - 12 * a) = q by omega] at this
    exact this
  refine ⟨fun i hi => z.1 _ ?_, z.2⟩
  rw [List.getD_eq_getElem?_getD, List.getElem?_eq_getElem hi]
  exact List.getElem_mem hi
