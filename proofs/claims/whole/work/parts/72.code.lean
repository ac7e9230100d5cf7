/-! ===== CODE, the model's side: emitted instructions ===== -/
def o6 (a b c d e f : Int32) : Nat → Int32 := fun w => if w = 0 then a else if w = 1 then b else if w = 2 then c else if w = 3 then d else if w = 4 then e else f
def o0 : Nat → Int32 := fun _ => 0
def OPS (M : mM) (lv : Nat) (l : List (Nat → Int32)) : Prop := M.1 93 lv = nI l.length ∧ ∀ i w, i < l.length → w < 6 → M.1 94 (300 * lv + 6 * i + w) = (l.getD i o0) w
/-- only the code of level lv has changed -/
def Fo (lv : Nat) (M N : mM) : Prop := (∀ t k, ¬ (t = 93 ∧ k = lv) → ¬ (t = 94 ∧ 300 * lv ≤ k ∧ k < 300 * lv + 300) → N.1 t k = M.1 t k) ∧ N.2 = M.2
theorem Fo.rf (lv : Nat) (M : mM) : Fo lv M M := ⟨fun _ _ _ _ => rfl, rfl⟩
theorem Fo.tr {lv : Nat} {a b c : mM} (h1 : Fo lv a b) (h2 : Fo lv b c) : Fo lv a c := ⟨fun t k p q => (h2.1 t k p q).trans (h1.1 t k p q), h2.2.trans h1.2⟩
theorem Fo.bk {lv : Nat} {M N B : mM} (f : Fo lv M N) (h : Bk M B) : Bk N B := fun t k z => (f.1 t k (by omega) (by omega)).trans (h t k z)
theorem Bk.m {M B : mM} (h : Bk M B) (f : Nat) : mskM M f = mskM B f := by
  unfold mskM oneM
  rw [h.a f (by omega) (by omega), h.a f (by omega) (by omega)]
theorem gd_l {α : Type} (l : List α) (x d : α) {k : Nat} (hk : k < l.length) : (l ++ [x]).getD k d = l.getD k d := by rw [List.getD_eq_getElem?_getD, List.getD_eq_getElem?_getD, List.getElem?_append_left hk]
theorem gd_r {α : Type} (l : List α) (x d : α) : (l ++ [x]).getD l.length d = x := by
  rw [List.getD_eq_getElem?_getD]
  simp
theorem nI_lit (Q c : Nat) : nI Q + nI c = nI (Q + c) := nI_add Q c
theorem e_emit (h : mH) {M : mM} {lv : Nat} (hv : lv < 2) {l : List (Nat → Int32)} (O : OPS M lv l) (hl : l.length < 50) (a b c d e f : Int32) : ∃ N, f_X12_emit (nI lv) a b c d e f (wM h M) = some (wM h N) ∧ OPS N lv (l ++ [o6 a b c d e f]) ∧ Fo lv M N := by
  obtain ⟨o1, o2⟩ := O
  obtain ⟨Q, hQ⟩ : ∃ Q, Q = 300 * lv + 6 * l.length := ⟨_, rfl⟩
  have eQ : 6 * ((50 * nI lv) + nI l.length) = nI Q := by
    show nI 6 * (nI 50 * nI lv + nI l.length) = nI Q
    rw [nI_mul, nI_add, nI_mul, hQ]
    congr 1
    omega
  have q1 : nI Q + 1 = nI (Q + 1) := nI_add Q 1
  have q2 : nI Q + 2 = nI (Q + 2) := nI_add Q 2
  have q3 : nI Q + 3 = nI (Q + 3) := nI_add Q 3
  have q4 : nI Q + 4 = nI (Q + 4) := nI_add Q 4
  have q5 : nI Q + 5 = nI (Q + 5) := nI_add Q 5
  refine ⟨uM (uM (uM (uM (uM (uM (uM M 94 Q a) 94 (Q + 1) b) 94 (Q + 2) c) 94 (Q + 3) d) 94 (Q + 4) e) 94 (Q + 5) f) 93 lv (nI (l.length + 1)), ?_, ?_, ?_⟩
  · unfold f_X12_emit
    simp only [mLet]
    rw [if_pos (mIn_nI hv (by omega)), nI_clamp (by omega), wM_1 h M rfl, o1, eQ, q1, q2, q3, q4, q5, if_pos (mIn_nI (show Q < 600 by omega) (by omega)), if_pos (mIn_nI (show Q + 1 < 600 by omega) (by omega)), if_pos (mIn_nI (show Q + 2 < 600 by omega) (by omega)), if_pos (mIn_nI (show Q + 3 < 600 by omega) (by omega)), if_pos (mIn_nI (show Q + 4 < 600 by omega) (by omega)), if_pos (mIn_nI (show Q + 5 < 600 by omega) (by omega)), nI_clamp (by omega), nI_clamp (by omega), nI_clamp (by omega), nI_clamp (by omega), nI_clamp (by omega), nI_clamp (by omega), wM_u h M rfl, wM_u h _ rfl, wM_u h _ rfl, wM_u h _ rfl, wM_u h _ rfl, wM_u h _ rfl, wM_1 h _ rfl, uM_t _ (by omega), uM_t _ (by omega), uM_t _ (by omega), uM_t _ (by omega), uM_t _ (by omega), uM_t _ (by omega), o1, wM_u h _ rfl, nI_succ]
  · have C : ∀ k, (uM (uM (uM (uM (uM (uM (uM M 94 Q a) 94 (Q + 1) b) 94 (Q + 2) c) 94 (Q + 3) d) 94 (Q + 4) e) 94 (Q + 5) f) 93 lv (nI (l.length + 1))).1 94 k = if 94 = 94 ∧ k = Q + 5 then f else if 94 = 94 ∧ k = Q + 4 then e else if 94 = 94 ∧ k = Q + 3 then d else if 94 = 94 ∧ k = Q + 2 then c else if 94 = 94 ∧ k = Q + 1 then b else if 94 = 94 ∧ k = Q then a else M.1 94 k := fun k => uM_t _ (by omega)
    have len : (l ++ [o6 a b c d e f]).length = l.length + 1 := by rw [List.length_append]; rfl
    refine ⟨?_, fun i w hi hw => ?_⟩
    · rw [uM_s, len]
    · rw [len] at hi
      rw [C]
      by_cases z : i = l.length
      · subst z
        rw [gd_r]
        have hw : w = 0 ∨ w = 1 ∨ w = 2 ∨ w = 3 ∨ w = 4 ∨ w = 5 := by omega
        rcases hw with rfl | rfl | rfl | rfl | rfl | rfl
        · rw [if_neg (by omega), if_neg (by omega), if_neg (by omega), if_neg (by omega), if_neg (by omega), if_pos (by omega)]
          rfl
        · rw [if_neg (by omega), if_neg (by omega), if_neg (by omega), if_neg (by omega), if_pos (by omega)]
          rfl
        · rw [if_neg (by omega), if_neg (by omega), if_neg (by omega), if_pos (by omega)]
          rfl
        · rw [if_neg (by omega), if_neg (by omega), if_pos (by omega)]
          rfl
        · rw [if_neg (by omega), if_pos (by omega)]
          rfl
        · rw [if_pos (by omega)]
          rfl
      · rw [if_neg (by omega), if_neg (by omega), if_neg (by omega), if_neg (by omega), if_neg (by omega), if_neg (by omega), gd_l _ _ _ (by omega)]
        exact o2 i w (by omega) hw
  · refine ⟨fun t k h1 h2 => ?_, rfl⟩
    by_cases z : t = 94
    · subst z
      rw [uM_t _ (by omega), uM_k _ (by omega), uM_k _ (by omega), uM_k _ (by omega), uM_k _ (by omega), uM_k _ (by omega), uM_k _ (by omega)]
    · rw [uM_1, if_neg h1, uM_t _ z, uM_t _ z, uM_t _ z, uM_t _ z, uM_t _ z, uM_t _ z]
/-- no step of the group from p to q has field x -/
def gnP (B : mM) (p : Nat) (x : Int32) (d : Nat) : Bool := !(decide (B.1 60 (p + d) = x))
theorem e_g127 (K : Int32 → Int32 → Int32 → Int32 → Int32 → Int32 → Int32 → Int32 → Int32 → Int32 → mH → Option mH) (h : mH) {M B : mM} (hB : Bk M B) {p q : Nat} (hpq : p ≤ q) (hq : q ≤ 72) (v1 v2 v4 v5 v6 v7 v8 : Int32) (b : Bool) : f_X12_groups_127 K mFu v1 v2 (nI q) v4 v5 v6 v7 v8 (b2i b) (nI p) (wM h M) = K v1 v2 (nI q) v4 v5 v6 v7 v8 (b2i (b && alN (gnP B p v8) (q - p))) (nI q) (wM h M) := by
  have z := mLoop (fun m (c : Int32 × Int32) => f_X12_groups_127 K m v1 v2 (nI q) v4 v5 v6 v7 v8 c.1 c.2 (wM h M)) (fun j => (b2i (b && alN (gnP B p v8) j), nI (p + j))) (q - p) (K v1 v2 (nI q) v4 v5 v6 v7 v8 (b2i (b && alN (gnP B p v8) (q - p))) (nI q) (wM h M)) ?_ ?_ mFu (mFu_lt (by omega))
  · have e : (b && alN (gnP B p v8) 0) = b := Bool.and_true b
    dsimp only at z
    rw [e] at z
    exact z
  · intro j hj m
    dsimp only
    rw [f_X12_groups_127, if_pos (nI_lt (by omega) (by omega)), if_pos (mIn_nI (show p + j < 72 by omega) (by omega)), nI_clamp (by omega), wM_1 h M rfl, hB.a _ (by omega) (by omega), ← nI_succ, show p + j + 1 = p + (j + 1) by omega]
    have e : (b && alN (gnP B p v8) (j + 1)) = ((b && alN (gnP B p v8) j) && gnP B p v8 j) := by
      rw [Bool.and_assoc]
      rfl
    rw [e]
    cases (b && alN (gnP B p v8) j)
    · rw [if_pos (show b2i false = 0 from rfl)]
      rfl
    · rw [if_neg (by decide)]
      unfold gnP
      by_cases q1 : B.1 60 (p + j) = v8
      · rw [if_pos q1, decide_eq_true q1]
        rfl
      · rw [if_neg q1, decide_eq_false q1]
        rfl
  · intro m
    dsimp only
    rw [f_X12_groups_127, show p + (q - p) = q by omega, if_neg (nI_nlt (Nat.le_refl _) (by omega))]
def ptP (B : mM) (p d : Nat) : Int32 := B.1 61 (p + d) <<< (B.1 47 (sfM B (p + d)) &&& 31)
theorem e_g30 (K : Int32 → Int32 → Int32 → Int32 → Int32 → Int32 → Int32 → Int32 → mH → Option mH) (h : mH) {M B : mM} (hB : Bk M B) {p q : Nat} (hpq : p ≤ q) (hq : q ≤ 72) (hs : ∀ i, p ≤ i → i < q → mIn (B.1 60 i) 24 = true) (v1 v2 v4 v5 v7 : Int32) : f_X12_groups_30 K mFu v1 v2 (nI q) v4 v5 0 v7 (nI p) (wM h M) = K v1 v2 (nI q) v4 v5 (orI (ptP B p) (q - p)) v7 (nI q) (wM h M) := by
  refine mLoop (fun m (c : Int32 × Int32) => f_X12_groups_30 K m v1 v2 (nI q) v4 v5 c.1 v7 c.2 (wM h M)) (fun j => (orI (ptP B p) j, nI (p + j))) (q - p) (K v1 v2 (nI q) v4 v5 (orI (ptP B p) (q - p)) v7 (nI q) (wM h M)) ?_ ?_ mFu (mFu_lt (by omega))
  · intro j hj m
    dsimp only
    rw [f_X12_groups_30, if_pos (nI_lt (by omega) (by omega)), if_pos (mIn_nI (show p + j < 72 by omega) (by omega)), nI_clamp (by omega), wM_1 h M rfl, hB.a _ (by omega) (by omega), if_pos (hs _ (by omega) (by omega)), wM_1 h M rfl, wM_1 h M rfl, hB.a _ (by omega) (by omega), hB.a _ (by omega) (by omega), ← nI_succ, show p + j + 1 = p + (j + 1) by omega]
    rfl
  · intro m
    dsimp only
    rw [f_X12_groups_30, show p + (q - p) = q by omega, if_neg (nI_nlt (Nat.le_refl _) (by omega))]
theorem it5 {α : Type} (A P Q : Prop) [Decidable A] [Decidable P] [Decidable Q] (s : Bool) (F : Int32 → α) : (if A then if P then F 1 else if Q then if b2i s = 0 then F 0 else F 1 else F 0 else F 0) = F (b2i (decide A && (decide P || (decide Q && s)))) := by
  by_cases hA : A <;> by_cases hP : P <;> by_cases hQ : Q <;> cases s <;> simp [hA, hP, hQ, b2i]
def kpP (B : mM) (x : Int32) (s : Bool) (p q f : Nat) : Bool := (decide (B.1 46 f = x) && (decide (B.1 49 f = 0) || (decide (B.1 49 f = 5) && s))) && alN (gnP B p (nI f)) (q - p)
def keP (B : mM) (x : Int32) (s : Bool) (p q f : Nat) : Int32 := if kpP B x s p q f = true then mskM B f else 0
theorem e_g70 (K : Int32 → Int32 → Int32 → Int32 → Int32 → Int32 → Int32 → Int32 → mH → Option mH) (h : mH) {M B : mM} (hB : Bk M B) {n : Nat} (hn : B.1 12 2 = nI n) (h24 : n ≤ 24) {p q : Nat} (hpq : p ≤ q) (hq : q ≤ 72) (v1 x v6 : Int32) (s : Bool) : f_X12_groups_70 K mFu v1 (nI p) (nI q) x (b2i s) v6 0 0 (wM h M) = K v1 (nI p) (nI q) x (b2i s) v6 (orI (keP B x s p q) n) (nI n) (wM h M) := by
  refine mLoop (fun m (c : Int32 × Int32) => f_X12_groups_70 K m v1 (nI p) (nI q) x (b2i s) v6 c.1 c.2 (wM h M)) (fun j => (orI (keP B x s p q) j, nI j)) n (K v1 (nI p) (nI q) x (b2i s) v6 (orI (keP B x s p q) n) (nI n) (wM h M)) ?_ ?_ mFu (mFu_lt (by omega))
  · intro j hj m
    dsimp only
    rw [f_X12_groups_70, wM_1 h M rfl, hB.f, hn, if_pos (nI_lt hj (by omega)), if_pos (mIn_nI (show j < 24 by omega) (by omega)), nI_clamp (by omega), wM_1 h M rfl, wM_1 h M rfl, hB.a _ (by omega) (by omega), hB.a _ (by omega) (by omega)]
    refine (it5 _ _ _ s (fun v => f_X12_groups_127 (fun u23 u24 u25 u26 u27 u28 u29 u30 u31 _ h33 => if u31 = 0 then f_X12_groups_70 K m u23 u24 u25 u26 u27 u28 (u29 ||| 0) (u30 + 1) h33 else (f_X12_mask u30 h33).bind fun r35 => f_X12_groups_70 K m u23 u24 u25 u26 u27 u28 (u29 ||| r35.1) (u30 + 1) r35.2) mFu v1 (nI p) (nI q) x (b2i s) v6 (orI (keP B x s p q) j) (nI j) v (nI p) (wM h M))).trans ?_
    rw [e_g127 _ h hB hpq hq, e_mask (show j < 24 by omega) h M, Option.bind_some, hB.m, nI_succ]
    dsimp only
    show (if b2i (kpP B x s p q j) = 0 then _ else _) = f_X12_groups_70 K m v1 (nI p) (nI q) x (b2i s) v6 (orI (keP B x s p q) j ||| (if kpP B x s p q j = true then mskM B j else 0)) (nI j + 1) (wM h M)
    cases kpP B x s p q j
    · rw [if_pos (show b2i false = 0 from rfl), if_neg (show ¬ (false = true) by decide)]
    · rw [if_neg (by decide), if_pos rfl]
  · intro m
    dsimp only
    rw [f_X12_groups_70, wM_1 h M rfl, hB.f, hn, if_neg (nI_nlt (Nat.le_refl _) (by omega))]
/-- the instructions of the group of steps from p to q -/
def grB (B : mM) (p q : Nat) : List (Nat → Int32) :=
  if orI (keP B (B.1 46 (sfM B p)) (shM B (B.1 46 (sfM B p))) p q) (B.1 12 2).toNatClampNeg = 0 then [o6 1 (B.1 46 (sfM B p)) 0 0 (orI (ptP B p) (q - p)) (-2)]
  else if shM B (B.1 46 (sfM B p)) = true then [o6 1 (B.1 46 (sfM B p)) 2 (orI (keP B (B.1 46 (sfM B p)) (shM B (B.1 46 (sfM B p))) p q) (B.1 12 2).toNatClampNeg) (orI (ptP B p) (q - p)) (-2)]
  else if B.1 12 22 = 1 ∧ hhM B = true then [o6 5 (-2) (-2) (-2) (-2) (-2), o6 0 (B.1 46 (sfM B p)) (-2) (-2) (-2) (-2), o6 1 (B.1 46 (sfM B p)) 1 (orI (keP B (B.1 46 (sfM B p)) (shM B (B.1 46 (sfM B p))) p q) (B.1 12 2).toNatClampNeg) (orI (ptP B p) (q - p)) (-2), o6 6 (-2) (-2) (-2) (-2) (-2)]
  else [o6 0 (B.1 46 (sfM B p)) (-2) (-2) (-2) (-2), o6 1 (B.1 46 (sfM B p)) 1 (orI (keP B (B.1 46 (sfM B p)) (shM B (B.1 46 (sfM B p))) p q) (B.1 12 2).toNatClampNeg) (orI (ptP B p) (q - p)) (-2)]
theorem grB_len (B : mM) (p q : Nat) : 1 ≤ (grB B p q).length ∧ (grB B p q).length ≤ 4 := by
  unfold grB
  split
  · exact ⟨by simp, by simp⟩
  · split
    · exact ⟨by simp, by simp⟩
    · split
      · exact ⟨by simp, by simp⟩
      · exact ⟨by simp, by simp⟩
theorem e_groups (h : mH) {M B : mM} (hB : Bk M B) {n : Nat} (hn : B.1 12 2 = nI n) (h24 : n ≤ 24) {p q : Nat} (hpq : p < q) (hq : q ≤ 72) (hs : ∀ i, p ≤ i → i < q → mIn (B.1 60 i) 24 = true) {lv : Nat} (hv : lv < 2) {l : List (Nat → Int32)} (O : OPS M lv l) (hl : l.length ≤ 46) : ∃ N, f_X12_groups (nI lv) (nI p) (nI q) (wM h M) = some (wM h N) ∧ OPS N lv (l ++ grB B p q) ∧ Fo lv M N := by
  have en : (B.1 12 2).toNatClampNeg = n := by rw [hn, nI_clamp (by omega)]
  have eS : (B.1 60 p).toNatClampNeg = sfM B p := rfl
  unfold f_X12_groups grB
  rw [if_pos (mIn_nI (show p < 72 by omega) (by omega)), nI_clamp (by omega), wM_1 h M rfl, hB.a _ (by omega) (by omega), if_pos (hs p (by omega) hpq), eS, wM_1 h M rfl, hB.a _ (by omega) (by omega), e_isShadowed _ h hB hn h24, Option.bind_some]
  dsimp only
  rw [e_g30 _ h hB (by omega) hq hs]
  rw [e_g70 _ h hB hn h24 (by omega) hq]
  rw [en]
  generalize orI (keP B (B.1 46 (sfM B p)) (shM B (B.1 46 (sfM B p))) p q) n = kp
  generalize orI (ptP B p) (q - p) = pt
  generalize B.1 46 (sfM B p) = x
  by_cases q1 : kp = 0
  · rw [if_pos q1, if_pos q1, q1]
    obtain ⟨N, e, O1, F1⟩ := e_emit h hv O (by omega) 1 x 0 0 pt (-2)
    rw [e]
    exact ⟨N, rfl, O1, F1⟩
  · rw [if_neg q1, if_neg q1]
    cases shM B x
    · rw [if_pos (show b2i false = 0 from rfl), if_neg (show ¬ (false = true) by decide), wM_1 h M rfl, hB.o]
      by_cases q2 : B.1 12 22 = 1
      · rw [if_pos q2, e_hasHandler h hB hn h24, Option.bind_some]
        dsimp only
        cases hhM B
        · rw [if_pos (show b2i false = 0 from rfl), if_neg (show ¬ (B.1 12 22 = 1 ∧ false = true) from fun z => absurd z.2 (by decide))]
          unfold f_X12_groups_j243 f_X12_groups_j267
          obtain ⟨N1, e1, O1, F1⟩ := e_emit h hv O (by omega) 0 x (-2) (-2) (-2) (-2)
          obtain ⟨N2, e2, O2, F2⟩ := e_emit h hv O1 (by rw [List.length_append]; show _ + 1 < 50; omega) 1 x 1 kp pt (-2)
          rw [e1, Option.bind_some, e2, Option.bind_some, if_pos rfl]
          refine ⟨N2, rfl, ?_, F1.tr F2⟩
          rw [List.append_assoc] at O2
          exact O2
        · rw [if_neg (by decide), if_pos ⟨q2, rfl⟩]
          unfold f_X12_groups_j267
          obtain ⟨N0, e0, O0, F0⟩ := e_emit h hv O (by omega) 5 (-2) (-2) (-2) (-2) (-2)
          obtain ⟨N1, e1, O1, F1⟩ := e_emit h hv O0 (by rw [List.length_append]; show _ + 1 < 50; omega) 0 x (-2) (-2) (-2) (-2)
          obtain ⟨N2, e2, O2, F2⟩ := e_emit h hv O1 (by rw [List.length_append, List.length_append]; show _ + 1 + 1 < 50; omega) 1 x 1 kp pt (-2)
          obtain ⟨N3, e3, O3, F3⟩ := e_emit h hv O2 (by rw [List.length_append, List.length_append, List.length_append]; show _ + 1 + 1 + 1 < 50; omega) 6 (-2) (-2) (-2) (-2) (-2)
          rw [e0, Option.bind_some, e1, Option.bind_some, e2, Option.bind_some, if_neg (by decide), e3]
          refine ⟨N3, rfl, ?_, ((F0.tr F1).tr F2).tr F3⟩
          rw [List.append_assoc, List.append_assoc, List.append_assoc] at O3
          exact O3
      · rw [if_neg q2, if_neg (fun z => q2 z.1)]
        unfold f_X12_groups_j243 f_X12_groups_j267
        obtain ⟨N1, e1, O1, F1⟩ := e_emit h hv O (by omega) 0 x (-2) (-2) (-2) (-2)
        obtain ⟨N2, e2, O2, F2⟩ := e_emit h hv O1 (by rw [List.length_append]; show _ + 1 < 50; omega) 1 x 1 kp pt (-2)
        rw [e1, Option.bind_some, e2, Option.bind_some, if_pos rfl]
        refine ⟨N2, rfl, ?_, F1.tr F2⟩
        rw [List.append_assoc] at O2
        exact O2
    · rw [if_neg (by decide), if_pos rfl]
      obtain ⟨N, e, O1, F1⟩ := e_emit h hv O (by omega) 1 x 2 kp pt (-2)
      rw [e]
      exact ⟨N, rfl, O1, F1⟩
