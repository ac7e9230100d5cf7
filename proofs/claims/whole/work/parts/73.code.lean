/-! ===== CODE, the model's side: an act's whole code ===== -/
/-- the instructions of a step that is no SET -/
def stB (B : mM) (p : Nat) : List (Nat → Int32) :=
  if B.1 59 p = 1 then [o6 2 (B.1 46 (sfM B p)) (-2) (mskM B (sfM B p)) (B.1 61 p <<< (B.1 47 (sfM B p) &&& 31)) (B.1 62 p)]
  else if B.1 59 p = 2 then [o6 0 (B.1 46 (sfM B p)) (-2) (-2) (-2) (-2), o6 4 (B.1 60 p) (-2) (-2) (-2) (-2)]
  else [o6 3 (B.1 61 p) (-2) (-2) (-2) (-2)]
theorem stB_len (B : mM) (p : Nat) : 1 ≤ (stB B p).length ∧ (stB B p).length ≤ 2 := by
  unfold stB
  split
  · exact ⟨by simp, by simp⟩
  · split
    · exact ⟨by simp, by simp⟩
    · exact ⟨by simp, by simp⟩
def opG (B : mM) (p i : Nat) : List (Nat → Int32) := if p < i then grB B p i else []
/-- d steps are left from step i on; the group from p to i is open if p < i -/
def cdS (B : mM) : Nat → Nat → Nat → List (Nat → Int32)
  | 0, p, i => opG B p i
  | d + 1, p, i => if (decide (p < i) && joM B p i) = true then cdS B d p (i + 1) else opG B p i ++ (if B.1 59 i = 0 then cdS B d i (i + 1) else stB B i ++ cdS B d (i + 1) (i + 1))
def cdM (B : mM) (a : Nat) : List (Nat → Int32) := cdS B (B.1 58 a).toNatClampNeg (12 * a) (12 * a)
/-- where the group from p on ends, that has come to q, with d steps left -/
def gN (B : mM) (p : Nat) : Nat → Nat → Nat
  | 0, q => q
  | d + 1, q => if joM B p q = true then gN B p d (q + 1) else q
theorem gN_le (B : mM) (p : Nat) : ∀ d q, q ≤ gN B p d q ∧ gN B p d q ≤ q + d
  | 0, q => ⟨Nat.le_refl _, Nat.le_refl _⟩
  | d + 1, q => by
    unfold gN
    split
    · have := gN_le B p d (q + 1)
      omega
    · omega
theorem gN_set (B : mM) (p : Nat) : ∀ d q i, q ≤ i → i < gN B p d q → B.1 59 i = 0
  | 0, q, i, h1, h2 => by
    have : i < q := h2
    omega
  | d + 1, q, i, h1, h2 => by
    unfold gN at h2
    by_cases z : joM B p q = true
    · rw [if_pos z] at h2
      by_cases y : i = q
      · subst y
        unfold joM at z
        rw [Bool.and_eq_true, Bool.and_eq_true] at z
        exact of_decide_eq_true z.1.1
      · exact gN_set B p d (q + 1) i (by omega) h2
    · rw [if_neg z] at h2
      omega
theorem cdS_gN (B : mM) (p : Nat) : ∀ d q, p < q → cdS B d p q = grB B p (gN B p d q) ++ cdS B (q + d - gN B p d q) (gN B p d q) (gN B p d q)
  | 0, q, h => by
    show opG B p q = grB B p q ++ cdS B (q + 0 - q) q q
    rw [show q + 0 - q = 0 by omega]
    show opG B p q = grB B p q ++ opG B q q
    unfold opG
    rw [if_pos h, if_neg (by omega), List.append_nil]
  | d + 1, q, h => by
    have ih := cdS_gN B p d (q + 1) (by omega)
    by_cases z : joM B p q = true
    · have e : gN B p (d + 1) q = gN B p d (q + 1) := if_pos z
      rw [e, show q + (d + 1) - gN B p d (q + 1) = q + 1 + d - gN B p d (q + 1) by omega, ← ih]
      exact if_pos (by rw [z, decide_eq_true h]; rfl)
    · have e : gN B p (d + 1) q = q := if_neg z
      rw [e, show q + (d + 1) - q = d + 1 by omega]
      have e1 : cdS B (d + 1) p q = opG B p q ++ (if B.1 59 q = 0 then cdS B d q (q + 1) else stB B q ++ cdS B d (q + 1) (q + 1)) := if_neg (fun y => z (by rw [Bool.and_eq_true] at y; exact y.2))
      have e2 : cdS B (d + 1) q q = opG B q q ++ (if B.1 59 q = 0 then cdS B d q (q + 1) else stB B q ++ cdS B d (q + 1) (q + 1)) := if_neg (fun y => by rw [Bool.and_eq_true] at y; have := of_decide_eq_true y.1; omega)
      have o1 : opG B p q = grB B p q := if_pos h
      have o2 : opG B q q = [] := if_neg (by omega)
      rw [e1, e2, o1, o2, List.nil_append]
theorem e_mk56 (K : Int32 → Int32 → Int32 → Int32 → mH → Option mH) (h : mH) {M B : mM} (hB : Bk M B) {n : Nat} (hn : B.1 12 11 = nI n) (h12 : n ≤ 12) (v1 : Int32) {p e : Nat} (he : e ≤ 72) (hp : mIn (B.1 60 p) 24 = true) (hs : ∀ i, p ≤ i → i < e → B.1 59 i = 0 → mIn (B.1 60 i) 24 = true) : ∀ d q, q + d = e → p ≤ q → ∀ m, d < m → f_X12_makes_56 K m v1 (nI e) (nI p) (nI q) (wM h M) = K v1 (nI e) (nI p) (nI (gN B p d q)) (wM h M) := by
  intro d
  induction d with
  | zero =>
    intro q hq hpq m hm
    cases m with
    | zero => omega
    | succ m => rw [f_X12_makes_56, if_neg (nI_nlt (by omega) (by omega))]; rfl
  | succ d ih =>
    intro q hq hpq m hm
    cases m with
    | zero => omega
    | succ m =>
      rw [f_X12_makes_56, if_pos (nI_lt (by omega) (by omega)), e_joins h hB hn h12 hpq (by omega) hp (hs q hpq (by omega)), Option.bind_some]
      dsimp only
      unfold gN
      cases joM B p q
      · rw [if_pos (show b2i false = 0 from rfl), if_neg (show ¬ (false = true) by decide)]
      · rw [if_neg (by decide), if_pos rfl, ← nI_succ]
        exact ih (q + 1) (by omega) (by omega) m (by omega)
theorem e_mk25 (K : Int32 → Int32 → Int32 → mH → Option mH) (h : mH) {B : mM} {n nl : Nat} (hn : B.1 12 2 = nI n) (h24 : n ≤ 24) (hnl : B.1 12 11 = nI nl) (h12 : nl ≤ 12) {lv : Nat} (hv : lv < 2) {p0 e : Nat} (he : e ≤ 72) (hs : ∀ i, p0 ≤ i → i < e → (B.1 59 i = 0 ∨ B.1 59 i = 1 ∨ B.1 59 i = 2) → mIn (B.1 60 i) 24 = true) : ∀ s d, d ≤ s → ∀ q, p0 ≤ q → q + d = e → ∀ (M : mM), Bk M B → ∀ l, OPS M lv l → l.length + 4 * d ≤ 48 → ∀ m, d < m → ∃ N, f_X12_makes_25 K m (nI lv) (nI e) (nI q) (wM h M) = K (nI lv) (nI e) (nI e) (wM h N) ∧ OPS N lv (l ++ cdS B d q q) ∧ Fo lv M N := by
  have hz : ∀ i, p0 ≤ i → i < e → ∃ f, f < 24 ∧ ((B.1 59 i = 0 ∨ B.1 59 i = 1 ∨ B.1 59 i = 2) → B.1 60 i = nI f ∧ sfM B i = f) := fun i h1 h2 => by
    by_cases z : B.1 59 i = 0 ∨ B.1 59 i = 1 ∨ B.1 59 i = 2
    · obtain ⟨f, h3, h4⟩ := mIn_of (hs i h1 h2 z)
      exact ⟨f, h3, fun _ => ⟨h4, by unfold sfM; rw [h4, nI_clamp (by omega)]⟩⟩
    · exact ⟨0, by omega, fun y => absurd y z⟩
  intro s
  induction s with
  | zero =>
    intro d hd q hq hqe M hB l O hl m hm
    cases m with
    | zero => omega
    | succ m =>
      have ed : d = 0 := by omega
      subst ed
      have eq : q = e := by omega
      subst eq
      refine ⟨M, ?_, ?_, Fo.rf _ _⟩
      · rw [f_X12_makes_25, if_neg (nI_nlt (by omega) (by omega))]
      · show OPS M lv (l ++ opG B q q)
        unfold opG
        rw [if_neg (by omega), List.append_nil]
        exact O
  | succ s ih =>
    intro d hd q hq hqe M hB l O hl m hm
    cases d with
    | zero => exact ih 0 (by omega) q hq hqe M hB l O hl m hm
    | succ d =>
      cases m with
      | zero => omega
      | succ m =>
        have e2 : cdS B (d + 1) q q = opG B q q ++ (if B.1 59 q = 0 then cdS B d q (q + 1) else stB B q ++ cdS B d (q + 1) (q + 1)) := if_neg (fun y => by rw [Bool.and_eq_true] at y; have := of_decide_eq_true y.1; omega)
        have o2 : opG B q q = [] := if_neg (by omega)
        rw [e2, o2, List.nil_append]
        obtain ⟨f, hf, hqf⟩ := hz q hq (by omega)
        rw [f_X12_makes_25, if_pos (nI_lt (by omega) (by omega)), if_pos (mIn_nI (show q < 72 by omega) (by omega)), nI_clamp (by omega), wM_1 h M rfl, hB.a _ (by omega) (by omega), wM_1 h M rfl, hB.a q (show 46 ≤ 60 by omega) (by omega), ← nI_succ]
        by_cases k0 : B.1 59 q = 0
        · rw [if_pos k0, if_pos k0]
          rw [e_mk56 _ h hB hnl h12 _ he (hs q hq (by omega) (Or.inl k0)) (fun i h1 h2 h3 => hs i (by omega) h2 (Or.inl h3)) d (q + 1) (by omega) (by omega) mFu (mFu_lt (by omega))]
          have gl := gN_le B q d (q + 1)
          obtain ⟨N1, e1, O1, F1⟩ := e_groups h hB hn h24 (p := q) (q := gN B q d (q + 1)) (by omega) (by omega) (fun i h1 h2 => hs i (by omega) (by omega) (by
            by_cases y : i = q
            · subst y
              exact Or.inl k0
            · exact Or.inl (gN_set B q d (q + 1) i (by omega) h2))) hv O (by omega)
          have lg := grB_len B q (gN B q d (q + 1))
          obtain ⟨N2, e3, O2, F2⟩ := ih (q + 1 + d - gN B q d (q + 1)) (by omega) (gN B q d (q + 1)) (by omega) (by omega) N1 (F1.bk hB) _ O1 (by rw [List.length_append]; omega) m (by omega)
          rw [e1, Option.bind_some]
          refine ⟨N2, e3, ?_, F1.tr F2⟩
          rw [cdS_gN B q d (q + 1) (by omega), ← List.append_assoc]
          exact O2
        · rw [if_neg k0, if_neg k0]
          unfold stB
          by_cases k1 : B.1 59 q = 1
          · obtain ⟨hf1, hf2⟩ := hqf (Or.inr (Or.inl k1))
            rw [if_pos k1, if_pos k1, if_pos (hs q hq (by omega) (Or.inr (Or.inl k1))), hf1, e_mask hf h M, Option.bind_some, hf2, nI_clamp (by omega)]
            dsimp only
            rw [wM_1 h M rfl, wM_1 h M rfl, wM_1 h M rfl, wM_1 h M rfl, hB.a _ (by omega) (by omega), hB.a _ (by omega) (by omega), hB.a _ (by omega) (by omega), hB.a _ (by omega) (by omega), hB.m]
            obtain ⟨N1, e1, O1, F1⟩ := e_emit h hv O (by omega) 2 (B.1 46 f) (-2) (mskM B f) (B.1 61 q <<< (B.1 47 f &&& 31)) (B.1 62 q)
            obtain ⟨N2, e3, O2, F2⟩ := ih d (by omega) (q + 1) (by omega) (by omega) N1 (F1.bk hB) _ O1 (by rw [List.length_append]; show _ + 1 + _ ≤ _; omega) m (by omega)
            rw [e1, Option.bind_some]
            refine ⟨N2, e3, ?_, F1.tr F2⟩
            rw [← List.append_assoc]
            exact O2
          · rw [if_neg k1, if_neg k1]
            by_cases k2 : B.1 59 q = 2
            · obtain ⟨hf1, hf2⟩ := hqf (Or.inr (Or.inr k2))
              rw [if_pos k2, if_pos k2, if_pos (hs q hq (by omega) (Or.inr (Or.inr k2))), hf1, hf2, nI_clamp (by omega), wM_1 h M rfl, hB.a _ (by omega) (by omega)]
              obtain ⟨N0, e0, O0, F0⟩ := e_emit h hv O (by omega) 0 (B.1 46 f) (-2) (-2) (-2) (-2)
              obtain ⟨N1, e1, O1, F1⟩ := e_emit h hv O0 (by rw [List.length_append]; show _ + 1 < 50; omega) 4 (nI f) (-2) (-2) (-2) (-2)
              obtain ⟨N2, e3, O2, F2⟩ := ih d (by omega) (q + 1) (by omega) (by omega) N1 (F1.bk (F0.bk hB)) _ O1 (by rw [List.length_append, List.length_append]; show _ + 1 + 1 + _ ≤ _; omega) m (by omega)
              rw [e0, Option.bind_some, e1, Option.bind_some]
              refine ⟨N2, e3, ?_, (F0.tr F1).tr F2⟩
              rw [List.append_assoc, List.append_assoc] at O2
              exact O2
            · rw [if_neg k2, if_neg k2, wM_1 h M rfl, hB.a _ (by omega) (by omega)]
              obtain ⟨N1, e1, O1, F1⟩ := e_emit h hv O (by omega) 3 (B.1 61 q) (-2) (-2) (-2) (-2)
              obtain ⟨N2, e3, O2, F2⟩ := ih d (by omega) (q + 1) (by omega) (by omega) N1 (F1.bk hB) _ O1 (by rw [List.length_append]; show _ + 1 + _ ≤ _; omega) m (by omega)
              rw [e1, Option.bind_some]
              refine ⟨N2, e3, ?_, F1.tr F2⟩
              rw [← List.append_assoc]
              exact O2
theorem e_makes (h : mH) {M B : mM} (hB : Bk M B) {n nl : Nat} (hn : B.1 12 2 = nI n) (h24 : n ≤ 24) (hnl : B.1 12 11 = nI nl) (h12 : nl ≤ 12) {lv : Nat} (hv : lv < 2) {a s : Nat} (ha : a < 6) (hs0 : B.1 58 a = nI s) (h12s : s ≤ 12) (hs : ∀ i, 12 * a ≤ i → i < 12 * a + s → (B.1 59 i = 0 ∨ B.1 59 i = 1 ∨ B.1 59 i = 2) → mIn (B.1 60 i) 24 = true) : ∃ N, f_X12_makes (nI lv) (nI a) (wM h M) = some (wM h N) ∧ OPS N lv (cdM B a) ∧ Fo lv M N := by
  unfold f_X12_makes cdM
  simp only [mLet]
  have F0 : Fo lv M (uM M 93 lv 0) := ⟨fun t k h1 _ => if_neg h1, rfl⟩
  have O0 : OPS (uM M 93 lv 0) lv [] := ⟨uM_s _ _ _ _, fun i w hi => absurd hi (Nat.not_lt_zero i)⟩
  obtain ⟨N, e, O, F⟩ := e_mk25 (fun _ _ _ h28 => some h28) h hn h24 hnl h12 hv (p0 := 12 * a) (e := 12 * a + s) (by omega) hs s s (Nat.le_refl _) (12 * a) (Nat.le_refl _) rfl _ (F0.bk hB) [] O0 (by show 0 + 4 * s ≤ 48; omega) mFu (mFu_lt (by omega))
  refine ⟨N, ?_, ?_, F0.tr F⟩
  · rw [if_pos (mIn_nI hv (by omega)), nI_clamp (by omega), wM_u h M rfl, if_pos (mIn_nI ha (by omega)), nI_clamp (by omega), wM_1 h _ rfl, uM_t _ (by omega), hB.a _ (by omega) (by omega), hs0]
    show f_X12_makes_25 _ mFu (nI lv) (nI 12 * nI a + nI s) (nI 12 * nI a) _ = _
    rw [nI_mul, nI_add]
    exact e
  · rw [hs0, nI_clamp (by omega)]
    exact O
