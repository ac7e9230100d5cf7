/-! ===== class and model side by side: which handler comes; a row of handlers ===== -/
def fuN (p : Nat → Bool) : Nat → Nat → Option Nat
  | 0, _ => none
  | d + 1, j => if p j = true then some j else fuN p d (j + 1)
theorem fuN_some {p : Nat → Bool} : ∀ {d j f : Nat}, fuN p d j = some f → j ≤ f ∧ f < j + d ∧ p f = true
  | 0, _, _, h => by cases h
  | d + 1, j, f, h => by
    unfold fuN at h
    by_cases z : p j = true
    · rw [if_pos z] at h
      cases h
      exact ⟨Nat.le_refl _, by omega, z⟩
    · rw [if_neg z] at h
      have := fuN_some h
      exact ⟨by omega, by omega, this.2.2⟩
def flP (M : mM) (f : Nat) : Bool := decide (M.1 49 f = 2) && (!decide (M.1 53 f = -1) && !decide (M.1 63 f = 0))
def fuI (o : Option Nat) : Int32 := match o with
  | some f => nI f
  | none => -1
def fuA (M : mM) (o : Option Nat) : Int32 := match o with
  | some f => M.1 53 f
  | none => -1
theorem e_fu2 (g : mH) {M : mM} {n : Nat} (hn : M.1 12 2 = nI n) (h24 : n ≤ 24) : ∀ d j, j + d = n → ∀ m, d < m → f_X12_flagUp_2 (fun _ h7 => some ((-1), h7)) m (nI j) (wM g M) = some (fuI (fuN (flP M) d j), wM g M) := by
  intro d
  induction d with
  | zero =>
    intro j hj m hm
    cases m with
    | zero => omega
    | succ m => rw [f_X12_flagUp_2, wM_1 g M rfl, hn, if_neg (nI_nlt (by omega) (by omega))]; rfl
  | succ d ih =>
    intro j hj m hm
    cases m with
    | zero => omega
    | succ m =>
      have i2 := ih (j + 1) (by omega) m (by omega)
      rw [f_X12_flagUp_2, wM_1 g M rfl, hn, if_pos (nI_lt (by omega) (by omega)), if_pos (mIn_nI (show j < 24 by omega) (by omega)), nI_clamp (by omega), wM_1 g M rfl, wM_1 g M rfl, wM_1 g M rfl, ← nI_succ]
      unfold fuN flP
      by_cases q1 : M.1 49 j = 2
      · rw [if_pos q1, decide_eq_true q1]
        by_cases q2 : M.1 53 j = -1
        · rw [if_pos q2, decide_eq_true q2, if_neg (by simp)]
          exact i2
        · rw [if_neg q2, decide_eq_false q2]
          by_cases q3 : M.1 63 j = 0
          · rw [if_pos q3, decide_eq_true q3, if_neg (by simp)]
            exact i2
          · rw [if_neg q3, decide_eq_false q3, if_pos (by simp)]
            rfl
      · rw [if_neg q1, decide_eq_false q1, if_neg (by simp)]
        exact i2
theorem e_flagUp (g : mH) {M : mM} {n : Nat} (hn : M.1 12 2 = nI n) (h24 : n ≤ 24) : f_X12_flagUp (wM g M) = some (fuI (fuN (flP M) n 0), wM g M) := e_fu2 g hn h24 n 0 (by omega) mFu (mFu_lt (by omega))
theorem c_fu2 {h : mH} {M : mM} {n na : Nat} (S : CS h n M) (oh : ∀ f, f < n → M.1 53 f = -1 ∨ ∃ a, a < na ∧ M.1 53 f = nI a ∧ M.1 49 f = 2) (h6 : na ≤ 6) : ∀ d j, j + d = n → ∀ m, d < m → f_X5_calledAct_2 (fun _ h6 => some ((-1), h6)) m (nI j) h = some (fuA M (fuN (flP M) d j), h) := by
  have h24 := S.1.1
  intro d
  induction d with
  | zero =>
    intro j hj m hm
    cases m with
    | zero => omega
    | succ m => rw [f_X5_calledAct_2, S.1.2.2.1, if_neg (nI_nlt (by omega) (by omega))]; rfl
  | succ d ih =>
    intro j hj m hm
    cases m with
    | zero => omega
    | succ m =>
      have i2 := ih (j + 1) (by omega) m (by omega)
      have hjn : j < n := by omega
      have e9 := (S.1.2.2.2 j hjn).2.2.2.2.2
      have e63 : h.1 33 0 j = M.1 63 j := S.2.2.1.1 0 (by omega) j hjn
      rw [f_X5_calledAct_2, S.1.2.2.1, if_pos (nI_lt (by omega) (by omega)), if_pos (mIn_nI (show j < 24 by omega) (by omega)), nI_clamp (by omega), e9, e63, ← nI_succ]
      unfold fuN flP
      rcases oh j hjn with q | ⟨a, a1, a2, a3⟩
      · rw [q, if_pos (by decide), if_neg (by simp)]
        exact i2
      · rw [a2, a3, if_neg (nI_pos (by omega)), decide_eq_false (show ¬ nI a = -1 from fun z => by
          have := nI_pos (n := a) (by omega)
          rw [z] at this
          exact this (by decide))]
        by_cases q3 : M.1 63 j = 0
        · rw [if_pos q3, decide_eq_true q3, if_neg (by simp)]
          exact i2
        · rw [if_neg q3, decide_eq_false q3, if_pos (by simp)]
          exact congrArg (fun z => some (z, h)) a2.symm
theorem s_serve {g : mH} {B : mM} {n na : Nat} (oa : okA B n na) : ∀ d s, s + d = 8 → ∀ h M, CS h n M → AL h B na → Bk M B → h.1 5 0 5 = M.1 12 67 → ∀ mc mm, d < mc → d < mm → ∃ h' N, f_X5_serve_2 (fun _ h18 => some h18) mc (nI s) h = some h' ∧ f_X12_handles_2_2 (fun _ _ h13 => some h13) mm 0 (nI s) (wM g M) = some (wM g N) ∧ CS h' n N ∧ AL h' B na ∧ Bk N B ∧ N.1 12 67 = M.1 12 67 ∧ h'.1 5 0 5 = h.1 5 0 5 ∧ Fy 1 h h' ∧ Fh M N := by
  intro d
  induction d with
  | zero =>
    intro s hs h M S A hB h5 mc mm hc hm
    cases mc with
    | zero => omega
    | succ mc =>
      cases mm with
      | zero => omega
      | succ mm =>
        have n8 : ¬ nI s < 8 := nI_nlt (b := 8) (by omega) (by omega)
        refine ⟨h, M, ?_, ?_, S, A, hB, rfl, rfl, Fy.rf _ _, Fh.rf _⟩
        · rw [f_X5_serve_2, if_neg n8]
        · rw [f_X12_handles_2_2, if_pos rfl, if_neg n8]
          split <;> rfl
  | succ d ih =>
    intro s hs h M S A hB h5 mc mm hc hm
    cases mc with
    | zero => omega
    | succ mc =>
      cases mm with
      | zero => omega
      | succ mm =>
        have y8 : nI s < 8 := nI_lt (b := 8) (by omega) (by omega)
        rw [f_X5_serve_2, if_pos y8, h5, f_X12_handles_2_2, if_pos rfl, wM_1 g M rfl, if_pos y8]
        by_cases q : M.1 12 67 = 0
        · rw [if_pos q, if_pos q]
          have h24 := S.1.1
          have h53 : ∀ f, M.1 53 f = B.1 53 f := fun f => hB.a f (by omega) (by omega)
          have h49 : ∀ f, M.1 49 f = B.1 49 f := fun f => hB.a f (by omega) (by omega)
          have oh : ∀ f, f < n → M.1 53 f = -1 ∨ ∃ a, a < na ∧ M.1 53 f = nI a ∧ M.1 49 f = 2 := fun f hf => by rw [h53, h49]; exact oa.2.2.1 f hf
          have ec : f_X5_calledAct h = some (fuA M (fuN (flP M) n 0), h) := c_fu2 S oh A.1 n 0 (by omega) mFu (mFu_lt (by omega))
          rw [e_flagUp g S.2.2.2.2.1.2.1 h24, Option.bind_some, ec, Option.bind_some]
          dsimp only
          rw [e_flagUp g S.2.2.2.2.1.2.1 h24, Option.bind_some]
          dsimp only
          cases hf : fuN (flP M) n 0 with
          | none =>
            have e1 : f_X1_hasAct (fuA M none) h = some (0, h) := by
              unfold f_X1_hasAct
              rw [if_pos (show fuA M none < 0 from (show (-1 : Int32) < 0 by decide))]
            rw [e1, Option.bind_some, if_pos rfl, if_pos (show fuI none = -1 from rfl)]
            exact ⟨h, M, rfl, rfl, S, A, hB, rfl, h5, Fy.rf _ _, Fh.rf _⟩
          | some f =>
            obtain ⟨-, f2, f3⟩ := fuN_some hf
            rw [Nat.zero_add] at f2
            have nh : ¬ M.1 53 f = -1 := fun z => by
              unfold flP at f3
              rw [z] at f3
              simp at f3
            obtain ⟨a, a1, a2, a3⟩ := (oh f f2).resolve_left nh
            have A6 := A.1
            have ef : fuA M (some f) = nI a := a2
            have ef2 : fuI (some f) = nI f := rfl
            have e1 : f_X1_hasAct (nI a) h = some (1, h) := by
              unfold f_X1_hasAct
              rw [if_neg (nI_pos (by omega)), A.2.1, if_pos (nI_lt a1 (by omega))]
            have nf : ¬ nI f = -1 := fun z => by
              have := nI_pos (n := f) (by omega)
              rw [z] at this
              exact this (by decide)
            rw [ef, ef2, e1, Option.bind_some, if_neg (show ¬ (1 : Int32) = 0 by decide), if_pos (mIn_nI (show a < 6 by omega) (by omega)), nI_clamp (n := a) (by omega), c_start, Option.bind_some, if_neg nf, if_pos (mIn_nI (show f < 24 by omega) (by omega)), nI_clamp (n := f) (by omega), wM_1 g M rfl, wM_1 g M rfl, a2]
            dsimp only
            obtain ⟨h', N, late, v5, e2, e3, S1, A1, B1, k5, k67, F1, G1⟩ := s_hand (g := g) oa a1 S A hB (h5.trans q) q (fun u12 u13 _ h15 => mLet (uI h15 8 0 11 u13) fun h16 => f_X5_serve_2 (fun _ h18 => some h18) mc (u12 + 1) (uI h16 8 0 12 ((h16.1 8 0 12) + 1))) (nI s) (h.1 8 0 11)
            rw [e2, e3, Option.bind_some]
            simp only [mLet]
            have ex : h.1 8 0 11 = M.1 12 38 := S.2.2.1.2.2.2.1.2.1
            have ey : h'.1 8 0 12 = N.1 12 37 := S1.2.2.1.2.2.2.1.2.2.1
            have ey2 : (uI h' 8 0 11 (M.1 12 38)).1 8 0 12 = N.1 12 37 := by
              rw [uI_1, if_neg (by omega)]
              exact ey
            rw [ex, ey2, wM_u g _ rfl, wM_u g _ rfl, wM_1 g _ rfl, wM_u g _ rfl, uM_k _ (by omega), uM_k _ (by omega), ← nI_succ]
            have R1 := (S1.2.2.1.sc (a := 11) (b := 38) (M.1 12 38) (by omega))
            have S2 : CS (uI h' 8 0 11 (M.1 12 38)) n (uM N 12 38 (M.1 12 38)) := S1.mk' (Fs.u _ _ (by omega)) (Fm.u _ _ (by omega)) R1 (S1.2.2.2.2.2.mk' (uM_k _ (by omega)) (fun k => uM_t _ (by omega)) (fun k => uM_t _ (by omega)) (fun f hf => ⟨fun q => uM_t _ (by omega), fun q => Or.inl (uM_t _ (by omega)), fun q => Or.inl (uM_t _ (by omega))⟩))
            have S3 := S2.i (Eq7.u67 (uM N 12 38 (M.1 12 38)) 0)
            have R3 := (S3.2.2.1.sc (a := 12) (b := 37) (N.1 12 37 + 1) (by omega))
            have S4 : CS (uI (uI h' 8 0 11 (M.1 12 38)) 8 0 12 (N.1 12 37 + 1)) n (uM (uM (uM N 12 38 (M.1 12 38)) 12 67 0) 12 37 (N.1 12 37 + 1)) := S3.mk' (Fs.u _ _ (by omega)) (Fm.u _ _ (by omega)) R3 (S3.2.2.2.2.2.mk' (uM_k _ (by omega)) (fun k => uM_t _ (by omega)) (fun k => uM_t _ (by omega)) (fun f hf => ⟨fun q => uM_t _ (by omega), fun q => Or.inl (uM_t _ (by omega)), fun q => Or.inl (uM_t _ (by omega))⟩))
            have F4 : Fy 1 h (uI (uI h' 8 0 11 (M.1 12 38)) 8 0 12 (N.1 12 37 + 1)) := (F1.tr ((Fs.u _ _ (by omega)).d 1).y).tr ((Fs.u _ _ (by omega)).d 1).y
            have G4 : Fh M (uM (uM (uM N 12 38 (M.1 12 38)) 12 67 0) 12 37 (N.1 12 37 + 1)) := ((G1.tr (Fm.u _ _ (by omega)).h).tr (Fi.u67 1 _ _).h).tr (Fm.u _ _ (by omega)).h
            have l4 : (uM (uM (uM N 12 38 (M.1 12 38)) 12 67 0) 12 37 (N.1 12 37 + 1)).1 12 67 = 0 := by rw [uM_k _ (by omega), uM_s]
            have l5 : (uI (uI h' 8 0 11 (M.1 12 38)) 8 0 12 (N.1 12 37 + 1)).1 5 0 5 = 0 := by rw [uI_ne (fun z => by omega), uI_ne (fun z => by omega), k5]
            obtain ⟨h6, N6, e6, e7, S6, A6', B6, k6, k7, F6, G6⟩ := ih (s + 1) (by omega) _ _ S4 (F4.al A) (G4.bk hB) (l5.trans l4.symm) mc mm (by omega) (by omega)
            exact ⟨h6, N6, e6, e7, S6, A6', B6, (k6.trans l4).trans q.symm, by rw [k7, l5, q], F4.tr F6, G4.tr G6⟩
        · rw [if_neg q, if_neg q]
          exact ⟨h, M, rfl, rfl, S, A, hB, rfl, h5, Fy.rf _ _, Fh.rf _⟩
/-- handlers come between the beats of an act -/
theorem btw_0 {g : mH} {B : mM} {n na j : Nat} (oa : okA B n na) (hj : j < na) : Btw g B n na 0 j f_X5_serve (f_X12_handles_2 (nI 0)) := fun h M i b D => by
  obtain ⟨d1, d2, d3, d4, d5, d6⟩ := D
  obtain ⟨h', N, e1, e2, S, A, B1, k1, k2, F, G⟩ := s_serve (g := g) oa 8 0 (by omega) h M d1 d2 d3 d6 mFu mFu (mFu_lt (by omega)) (mFu_lt (by omega))
  have hl : (cdM B j).length ≤ 50 := by have := (d2.2.2 j hj).1; omega
  refine ⟨h', N, e1, e2, ⟨S, A, B1, G.i.ops hl d4, ?_, by rw [k2, k1, d6]⟩, ⟨fun t i p q r => F.1 t i p (fun z => q ⟨z.1, by omega⟩) r, F.2⟩, G.i, k1⟩
  unfold Co
  rw [F.1 4 0 (by omega) (by omega) (by omega), G.1 95 0 (by omega) (by omega) (by omega) (by omega) (by omega) (by omega)]
  exact d5
theorem lc_0 (Kc : Int32 → mH → Option (Int32 × mH)) (c : List (Nat → Int32)) (j : Nat) : LC c j 0 f_X5_serve (fun u h => f_X5_runAct_27 Kc j (mFu - u) (nI u) h) := fun u h i b a hu C hi o => by
  dsimp only
  rw [fuS hu, f_X5_runAct_27, if_pos (show nI u < 1008 from nI_lt (b := 1008) hu (by omega)), go_on C hi o, Option.bind_some, if_neg (show ¬ (1 : Int32) = 0 by decide), ← nI_succ]
/-- what a run changes of the model's memory -/
def Fr (M N : mM) : Prop := (∀ t k, ¬ (63 ≤ t ∧ t ≤ 71) → ¬ (92 ≤ t ∧ t ≤ 95) → ¬ (t = 12 ∧ (k = 23 ∨ k = 30 ∨ (34 ≤ k ∧ k ≤ 38) ∨ k = 67)) → N.1 t k = M.1 t k) ∧ N.2 = M.2
theorem Fr.tr {a b c : mM} (h1 : Fr a b) (h2 : Fr b c) : Fr a c := ⟨fun t k p q r => (h2.1 t k p q r).trans (h1.1 t k p q r), h2.2.trans h1.2⟩
theorem Fi.r {lv : Nat} {M N : mM} (f : Fi lv M N) : Fr M N := ⟨fun t k p q r => f.1 t k p (by omega) r (by omega) (by omega) (by omega), f.2⟩
theorem Fo.r {lv : Nat} {M N : mM} (f : Fo lv M N) : Fr M N := ⟨fun t k p q r => f.1 t k (by omega) (by omega), f.2⟩
theorem Fr.bk {M N B : mM} (f : Fr M N) (h : Bk M B) : Bk N B := fun t k z => (f.1 t k (by omega) (by omega) (by omega)).trans (h t k z)
/-- a RUN of the class is the model's -/
theorem s_run {g : mH} {B : mM} {n na a : Nat} {h : mH} {M : mM} (oa : okA B n na) (ha : a < na) (S : CS h n M) (A : AL h B na) (hB : Bk M B) : ∃ h' N late, f_X5_runAct (nI a) h = some (b2i (!late), h') ∧ f_X12_runs_2 0 (nI a) (wM g M) = some (b2i late, wM g N) ∧ CS h' n N ∧ AL h' B na ∧ Bk N B ∧ Fy 0 h h' ∧ Fr M N := by
  have oa0 := oa
  obtain ⟨⟨hn, h24⟩, ⟨nl, hnl, enl⟩, oh, oc⟩ := oa
  obtain ⟨⟨s, hs, es, hst⟩, okc, lk⟩ := oc a ha
  have A6 := A.1
  obtain ⟨N0, e0, O0, F0⟩ := e_makes g hB hn h24 enl hnl (lv := 0) (by omega) (a := a) (by omega) es hs hst
  have ec : (cdM B a).length ≤ 48 := (A.2.2 a ha).1
  have Fa : Fi 0 N0 (uM (uM N0 95 0 0) 12 67 0) := (Fi.u95 0 _ _).tr (Fi.u67 0 _ _)
  have Fz : Fy 0 h (stH (uI h 5 0 5 0) 0) := (Fdr.u5 0 _ _ _).y.tr (st_d _ 0).y
  have D0 : DR B n na 0 a (stH (uI h 5 0 5 0) 0) (uM (uM N0 95 0 0) 12 67 0) 0 0 := by
    refine ⟨(((((S.o (u5_o _ _ _)).o (st_o _ 0)).i (Eq7.fo F0)).i (Eq7.u95 _ _ _)).i (Eq7.u67 _ _)), Fz.al A, Fa.bk (F0.bk hB), Fa.ops (by omega) O0, ?_, ?_⟩
    · rw [uM_t _ (by omega), uM_s]
      exact st_co _ 0
    · rw [st_5, uI_1, if_pos ⟨rfl, rfl, rfl⟩, uM_s]
  obtain ⟨h', N, u', v4', late, hu', eL, F1, G1, eR, k67, S1, A1, B1, k5, kt, ke⟩ := s_loop (g := g) (k := 0) (by omega) ha (btw_0 oa0 ha) (lc_0 (fun _ h9 => (f_X5_serve (uI h9 5 0 5 0)).bind fun r10 => if (r10.1 4 0 3) = 0 then some (1, r10) else some (0, r10)) (cdM B a) a) (fun v2 => PU_2 (nI 0) v2) (fun v2 => QU_2 (nI 0) v2) (RU_2 (nI 0) (fun u23 u24 _ h26 => (f_X12_handles_2 u23 (uI h26 12 0 67 0)).bind fun r27 => if (u24 = 0 ∨ u24 = 1) then some (u24, r27) else none)) okc (cdM B a).length 0 (by omega) (stH (uI h 5 0 5 0) 0) _ 0 false D0 (by omega) (uM_s _ _ _ _) lk
  have S2 : CS (uI h' 5 0 5 0) n (uM N 12 67 0) := (S1.o (u5_o _ _ _)).i (Eq7.u67 _ _)
  have F2 : Fy 0 h (uI h' 5 0 5 0) := (Fz.tr F1).tr (Fdr.u5 0 _ _ _).y
  obtain ⟨h3, N3, e1, e2, S3, A3, B3, k1, k2, F3, G3⟩ := s_serve (g := g) oa0 8 0 (by omega) (uI h' 5 0 5 0) (uM N 12 67 0) S2 (F2.al A) ((Fi.u67 0 _ _).bk B1) (by rw [uI_1, if_pos ⟨rfl, rfl, rfl⟩, uM_s]) mFu mFu (mFu_lt (by omega)) (mFu_lt (by omega))
  have e4 : h3.1 4 0 3 = b2i late := by rw [F3.1 4 0 (by omega) (by omega) (by omega), uI_ne (fun z => by omega)]; exact kt
  have fin : f_X5_runAct_27 (fun _ h9 => (f_X5_serve (uI h9 5 0 5 0)).bind fun r10 => if (r10.1 4 0 3) = 0 then some (1, r10) else some (0, r10)) a (mFu - u') (nI u') h' = some (b2i (!late), h3) := by
    have : ∃ m, mFu - u' = m + 1 := ⟨mFu - u' - 1, by have := mFu_lt (N := 2000) (by omega); omega⟩
    obtain ⟨m, em⟩ := this
    have ev : f_X5_serve (uI h' 5 0 5 0) = some h3 := e1
    rw [em, f_X5_runAct_27]
    have eg : f_X4_goesOn 0 a h' = some (0, h') := by
      unfold f_X4_goesOn
      cases late
      · rw [ke rfl, (A1.2.2 a ha).2.1, if_neg (nI_nlt (Nat.le_refl _) (by omega))]
      · split
        · rw [kt, if_neg (by decide)]
        · rfl
    have t : ((f_X5_serve (uI h' 5 0 5 0)).bind fun r10 => if (r10.1 4 0 3) = 0 then some ((1 : Int32), r10) else some (0, r10)) = some (b2i (!late), h3) := by
      rw [ev, Option.bind_some, e4]
      cases late
      · rw [if_pos (show b2i false = 0 from rfl)]
        rfl
      · rw [if_neg (by decide)]
        rfl
    split
    · rw [eg, Option.bind_some, if_pos rfl]
      exact t
    · exact t
  refine ⟨h3, N3, late, ?_, ?_, S3, A3, B3, F2.tr ⟨fun t i p q r => F3.1 t i p (fun z => q ⟨z.1, by omega⟩) r, F3.2⟩, ((F0.r.tr Fa.r).tr (G1.r.tr (Fi.u67 0 _ _).r)).tr G3.i.r⟩
  · unfold f_X5_runAct
    rw [if_pos (mIn_nI (show a < 6 by omega) (by omega)), nI_clamp (by omega), c_start, Option.bind_some]
    have := eL.trans fin
    rw [Nat.sub_zero] at this
    exact this
  · unfold f_X12_runs_2
    show (f_X12_makes (nI 0) (nI a) (wM g M)).bind _ = _
    rw [e0, Option.bind_some]
    simp only [mLet]
    have e1' : (0 : Int32).toNatClampNeg = 0 := rfl
    rw [if_pos (by decide), e1', wM_u g _ rfl, wM_u g _ rfl]
    have := eR mFu (mFu_lt (by omega))
    refine Eq.trans this ?_
    have ev : f_X12_handles_2 (nI 0) (wM g (uM N 12 67 0)) = some (wM g N3) := e2
    rw [wM_u g _ rfl, ev, Option.bind_some, if_pos (b2i_01 _)]
