/-! ===== class and model side by side: a whole code; a handler's run ===== -/
/-- LOCK and FREE come in pairs, no POLL between them -/
def LK : Bool → List (Nat → Int32) → Prop
  | b, [] => b = false
  | b, o :: c => if o 0 = 5 then LK true c else if o 0 = 6 then LK false c else (o 0 = 2 → b = false) ∧ LK b c
theorem drop_o (c : List (Nat → Int32)) {i : Nat} (h : i < c.length) : c.drop i = c.getD i o0 :: c.drop (i + 1) := by
  rw [List.drop_eq_getElem_cons h, List.getD_eq_getElem?_getD, List.getElem?_eq_getElem h]
  rfl
theorem s_loop {g : mH} {β γ : Type} {B : mM} {n na k j : Nat} {BC BM : mH → Option mH} {L : Nat → mH → Option β} {P : Int32 → Nat → Int32 → mH → Option (Int32 × mH)} {Q : Int32 → Nat → Int32 → mH → Option mH} {K : Int32 → Int32 → mH → Option γ} {R : Nat → Int32 → Int32 → mH → Option γ} (hk : k < 2) (hj : j < na) (bt : Btw g B n na k j BC BM) (lc : LC (cdM B j) j k BC L) (pu : ∀ v2, PU BM (nI k) v2 (P v2)) (qu : ∀ v2, QU BM v2 (Q v2)) (ru : RU BM (nI k) (fun a h => P a mFu 0 h) (fun a h => Q a mFu 0 h) K R) (ok : ∀ i, i < (cdM B j).length → okO n ((cdM B j).getD i o0)) : ∀ d i, i + d = (cdM B j).length → ∀ h M u b, DR B n na k j h M i 0 → u ≤ 21 * i → M.1 12 67 = b2i b → LK b ((cdM B j).drop i) → ∃ h' N u' v4 late, u' ≤ 1008 ∧ L u h = L u' h' ∧ Fy k h h' ∧ Fi k M N ∧ (∀ m, d < m → R m 0 (nI i) (wM g M) = K (b2i late) v4 (wM g N)) ∧ N.1 12 67 = 0 ∧ CS h' n N ∧ AL h' B na ∧ Bk N B ∧ h'.1 5 0 5 = 0 ∧ h'.1 4 k 3 = b2i late ∧ (late = false → h'.1 4 k 0 = nI (cdM B j).length) := by
  intro d
  induction d with
  | zero =>
    intro i hi h M u b D hu hb hlk
    have ei : i = (cdM B j).length := by omega
    have hl : (cdM B j).length ≤ 48 := (D.2.1.2.2 j hj).1
    have z : (cdM B j).drop i = [] := by rw [ei]; exact List.drop_length
    rw [z] at hlk
    have hb0 : b = false := hlk
    subst hb0
    have e67 : M.1 12 67 = 0 := hb
    refine ⟨h, M, u, nI i, false, by omega, rfl, Fy.rf _ _, Fi.rf _ _, fun m hm => ?_, e67, D.1, D.2.1, D.2.2.1, by rw [D.2.2.2.2.2, e67], D.2.2.2.2.1.2.2.2, fun _ => by rw [D.2.2.2.2.1.1, ei]⟩
    cases m with
    | zero => omega
    | succ m => rw [ru, if_pos (mIn_nI hk (by omega)), nI_clamp (by omega), wM_1 g M rfl, D.2.2.2.1.1, if_neg (nI_nlt (by omega) (by omega))]; rfl
  | succ d ih =>
    intro i hi h M u b D hu hb hlk
    have hi2 : i < (cdM B j).length := by omega
    have hl : (cdM B j).length ≤ 48 := (D.2.1.2.2 j hj).1
    obtain ⟨h1, N1, u1, hu1, e1, F1, G1, K1, res⟩ := s_instr hk hj bt lc pu qu ru hi2 (ok i hi2) D hu
    rw [drop_o _ hi2] at hlk
    rcases res with ⟨r1, D1⟩ | ⟨k2, r1, D1⟩
    · have hn : ∃ b', N1.1 12 67 = b2i b' ∧ LK b' ((cdM B j).drop (i + 1)) := by
        rw [K1]
        unfold lkO
        unfold LK at hlk
        by_cases z5 : ((cdM B j).getD i o0) 0 = 5
        · rw [if_pos z5] at hlk ⊢
          exact ⟨true, rfl, hlk⟩
        · rw [if_neg z5] at hlk ⊢
          by_cases z6 : ((cdM B j).getD i o0) 0 = 6
          · rw [if_pos z6] at hlk ⊢
            exact ⟨false, rfl, hlk⟩
          · rw [if_neg z6] at hlk ⊢
            exact ⟨b, hb, hlk.2⟩
      obtain ⟨b', hb', hlk'⟩ := hn
      obtain ⟨h2, N2, u2, v4, late, hu2, e2, F2, G2, r2, rest⟩ := ih (i + 1) (by omega) h1 N1 u1 b' D1 hu1 hb' hlk'
      refine ⟨h2, N2, u2, v4, late, hu2, e1.trans e2, F1.tr F2, G1.tr G2, fun m hm => ?_, rest⟩
      cases m with
      | zero => omega
      | succ m =>
        rw [r1 m]
        exact r2 m (by omega)
    · unfold LK at hlk
      rw [k2, if_neg (by decide), if_neg (by decide)] at hlk
      have hb0 : b = false := hlk.1 rfl
      subst hb0
      have e67 : N1.1 12 67 = 0 := by
        rw [K1]
        unfold lkO
        rw [k2, if_neg (by decide), if_neg (by decide), hb]
        rfl
      have h1008 : u1 ≤ 1008 := by omega
      refine ⟨h1, N1, u1, nI (i + 1), true, h1008, e1, F1, G1, fun m hm => ?_, e67, D1.1, D1.2.1, D1.2.2.1, by rw [D1.2.2.2.2, e67], D1.2.2.2.1, fun z => absurd z (by decide)⟩
      cases m with
      | zero => omega
      | succ m =>
        rw [r1 m]
        cases m with
        | zero => omega
        | succ m =>
          rw [ru, if_pos (mIn_nI hk (by omega)), nI_clamp (by omega)]
          split
          · rw [if_neg (by decide)]
            rfl
          · rfl
/-- acts and their code as they may be -/
def okA (B : mM) (n na : Nat) : Prop := (B.1 12 2 = nI n ∧ n ≤ 24) ∧ (∃ nl, nl ≤ 12 ∧ B.1 12 11 = nI nl) ∧ (∀ f, f < n → B.1 53 f = -1 ∨ ∃ a, a < na ∧ B.1 53 f = nI a ∧ B.1 49 f = 2) ∧ ∀ a, a < na → (∃ s, s ≤ 12 ∧ B.1 58 a = nI s ∧ ∀ i, 12 * a ≤ i → i < 12 * a + s → (B.1 59 i = 0 ∨ B.1 59 i = 1 ∨ B.1 59 i = 2) → mIn (B.1 60 i) 24 = true) ∧ (∀ i, i < (cdM B a).length → okO n ((cdM B a).getD i o0)) ∧ LK false (cdM B a)
/-- what a handler's run changes of the model's memory -/
def Fh (M N : mM) : Prop := (∀ t k, ¬ (63 ≤ t ∧ t ≤ 71) → t ≠ 92 → ¬ (t = 12 ∧ (k = 23 ∨ k = 30 ∨ (34 ≤ k ∧ k ≤ 38) ∨ k = 67)) → ¬ (t = 93 ∧ 1 ≤ k) → ¬ (t = 94 ∧ 300 ≤ k) → ¬ (t = 95 ∧ 1 ≤ k) → N.1 t k = M.1 t k) ∧ N.2 = M.2
theorem Fh.rf (M : mM) : Fh M M := ⟨fun _ _ _ _ _ _ _ _ => rfl, rfl⟩
theorem Fh.tr {a b c : mM} (h1 : Fh a b) (h2 : Fh b c) : Fh a c := ⟨fun t k p1 p2 p3 p4 p5 p6 => (h2.1 t k p1 p2 p3 p4 p5 p6).trans (h1.1 t k p1 p2 p3 p4 p5 p6), h2.2.trans h1.2⟩
theorem Fo.h {M N : mM} (f : Fo 1 M N) : Fh M N := ⟨fun t k _ _ _ p4 p5 _ => f.1 t k (by omega) (by omega), f.2⟩
theorem Fi.h {M N : mM} (f : Fi 1 M N) : Fh M N := ⟨fun t k p1 p2 p3 p4 p5 p6 => f.1 t k p1 p2 p3 (by omega) (by omega) p6, f.2⟩
theorem Fm.h {M N : mM} (f : Fm M N) : Fh M N := ⟨fun t k p1 p2 p3 _ _ _ => f.1 t k p1 p2 (by omega), f.2⟩
theorem Fh.i {M N : mM} (f : Fh M N) : Fi 0 M N := ⟨fun t k p1 p2 p3 p4 p5 p6 => f.1 t k p1 p2 p3 (by omega) (by omega) (by omega), f.2⟩
theorem Fh.bk {M N B : mM} (f : Fh M N) (h : Bk M B) : Bk N B := f.i.bk h
theorem hd_1 (g : mH) (M : mM) : f_X12_handles_1 (nI 1) (wM g M) = some (wM g M) := by
  obtain ⟨m, em, _⟩ := fu_21
  unfold f_X12_handles_1
  rw [em]
  show f_X12_handles_1_2 _ (m + 1) (nI 1) 0 (wM g M) = _
  rw [f_X12_handles_1_2, if_neg (by decide)]
theorem btw_1 (g : mH) (B : mM) (n na j : Nat) : Btw g B n na 1 j some (f_X12_handles_1 (nI 1)) := fun h M i b D => ⟨h, M, rfl, hd_1 g M, D, Fy.rf _ _, Fi.rf _ _, rfl⟩
theorem fuS {u : Nat} (h : u < 1008) : mFu - u = (mFu - (u + 1)) + 1 := by
  have := mFu_lt (N := 2000) (by omega)
  omega
theorem go_on {h : mH} {k j i : Nat} {c : List (Nat → Int32)} {b a : Int32} (C : CC h j c) (hi : i < c.length) (o : Co h k (nI i) b a 0) : f_X4_goesOn k j h = some (1, h) := by
  have := C.1
  unfold f_X4_goesOn
  rw [o.1, C.2.1, if_pos (nI_lt hi (by omega)), if_pos o.2.2.2]
theorem lc_1 (Kc : Int32 → Int32 → Int32 → mH → Option mH) (v1 v4 : Int32) (c : List (Nat → Int32)) (j : Nat) : LC c j 1 some (fun u h => f_X5_serve_64 Kc j (mFu - u) v1 v4 (nI u) h) := fun u h i b a hu C hi o => by
  dsimp only
  rw [fuS hu, f_X5_serve_64, if_pos (show nI u < 1008 from nI_lt (b := 1008) hu (by omega)), go_on C hi o, Option.bind_some, if_neg (show ¬ (1 : Int32) = 0 by decide), Option.bind_some, ← nI_succ]
/-- a course begins -/
def stH (h : mH) (k : Nat) : mH := uI (uI (uI (uI h 4 k 0 0) 4 k 1 0) 4 k 2 0) 4 k 3 0
theorem c_start (h : mH) (k : Nat) : f_X4_start k h = some (stH h k) := rfl
theorem st_co (h : mH) (k : Nat) : Co (stH h k) k (nI 0) (nI 0) 0 0 := by
  unfold stH
  refine ⟨?_, ?_, ?_, ?_⟩
  · rw [uI4, if_neg (by omega), uI4, if_neg (by omega), uI4, if_neg (by omega), uI4, if_pos rfl]; rfl
  · rw [uI4, if_neg (by omega), uI4, if_neg (by omega), uI4, if_pos rfl]; rfl
  · rw [uI4, if_neg (by omega), uI4, if_pos rfl]
  · rw [uI4, if_pos rfl]
theorem st_d (h : mH) (k : Nat) : Fdr k h (stH h k) := (((Fdr.u4 k _ _ _).tr (Fdr.u4 k _ _ _)).tr (Fdr.u4 k _ _ _)).tr (Fdr.u4 k _ _ _)
theorem st_o (h : mH) (k : Nat) : ∀ t i, t ≠ 4 → t ≠ 5 → (stH h k).1 t i = h.1 t i := fun t i h4 _ => (((uI_ne (fun z => h4 z.1)).trans (uI_ne (fun z => h4 z.1))).trans (uI_ne (fun z => h4 z.1))).trans (uI_ne (fun z => h4 z.1))
theorem st_5 (h : mH) (k : Nat) : (stH h k).1 5 0 = h.1 5 0 := (((uI_ne (fun z => by omega)).trans (uI_ne (fun z => by omega))).trans (uI_ne (fun z => by omega))).trans (uI_ne (fun z => by omega))
theorem s_hand {g : mH} {B : mM} {n na a : Nat} {h : mH} {M : mM} (oa : okA B n na) (ha : a < na) (S : CS h n M) (A : AL h B na) (hB : Bk M B) (h5 : h.1 5 0 5 = 0) (h67 : M.1 12 67 = 0) (Kc : Int32 → Int32 → Int32 → mH → Option mH) (v1 v4 : Int32) : ∃ h' N late v5, f_X5_serve_64 Kc a mFu v1 v4 0 (stH h 1) = Kc v1 v4 v5 h' ∧ f_X12_runs_1 1 (nI a) (wM g M) = some (b2i late, wM g N) ∧ CS h' n N ∧ AL h' B na ∧ Bk N B ∧ h'.1 5 0 5 = 0 ∧ N.1 12 67 = 0 ∧ Fy 1 h h' ∧ Fh M N := by
  obtain ⟨⟨hn, h24⟩, ⟨nl, hnl, enl⟩, oh, oc⟩ := oa
  obtain ⟨⟨s, hs, es, hst⟩, okc, lk⟩ := oc a ha
  have A6 := A.1
  obtain ⟨N0, e0, O0, F0⟩ := e_makes g hB hn h24 enl hnl (lv := 1) (by omega) (a := a) (by omega) es hs hst
  have ec : (cdM B a).length ≤ 48 := (A.2.2 a ha).1
  have Fa : Fi 1 N0 (uM (uM N0 95 1 0) 12 67 0) := (Fi.u95 1 _ _).tr (Fi.u67 1 _ _)
  have D0 : DR B n na 1 a (stH h 1) (uM (uM N0 95 1 0) 12 67 0) 0 0 := by
    refine ⟨((((S.o (st_o h 1)).i (Eq7.fo F0)).i (Eq7.u95 _ _ _)).i (Eq7.u67 _ _)), (st_d h 1).y.al A, Fa.bk (F0.bk hB), Fa.ops (by omega) O0, ?_, ?_⟩
    · rw [uM_t _ (by omega), uM_s]
      exact st_co h 1
    · rw [st_5, h5, uM_s]
  obtain ⟨h', N, u', v4', late, hu', eL, F1, G1, eR, k67, S1, A1, B1, k5, kt, ke⟩ := s_loop (g := g) (k := 1) (by omega) ha (btw_1 g B n na a) (lc_1 Kc v1 v4 (cdM B a) a) (fun v2 => PU_1 (nI 1) v2) (fun v2 => QU_1 (nI 1) v2) (RU_1 (nI 1) (fun u23 u24 _ h26 => (f_X12_handles_1 u23 (uI h26 12 0 67 0)).bind fun r27 => if (u24 = 0 ∨ u24 = 1) then some (u24, r27) else none)) okc (cdM B a).length 0 (by omega) (stH h 1) _ 0 false D0 (by omega) (uM_s _ _ _ _) lk
  have fin : ∃ v5, f_X5_serve_64 Kc a (mFu - u') v1 v4 (nI u') h' = Kc v1 v4 v5 h' := by
    refine ⟨nI u', ?_⟩
    have : ∃ m, mFu - u' = m + 1 := ⟨mFu - u' - 1, by have := mFu_lt (N := 2000) (by omega); omega⟩
    obtain ⟨m, em⟩ := this
    rw [em, f_X5_serve_64]
    have eg : f_X4_goesOn 1 a h' = some (0, h') := by
      unfold f_X4_goesOn
      cases late
      · rw [ke rfl, (A1.2.2 a ha).2.1, if_neg (nI_nlt (Nat.le_refl _) (by omega))]
      · split
        · rw [kt, if_neg (by decide)]
        · rfl
    split
    · rw [eg, Option.bind_some, if_pos rfl]
    · rfl
  obtain ⟨v5, ef⟩ := fin
  refine ⟨h', uM N 12 67 0, late, v5, ?_, ?_, S1.i (Eq7.u67 _ _), A1, (Fi.u67 1 _ _).bk B1, k5, uM_s _ _ _ _, (st_d h 1).y.tr F1, (F0.h.tr Fa.h).tr (G1.h.tr (Fi.u67 1 _ _).h)⟩
  · have := eL.trans ef
    rw [Nat.sub_zero] at this
    exact this
  · unfold f_X12_runs_1
    show (f_X12_makes (nI 1) (nI a) (wM g M)).bind _ = _
    rw [e0, Option.bind_some]
    simp only [mLet]
    have e1 : (1 : Int32).toNatClampNeg = 1 := rfl
    rw [if_pos (by decide), e1, wM_u g _ rfl, wM_u g _ rfl]
    have := eR mFu (mFu_lt (by omega))
    refine Eq.trans this ?_
    rw [wM_u g _ rfl, hd_1, Option.bind_some, if_pos (b2i_01 _)]
