/-! ===== class and model side by side: instructions that take many beats ===== -/
def AL (h : mH) (B : mM) (na : Nat) : Prop := na ≤ 6 ∧ h.1 1 0 6 = nI na ∧ ∀ a, a < na → CC h a (cdM B a)
/-- only state 0, courses from k on and the lock have changed -/
def Fy (k : Nat) (h h' : mH) : Prop := (∀ t i, ¬ (i = 0 ∧ (t = 8 ∨ (33 ≤ t ∧ t ≤ 41))) → ¬ (t = 4 ∧ k ≤ i) → t ≠ 5 → h'.1 t i = h.1 t i) ∧ h'.2 = h.2
theorem Fy.rf (k : Nat) (h : mH) : Fy k h h := ⟨fun _ _ _ _ _ => rfl, rfl⟩
theorem Fy.tr {k : Nat} {a b c : mH} (h1 : Fy k a b) (h2 : Fy k b c) : Fy k a c := ⟨fun t i p q r => (h2.1 t i p q r).trans (h1.1 t i p q r), h2.2.trans h1.2⟩
theorem Fdr.y {k : Nat} {h h' : mH} (f : Fdr k h h') : Fy k h h' := ⟨fun t i p q r => f.1 t i p (fun z => q ⟨z.1, by omega⟩) r, f.2⟩
theorem Fy.al {k : Nat} {h h' : mH} {B : mM} {na : Nat} (f : Fy k h h') (a : AL h B na) : AL h' B na := ⟨a.1, by rw [f.1 1 0 (by omega) (by omega) (by omega)]; exact a.2.1, fun x hx => (a.2.2 x hx).to (f.1 3 x (by omega) (by omega) (by omega)) (f.1 32 x (by omega) (by omega) (by omega))⟩
/-- a run of act j at level k stands at instruction i, beat b -/
def DR (B : mM) (n na k j : Nat) (h : mH) (M : mM) (i b : Nat) : Prop := CS h n M ∧ AL h B na ∧ Bk M B ∧ OPS M k (cdM B j) ∧ Co h k (nI i) (nI b) (M.1 95 k) 0 ∧ h.1 5 0 5 = M.1 12 67
def DL (B : mM) (n na k : Nat) (h : mH) (M : mM) : Prop := CS h n M ∧ AL h B na ∧ Bk M B ∧ h.1 4 k 3 = 1 ∧ h.1 5 0 5 = M.1 12 67
/-- what comes between beats -/
def Btw (g : mH) (B : mM) (n na k j : Nat) (BC BM : mH → Option mH) : Prop := ∀ h M i b, DR B n na k j h M i b → ∃ h1 M1, BC h = some h1 ∧ BM (wM g M) = some (wM g M1) ∧ DR B n na k j h1 M1 i b ∧ Fy k h h1 ∧ Fi k M M1 ∧ M1.1 12 67 = M.1 12 67
def LC {β : Type} (c : List (Nat → Int32)) (j k : Nat) (BC : mH → Option mH) (L : Nat → mH → Option β) : Prop := ∀ u h i b a, u < 1008 → CC h j c → i < c.length → Co h k (nI i) b a 0 → L u h = (BC h).bind fun h1 => (f_X5_beat j k h1).bind fun h2 => L (u + 1) h2
theorem DR.up {B : mM} {n na k j i b i' b' : Nat} {h h' : mH} {M N : mM} {v : Int32} (hj : j < na) (d : DR B n na k j h M i b) (S : CS h' n N) (f : Fdr k h h') (m : Fm M N) (e5 : h'.1 5 0 5 = h.1 5 0 5) (o : Co h' k (nI i') (nI b') v 0) : DR B n na k j h' (uM N 95 k v) i' b' := by
  obtain ⟨d1, d2, d3, d4, d5, d6⟩ := d
  have hl : (cdM B j).length ≤ 50 := by have := (d2.2.2 j hj).1; omega
  refine ⟨S.i (Eq7.u95 _ _ _), f.y.al d2, ((m.i k).tr (Fi.u95 k _ _)).bk d3, ((m.i k).tr (Fi.u95 k _ _)).ops hl d4, ?_, ?_⟩
  · rw [uM_s]
    exact o
  · rw [e5, d6, uM_t _ (by omega), m.1 12 67 (by omega) (by omega) (by omega)]
theorem DR.up' {B : mM} {n na k j i b i' b' : Nat} {h h' : mH} {M N : mM} (hj : j < na) (d : DR B n na k j h M i b) (S : CS h' n N) (f : Fdr k h h') (m : Fm M N) (e5 : h'.1 5 0 5 = h.1 5 0 5) (o : Co h' k (nI i') (nI b') (M.1 95 k) 0) : DR B n na k j h' N i' b' := by
  obtain ⟨d1, d2, d3, d4, d5, d6⟩ := d
  have hl : (cdM B j).length ≤ 50 := by have := (d2.2.2 j hj).1; omega
  refine ⟨S, f.y.al d2, (m.i k).bk d3, (m.i k).ops hl d4, ?_, ?_⟩
  · rw [m.1 95 k (by omega) (by omega) (by omega)]
    exact o
  · rw [e5, d6, m.1 12 67 (by omega) (by omega) (by omega)]
def pTl (P : Nat → Int32 → mH → Option (Int32 × mH)) (v1 v2 : Int32) (m : Nat) (v3 : Int32) (h : mH) : Option (Int32 × mH) :=
  if mIn (v2 + 1) 600 = true then
  (f_X12_reads (h.1 94 0 (v2 + 1).toNatClampNeg) 1 h).bind fun r5 =>
  if mIn v1 2 = true then
  mLet (uI r5.2 95 0 v1.toNatClampNeg r5.1) fun h7 =>
  if mIn (v2 + 3) 600 = true then
  if mIn (v2 + 4) 600 = true then
  if ((h7.1 95 0 v1.toNatClampNeg) &&& (h7.1 94 0 (v2 + 3).toNatClampNeg)) = (h7.1 94 0 (v2 + 4).toNatClampNeg) then
    some (0, h7)
  else
    P m (v3 + 1) h7
  else none
  else none
  else none
  else none
def PU (BM : mH → Option mH) (v1 v2 : Int32) (P : Nat → Int32 → mH → Option (Int32 × mH)) : Prop := ∀ m v3 h, P (m + 1) v3 h = if mIn (v2 + 5) 600 = true then if v3 ≤ (h.1 94 0 (v2 + 5).toNatClampNeg) then if v3 ≤ 0 then pTl P v1 v2 m v3 h else (BM h).bind fun r => pTl P v1 v2 m v3 r else some (1, h) else none
theorem PU_1 (v1 v2 : Int32) : PU (f_X12_handles_1 v1) v1 v2 (fun m v3 h => f_X12_polls_1_2 (fun _ _ _ h22 => some (1, h22)) m v1 v2 v3 h) := fun m v3 h => rfl
theorem PU_2 (v1 v2 : Int32) : PU (f_X12_handles_2 v1) v1 v2 (fun m v3 h => f_X12_polls_2_2 (fun _ _ _ h22 => some (1, h22)) m v1 v2 v3 h) := fun m v3 h => rfl
theorem e_pTl (P : Nat → Int32 → mH → Option (Int32 × mH)) {B : mM} {n na k j i b r : Nat} {h : mH} {M : mM} (hk : k < 2) (hj : j < na) (d : DR B n na k j h M i b) (hi : i < (cdM B j).length) (h1 : ((cdM B j).getD i o0) 1 = nI r) (m : Nat) (v3 : Int32) (g : mH) : pTl P (nI k) (nI (300 * k + 6 * i)) m v3 (wM g M) = if (redM (nI r) 1 M).1 &&& ((cdM B j).getD i o0) 3 = ((cdM B j).getD i o0) 4 then some (0, wM g (uM (redM (nI r) 1 M).2 95 k (redM (nI r) 1 M).1)) else P m (v3 + 1) (wM g (uM (redM (nI r) 1 M).2 95 k (redM (nI r) 1 M).1)) := by
  obtain ⟨d1, d2, d3, d4, d5, d6⟩ := d
  have hl : (cdM B j).length ≤ 48 := (d2.2.2 j hj).1
  have q1 : nI (300 * k + 6 * i) + 1 = nI (300 * k + 6 * i + 1) := nI_add _ 1
  have q3 : nI (300 * k + 6 * i) + 3 = nI (300 * k + 6 * i + 3) := nI_add _ 3
  have q4 : nI (300 * k + 6 * i) + 4 = nI (300 * k + 6 * i + 4) := nI_add _ 4
  have f := redM_f (nI r) 1 M
  unfold pTl
  rw [q1, q3, q4, if_pos (mIn_nI (show 300 * k + 6 * i + 1 < 600 by omega) (by omega)), nI_clamp (by omega), wM_1 g M rfl, ops_at d4 hi 1 (by omega), h1, d1.e_read, Option.bind_some]
  simp only [mLet]
  rw [if_pos (mIn_nI hk (by omega)), if_pos (mIn_nI (show 300 * k + 6 * i + 3 < 600 by omega) (by omega)), if_pos (mIn_nI (show 300 * k + 6 * i + 4 < 600 by omega) (by omega)), nI_clamp (by omega), nI_clamp (by omega), nI_clamp (by omega), wM_u g _ rfl, wM_1 g _ rfl, wM_1 g _ rfl, wM_1 g _ rfl, uM_s, uM_t _ (by omega), uM_t _ (by omega), f.1 94 _ (by omega) (by omega) (by omega), f.1 94 _ (by omega) (by omega) (by omega), ops_at d4 hi 3 (by omega), ops_at d4 hi 4 (by omega)]
theorem s_poll {g : mH} {β : Type} {B : mM} {n na k j i r lim : Nat} {BC BM : mH → Option mH} {L : Nat → mH → Option β} {P : Nat → Int32 → mH → Option (Int32 × mH)} (hk : k < 2) (hj : j < na) (bt : Btw g B n na k j BC BM) (lc : LC (cdM B j) j k BC L) (pu : PU BM (nI k) (nI (300 * k + 6 * i)) P) (hi : i < (cdM B j).length) (h0 : ((cdM B j).getD i o0) 0 = 2) (h1 : ((cdM B j).getD i o0) 1 = nI r) (hr : r < 8) (h5 : ((cdM B j).getD i o0) 5 = nI lim) (hlim : lim ≤ 20) : ∀ d b, b + d = lim → ∀ h M u, DR B n na k j h M i b → u + d < 1008 → ∃ h' N u', u' ≤ u + d + 1 ∧ (f_X5_beat j k h).bind (fun h2 => L (u + 1) h2) = L u' h' ∧ Fy k h h' ∧ Fi k M N ∧ N.1 12 67 = M.1 12 67 ∧ (((∀ m, d < m → pTl P (nI k) (nI (300 * k + 6 * i)) m (nI b) (wM g M) = some (0, wM g N)) ∧ DR B n na k j h' N (i + 1) 0) ∨ ((∀ m, d < m → pTl P (nI k) (nI (300 * k + 6 * i)) m (nI b) (wM g M) = some (1, wM g N)) ∧ DL B n na k h' N)) := by
  intro d
  induction d with
  | zero =>
    intro b hb h M u D hu
    obtain ⟨d1, d2, d3, d4, d5, d6⟩ := D
    obtain ⟨h', e, S, o, e5, F⟩ := bt_poll d1 (d2.2.2 j hj) hi d5 h0 h1 hr
    have fm := (redM_f (nI r) 1 M)
    refine ⟨h', uM (redM (nI r) 1 M).2 95 k (redM (nI r) 1 M).1, u + 1, by omega, by rw [e, Option.bind_some], F.y, (fm.i k).tr (Fi.u95 k _ _), (uM_t _ (by omega)).trans (fm.1 12 67 (by omega) (by omega) (by omega)), ?_⟩
    by_cases z : (redM (nI r) 1 M).1 &&& ((cdM B j).getD i o0) 3 = ((cdM B j).getD i o0) 4
    · rw [if_pos z] at o
      refine Or.inl ⟨fun m _ => ?_, DR.up hj ⟨d1, d2, d3, d4, d5, d6⟩ S F fm e5 (b' := 0) o⟩
      rw [e_pTl P hk hj ⟨d1, d2, d3, d4, d5, d6⟩ hi h1, if_pos z]
    · have nb : ¬ nI b + 1 ≤ ((cdM B j).getD i o0) 5 := by
        rw [h5, ← nI_succ]
        exact nI_ge (by omega) (by omega)
      rw [if_neg z, if_neg nb] at o
      refine Or.inr ⟨fun m hm => ?_, S.i (Eq7.u95 _ _ _), F.y.al d2, ((fm.i k).tr (Fi.u95 k _ _)).bk d3, o.2.2.2, ?_⟩
      · rw [e_pTl P hk hj ⟨d1, d2, d3, d4, d5, d6⟩ hi h1, if_neg z]
        cases m with
        | zero => omega
        | succ m =>
          have hl : (cdM B j).length ≤ 48 := (d2.2.2 j hj).1
          have q5 : nI (300 * k + 6 * i) + 5 = nI (300 * k + 6 * i + 5) := nI_add _ 5
          rw [pu, q5, if_pos (mIn_nI (show 300 * k + 6 * i + 5 < 600 by omega) (by omega)), nI_clamp (by omega), wM_1 g _ rfl, uM_t _ (by omega), fm.1 94 _ (by omega) (by omega) (by omega), ops_at d4 hi 5 (by omega), if_neg nb]
      · rw [e5, d6, uM_t _ (by omega), fm.1 12 67 (by omega) (by omega) (by omega)]
  | succ d ih =>
    intro b hb h M u D hu
    have D0 := D
    obtain ⟨d1, d2, d3, d4, d5, d6⟩ := D
    obtain ⟨h', e, S, o, e5, F⟩ := bt_poll d1 (d2.2.2 j hj) hi d5 h0 h1 hr
    have fm := (redM_f (nI r) 1 M)
    by_cases z : (redM (nI r) 1 M).1 &&& ((cdM B j).getD i o0) 3 = ((cdM B j).getD i o0) 4
    · rw [if_pos z] at o
      refine ⟨h', uM (redM (nI r) 1 M).2 95 k (redM (nI r) 1 M).1, u + 1, by omega, by rw [e, Option.bind_some], F.y, (fm.i k).tr (Fi.u95 k _ _), (uM_t _ (by omega)).trans (fm.1 12 67 (by omega) (by omega) (by omega)), Or.inl ⟨fun m _ => ?_, DR.up hj D0 S F fm e5 (b' := 0) o⟩⟩
      rw [e_pTl P hk hj D0 hi h1, if_pos z]
    · have nb : nI b + 1 ≤ ((cdM B j).getD i o0) 5 := by
        rw [h5, ← nI_succ]
        exact nI_le (by omega) (by omega)
      rw [if_neg z, if_pos nb, ← nI_succ] at o
      have D1 : DR B n na k j h' (uM (redM (nI r) 1 M).2 95 k (redM (nI r) 1 M).1) i (b + 1) := DR.up hj D0 S F fm e5 o
      obtain ⟨h3, M3, b1, b2, D3, F3, G3, K3⟩ := bt _ _ _ _ D1
      obtain ⟨h4, N, u', hu', e4, F4, G4, K4, res⟩ := ih (b + 1) (by omega) h3 M3 (u + 1) D3 (by omega)
      have el : L (u + 1) h' = L u' h4 := by
        rw [lc (u + 1) h' i _ _ (by omega) (D1.2.1.2.2 j hj) hi D1.2.2.2.2.1, b1, Option.bind_some]
        exact e4
      have em : ∀ m, d + 1 < m → ∃ m', d < m' ∧ pTl P (nI k) (nI (300 * k + 6 * i)) m (nI b) (wM g M) = pTl P (nI k) (nI (300 * k + 6 * i)) m' (nI (b + 1)) (wM g M3) := fun m hm => by
        cases m with
        | zero => omega
        | succ m =>
          refine ⟨m, by omega, ?_⟩
          have hl : (cdM B j).length ≤ 48 := (d2.2.2 j hj).1
          have q5 : nI (300 * k + 6 * i) + 5 = nI (300 * k + 6 * i + 5) := nI_add _ 5
          rw [e_pTl P hk hj D0 hi h1, if_neg z, pu, q5, if_pos (mIn_nI (show 300 * k + 6 * i + 5 < 600 by omega) (by omega)), nI_clamp (by omega), wM_1 g _ rfl, uM_t _ (by omega), fm.1 94 _ (by omega) (by omega) (by omega), ops_at d4 hi 5 (by omega), if_pos nb, ← nI_succ, if_neg (nI_nle (by omega) (by omega)), b2, Option.bind_some]
      refine ⟨h4, N, u', by omega, by rw [e, Option.bind_some]; exact el, (F.y.tr F3).tr F4, (((fm.i k).tr (Fi.u95 k _ _)).tr G3).tr G4, (K4.trans K3).trans ((uM_t _ (by omega)).trans (fm.1 12 67 (by omega) (by omega) (by omega))), ?_⟩
      rcases res with ⟨r1, r2⟩ | ⟨r1, r2⟩
      · refine Or.inl ⟨fun m hm => ?_, r2⟩
        obtain ⟨m', hm', ee⟩ := em m hm
        rw [ee]
        exact r1 m' hm'
      · refine Or.inr ⟨fun m hm => ?_, r2⟩
        obtain ⟨m', hm', ee⟩ := em m hm
        rw [ee]
        exact r1 m' hm'
