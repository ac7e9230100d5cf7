/-! ===== a TICK of the class ===== -/
theorem RS.ev {h : mH} {s n : Nat} {M : mM} (R : RS h s n M) {q k : Nat} (x : Int32) (hq : q < 3) : RS (uI h (39 + q) s k x) s n (uM M (69 + q) k x) := by
  obtain ⟨a, b, c, d, e⟩ := R
  have o8 : ∀ k', (uI h (39 + q) s k x).1 8 s k' = h.1 8 s k' := fun k' => by rw [uI_ne (fun z => by omega)]
  have o12 : ∀ k', (uM M (69 + q) k x).1 12 k' = M.1 12 k' := fun k' => uM_t _ (by omega)
  refine ⟨fun q' hq' f' hf' => ?_, fun r hr => ?_, ?_, ?_, ?_⟩
  · rw [uI_ne (fun z => by omega), uM_t _ (by omega)]
    exact a q' hq' f' hf'
  · rw [uI_ne (fun z => by omega), uM_t _ (by omega)]
    exact b r hr
  · obtain ⟨m, h16, c1, c2, c3⟩ := c
    refine ⟨m, h16, by rw [o8]; exact c1, by rw [o12]; exact c2, fun q' hq' k' hk' => ?_⟩
    show (if 39 + q' = 39 + q ∧ s = s ∧ k' = k then x else h.1 (39 + q') s k') = (if 69 + q' = 69 + q ∧ k' = k then x else M.1 (69 + q') k')
    by_cases z : q' = q ∧ k' = k
    · rw [if_pos ⟨by omega, rfl, z.2⟩, if_pos ⟨by omega, z.2⟩]
    · rw [if_neg (fun y => z ⟨by omega, y.2.2⟩), if_neg (fun y => z ⟨by omega, y.2⟩)]
      exact c3 q' hq' k' hk'
  · rw [o8, o8, o8, o8, o12, o12, o12, o12]
    exact d
  · rw [o8, o8, o12, o12, o12]
    exact e
/-- scalars: NOW, RESULT, SERVED -/
theorem RS.sc {h : mH} {s n : Nat} {M : mM} (R : RS h s n M) {a b : Nat} (x : Int32) (hab : (a = 10 ∧ b = 23) ∨ (a = 11 ∧ b = 38) ∨ (a = 12 ∧ b = 37)) : RS (uI h 8 s a x) s n (uM M 12 b x) := by
  obtain ⟨r1, r2, r3, r4, r5⟩ := R
  have o8 : ∀ k, k ≠ a → (uI h 8 s a x).1 8 s k = h.1 8 s k := fun k hk => if_neg (fun z => hk z.2.2)
  have s8 : (uI h 8 s a x).1 8 s a = x := if_pos ⟨rfl, rfl, rfl⟩
  have o12 : ∀ k, k ≠ b → (uM M 12 b x).1 12 k = M.1 12 k := fun k hk => uM_k _ hk
  have s12 : (uM M 12 b x).1 12 b = x := uM_s _ _ _ _
  refine ⟨fun q' hq' f' hf' => ?_, fun r hr => ?_, ?_, ?_, ?_⟩
  · rw [uI_ne (fun z => by omega), uM_t _ (by omega)]
    exact r1 q' hq' f' hf'
  · rw [uI_ne (fun z => by omega), uM_t _ (by omega)]
    exact r2 r hr
  · obtain ⟨m, h16, c1, c2, c3⟩ := r3
    refine ⟨m, h16, by rw [o8 _ (by omega)]; exact c1, by rw [o12 _ (by omega)]; exact c2, fun q' hq' k' hk' => ?_⟩
    rw [uI_ne (fun z => by omega), uM_t _ (by omega)]
    exact c3 q' hq' k' hk'
  · rcases hab with ⟨rfl, rfl⟩ | ⟨rfl, rfl⟩ | ⟨rfl, rfl⟩
    · exact ⟨s8.trans s12.symm, by rw [o8 _ (by decide), o12 _ (by decide)]; exact r4.2.1, by rw [o8 _ (by decide), o12 _ (by decide)]; exact r4.2.2.1, by rw [o8 _ (by decide), o12 _ (by decide)]; exact r4.2.2.2⟩
    · exact ⟨by rw [o8 _ (by decide), o12 _ (by decide)]; exact r4.1, s8.trans s12.symm, by rw [o8 _ (by decide), o12 _ (by decide)]; exact r4.2.2.1, by rw [o8 _ (by decide), o12 _ (by decide)]; exact r4.2.2.2⟩
    · exact ⟨by rw [o8 _ (by decide), o12 _ (by decide)]; exact r4.1, by rw [o8 _ (by decide), o12 _ (by decide)]; exact r4.2.1, s8.trans s12.symm, by rw [o8 _ (by decide), o12 _ (by decide)]; exact r4.2.2.2⟩
  · rw [o8 _ (by omega), o8 _ (by omega), o12 _ (by omega), o12 _ (by omega), o12 _ (by omega)]
    exact r5
/-- fewer events -/
theorem RS.evc {h : mH} {s n : Nat} {M : mM} (R : RS h s n M) {l m : Nat} (hm : M.1 12 30 = nI m) (h16 : m ≤ 16) (hl : l ≤ m) : RS (uI h 8 s 9 (nI l)) s n (uM M 12 30 (nI l)) := by
  obtain ⟨r1, r2, r3, r4, r5⟩ := R
  have o8 : ∀ k, k ≠ 9 → (uI h 8 s 9 (nI l)).1 8 s k = h.1 8 s k := fun k hk => if_neg (fun z => hk z.2.2)
  have o12 : ∀ k, k ≠ 30 → (uM M 12 30 (nI l)).1 12 k = M.1 12 k := fun k hk => uM_k _ hk
  refine ⟨fun q' hq' f' hf' => ?_, fun r hr => ?_, ?_, ?_, ?_⟩
  · rw [uI_ne (fun z => by omega), uM_t _ (by omega)]
    exact r1 q' hq' f' hf'
  · rw [uI_ne (fun z => by omega), uM_t _ (by omega)]
    exact r2 r hr
  · obtain ⟨m', h16', c1, c2, c3⟩ := r3
    have e : m' = m := by
      have z : (nI m').toNatClampNeg = (nI m).toNatClampNeg := by rw [← c2, hm]
      rw [nI_clamp (by omega), nI_clamp (by omega)] at z
      exact z
    refine ⟨l, by omega, if_pos ⟨rfl, rfl, rfl⟩, uM_s _ _ _ _, fun q' hq' k' hk' => ?_⟩
    rw [uI_ne (fun z => by omega), uM_t _ (by omega)]
    exact c3 q' hq' k' (by omega)
  · rw [o8 _ (by decide), o8 _ (by decide), o8 _ (by decide), o8 _ (by decide), o12 _ (by decide), o12 _ (by decide), o12 _ (by decide), o12 _ (by decide)]
    exact r4
  · rw [o8 _ (by decide), o8 _ (by decide), o12 _ (by decide), o12 _ (by decide), o12 _ (by decide)]
    exact r5
/-- DONE fields are there -/
def dnOK (n : Nat) (M : mM) : Prop := ∀ f, f < n → M.1 52 f = -1 ∨ ∃ g, g < n ∧ M.1 52 f = nI g
theorem plFold_o (M : mM) {t : Nat} (h1 : t ≠ 63) (h2 : t ≠ 65) (k : Nat) : ∀ l : List Nat, (l.foldl plF M).1 t k = M.1 t k := by
  intro l
  induction l generalizing M with
  | nil => rfl
  | cons f l ih =>
    show (l.foldl plF (plF M f)).1 t k = _
    rw [ih (plF M f), plF_o _ h1 h2]
theorem plFs_fold (M : mM) : ∀ n, plFs n M = (lsP (isP M) n).foldl plF M
  | 0 => rfl
  | n + 1 => by
    have ih := plFs_fold M n
    show plF (plFs n M) n = _
    have e49 : (plFs n M).1 49 n = M.1 49 n := plFs_o M (by decide) (by decide) n n
    unfold lsP
    by_cases q : isP M n = true
    · rw [if_pos q, List.foldl_append, ← ih]
      rfl
    · rw [if_neg q, ← ih]
      unfold plF
      have q' : ¬ M.1 49 n = 4 := fun z => q (decide_eq_true z)
      rw [if_neg (by rw [e49]; exact q')]
theorem c_tick15 (k : Int32 → mH → Option mH) {h : mH} {n : Nat} {M : mM} (F : RF h n M) (C : RH h n M) (R : RS h 0 n M) (dn : dnOK n M) : ∃ (v : Int32) (h' : mH), RS h' 0 n (plFs n M) ∧ Fs h h' ∧ f_X2_tick_15 k mFu 0 h = k v h' := by
  rw [plFs_fold]
  obtain ⟨-, hc, hp⟩ := C
  obtain ⟨h24, hn, hn', hf⟩ := F
  generalize hl : lsP (isP M) n = l at hc hp ⊢
  have hll : l.length ≤ 24 := by rw [← hl]; exact Nat.le_trans (lsP_len n) h24
  have key : ∃ b : Int32 × mH, (b.1 = nI l.length ∧ Fs h b.2 ∧ RS b.2 0 n ((l.take l.length).foldl plF M)) ∧ f_X2_tick_15 k mFu 0 h = k b.1 b.2 := by
    refine mLoopR (fun m (b : Int32 × mH) => f_X2_tick_15 k m b.1 b.2) (fun j b => b.1 = nI j ∧ Fs h b.2 ∧ RS b.2 0 n ((l.take j).foldl plF M)) l.length (fun b => k b.1 b.2) ?_ ?_ (b0 := (0, h)) ⟨rfl, Fs.rf h, by simpa using R⟩ mFu (mFu_lt (by omega))
    · rintro j hj ⟨v, g⟩ ⟨rfl, hg, hR⟩
      dsimp only at hg hR
      have hm : l.getD j 0 ∈ lsP (isP M) n := by rw [hl]; exact getD_mem hj
      obtain ⟨f, ef⟩ : ∃ f, f = l.getD j 0 := ⟨_, rfl⟩
      rw [← ef] at hm
      obtain ⟨hfn, hk4⟩ := lsP_lt hm
      have hk4 : M.1 49 f = 4 := of_decide_eq_true hk4
      have e2 : g.1 2 0 6 = nI l.length := by rw [hg.1 2 0 (by omega)]; exact hc
      have e31 : g.1 31 0 j = nI f := by rw [hg.1 31 0 (by omega), ef]; exact hp j hj
      rw [take_foldl plF M l hj, ← ef]
      generalize hN : (l.take j).foldl plF M = N at hR ⊢
      have n49 : N.1 49 f = 4 := by rw [← hN, plFold_o _ (by decide) (by decide)]; exact hk4
      have n52 : N.1 52 f = M.1 52 f := by rw [← hN, plFold_o _ (by decide) (by decide)]
      have n48 : ∀ x, oneM N x = oneM M x := fun x => by unfold oneM; rw [← hN, plFold_o _ (by decide) (by decide)]
      have e35 : g.1 35 0 f = N.1 65 f := hR.1 2 (by decide) f hfn
      have g6 : ∀ i, g.1 6 i = h.1 6 i := fun i => hg.1 6 i (by omega)
      unfold plF
      rw [if_pos n49]
      by_cases q0 : N.1 65 f ≤ 0
      · rw [if_pos q0]
        refine ⟨(nI (j + 1), g), ⟨rfl, hg, hR⟩, fun m => ?_⟩
        show f_X2_tick_15 k (m + 1) (nI j) g = f_X2_tick_15 k m (nI (j + 1)) g
        rw [f_X2_tick_15, e2, if_pos (nI_lt hj (by omega)), if_pos (mIn_nI (by omega) (by decide)), nI_clamp (by omega), e31, if_pos (mIn_nI (by omega) (by decide)), nI_clamp (by omega), e35, if_pos q0, nI_succ]
      · rw [if_neg q0]
        have R1 : RS (uI g 35 0 f (N.1 65 f - 1)) 0 n (uM N 65 f (N.1 65 f - 1)) := hR.row (q := 2) _ (by decide)
        have s35 : (uI g 35 0 f (N.1 65 f - 1)).1 35 0 f = N.1 65 f - 1 := if_pos ⟨rfl, rfl, rfl⟩
        have F1 : Fs h (uI g 35 0 f (N.1 65 f - 1)) := hg.tr (Fs.u _ _ (by omega))
        by_cases q1 : N.1 65 f - 1 = 0
        · rw [if_pos q1]
          have R2 : RS (uI (uI g 35 0 f (N.1 65 f - 1)) 33 0 f 0) 0 n (uM (uM N 65 f (N.1 65 f - 1)) 63 f 0) := R1.row (q := 0) _ (by decide)
          have F2 : Fs h (uI (uI g 35 0 f (N.1 65 f - 1)) 33 0 f 0) := F1.tr (Fs.u _ _ (by omega))
          have d8 : (uI (uI g 35 0 f (N.1 65 f - 1)) 33 0 f 0).1 6 f 8 = M.1 52 f := by rw [F2.1 6 f (by omega)]; exact (hf f hfn).2.2.2.2.1
          by_cases q2 : N.1 52 f = -1
          · rw [if_pos q2]
            refine ⟨(nI (j + 1), uI (uI g 35 0 f (N.1 65 f - 1)) 33 0 f 0), ⟨rfl, F2, R2⟩, fun m => ?_⟩
            show f_X2_tick_15 k (m + 1) (nI j) g = f_X2_tick_15 k m (nI (j + 1)) (uI (uI g 35 0 f (N.1 65 f - 1)) 33 0 f 0)
            rw [f_X2_tick_15, e2, if_pos (nI_lt hj (by omega)), if_pos (mIn_nI (by omega) (by decide)), nI_clamp (by omega), e31, if_pos (mIn_nI (by omega) (by decide)), nI_clamp (by omega), e35, if_neg q0, nI_succ]
            simp only [mLet]
            rw [s35, if_pos q1]
            unfold f_X2_endPulse
            rw [if_pos (mIn_nI (by omega) (by decide)), nI_clamp (by omega)]
            simp only [mLet]
            rw [d8, ← n52, q2, if_pos (by decide)]
            rfl
          · rw [if_neg q2]
            obtain ⟨d, hd, ed⟩ := (dn f hfn).resolve_left (by rw [← n52]; exact q2)
            have ed' : N.1 52 f = nI d := by rw [n52]; exact ed
            rw [ed', nI_clamp (by omega)]
            have R3 : RS (uI (uI (uI g 35 0 f (N.1 65 f - 1)) 33 0 f 0) 33 0 d (oneM N d)) 0 n (uM (uM (uM N 65 f (N.1 65 f - 1)) 63 f 0) 63 d (oneM N d)) := R2.row (q := 0) _ (by decide)
            refine ⟨(nI (j + 1), uI (uI (uI g 35 0 f (N.1 65 f - 1)) 33 0 f 0) 33 0 d (oneM N d)), ⟨rfl, F2.tr (Fs.u _ _ (by omega)), R3⟩, fun m => ?_⟩
            show f_X2_tick_15 k (m + 1) (nI j) g = f_X2_tick_15 k m (nI (j + 1)) (uI (uI (uI g 35 0 f (N.1 65 f - 1)) 33 0 f 0) 33 0 d (oneM N d))
            rw [f_X2_tick_15, e2, if_pos (nI_lt hj (by omega)), if_pos (mIn_nI (by omega) (by decide)), nI_clamp (by omega), e31, if_pos (mIn_nI (by omega) (by decide)), nI_clamp (by omega), e35, if_neg q0, nI_succ]
            simp only [mLet]
            rw [s35, if_pos q1]
            unfold f_X2_endPulse
            rw [if_pos (mIn_nI (by omega) (by decide)), nI_clamp (by omega)]
            simp only [mLet]
            rw [d8, ed, if_neg (nI_pos (by omega)), if_pos (mIn_nI (by omega) (by decide)), nI_clamp (by omega)]
            have d5 : (uI (uI g 35 0 f (N.1 65 f - 1)) 33 0 f 0).1 6 d 5 = oneM N d := by rw [F2.1 6 d (by omega), n48]; exact (hf d hd).2.1
            rw [d5]
            rfl
        · rw [if_neg q1]
          refine ⟨(nI (j + 1), uI g 35 0 f (N.1 65 f - 1)), ⟨rfl, F1, R1⟩, fun m => ?_⟩
          show f_X2_tick_15 k (m + 1) (nI j) g = f_X2_tick_15 k m (nI (j + 1)) (uI g 35 0 f (N.1 65 f - 1))
          rw [f_X2_tick_15, e2, if_pos (nI_lt hj (by omega)), if_pos (mIn_nI (by omega) (by decide)), nI_clamp (by omega), e31, if_pos (mIn_nI (by omega) (by decide)), nI_clamp (by omega), e35, if_neg q0, nI_succ]
          simp only [mLet]
          rw [s35, if_neg q1]
    · rintro ⟨v, g⟩ ⟨rfl, hg, -⟩ m
      dsimp only at hg
      show f_X2_tick_15 k (m + 1) (nI l.length) g = _
      have e2 : g.1 2 0 6 = nI l.length := by rw [hg.1 2 0 (by omega)]; exact hc
      rw [f_X2_tick_15, e2, if_neg (nI_nlt (Nat.le_refl _) (by omega))]
  obtain ⟨b, ⟨b1, b2, b3⟩, e⟩ := key
  refine ⟨b.1, b.2, ?_, b2, e⟩
  rw [List.take_length] at b3
  exact b3
