theorem c_isBroken {h : mH} {n l w : Nat} {M : mM} (R : RS h 0 n M) (hl : (h.1 7 l 0 = M.1 54 l ∧ h.1 7 l 1 = M.1 55 l ∧ h.1 7 l 2 = M.1 56 l ∧ h.1 7 l 3 = M.1 57 l)) (h24 : n ≤ 24) (hg : w < n) (eg : M.1 56 l = nI w) : f_X2_isBroken l h = some (b2i (brkM M l), h) := by
  unfold f_X2_isBroken brkM
  have e33 : h.1 33 0 w = M.1 63 w := R.1 0 (by decide) w hg
  have e37 : h.1 37 0 w = M.1 67 w := R.1 4 (by decide) w hg
  have hin : mIn (nI w) 24 = true := mIn_nI (by omega) (by decide)
  rw [hl.1, hl.2.2.1, hl.2.2.2, eg, nI_clamp (by omega), e33, e37, R.2.2.2.1.1]
  by_cases q0 : M.1 54 l = 0
  · rw [if_pos q0, if_pos q0, if_pos hin]
    split <;> rename_i z <;> simp [z, b2i]
  · rw [if_neg q0, if_neg q0]
    by_cases q1 : M.1 54 l = 1
    · rw [if_pos q1, if_pos q1, if_pos hin]
      split <;> rename_i z <;> simp [z, b2i]
    · rw [if_neg q1, if_neg q1, if_pos hin]
      split <;> rename_i z
      · simp [z, b2i]
      · split <;> rename_i z2 <;> simp [z, z2, b2i]
theorem Fs.of8 {h h' : mH} (h1 : ∀ t i, ¬ (t = 8 ∧ i = 0) → h'.1 t i = h.1 t i) (h2 : h'.2 = h.2) : Fs h h' := ⟨fun t i q => h1 t i (fun z => q ⟨z.2, Or.inl z.1⟩), h2⟩
theorem c_laws {h : mH} {n r : Nat} {M : mM} (x : Int32) (F : RF h n M) (R : RS h 0 n M) (W : RLw h n M) : ∃ h', f_X2_lookAtLaws (hbM M r x n) h = some h' ∧ RS h' 0 n (jdSs (nI r) x (M.1 12 11).toNatClampNeg M) ∧ Fs h h' := by
  obtain ⟨w, hw, m11, h15, hl⟩ := W
  have h24 := F.1
  unfold f_X2_lookAtLaws
  rw [m11, nI_clamp (by omega)]
  have key : ∃ c : Int32 × mH, (c.1 = nI w ∧ Fs h c.2 ∧ RS c.2 0 n (jdSs (nI r) x w M)) ∧ f_X2_lookAtLaws_2 (fun _ _ h10 => some h10) mFu (hbM M r x n) 0 h = some c.2 := by
    refine mLoopR (fun m (c : Int32 × mH) => f_X2_lookAtLaws_2 (fun _ _ h10 => some h10) m (hbM M r x n) c.1 c.2) (fun j c => c.1 = nI j ∧ Fs h c.2 ∧ RS c.2 0 n (jdSs (nI r) x j M)) w (fun c => some c.2) ?_ ?_ (b0 := (0, h)) ⟨rfl, Fs.rf h, R⟩ mFu (mFu_lt (by omega))
    · rintro j hj ⟨v, g⟩ ⟨rfl, hg, hR⟩
      dsimp only at hg hR
      obtain ⟨⟨l0, l1, l2, l3⟩, ⟨f, hf, ef⟩, d, hd, ed⟩ := hl j hj
      have hN : ∀ t k, ¬ (t = 12 ∧ 34 ≤ k ∧ k ≤ 36) → (jdSs (nI r) x j M).1 t k = M.1 t k := fun t k z => jdSs_o _ _ _ z j
      have hhit : ∀ y, hitM (jdSs (nI r) x j M) y (nI r) x = hitM M y (nI r) x := fun y => hitM_to _ _ (fun t ht => hN t y (by omega))
      have e5 : g.1 1 0 5 = nI w := by rw [hg.1 1 0 (by omega)]; exact h15
      have g7 : g.1 7 j = h.1 7 j := hg.1 7 j (by omega)
      show ∃ c' : Int32 × mH, (c'.1 = nI (j + 1) ∧ Fs h c'.2 ∧ RS c'.2 0 n (jdS (nI r) x (jdSs (nI r) x j M) j)) ∧ _
      unfold jdS
      have e55 : (jdSs (nI r) x j M).1 55 j = nI f := by rw [hN 55 j (by omega)]; exact ef
      have e56 : (jdSs (nI r) x j M).1 56 j = nI d := by rw [hN 56 j (by omega)]; exact ed
      have hl4 : g.1 7 j 0 = (jdSs (nI r) x j M).1 54 j ∧ g.1 7 j 1 = (jdSs (nI r) x j M).1 55 j ∧ g.1 7 j 2 = (jdSs (nI r) x j M).1 56 j ∧ g.1 7 j 3 = (jdSs (nI r) x j M).1 57 j := by
        rw [g7, hN 54 j (by omega), hN 55 j (by omega), hN 56 j (by omega), hN 57 j (by omega)]
        exact ⟨l0, l1, l2, l3⟩
      have hbrk := c_isBroken hR hl4 h24 hd e56
      rw [e55, nI_clamp (by omega), hhit f]
      have e71 : g.1 7 j 1 = nI f := by rw [g7, l1]; exact ef
      have step : ∀ m, f_X2_lookAtLaws_2 (fun _ _ h10 => some h10) (m + 1) (hbM M r x n) (nI j) g = if hitM M f (nI r) x = true then (if brkM (jdSs (nI r) x j M) j = true then (f_X8_countBreak 0 (nI j) g).bind (fun r7 => f_X2_lookAtLaws_2 (fun _ _ h10 => some h10) m (hbM M r x n) (nI (j + 1)) r7) else f_X2_lookAtLaws_2 (fun _ _ h10 => some h10) m (hbM M r x n) (nI (j + 1)) g) else f_X2_lookAtLaws_2 (fun _ _ h10 => some h10) m (hbM M r x n) (nI (j + 1)) g := by
        intro m
        rw [f_X2_lookAtLaws_2, e5, if_pos (nI_lt hj (by omega)), if_pos (mIn_nI (by omega) (by decide)), nI_clamp (n := j) (by omega), e71, e_isIn _ (by omega), Option.bind_some, hbM_bt M r x h24 hf, nI_succ j]
        dsimp only
        cases hitM M f (nI r) x
        · rw [if_pos (show b2i false = 0 from rfl), if_neg (by decide)]
        · rw [if_neg (by decide), if_pos rfl, hbrk, Option.bind_some]
          dsimp only
          cases brkM (jdSs (nI r) x j M) j
          · rw [if_pos (show b2i false = 0 from rfl), if_neg (by decide)]
          · rw [if_neg (by decide), if_pos rfl]
      cases hh : hitM M f (nI r) x
      · rw [Bool.false_and, if_neg (by decide)]
        refine ⟨(nI (j + 1), g), ⟨rfl, hg, hR⟩, fun m => ?_⟩
        dsimp only
        rw [step, hh, if_neg (by decide)]
      · rw [Bool.true_and]
        cases hb : brkM (jdSs (nI r) x j M) j
        · rw [if_neg (by decide)]
          refine ⟨(nI (j + 1), g), ⟨rfl, hg, hR⟩, fun m => ?_⟩
          dsimp only
          rw [step, hh, hb, if_pos rfl, if_neg (by decide)]
        · rw [if_pos rfl]
          obtain ⟨g', e1, R1, o1, o2⟩ := hR.brk j
          refine ⟨(nI (j + 1), g'), ⟨rfl, hg.tr (Fs.of8 o1 o2), R1⟩, fun m => ?_⟩
          dsimp only
          rw [step, hh, hb, if_pos rfl, if_pos rfl, e1, Option.bind_some]
    · rintro ⟨v, g⟩ ⟨rfl, hg, -⟩ m
      dsimp only at hg
      have e5 : g.1 1 0 5 = nI w := by rw [hg.1 1 0 (by omega)]; exact h15
      show f_X2_lookAtLaws_2 _ (m + 1) _ (nI w) g = _
      rw [f_X2_lookAtLaws_2, e5, if_neg (nI_nlt (Nat.le_refl _) (by omega))]
  obtain ⟨⟨v, g⟩, ⟨b1, b2, b3⟩, e⟩ := key
  exact ⟨g, e, b3, b2⟩
theorem c_load {h : mH} {n : Nat} {M : mM} (F : RF h n M) (R : RS h 0 n M) : ∃ h', f_X2_loadHeld h = some h' ∧ RS h' 0 n (ldFs n M) ∧ Fs h h' := by
  have h24 := F.1
  unfold f_X2_loadHeld
  have key : ∃ c : Int32 × mH, (c.1 = nI n ∧ Fs h c.2 ∧ RS c.2 0 n (ldFs n M)) ∧ f_X2_loadHeld_2 (fun _ h5 => some h5) mFu 0 h = some c.2 := by
    refine mLoopR (fun m (c : Int32 × mH) => f_X2_loadHeld_2 (fun _ h5 => some h5) m c.1 c.2) (fun j c => c.1 = nI j ∧ Fs h c.2 ∧ RS c.2 0 n (ldFs j M)) n (fun c => some c.2) ?_ ?_ (b0 := (0, h)) ⟨rfl, Fs.rf h, R⟩ mFu (mFu_lt (by omega))
    · rintro j hj ⟨v, g⟩ ⟨rfl, hg, hR⟩
      dsimp only at hg hR
      have e4 : g.1 1 0 4 = nI n := by rw [hg.1 1 0 (by omega)]; exact F.2.2.1
      have e3 : g.1 6 j 3 = (ldFs j M).1 49 j := by rw [hg.1 6 j (by omega), ldFs_o _ (by decide)]; exact (F.2.2.2 j hj).1.2.2.2.1
      have e34 : g.1 34 0 j = (ldFs j M).1 64 j := hR.1 1 (by decide) j hj
      show ∃ c' : Int32 × mH, (c'.1 = nI (j + 1) ∧ Fs h c'.2 ∧ RS c'.2 0 n (ldF (ldFs j M) j)) ∧ _
      unfold ldF
      by_cases q : (ldFs j M).1 49 j = 5
      · rw [if_pos q]
        refine ⟨(nI (j + 1), uI g 33 0 j ((ldFs j M).1 64 j)), ⟨rfl, hg.tr (Fs.u _ _ (by omega)), hR.row (q := 0) _ (by decide)⟩, fun m => ?_⟩
        dsimp only
        rw [f_X2_loadHeld_2, e4, if_pos (nI_lt hj (by omega)), if_pos (mIn_nI (by omega) (by decide)), nI_clamp (n := j) (by omega), e3, if_pos q, e34, nI_succ j]
      · rw [if_neg q, uM_same]
        refine ⟨(nI (j + 1), g), ⟨rfl, hg, hR⟩, fun m => ?_⟩
        dsimp only
        rw [f_X2_loadHeld_2, e4, if_pos (nI_lt hj (by omega)), if_pos (mIn_nI (by omega) (by decide)), nI_clamp (n := j) (by omega), e3, if_neg q, nI_succ j]
    · rintro ⟨v, g⟩ ⟨rfl, hg, -⟩ m
      dsimp only at hg
      have e4 : g.1 1 0 4 = nI n := by rw [hg.1 1 0 (by omega)]; exact F.2.2.1
      show f_X2_loadHeld_2 _ (m + 1) (nI n) g = _
      rw [f_X2_loadHeld_2, e4, if_neg (nI_nlt (Nat.le_refl _) (by omega))]
  obtain ⟨⟨v, g⟩, ⟨b1, b2, b3⟩, e⟩ := key
  exact ⟨g, e, b3, b2⟩
theorem c_writeField {h : mH} {n f : Nat} {M : mM} (b : Int32) (F : RF h n M) (R : RS h 0 n M) (hf : f < n) : ∃ h', f_X2_writeField (nI f) b h = some h' ∧ RS h' 0 n (tkeM M f b) ∧ Fs h h' := by
  have h24 := F.1
  have e3 : h.1 6 f 3 = M.1 49 f := (F.2.2.2 f hf).1.2.2.2.1
  have e7 : h.1 6 f 7 = M.1 51 f := (F.2.2.2 f hf).2.2.2.1
  have e33 : h.1 33 0 f = M.1 63 f := R.1 0 (by decide) f hf
  unfold f_X2_writeField tkeM
  rw [if_pos (mIn_nI (by omega) (by decide)), nI_clamp (by omega), e3, e33]
  by_cases k0 : M.1 49 f = 0
  · rw [if_pos k0, if_pos k0]
    exact ⟨_, rfl, R.row (q := 0) _ (by decide), Fs.u _ _ (by omega)⟩
  · rw [if_neg k0, if_neg k0]
    by_cases k2 : M.1 49 f = 2
    · rw [if_pos k2, if_pos k2]
      exact ⟨_, rfl, R.row (q := 0) _ (by decide), Fs.u _ _ (by omega)⟩
    · rw [if_neg k2, if_neg k2]
      by_cases k4 : M.1 49 f = 4
      · rw [if_pos k4, if_pos k4]
        by_cases hb : b = 0
        · rw [if_pos hb, if_pos hb, uM_same, uM_same]
          exact ⟨h, rfl, R, Fs.rf h⟩
        · rw [if_neg hb, if_neg hb]
          simp only [mLet]
          have z7 : (uI h 33 0 f b).1 6 f 7 = M.1 51 f := by rw [uI_ne (fun z => by omega)]; exact e7
          rw [z7]
          have R1 := R.row (q := 0) (f := f) b (by decide)
          exact ⟨_, rfl, R1.row (q := 2) (f := f) (M.1 51 f) (by decide), (Fs.u _ _ (by omega)).tr (Fs.u _ _ (by omega))⟩
      · rw [if_neg k4, if_neg k4]
        by_cases k5 : M.1 49 f = 5
        · rw [if_pos k5, if_pos k5]
          exact ⟨_, rfl, R.row (q := 1) _ (by decide), Fs.u _ _ (by omega)⟩
        · rw [if_neg k5, if_neg k5]
          by_cases k6 : M.1 49 f = 6
          · rw [if_pos k6, if_pos k6]
            by_cases hb : b = 0
            · rw [if_pos hb, if_pos hb]
              exact ⟨h, rfl, R, Fs.rf h⟩
            · rw [if_neg hb, if_neg hb]
              obtain ⟨h', e1, R1, F1⟩ := c_load F R
              rw [e1, Option.bind_some, F.2.1, nI_clamp (by omega)]
              exact ⟨h', rfl, R1, F1⟩
          · rw [if_neg k6, if_neg k6]
            exact ⟨h, rfl, R, Fs.rf h⟩
