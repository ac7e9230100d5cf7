/-! ===== POWER of the class, whole ===== -/
/-- only state 0 and the chip's rows have changed -/
def Fp (h h' : mH) : Prop := (∀ t i, ¬ ((i = 0 ∧ (t = 8 ∨ (33 ≤ t ∧ t ≤ 41))) ∨ t = 2 ∨ (28 ≤ t ∧ t ≤ 31)) → h'.1 t i = h.1 t i) ∧ h'.2 = h.2
theorem Fp.tr {a b c : mH} (h1 : Fp a b) (h2 : Fp b c) : Fp a c := ⟨fun t i q => (h2.1 t i q).trans (h1.1 t i q), h2.2.trans h1.2⟩
theorem Fs.p {h h' : mH} (f : Fs h h') : Fp h h' := ⟨fun t i q => f.1 t i (fun z => q (Or.inl z)), f.2⟩
theorem Fc.p {h h' : mH} (f : Fc h h') : Fp h h' := ⟨fun t i q => f.1 t i (fun z => q (Or.inr z)), f.2⟩
theorem RF.p {h h' : mH} {n : Nat} {M : mM} (r : RF h n M) (f : Fp h h') : RF h' n M := by
  obtain ⟨h24, a, b, c⟩ := r
  refine ⟨h24, a, by rw [f.1 1 0 (by omega)]; exact b, fun g hg => ?_⟩
  rw [f.1 6 g (by omega)]
  exact c g hg
theorem pwF_1 (M : mM) (f t k : Nat) : (pwF M f).1 t k = if t = 68 ∧ k = (M.1 46 f).toNatClampNeg then M.1 68 (M.1 46 f).toNatClampNeg ||| (if M.1 49 f = 0 ∨ M.1 49 f = 5 then M.1 50 f <<< (M.1 47 f &&& 31) else 0) else if t = 67 ∧ k = f then -1 else if t = 66 ∧ k = f then 0 else if t = 65 ∧ k = f then 0 else if t = 64 ∧ k = f then M.1 50 f else if t = 63 ∧ k = f then M.1 50 f else M.1 t k := rfl
theorem c_pwStep {g g' : mH} {j r : Nat} {N : mM} (R : RS g 0 j N) (er : N.1 46 j = nI r) (hr : r < 8)
    (h33 : ∀ f, g'.1 33 0 f = if f = j then N.1 50 j else g.1 33 0 f) (h34 : ∀ f, g'.1 34 0 f = if f = j then N.1 50 j else g.1 34 0 f)
    (h35 : g'.1 35 0 = g.1 35 0) (h36 : g'.1 36 0 = g.1 36 0) (h37 : g'.1 37 0 = g.1 37 0) (b35 : g.1 35 0 j = 0) (b36 : g.1 36 0 j = 0) (b37 : g.1 37 0 j = -1)
    (h38 : ∀ k, k < 8 → g'.1 38 0 k = if k = r then g.1 38 0 r ||| (if N.1 49 j = 0 ∨ N.1 49 j = 5 then N.1 50 j <<< (N.1 47 j &&& 31) else 0) else g.1 38 0 k)
    (h39 : ∀ t, 39 ≤ t → t ≤ 41 → g'.1 t 0 = g.1 t 0) (h8 : g'.1 8 0 = g.1 8 0) : RS g' 0 (j + 1) (pwF N j) := by
  obtain ⟨a, b, c, d, e⟩ := R
  have o12 : ∀ k, (pwF N j).1 12 k = N.1 12 k := fun k => pwF_o _ (by omega) _ _
  have cl : (N.1 46 j).toNatClampNeg = r := by rw [er, nI_clamp (by omega)]
  refine ⟨fun q hq f hf => ?_, fun k hk => ?_, ?_, ?_, ?_⟩
  · have hq : q = 0 ∨ q = 1 ∨ q = 2 ∨ q = 3 ∨ q = 4 := by omega
    rcases hq with rfl | rfl | rfl | rfl | rfl
    · show g'.1 33 0 f = (pwF N j).1 63 f
      rw [h33, pwF_1]
      simp (config := { decide := true }) only [false_and, true_and, if_false]
      by_cases z : f = j
      · rw [if_pos z, if_pos z]
      · rw [if_neg z, if_neg z]
        exact a 0 (by decide) f (by omega)
    · show g'.1 34 0 f = (pwF N j).1 64 f
      rw [h34, pwF_1]
      simp (config := { decide := true }) only [false_and, true_and, if_false]
      by_cases z : f = j
      · rw [if_pos z, if_pos z]
      · rw [if_neg z, if_neg z]
        exact a 1 (by decide) f (by omega)
    · show g'.1 35 0 f = (pwF N j).1 65 f
      rw [h35, pwF_1]
      simp (config := { decide := true }) only [false_and, true_and, if_false]
      by_cases z : f = j
      · rw [if_pos z, z]
        exact b35
      · rw [if_neg z]
        exact a 2 (by decide) f (by omega)
    · show g'.1 36 0 f = (pwF N j).1 66 f
      rw [h36, pwF_1]
      simp (config := { decide := true }) only [false_and, true_and, if_false]
      by_cases z : f = j
      · rw [if_pos z, z]
        exact b36
      · rw [if_neg z]
        exact a 3 (by decide) f (by omega)
    · show g'.1 37 0 f = (pwF N j).1 67 f
      rw [h37, pwF_1]
      simp (config := { decide := true }) only [false_and, true_and, if_false]
      by_cases z : f = j
      · rw [if_pos z, z]
        exact b37
      · rw [if_neg z]
        exact a 4 (by decide) f (by omega)
  · rw [h38 k hk, pwF_1, cl]
    simp (config := { decide := true }) only [false_and, true_and, if_false]
    by_cases z : k = r
    · rw [if_pos z, if_pos z, b r hr]
    · rw [if_neg z, if_neg z]
      exact b k hk
  · obtain ⟨m, h16, c1, c2, c3⟩ := c
    refine ⟨m, h16, by rw [h8]; exact c1, by rw [o12]; exact c2, fun q hq k hk => ?_⟩
    rw [h39 _ (by omega) (by omega), pwF_o _ (by omega)]
    exact c3 q hq k hk
  · rw [h8, o12, o12, o12, o12]
    exact d
  · rw [h8, o12, o12, o12]
    exact e
theorem c_pw30 (k : Int32 → mH → Option mH) {h : mH} {n : Nat} {M M2 : mM} (F : RF h n M) (hM2 : ∀ t y, 46 ≤ t → t ≤ 53 → M2.1 t y = M.1 t y) (C0 : RH h 0 M) (R0 : RS h 0 0 M2) (hb : ∀ f, f < 24 → h.1 35 0 f = 0 ∧ h.1 36 0 f = 0 ∧ h.1 37 0 f = -1) (hreg : ∀ f, f < n → ∃ r, r < 8 ∧ M.1 46 f = nI r) (h16 : ∀ r, r < 8 → (lsP (inR M r) n).length ≤ 16) : ∃ (v : Int32) (h' : mH), RH h' n M ∧ RS h' 0 n (pwFs n M2) ∧ Fp h h' ∧ f_X2_powerUp_30 k mFu 0 h = k v h' := by
  have h24 := F.1
  have key : ∃ c : Int32 × mH, (c.1 = nI n ∧ RH c.2 n M ∧ RS c.2 0 n (pwFs n M2) ∧ (∀ f, n ≤ f → f < 24 → c.2.1 35 0 f = 0 ∧ c.2.1 36 0 f = 0 ∧ c.2.1 37 0 f = -1) ∧ Fp h c.2) ∧ f_X2_powerUp_30 k mFu 0 h = k c.1 c.2 := by
    refine mLoopR (fun m (c : Int32 × mH) => f_X2_powerUp_30 k m c.1 c.2) (fun j c => c.1 = nI j ∧ RH c.2 j M ∧ RS c.2 0 j (pwFs j M2) ∧ (∀ f, j ≤ f → f < 24 → c.2.1 35 0 f = 0 ∧ c.2.1 36 0 f = 0 ∧ c.2.1 37 0 f = -1) ∧ Fp h c.2) n (fun c => k c.1 c.2) ?_ ?_ (b0 := (0, h)) ⟨rfl, C0, R0, fun f _ hf => hb f hf, ⟨fun _ _ _ => rfl, rfl⟩⟩ mFu (mFu_lt (by omega))
    · rintro j hj ⟨v, g⟩ ⟨rfl, hC, hR, hbl, hg⟩
      dsimp only at hC hR hbl hg
      have Fg : RF g n M := F.p hg
      obtain ⟨r, hr, er⟩ := hreg j hj
      have hlen : (lsP (inR M r) j).length < 16 := by
        have z1 := lsP_mono (p := inR M r) (j + 1) n (by omega)
        have z2 := h16 r hr
        rw [lsP_succ, if_pos (show inR M r j = true from decide_eq_true er), List.length_append] at z1
        have z1 : (lsP (inR M r) j).length + 1 ≤ (lsP (inR M r) n).length := z1
        omega
      obtain ⟨g1, e1, C1, c1⟩ := c_sortIn Fg hC hj hr er hlen
      have F1 : RF g1 n M := Fg.c c1
      have n46 : ∀ t, 46 ≤ t → t ≤ 53 → (pwFs j M2).1 t j = M.1 t j := fun t a1 a2 => (pwFs_o M2 (by omega) j j).trans (hM2 t j a1 a2)
      have e4 : g.1 1 0 4 = nI n := Fg.2.2.1
      have r4 : g1.1 6 j 4 = M.1 50 j := (F1.2.2.2 j hj).1.2.2.2.2
      have z4 : (uI g1 33 0 j (M.1 50 j)).1 6 j 4 = M.1 50 j := by rw [uI_ne (fun z => by omega)]; exact r4
      have Fx : RF (uI (uI g1 33 0 j (M.1 50 j)) 34 0 j (M.1 50 j)) n M := F1.p ((Fs.u _ _ (by omega)).p.tr (Fs.u _ _ (by omega)).p)
      have hC2 : ∀ g2, Fs (uI (uI g1 33 0 j (M.1 50 j)) 34 0 j (M.1 50 j)) g2 → RH g2 (j + 1) M := fun g2 z => C1.to (((Fs.u _ _ (by omega)).tr (Fs.u _ _ (by omega))).tr z) (fun _ _ _ _ => rfl)
      obtain ⟨bl35, bl36, bl37⟩ := hbl j (Nat.le_refl _) (by omega)
      have s35 : ∀ t, 34 < t → t ≤ 41 → (uI (uI g1 33 0 j (M.1 50 j)) 34 0 j (M.1 50 j)).1 t 0 = g.1 t 0 := fun t a1 a2 => by rw [uI_ne (fun z => by omega), uI_ne (fun z => by omega), c1.1 t 0 (by omega)]
      have s8 : (uI (uI g1 33 0 j (M.1 50 j)) 34 0 j (M.1 50 j)).1 8 0 = g.1 8 0 := by rw [uI_ne (fun z => by omega), uI_ne (fun z => by omega), c1.1 8 0 (by omega)]
      have s33 : ∀ f, (uI (uI g1 33 0 j (M.1 50 j)) 34 0 j (M.1 50 j)).1 33 0 f = if f = j then M.1 50 j else g.1 33 0 f := fun f => by
        rw [uI_ne (fun z => by omega), uI_1, c1.1 33 0 (by omega)]
        by_cases z : f = j
        · rw [if_pos ⟨rfl, rfl, z⟩, if_pos z]
        · rw [if_neg (fun y => z y.2.2), if_neg z]
      have s34 : ∀ f, (uI (uI g1 33 0 j (M.1 50 j)) 34 0 j (M.1 50 j)).1 34 0 f = if f = j then M.1 50 j else g.1 34 0 f := fun f => by
        rw [uI_1]
        by_cases z : f = j
        · rw [if_pos ⟨rfl, rfl, z⟩, if_pos z]
        · rw [if_neg (fun y => z y.2.2), if_neg z, uI_ne (fun z => by omega), c1.1 34 0 (by omega)]
      have step : ∀ m, f_X2_powerUp_30 k (m + 1) (nI j) g = if kpM M j = true then f_X2_powerUp_30 k m (nI (j + 1)) (uI (uI (uI g1 33 0 j (M.1 50 j)) 34 0 j (M.1 50 j)) 38 0 r ((g.1 38 0 r) ||| (M.1 50 j <<< (M.1 47 j &&& 31)))) else f_X2_powerUp_30 k m (nI (j + 1)) (uI (uI g1 33 0 j (M.1 50 j)) 34 0 j (M.1 50 j)) := by
        intro m
        rw [f_X2_powerUp_30, e4, if_pos (nI_lt hj (by omega)), if_pos (mIn_nI (by omega) (by decide)), nI_clamp (by omega), e1, Option.bind_some, nI_succ j]
        simp only [mLet]
        rw [r4, z4, c_isKept Fx hj, Option.bind_some]
        dsimp only
        cases kpM M j
        · rw [if_pos (show b2i false = 0 from rfl), if_neg (show ¬ (false = true) by decide)]
        · rw [if_neg (by decide), if_pos rfl, (Fx.2.2.2 j hj).1.1, er, if_pos (mIn_nI hr (by decide)), nI_clamp (by omega), s35 38 (by omega) (by omega), (Fx.2.2.2 j hj).1.2.2.2.2, (Fx.2.2.2 j hj).1.2.1]
      have kk : (kpM M j = true) ↔ ((pwFs j M2).1 49 j = 0 ∨ (pwFs j M2).1 49 j = 5) := by
        unfold kpM
        rw [n46 49 (by omega) (by omega)]
        simp
      show ∃ c' : Int32 × mH, (c'.1 = nI (j + 1) ∧ RH c'.2 (j + 1) M ∧ RS c'.2 0 (j + 1) (pwF (pwFs j M2) j) ∧ (∀ f, j + 1 ≤ f → f < 24 → c'.2.1 35 0 f = 0 ∧ c'.2.1 36 0 f = 0 ∧ c'.2.1 37 0 f = -1) ∧ Fp h c'.2) ∧ _
      cases hk : kpM M j
      · refine ⟨(nI (j + 1), uI (uI g1 33 0 j (M.1 50 j)) 34 0 j (M.1 50 j)), ⟨rfl, hC2 _ (Fs.rf _), ?_, fun f a1 a2 => ?_, ?_⟩, fun m => ?_⟩
        · refine c_pwStep hR ((n46 46 (by omega) (by omega)).trans er) hr (fun f => by rw [s33, n46 50 (by omega) (by omega)]) (fun f => by rw [s34, n46 50 (by omega) (by omega)]) (s35 35 (by omega) (by omega)) (s35 36 (by omega) (by omega)) (s35 37 (by omega) (by omega)) bl35 bl36 bl37 (fun y hy => ?_) (fun t a1 a2 => s35 t (by omega) a2) s8
          rw [s35 38 (by omega) (by omega)]
          by_cases z : y = r
          · rw [if_pos z, if_neg (fun z => by have := kk.mpr z; rw [hk] at this; cases this), or_z, z]
          · rw [if_neg z]
        · dsimp only
          rw [s35 35 (by omega) (by omega), s35 36 (by omega) (by omega), s35 37 (by omega) (by omega)]
          exact hbl f (by omega) a2
        · exact (hg.tr c1.p).tr ((Fs.u _ _ (by omega)).p.tr (Fs.u _ _ (by omega)).p)
        · dsimp only
          rw [step, hk, if_neg (by decide)]
      · refine ⟨(nI (j + 1), uI (uI (uI g1 33 0 j (M.1 50 j)) 34 0 j (M.1 50 j)) 38 0 r ((g.1 38 0 r) ||| (M.1 50 j <<< (M.1 47 j &&& 31)))), ⟨rfl, hC2 _ (Fs.u _ _ (by omega)), ?_, fun f a1 a2 => ?_, ?_⟩, fun m => ?_⟩
        · refine c_pwStep hR ((n46 46 (by omega) (by omega)).trans er) hr (fun f => by rw [uI_ne (fun z => by omega), s33, n46 50 (by omega) (by omega)]) (fun f => by rw [uI_ne (fun z => by omega), s34, n46 50 (by omega) (by omega)]) (by rw [uI_ne (fun z => by omega)]; exact s35 35 (by omega) (by omega)) (by rw [uI_ne (fun z => by omega)]; exact s35 36 (by omega) (by omega)) (by rw [uI_ne (fun z => by omega)]; exact s35 37 (by omega) (by omega)) bl35 bl36 bl37 (fun y hy => ?_) (fun t a1 a2 => by rw [uI_ne (fun z => by omega)]; exact s35 t (by omega) a2) (by rw [uI_ne (fun z => by omega)]; exact s8)
          rw [if_pos (kk.mp hk), n46 50 (by omega) (by omega), n46 47 (by omega) (by omega), uI_1]
          by_cases z : y = r
          · rw [if_pos ⟨rfl, rfl, z⟩, if_pos z]
          · rw [if_neg (fun w => z w.2.2), if_neg z, s35 38 (by omega) (by omega)]
        · dsimp only
          have q : ∀ t, 34 < t → t ≤ 37 → (uI (uI (uI g1 33 0 j (M.1 50 j)) 34 0 j (M.1 50 j)) 38 0 r ((g.1 38 0 r) ||| (M.1 50 j <<< (M.1 47 j &&& 31)))).1 t 0 = g.1 t 0 := fun t a1 a2 => by rw [uI_ne (fun z => by omega)]; exact s35 t (by omega) (by omega)
          rw [q 35 (by omega) (by omega), q 36 (by omega) (by omega), q 37 (by omega) (by omega)]
          exact hbl f (by omega) a2
        · exact ((hg.tr c1.p).tr ((Fs.u _ _ (by omega)).p.tr (Fs.u _ _ (by omega)).p)).tr (Fs.u _ _ (by omega)).p
        · dsimp only
          rw [step, hk, if_pos rfl]
    · rintro ⟨v, g⟩ ⟨rfl, -, -, -, hg⟩ m
      dsimp only at hg
      have e4 : g.1 1 0 4 = nI n := (F.p hg).2.2.1
      show f_X2_powerUp_30 k (m + 1) (nI n) g = _
      rw [f_X2_powerUp_30, e4, if_neg (nI_nlt (Nat.le_refl _) (by omega))]
  obtain ⟨⟨v, g⟩, ⟨b1, b2, b3, b4, b5⟩, e⟩ := key
  exact ⟨v, g, b2, b3, b5, e⟩
