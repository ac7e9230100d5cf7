/-! ===== the class's events, and its TICK ===== -/
/-- events are of fields that are there -/
def evOK (n : Nat) (M : mM) : Prop := ∀ m, M.1 12 30 = nI m → m ≤ 17 → ∀ k, k < m → ∃ g, g < n ∧ M.1 69 k = nI g
theorem c_fire4 (k : Int32 → Int32 → mH → Option mH) {h : mH} {n m : Nat} {M : mM} (F : RF h n M) (R : RS h 0 n M) (hm : M.1 12 30 = nI m) (h16 : m ≤ 16) (ev : evOK n M) : ∃ h' : mH, RS h' 0 n (evSs m M).2 ∧ Fs h h' ∧ f_X2_fireEvents_4 k mFu 0 0 h = k (nI (evSs m M).1) (nI m) h' := by
  obtain ⟨h24, hn, hn', hf⟩ := F
  have hev := ev m hm (by omega)
  have key : ∃ b : Int32 × Int32 × mH, (b.1 = nI (evSs m M).1 ∧ b.2.1 = nI m ∧ Fs h b.2.2 ∧ RS b.2.2 0 n (evSs m M).2) ∧ f_X2_fireEvents_4 k mFu 0 0 h = k b.1 b.2.1 b.2.2 := by
    refine mLoopR (fun x (b : Int32 × Int32 × mH) => f_X2_fireEvents_4 k x b.1 b.2.1 b.2.2) (fun j b => b.1 = nI (evSs j M).1 ∧ b.2.1 = nI j ∧ Fs h b.2.2 ∧ RS b.2.2 0 n (evSs j M).2) m (fun b => k b.1 b.2.1 b.2.2) ?_ ?_ (b0 := (0, 0, h)) ⟨rfl, rfl, Fs.rf h, R⟩ mFu (mFu_lt (by omega))
    · rintro j hj ⟨v, w, g⟩ ⟨rfl, rfl, hg, hR⟩
      dsimp only at hg hR
      have hl := evSs_le M j
      have e69 : (evSs j M).2.1 69 j = M.1 69 j := evSs_hi M (Or.inl rfl) j j (Nat.le_refl _)
      have e30 : (evSs j M).2.1 12 30 = nI m := by rw [evSs_o _ (by decide) (by decide), hm]
      have e49 : ∀ x, (evSs j M).2.1 49 x = M.1 49 x := fun x => evSs_o _ (by decide) (by decide) x j
      obtain ⟨d, hd, ed⟩ := hev j hj
      rw [ed] at e69
      show ∃ b' : Int32 × Int32 × mH, (b'.1 = nI (evS (evSs j M) j).1 ∧ b'.2.1 = nI (j + 1) ∧ Fs h b'.2.2 ∧ RS b'.2.2 0 n (evS (evSs j M) j).2) ∧ _
      generalize evSs j M = p at hl e69 e30 e49 hR ⊢
      obtain ⟨l, N⟩ := p
      dsimp only at hl e69 e30 e49 hR ⊢
      obtain ⟨m', h16', c1, c2, c3⟩ := hR.2.2.1
      have em : m' = m := by
        have z : (nI m').toNatClampNeg = (nI m).toNatClampNeg := by rw [← c2, e30]
        rw [nI_clamp (by omega), nI_clamp (by omega)] at z
        exact z
      subst em
      have g39 : g.1 39 0 j = nI d := (c3 0 (by decide) j hj).trans e69
      have g40 : g.1 40 0 j = N.1 70 j := c3 1 (by decide) j hj
      have g41 : g.1 41 0 j = N.1 71 j := c3 2 (by decide) j hj
      have g10 : g.1 8 0 10 = N.1 12 23 := hR.2.2.2.1.1
      have g63 : g.1 6 d 3 = N.1 49 d := by rw [hg.1 6 d (by omega), e49]; exact (hf d hd).1.2.2.2.1
      have g33 : g.1 33 0 d = N.1 63 d := hR.1 0 (by decide) d hd
      have step : ∀ x, f_X2_fireEvents_4 k (x + 1) (nI l) (nI j) g = if N.1 71 j = N.1 12 23 then (if N.1 49 d = 1 then f_X2_fireEvents_4 k x (nI l) (nI (j + 1)) (uI g 33 0 d (N.1 70 j)) else f_X2_fireEvents_4 k x (nI l) (nI (j + 1)) (uI g 33 0 d (N.1 63 d ||| N.1 70 j))) else f_X2_fireEvents_4 k x (nI (l + 1)) (nI (j + 1)) (uI (uI (uI g 39 0 l (nI d)) 40 0 l (N.1 70 j)) 41 0 l (N.1 71 j)) := by
        intro x
        have z1 : (uI g 39 0 l (nI d)).1 40 0 j = N.1 70 j := by rw [uI_ne (fun z => by omega)]; exact g40
        have z2 : (uI (uI g 39 0 l (nI d)) 40 0 l (N.1 70 j)).1 41 0 j = N.1 71 j := by rw [uI_ne (fun z => by omega), uI_ne (fun z => by omega)]; exact g41
        rw [f_X2_fireEvents_4, c1, if_pos (nI_lt hj (by omega)), if_pos (mIn_nI (by omega) (by decide)), nI_clamp (n := j) (by omega), g41, g10, g39, if_pos (mIn_nI (by omega) (by decide)), nI_clamp (n := d) (by omega), g63, g40, g33, if_pos (mIn_nI (by omega) (by decide)), nI_clamp (n := l) (by omega)]
        simp only [mLet]
        rw [z1, z2, nI_succ j, nI_succ l]
      unfold evS
      dsimp only
      rw [e69, nI_clamp (by omega)]
      by_cases q1 : N.1 71 j = N.1 12 23
      · rw [if_pos q1]
        refine ⟨(nI l, nI (j + 1), uI g 33 0 d (if N.1 49 d = 1 then N.1 70 j else N.1 63 d ||| N.1 70 j)), ⟨rfl, rfl, hg.tr (Fs.u _ _ (by omega)), hR.row (q := 0) _ (by decide)⟩, fun x => ?_⟩
        dsimp only
        rw [step, if_pos q1]
        split <;> rfl
      · rw [if_neg q1]
        have R1 := hR.ev (q := 0) (k := l) (nI d) (by decide)
        have R2 := R1.ev (q := 1) (k := l) (N.1 70 j) (by decide)
        have R3 := R2.ev (q := 2) (k := l) (N.1 71 j) (by decide)
        refine ⟨(nI (l + 1), nI (j + 1), uI (uI (uI g 39 0 l (nI d)) 40 0 l (N.1 70 j)) 41 0 l (N.1 71 j)), ⟨rfl, rfl, ((hg.tr (Fs.u _ _ (by omega))).tr (Fs.u _ _ (by omega))).tr (Fs.u _ _ (by omega)), R3⟩, fun x => ?_⟩
        dsimp only
        rw [step, if_neg q1]
    · rintro ⟨v, w, g⟩ ⟨rfl, rfl, hg, hR⟩ x
      dsimp only at hg hR
      show f_X2_fireEvents_4 k (x + 1) (nI (evSs m M).1) (nI m) g = _
      have e30 : (evSs m M).2.1 12 30 = nI m := by rw [evSs_o _ (by decide) (by decide), hm]
      obtain ⟨m', h16', c1, c2, c3⟩ := hR.2.2.1
      rw [f_X2_fireEvents_4, c1, ← c2, e30, if_neg (nI_nlt (Nat.le_refl _) (by omega))]
  obtain ⟨⟨v, w, g⟩, ⟨b1, b2, b3, b4⟩, e⟩ := key
  dsimp only at b1 b2 b3 b4 e
  exact ⟨g, b4, b3, by rw [e, b1, b2]⟩
theorem RS.count {h : mH} {s n : Nat} {M : mM} (R : RS h s n M) {m : Nat} (hm : M.1 12 30 = nI m) (h17 : m ≤ 17) : m ≤ 16 ∧ h.1 8 s 9 = nI m := by
  obtain ⟨m', h16', c1, c2, c3⟩ := R.2.2.1
  have em : m' = m := by
    have z : (nI m').toNatClampNeg = (nI m).toNatClampNeg := by rw [← c2, hm]
    rw [nI_clamp (by omega), nI_clamp (by omega)] at z
    exact z
  subst em
  exact ⟨h16', c1⟩
theorem evSs_0 (M : mM) : evSs 0 M = (0, M) := rfl
/-- A TICK OF THE CLASS -/
theorem c_tick {h : mH} {n : Nat} {M : mM} (F : RF h n M) (C : RH h n M) (R : RS h 0 n M) (dn : dnOK n M) (ev : evOK n M) : ∃ h' : mH, f_X2_tick h = some h' ∧ RS h' 0 n (tikM M) ∧ Fs h h' := by
  obtain ⟨m, h16, c1, c2, c3⟩ := R.2.2.1
  have hn := F.2.1
  have h24 := F.1
  unfold f_X2_tick
  have e10 : h.1 8 0 10 = M.1 12 23 := R.2.2.2.1.1
  rw [e10]
  have R1 : RS (uI h 8 0 10 (M.1 12 23 + 1)) 0 n (uM M 12 23 (M.1 12 23 + 1)) := R.sc _ (Or.inl ⟨rfl, rfl⟩)
  have F1 : Fs h (uI h 8 0 10 (M.1 12 23 + 1)) := Fs.u _ _ (by omega)
  have hN : ∀ t k, 46 ≤ t → t ≤ 53 → (uM M 12 23 (M.1 12 23 + 1)).1 t k = M.1 t k := fun t k h1 _ => uM_t _ (by omega)
  have hF1 := F.to F1 (N := uM M 12 23 (M.1 12 23 + 1)) (uM_k _ (by decide)) hN
  have hC1 := C.to F1 (N := uM M 12 23 (M.1 12 23 + 1)) hN
  have dn1 : dnOK n (uM M 12 23 (M.1 12 23 + 1)) := fun f hf => by rw [hN 52 f (by omega) (by omega)]; exact dn f hf
  obtain ⟨v, h2, R2, F2, e2⟩ := c_tick15 (fun _ h9 => if (h9.1 8 0 9) ≤ 0 then some h9 else (f_X2_fireEvents h9).bind fun r11 => some r11) hF1 hC1 R1 dn1
  rw [e2]
  have ep : plFs n (uM M 12 23 (M.1 12 23 + 1)) = tikP M := by unfold tikP; rw [hn, nI_clamp (by omega)]
  rw [ep] at R2
  have hN2 : ∀ t k, t ≠ 63 → t ≠ 65 → t ≠ 12 → (tikP M).1 t k = M.1 t k := fun t k h1 h2 h3 => by
    unfold tikP
    rw [plFs_o _ h1 h2, uM_t _ h3]
  have m30 : (tikP M).1 12 30 = nI m := by
    unfold tikP
    rw [plFs_o _ (by decide) (by decide), uM_k _ (by decide)]
    exact c2
  have hF2 := hF1.to F2 (N := tikP M) (by rw [← ep, plFs_o _ (by decide) (by decide)]) (fun t k h1 h2 => by rw [hN2 t k (by omega) (by omega) (by omega), hN t k h1 h2])
  have ev2 : evOK n (tikP M) := fun m' hm' h17 k hk => by
    rw [hN2 69 k (by decide) (by decide) (by decide)]
    have z : (nI m').toNatClampNeg = (nI m).toNatClampNeg := by rw [← hm', m30]
    rw [nI_clamp (by omega), nI_clamp (by omega)] at z
    exact ev m c2 (by omega) k (by omega)
  obtain ⟨-, hc9⟩ := R2.count m30 (by omega)
  have et : tikM M = uM (evSs m (tikP M)).2 12 30 (nI (evSs m (tikP M)).1) := by unfold tikM; rw [c2, nI_clamp (by omega)]
  rw [et]
  by_cases q : m = 0
  · subst q
    rw [hc9, if_pos (show nI 0 ≤ (0 : Int32) from Int32.le_refl _)]
    refine ⟨h2, rfl, ?_, F1.tr F2⟩
    show RS h2 0 n (uM (tikP M) 12 30 (nI 0))
    have ee : uM (tikP M) 12 30 (nI 0) = tikP M := by
      apply Prod.ext
      · funext t k
        show (if t = 12 ∧ k = 30 then nI 0 else (tikP M).1 t k) = _
        by_cases z : t = 12 ∧ k = 30
        · rw [if_pos z, z.1, z.2, m30]
        · rw [if_neg z]
      · rfl
    rw [ee]
    exact R2
  · have hpos : ¬ nI m ≤ (0 : Int32) := (nI_ge (a := 0) (b := m) (by omega) (by omega))
    rw [hc9, if_neg hpos]
    unfold f_X2_fireEvents
    obtain ⟨h3, R3, F3, e3⟩ := c_fire4 (fun u9 _ h11 => some (uI h11 8 0 9 u9)) hF2 R2 m30 h16 ev2
    rw [e3, Option.bind_some]
    have hm3 : (evSs m (tikP M)).2.1 12 30 = nI m := by rw [evSs_o _ (by decide) (by decide)]; exact m30
    exact ⟨_, rfl, R3.evc hm3 h16 (evSs_le _ _), ((F1.tr F2).tr F3).tr (Fs.u _ _ (by omega))⟩
