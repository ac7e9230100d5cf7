theorem pwSh_68 (M : mM) (k : Nat) : ∀ j, (pwSh j M).1 68 k = if k < j then 0 else M.1 68 k
  | 0 => (if_neg (by omega)).symm
  | j + 1 => by
    show (if 68 = 68 ∧ k = j then 0 else (pwSh j M).1 68 k) = _
    rw [pwSh_68 M k j]
    by_cases z : k = j
    · rw [if_pos ⟨rfl, z⟩, if_pos (by omega)]
    · rw [if_neg (fun y => z y.2)]
      by_cases y : k < j
      · rw [if_pos y, if_pos (by omega)]
      · rw [if_neg y, if_neg (by omega)]
theorem pwSc_1 (M : mM) (t k : Nat) : (pwSc M).1 t k = if t = 12 ∧ k = 38 then 0 else if t = 12 ∧ k = 37 then 0 else if t = 12 ∧ k = 36 then -1 else if t = 12 ∧ k = 35 then -1 else if t = 12 ∧ k = 34 then 0 else if t = 12 ∧ k = 30 then 0 else if t = 12 ∧ k = 23 then 0 else M.1 t k := rfl
theorem c_powerUp {h : mH} {n : Nat} {M : mM} (F : RF h n M) (hreg : ∀ f, f < n → ∃ r, r < 8 ∧ M.1 46 f = nI r) (h16 : ∀ r, r < 8 → (lsP (inR M r) n).length ≤ 16) : ∃ h', f_X2_powerUp h = some h' ∧ RH h' n M ∧ RS h' 0 n (powM M) ∧ Fp h h' := by
  have en : (M.1 12 2).toNatClampNeg = n := by rw [F.2.1, nI_clamp (by have := F.1; omega)]
  obtain ⟨g, eg, G2⟩ : ∃ g : mH, f_X2_powerUp h = f_X2_powerUp_30 (fun _ h12 => some h12) mFu 0 g ∧ (g.2 = h.2 ∧ ∀ t i k, g.1 t i k = if t = 2 ∧ i = 0 ∧ k = 6 then 0 else if t = 30 ∧ i = 0 ∧ k < 8 then 0 else if t = 29 ∧ i = 0 ∧ k < 8 then 0 else if t = 8 ∧ i = 0 ∧ k = 15 then -1 else if t = 8 ∧ i = 0 ∧ k = 14 then -1 else if t = 8 ∧ i = 0 ∧ k = 13 then 0 else if t = 8 ∧ i = 0 ∧ k = 12 then 0 else if t = 8 ∧ i = 0 ∧ k = 11 then 0 else if t = 8 ∧ i = 0 ∧ k = 10 then 0 else if t = 8 ∧ i = 0 ∧ k = 9 then 0 else if t = 38 ∧ i = 0 ∧ k < 8 then 0 else if t = 37 ∧ i = 0 ∧ k < 24 then -1 else if t = 36 ∧ i = 0 ∧ k < 24 then 0 else if t = 35 ∧ i = 0 ∧ k < 24 then 0 else if t = 34 ∧ i = 0 ∧ k < 24 then 0 else if t = 33 ∧ i = 0 ∧ k < 24 then 0 else h.1 t i k) := by
    refine ⟨(uI (flI (flI (uI (uI (uI (uI (uI (uI (uI (flI (flI (flI (flI (flI (flI h 33 0 24 0) 34 0 24 0) 35 0 24 0) 36 0 24 0) 37 0 24 (-1)) 38 0 8 0) 8 0 9 0) 8 0 10 0) 8 0 11 0) 8 0 12 0) 8 0 13 0) 8 0 14 (-1)) 8 0 15 (-1)) 29 0 8 0) 30 0 8 0) 2 0 6 0), ?_, rfl, fun _ _ _ => rfl⟩
    unfold f_X2_powerUp f_X8_blank
    simp only [mLet]
    rw [e_fill 33 (by omega), Option.bind_some, e_fill 34 (by omega), Option.bind_some, e_fill 35 (by omega), Option.bind_some, e_fill 36 (by omega), Option.bind_some, e_fill 37 (by omega), Option.bind_some, e_fill 38 (by omega), Option.bind_some, Option.bind_some, e_fill 29 (by omega), Option.bind_some, e_fill 30 (by omega), Option.bind_some]
  obtain ⟨gl, G⟩ := G2
  have fp : Fp h g := ⟨fun t i q => by
    funext k
    rw [G]
    simp (config := { contextual := true }) only [if_neg (show ¬ (t = 2 ∧ i = 0 ∧ k = 6) by omega), if_neg (show ¬ (t = 30 ∧ i = 0 ∧ k < 8) by omega), if_neg (show ¬ (t = 29 ∧ i = 0 ∧ k < 8) by omega), if_neg (show ¬ (t = 8 ∧ i = 0 ∧ k = 15) by omega), if_neg (show ¬ (t = 8 ∧ i = 0 ∧ k = 14) by omega), if_neg (show ¬ (t = 8 ∧ i = 0 ∧ k = 13) by omega), if_neg (show ¬ (t = 8 ∧ i = 0 ∧ k = 12) by omega), if_neg (show ¬ (t = 8 ∧ i = 0 ∧ k = 11) by omega), if_neg (show ¬ (t = 8 ∧ i = 0 ∧ k = 10) by omega), if_neg (show ¬ (t = 8 ∧ i = 0 ∧ k = 9) by omega), if_neg (show ¬ (t = 38 ∧ i = 0 ∧ k < 8) by omega), if_neg (show ¬ (t = 37 ∧ i = 0 ∧ k < 24) by omega), if_neg (show ¬ (t = 36 ∧ i = 0 ∧ k < 24) by omega), if_neg (show ¬ (t = 35 ∧ i = 0 ∧ k < 24) by omega), if_neg (show ¬ (t = 34 ∧ i = 0 ∧ k < 24) by omega), if_neg (show ¬ (t = 33 ∧ i = 0 ∧ k < 24) by omega)], gl⟩
  have hM2 : ∀ t y, 46 ≤ t → t ≤ 53 → (pwSh 8 (pwSc M)).1 t y = M.1 t y := fun t y a b => by
    rw [pwSh_o _ (by omega), pwSc_1]
    rw [if_neg (by omega), if_neg (by omega), if_neg (by omega), if_neg (by omega), if_neg (by omega), if_neg (by omega), if_neg (by omega)]
  have s12 : ∀ k, (pwSh 8 (pwSc M)).1 12 k = (pwSc M).1 12 k := fun k => pwSh_o _ (by omega) _ _
  have key : ∃ (v : Int32) (h' : mH), RH h' n M ∧ RS h' 0 n (pwFs n (pwSh 8 (pwSc M))) ∧ Fp g h' ∧ f_X2_powerUp_30 (fun _ h12 => some h12) mFu 0 g = some h' := by
    refine c_pw30 (fun _ h12 => some h12) (F.p fp) hM2 (h := g) ?_ ?_ ?_ hreg h16
    · refine ⟨fun r hr => ⟨Nat.zero_le _, ?_, fun k hk => absurd hk (Nat.not_lt_zero _), ?_⟩, ?_, fun k hk => absurd hk (Nat.not_lt_zero _)⟩
      · rw [G]
        simp [hr]
        rfl
      · rw [G]
        simp [hr]
        rfl
      · rw [G]
        simp
        rfl
    · refine ⟨fun q _ f hf => absurd hf (Nat.not_lt_zero _), fun r hr => ?_, ⟨0, by omega, ?_, ?_, fun q _ k hk => absurd hk (Nat.not_lt_zero _)⟩, ⟨?_, ?_, ?_, ?_⟩, fun z => absurd ?_ z⟩
      · rw [G, pwSh_68, if_pos hr]
        simp [hr]
      · rw [G]; simp; rfl
      · rw [s12, pwSc_1]; simp; rfl
      · rw [G, s12, pwSc_1]; simp
      · rw [G, s12, pwSc_1]; simp
      · rw [G, s12, pwSc_1]; simp
      · rw [G, s12, pwSc_1]; simp
      · rw [s12, pwSc_1]; simp
    · intro f hf
      rw [G, G, G]
      simp [hf]
  obtain ⟨v, h', C, R, fp2, e⟩ := key
  refine ⟨h', eg.trans e, C, ?_, fp.tr fp2⟩
  unfold powM
  rw [en]
  exact R
