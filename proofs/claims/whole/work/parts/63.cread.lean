/-! ===== READ of the class ===== -/
theorem z_shl (s : Int32) : (0 : Int32) <<< s = 0 := by simp
theorem or_z (x : Int32) : x ||| 0 = x := by simp
theorem uM_same (M : mM) (t k : Nat) : uM M t k (M.1 t k) = M := by
  apply Prod.ext
  · funext t' k'
    show (if t' = t ∧ k' = k then M.1 t k else M.1 t' k') = _
    by_cases z : t' = t ∧ k' = k
    · rw [if_pos z, z.1, z.2]
    · rw [if_neg z]
  · rfl
/-- a LOAD's value is 0 -/
def ldOK (n : Nat) (M : mM) : Prop := ∀ f, f < n → M.1 49 f = 6 → M.1 63 f = 0
theorem rdFold_o (r b : Int32) {t : Nat} (h1 : t ≠ 63) (h2 : t ≠ 66) (k : Nat) (l : List Nat) : ∀ p : Int32 × mM, (l.foldl (rdS r b) p).2.1 t k = p.2.1 t k := by
  induction l with
  | nil => intro p; rfl
  | cons f l ih =>
    intro p
    show (l.foldl (rdS r b) (rdS r b p f)).2.1 t k = _
    rw [ih]
    unfold rdS
    split
    · split
      · rfl
      · split
        · show (uM (uM _ 66 _ _) 63 _ _).1 t k = _
          rw [uM_t _ h1, uM_t _ h2]
        · rfl
    · rfl
theorem rdFold_ld (r b : Int32) {g : Nat} (l : List Nat) : ∀ p : Int32 × mM, p.2.1 49 g = 6 → (l.foldl (rdS r b) p).2.1 63 g = p.2.1 63 g := by
  induction l with
  | nil => intro p _; rfl
  | cons f l ih =>
    intro p hp
    show (l.foldl (rdS r b) (rdS r b p f)).2.1 63 g = _
    have e49 : (rdS r b p f).2.1 49 g = p.2.1 49 g := by
      have z := rdFold_o r b (t := 49) (by decide) (by decide) g [f] p
      exact z
    rw [ih _ (e49.trans hp)]
    unfold rdS
    split
    · split
      · rfl
      · split
        · rename_i q3
          show (uM (uM _ 66 _ _) 63 _ _).1 63 g = _
          have hne : g ≠ f := fun e => by
            rw [e, q3] at hp
            exact absurd hp (by decide)
          rw [uM_k _ hne, uM_t _ (by decide)]
        · rfl
    · rfl
theorem rdSs_fold (r : Nat) (b : Int32) (M : mM) : ∀ n, rdSs (nI r) b n M = (lsP (inR M r) n).foldl (rdS (nI r) b) (0, M)
  | 0 => rfl
  | n + 1 => by
    have ih := rdSs_fold r b M n
    show rdS (nI r) b (rdSs (nI r) b n M) n = _
    have e46 : (rdSs (nI r) b n M).2.1 46 n = M.1 46 n := rdSs_o _ _ _ (by decide) (by decide) n n
    unfold lsP
    by_cases q : inR M r n = true
    · rw [if_pos q, List.foldl_append, ← ih]
      rfl
    · rw [if_neg q, ← ih]
      unfold rdS
      have q' : ¬ M.1 46 n = nI r := fun z => q (decide_eq_true z)
      rw [if_neg (by rw [e46]; exact q')]
theorem c_read5 (k : Int32 → Int32 → Int32 → Int32 → mH → Option (Int32 × mH)) {h : mH} {n r : Nat} {M : mM} (b : Int32) (hr : r < 8) (F : RF h n M) (C : RH h n M) (R : RS h 0 n M) (ld : ldOK n M) : ∃ (v : Int32) (h' : mH), RS h' 0 n (rdSs (nI r) b n M).2 ∧ Fs h h' ∧ f_X2_readRegister_5 k mFu (nI r) b 0 0 h = k (nI r) b (rdSs (nI r) b n M).1 v h' := by
  rw [rdSs_fold]
  obtain ⟨hc, -, -⟩ := C
  obtain ⟨h16, hcl, hin, -⟩ := hc r hr
  obtain ⟨h24, hn, hn', hf⟩ := F
  generalize hl : lsP (inR M r) n = l at h16 hcl hin ⊢
  have key : ∃ c : Int32 × Int32 × mH, (c.1 = ((l.take l.length).foldl (rdS (nI r) b) (0, M)).1 ∧ c.2.1 = nI l.length ∧ Fs h c.2.2 ∧ RS c.2.2 0 n ((l.take l.length).foldl (rdS (nI r) b) (0, M)).2) ∧ f_X2_readRegister_5 k mFu (nI r) b 0 0 h = k (nI r) b c.1 c.2.1 c.2.2 := by
    refine mLoopR (fun m (c : Int32 × Int32 × mH) => f_X2_readRegister_5 k m (nI r) b c.1 c.2.1 c.2.2) (fun j c => c.1 = ((l.take j).foldl (rdS (nI r) b) (0, M)).1 ∧ c.2.1 = nI j ∧ Fs h c.2.2 ∧ RS c.2.2 0 n ((l.take j).foldl (rdS (nI r) b) (0, M)).2) l.length (fun c => k (nI r) b c.1 c.2.1 c.2.2) ?_ ?_ (b0 := (0, 0, h)) ⟨rfl, rfl, Fs.rf h, R⟩ mFu (mFu_lt (by omega))
    · rintro j hj ⟨x, w, g⟩ ⟨rfl, rfl, hg, hR⟩
      dsimp only at hg hR
      have hm : l.getD j 0 ∈ lsP (inR M r) n := by rw [hl]; exact getD_mem hj
      obtain ⟨f, ef⟩ : ∃ f, f = l.getD j 0 := ⟨_, rfl⟩
      rw [← ef] at hm
      obtain ⟨hfn, hk⟩ := lsP_lt hm
      have hk : M.1 46 f = nI r := of_decide_eq_true hk
      have e29 : g.1 29 0 r = nI l.length := by rw [hg.1 29 0 (by omega)]; exact hcl
      have e28 : g.1 28 r j = nI f := by rw [hg.1 28 r (by omega), ef]; exact hin j hj
      rw [take_foldl (rdS (nI r) b) (0, M) l hj, ← ef]
      have p46 : ((l.take j).foldl (rdS (nI r) b) (0, M)).2.1 46 f = nI r := (rdFold_o _ _ (by decide) (by decide) f _ _).trans hk
      have p49 : ((l.take j).foldl (rdS (nI r) b) (0, M)).2.1 49 f = M.1 49 f := rdFold_o _ _ (by decide) (by decide) f _ _
      have p47 : ((l.take j).foldl (rdS (nI r) b) (0, M)).2.1 47 f = M.1 47 f := rdFold_o _ _ (by decide) (by decide) f _ _
      have p63 : M.1 49 f = 6 → ((l.take j).foldl (rdS (nI r) b) (0, M)).2.1 63 f = 0 := fun z => (rdFold_ld _ _ _ _ z).trans (ld f hfn z)
      generalize (l.take j).foldl (rdS (nI r) b) (0, M) = p at hR p46 p49 p47 p63 ⊢
      obtain ⟨x, N⟩ := p
      dsimp only at hR p46 p49 p47 p63 ⊢
      have g6 : g.1 6 f = h.1 6 f := hg.1 6 f (by omega)
      have g63 : g.1 6 f 3 = N.1 49 f := by rw [g6, p49]; exact (hf f hfn).1.2.2.2.1
      have g61 : g.1 6 f 1 = N.1 47 f := by rw [g6, p47]; exact (hf f hfn).1.2.1
      have g33 : g.1 33 0 f = N.1 63 f := hR.1 0 (by decide) f hfn
      have g36 : g.1 36 0 f = N.1 66 f := hR.1 3 (by decide) f hfn
      have step : ∀ m, f_X2_readRegister_5 k (m + 1) (nI r) b x (nI j) g = if N.1 49 f = 3 then (if b = 0 then f_X2_readRegister_5 k m (nI r) b (x ||| (N.1 63 f <<< (N.1 47 f &&& 31))) (nI (j + 1)) (uI g 33 0 f 0) else f_X2_readRegister_5 k m (nI r) b (x ||| (N.1 63 f <<< (N.1 47 f &&& 31))) (nI (j + 1)) (uI (uI g 36 0 f (N.1 66 f ||| N.1 63 f)) 33 0 f 0)) else f_X2_readRegister_5 k m (nI r) b (x ||| (N.1 63 f <<< (N.1 47 f &&& 31))) (nI (j + 1)) g := by
        intro m
        rw [f_X2_readRegister_5, if_pos (mIn_nI hr (by decide)), nI_clamp (n := r) (by omega), e29, if_pos (nI_lt hj (by omega)), if_pos (mIn_nI (by omega) (by decide)), nI_clamp (n := j) (by omega), e28, if_pos (mIn_nI (by omega) (by decide)), nI_clamp (n := f) (by omega), g63, g61, g33, g36, nI_succ j]
        simp only [mLet]
      unfold rdS
      dsimp only
      rw [if_pos p46]
      by_cases q6 : N.1 49 f = 6
      · rw [if_pos q6]
        refine ⟨(x, nI (j + 1), g), ⟨rfl, rfl, hg, hR⟩, fun m => ?_⟩
        dsimp only
        have z0 : N.1 63 f = 0 := p63 (by rw [← p49]; exact q6)
        rw [step, if_neg (by rw [q6]; decide), z0, z_shl, or_z]
      · rw [if_neg q6]
        by_cases q3 : N.1 49 f = 3
        · rw [if_pos q3]
          by_cases qb : b = 0
          · rw [if_pos qb, or_z, uM_same]
            refine ⟨(x ||| (N.1 63 f <<< (N.1 47 f &&& 31)), nI (j + 1), uI g 33 0 f 0), ⟨rfl, rfl, hg.tr (Fs.u _ _ (by omega)), hR.row (q := 0) _ (by decide)⟩, fun m => ?_⟩
            dsimp only
            rw [step, if_pos q3, if_pos qb]
          · rw [if_neg qb]
            have R1 := hR.row (q := 3) (f := f) (N.1 66 f ||| N.1 63 f) (by decide)
            have R2 := R1.row (q := 0) (f := f) 0 (by decide)
            refine ⟨(x ||| (N.1 63 f <<< (N.1 47 f &&& 31)), nI (j + 1), uI (uI g 36 0 f (N.1 66 f ||| N.1 63 f)) 33 0 f 0), ⟨rfl, rfl, (hg.tr (Fs.u _ _ (by omega))).tr (Fs.u _ _ (by omega)), R2⟩, fun m => ?_⟩
            dsimp only
            rw [step, if_pos q3, if_neg qb]
        · rw [if_neg q3]
          refine ⟨(x ||| (N.1 63 f <<< (N.1 47 f &&& 31)), nI (j + 1), g), ⟨rfl, rfl, hg, hR⟩, fun m => ?_⟩
          dsimp only
          rw [step, if_neg q3]
    · rintro ⟨x, w, g⟩ ⟨rfl, rfl, hg, -⟩ m
      dsimp only at hg
      have e29 : g.1 29 0 r = nI l.length := by rw [hg.1 29 0 (by omega)]; exact hcl
      show f_X2_readRegister_5 k (m + 1) (nI r) b _ (nI l.length) g = _
      rw [f_X2_readRegister_5, if_pos (mIn_nI hr (by decide)), nI_clamp (n := r) (by omega), e29, if_neg (nI_nlt (Nat.le_refl _) (by omega))]
  obtain ⟨⟨x, w, g⟩, ⟨b1, b2, b3, b4⟩, e⟩ := key
  dsimp only at b1 b2 b3 b4 e
  rw [List.take_length] at b1 b4
  exact ⟨w, g, b4, b3, by rw [e, b1]⟩
/-- A READ OF THE CLASS -/
theorem c_read {h : mH} {n r : Nat} {M : mM} (b : Int32) (hr : r < 8) (F : RF h n M) (C : RH h n M) (R : RS h 0 n M) (dn : dnOK n M) (ev : evOK n M) (ld : ldOK n M) : ∃ h' : mH, f_X2_readRegister (nI r) b h = some ((redM (nI r) b M).1, h') ∧ RS h' 0 n (redM (nI r) b M).2 ∧ Fs h h' := by
  unfold f_X2_readRegister
  obtain ⟨v, h1, R1, F1, e1⟩ := c_read5 (fun _ _ u10 _ h12 => (f_X2_tick h12).bind fun r13 => some (u10, r13)) b hr F C R ld
  rw [e1]
  have hN : ∀ t k, t ≠ 63 → t ≠ 66 → (rdSs (nI r) b n M).2.1 t k = M.1 t k := fun t k h1 h2 => rdSs_o _ _ _ h1 h2 k n
  have hF := F.to F1 (N := (rdSs (nI r) b n M).2) (hN 12 2 (by decide) (by decide)) (fun t k a1 a2 => hN t k (by omega) (by omega))
  have hC := C.to F1 (N := (rdSs (nI r) b n M).2) (fun t k a1 a2 => hN t k (by omega) (by omega))
  have dn1 : dnOK n (rdSs (nI r) b n M).2 := fun f hf => by rw [hN 52 f (by decide) (by decide)]; exact dn f hf
  have ev1 : evOK n (rdSs (nI r) b n M).2 := fun m hm h17 k hk => by
    rw [hN 69 k (by decide) (by decide)]
    rw [hN 12 30 (by decide) (by decide)] at hm
    exact ev m hm h17 k hk
  obtain ⟨h2, e2, R2, F2⟩ := c_tick hF hC R1 dn1 ev1
  rw [e2, Option.bind_some]
  have en : (M.1 12 2).toNatClampNeg = n := by rw [F.2.1, nI_clamp (by have := F.1; omega)]
  unfold redM
  rw [en]
  exact ⟨h2, rfl, R2, F1.tr F2⟩
