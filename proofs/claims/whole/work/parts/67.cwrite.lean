/-! ===== WRITE of the class, whole ===== -/
theorem w8Ss_92 (r x : Int32) (M : mM) : ∀ n f, f < n → (w8Ss r x n M).1 92 f = b2i (hitM M f r x)
  | 0, f, h => by omega
  | n + 1, f, h => by
    show (uM (w8Ss r x n M) 92 n (b2i (hitM (w8Ss r x n M) n r x))).1 92 f = _
    by_cases e : f = n
    · subst e
      rw [uM_s, hitM_to r x (fun t ht => w8Ss_o r x M (by omega) f f)]
    · rw [uM_k _ e, w8Ss_92 r x M n f (by omega)]
theorem uM_comm (M : mM) {t t' : Nat} (h : t ≠ t') (k k' : Nat) (v v' : Int32) : uM (uM M t k v) t' k' v' = uM (uM M t' k' v') t k v := by
  apply Prod.ext
  · funext a b
    show (if a = t' ∧ b = k' then v' else if a = t ∧ b = k then v else M.1 a b) = (if a = t ∧ b = k then v else if a = t' ∧ b = k' then v' else M.1 a b)
    by_cases z : a = t' ∧ b = k'
    · rw [if_pos z, if_pos z, if_neg (fun y => h (y.1.symm.trans z.1))]
    · rw [if_neg z, if_neg z]
  · rfl
theorem ldFs_comm (M : mM) (k : Nat) (v : Int32) : ∀ j, ldFs j (uM M 67 k v) = uM (ldFs j M) 67 k v
  | 0 => rfl
  | j + 1 => by
    show ldF (ldFs j (uM M 67 k v)) j = uM (ldF (ldFs j M) j) 67 k v
    rw [ldFs_comm M k v j]
    unfold ldF
    rw [uM_t _ (by decide), uM_t _ (by decide), uM_t _ (by decide), uM_comm _ (by decide)]
theorem tke_comm (M : mM) (f : Nat) (b : Int32) (k : Nat) (v : Int32) : tkeM (uM M 67 k v) f b = uM (tkeM M f b) 67 k v := by
  unfold tkeM
  simp (config := { decide := true }) only [uM_t]
  repeat' split
  all_goals first | rfl | exact ldFs_comm M k v _ | (rw [uM_comm M (t := 67) (t' := 63) (by decide), uM_comm (uM M 63 f _) (t := 67) (t' := 65) (by decide)]; done) | rw [uM_comm _ (by decide)]
theorem w37Fold_o (r x : Int32) {t : Nat} (h1 : t < 63 ∨ 67 < t ∨ t = 66) (k : Nat) (l : List Nat) : ∀ M : mM, (l.foldl (w37S r x) M).1 t k = M.1 t k := by
  induction l with
  | nil => intro M; rfl
  | cons f l ih =>
    intro M
    show (l.foldl (w37S r x) (w37S r x M f)).1 t k = _
    rw [ih]
    unfold w37S w37T
    rw [uM_t _ (by omega)]
    split
    · rw [tkeM_o _ _ _ (by omega)]
    · rfl
theorem w37Ss_fold (r : Nat) (x : Int32) (M N : mM) (h46 : ∀ f, N.1 46 f = M.1 46 f) (h92 : ∀ n f, f < n → inR M r f = false → n ≤ 24 → N.1 92 f = 0) : ∀ n, n ≤ 24 → w37Ss (nI r) x n N = (lsP (inR M r) n).foldl (w37S (nI r) x) N
  | 0, _ => rfl
  | n + 1, hn => by
    have ih := w37Ss_fold r x M N h46 h92 n (by omega)
    show w37S (nI r) x (w37Ss (nI r) x n N) n = _
    unfold lsP
    by_cases q : inR M r n = true
    · rw [if_pos q, List.foldl_append, ← ih]
      rfl
    · rw [if_neg q, ← ih]
      have q' : ¬ M.1 46 n = nI r := fun z => q (decide_eq_true z)
      have e46 : (w37Ss (nI r) x n N).1 46 n = M.1 46 n := (w37Ss_o _ _ _ (by omega) n n).trans (h46 n)
      have e92 : (w37Ss (nI r) x n N).1 92 n = 0 := (w37Ss_o _ _ _ (by omega) n n).trans (h92 (n + 1) n (by omega) (by simpa using q) hn)
      unfold w37S w37T
      rw [if_neg (by rw [e46]; exact q'), if_pos e92, uM_same]
theorem c_write15 (k : Int32 → Int32 → Int32 → Int32 → mH → Option mH) {h : mH} {n r : Nat} {M N0 : mM} (x : Int32) (hr : r < 8) (F : RF h n M) (C : RH h n M) (R : RS h 0 n N0) (hN : ∀ t k, 46 ≤ t → t ≤ 53 → N0.1 t k = M.1 t k) (h12 : N0.1 12 2 = M.1 12 2) (h92 : ∀ f, f < n → N0.1 92 f = b2i (hitM M f (nI r) x)) : ∃ (v : Int32) (h' : mH), RS h' 0 n (w37Ss (nI r) x n N0) ∧ Fs h h' ∧ f_X2_writeRegister_15 k mFu (nI r) x (hbM M r x n) 0 h = k (nI r) x (hbM M r x n) v h' := by
  have h24 := F.1
  obtain ⟨hc, -, -⟩ := C
  obtain ⟨h16, hcl, hin, -⟩ := hc r hr
  have hfold : w37Ss (nI r) x n N0 = (lsP (inR M r) n).foldl (w37S (nI r) x) N0 := by
    have g : ∀ m, m ≤ n → w37Ss (nI r) x m N0 = (lsP (inR M r) m).foldl (w37S (nI r) x) N0 := by
      intro m
      induction m with
      | zero => intro _; rfl
      | succ m ih =>
        intro hm
        show w37S (nI r) x (w37Ss (nI r) x m N0) m = _
        unfold lsP
        by_cases q : inR M r m = true
        · rw [if_pos q, List.foldl_append, ← ih (by omega)]
          rfl
        · rw [if_neg q, ← ih (by omega)]
          have q' : ¬ M.1 46 m = nI r := fun z => q (decide_eq_true z)
          have e46 : (w37Ss (nI r) x m N0).1 46 m = M.1 46 m := (w37Ss_o _ _ _ (by omega) m m).trans (hN 46 m (by omega) (by omega))
          have hh : hitM M m (nI r) x = false := by
            unfold hitM
            rw [decide_eq_false q', Bool.false_and]
          have e92 : (w37Ss (nI r) x m N0).1 92 m = 0 := (w37Ss_o _ _ _ (by omega) m m).trans ((h92 m (by omega)).trans (by rw [hh]; rfl))
          unfold w37S w37T
          rw [if_neg (by rw [e46]; exact q'), if_pos e92, uM_same]
    exact g n (Nat.le_refl _)
  rw [hfold]
  generalize hl : lsP (inR M r) n = l at h16 hcl hin ⊢
  have key : ∃ c : Int32 × mH, (c.1 = nI l.length ∧ Fs h c.2 ∧ RS c.2 0 n ((l.take l.length).foldl (w37S (nI r) x) N0)) ∧ f_X2_writeRegister_15 k mFu (nI r) x (hbM M r x n) 0 h = k (nI r) x (hbM M r x n) c.1 c.2 := by
    refine mLoopR (fun m (c : Int32 × mH) => f_X2_writeRegister_15 k m (nI r) x (hbM M r x n) c.1 c.2) (fun j c => c.1 = nI j ∧ Fs h c.2 ∧ RS c.2 0 n ((l.take j).foldl (w37S (nI r) x) N0)) l.length (fun c => k (nI r) x (hbM M r x n) c.1 c.2) ?_ ?_ (b0 := (0, h)) ⟨rfl, Fs.rf h, R⟩ mFu (mFu_lt (by omega))
    · rintro j hj ⟨v, g⟩ ⟨rfl, hg, hR⟩
      dsimp only at hg hR
      have hm : l.getD j 0 ∈ lsP (inR M r) n := by rw [hl]; exact getD_mem hj
      obtain ⟨f, ef⟩ : ∃ f, f = l.getD j 0 := ⟨_, rfl⟩
      rw [← ef] at hm
      obtain ⟨hfn, hk⟩ := lsP_lt hm
      have hk : M.1 46 f = nI r := of_decide_eq_true hk
      have e29 : g.1 29 0 r = nI l.length := by rw [hg.1 29 0 (by omega)]; exact hcl
      have e28 : g.1 28 r j = nI f := by rw [hg.1 28 r (by omega), ef]; exact hin j hj
      rw [take_foldl (w37S (nI r) x) N0 l hj, ← ef]
      have pN : ∀ t y, t < 63 ∨ 67 < t ∨ t = 66 → ((l.take j).foldl (w37S (nI r) x) N0).1 t y = N0.1 t y := fun t y z => w37Fold_o _ _ z y _ _
      generalize (l.take j).foldl (w37S (nI r) x) N0 = N at hR pN ⊢
      have n46 : N.1 46 f = nI r := by rw [pN 46 f (by omega), hN 46 f (by omega) (by omega)]; exact hk
      have n92 : N.1 92 f = b2i (hitM M f (nI r) x) := by rw [pN 92 f (by omega)]; exact h92 f hfn
      have nb : bitM N f x = bitM M f x := by
        unfold bitM oneM
        rw [pN 47 f (by omega), pN 48 f (by omega), hN 47 f (by omega) (by omega), hN 48 f (by omega) (by omega)]
      have FN : ∀ (g' : mH) (N' : mM), Fs h g' → (∀ t y, t < 63 → N'.1 t y = N.1 t y) → RF g' n N' := fun g' N' z1 z2 => F.to z1 (by rw [z2 12 2 (by omega), pN 12 2 (by omega)]; exact h12) (fun t y a1 a2 => by rw [z2 t y (by omega), pN t y (by omega)]; exact hN t y a1 a2)
      have e10 : g.1 8 0 10 = N.1 12 23 := hR.2.2.2.1.1
      unfold w37S w37T
      rw [if_pos n46, nb, tkeM_o _ _ _ (by omega), tkeM_o _ _ _ (by omega), tkeM_o _ _ _ (by omega), n92]
      have step : ∀ m, f_X2_writeRegister_15 k (m + 1) (nI r) x (hbM M r x n) (nI j) g = if hitM M f (nI r) x = true then (f_X2_writeField (nI f) (bitM M f x) (uI g 37 0 f (N.1 12 23))).bind (fun r13 => f_X2_writeRegister_15 k m (nI r) x (hbM M r x n) (nI (j + 1)) r13) else (f_X2_writeField (nI f) (bitM M f x) g).bind (fun r10 => f_X2_writeRegister_15 k m (nI r) x (hbM M r x n) (nI (j + 1)) r10) := by
        intro m
        rw [f_X2_writeRegister_15, if_pos (mIn_nI hr (by decide)), nI_clamp (n := r) (by omega), e29, if_pos (nI_lt hj (by omega)), if_pos (mIn_nI (by omega) (by decide)), nI_clamp (n := j) (by omega), e28, e_isIn _ (by omega), Option.bind_some, hbM_bt M r x h24 hfn, nI_succ j]
        dsimp only
        have F0 : RF g n N := FN g N hg (fun _ _ _ => rfl)
        have F1 : RF (uI g 37 0 f (N.1 12 23)) n N := FN _ N (hg.tr (Fs.u _ _ (by omega))) (fun _ _ _ => rfl)
        cases hitM M f (nI r) x
        · rw [if_pos (show b2i false = 0 from rfl), if_neg (show ¬ (false = true) by decide), if_pos (mIn_nI (by omega) (by decide)), nI_clamp (n := f) (by omega), e_bitsIn x F0 hfn, Option.bind_some]
          dsimp only
          rw [nb]
        · rw [if_neg (by decide), if_pos rfl, if_pos (mIn_nI (by omega) (by decide)), nI_clamp (n := f) (by omega), e10, e_bitsIn x F1 hfn, Option.bind_some]
          dsimp only
          rw [nb]
      cases hh : hitM M f (nI r) x
      · rw [if_pos (show b2i false = 0 from rfl)]
        obtain ⟨g', e1, R1, F1⟩ := c_writeField (bitM M f x) (FN g N hg (fun _ _ _ => rfl)) hR hfn
        refine ⟨(nI (j + 1), g'), ⟨rfl, hg.tr F1, ?_⟩, fun m => ?_⟩
        · have z : N.1 67 f = (tkeM N f (bitM M f x)).1 67 f := (tkeM_o _ _ _ (by omega) _).symm
          rw [z, uM_same]
          exact R1
        · dsimp only
          rw [step, hh, if_neg (by decide), e1, Option.bind_some]
      · rw [if_neg (by decide)]
        have R0 := hR.row (q := 4) (f := f) (N.1 12 23) (by decide)
        have F0 : Fs h (uI g 37 0 f (N.1 12 23)) := hg.tr (Fs.u _ _ (by omega))
        obtain ⟨g', e1, R1, F1⟩ := c_writeField (bitM M f x) (FN _ (uM N 67 f (N.1 12 23)) F0 (fun t y z => uM_t _ (by omega))) R0 hfn
        refine ⟨(nI (j + 1), g'), ⟨rfl, F0.tr F1, ?_⟩, fun m => ?_⟩
        · rw [tke_comm] at R1
          exact R1
        · dsimp only
          rw [step, hh, if_pos rfl, e1, Option.bind_some]
    · rintro ⟨v, g⟩ ⟨rfl, hg, -⟩ m
      dsimp only at hg
      have e29 : g.1 29 0 r = nI l.length := by rw [hg.1 29 0 (by omega)]; exact hcl
      show f_X2_writeRegister_15 k (m + 1) (nI r) x _ (nI l.length) g = _
      rw [f_X2_writeRegister_15, if_pos (mIn_nI hr (by decide)), nI_clamp (n := r) (by omega), e29, if_neg (nI_nlt (Nat.le_refl _) (by omega))]
  obtain ⟨⟨v, g⟩, ⟨b1, b2, b3⟩, e⟩ := key
  rw [List.take_length] at b3
  exact ⟨v, g, b3, b2, e⟩
/-- A WRITE OF THE CLASS, with its tick -/
theorem c_write {h : mH} {n r : Nat} {M : mM} (x : Int32) (hr : r < 8) (F : RF h n M) (C : RH h n M) (R : RS h 0 n M) (W : RLw h n M) (dn : dnOK n M) (ev : evOK n M) : ∃ h' : mH, f_X2_writeRegister (nI r) x h = some h' ∧ RS h' 0 n (tikM (wrtM (nI r) x M)) ∧ Fs h h' := by
  have h24 := F.1
  have en : (M.1 12 2).toNatClampNeg = n := by rw [F.2.1, nI_clamp (by omega)]
  unfold f_X2_writeRegister
  rw [c_hitsOf x hr F C R, Option.bind_some]
  dsimp only
  obtain ⟨h1, e1, R1, F1⟩ := c_laws (r := r) x F R W
  rw [e1, Option.bind_some]
  generalize hw : (M.1 12 11).toNatClampNeg = w at R1
  have hJ : ∀ t k, ¬ (t = 12 ∧ 34 ≤ k ∧ k ≤ 36) → (jdSs (nI r) x w M).1 t k = M.1 t k := fun t k z => jdSs_o _ _ _ z w
  have h8 : ∀ t k, t ≠ 92 → (w8Ss (nI r) x n (jdSs (nI r) x w M)).1 t k = (jdSs (nI r) x w M).1 t k := fun t k z => w8Ss_o _ _ _ z k n
  have R2 : RS h1 0 n (w8Ss (nI r) x n (jdSs (nI r) x w M)) := R1.to (fun t k a1 a2 => h8 t k (by omega)) (fun k => h8 12 k (by decide))
  have hN : ∀ t k, 46 ≤ t → t ≤ 53 → (w8Ss (nI r) x n (jdSs (nI r) x w M)).1 t k = M.1 t k := fun t k a1 a2 => by rw [h8 t k (by omega), hJ t k (by omega)]
  have hF1 : RF h1 n M := F.to F1 rfl (fun _ _ _ _ => rfl)
  have hC1 : RH h1 n M := C.to F1 (fun _ _ _ _ => rfl)
  have h92 : ∀ f, f < n → (w8Ss (nI r) x n (jdSs (nI r) x w M)).1 92 f = b2i (hitM M f (nI r) x) := fun f hf => by
    rw [w8Ss_92 _ _ _ n f hf, hitM_to _ _ (fun t ht => hJ t f (by omega))]
  obtain ⟨v, h2, R3, F2, e2⟩ := c_write15 (fun _ _ _ _ h18 => (f_X2_tick h18).bind fun r19 => some r19) x hr hF1 hC1 R2 hN (by rw [h8 12 2 (by decide), hJ 12 2 (by omega)]) h92
  rw [e2]
  have ew : w37Ss (nI r) x n (w8Ss (nI r) x n (jdSs (nI r) x w M)) = wrtM (nI r) x M := by unfold wrtM; rw [en, hw]
  rw [ew] at R3
  have hX : ∀ t k, t < 63 ∨ 68 ≤ t → t ≠ 92 → ¬ (t = 12 ∧ 34 ≤ k ∧ k ≤ 36) → (wrtM (nI r) x M).1 t k = M.1 t k := fun t k z1 z2 z3 => by
    rw [← ew, w37Ss_o _ _ _ (by omega), h8 t k z2, hJ t k z3]
  have F12 := F1.tr F2
  have hF2 : RF h2 n (wrtM (nI r) x M) := F.to F12 (hX 12 2 (by omega) (by decide) (by omega)) (fun t k a1 a2 => hX t k (by omega) (by omega) (by omega))
  have hC2 : RH h2 n (wrtM (nI r) x M) := C.to F12 (fun t k a1 a2 => hX t k (by omega) (by omega) (by omega))
  have dn2 : dnOK n (wrtM (nI r) x M) := fun f hf => by rw [hX 52 f (by omega) (by decide) (by omega)]; exact dn f hf
  have ev2 : evOK n (wrtM (nI r) x M) := fun m hm h17 k hk => by
    rw [hX 69 k (by omega) (by decide) (by omega)]
    rw [hX 12 30 (by omega) (by decide) (by omega)] at hm
    exact ev m hm h17 k hk
  obtain ⟨h3, e3, R4, F3⟩ := c_tick hF2 hC2 R3 dn2 ev2
  rw [e3, Option.bind_some]
  exact ⟨h3, rfl, R4, F12.tr F3⟩
