/-! ===== class and model, side by side: the chip ===== -/
/-- chip and book of fields and laws are alike -/
def CS (h : mH) (n : Nat) (M : mM) : Prop := RF h n M ∧ RH h n M ∧ RS h 0 n M ∧ RLw h n M ∧ okF n M ∧ okS n M
theorem RLw.to {h h' : mH} {n : Nat} {M N : mM} (r : RLw h n M) (f : Fs h h') (m : Fm M N) : RLw h' n N := by
  obtain ⟨w, h1, h2, h3, h4⟩ := r
  have e : ∀ t k, 54 ≤ t → t ≤ 57 → N.1 t k = M.1 t k := fun t k a b => m.1 t k (by omega) (by omega) (by omega)
  refine ⟨w, h1, (m.1 12 11 (by omega) (by omega) (by omega)).trans h2, by rw [f.1 1 0 (by omega)]; exact h3, fun l hl => ?_⟩
  rw [f.1 7 l (by omega), e 54 l (by omega) (by omega), e 55 l (by omega) (by omega), e 56 l (by omega) (by omega), e 57 l (by omega) (by omega)]
  exact h4 l hl
theorem RLw.ok {h : mH} {n : Nat} {M : mM} (r : RLw h n M) (h24 : n ≤ 24) : lwOK M := by
  obtain ⟨w, h1, h2, h3, h4⟩ := r
  refine ⟨w, h1, h2, fun l hl => ?_⟩
  obtain ⟨-, ⟨f, f1, f2⟩, ⟨g, g1, g2⟩⟩ := h4 l hl
  rw [f2, g2]
  exact ⟨mIn_nI (by omega) (by omega), mIn_nI (by omega) (by omega)⟩
theorem CS.mk' {h h' : mH} {n : Nat} {M N : mM} (c : CS h n M) (f : Fs h h') (m : Fm M N) (r : RS h' 0 n N) (o : okS n N) : CS h' n N := by
  obtain ⟨c1, c2, c3, c4, c5, c6⟩ := c
  have e : ∀ t k, 46 ≤ t → t ≤ 53 → N.1 t k = M.1 t k := fun t k a b => m.1 t k (by omega) (by omega) (by omega)
  exact ⟨c1.to f (m.1 12 2 (by omega) (by omega) (by omega)) e, c2.to f e, r, c4.to f m, c5.to m, o⟩
theorem CS.tick {h : mH} {n : Nat} {M : mM} (c : CS h n M) : ∃ h', f_X2_tick h = some h' ∧ CS h' n (tikM M) ∧ Fs h h' := by
  have c0 := c
  obtain ⟨c1, c2, c3, c4, c5, c6⟩ := c
  obtain ⟨h', e, R, F⟩ := c_tick c1 c2 c3 c5.dn c6.ev
  exact ⟨h', e, c0.mk' F (tikM_f M) R (okS.tik c5 c6), F⟩
theorem CS.e_tick {h : mH} {n : Nat} {M : mM} (c : CS h n M) (g : mH) : f_X12_ticks (wM g M) = some (wM g (tikM M)) := e_ticks g M (ok_tk c.2.2.2.2.1 c.2.2.2.2.2)
theorem CS.read {h : mH} {n : Nat} {M : mM} (c : CS h n M) {r : Nat} (hr : r < 8) (b : Int32) : ∃ h', f_X2_readRegister (nI r) b h = some ((redM (nI r) b M).1, h') ∧ CS h' n (redM (nI r) b M).2 ∧ Fs h h' := by
  have c0 := c
  obtain ⟨c1, c2, c3, c4, c5, c6⟩ := c
  obtain ⟨h', e, R, F⟩ := c_read b hr c1 c2 c3 c5.dn c6.ev c6.ld
  exact ⟨h', e, c0.mk' F (redM_f _ _ M) R (okS.red c5 c6 _ _), F⟩
theorem CS.e_read {h : mH} {n : Nat} {M : mM} (c : CS h n M) (r b : Int32) (g : mH) : f_X12_reads r b (wM g M) = some ((redM r b M).1, wM g (redM r b M).2) := e_reads r b g M (ok_tk c.2.2.2.2.1 c.2.2.2.2.2)
theorem CS.write {h : mH} {n : Nat} {M : mM} (c : CS h n M) {r : Nat} (hr : r < 8) (x : Int32) : ∃ h', f_X2_writeRegister (nI r) x h = some h' ∧ CS h' n (tikM (wrtM (nI r) x M)) ∧ Fs h h' := by
  have c0 := c
  obtain ⟨c1, c2, c3, c4, c5, c6⟩ := c
  obtain ⟨h', e, R, F⟩ := c_write x hr c1 c2 c3 c4 c5.dn c6.ev
  exact ⟨h', e, c0.mk' F ((wrtM_f _ _ M).tr (tikM_f _)) R (okS.tik (c5.to (wrtM_f _ _ M)) (okS.wrt c5 c6 _ _)), F⟩
theorem CS.e_write {h : mH} {n : Nat} {M : mM} (c : CS h n M) (r x : Int32) (g : mH) : f_X12_writes r x (wM g M) = some (wM g (wrtM r x M)) := e_writes r x g M c.2.2.2.2.1.2.1 c.1.1 (c.2.2.2.1.ok c.1.1)
theorem CS.e_tick2 {h : mH} {n : Nat} {M : mM} (c : CS h n M) (r x : Int32) (g : mH) {k : Nat} (y : Int32) : f_X12_ticks (wM g (uM (wrtM r x M) 68 k y)) = some (wM g (tikM (uM (wrtM r x M) 68 k y))) := by
  refine e_ticks g _ (ok_tk (n := n) ?_ ?_)
  · exact c.2.2.2.2.1.to ((wrtM_f r x M).tr (Fm.u _ _ (by omega)))
  · exact (okS.wrt c.2.2.2.2.1 c.2.2.2.2.2 r x).mk' (uM_t _ (by omega)) (fun k => uM_t _ (by omega)) (fun k => uM_t _ (by omega)) (fun f hf => ⟨fun q => uM_t _ (by omega), fun q => Or.inl (uM_t _ (by omega)), fun q => Or.inl (uM_t _ (by omega))⟩)
/-- a WRITE doesn't look at the shadow -/
theorem hit68 (M : mM) (f : Nat) (r x : Int32) (k : Nat) (y : Int32) : hitM (uM M 68 k y) f r x = hitM M f r x := hitM_to r x (fun t ht => uM_t _ (by omega))
theorem brk68 (M : mM) (l k : Nat) (y : Int32) : brkM (uM M 68 k y) l = brkM M l := brkM_to (fun t j ht => uM_t _ (by omega)) (uM_t _ (by omega))
theorem u68 (M : mM) {t : Nat} (h : t ≠ 68) (k k' : Nat) (v y : Int32) : uM (uM M 68 k y) t k' v = uM (uM M t k' v) 68 k y := uM_comm M (fun z => h z.symm) k k' y v
theorem cb68 (M : mM) (l k : Nat) (y : Int32) : cbM (uM M 68 k y) l = uM (cbM M l) 68 k y := by
  unfold cbM
  rw [uM_t _ (by omega), uM_t _ (by omega)]
  split
  · rw [u68 _ (by omega), u68 _ (by omega), u68 _ (by omega)]
  · rw [u68 _ (by omega)]
theorem jd68 (r x : Int32) (M : mM) (k : Nat) (y : Int32) : ∀ j, jdSs r x j (uM M 68 k y) = uM (jdSs r x j M) 68 k y
  | 0 => rfl
  | j + 1 => by
    show jdS r x (jdSs r x j (uM M 68 k y)) j = uM (jdS r x (jdSs r x j M) j) 68 k y
    rw [jd68 r x M k y j]
    unfold jdS
    rw [hit68, brk68, cb68, uM_t _ (by omega)]
    split <;> rfl
theorem w868 (r x : Int32) (M : mM) (k : Nat) (y : Int32) : ∀ j, w8Ss r x j (uM M 68 k y) = uM (w8Ss r x j M) 68 k y
  | 0 => rfl
  | j + 1 => by
    show w8S r x (w8Ss r x j (uM M 68 k y)) j = uM (w8S r x (w8Ss r x j M) j) 68 k y
    rw [w868 r x M k y j]
    unfold w8S
    rw [hit68, uM_comm _ (by omega)]
theorem ld68 (M : mM) (k : Nat) (y : Int32) : ∀ j, ldFs j (uM M 68 k y) = uM (ldFs j M) 68 k y
  | 0 => rfl
  | j + 1 => by
    show ldF (ldFs j (uM M 68 k y)) j = uM (ldF (ldFs j M) j) 68 k y
    rw [ld68 M k y j]
    unfold ldF
    rw [uM_t _ (by omega), uM_t _ (by omega), uM_t _ (by omega), uM_comm _ (by omega)]
theorem tke68 (M : mM) (f : Nat) (b : Int32) (k : Nat) (y : Int32) : tkeM (uM M 68 k y) f b = uM (tkeM M f b) 68 k y := by
  unfold tkeM
  rw [uM_t _ (by omega), uM_t _ (by omega), uM_t _ (by omega), uM_t _ (by omega), uM_t _ (by omega), ld68]
  repeat' split
  all_goals first | rfl | (rw [u68 _ (by omega), u68 _ (by omega)]; done) | rw [u68 _ (by omega)]
theorem w3768 (r x : Int32) (M : mM) (k : Nat) (y : Int32) : ∀ j, w37Ss r x j (uM M 68 k y) = uM (w37Ss r x j M) 68 k y
  | 0 => rfl
  | j + 1 => by
    show w37S r x (w37Ss r x j (uM M 68 k y)) j = uM (w37S r x (w37Ss r x j M) j) 68 k y
    rw [w3768 r x M k y j]
    have eT : w37T r x (uM (w37Ss r x j M) 68 k y) j = uM (w37T r x (w37Ss r x j M) j) 68 k y := by
      unfold w37T bitM oneM
      rw [uM_t _ (by omega), uM_t _ (by omega), uM_t _ (by omega), tke68]
      split <;> rfl
    unfold w37S
    rw [eT, uM_t _ (by omega), uM_t _ (by omega), uM_t _ (by omega), uM_comm _ (by omega)]
theorem wrt68 (r x : Int32) (M : mM) (k : Nat) (y : Int32) : wrtM r x (uM M 68 k y) = uM (wrtM r x M) 68 k y := by
  unfold wrtM
  rw [uM_t _ (by omega), uM_t _ (by omega), jd68, w868, w3768]
theorem e_p82 (K : Int32 → Int32 → Int32 → Int32 → mH → Option mH) (h : mH) (M : mM) {n : Nat} (hn : M.1 12 2 = nI n) (h24 : n ≤ 24) (r : Nat) (v5 : Int32) : f_X12_puts_82 K mFu (nI r) v5 0 0 (wM h M) = K (nI r) v5 (kpB M r n) (nI n) (wM h M) := by
  refine mLoop (fun m (c : Int32 × Int32) => f_X12_puts_82 K m (nI r) v5 c.1 c.2 (wM h M)) (fun j => (kpB M r j, nI j)) n (K (nI r) v5 (kpB M r n) (nI n) (wM h M)) ?_ ?_ mFu (mFu_lt (by omega))
  · intro j hj m
    dsimp only
    rw [f_X12_puts_82, wM_1 h M rfl, hn, if_pos (nI_lt hj (by omega)), if_pos (mIn_nI (show j < 24 by omega) (by omega)), nI_clamp (by omega), wM_1 h M rfl, wM_1 h M rfl, e_mask (show j < 24 by omega) h M, Option.bind_some, or_z, kpB_succ, nI_succ]
    dsimp only
    unfold inR kpM
    by_cases q1 : M.1 46 j = nI r
    · rw [if_pos q1, decide_eq_true q1]
      by_cases q2 : M.1 49 j = 0
      · rw [if_pos q2, decide_eq_true q2, if_pos (show (true && (true || decide (M.1 49 j = 5))) = true from rfl)]
      · rw [if_neg q2, decide_eq_false q2]
        by_cases q3 : M.1 49 j = 5
        · rw [if_pos q3, decide_eq_true q3, if_pos (show (true && (false || true)) = true from rfl)]
        · rw [if_neg q3, decide_eq_false q3, if_neg (show ¬ (true && (false || false)) = true by decide)]
    · rw [if_neg q1, decide_eq_false q1, if_neg (show ¬ (false && (decide (M.1 49 j = 0) || decide (M.1 49 j = 5))) = true by simp)]
  · intro m
    dsimp only
    rw [f_X12_puts_82, wM_1 h M rfl, hn, if_neg (nI_nlt (Nat.le_refl _) (by omega))]
