/-! ===== WRITE of the class ===== -/
theorem hitM_to {M N : mM} {f : Nat} (r x : Int32) (h : ∀ t, (46 ≤ t ∧ t ≤ 49) ∨ t = 63 ∨ t = 64 → N.1 t f = M.1 t f) : hitM N f r x = hitM M f r x := by
  unfold hitM bitM oneM
  rw [h 46 (by omega), h 47 (by omega), h 48 (by omega), h 49 (by omega), h 63 (by omega), h 64 (by omega)]
theorem brkM_to {M N : mM} {l : Nat} (h : ∀ t k, (54 ≤ t ∧ t ≤ 57) ∨ t = 63 ∨ t = 67 → N.1 t k = M.1 t k) (h23 : N.1 12 23 = M.1 12 23) : brkM N l = brkM M l := by
  unfold brkM
  rw [h 54 _ (by omega), h 56 _ (by omega), h 57 _ (by omega), h 63 _ (by omega), h 67 _ (by omega), h23]
/-- rows that state isn't in -/
theorem RS.to {h : mH} {s n : Nat} {M N : mM} (R : RS h s n M) (h1 : ∀ t k, 63 ≤ t → t ≤ 71 → N.1 t k = M.1 t k) (h2 : ∀ k, N.1 12 k = M.1 12 k) : RS h s n N := by
  obtain ⟨a, b, c, d, e⟩ := R
  refine ⟨fun q hq f hf => ?_, fun r hr => ?_, ?_, ?_, ?_⟩
  · rw [h1 _ _ (by omega) (by omega)]
    exact a q hq f hf
  · rw [h1 _ _ (by omega) (by omega)]
    exact b r hr
  · obtain ⟨m, h16, c1, c2, c3⟩ := c
    refine ⟨m, h16, c1, by rw [h2]; exact c2, fun q hq k hk => ?_⟩
    rw [h1 _ _ (by omega) (by omega)]
    exact c3 q hq k hk
  · rw [h2, h2, h2, h2]
    exact d
  · rw [h2, h2, h2]
    exact e
/-- the set of the fields of a list that are HIT -/
def hbS (M : mM) (r x : Int32) (y : Int32) (f : Nat) : Int32 := if hitM M f r x = true then y ||| (1 <<< (nI f &&& 31)) else y
theorem hbS_bt (M : mM) (r x : Int32) {g : Nat} (hg : g < 32) : ∀ (l : List Nat), (∀ f ∈ l, f < 32) → ∀ y, bt (l.foldl (hbS M r x) y) g = (bt y g || (l.contains g && hitM M g r x)) := by
  intro l
  induction l with
  | nil => intro _ y; simp
  | cons f l ih =>
    intro hl y
    show bt (l.foldl (hbS M r x) (hbS M r x y f)) g = _
    rw [ih (fun k hk => hl k (List.mem_cons_of_mem _ hk))]
    have hf := hl f List.mem_cons_self
    have e : bt (hbS M r x y f) g = (bt y g || (decide (f = g) && hitM M f r x)) := by
      unfold hbS
      cases q : hitM M f r x
      · simp
      · rw [if_pos rfl, bt_add y hf hg]
        simp
    rw [e, List.contains_cons]
    by_cases z : f = g
    · subst z
      simp
      cases bt y f <;> cases hitM M f r x <;> simp
    · have z2 : (g == f) = false := by simp; exact fun e => z e.symm
      rw [z2, decide_eq_false z]
      simp
theorem lsP_mem {p : Nat → Bool} : ∀ {n f : Nat}, f < n → p f = true → f ∈ lsP p n
  | 0, f, h, _ => by omega
  | n + 1, f, h, hp => by
    unfold lsP
    by_cases e : f = n
    · subst e
      rw [if_pos hp]
      exact List.mem_append_right _ (List.mem_singleton.mpr rfl)
    · have ih := lsP_mem (p := p) (n := n) (f := f) (by omega) hp
      split
      · exact List.mem_append_left _ ih
      · exact ih
def hbM (M : mM) (r : Nat) (x : Int32) (n : Nat) : Int32 := (lsP (inR M r) n).foldl (hbS M (nI r) x) 0
theorem hbM_bt (M : mM) (r : Nat) (x : Int32) {n g : Nat} (h24 : n ≤ 24) (hg : g < n) : bt (hbM M r x n) g = hitM M g (nI r) x := by
  unfold hbM
  rw [hbS_bt M (nI r) x (by omega) _ (fun f hf => by have := (lsP_lt hf).1; omega), b_0, Bool.false_or]
  cases q : inR M r g
  · have e : hitM M g (nI r) x = false := by
      unfold hitM
      have : ¬ M.1 46 g = nI r := of_decide_eq_false q
      rw [decide_eq_false this, Bool.false_and]
    rw [e, Bool.and_false]
  · have hm : (lsP (inR M r) n).contains g = true := List.contains_iff_mem.mpr (lsP_mem hg q)
    rw [hm, Bool.true_and]
theorem c_isHit {h : mH} {n r f : Nat} {M : mM} (x : Int32) (F : RF h n M) (R : RS h 0 n M) (hf : f < n) (hr : M.1 46 f = nI r) : f_X2_isHit (nI f) (bitM M f x) h = some (b2i (hitM M f (nI r) x), h) := by
  have h24 := F.1
  unfold f_X2_isHit hitM
  rw [if_pos (mIn_nI (by omega) (by decide)), nI_clamp (by omega), decide_eq_true hr]
  have e3 : h.1 6 f 3 = M.1 49 f := (F.2.2.2 f hf).1.2.2.2.1
  have e33 : h.1 33 0 f = M.1 63 f := R.1 0 (by decide) f hf
  have e34 : h.1 34 0 f = M.1 64 f := R.1 1 (by decide) f hf
  rw [e3, e33, e34]
  generalize M.1 49 f = kd
  generalize bitM M f x = y
  by_cases k0 : kd = 0
  · subst k0
    simp (config := { decide := true }) only [if_true]
    split <;> rename_i z <;> simp [z, b2i]
  · rw [if_neg k0, if_neg k0]
    by_cases k2 : kd = 2
    · subst k2
      simp (config := { decide := true }) only [if_true, if_false]
      split <;> rename_i z <;> simp [z, b2i]
    · rw [if_neg k2]
      by_cases k4 : kd = 4
      · subst k4
        simp (config := { decide := true }) only [if_true, if_false]
        split <;> rename_i z <;> simp [z, b2i]
      · rw [if_neg k4]
        by_cases k5 : kd = 5
        · subst k5
          simp (config := { decide := true }) only [if_true, if_false]
          split <;> rename_i z <;> simp [z, b2i]
        · rw [if_neg k5, if_neg k5]
          by_cases k6 : kd = 6
          · subst k6
            simp (config := { decide := true }) only [if_true, if_false]
            split <;> rename_i z <;> simp [z, b2i]
          · rw [if_neg k6, if_neg (fun z => z.elim k2 (fun z => z.elim k4 k6))]
            rfl
theorem e_bitsIn {h : mH} {n f : Nat} {M : mM} (x : Int32) (F : RF h n M) (hf : f < n) : f_X6_bitsIn f x h = some (bitM M f x, h) := by
  unfold f_X6_bitsIn bitM
  rw [(F.2.2.2 f hf).1.2.1, (F.2.2.2 f hf).2.1]
theorem c_hitsOf {h : mH} {n r : Nat} {M : mM} (x : Int32) (hr : r < 8) (F : RF h n M) (C : RH h n M) (R : RS h 0 n M) : f_X2_hitsOf (nI r) x h = some (hbM M r x n, h) := by
  unfold f_X2_hitsOf hbM
  obtain ⟨hc, -, -⟩ := C
  obtain ⟨h16, hcl, hin, -⟩ := hc r hr
  have h24 := F.1
  generalize hl : lsP (inR M r) n = l at h16 hcl hin ⊢
  refine (mLoop (fun m (c : Int32 × Int32) => f_X2_hitsOf_5 (fun _ _ u10 _ h12 => some (u10, h12)) m (nI r) x c.1 c.2 h) (fun j => ((l.take j).foldl (hbS M (nI r) x) 0, nI j)) l.length (some (l.foldl (hbS M (nI r) x) 0, h)) ?_ ?_ mFu (mFu_lt (by omega)))
  · intro j hj m
    have hm : l.getD j 0 ∈ lsP (inR M r) n := by rw [hl]; exact getD_mem hj
    dsimp only
    rw [take_foldl _ _ l hj]
    obtain ⟨f, ef⟩ : ∃ f, f = l.getD j 0 := ⟨_, rfl⟩
    have e28 : h.1 28 r j = nI f := by rw [ef]; exact hin j hj
    rw [← ef] at hm ⊢
    obtain ⟨hfn, hk⟩ := lsP_lt hm
    have hk : M.1 46 f = nI r := of_decide_eq_true hk
    rw [f_X2_hitsOf_5, if_pos (mIn_nI hr (by decide)), nI_clamp (n := r) (by omega), hcl, if_pos (nI_lt hj (by omega)), if_pos (mIn_nI (by omega) (by decide)), nI_clamp (n := j) (by omega), e28, if_pos (mIn_nI (by omega) (by decide)), nI_clamp (n := f) (by omega), e_bitsIn x F hfn, Option.bind_some]
    dsimp only
    rw [c_isHit x F R hfn hk, Option.bind_some, nI_succ j]
    dsimp only
    unfold hbS
    cases hitM M f (nI r) x
    · rw [if_pos (show b2i false = 0 from rfl), if_neg (by decide)]
    · rw [if_neg (by decide), if_pos rfl]
  · intro m
    dsimp only
    rw [f_X2_hitsOf_5, if_pos (mIn_nI hr (by decide)), nI_clamp (n := r) (by omega), hcl, if_neg (nI_nlt (Nat.le_refl _) (by omega)), List.take_length]
/-- laws as they are told, over fields that are there -/
def RLw (h : mH) (n : Nat) (M : mM) : Prop := ∃ w, w ≤ 12 ∧ M.1 12 11 = nI w ∧ h.1 1 0 5 = nI w ∧ ∀ l, l < w → (h.1 7 l 0 = M.1 54 l ∧ h.1 7 l 1 = M.1 55 l ∧ h.1 7 l 2 = M.1 56 l ∧ h.1 7 l 3 = M.1 57 l) ∧ (∃ f, f < n ∧ M.1 55 l = nI f) ∧ ∃ g, g < n ∧ M.1 56 l = nI g
theorem RS.brk {h : mH} {s n : Nat} {M : mM} (R : RS h s n M) (l : Nat) : ∃ h', f_X8_countBreak s (nI l) h = some h' ∧ RS h' s n (cbM M l) ∧ (∀ t i, ¬ (t = 8 ∧ i = s) → h'.1 t i = h.1 t i) ∧ h'.2 = h.2 := by
  obtain ⟨a, b, c, d, e⟩ := R
  unfold f_X8_countBreak cbM
  rw [d.2.2.2]
  have o1 : ∀ (g : mH) (k : Nat) (v : Int32) (t i : Nat), ¬ (t = 8 ∧ i = s) → (uI g 8 s k v).1 t i = g.1 t i := fun g k v t i q => uI_ne q
  by_cases q : M.1 12 34 = 0
  · rw [if_pos q, if_pos q]
    simp only [mLet]
    have x10 : (uI h 8 s 14 (nI l)).1 8 s 10 = M.1 12 23 := by
      rw [uI_eq]
      simp [upd]
      exact d.1
    have x13 : (uI (uI h 8 s 14 (nI l)) 8 s 15 (M.1 12 23)).1 8 s 13 = M.1 12 34 := by
      rw [uI_eq, uI_eq]
      simp [upd]
      exact d.2.2.2
    rw [x10, x13]
    refine ⟨_, rfl, ?_, fun t i z => by rw [o1 _ _ _ _ _ z, o1 _ _ _ _ _ z, o1 _ _ _ _ _ z], rfl⟩
    have r8 : ∀ k, (uI (uI (uI h 8 s 14 (nI l)) 8 s 15 (M.1 12 23)) 8 s 13 (M.1 12 34 + 1)).1 8 s k = if k = 13 then M.1 12 34 + 1 else if k = 15 then M.1 12 23 else if k = 14 then nI l else h.1 8 s k := by
      intro k
      rw [uI_eq, uI_eq, uI_eq]
      rfl
    refine ⟨fun q' hq' f' hf' => ?_, fun r hr => ?_, ?_, ?_, fun _ => ?_⟩
    · rw [o1 _ _ _ _ _ (by omega), o1 _ _ _ _ _ (by omega), o1 _ _ _ _ _ (by omega), uM_t _ (by omega), uM_t _ (by omega), uM_t _ (by omega)]
      exact a q' hq' f' hf'
    · rw [o1 _ _ _ _ _ (by omega), o1 _ _ _ _ _ (by omega), o1 _ _ _ _ _ (by omega), uM_t _ (by omega), uM_t _ (by omega), uM_t _ (by omega)]
      exact b r hr
    · obtain ⟨m, h16, c1, c2, c3⟩ := c
      refine ⟨m, h16, by rw [r8]; exact c1, by simp (config := { decide := true }) only [uM_k]; exact c2, fun q' hq' k hk => ?_⟩
      rw [o1 _ _ _ _ _ (by omega), o1 _ _ _ _ _ (by omega), o1 _ _ _ _ _ (by omega), uM_t _ (by omega), uM_t _ (by omega), uM_t _ (by omega)]
      exact c3 q' hq' k hk
    · rw [r8, r8, r8, r8]
      simp (config := { decide := true }) only [uM_k, uM_s, if_true, if_false]
      exact ⟨d.1, d.2.1, d.2.2.1, trivial⟩
    · rw [r8, r8]
      simp (config := { decide := true }) only [uM_k, uM_s, if_true, if_false]
  · rw [if_neg q, if_neg q]
    refine ⟨_, rfl, ?_, fun t i z => o1 _ _ _ _ _ z, rfl⟩
    have r8 : ∀ k, (uI h 8 s 13 (M.1 12 34 + 1)).1 8 s k = if k = 13 then M.1 12 34 + 1 else h.1 8 s k := by
      intro k
      rw [uI_eq]
      rfl
    refine ⟨fun q' hq' f' hf' => ?_, fun r hr => ?_, ?_, ?_, fun _ => ?_⟩
    · rw [o1 _ _ _ _ _ (by omega), uM_t _ (by omega)]
      exact a q' hq' f' hf'
    · rw [o1 _ _ _ _ _ (by omega), uM_t _ (by omega)]
      exact b r hr
    · obtain ⟨m, h16, c1, c2, c3⟩ := c
      refine ⟨m, h16, by rw [r8]; exact c1, by simp (config := { decide := true }) only [uM_k]; exact c2, fun q' hq' k hk => ?_⟩
      rw [o1 _ _ _ _ _ (by omega), uM_t _ (by omega)]
      exact c3 q' hq' k hk
    · rw [r8, r8, r8, r8]
      simp (config := { decide := true }) only [uM_k, uM_s, if_true, if_false]
      exact ⟨d.1, d.2.1, d.2.2.1, trivial⟩
    · rw [r8, r8]
      simp (config := { decide := true }) only [uM_k, if_false]
      exact e q
