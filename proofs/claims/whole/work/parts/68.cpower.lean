/-! ===== POWER of the class ===== -/
def flI (h : mH) (t i n : Nat) (v : Int32) : mH := (fun t' i' k => if t' = t ∧ i' = i ∧ k < n then v else h.1 t' i' k, h.2)
theorem flI_u (h : mH) (t i n : Nat) (v : Int32) : uI (flI h t i n v) t i n v = flI h t i (n + 1) v := by
  apply Prod.ext
  · funext a b k
    show (if a = t ∧ b = i ∧ k = n then v else if a = t ∧ b = i ∧ k < n then v else h.1 a b k) = (if a = t ∧ b = i ∧ k < n + 1 then v else h.1 a b k)
    by_cases z : a = t ∧ b = i
    · by_cases y : k = n
      · rw [if_pos ⟨z.1, z.2, y⟩, if_pos ⟨z.1, z.2, by omega⟩]
      · rw [if_neg (fun w => y w.2.2)]
        by_cases x : k < n
        · rw [if_pos ⟨z.1, z.2, x⟩, if_pos ⟨z.1, z.2, by omega⟩]
        · rw [if_neg (fun w => x w.2.2), if_neg (fun w => by omega)]
    · rw [if_neg (fun w => z ⟨w.1, w.2.1⟩), if_neg (fun w => z ⟨w.1, w.2.1⟩), if_neg (fun w => z ⟨w.1, w.2.1⟩)]
  · rfl
theorem e_fill (t : Nat) {n : Nat} (hn : n ≤ 64) (i : Nat) (v : Int32) (h : mH) : f_J7_fill_53178 t n i v h = some (flI h t i n v) := by
  unfold f_J7_fill_53178
  have e0 : flI h t i 0 v = h := by
    apply Prod.ext
    · funext a b k
      exact if_neg (fun w => by omega)
    · rfl
  have z := mLoop (fun m (c : Int32 × mH) => f_J7_fill_53178_5 (fun _ _ _ h6 => some h6) t n i m v c.1 (nI n) c.2) (fun j => (nI j, flI h t i j v)) n (some (flI h t i n v)) ?_ ?_ mFu (mFu_lt (by omega))
  · dsimp only at z
    rw [e0] at z
    exact z
  · intro j hj m
    dsimp only
    rw [f_J7_fill_53178_5, if_pos (nI_lt hj (by omega)), if_pos (mIn_nI hj (by omega)), nI_clamp (by omega), flI_u, nI_succ]
  · intro m
    dsimp only
    rw [f_J7_fill_53178_5, if_neg (nI_nlt (Nat.le_refl _) (by omega))]
theorem flI_ne (h : mH) {t i n : Nat} {v : Int32} {t' i' : Nat} (e : ¬ (t' = t ∧ i' = i)) : (flI h t i n v).1 t' i' = h.1 t' i' := by
  funext k
  exact if_neg (fun w => e ⟨w.1, w.2.1⟩)
theorem flI_in (h : mH) {t i n : Nat} {v : Int32} {k : Nat} (hk : k < n) : (flI h t i n v).1 t i k = v := if_pos ⟨rfl, rfl, hk⟩
theorem gd_app (l : List Nat) (j k : Nat) : (l ++ [j]).getD k 0 = if k < l.length then l.getD k 0 else if k = l.length then j else 0 := by
  rw [List.getD_eq_getElem?_getD, List.getD_eq_getElem?_getD]
  by_cases q : k < l.length
  · rw [if_pos q, List.getElem?_append_left q]
  · rw [if_neg q]
    by_cases e : k = l.length
    · subst e
      simp
    · rw [if_neg e, List.getElem?_eq_none]
      · rfl
      · rw [List.length_append]
        show l.length + 1 ≤ k
        omega
theorem lsP_mono {p : Nat → Bool} (j : Nat) : ∀ n, j ≤ n → (lsP p j).length ≤ (lsP p n).length
  | 0, h => by
    have : j = 0 := by omega
    subst this
    exact Nat.le_refl _
  | n + 1, h => by
    by_cases e : j = n + 1
    · subst e
      exact Nat.le_refl _
    · have ih := lsP_mono (p := p) j n (by omega)
      show _ ≤ (if p n = true then lsP p n ++ [n] else lsP p n).length
      split
      · rw [List.length_append]
        show _ ≤ _ + 1
        omega
      · exact ih
/-- only the chip's own rows have changed -/
def Fc (h h' : mH) : Prop := (∀ t i, ¬ (t = 2 ∨ (28 ≤ t ∧ t ≤ 31)) → h'.1 t i = h.1 t i) ∧ h'.2 = h.2
theorem Fc.rf (h : mH) : Fc h h := ⟨fun _ _ _ => rfl, rfl⟩
theorem Fc.tr {a b c : mH} (h1 : Fc a b) (h2 : Fc b c) : Fc a c := ⟨fun t i q => (h2.1 t i q).trans (h1.1 t i q), h2.2.trans h1.2⟩
theorem Fc.u (h : mH) {t i k : Nat} (x : Int32) (ht : t = 2 ∨ (28 ≤ t ∧ t ≤ 31)) : Fc h (uI h t i k x) := ⟨fun t' i' q => uI_ne (fun e => q (by rw [e.1]; exact ht)), rfl⟩
theorem uI_1 (h : mH) (t i k : Nat) (x : Int32) (t' i' k' : Nat) : (uI h t i k x).1 t' i' k' = if t' = t ∧ i' = i ∧ k' = k then x else h.1 t' i' k' := rfl
theorem c_isKept {h : mH} {n f : Nat} {M : mM} (F : RF h n M) (hf : f < n) : f_X6_isKept f h = some (b2i (kpM M f), h) := by
  unfold f_X6_isKept kpM
  rw [(F.2.2.2 f hf).1.2.2.2.1]
  by_cases q0 : M.1 49 f = 0
  · rw [if_pos q0, decide_eq_true q0]
    rfl
  · rw [if_neg q0, decide_eq_false q0]
    by_cases q5 : M.1 49 f = 5
    · rw [if_pos q5, decide_eq_true q5]
      rfl
    · rw [if_neg q5, decide_eq_false q5]
      rfl
theorem RF.c {h h' : mH} {n : Nat} {M : mM} (r : RF h n M) (f : Fc h h') : RF h' n M := by
  obtain ⟨h24, a, b, c⟩ := r
  refine ⟨h24, a, by rw [f.1 1 0 (by omega)]; exact b, fun g hg => ?_⟩
  rw [f.1 6 g (by omega)]
  exact c g hg
theorem lsP_succ (p : Nat → Bool) (n : Nat) : lsP p (n + 1) = if p n = true then lsP p n ++ [n] else lsP p n := rfl
theorem kpB_succ (M : mM) (r f : Nat) : kpB M r (f + 1) = if (inR M r f && kpM M f) = true then kpB M r f ||| mskM M f else kpB M r f := rfl
theorem RH.step {g g' : mH} {j r : Nat} {M : mM} (C : RH g j M) (hr : r < 8) (er : M.1 46 j = nI r) (h16 : (lsP (inR M r) j).length < 16)
    (hA : ∀ r', r' < 8 → g'.1 29 0 r' = if r' = r then nI ((lsP (inR M r) j).length + 1) else g.1 29 0 r')
    (hB : ∀ r' k, g'.1 28 r' k = if r' = r ∧ k = (lsP (inR M r) j).length then nI j else g.1 28 r' k)
    (hC : ∀ r', r' < 8 → g'.1 30 0 r' = if r' = r ∧ kpM M j = true then g.1 30 0 r' ||| mskM M j else g.1 30 0 r')
    (hD : g'.1 2 0 6 = if isP M j = true then nI ((lsP (isP M) j).length + 1) else g.1 2 0 6)
    (hE : ∀ k, g'.1 31 0 k = if isP M j = true ∧ k = (lsP (isP M) j).length then nI j else g.1 31 0 k) : RH g' (j + 1) M := by
  obtain ⟨hc, hp, hpk⟩ := C
  have hins : ∀ r', r' < 8 → inR M r' j = decide (r' = r) := fun r' hr' => by
    unfold inR
    rw [er]
    by_cases e : r' = r
    · subst e
      rw [decide_eq_true rfl, decide_eq_true rfl]
    · rw [decide_eq_false e, decide_eq_false]
      intro z
      apply e
      have y : (nI r).toNatClampNeg = (nI r').toNatClampNeg := by rw [z]
      rw [nI_clamp (by omega), nI_clamp (by omega)] at y
      exact y.symm
  refine ⟨fun r' hr' => ?_, ?_, ?_⟩
  · obtain ⟨l16, hcl, hin, hkp⟩ := hc r' hr'
    rw [hA r' hr', hC r' hr']
    rw [lsP_succ, kpB_succ, hins r' hr']
    by_cases e : r' = r
    · subst e
      rw [decide_eq_true rfl, if_pos rfl, if_pos rfl, Bool.true_and]
      refine ⟨?_, ?_, fun k hk => ?_, ?_⟩
      · rw [List.length_append]
        show _ + 1 ≤ 16
        omega
      · rw [List.length_append]
        rfl
      · rw [List.length_append] at hk
        have hk : k < (lsP (inR M r') j).length + 1 := hk
        rw [hB, gd_app]
        by_cases z : k = (lsP (inR M r') j).length
        · rw [if_pos ⟨rfl, z⟩, if_neg (by omega), if_pos z]
        · rw [if_neg (fun y => z y.2), if_pos (by omega)]
          exact hin k (by omega)
      · cases kpM M j
        · rw [if_neg (fun y => by cases y.2), if_neg (by decide)]
          exact hkp
        · rw [if_pos ⟨rfl, rfl⟩, if_pos rfl, hkp]
    · rw [decide_eq_false e, if_neg e, if_neg (show ¬ (false = true) by decide), Bool.false_and, if_neg (fun y => e y.1), if_neg (show ¬ (false = true) by decide)]
      refine ⟨l16, hcl, fun k hk => ?_, hkp⟩
      rw [hB, if_neg (fun y => e y.1)]
      exact hin k hk
  · rw [hD, lsP_succ]
    cases isP M j
    · rw [if_neg (by decide), if_neg (by decide)]
      exact hp
    · rw [if_pos rfl, if_pos rfl, List.length_append]
      rfl
  · intro k hk
    rw [hE]
    rw [lsP_succ] at hk ⊢
    cases q : isP M j
    · rw [q, if_neg (by decide)] at hk
      rw [if_neg (fun y => by cases y.1), if_neg (by decide)]
      exact hpk k hk
    · rw [q, if_pos rfl, List.length_append] at hk
      have hk : k < (lsP (isP M) j).length + 1 := hk
      rw [if_pos rfl, gd_app]
      by_cases z : k = (lsP (isP M) j).length
      · rw [if_pos ⟨rfl, z⟩, if_neg (by omega), if_pos z]
      · rw [if_neg (fun y => z y.2), if_pos (by omega)]
        exact hpk k (by omega)
theorem c_sortIn {g : mH} {n j r : Nat} {M : mM} (F : RF g n M) (C : RH g j M) (hj : j < n) (hr : r < 8) (er : M.1 46 j = nI r) (h16 : (lsP (inR M r) j).length < 16) : ∃ g', f_X2_sortIn (nI j) j g = some g' ∧ RH g' (j + 1) M ∧ Fc g g' := by
  have h24 := F.1
  have e60 : g.1 6 j 0 = nI r := by rw [(F.2.2.2 j hj).1.1]; exact er
  obtain ⟨l16, hcl, hin, hkp⟩ := C.1 r hr
  have hp := C.2.1
  have hpl : (lsP (isP M) j).length < 24 := by have := lsP_len (p := isP M) j; omega
  unfold f_X2_sortIn
  rw [e60, if_pos (mIn_nI hr (by decide)), nI_clamp (n := r) (by omega), hcl, if_pos (show nI _ < (16 : Int32) from (nI_lt h16 (by decide) : nI _ < nI 16)), if_pos (mIn_nI h16 (by decide)), nI_clamp (by omega)]
  simp only [mLet]
  have z29 : (uI g 28 r (lsP (inR M r) j).length (nI j)).1 29 0 r = nI (lsP (inR M r) j).length := by rw [uI_ne (fun z => by omega)]; exact hcl
  rw [z29, ← nI_succ]
  obtain ⟨g1, eg1⟩ : ∃ g1, g1 = uI (uI g 28 r (lsP (inR M r) j).length (nI j)) 29 0 r (nI ((lsP (inR M r) j).length + 1)) := ⟨_, rfl⟩
  rw [← eg1]
  have c1 : Fc g g1 := by rw [eg1]; exact (Fc.u _ _ (by omega)).tr (Fc.u _ _ (by omega))
  have F1 : RF g1 n M := F.c c1
  have a29 : ∀ r', g1.1 29 0 r' = if r' = r then nI ((lsP (inR M r) j).length + 1) else g.1 29 0 r' := fun r' => by
    rw [eg1, uI_1]
    by_cases e : r' = r
    · rw [if_pos ⟨rfl, rfl, e⟩, if_pos e]
    · rw [if_neg (fun y => e y.2.2), if_neg e, uI_ne (fun z => by omega)]
  have a28 : ∀ r' k, g1.1 28 r' k = if r' = r ∧ k = (lsP (inR M r) j).length then nI j else g.1 28 r' k := fun r' k => by
    rw [eg1, uI_ne (fun z => by omega), uI_1]
    by_cases e : r' = r ∧ k = (lsP (inR M r) j).length
    · rw [if_pos ⟨rfl, e.1, e.2⟩, if_pos e]
    · rw [if_neg (fun y => e y.2), if_neg e]
  have a30 : g1.1 30 = g.1 30 := by funext i; rw [eg1, uI_ne (fun z => by omega), uI_ne (fun z => by omega)]
  have a31 : g1.1 31 = g.1 31 := by funext i; rw [eg1, uI_ne (fun z => by omega), uI_ne (fun z => by omega)]
  have a2 : g1.1 2 = g.1 2 := by funext i; rw [eg1, uI_ne (fun z => by omega), uI_ne (fun z => by omega)]
  unfold f_X2_sortIn_j40
  rw [c_isKept F1 hj, Option.bind_some]
  dsimp only
  have e66 : g1.1 6 j 6 = mskM M j := (F1.2.2.2 j hj).2.2.1
  have e63 : g1.1 6 j 3 = M.1 49 j := (F1.2.2.2 j hj).1.2.2.2.1
  cases hk : kpM M j
  · rw [if_pos (show b2i false = 0 from rfl), e63]
    by_cases q4 : M.1 49 j = 4
    · have ip : isP M j = true := decide_eq_true q4
      rw [if_pos q4, a2, hp, if_pos (mIn_nI hpl (by decide)), nI_clamp (by omega)]
      simp only [mLet]
      have z2 : (uI g1 31 0 (lsP (isP M) j).length (nI j)).1 2 0 6 = nI (lsP (isP M) j).length := by rw [uI_ne (fun z => by omega), a2]; exact hp
      rw [z2, ← nI_succ]
      refine ⟨_, rfl, C.step hr er h16 (fun r' hr' => ?_) (fun r' k => ?_) (fun r' hr' => ?_) ?_ (fun k => ?_), (c1.tr (Fc.u _ _ (by omega))).tr (Fc.u _ _ (by omega))⟩
      · rw [uI_ne (fun z => by omega), uI_ne (fun z => by omega), a29]
      · rw [uI_ne (fun z => by omega), uI_ne (fun z => by omega), a28]
      · rw [uI_ne (fun z => by omega), uI_ne (fun z => by omega), a30, hk, if_neg (fun y => by cases y.2)]
      · rw [uI_1, if_pos ⟨rfl, rfl, rfl⟩, if_pos ip]
      · rw [uI_ne (fun z => by omega), uI_1, a31]
        by_cases e : k = (lsP (isP M) j).length
        · rw [if_pos ⟨rfl, rfl, e⟩, if_pos ⟨ip, e⟩]
        · rw [if_neg (fun y => e y.2.2), if_neg (fun y => e y.2)]
    · have ip : isP M j = false := decide_eq_false q4
      rw [if_neg q4]
      refine ⟨_, rfl, C.step hr er h16 (fun r' hr' => a29 r') a28 (fun r' hr' => ?_) ?_ (fun k => ?_), c1⟩
      · rw [a30, hk, if_neg (fun y => by cases y.2)]
      · rw [a2, ip, if_neg (by decide)]
      · rw [a31, ip, if_neg (fun y => by cases y.1)]
  · rw [if_neg (by decide), if_pos (mIn_nI hr (by decide)), nI_clamp (n := r) (by omega), a30, hkp, e66]
    simp only [mLet]
    have q4 : ¬ M.1 49 j = 4 := fun z => by
      unfold kpM at hk
      rw [z] at hk
      exact absurd hk (by decide)
    have ip : isP M j = false := decide_eq_false q4
    have z63 : (uI g1 30 0 r (kpB M r j ||| mskM M j)).1 6 j 3 = M.1 49 j := by rw [uI_ne (fun z => by omega)]; exact e63
    rw [z63, if_neg q4]
    refine ⟨_, rfl, C.step hr er h16 (fun r' hr' => ?_) (fun r' k => ?_) (fun r' hr' => ?_) ?_ (fun k => ?_), c1.tr (Fc.u _ _ (by omega))⟩
    · rw [uI_ne (fun z => by omega), a29]
    · rw [uI_ne (fun z => by omega), a28]
    · rw [uI_1, a30, hk]
      by_cases e : r' = r
      · rw [if_pos ⟨rfl, rfl, e⟩, if_pos ⟨e, rfl⟩, e, hkp]
      · rw [if_neg (fun y => e y.2.2), if_neg (fun y => e y.1)]
    · rw [uI_ne (fun z => by omega), a2, ip, if_neg (by decide)]
    · rw [uI_ne (fun z => by omega), a31, ip, if_neg (fun y => by cases y.1)]
