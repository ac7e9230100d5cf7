/-! ===== instructions of the model ===== -/
/-- only chip state, the lock, acc from level lv on and code above level lv have changed -/
def Fi (lv : Nat) (M N : mM) : Prop := (∀ t k, ¬ (63 ≤ t ∧ t ≤ 71) → t ≠ 92 → ¬ (t = 12 ∧ (k = 23 ∨ k = 30 ∨ (34 ≤ k ∧ k ≤ 38) ∨ k = 67)) → ¬ (t = 93 ∧ lv < k) → ¬ (t = 94 ∧ 300 * lv + 300 ≤ k) → ¬ (t = 95 ∧ lv ≤ k) → N.1 t k = M.1 t k) ∧ N.2 = M.2
theorem Fi.rf (lv : Nat) (M : mM) : Fi lv M M := ⟨fun _ _ _ _ _ _ _ _ => rfl, rfl⟩
theorem Fi.tr {lv : Nat} {a b c : mM} (h1 : Fi lv a b) (h2 : Fi lv b c) : Fi lv a c := ⟨fun t k p1 p2 p3 p4 p5 p6 => (h2.1 t k p1 p2 p3 p4 p5 p6).trans (h1.1 t k p1 p2 p3 p4 p5 p6), h2.2.trans h1.2⟩
theorem Fm.i {M N : mM} (lv : Nat) (f : Fm M N) : Fi lv M N := ⟨fun t k p1 p2 p3 _ _ _ => f.1 t k p1 p2 (by omega), f.2⟩
theorem Fi.u95 (lv : Nat) (M : mM) (x : Int32) : Fi lv M (uM M 95 lv x) := ⟨fun t k _ _ _ _ _ p6 => if_neg (fun z => p6 ⟨z.1, by omega⟩), rfl⟩
theorem Fi.u67 (lv : Nat) (M : mM) (x : Int32) : Fi lv M (uM M 12 67 x) := ⟨fun t k _ _ p3 _ _ _ => if_neg (fun z => p3 ⟨z.1, by omega⟩), rfl⟩
theorem Fi.bk {lv : Nat} {M N B : mM} (f : Fi lv M N) (h : Bk M B) : Bk N B := fun t k z => (f.1 t k (by omega) (by omega) (by omega) (by omega) (by omega) (by omega)).trans (h t k z)
theorem Fi.ops {lv : Nat} {M N : mM} {c : List (Nat → Int32)} (f : Fi lv M N) (hl : c.length ≤ 50) (O : OPS M lv c) : OPS N lv c := by
  refine ⟨(f.1 93 lv (by omega) (by omega) (by omega) (by omega) (by omega) (by omega)).trans O.1, fun i w hi hw => ?_⟩
  rw [f.1 94 _ (by omega) (by omega) (by omega) (by omega) (by omega) (by omega)]
  exact O.2 i w hi hw
/-- memories that the chip's calls can't tell apart -/
theorem RS.i {h : mH} {s n : Nat} {M N : mM} (R : RS h s n M) (h1 : ∀ t k, 63 ≤ t → t ≤ 71 → N.1 t k = M.1 t k) (h2 : ∀ k, k ≠ 67 → N.1 12 k = M.1 12 k) : RS h s n N := by
  obtain ⟨a, b, c, d, e⟩ := R
  refine ⟨fun q hq f hf => ?_, fun r hr => ?_, ?_, ?_, ?_⟩
  · rw [h1 _ _ (by omega) (by omega)]
    exact a q hq f hf
  · rw [h1 _ _ (by omega) (by omega)]
    exact b r hr
  · obtain ⟨m, h16, c1, c2, c3⟩ := c
    refine ⟨m, h16, c1, by rw [h2 _ (by omega)]; exact c2, fun q hq k hk => ?_⟩
    rw [h1 _ _ (by omega) (by omega)]
    exact c3 q hq k hk
  · rw [h2 _ (by omega), h2 _ (by omega), h2 _ (by omega), h2 _ (by omega)]
    exact d
  · rw [h2 _ (by omega), h2 _ (by omega), h2 _ (by omega)]
    exact e
/-- book and state are the same; code, acc and lock may differ -/
def Eq7 (M N : mM) : Prop := (∀ t k, 46 ≤ t → t ≤ 71 → N.1 t k = M.1 t k) ∧ ∀ k, k ≠ 67 → N.1 12 k = M.1 12 k
theorem CS.i {h : mH} {n : Nat} {M N : mM} (c : CS h n M) (e : Eq7 M N) : CS h n N := by
  obtain ⟨c1, c2, c3, c4, c5, c6⟩ := c
  obtain ⟨e1, e2⟩ := e
  refine ⟨c1.to (Fs.rf h) (e2 2 (by omega)) (fun t k a b => e1 t k (by omega) (by omega)), c2.to (Fs.rf h) (fun t k a b => e1 t k (by omega) (by omega)), c3.i (fun t k a b => e1 t k (by omega) (by omega)) e2, ?_, ?_, c6.mk' (e2 30 (by omega)) (fun k => e1 69 k (by omega) (by omega)) (fun k => e1 49 k (by omega) (by omega)) (fun f hf => ⟨fun _ => e1 63 f (by omega) (by omega), fun _ => Or.inl (e1 63 f (by omega) (by omega)), fun _ => Or.inl (e1 64 f (by omega) (by omega))⟩)⟩
  · obtain ⟨w, h1, h2, h3, h4⟩ := c4
    refine ⟨w, h1, (e2 11 (by omega)).trans h2, h3, fun l hl => ?_⟩
    rw [e1 54 l (by omega) (by omega), e1 55 l (by omega) (by omega), e1 56 l (by omega) (by omega), e1 57 l (by omega) (by omega)]
    exact h4 l hl
  · obtain ⟨a, b, d⟩ := c5
    refine ⟨a, (e2 2 (by omega)).trans b, fun g hg => ?_⟩
    rw [e1 46 g (by omega) (by omega), e1 48 g (by omega) (by omega), e1 47 g (by omega) (by omega), e1 49 g (by omega) (by omega), e1 50 g (by omega) (by omega), e1 52 g (by omega) (by omega)]
    obtain ⟨d1, d2, d3, d4, d5⟩ := d g hg
    refine ⟨d1, d2, d3, d4, ?_⟩
    rcases d5 with z | ⟨y, h1, h2, h3⟩
    · exact Or.inl z
    · exact Or.inr ⟨y, h1, h2, by rw [e1 49 y (by omega) (by omega)]; exact h3⟩
theorem Eq7.u95 (M : mM) (k : Nat) (x : Int32) : Eq7 M (uM M 95 k x) := ⟨fun t j _ _ => uM_t _ (by omega), fun j _ => uM_t _ (by omega)⟩
theorem Eq7.u67 (M : mM) (x : Int32) : Eq7 M (uM M 12 67 x) := ⟨fun t j _ _ => uM_t _ (by omega), fun j hj => uM_k _ hj⟩
theorem Eq7.fo {lv : Nat} {M N : mM} (f : Fo lv M N) : Eq7 M N := ⟨fun t k _ _ => f.1 t k (by omega) (by omega), fun k _ => f.1 12 k (by omega) (by omega)⟩
/-- the instruction at place i of level lv -/
theorem ops_at {M : mM} {lv i : Nat} {c : List (Nat → Int32)} (O : OPS M lv c) (hi : i < c.length) (w : Nat) (hw : w < 6) : M.1 94 (300 * lv + 6 * i + w) = (c.getD i o0) w := O.2 i w hi hw
theorem e_puts {h : mH} {n : Nat} {M : mM} (S : CS h n M) {lv i r : Nat} (hv : lv < 2) {c : List (Nat → Int32)} (O : OPS M lv c) (hl : c.length ≤ 50) (hi : i < c.length) (h1 : (c.getD i o0) 1 = nI r) (hr : r < 8) (g : mH) : f_X12_puts (nI lv) (nI (300 * lv + 6 * i)) (wM g M) = some (wM g (wpM M n r (nuM M (c.getD i o0) r (M.1 95 lv)))) := by
  have q1 : nI (300 * lv + 6 * i) + 1 = nI (300 * lv + 6 * i + 1) := nI_add _ 1
  have q2 : nI (300 * lv + 6 * i) + 2 = nI (300 * lv + 6 * i + 2) := nI_add _ 2
  have q3 : nI (300 * lv + 6 * i) + 3 = nI (300 * lv + 6 * i + 3) := nI_add _ 3
  have q4 : nI (300 * lv + 6 * i) + 4 = nI (300 * lv + 6 * i + 4) := nI_add _ 4
  have o1 := ops_at O hi 1 (by omega)
  have o2 := ops_at O hi 2 (by omega)
  have o3 := ops_at O hi 3 (by omega)
  have o4 := ops_at O hi 4 (by omega)
  have tail : ∀ x : Int32, f_X12_puts_82 (fun u36 u37 u38 _ h40 => (f_X12_writes u36 u37 h40).bind fun r41 => if mIn u36 8 = true then (f_X12_ticks (uI r41 68 0 u36.toNatClampNeg (u37 &&& u38))).bind fun r43 => some r43 else none) mFu (nI r) x 0 0 (wM g M) = some (wM g (wpM M n r x)) := fun x => by
    rw [e_p82 _ g M S.2.2.2.2.1.2.1 S.1.1, S.e_write, Option.bind_some, if_pos (mIn_nI hr (by omega)), nI_clamp (by omega), wM_u g _ rfl, S.e_tick2, Option.bind_some]
    rfl
  unfold f_X12_puts nuM
  rw [q1, q2, q3, q4, if_pos (mIn_nI (show 300 * lv + 6 * i + 1 < 600 by omega) (by omega)), if_pos (mIn_nI (show 300 * lv + 6 * i + 2 < 600 by omega) (by omega)), if_pos (mIn_nI (show 300 * lv + 6 * i + 4 < 600 by omega) (by omega)), if_pos (mIn_nI (show 300 * lv + 6 * i + 3 < 600 by omega) (by omega)), if_pos (mIn_nI hv (by omega)), nI_clamp (by omega), nI_clamp (by omega), nI_clamp (by omega), nI_clamp (by omega), nI_clamp (by omega), wM_1 g M rfl, wM_1 g M rfl, wM_1 g M rfl, wM_1 g M rfl, wM_1 g M rfl, o1, o2, o3, o4, h1, if_pos (mIn_nI hr (by omega)), nI_clamp (by omega), wM_1 g M rfl]
  split
  · rw [tail, Int32.and_comm]
  · split
    · rw [tail, Int32.and_comm, if_pos (mIn_nI (show 300 * lv + 6 * i + 4 < 600 by omega) (by omega)), if_pos (mIn_nI (show 300 * lv + 6 * i + 3 < 600 by omega) (by omega))]
    · rw [tail, Int32.zero_and, or_z, if_pos (mIn_nI (show 300 * lv + 6 * i + 4 < 600 by omega) (by omega)), if_pos (mIn_nI (show 300 * lv + 6 * i + 3 < 600 by omega) (by omega))]
theorem e_picks {n : Nat} {M : mM} (h24 : n ≤ 24) {lv f : Nat} (hv : lv < 2) (hf : f < n) (g : mH) : f_X12_picks (nI lv) (nI f) (wM g M) = some (wM g (pkM M f (M.1 95 lv))) := by
  unfold f_X12_picks pkM
  rw [if_pos (mIn_nI (show f < 24 by omega) (by omega)), nI_clamp (by omega), wM_1 g M rfl, wM_1 g M rfl, if_pos (mIn_nI hv (by omega)), nI_clamp (by omega), wM_1 g M rfl, e_bitsOf (show f < 24 by omega), Option.bind_some]
  simp only [mLet]
  rw [wM_u g M rfl, wM_u g _ rfl, wM_u g _ rfl]
  split <;> rfl
