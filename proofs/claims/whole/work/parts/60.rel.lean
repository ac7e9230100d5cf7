/-! ===== THE CLASS beside the model's memory M: book, state, chip ===== -/
/-- the numbers below n that p chooses, in order -/
def lsP (p : Nat → Bool) : Nat → List Nat
  | 0 => []
  | n + 1 => if p n = true then lsP p n ++ [n] else lsP p n
theorem lsP_lt {p : Nat → Bool} : ∀ {n f : Nat}, f ∈ lsP p n → f < n ∧ p f = true
  | 0, f, h => by cases h
  | n + 1, f, h => by
    unfold lsP at h
    split at h
    · rename_i q
      rcases List.mem_append.mp h with h | h
      · have z := lsP_lt h
        exact ⟨by omega, z.2⟩
      · have e := List.mem_singleton.mp h
        subst e
        exact ⟨by omega, q⟩
    · have z := lsP_lt h
      exact ⟨by omega, z.2⟩
theorem lsP_len {p : Nat → Bool} : ∀ n, (lsP p n).length ≤ n
  | 0 => Nat.le_refl _
  | n + 1 => by
    have ih := lsP_len (p := p) n
    unfold lsP
    split
    · rw [List.length_append]
      show _ + 1 ≤ _
      omega
    · omega
theorem lsP_congr {p q : Nat → Bool} : ∀ n, (∀ f, f < n → p f = q f) → lsP p n = lsP q n
  | 0, _ => rfl
  | n + 1, h => by
    unfold lsP
    rw [h n (by omega), lsP_congr n (fun f hf => h f (by omega))]
/-- a fold over the chosen is the fold over all, where the others do nothing -/
theorem lsP_fold {β : Type} (g : β → Nat → β) (p : Nat → Bool) (b : β) : ∀ n, (lsP p n).foldl g b = Nat.rec b (fun f c => if p f = true then g c f else c) n
  | 0 => rfl
  | n + 1 => by
    have ih := lsP_fold g p b n
    show (lsP p (n + 1)).foldl g b = if p n = true then g (Nat.rec b (fun f c => if p f = true then g c f else c) n) n else Nat.rec b (fun f c => if p f = true then g c f else c) n
    unfold lsP
    split
    · rw [List.foldl_append, ih]
      rfl
    · exact ih
theorem take_foldl {β : Type} (g : β → Nat → β) (b : β) (l : List Nat) {j : Nat} (hj : j < l.length) : (l.take (j + 1)).foldl g b = g ((l.take j).foldl g b) (l.getD j 0) := by
  rw [List.take_succ, List.foldl_append]
  have e : l[j]? = some (l[j]) := List.getElem?_eq_getElem hj
  rw [List.getD_eq_getElem?_getD, e]
  rfl
theorem getD_mem {l : List Nat} {j : Nat} (hj : j < l.length) : l.getD j 0 ∈ l := by
  rw [List.getD_eq_getElem?_getD, List.getElem?_eq_getElem hj]
  exact List.getElem_mem hj
/-- a loop with an invariant -/
theorem mLoopR {α β : Type} (F : Nat → β → Option α) (I : Nat → β → Prop) (N : Nat) (E : β → Option α) (hs : ∀ j, j < N → ∀ b, I j b → ∃ b', I (j + 1) b' ∧ ∀ n, F (n + 1) b = F n b') (he : ∀ b, I N b → ∀ n, F (n + 1) b = E b) {b0 : β} (h0 : I 0 b0) : ∀ n, N < n → ∃ b, I N b ∧ F n b0 = E b := by
  have key : ∀ d j, j + d = N → ∀ b, I j b → ∀ n, d < n → ∃ b', I N b' ∧ F n b = E b' := by
    intro d
    induction d with
    | zero =>
      intro j hj b hb n hn
      cases n with
      | zero => omega
      | succ n =>
        have e : j = N := by omega
        subst e
        exact ⟨b, hb, he b hb n⟩
    | succ d ih =>
      intro j hj b hb n hn
      cases n with
      | zero => omega
      | succ n =>
        obtain ⟨b', hb', e⟩ := hs j (by omega) b hb
        obtain ⟨b2, h1, h2⟩ := ih (j + 1) (by omega) b' hb' n (by omega)
        exact ⟨b2, h1, by rw [e n]; exact h2⟩
  intro n hn
  exact key N 0 (by omega) b0 h0 n hn
/-- fields as they are told; n of them -/
def RF (h : mH) (n : Nat) (M : mM) : Prop := n ≤ 24 ∧ M.1 12 2 = nI n ∧ h.1 1 0 4 = nI n ∧ ∀ f, f < n → (h.1 6 f 0 = M.1 46 f ∧ h.1 6 f 1 = M.1 47 f ∧ h.1 6 f 2 = M.1 48 f ∧ h.1 6 f 3 = M.1 49 f ∧ h.1 6 f 4 = M.1 50 f) ∧ h.1 6 f 5 = oneM M f ∧ h.1 6 f 6 = mskM M f ∧ h.1 6 f 7 = M.1 51 f ∧ h.1 6 f 8 = M.1 52 f ∧ h.1 6 f 9 = M.1 53 f
/-- state s of the class is the model's -/
def RS (h : mH) (s n : Nat) (M : mM) : Prop :=
  (∀ q, q < 5 → ∀ f, f < n → h.1 (33 + q) s f = M.1 (63 + q) f) ∧ (∀ r, r < 8 → h.1 38 s r = M.1 68 r) ∧
  (∃ m, m ≤ 16 ∧ h.1 8 s 9 = nI m ∧ M.1 12 30 = nI m ∧ ∀ q, q < 3 → ∀ k, k < m → h.1 (39 + q) s k = M.1 (69 + q) k) ∧
  (h.1 8 s 10 = M.1 12 23 ∧ h.1 8 s 11 = M.1 12 38 ∧ h.1 8 s 12 = M.1 12 37 ∧ h.1 8 s 13 = M.1 12 34) ∧ (M.1 12 34 ≠ 0 → h.1 8 s 14 = M.1 12 35 ∧ h.1 8 s 15 = M.1 12 36)
def inR (M : mM) (r : Nat) : Nat → Bool := fun f => decide (M.1 46 f = nI r)
def isP (M : mM) : Nat → Bool := fun f => decide (M.1 49 f = 4)
def kpM (M : mM) (f : Nat) : Bool := decide (M.1 49 f = 0) || decide (M.1 49 f = 5)
def kpB (M : mM) (r : Nat) : Nat → Int32
  | 0 => 0
  | f + 1 => if (inR M r f && kpM M f) = true then kpB M r f ||| mskM M f else kpB M r f
/-- the chip's own rows: fields by register, pulses, kept bits -/
def RH (h : mH) (n : Nat) (M : mM) : Prop :=
  (∀ r, r < 8 → (lsP (inR M r) n).length ≤ 16 ∧ h.1 29 0 r = nI (lsP (inR M r) n).length ∧ (∀ k, k < (lsP (inR M r) n).length → h.1 28 r k = nI ((lsP (inR M r) n).getD k 0)) ∧ h.1 30 0 r = kpB M r n) ∧
  h.1 2 0 6 = nI (lsP (isP M) n).length ∧ ∀ k, k < (lsP (isP M) n).length → h.1 31 0 k = nI ((lsP (isP M) n).getD k 0)
/-- only state 0 of the class has changed -/
def Fs (h h' : mH) : Prop := (∀ t i, ¬ (i = 0 ∧ (t = 8 ∨ (33 ≤ t ∧ t ≤ 41))) → h'.1 t i = h.1 t i) ∧ h'.2 = h.2
theorem Fs.rf (h : mH) : Fs h h := ⟨fun _ _ _ => rfl, rfl⟩
theorem Fs.tr {a b c : mH} (h1 : Fs a b) (h2 : Fs b c) : Fs a c := ⟨fun t i q => (h2.1 t i q).trans (h1.1 t i q), h2.2.trans h1.2⟩
theorem Fs.u (h : mH) {t k : Nat} (x : Int32) (ht : t = 8 ∨ (33 ≤ t ∧ t ≤ 41)) : Fs h (uI h t 0 k x) := ⟨fun t' i' q => uI_ne (fun e => q ⟨e.2, by rw [e.1]; exact ht⟩), rfl⟩
theorem RF.to {h h' : mH} {n : Nat} {M N : mM} (r : RF h n M) (f : Fs h h') (h12 : N.1 12 2 = M.1 12 2) (hN : ∀ t k, 46 ≤ t → t ≤ 53 → N.1 t k = M.1 t k) : RF h' n N := by
  obtain ⟨h24, a, b, c⟩ := r
  have e6 : ∀ i, h'.1 6 i = h.1 6 i := fun i => f.1 6 i (by omega)
  have e1 : h'.1 1 0 = h.1 1 0 := f.1 1 0 (by omega)
  refine ⟨h24, h12.trans a, by rw [e1]; exact b, fun g hg => ?_⟩
  have z := c g hg
  have o1 : oneM N g = oneM M g := by unfold oneM; rw [hN 48 g (by omega) (by omega)]
  have o2 : mskM N g = mskM M g := by unfold mskM; rw [o1, hN 47 g (by omega) (by omega)]
  rw [e6, hN 46 g (by omega) (by omega), hN 47 g (by omega) (by omega), hN 48 g (by omega) (by omega), hN 49 g (by omega) (by omega), hN 50 g (by omega) (by omega), hN 51 g (by omega) (by omega), hN 52 g (by omega) (by omega), hN 53 g (by omega) (by omega), o1, o2]
  exact z
theorem kpB_to {M N : mM} (r : Nat) : ∀ n, (∀ t k, 46 ≤ t → t ≤ 53 → N.1 t k = M.1 t k) → kpB N r n = kpB M r n
  | 0, _ => rfl
  | n + 1, hN => by
    unfold kpB
    have o1 : oneM N n = oneM M n := by unfold oneM; rw [hN 48 n (by omega) (by omega)]
    have o2 : mskM N n = mskM M n := by unfold mskM; rw [o1, hN 47 n (by omega) (by omega)]
    have i1 : inR N r n = inR M r n := by unfold inR; rw [hN 46 n (by omega) (by omega)]
    have i2 : kpM N n = kpM M n := by unfold kpM; rw [hN 49 n (by omega) (by omega)]
    rw [i1, i2, o2, kpB_to r n hN]
theorem RH.to {h h' : mH} {n : Nat} {M N : mM} (r : RH h n M) (f : Fs h h') (hN : ∀ t k, 46 ≤ t → t ≤ 53 → N.1 t k = M.1 t k) : RH h' n N := by
  obtain ⟨a, b, c⟩ := r
  have i1 : ∀ r, inR N r = inR M r := fun r => by funext g; unfold inR; rw [hN 46 g (by omega) (by omega)]
  have i2 : isP N = isP M := by funext g; unfold isP; rw [hN 49 g (by omega) (by omega)]
  refine ⟨fun r hr => ?_, ?_, ?_⟩
  · rw [i1, f.1 29 0 (by omega), f.1 30 0 (by omega), f.1 28 r (by omega), kpB_to r n hN]
    exact a r hr
  · rw [i2, f.1 2 0 (by omega)]
    exact b
  · rw [i2, f.1 31 0 (by omega)]
    exact c
/-- the same number into the same row of both -/
theorem RS.row {h : mH} {s n : Nat} {M : mM} (R : RS h s n M) {q f : Nat} (x : Int32) (hq : q < 5) : RS (uI h (33 + q) s f x) s n (uM M (63 + q) f x) := by
  obtain ⟨a, b, c, d, e⟩ := R
  have o8 : ∀ k, (uI h (33 + q) s f x).1 8 s k = h.1 8 s k := fun k => by rw [uI_ne (fun z => by omega)]
  have o12 : ∀ k, (uM M (63 + q) f x).1 12 k = M.1 12 k := fun k => uM_t _ (by omega)
  refine ⟨fun q' hq' f' hf' => ?_, fun r hr => ?_, ?_, ?_, ?_⟩
  · show (if 33 + q' = 33 + q ∧ s = s ∧ f' = f then x else h.1 (33 + q') s f') = (if 63 + q' = 63 + q ∧ f' = f then x else M.1 (63 + q') f')
    by_cases z : q' = q ∧ f' = f
    · rw [if_pos ⟨by omega, rfl, z.2⟩, if_pos ⟨by omega, z.2⟩]
    · rw [if_neg (fun y => z ⟨by omega, y.2.2⟩), if_neg (fun y => z ⟨by omega, y.2⟩)]
      exact a q' hq' f' hf'
  · rw [uI_ne (fun z => by omega), uM_t _ (by omega)]
    exact b r hr
  · obtain ⟨m, h16, c1, c2, c3⟩ := c
    refine ⟨m, h16, by rw [o8]; exact c1, by rw [o12]; exact c2, fun q' hq' k hk => ?_⟩
    rw [uI_ne (fun z => by omega), uM_t _ (by omega)]
    exact c3 q' hq' k hk
  · rw [o8, o8, o8, o8, o12, o12, o12, o12]
    exact d
  · rw [o8, o8, o12, o12, o12]
    exact e
