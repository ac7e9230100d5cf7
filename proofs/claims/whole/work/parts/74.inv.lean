/-! ===== what holds of the model's memory, and what chip calls leave as it was ===== -/
/-- only the chip's state has changed -/
def Fm (M N : mM) : Prop := (∀ t k, ¬ (63 ≤ t ∧ t ≤ 71) → t ≠ 92 → ¬ (t = 12 ∧ (k = 23 ∨ k = 30 ∨ (34 ≤ k ∧ k ≤ 38))) → N.1 t k = M.1 t k) ∧ N.2 = M.2
theorem Fm.rf (M : mM) : Fm M M := ⟨fun _ _ _ _ _ => rfl, rfl⟩
theorem Fm.tr {a b c : mM} (h1 : Fm a b) (h2 : Fm b c) : Fm a c := ⟨fun t k p q r => (h2.1 t k p q r).trans (h1.1 t k p q r), h2.2.trans h1.2⟩
theorem Fm.u (M : mM) {t k : Nat} (x : Int32) (h : (63 ≤ t ∧ t ≤ 71) ∨ t = 92 ∨ (t = 12 ∧ (k = 23 ∨ k = 30 ∨ (34 ≤ k ∧ k ≤ 38)))) : Fm M (uM M t k x) := ⟨fun t' k' h1 h2 h3 => if_neg (fun z => by obtain ⟨rfl, rfl⟩ := z; omega), rfl⟩
theorem Fm.bk {M N B : mM} (f : Fm M N) (h : Bk M B) : Bk N B := fun t k z => (f.1 t k (by omega) (by omega) (by omega)).trans (h t k z)
theorem plF_f (M : mM) (f : Nat) : Fm M (plF M f) := by
  refine ⟨fun t k h1 h2 h3 => plF_o M (by omega) (by omega) f k, ?_⟩
  unfold plF
  repeat' split
  all_goals rfl
theorem plFs_f (M : mM) : ∀ j, Fm M (plFs j M)
  | 0 => Fm.rf _
  | j + 1 => (plFs_f M j).tr (plF_f _ j)
theorem evSs_f (M : mM) : ∀ j, Fm M (evSs j M).2
  | 0 => Fm.rf _
  | j + 1 => by
    refine (evSs_f M j).tr ?_
    show Fm _ (evS (evSs j M) j).2
    unfold evS
    split
    · exact Fm.u _ _ (by omega)
    · exact ((Fm.u _ _ (by omega)).tr (Fm.u _ _ (by omega))).tr (Fm.u _ _ (by omega))
theorem tikM_f (M : mM) : Fm M (tikM M) := (((Fm.u M _ (by omega)).tr (plFs_f _ _)).tr (evSs_f _ _)).tr (Fm.u _ _ (by omega))
theorem rdSs_f (r b : Int32) (M : mM) : ∀ j, Fm M (rdSs r b j M).2
  | 0 => Fm.rf _
  | j + 1 => by
    refine (rdSs_f r b M j).tr ?_
    show Fm _ (rdS r b (rdSs r b j M) j).2
    unfold rdS
    split
    · split
      · exact Fm.rf _
      · split
        · exact (Fm.u _ _ (by omega)).tr (Fm.u _ _ (by omega))
        · exact Fm.rf _
    · exact Fm.rf _
theorem redM_f (r b : Int32) (M : mM) : Fm M (redM r b M).2 := (rdSs_f r b M _).tr (tikM_f _)
theorem cbM_f (M : mM) (l : Nat) : Fm M (cbM M l) := by
  unfold cbM
  split
  · exact ((Fm.u _ _ (by omega)).tr (Fm.u _ _ (by omega))).tr (Fm.u _ _ (by omega))
  · exact Fm.u _ _ (by omega)
theorem jdSs_f (r x : Int32) (M : mM) : ∀ j, Fm M (jdSs r x j M)
  | 0 => Fm.rf _
  | j + 1 => by
    refine (jdSs_f r x M j).tr ?_
    show Fm _ (jdS r x (jdSs r x j M) j)
    unfold jdS
    split
    · exact cbM_f _ _
    · exact Fm.rf _
theorem ldFs_f (M : mM) : ∀ j, Fm M (ldFs j M)
  | 0 => Fm.rf _
  | j + 1 => (ldFs_f M j).tr (Fm.u _ _ (by omega))
theorem tkeM_f (M : mM) (f : Nat) (b : Int32) : Fm M (tkeM M f b) := by
  unfold tkeM
  repeat' split
  all_goals first | exact Fm.rf _ | exact ldFs_f _ _ | exact Fm.u _ _ (by omega) | exact (Fm.u _ _ (by omega)).tr (Fm.u _ _ (by omega))
theorem w8Ss_f (r x : Int32) (M : mM) : ∀ j, Fm M (w8Ss r x j M)
  | 0 => Fm.rf _
  | j + 1 => (w8Ss_f r x M j).tr (Fm.u _ _ (by omega))
theorem w37T_f (r x : Int32) (M : mM) (f : Nat) : Fm M (w37T r x M f) := by
  unfold w37T
  split
  · exact tkeM_f _ _ _
  · exact Fm.rf _
theorem w37Ss_f (r x : Int32) (M : mM) : ∀ j, Fm M (w37Ss r x j M)
  | 0 => Fm.rf _
  | j + 1 => ((w37Ss_f r x M j).tr (w37T_f r x _ j)).tr (Fm.u _ _ (by omega))
theorem wrtM_f (r x : Int32) (M : mM) : Fm M (wrtM r x M) := ((jdSs_f r x M _).tr (w8Ss_f r x _ _)).tr (w37Ss_f r x _ _)
theorem pwSh_f (M : mM) : ∀ j, Fm M (pwSh j M)
  | 0 => Fm.rf _
  | j + 1 => (pwSh_f M j).tr (Fm.u _ _ (by omega))
theorem pwSc_f (M : mM) : Fm M (pwSc M) := ((((((Fm.u _ _ (by omega)).tr (Fm.u _ _ (by omega))).tr (Fm.u _ _ (by omega))).tr (Fm.u _ _ (by omega))).tr (Fm.u _ _ (by omega))).tr (Fm.u _ _ (by omega))).tr (Fm.u _ _ (by omega))
theorem pwF_f (M : mM) (f : Nat) : Fm M (pwF M f) := (((((Fm.u _ _ (by omega)).tr (Fm.u _ _ (by omega))).tr (Fm.u _ _ (by omega))).tr (Fm.u _ _ (by omega))).tr (Fm.u _ _ (by omega))).tr (Fm.u _ _ (by omega))
theorem pwFs_f (M : mM) : ∀ j, Fm M (pwFs j M)
  | 0 => Fm.rf _
  | j + 1 => (pwFs_f M j).tr (pwF_f _ j)
theorem powM_f (M : mM) : Fm M (powM M) := ((pwSc_f M).tr (pwSh_f _ 8)).tr (pwFs_f _ _)
/-- fields as they may be told -/
def okF (n : Nat) (M : mM) : Prop := n ≤ 24 ∧ M.1 12 2 = nI n ∧ ∀ f, f < n → (∃ r, r < 8 ∧ M.1 46 f = nI r) ∧ (∃ w l, 1 ≤ w ∧ w ≤ 8 ∧ l + w ≤ 16 ∧ M.1 48 f = nI w ∧ M.1 47 f = nI l) ∧ (∃ k, k ≤ 6 ∧ M.1 49 f = nI k) ∧ (¬ M.1 50 f = -1 ∧ (M.1 49 f = 6 → M.1 50 f = 0)) ∧ (M.1 52 f = -1 ∨ ∃ g, g < n ∧ M.1 52 f = nI g ∧ (M.1 49 g = 1 ∨ M.1 49 g = 2))
/-- the state as it may be -/
def okS (n : Nat) (M : mM) : Prop :=
  (∃ m, m ≤ 16 ∧ M.1 12 30 = nI m ∧ ∀ k, k < m → ∃ g, g < n ∧ M.1 69 k = nI g ∧ (M.1 49 g = 1 ∨ M.1 49 g = 2 ∨ M.1 49 g = 3)) ∧
  ∀ f, f < n → (M.1 49 f = 6 → M.1 63 f = 0) ∧ (M.1 49 f = 0 → ¬ M.1 63 f = -1) ∧ (M.1 49 f = 5 → ¬ M.1 64 f = -1)
theorem okF.to {n : Nat} {M N : mM} (o : okF n M) (f : Fm M N) : okF n N := by
  obtain ⟨a, b, c⟩ := o
  refine ⟨a, by rw [f.1 12 2 (by omega) (by omega) (by omega)]; exact b, fun g hg => ?_⟩
  have e : ∀ t k, 46 ≤ t → t ≤ 53 → N.1 t k = M.1 t k := fun t k h1 h2 => f.1 t k (by omega) (by omega) (by omega)
  rw [e 46 g (by omega) (by omega), e 48 g (by omega) (by omega), e 47 g (by omega) (by omega), e 49 g (by omega) (by omega), e 50 g (by omega) (by omega), e 52 g (by omega) (by omega)]
  obtain ⟨c1, c2, c3, c4, c5⟩ := c g hg
  refine ⟨c1, c2, c3, c4, ?_⟩
  rcases c5 with z | ⟨y, h1, h2, h3⟩
  · exact Or.inl z
  · exact Or.inr ⟨y, h1, h2, by rw [e 49 y (by omega) (by omega)]; exact h3⟩
theorem okF.dn {n : Nat} {M : mM} (o : okF n M) : dnOK n M := fun f hf => by
  rcases (o.2.2 f hf).2.2.2.2 with z | ⟨g, h1, h2, _⟩
  · exact Or.inl z
  · exact Or.inr ⟨g, h1, h2⟩
theorem okS.ev {n : Nat} {M : mM} (o : okS n M) : evOK n M := fun m hm h17 k hk => by
  obtain ⟨⟨m', h1, h2, h3⟩, _⟩ := o
  have e : m' = m := by
    rw [h2] at hm
    have e1 : (nI m').toNatClampNeg = (nI m).toNatClampNeg := by rw [hm]
    rw [nI_clamp (by omega), nI_clamp (by omega)] at e1
    exact e1
  subst e
  obtain ⟨g, g1, g2, _⟩ := h3 k hk
  exact ⟨g, g1, g2⟩
theorem okS.ld {n : Nat} {M : mM} (o : okS n M) : ldOK n M := fun f hf => (o.2 f hf).1
theorem ok_tk {n : Nat} {M : mM} (o : okF n M) (s : okS n M) : tkOK M := by
  obtain ⟨a, b, c⟩ := o
  refine ⟨⟨n, a, b, fun f hf => ?_⟩, ?_⟩
  · rcases (c f hf).2.2.2.2 with z | ⟨y, h1, h2, h3⟩
    · exact Or.inl z
    · exact Or.inr (by rw [h2]; exact mIn_nI (by omega) (by omega))
  · obtain ⟨⟨m, h1, h2, h3⟩, _⟩ := s
    refine ⟨m, by omega, h2, fun k hk => ?_⟩
    obtain ⟨g, g1, g2, _⟩ := h3 k hk
    rw [g2]
    exact mIn_nI (by omega) (by omega)
theorem i32_12 : ¬ ((1 : Int32) = 2) := by decide
/-- a tick leaves the values of PLAIN, HELD and LOAD fields -/
theorem plF_v {M : mM} {f g : Nat} (hk : ¬ M.1 49 f = 4) (hd : M.1 52 g = -1 ∨ (M.1 52 g).toNatClampNeg ≠ f) : (plF M g).1 63 f = M.1 63 f := by
  unfold plF
  split
  · rename_i q
    have hgf : f ≠ g := fun z => hk (by rw [z]; exact q)
    split
    · rfl
    · split
      · split
        · rw [uM_k _ hgf, uM_t _ (by omega)]
        · rename_i q2
          have : (M.1 52 g).toNatClampNeg ≠ f := hd.resolve_left q2
          rw [uM_k _ (fun z => this z.symm), uM_k _ hgf, uM_t _ (by omega)]
      · rw [uM_t _ (by omega)]
  · rfl
theorem kind_ne {M : mM} {f g : Nat} (hf : M.1 49 f = 0 ∨ M.1 49 f = 5 ∨ M.1 49 f = 6) (hg : M.1 49 g = 1 ∨ M.1 49 g = 2 ∨ M.1 49 g = 3) : g ≠ f := by
  intro z
  subst z
  rcases hf with e | e | e <;> rw [e] at hg <;> rcases hg with y | y | y <;> exact absurd y (by decide)
theorem plFs_v {n : Nat} {M : mM} (o : okF n M) {f : Nat} (hk : M.1 49 f = 0 ∨ M.1 49 f = 5 ∨ M.1 49 f = 6) : ∀ j, j ≤ n → (plFs j M).1 63 f = M.1 63 f
  | 0, _ => rfl
  | j + 1, hj => by
    show (plF (plFs j M) j).1 63 f = _
    have e : ∀ t k, 46 ≤ t → t ≤ 53 → (plFs j M).1 t k = M.1 t k := fun t k _ _ => plFs_o M (by omega) (by omega) k j
    rw [plF_v, plFs_v o hk j (by omega)]
    · rw [e 49 f (by omega) (by omega)]
      rcases hk with z | z | z <;> rw [z] <;> decide
    · rw [e 52 j (by omega) (by omega)]
      rcases (o.2.2 j (by omega)).2.2.2.2 with z | ⟨y, h1, h2, h3⟩
      · exact Or.inl z
      · have := o.1
        refine Or.inr ?_
        rw [h2, nI_clamp (by omega)]
        exact kind_ne hk (h3.elim Or.inl (fun z => Or.inr (Or.inl z)))
theorem evSs_e {n m : Nat} {M : mM} {P : Nat → Prop} (he : ∀ k, k < m → ∃ g, g < n ∧ M.1 69 k = nI g ∧ P g) : ∀ j, j ≤ m → ∀ k, k < (evSs j M).1 → ∃ g, g < n ∧ (evSs j M).2.1 69 k = nI g ∧ P g
  | 0, _ => fun k hk => absurd hk (Nat.not_lt_zero k)
  | j + 1, hj => by
    have i2 := evSs_e he j (by omega)
    have h69 : (evSs j M).2.1 69 j = M.1 69 j := evSs_hi M (Or.inl rfl) j j (Nat.le_refl _)
    obtain ⟨g, g1, g2, g3⟩ := he j (by omega)
    show ∀ k, k < (evS (evSs j M) j).1 → ∃ g, g < n ∧ (evS (evSs j M) j).2.1 69 k = nI g ∧ _
    unfold evS
    split
    · dsimp only
      intro k hk2
      rw [uM_t _ (by omega)]
      exact i2 k hk2
    · dsimp only
      intro k hk2
      rw [uM_t _ (by omega), uM_t _ (by omega), uM_1]
      by_cases z : k = (evSs j M).1
      · rw [if_pos ⟨rfl, z⟩, h69]
        exact ⟨g, g1, g2, g3⟩
      · rw [if_neg (fun y => z y.2)]
        exact i2 k (by omega)
theorem evSs_v {n m : Nat} {M : mM} (h24 : n ≤ 24) (he : ∀ k, k < m → ∃ g, g < n ∧ M.1 69 k = nI g ∧ (M.1 49 g = 1 ∨ M.1 49 g = 2 ∨ M.1 49 g = 3)) {f : Nat} (hk : M.1 49 f = 0 ∨ M.1 49 f = 5 ∨ M.1 49 f = 6) : ∀ j, j ≤ m → (evSs j M).2.1 63 f = M.1 63 f
  | 0, _ => rfl
  | j + 1, hj => by
    have i1 := evSs_v h24 he hk j (by omega)
    have h69 : (evSs j M).2.1 69 j = M.1 69 j := evSs_hi M (Or.inl rfl) j j (Nat.le_refl _)
    obtain ⟨g, g1, g2, g3⟩ := he j (by omega)
    show (evS (evSs j M) j).2.1 63 f = _
    unfold evS
    split
    · dsimp only
      rw [h69, g2, nI_clamp (by omega), uM_k _ (fun z => kind_ne hk g3 z.symm)]
      exact i1
    · dsimp only
      rw [uM_t _ (by omega), uM_t _ (by omega), uM_t _ (by omega)]
      exact i1
theorem okS.tik {n : Nat} {M : mM} (o : okF n M) (s : okS n M) : okS n (tikM M) := by
  obtain ⟨⟨m, h1, h2, h3⟩, h4⟩ := s
  have hn := o.2.1
  have h24 := o.1
  have en : (M.1 12 2).toNatClampNeg = n := by rw [hn, nI_clamp (by omega)]
  have em : (M.1 12 30).toNatClampNeg = m := by rw [h2, nI_clamp (by omega)]
  have f0 : Fm M (uM M 12 23 (M.1 12 23 + 1)) := Fm.u _ _ (by omega)
  have fP : Fm M (tikP M) := f0.tr (plFs_f _ _)
  have k49 : ∀ g, (tikP M).1 49 g = M.1 49 g := fun g => fP.1 49 g (by omega) (by omega) (by omega)
  have e69 : ∀ k, (tikP M).1 69 k = M.1 69 k := fun k => (plFs_o _ (by omega) (by omega) k _).trans (uM_t _ (by omega))
  have he : ∀ k, k < m → ∃ g, g < n ∧ (tikP M).1 69 k = nI g ∧ ((tikP M).1 49 g = 1 ∨ (tikP M).1 49 g = 2 ∨ (tikP M).1 49 g = 3) := fun k hk => by
    obtain ⟨g, g1, g2, g3⟩ := h3 k hk
    exact ⟨g, g1, by rw [e69]; exact g2, by rw [k49]; exact g3⟩
  have kk : ∀ g, (tikM M).1 49 g = M.1 49 g := fun g => (tikM_f M).1 49 g (by omega) (by omega) (by omega)
  have vv : ∀ f, (M.1 49 f = 0 ∨ M.1 49 f = 5 ∨ M.1 49 f = 6) → (tikM M).1 63 f = M.1 63 f := fun f hf => by
    have a1 := (evSs_v h24 he (f := f) (by rw [k49]; exact hf) m (Nat.le_refl _))
    show (uM _ 12 30 _).1 63 f = _
    rw [uM_t _ (by omega), em, a1]
    show (plFs _ _).1 63 f = _
    rw [en, plFs_v (o.to f0) (f := f) (by rw [f0.1 49 f (by omega) (by omega) (by omega)]; exact hf) n (Nat.le_refl _), uM_t _ (by omega)]
  refine ⟨⟨(evSs m (tikP M)).1, ?_, ?_, fun k hk => ?_⟩, fun f hf => ⟨fun q => ?_, fun q => ?_, fun q => ?_⟩⟩
  · have := evSs_le (tikP M) m
    omega
  · show (uM _ 12 30 _).1 12 30 = _
    rw [uM_s, em]
  · obtain ⟨g, g1, g2, g3⟩ := evSs_e he m (Nat.le_refl _) k hk
    refine ⟨g, g1, ?_, by rw [kk, ← k49]; exact g3⟩
    show (uM _ 12 30 _).1 69 k = _
    rw [uM_t _ (by omega), em]
    exact g2
  · rw [kk] at q
    rw [vv f (Or.inr (Or.inr q))]
    exact (h4 f hf).1 q
  · rw [kk] at q
    rw [vv f (Or.inl q)]
    exact (h4 f hf).2.1 q
  · rw [kk] at q
    have e : (tikM M).1 64 f = M.1 64 f := by
      show (uM _ 12 30 _).1 64 f = _
      rw [uM_t _ (by omega), evSs_o _ (by omega) (by omega)]
      show (plFs _ _).1 64 f = _
      rw [plFs_o _ (by omega) (by omega), uM_t _ (by omega)]
    rw [e]
    exact (h4 f hf).2.2 q
theorem okS.mk' {n : Nat} {M N : mM} (s : okS n M) (h30 : N.1 12 30 = M.1 12 30) (h69 : ∀ k, N.1 69 k = M.1 69 k) (h49 : ∀ k, N.1 49 k = M.1 49 k) (hv : ∀ f, f < n → (M.1 49 f = 6 → N.1 63 f = M.1 63 f) ∧ (M.1 49 f = 0 → N.1 63 f = M.1 63 f ∨ ¬ N.1 63 f = -1) ∧ (M.1 49 f = 5 → N.1 64 f = M.1 64 f ∨ ¬ N.1 64 f = -1)) : okS n N := by
  obtain ⟨⟨m, h1, h2, h3⟩, h4⟩ := s
  refine ⟨⟨m, h1, h30.trans h2, fun k hk => ?_⟩, fun f hf => ?_⟩
  · obtain ⟨g, g1, g2, g3⟩ := h3 k hk
    exact ⟨g, g1, (h69 k).trans g2, by rw [h49]; exact g3⟩
  · rw [h49]
    obtain ⟨a, b, c⟩ := hv f hf
    obtain ⟨a', b', c'⟩ := h4 f hf
    refine ⟨fun q => (a q).trans (a' q), fun q => ?_, fun q => ?_⟩
    · rcases b q with z | z
      · rw [z]
        exact b' q
      · exact z
    · rcases c q with z | z
      · rw [z]
        exact c' q
      · exact z
theorem rdSs_v (r b : Int32) (M : mM) {f : Nat} (hk : ¬ M.1 49 f = 3) : ∀ j, (rdSs r b j M).2.1 63 f = M.1 63 f
  | 0 => rfl
  | j + 1 => by
    have ih := rdSs_v r b M hk j
    show (rdS r b (rdSs r b j M) j).2.1 63 f = _
    unfold rdS
    split
    · split
      · exact ih
      · split
        · rename_i q
          rw [rdSs_o r b M (by omega) (by omega)] at q
          show (uM (uM _ 66 _ _) 63 _ _).1 63 f = _
          rw [uM_k _ (fun z => hk (by rw [z]; exact q)), uM_t _ (by omega)]
          exact ih
        · exact ih
    · exact ih
theorem ne36 : ¬ (6 : Int32) = 3 := by decide
theorem ne30 : ¬ (0 : Int32) = 3 := by decide
theorem okS.rdSs {n : Nat} {M : mM} (s : okS n M) (r b : Int32) (j : Nat) : okS n (rdSs r b j M).2 := by
  refine s.mk' (rdSs_o r b M (by omega) (by omega) _ j) (fun k => rdSs_o r b M (by omega) (by omega) _ j) (fun k => rdSs_o r b M (by omega) (by omega) _ j) (fun f hf => ⟨fun q => ?_, fun q => Or.inl ?_, fun q => Or.inl (rdSs_o r b M (by omega) (by omega) _ j)⟩)
  · exact rdSs_v r b M (by rw [q]; exact ne36) j
  · exact rdSs_v r b M (by rw [q]; exact ne30) j
theorem okS.red {n : Nat} {M : mM} (o : okF n M) (s : okS n M) (r b : Int32) : okS n (redM r b M).2 := okS.tik (o.to (rdSs_f r b M _)) (s.rdSs r b _)
theorem and_m1 {a b : Int32} (h : a &&& b = -1) : b = -1 := by
  have e : (a &&& b) &&& b = a &&& b := by rw [Int32.and_assoc, Int32.and_self]
  rw [h, Int32.neg_one_and] at e
  exact e
theorem oneM_ne {n f : Nat} {M : mM} (o : okF n M) (hf : f < n) : ¬ oneM M f = -1 := by
  obtain ⟨w, l, h1, h2, h3, h4, h5⟩ := (o.2.2 f hf).2.1
  unfold oneM
  rw [h4]
  have hw : w = 1 ∨ w = 2 ∨ w = 3 ∨ w = 4 ∨ w = 5 ∨ w = 6 ∨ w = 7 ∨ w = 8 := by omega
  rcases hw with rfl | rfl | rfl | rfl | rfl | rfl | rfl | rfl <;> decide
theorem bitM_ne {n f : Nat} {M : mM} (o : okF n M) (hf : f < n) (x : Int32) : ¬ bitM M f x = -1 := fun z => oneM_ne o hf (and_m1 z)
theorem ldFs_v (M : mM) {f : Nat} (hk : ¬ M.1 49 f = 5) : ∀ j, (ldFs j M).1 63 f = M.1 63 f
  | 0 => rfl
  | j + 1 => by
    have ih := ldFs_v M hk j
    show (ldF (ldFs j M) j).1 63 f = _
    unfold ldF
    rw [uM_1]
    by_cases z : f = j
    · subst z
      rw [if_pos ⟨rfl, rfl⟩, ldFs_o _ (by omega), if_neg hk]
      exact ih
    · rw [if_neg (fun y => z y.2)]
      exact ih
theorem okS.tke {n : Nat} {M : mM} (s : okS n M) {f : Nat} {b : Int32} (hb : ¬ b = -1) : okS n (tkeM M f b) := by
  refine s.mk' (tkeM_o M f b (by omega) _) (fun k => tkeM_o M f b (by omega) _) (fun k => tkeM_o M f b (by omega) _) (fun g hg => ?_)
  unfold tkeM
  by_cases q0 : M.1 49 f = 0
  · rw [if_pos q0]
    refine ⟨fun q => uM_k _ (fun z => by rw [z, q0] at q; exact absurd q (by decide)), fun q => ?_, fun q => Or.inl (uM_t _ (by omega))⟩
    rw [uM_1]
    by_cases z : g = f
    · rw [if_pos ⟨rfl, z⟩]
      exact Or.inr hb
    · rw [if_neg (fun y => z y.2)]
      exact Or.inl rfl
  · rw [if_neg q0]
    by_cases q2 : M.1 49 f = 2
    · rw [if_pos q2]
      exact ⟨fun q => uM_k _ (fun z => by rw [z, q2] at q; exact absurd q (by decide)), fun q => Or.inl (uM_k _ (fun z => by rw [z, q2] at q; exact absurd q (by decide))), fun q => Or.inl (uM_t _ (by omega))⟩
    · rw [if_neg q2]
      by_cases q4 : M.1 49 f = 4
      · rw [if_pos q4]
        have k6 : M.1 49 g = 6 → g ≠ f := fun q z => by rw [z, q4] at q; exact absurd q (by decide)
        have k0 : M.1 49 g = 0 → g ≠ f := fun q z => by rw [z, q4] at q; exact absurd q (by decide)
        split
        · exact ⟨fun q => (uM_t _ (by omega)).trans (uM_k _ (k6 q)), fun q => Or.inl ((uM_t _ (by omega)).trans (uM_k _ (k0 q))), fun q => Or.inl ((uM_t _ (by omega)).trans (uM_t _ (by omega)))⟩
        · exact ⟨fun q => (uM_t _ (by omega)).trans (uM_k _ (k6 q)), fun q => Or.inl ((uM_t _ (by omega)).trans (uM_k _ (k0 q))), fun q => Or.inl ((uM_t _ (by omega)).trans (uM_t _ (by omega)))⟩
      · rw [if_neg q4]
        by_cases q5 : M.1 49 f = 5
        · rw [if_pos q5]
          refine ⟨fun q => uM_t _ (by omega), fun q => Or.inl (uM_t _ (by omega)), fun q => ?_⟩
          rw [uM_1]
          by_cases z : g = f
          · rw [if_pos ⟨rfl, z⟩]
            exact Or.inr hb
          · rw [if_neg (fun y => z y.2)]
            exact Or.inl rfl
        · rw [if_neg q5]
          split
          · split
            · exact ⟨fun _ => rfl, fun _ => Or.inl rfl, fun _ => Or.inl rfl⟩
            · exact ⟨fun q => ldFs_v M (by rw [q]; decide) _, fun q => Or.inl (ldFs_v M (by rw [q]; decide) _), fun _ => Or.inl (ldFs_o _ (by omega) _ _)⟩
          · exact ⟨fun _ => rfl, fun _ => Or.inl rfl, fun _ => Or.inl rfl⟩
theorem okS.w37 {n : Nat} {M : mM} (o : okF n M) (s : okS n M) (r x : Int32) : ∀ j, j ≤ n → okS n (w37Ss r x j M)
  | 0, _ => s
  | j + 1, hj => by
    have ih := okS.w37 o s r x j (by omega)
    have oj := o.to (w37Ss_f r x M j)
    have t : okS n (w37T r x (w37Ss r x j M) j) := by
      unfold w37T
      split
      · exact ih.tke (bitM_ne oj (by omega) x)
      · exact ih
    exact t.mk' (uM_t _ (by omega)) (fun k => uM_t _ (by omega)) (fun k => uM_t _ (by omega)) (fun f hf => ⟨fun q => uM_t _ (by omega), fun q => Or.inl (uM_t _ (by omega)), fun q => Or.inl (uM_t _ (by omega))⟩)
theorem okS.wrt {n : Nat} {M : mM} (o : okF n M) (s : okS n M) (r x : Int32) : okS n (wrtM r x M) := by
  have h24 := o.1
  have en : (M.1 12 2).toNatClampNeg = n := by rw [o.2.1, nI_clamp (by omega)]
  unfold wrtM
  rw [en]
  have j1 : ∀ t k, ¬ (t = 12 ∧ 34 ≤ k ∧ k ≤ 36) → t ≠ 92 → (w8Ss r x n (jdSs r x (M.1 12 11).toNatClampNeg M)).1 t k = M.1 t k := fun t k h1 h2 => (w8Ss_o r x _ h2 k n).trans (jdSs_o r x M h1 _)
  exact okS.w37 (o.to ((jdSs_f r x M _).tr (w8Ss_f r x _ _))) (s.mk' (j1 _ _ (by omega) (by omega)) (fun k => j1 _ _ (by omega) (by omega)) (fun k => j1 _ _ (by omega) (by omega)) (fun f hf => ⟨fun q => j1 _ _ (by omega) (by omega), fun q => Or.inl (j1 _ _ (by omega) (by omega)), fun q => Or.inl (j1 _ _ (by omega) (by omega))⟩)) r x n (Nat.le_refl _)
theorem pwFs_v (M : mM) {f : Nat} : ∀ j, f < j → (pwFs j M).1 63 f = M.1 50 f ∧ (pwFs j M).1 64 f = M.1 50 f
  | 0, h => absurd h (Nat.not_lt_zero f)
  | j + 1, h => by
    show (pwF (pwFs j M) j).1 63 f = _ ∧ (pwF (pwFs j M) j).1 64 f = _
    have e50 : (pwFs j M).1 50 f = M.1 50 f := pwFs_o M (by omega) f j
    rw [pwF_1, pwF_1]
    simp (config := { decide := true }) only [false_and, true_and, if_false]
    by_cases z : f = j
    · subst z
      rw [if_pos rfl, if_pos rfl]
      exact ⟨e50, e50⟩
    · rw [if_neg z, if_neg z]
      exact pwFs_v M j (by omega)
theorem okS.pow {n : Nat} {M : mM} (o : okF n M) : okS n (powM M) := by
  have h24 := o.1
  have en : (M.1 12 2).toNatClampNeg = n := by rw [o.2.1, nI_clamp (by omega)]
  have f2 : Fm M (pwSh 8 (pwSc M)) := (pwSc_f M).tr (pwSh_f _ 8)
  have fa := powM_f M
  have k49 : ∀ g, (powM M).1 49 g = M.1 49 g := fun g => fa.1 49 g (by omega) (by omega) (by omega)
  have k50 : ∀ g, (pwSh 8 (pwSc M)).1 50 g = M.1 50 g := fun g => f2.1 50 g (by omega) (by omega) (by omega)
  refine ⟨⟨0, by omega, ?_, fun k hk => absurd hk (Nat.not_lt_zero k)⟩, fun f hf => ?_⟩
  · show (pwFs _ _).1 12 30 = _
    rw [pwFs_o _ (by omega), pwSh_o _ (by omega), pwSc_1]
    simp
    rfl
  · have z := pwFs_v (pwSh 8 (pwSc M)) n hf
    rw [k50] at z
    rw [k49]
    have e63 : (powM M).1 63 f = M.1 50 f := by
      show (pwFs _ _).1 63 f = _
      rw [en]
      exact z.1
    have e64 : (powM M).1 64 f = M.1 50 f := by
      show (pwFs _ _).1 64 f = _
      rw [en]
      exact z.2
    rw [e63, e64]
    have c := (o.2.2 f hf).2.2.2.1
    exact ⟨fun q => c.2 q, fun _ => c.1, fun _ => c.1⟩
