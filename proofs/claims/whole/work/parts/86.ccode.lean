/-! ===== CODE, the class's side: the bits that a group keeps ===== -/
/-- fields of a register share no bit -/
def djM (n : Nat) (B : mM) : Prop := ∀ f g, f < n → g < n → f ≠ g → B.1 46 f = B.1 46 g → mskM B f &&& mskM B g = 0
theorem orI_bt (g : Nat → Int32) (b : Nat) : ∀ n, bt (orI g n) b = anN (fun j => bt (g j) b) n
  | 0 => b_0 b
  | n + 1 => by
    show bt (orI g n ||| g n) b = (anN (fun j => bt (g j) b) n || bt (g n) b)
    rw [b_or, orI_bt g b n]
theorem kpB_bt (M : mM) (r b : Nat) : ∀ n, bt (kpB M r n) b = anN (fun f => (inR M r f && kpM M f) && bt (mskM M f) b) n
  | 0 => b_0 b
  | n + 1 => by
    rw [kpB_succ]
    show _ = (anN (fun f => (inR M r f && kpM M f) && bt (mskM M f) b) n || ((inR M r n && kpM M n) && bt (mskM M n) b))
    rw [← kpB_bt M r b n]
    cases (inR M r n && kpM M n)
    · rw [if_neg (by decide), Bool.false_and, Bool.or_false]
    · rw [if_pos rfl, b_or, Bool.true_and]
def gmP (B : mM) (p d : Nat) : Int32 := mskM B (sfM B (p + d))
theorem not_bt (x : Int32) {b : Nat} (hb : b < 32) : bt (x ^^^ (-1)) b = !bt x b := by rw [b_xor, b_m1 b hb, Bool.xor_true]
theorem keep_eq {B : mM} {n p q r : Nat} (h24 : n ≤ 24) (en : (B.1 12 2).toNatClampNeg = n) (dj : djM n B) (hs : ∀ i, p ≤ i → i < q → ∃ f, f < n ∧ B.1 60 i = nI f ∧ B.1 46 f = nI r) : kpB B r n &&& (orI (gmP B p) (q - p) ^^^ (-1)) = orI (keP B (nI r) (shM B (nI r)) p q) n := by
  apply b_ext
  intro b hb
  rw [b_and, not_bt _ hb, kpB_bt, orI_bt, orI_bt]
  have sf : ∀ i f, f < 24 → B.1 60 i = nI f → sfM B i = f := fun i f hf e => by unfold sfM; rw [e, nI_clamp (by omega)]
  have inj : ∀ f g, f < 24 → g < 24 → nI f = nI g → f = g := fun f g hf hg e => by
    have : (nI f).toNatClampNeg = (nI g).toNatClampNeg := by rw [e]
    rw [nI_clamp (by omega), nI_clamp (by omega)] at this
    exact this
  apply Bool.eq_iff_iff.mpr
  rw [Bool.and_eq_true, Bool.not_eq_true', anN_iff, anN_iff]
  constructor
  · rintro ⟨⟨f, f1, f2⟩, ng⟩
    rw [Bool.and_eq_true, Bool.and_eq_true] at f2
    obtain ⟨⟨f3, f4⟩, f5⟩ := f2
    have f3 : B.1 46 f = nI r := of_decide_eq_true f3
    refine ⟨f, f1, ?_⟩
    have ck : kpP B (nI r) (shM B (nI r)) p q f = true := by
      unfold kpP
      rw [Bool.and_eq_true, Bool.and_eq_true]
      refine ⟨⟨decide_eq_true f3, ?_⟩, ?_⟩
      · unfold kpM at f4
        rw [Bool.or_eq_true] at f4 ⊢
        rcases f4 with z | z
        · exact Or.inl z
        · refine Or.inr ?_
          rw [z, Bool.true_and]
          unfold shM
          rw [en]
          refine anN_t f1 ?_
          unfold shP
          rw [decide_eq_true f3, z, Bool.or_true]
          rfl
      · rw [alN_iff]
        intro d hd
        unfold gnP
        rw [Bool.not_eq_true']
        apply decide_eq_false
        intro z
        have : anN (fun j => bt (gmP B p j) b) (q - p) = true := by
          refine anN_t hd ?_
          unfold gmP
          rw [sf (p + d) f (by omega) z]
          exact f5
        rw [this] at ng
        cases ng
    unfold keP
    rw [if_pos ck]
    exact f5
  · rintro ⟨f, f1, f2⟩
    unfold keP at f2
    by_cases ck : kpP B (nI r) (shM B (nI r)) p q f = true
    · rw [if_pos ck] at f2
      unfold kpP at ck
      rw [Bool.and_eq_true, Bool.and_eq_true] at ck
      obtain ⟨⟨c1, c2⟩, c3⟩ := ck
      have f3 : B.1 46 f = nI r := of_decide_eq_true c1
      refine ⟨⟨f, f1, ?_⟩, ?_⟩
      · rw [Bool.and_eq_true, Bool.and_eq_true]
        refine ⟨⟨c1, ?_⟩, f2⟩
        unfold kpM
        rw [Bool.or_eq_true] at c2 ⊢
        rcases c2 with z | z
        · exact Or.inl z
        · rw [Bool.and_eq_true] at z
          exact Or.inr z.1
      · cases ng : anN (fun j => bt (gmP B p j) b) (q - p)
        · rfl
        · obtain ⟨d, d1, d2⟩ := anN_iff.mp ng
          obtain ⟨g, g1, g2, g3⟩ := hs (p + d) (by omega) (by omega)
          unfold gmP at d2
          rw [sf (p + d) g (by omega) g2] at d2
          have hne : f ≠ g := fun z => by
            have := alN_iff.mp c3 d d1
            unfold gnP at this
            rw [Bool.not_eq_true'] at this
            exact (of_decide_eq_false this) (by rw [g2, z])
          have dd := dj f g f1 g1 hne (f3.trans g3.symm)
          have z : bt (mskM B f &&& mskM B g) b = true := by rw [b_and, f2, d2]; rfl
          rw [dd, b_0] at z
          cases z
    · rw [if_neg ck, b_0] at f2
      cases f2
