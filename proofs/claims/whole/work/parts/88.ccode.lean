theorem inj24 {f g : Nat} (hf : f < 24) (hg : g < 24) (e : nI f = nI g) : f = g := by
  have : (nI f).toNatClampNeg = (nI g).toNatClampNeg := by rw [e]
  rw [nI_clamp (by omega), nI_clamp (by omega)] at this
  exact this
theorem sf_eq {B : mM} {q f : Nat} (hf : f < 24) (e : B.1 60 q = nI f) : sfM B q = f := by unfold sfM; rw [e, nI_clamp (by omega)]
/-- the class asks of a set what the model asks of each step -/
theorem bound_eq {h : mH} {B : mM} {n p i f : Nat} {y : Int32} (h24 : n ≤ 24) (W : RLw h n B) (hf : f < n) (ef : B.1 60 i = nI f) (hy : ∀ f, f < 24 → bt y f = anN (fun d => decide (B.1 60 (p + d) = nI f)) (i - p)) : (!bt y f && !anN (bnP B (nI f) y) (B.1 12 11).toNatClampNeg) = alN (joP B p i) (i - p) := by
  obtain ⟨w, w1, w2, w3, w4⟩ := W
  have ew : (B.1 12 11).toNatClampNeg = w := by rw [w2, nI_clamp (by omega)]
  rw [ew]
  apply Bool.eq_iff_iff.mpr
  rw [Bool.and_eq_true, Bool.not_eq_true', Bool.not_eq_true', alN_iff]
  constructor
  · rintro ⟨a1, a2⟩ d hd
    unfold joP
    rw [Bool.and_eq_true, Bool.not_eq_true', Bool.not_eq_true', ef]
    constructor
    · apply decide_eq_false
      intro z
      rw [hy f (by omega), anN_t hd (decide_eq_true z)] at a1
      cases a1
    · unfold bdM
      rw [ew]
      cases hq : anN (bdP B (B.1 60 (p + d)) (nI f)) w
      · rfl
      · obtain ⟨l, l1, l2⟩ := anN_iff.mp hq
        obtain ⟨-, ⟨u, u1, u2⟩, ⟨v, v1, v2⟩⟩ := w4 l l1
        have : anN (bnP B (nI f) y) w = true := by
          refine anN_t l1 ?_
          unfold bdP at l2
          unfold bnP
          rw [Bool.or_eq_true, Bool.and_eq_true, Bool.and_eq_true] at l2 ⊢
          rcases l2 with ⟨z1, z2⟩ | ⟨z1, z2⟩
          · have z1 := of_decide_eq_true z1
            refine Or.inr ⟨z2, ?_⟩
            rw [u2, nI_clamp (by omega), hy u (by omega)]
            exact anN_t hd (decide_eq_true (by rw [← z1, u2]))
          · have z2 := of_decide_eq_true z2
            refine Or.inl ⟨z1, ?_⟩
            rw [v2, nI_clamp (by omega), hy v (by omega)]
            exact anN_t hd (decide_eq_true (by rw [← z2, v2]))
        rw [this] at a2
        cases a2
  · intro hal
    have key : ∀ d, d < i - p → ¬ B.1 60 (p + d) = nI f ∧ anN (bdP B (B.1 60 (p + d)) (nI f)) w = false := fun d hd => by
      have := hal d hd
      unfold joP at this
      rw [Bool.and_eq_true, Bool.not_eq_true', Bool.not_eq_true', ef] at this
      refine ⟨of_decide_eq_false this.1, ?_⟩
      have z := this.2
      unfold bdM at z
      rw [ew] at z
      exact z
    constructor
    · cases hq : bt y f
      · rfl
      · rw [hy f (by omega)] at hq
        obtain ⟨d, d1, d2⟩ := anN_iff.mp hq
        exact absurd (of_decide_eq_true d2) (key d d1).1
    · cases hq : anN (bnP B (nI f) y) w
      · rfl
      · obtain ⟨l, l1, l2⟩ := anN_iff.mp hq
        obtain ⟨-, ⟨u, u1, u2⟩, ⟨v, v1, v2⟩⟩ := w4 l l1
        unfold bnP at l2
        rw [Bool.or_eq_true, Bool.and_eq_true, Bool.and_eq_true] at l2
        rcases l2 with ⟨z1, z2⟩ | ⟨z1, z2⟩
        · rw [v2, nI_clamp (by omega), hy v (by omega)] at z2
          obtain ⟨d, d1, d2⟩ := anN_iff.mp z2
          have d2 := of_decide_eq_true d2
          have : anN (bdP B (B.1 60 (p + d)) (nI f)) w = true := by
            refine anN_t l1 ?_
            unfold bdP
            rw [z1, d2, decide_eq_true v2]
            simp
          rw [(key d d1).2] at this
          cases this
        · rw [u2, nI_clamp (by omega), hy u (by omega)] at z2
          obtain ⟨d, d1, d2⟩ := anN_iff.mp z2
          have d2 := of_decide_eq_true d2
          have : anN (bdP B (B.1 60 (p + d)) (nI f)) w = true := by
            refine anN_t l1 ?_
            unfold bdP
            rw [z1, d2, decide_eq_true u2]
            simp
          rw [(key d d1).2] at this
          cases this
theorem c_joins {h : mH} {a n p i f : Nat} {B : mM} (F : RF h n B) (W : RLw h n B) (G : GS h a B n p i) (k0 : B.1 59 i = 0) (hf : f < n) (ef : B.1 60 i = nI f) : f_X3_joinsGroup a (nI f) h = some (b2i (decide (p < i) && joM B p i), h) := by
  have h24 := F.1
  unfold f_X3_joinsGroup joM
  rcases G with ⟨g1, g2⟩ | ⟨g1, g2, g3, g4, g5, g6, g7⟩
  · rw [if_pos g2, decide_eq_false (by omega)]
    rfl
  · rw [if_neg g2, if_pos (mIn_nI (show f < 24 by omega) (by omega)), nI_clamp (by omega), (F.2.2.2 f hf).1.1, g4, e_isIn _ (show f < 32 by omega), Option.bind_some, decide_eq_true g1, decide_eq_true k0, sf_eq (by omega) ef, Bool.true_and, Bool.true_and, ← bound_eq h24 W hf ef g3]
    dsimp only
    rw [c_isBound h24 W, Option.bind_some]
    dsimp only
    by_cases q1 : B.1 46 f = B.1 46 (sfM B p)
    · rw [if_pos q1, decide_eq_true q1, Bool.true_and]
      cases bt (h.1 3 a 2) f
      · rw [if_pos (show b2i false = 0 from rfl)]
        cases anN (bnP B (nI f) (h.1 3 a 2)) (B.1 12 11).toNatClampNeg <;> rfl
      · rw [if_neg (by decide)]
        rfl
    · rw [if_neg q1, decide_eq_false q1]
      rfl
theorem u3_6 (h : mH) (a s : Nat) (x : Int32) (f : Nat) : (uI h 3 a s x).1 6 f = h.1 6 f := uI_ne (fun z => by omega)
theorem set_ne (x : Int32) {f : Nat} (hf : f < 24) : ¬ x ||| (1 <<< (nI f &&& 31)) = 0 := fun z => by
  have e := bt_add x (show f < 32 by omega) (show f < 32 by omega)
  rw [z, b_0, decide_eq_true rfl, Bool.or_true] at e
  cases e
theorem dec_nI {f f' : Nat} (hf : f < 24) (hf' : f' < 24) : decide (nI f = nI f') = decide (f = f') := by
  by_cases z : f = f'
  · rw [decide_eq_true z, decide_eq_true (by rw [z])]
  · rw [decide_eq_false z, decide_eq_false (fun y => z (inj24 hf hf' y))]
theorem anN_1 (p : Nat → Bool) (n : Nat) : anN p (n + 1) = (anN p n || p n) := rfl
theorem orI_1 (g : Nat → Int32) (n : Nat) : orI g (n + 1) = orI g n ||| g n := rfl
theorem c_join {h : mH} {a n p i f : Nat} {B : mM} {l : List (Nat → Int32)} (F : RF h n B) (C : CC h a l) (G : GS h a B n p i) (hf : f < n) (ef : B.1 60 i = nI f) (hr : p < i → B.1 46 f = B.1 46 (sfM B p)) : ∃ h', f_X3_join a (nI f) (B.1 61 i) h = some h' ∧ CC h' a l ∧ GS h' a B n p (i + 1) ∧ Fz a h h' := by
  have h24 := F.1
  have sfi : sfM B i = f := sf_eq (by omega) ef
  unfold f_X3_join f_X3_join_j34
  simp only [mLet]
  rw [if_pos (mIn_nI (show f < 24 by omega) (by omega)), nI_clamp (by omega)]
  rcases G with ⟨g1, g2⟩ | ⟨g1, g2, g3, g4, g5, g6, g7⟩
  · subst g1
    rw [if_pos g2]
    refine ⟨_, rfl, ?_, Or.inr ⟨by omega, ?_, fun f' hf' => ?_, ?_, ?_, ?_, fun q q1 q2 => ?_⟩, ?_⟩
    · exact cc_u (cc_u (cc_u (cc_u (cc_u (cc_u C (by omega) _) (by omega) _) (by omega) _) (by omega) _) (by omega) _) (by omega) _
    · simp (config := { decide := true }) only [uI3, if_true, if_false]
      exact set_ne _ (by omega)
    · simp (config := { decide := true }) only [uI3, if_true, if_false]
      rw [bt_add _ (show f < 32 by omega) (show f' < 32 by omega), g2, b_0, show p + 1 - p = 0 + 1 by omega, anN_1, Nat.add_zero, ef, dec_nI (by omega) hf']
      rfl
    · simp (config := { decide := true }) only [uI3, if_true, if_false]
      rw [(F.2.2.2 f hf).1.1, sfi]
    · simp (config := { decide := true }) only [uI3, u3_6, if_true, if_false]
      rw [(F.2.2.2 f hf).2.2.1, show p + 1 - p = 0 + 1 by omega, orI_1]
      unfold gmP
      rw [Nat.add_zero, sfi]
      rfl
    · simp (config := { decide := true }) only [uI3, u3_6, if_true, if_false]
      rw [(F.2.2.2 f hf).1.2.1, show p + 1 - p = 0 + 1 by omega, orI_1]
      unfold ptP
      rw [Nat.add_zero, sfi]
      rfl
    · have : q = p := by omega
      subst this
      exact ⟨f, hf, ef, by rw [sfi]⟩
    · exact (((((Fz.u a _ _ _).tr (Fz.u a _ _ _)).tr (Fz.u a _ _ _)).tr (Fz.u a _ _ _)).tr (Fz.u a _ _ _)).tr (Fz.u a _ _ _)
  · rw [if_neg g2]
    refine ⟨_, rfl, ?_, Or.inr ⟨by omega, ?_, fun f' hf' => ?_, ?_, ?_, ?_, fun q q1 q2 => ?_⟩, ?_⟩
    · exact cc_u (cc_u (cc_u C (by omega) _) (by omega) _) (by omega) _
    · simp (config := { decide := true }) only [uI3, if_true, if_false]
      exact set_ne _ (by omega)
    · simp (config := { decide := true }) only [uI3, if_true, if_false]
      rw [bt_add _ (show f < 32 by omega) (show f' < 32 by omega), g3 f' hf', show i + 1 - p = (i - p) + 1 by omega, anN_1, show p + (i - p) = i by omega, ef, dec_nI (by omega) hf']
    · simp (config := { decide := true }) only [uI3, if_true, if_false]
      exact g4
    · simp (config := { decide := true }) only [uI3, u3_6, if_true, if_false]
      rw [(F.2.2.2 f hf).2.2.1, show i + 1 - p = (i - p) + 1 by omega, orI_1, g5]
      unfold gmP
      rw [show p + (i - p) = i by omega, sfi]
    · simp (config := { decide := true }) only [uI3, u3_6, if_true, if_false]
      rw [(F.2.2.2 f hf).1.2.1, show i + 1 - p = (i - p) + 1 by omega, orI_1, g6]
      unfold ptP
      rw [show p + (i - p) = i by omega, sfi]
    · by_cases z : q = i
      · subst z
        exact ⟨f, hf, ef, hr g1⟩
      · exact g7 q q1 (by omega)
    · exact ((Fz.u a _ _ _).tr (Fz.u a _ _ _)).tr (Fz.u a _ _ _)
