/-! ===== the law's loop over what stays true; toss and at ===== -/
theorem rg_0 (t k : Nat) (h1 : ¬ (t = 1 ∧ k = 3)) (h2 : ¬ (t = 12 ∧ k = 1)) : (rg t k).1 ≤ 0 ∧ 0 ≤ (rg t k).2 := by
  unfold rg
  split <;> (try split) <;> first | decide | (exfalso; first | exact h1 ⟨rfl, rfl⟩ | exact h2 ⟨rfl, rfl⟩)
theorem IR_h0 : IR h0 := by
  intro t i k
  by_cases q1 : t = 1
  · subst q1
    by_cases q2 : k = 3
    · subst q2
      exact (by decide : (1 : Int) ≤ (4 : Int32).toInt ∧ (4 : Int32).toInt ≤ 8)
    · by_cases q3 : k = 7
      · subst q3
        exact (by decide : (-2147483648 : Int) ≤ (1 : Int32).toInt ∧ (1 : Int32).toInt ≤ 2147483647)
      · have e : h0.1 1 i k = 0 := by
          show (match k with | 3 => (4 : Int32) | 7 => 1 | _ => 0) = 0
          split
          · exact absurd rfl q2
          · exact absurd rfl q3
          · rfl
        rw [e]
        exact rg_0 1 k (fun z => q2 z.2) (fun z => by omega)
  · by_cases q2 : t = 12
    · subst q2
      by_cases q3 : k = 1
      · subst q3
        exact (by decide : (1 : Int) ≤ (4 : Int32).toInt ∧ (4 : Int32).toInt ≤ 8)
      · by_cases q4 : k = 22
        · subst q4
          exact (by decide : (-2147483648 : Int) ≤ (1 : Int32).toInt ∧ (1 : Int32).toInt ≤ 2147483647)
        · by_cases q5 : k = 57 ∨ k = 58
          · rcases q5 with rfl | rfl <;> exact (by decide : (-2147483648 : Int) ≤ (-1 : Int32).toInt ∧ (-1 : Int32).toInt ≤ 2147483647)
          · have e : h0.1 12 i k = 0 := by
              show (match k with | 1 => (4 : Int32) | 22 => 1 | 57 => (-1) | 58 => (-1) | _ => 0) = 0
              split
              · exact absurd rfl q3
              · exact absurd rfl q4
              · exact absurd (Or.inl rfl) q5
              · exact absurd (Or.inr rfl) q5
              · rfl
            rw [e]
            exact rg_0 12 k (fun z => by omega) (fun z => q3 z.2)
    · by_cases q3 : t = 8
      · subst q3
        by_cases q4 : k = 14
        · subst q4
          exact (by decide : (-2147483648 : Int) ≤ (-1 : Int32).toInt ∧ (-1 : Int32).toInt ≤ 2147483647)
        · have e : h0.1 8 i k = 0 := by
            show (match k with | 14 => (-1 : Int32) | _ => 0) = 0
            split
            · exact absurd rfl q4
            · rfl
          rw [e]
          exact rg_0 8 k (fun z => by omega) (fun z => by omega)
      · by_cases q4 : t = 10
        · subst q4
          by_cases q5 : k = 7
          · subst q5
            exact (by decide : (-2147483648 : Int) ≤ (-2 : Int32).toInt ∧ (-2 : Int32).toInt ≤ 2147483647)
          · have e : h0.1 10 i k = 0 := by
              show (match k with | 7 => (-2 : Int32) | _ => 0) = 0
              split
              · exact absurd rfl q5
              · rfl
            rw [e]
            exact rg_0 10 k (fun z => by omega) (fun z => by omega)
        · have e : h0.1 t i k = 0 := by
            show (match t with | 1 => (match k with | 3 => (4 : Int32) | 7 => 1 | _ => 0) | 8 => (match k with | 14 => (-1) | _ => 0) | 10 => (match k with | 7 => (-2) | _ => 0) | 12 => (match k with | 1 => 4 | 22 => 1 | 57 => (-1) | 58 => (-1) | _ => 0) | _ => 0) = 0
            split
            · exact absurd rfl q1
            · exact absurd rfl q3
            · exact absurd rfl q4
            · exact absurd rfl q2
            · rfl
          rw [e]
          exact rg_0 t k (fun z => q1 z.1) (fun z => q2 z.1)
theorem CCs_h0 : CCs h0 := by
  refine ⟨fun a k => ?_, fun c i => ?_, fun k => ?_, fun i => ?_⟩
  · exact Or.inr (by show (0 : Int) ≤ (0 : Int32).toInt; decide)
  · show okQ (0 : Int32).toInt (0 : Int32).toInt
    unfold okQ
    have e : (0 : Int32).toInt = 0 := by decide
    omega
  · show ((0 : Int32).toInt = 3 ∧ (0 : Int32).toInt ≤ 9) ∨ ((0 : Int32).toInt ≠ 3 ∧ 0 ≤ (0 : Int32).toInt)
    have e : (0 : Int32).toInt = 0 := by decide
    omega
  · show okP (0 : Int32).toInt (0 : Int32).toInt (0 : Int32).toInt
    unfold okP
    have e : (0 : Int32).toInt = 0 := by decide
    omega
/-- an anchor of its own -/
theorem SI.an {h : mH} (fp : Nat → Bool) (i : IR h) (c : CCs h) : SI fp h 0 h :=
  ⟨i, c, fun _ _ _ _ => ⟨rfl, rfl⟩, fun _ => ⟨0, Nat.le_refl _, by rw [show Int64.ofNat 0 = 0 from rfl, Int64.add_zero]⟩, fun _ => ⟨0, Nat.le_refl _, by rw [show nI 0 = 0 from rfl, Int32.add_zero]⟩⟩
def W_X11_toss : List Nat := [710]
theorem z_X11_toss {fp : Nat → Bool} {b : mH} {m : Nat} (x1 : Int32) (h : mH) (S : SI fp b m h) (ff : ∀ c ∈ W_X11_toss, fp c = false) : ∃ r, f_X11_toss x1 h = some r ∧ SI fp b m r.2 := by
  have ffh : ∀ c ∈ W_X11_hostRefuses, fp c = false := ff
  unfold f_X11_toss
  obtain ⟨⟨r1v, r1h⟩, e_r1, (hh_r1 : r1h = h), p_r1_0, p_r1_1⟩ := z_X11_isTape x1 h S
  subst hh_r1
  dsimp only at p_r1_0 p_r1_1
  rw [e_r1, Option.bind_some]
  dsimp only
  by_cases q1 : r1v = 0
  · rw [if_pos q1]
    exact ⟨_, rfl, S⟩
  · rw [if_neg q1]
    have t6 : (0 : Int32).toInt = 0 := by decide
    have f9 : (r1v : Int32).toInt ≠ (0 : Int32).toInt := ti_ne q1
    have q2 : mIn x1 6 = true := mIn_bd (by omega) (by omega)
    rw [if_pos q2]
    by_cases q3 : r1h.1 9 x1.toNatClampNeg 0 = 5
    · rw [if_pos q3]
      unfold f_thr
      by_cases q4 : (lg_cmp (r1h.2 8 (x1.toNatClampNeg + 2) 13) 0) ≤ 0
      · rw [if_pos q4, Option.bind_some]
        dsimp only
        obtain ⟨r2, e_r2, S_r2⟩ := z_X11_hostRefuses (-15) r1h S ffh
        rw [cond_false, e_r2, Option.bind_some]
        exact ⟨_, rfl, S_r2⟩
      · rw [if_neg q4, Option.bind_some]
        dsimp only
        obtain ⟨⟨r2v, r2h⟩, e_r2, (hh_r2 : r2h = r1h)⟩ := z_X11_nearestInt (r1h.2 8 (x1.toNatClampNeg + 2) 13) r1h S
        subst hh_r2
        rw [cond_true, e_r2, Option.bind_some]
        exact ⟨_, rfl, S⟩
    · rw [if_neg q3]
      by_cases q4 : r1h.1 9 x1.toNatClampNeg 0 = 0
      · rw [if_pos q4]
        obtain ⟨r2, e_r2, S_r2⟩ := z_X11_hostRefuses (-11) r1h S ffh
        rw [e_r2, Option.bind_some]
        exact ⟨_, rfl, S_r2⟩
      · rw [if_neg q4]
        obtain ⟨r2, e_r2, S_r2⟩ := z_X11_hostRefuses (-12) r1h S ffh
        rw [e_r2, Option.bind_some]
        exact ⟨_, rfl, S_r2⟩
def W_L_at : List Nat := [6272]
theorem z_L_at {fp : Nat → Bool} {b : mH} {m : Nat} (x1 x2 : Int32) (h : mH) (S : SI fp b m h) (ff : ∀ c ∈ W_L_at, fp c = false) : ∃ r, f_L_at x1 x2 h = some r ∧ SI fp b m r.2 := by
  unfold f_L_at f_at
  obtain ⟨⟨r1v, r1h⟩, e_r1, (hh_r1 : r1h = h), p_r1_0, p_r1_1⟩ := z_X11_isTape x1 h S
  subst hh_r1
  dsimp only at p_r1_0 p_r1_1
  rw [e_r1, Option.bind_some]
  dsimp only
  by_cases q1 : r1v = 0
  · rw [if_pos q1, Option.bind_some]
    exact ⟨_, rfl, S⟩
  · rw [if_neg q1]
    have t6 : (0 : Int32).toInt = 0 := by decide
    have f9 : (r1v : Int32).toInt ≠ (0 : Int32).toInt := ti_ne q1
    have q2 : mIn x1 6 = true := mIn_bd (by omega) (by omega)
    rw [if_pos q2]
    obtain ⟨⟨r2v, r2h⟩, e_r2, (hh_r2 : r2h = r1h), p2⟩ := z_X9_holdsRow x1.toNatClampNeg r1h S
    subst hh_r2
    rw [e_r2, Option.bind_some]
    dsimp only
    by_cases q3 : r2v = 0
    · rw [if_pos q3, Option.bind_some]
      exact ⟨_, rfl, S⟩
    · rw [if_neg q3]
      obtain ⟨⟨r3v, r3h⟩, e_r3, (hh_r3 : r3h = r2h), p3, p4⟩ := z_X9_hasPlace x1.toNatClampNeg x2 r2h S
      subst hh_r3
      dsimp only at p3 p4
      rw [e_r3, Option.bind_some]
      dsimp only
      by_cases q4 : r3v = 0
      · rw [if_pos q4, Option.bind_some]
        exact ⟨_, rfl, S⟩
      · rw [if_neg q4]
        have f10 : (r3v : Int32).toInt ≠ (0 : Int32).toInt := ti_ne q4
        have q5 : mIn x2 64 = true := mIn_bd (by omega) (by omega)
        rw [if_pos q5, Option.bind_some]
        exact ⟨_, rfl, S.j rfl (ff 6272 (by decide))⟩
/-- a call of the class, then of the model: compared, or not -/
theorem law_al {α : Type} {J : mH → Prop} {c : Option (Int32 × mH)} {m : mH → Option (Int32 × mH)} {k : mH → Option α} (hc : ∃ r r', c = some r ∧ m r.2 = some r' ∧ r.1 = r'.1 ∧ J r'.2) (hk : ∀ g, J g → ∃ h', k g = some h') : ∃ h', (c.bind fun r => (m r.2).bind fun r' => if r.1 = r'.1 then k r'.2 else none) = some h' := by
  obtain ⟨r, r', e1, e2, e3, j⟩ := hc
  obtain ⟨h', e4⟩ := hk _ j
  refine ⟨h', ?_⟩
  rw [e1, Option.bind_some, e2, Option.bind_some, if_pos e3]
  exact e4
theorem law_no {α β γ : Type} {J : mH → Prop} {c : Option (β × mH)} {m : mH → Option (γ × mH)} {k : mH → Option α} (hc : ∃ r r', c = some r ∧ m r.2 = some r' ∧ J r'.2) (hk : ∀ g, J g → ∃ h', k g = some h') : ∃ h', (c.bind fun r => (m r.2).bind fun r' => k r'.2) = some h' := by
  obtain ⟨r, r', e1, e2, j⟩ := hc
  obtain ⟨h', e4⟩ := hk _ j
  refine ⟨h', ?_⟩
  rw [e1, Option.bind_some, e2, Option.bind_some]
  exact e4
theorem no_al {J : mH → Prop} {c : Option (Int32 × mH)} {m : mH → Option (Int32 × mH)} (hc : ∃ r r', c = some r ∧ m r.2 = some r' ∧ r.1 = r'.1 ∧ J r'.2) : ∃ r r', c = some r ∧ m r.2 = some r' ∧ J r'.2 := by
  obtain ⟨r, r', e1, e2, -, j⟩ := hc
  exact ⟨r, r', e1, e2, j⟩
theorem n_l {L : Nat} (hL : L ≤ 3072) : (Int32.ofNat L).toInt = L := nI_toInt (n := L) (by omega)
theorem six_l {L : Nat} (hL : L ≤ 3072) : (Int32.ofNat L - 6).toInt = (L : Int) - 6 := by
  have e := n_l hL
  have e6 : (6 : Int32).toInt = 6 := by decide
  rw [ti_sub (by omega) (by omega), e, e6]
/-- the law's loop: J at its beginning, kept by each call -/
theorem law_loop {J : mH → Prop} {sc : Nat → Int32} {L : Nat} (hL : L ≤ 3072)
    (step : ∀ (kb : Int32 → mH → Option mH) (v : Int32) (h : mH), J h → 0 ≤ v.toInt → v.toInt + 6 ≤ L → (∀ g, J g → ∃ h', kb (v + 6) g = some h') → ∃ h', f_L_23 sc L kb v h = some h') :
    ∀ (d : Nat) (v : Int32) (h : mH), J h → 0 ≤ v.toInt → v.toInt ≤ 3072 → 3072 - v.toInt < 6 * d → ∃ h', f_law sc L d v h = some h' := by
  intro d
  induction d with
  | zero => intro v h _ h1 h2 h3; omega
  | succ d ih =>
    intro v h j h1 h2 h3
    show ∃ h', f_L_23 sc L (f_law sc L d) v h = some h'
    have e6 := six_l hL
    by_cases q : v.toInt + 6 ≤ L
    · refine step _ v h j h1 q (fun g jg => ?_)
      have t6 : (6 : Int32).toInt = 6 := by decide
      have a : (v + 6).toInt = v.toInt + (6 : Int32).toInt := ti_add (by omega) (by omega)
      exact ih (v + 6) g jg (by omega) (by omega) (by omega)
    · refine ⟨h, ?_⟩
      unfold f_L_23
      refine if_neg (fun z => ?_)
      have := Int32.le_iff_toInt_le.mp z
      omega
theorem m_at {L : Nat} {v c : Int32} {k : Nat} (hL : L ≤ 3072) (h1 : 0 ≤ v.toInt) (h2 : v.toInt + 6 ≤ L) (hc : c.toInt = k) (hk : k < 6) : mIn (v + c) L = true := by
  have a : (v + c).toInt = v.toInt + c.toInt := ti_add (by omega) (by omega)
  exact mIn_bd (by omega) (by omega)
