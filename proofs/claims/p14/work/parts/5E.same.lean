/-! ===== op and same ===== -/
theorem ix6 {x w : Int32} {i k : Nat} (hx : x.toInt = i) (hi : i < 100) (hw : w.toInt = k) (hk : k < 6) : ((x * 6) + w).toNatClampNeg = 6 * i + k ∧ ((6 * x) + w).toNatClampNeg = 6 * i + k := by
  have e6 : (6 : Int32).toInt = 6 := by decide
  have m : (x * 6).toInt = x.toInt * 6 := ti_mk e6 (by omega) (by omega)
  have m2 : (6 * x).toInt = 6 * x.toInt := ti_km e6 (by omega) (by omega)
  have a : (x * 6 + w).toInt = (x * 6).toInt + w.toInt := ti_add (by omega) (by omega)
  have a2 : (6 * x + w).toInt = (6 * x).toInt + w.toInt := ti_add (by omega) (by omega)
  exact ⟨cl_of (by omega), cl_of (by omega)⟩
def gOp (Q : Int) (x1 x3 : Int32) : Prop := (0 ≤ x1.toInt ∧ x1.toInt < Q) ∧ 0 ≤ x3.toInt ∧ x3.toInt < 6
theorem c_op {x1 x2 x3 : Int32} {h : mH} {r : Int32 × mH} (j : JC h) (e : f_X11_op x1 x2 x3 h = some r) : (¬ gOp (h.1 1 0 6).toInt x1 x3 ∧ r = (-1, h)) ∨ (gOp (h.1 1 0 6).toInt x1 x3 ∧ ¬ (0 ≤ x2.toInt ∧ x2.toInt < (cdM (xM h) x1.toNatClampNeg).length) ∧ r.1 = -1 ∧ RC r.2) ∨ (gOp (h.1 1 0 6).toInt x1 x3 ∧ (0 ≤ x2.toInt ∧ x2.toInt < (cdM (xM h) x1.toNatClampNeg).length) ∧ r.1 = ((cdM (xM h) x1.toNatClampNeg).getD x2.toNatClampNeg o0) x3.toNatClampNeg ∧ RC r.2) := by
  unfold gOp
  have t0 : (0 : Int32).toInt = 0 := by decide
  have t6' : (6 : Int32).toInt = 6 := by decide
  have e6 := j.1.2.2.1.2.2.2.1
  unfold f_X11_op at e
  rw [c_hasAct, Option.bind_some] at e
  dsimp only at e
  by_cases q1 : 0 ≤ x1.toInt ∧ x1.toInt < (h.1 1 0 6).toInt
  rotate_left
  · rw [if_pos (b2i_n q1)] at e
    exact Or.inl ⟨by omega, (Option.some.inj e).symm⟩
  rw [if_neg (b2i_p q1)] at e
  by_cases q2 : x3 < 0
  · rw [if_pos q2] at e
    have z2 := Int32.lt_iff_toInt_lt.mp q2
    exact Or.inl ⟨by omega, (Option.some.inj e).symm⟩
  rw [if_neg q2] at e
  have z2 := Int32.le_iff_toInt_le.mp (Int32.not_lt.mp q2)
  by_cases q3 : x3 < 6
  rotate_left
  · rw [if_neg q3] at e
    have z3 := Int32.le_iff_toInt_le.mp (Int32.not_lt.mp q3)
    exact Or.inl ⟨by omega, (Option.some.inj e).symm⟩
  rw [if_pos q3] at e
  have z3 := Int32.lt_iff_toInt_lt.mp q3
  obtain ⟨r5, e5, e⟩ := Option.bind_eq_some_iff.mp e
  obtain ⟨m1, m2, m3⟩ := mkc j e5
  have ha : x1.toNatClampNeg < nA h := by
    have y := cl_int q1.1
    have b : 0 ≤ (h.1 12 0 16).toInt ∧ (h.1 12 0 16).toInt ≤ 6 := j.1.1 12 0 16
    have y2 := cl_int b.1
    rw [e6] at q1
    unfold nA
    omega
  obtain ⟨c1, c2, c3⟩ := m2 _ ha
  have nl : (nI (cdM (xM h) x1.toNatClampNeg).length).toInt = (cdM (xM h) x1.toNatClampNeg).length := nI_toInt (by omega)
  split at e
  rotate_left
  · cases e
  by_cases q4 : x2 < 0
  · rw [if_pos q4] at e
    have z4 := Int32.lt_iff_toInt_lt.mp q4
    cases e
    exact Or.inr (Or.inl ⟨by omega, by omega, rfl, m1⟩)
  rw [if_neg q4] at e
  have z4 := Int32.le_iff_toInt_le.mp (Int32.not_lt.mp q4)
  by_cases q5 : x2 < r5.1 3 x1.toNatClampNeg 1
  rotate_left
  · rw [if_neg q5] at e
    have z5 := Int32.le_iff_toInt_le.mp (Int32.not_lt.mp q5)
    rw [c2, nl] at z5
    cases e
    exact Or.inr (Or.inl ⟨by omega, by omega, rfl, m1⟩)
  rw [if_pos q5] at e
  have z5 := Int32.lt_iff_toInt_lt.mp q5
  rw [c2, nl] at z5
  have y2 := cl_int (x := x2) (by omega)
  have y3 := cl_int (x := x3) (by omega)
  unfold f_X3_part at e
  rw [(ix6 y2 (by omega) y3 (by omega)).1] at e
  split at e
  · rw [Option.bind_some] at e
    cases e
    refine Or.inr (Or.inr ⟨by omega, by omega, ?_, m1⟩)
    exact c3 _ _ (by omega) (by omega)
  · cases e
theorem d_op {x1 x2 x3 : Int32} {h : mH} {r : Int32 × mH} (j : JC h) (e : f_X12_op x1 x2 x3 h = some r) : (¬ gOp (h.1 12 0 16).toInt x1 x3 ∧ r = (-1, h)) ∨ (gOp (h.1 12 0 16).toInt x1 x3 ∧ ¬ (0 ≤ x2.toInt ∧ x2.toInt < (cdM (xM h) x1.toNatClampNeg).length) ∧ r.1 = -1) ∨ (gOp (h.1 12 0 16).toInt x1 x3 ∧ (0 ≤ x2.toInt ∧ x2.toInt < (cdM (xM h) x1.toNatClampNeg).length) ∧ r.1 = ((cdM (xM h) x1.toNatClampNeg).getD x2.toNatClampNeg o0) x3.toNatClampNeg) := by
  unfold gOp
  have t0 : (0 : Int32).toInt = 0 := by decide
  have t5' : (5 : Int32).toInt = 5 := by decide
  unfold f_X12_op at e
  rw [d_isAct j.1.1, Option.bind_some] at e
  dsimp only at e
  by_cases q1 : 0 ≤ x1.toInt ∧ x1.toInt < (h.1 12 0 16).toInt
  rotate_left
  · rw [if_pos (b2i_n q1)] at e
    exact Or.inl ⟨by omega, (Option.some.inj e).symm⟩
  rw [if_neg (b2i_p q1), d_in, Option.bind_some] at e
  dsimp only at e
  by_cases q2 : (0 : Int32).toInt ≤ x3.toInt ∧ x3.toInt ≤ (5 : Int32).toInt
  rotate_left
  · rw [if_pos (b2i_n q2)] at e
    exact Or.inl ⟨by omega, (Option.some.inj e).symm⟩
  rw [if_neg (b2i_p q2)] at e
  have y := cl_int q1.1
  have b : 0 ≤ (h.1 12 0 16).toInt ∧ (h.1 12 0 16).toInt ≤ 6 := j.1.1 12 0 16
  have y2 := cl_int b.1
  obtain ⟨N, e3, O, -⟩ := dmk (lv := 0) (a := x1.toNatClampNeg) j (by omega) (by omega) (by unfold nA; omega)
  have ex := of_nI q1.1
  rw [← ex, show nI 0 = 0 from rfl] at e3
  rw [e3, Option.bind_some] at e
  have o1 : (wM h N).1 93 0 (0 : Int32).toNatClampNeg = nI (cdM (xM h) x1.toNatClampNeg).length := (wM_1 h N rfl _).trans O.1
  have hl := cd_len j (a := x1.toNatClampNeg) (by unfold nA; omega)
  have nl : (nI (cdM (xM h) x1.toNatClampNeg).length).toInt = (cdM (xM h) x1.toNatClampNeg).length := nI_toInt (by omega)
  rw [o1, d_place (by omega), Option.bind_some] at e
  dsimp only at e
  rw [nl] at e
  by_cases q4 : 0 ≤ x2.toInt ∧ x2.toInt < ((cdM (xM h) x1.toNatClampNeg).length : Int)
  rotate_left
  · rw [if_pos (b2i_n q4)] at e
    cases e
    exact Or.inr (Or.inl ⟨by omega, q4, rfl⟩)
  rw [if_neg (b2i_p q4)] at e
  have z2 := cl_int (x := x2) (by omega)
  have z3 := cl_int (x := x3) (by omega)
  rw [(ix6 z2 (by omega) z3 (by omega)).2] at e
  split at e
  · cases e
    refine Or.inr (Or.inr ⟨by omega, q4, ?_⟩)
    show (wM h N).1 94 0 _ = _
    rw [wM_1 h N rfl]
    have := O.2 x2.toNatClampNeg x3.toNatClampNeg (by omega) (by omega)
    rw [Nat.mul_zero, Nat.zero_add] at this
    exact this
  · cases e
theorem K_op (x1 x2 x3 : Int32) {h : mH} (j : JC h) : ∃ r r', f_X11_op x1 x2 x3 h = some r ∧ f_X12_op x1 x2 x3 r.2 = some r' ∧ r.1 = r'.1 ∧ JC r'.2 := by
  obtain ⟨I, C, R⟩ := j.1
  obtain ⟨r, e1, S1⟩ := z_X11_op x1 x2 x3 h (SI.an fpK I C) (by decide)
  have R1 : RR r.2 := RR.to S1.2.2.1 R
  have CD := c_op j e1
  have rc : RC r.2 := by
    rcases CD with ⟨-, e⟩ | ⟨-, -, -, q⟩ | ⟨-, -, -, q⟩
    · rw [e]; exact j.2
    · exact q
    · exact q
  have jc : JC r.2 := ⟨⟨S1.1, S1.2.1, R1⟩, rc⟩
  obtain ⟨r', e2, S2⟩ := z_X12_op x1 x2 x3 r.2 (SI.an fpK S1.1 S1.2.1) (by decide)
  obtain ⟨q', f2, S3⟩ := z_X12_op x1 x2 x3 r.2 (SI.an fpC S1.1 S1.2.1) (by decide)
  rw [e2] at f2
  cases f2
  refine ⟨r, r', e1, e2, ?_, ⟨S2.1, S2.2.1, RR.to S2.2.2.1 R1⟩, RC.to S3.2.2.1 rc⟩
  have D := d_op jc e2
  have n : r.2.1 12 0 16 = h.1 1 0 6 := (S1.2.2.1 12 0 16 rfl).1.trans R.1.2.2.2.1.symm
  have cd : cdM (xM r.2) x1.toNatClampNeg = cdM (xM h) x1.toNatClampNeg := cdM_to (fun t k q => (S1.2.2.1 t 0 k (rl_K q)).1) _
  rw [n, cd] at D
  rcases CD with ⟨g, e⟩ | ⟨g, p, v, -⟩ | ⟨g, p, v, -⟩ <;> rcases D with ⟨g', e'⟩ | ⟨g', p', v'⟩ | ⟨g', p', v'⟩ <;> first | exact absurd g' g | exact absurd g g' | exact absurd p' p | exact absurd p p' | exact v.trans v'.symm | skip
  rw [e', e]
/-! same -/
def lkN (l m : List (Nat → Int32)) : Prop := ∀ k, k < 6 * l.length → (l.getD (k / 6) o0) (k % 6) = (m.getD (k / 6) o0) (k % 6)
def lkP (l m : List (Nat → Int32)) : Prop := l.length = m.length ∧ lkN l m
theorem CC.at {h : mH} {j : Nat} {l : List (Nat → Int32)} (C : CC h j l) {k : Nat} (hk : k < 6 * l.length) : h.1 32 j k = (l.getD (k / 6) o0) (k % 6) := by
  have e : 6 * (k / 6) + k % 6 = k := Nat.div_add_mod k 6
  have := C.2.2 (k / 6) (k % 6) (by omega) (by omega)
  rw [e] at this
  exact this
theorem c_like {h : mH} {a b : Nat} {l m : List (Nat → Int32)} (A : CC h a l) (B : CC h b m) (e : l.length = m.length) : ∀ (n : Nat) (v : Int32) (k : Nat) (r : Int32 × mH), v.toInt = k → k ≤ 6 * l.length → (∀ i, i < k → (l.getD (i / 6) o0) (i % 6) = (m.getD (i / 6) o0) (i % 6)) → f_X3_isLike_15 (fun _ h6 => some (1, h6)) a b n v h = some r → (lkN l m ∧ r = (1, h)) ∨ (¬ lkN l m ∧ r = (0, h)) := by
  have e6 : (6 : Int32).toInt = 6 := by decide
  have t1 : (1 : Int32).toInt = 1 := by decide
  have nl : (nI l.length).toInt = l.length := nI_toInt (by have := A.1; omega)
  have hl := A.1
  have ms : (h.1 3 a 1 * 6).toInt = (6 * l.length : Nat) := by
    rw [A.2.1, ti_mk e6 (by omega) (by omega), nl]
    omega
  intro n
  induction n with
  | zero => intro v k r _ _ _ q; cases q
  | succ n ih =>
    intro v k r hv hk hi q
    unfold f_X3_isLike_15 at q
    split at q
    · rename_i z
      have z := Int32.lt_iff_toInt_lt.mp z
      rw [ms] at z
      have a1 : (v + 1).toInt = v.toInt + (1 : Int32).toInt := ti_add (by omega) (by omega)
      split at q
      rotate_left
      · cases q
      rw [cl_of hv, A.at (by omega), B.at (by omega)] at q
      split at q
      · rename_i y
        refine ih (v + 1) (k + 1) r (by omega) (by omega) (fun i hi2 => ?_) q
        by_cases w : i = k
        · rw [w]; exact y
        · exact hi i (by omega)
      · rename_i y
        exact Or.inr ⟨fun w => y (w k (by omega)), (Option.some.inj q).symm⟩
    · rename_i z
      have z := Int32.le_iff_toInt_le.mp (Int32.not_lt.mp z)
      rw [ms] at z
      exact Or.inl ⟨fun i hi2 => hi i (by omega), (Option.some.inj q).symm⟩
theorem c_isLike {h : mH} {a b : Nat} {l m : List (Nat → Int32)} {r : Int32 × mH} (A : CC h a l) (B : CC h b m) (q : f_X3_isLike a b h = some r) : (lkP l m ∧ r = (1, h)) ∨ (¬ lkP l m ∧ r = (0, h)) := by
  unfold f_X3_isLike at q
  have n1 : (nI l.length).toInt = l.length := nI_toInt (by have := A.1; omega)
  have n2 : (nI m.length).toInt = m.length := nI_toInt (by have := B.1; omega)
  rw [A.2.1, B.2.1] at q
  by_cases e : nI l.length = nI m.length
  · rw [if_pos e] at q
    have el : l.length = m.length := by
      have := congrArg Int32.toInt e
      omega
    rcases c_like A B el mFu 0 0 r (by decide) (Nat.zero_le _) (fun i hi => by omega) q with ⟨z, y⟩ | ⟨z, y⟩
    · exact Or.inl ⟨⟨el, z⟩, y⟩
    · exact Or.inr ⟨fun w => z w.2, y⟩
  · rw [if_neg e] at q
    exact Or.inr ⟨fun w => e (by rw [w.1]), (Option.some.inj q).symm⟩
def gSm (Q : Int) (x1 x2 : Int32) : Prop := (0 ≤ x1.toInt ∧ x1.toInt < Q) ∧ 0 ≤ x2.toInt ∧ x2.toInt < Q
theorem c_same {x1 x2 : Int32} {h : mH} {r : Int32 × mH} (j : JC h) (e : f_X11_same x1 x2 h = some r) : (¬ gSm (h.1 1 0 6).toInt x1 x2 ∧ r = (-1, h)) ∨ (gSm (h.1 1 0 6).toInt x1 x2 ∧ lkP (cdM (xM h) x1.toNatClampNeg) (cdM (xM h) x2.toNatClampNeg) ∧ r.1 = 1 ∧ RC r.2) ∨ (gSm (h.1 1 0 6).toInt x1 x2 ∧ ¬ lkP (cdM (xM h) x1.toNatClampNeg) (cdM (xM h) x2.toNatClampNeg) ∧ r.1 = 0 ∧ RC r.2) := by
  unfold gSm
  have e6 := j.1.2.2.1.2.2.2.1
  unfold f_X11_same at e
  rw [c_hasAct, Option.bind_some] at e
  dsimp only at e
  by_cases q1 : 0 ≤ x1.toInt ∧ x1.toInt < (h.1 1 0 6).toInt
  rotate_left
  · rw [if_pos (b2i_n q1)] at e
    exact Or.inl ⟨by omega, (Option.some.inj e).symm⟩
  rw [if_neg (b2i_p q1), c_hasAct, Option.bind_some] at e
  dsimp only at e
  by_cases q2 : 0 ≤ x2.toInt ∧ x2.toInt < (h.1 1 0 6).toInt
  rotate_left
  · rw [if_pos (b2i_n q2)] at e
    exact Or.inl ⟨by omega, (Option.some.inj e).symm⟩
  rw [if_neg (b2i_p q2)] at e
  obtain ⟨r5, e5, e⟩ := Option.bind_eq_some_iff.mp e
  obtain ⟨m1, m2, m3⟩ := mkc j e5
  have b : 0 ≤ (h.1 12 0 16).toInt ∧ (h.1 12 0 16).toInt ≤ 6 := j.1.1 12 0 16
  have y0 := cl_int b.1
  have y1 := cl_int q1.1
  have y2 := cl_int q2.1
  have ha : x1.toNatClampNeg < nA h := by rw [e6] at q1; unfold nA; omega
  have hb : x2.toNatClampNeg < nA h := by rw [e6] at q2; unfold nA; omega
  split at e
  rotate_left
  · cases e
  split at e
  rotate_left
  · cases e
  obtain ⟨r8, e8, e⟩ := Option.bind_eq_some_iff.mp e
  rcases c_isLike (m2 _ ha) (m2 _ hb) e8 with ⟨z, y⟩ | ⟨z, y⟩
  · rw [y] at e
    rw [if_neg (show ¬ (1 : Int32) = 0 by decide)] at e
    cases e
    exact Or.inr (Or.inl ⟨by omega, z, rfl, m1⟩)
  · rw [y] at e
    rw [if_pos rfl] at e
    cases e
    exact Or.inr (Or.inr ⟨by omega, z, rfl, m1⟩)
theorem OPS.at {N : mM} {lv : Nat} {l : List (Nat → Int32)} (O : OPS N lv l) {k : Nat} (hk : k < 6 * l.length) : N.1 94 (300 * lv + k) = (l.getD (k / 6) o0) (k % 6) := by
  have e : 6 * (k / 6) + k % 6 = k := Nat.div_add_mod k 6
  have := O.2 (k / 6) (k % 6) (by omega) (by omega)
  rw [show 300 * lv + 6 * (k / 6) + k % 6 = 300 * lv + k by omega] at this
  exact this
def kSm (u : Int32) (_ : Int32) (g : mH) : Option (Int32 × mH) := if u = 0 then some (0, g) else some (1, g)
theorem d_no {h : mH} (n : Nat) (v : Int32) (r : Int32 × mH) (q : f_X12_same_54 kSm n 0 v h = some r) : r = (0, h) := by
  cases n with
  | zero => cases q
  | succ n =>
    unfold f_X12_same_54 at q
    split at q
    · rw [if_pos rfl] at q
      exact (Option.some.inj q).symm
    · exact (Option.some.inj q).symm
theorem d_like {h : mH} {N : mM} {l m : List (Nat → Int32)} (A : OPS N 0 l) (B : OPS N 1 m) (hl : l.length ≤ 48) (e : l.length = m.length) : ∀ (n : Nat) (v : Int32) (k : Nat) (r : Int32 × mH), v.toInt = k → k ≤ 6 * l.length → (∀ i, i < k → (l.getD (i / 6) o0) (i % 6) = (m.getD (i / 6) o0) (i % 6)) → f_X12_same_54 kSm n 1 v (wM h N) = some r → (lkN l m ∧ r = (1, wM h N)) ∨ (¬ lkN l m ∧ r = (0, wM h N)) := by
  have e6 : (6 : Int32).toInt = 6 := by decide
  have t1 : (1 : Int32).toInt = 1 := by decide
  have t300 : (300 : Int32).toInt = 300 := by decide
  have nl : (nI l.length).toInt = l.length := nI_toInt (by omega)
  have o1 : (wM h N).1 93 0 (0 : Int32).toNatClampNeg = nI l.length := (wM_1 h N rfl _).trans A.1
  have ms : (6 * (wM h N).1 93 0 (0 : Int32).toNatClampNeg).toInt = (6 * l.length : Nat) := by
    rw [o1, ti_km e6 (by omega) (by omega), nl]
    omega
  intro n
  induction n with
  | zero => intro v k r _ _ _ q; cases q
  | succ n ih =>
    intro v k r hv hk hi q
    unfold f_X12_same_54 at q
    split at q
    · rename_i z
      have z := Int32.lt_iff_toInt_lt.mp z
      rw [ms] at z
      have a1 : (v + 1).toInt = v.toInt + (1 : Int32).toInt := ti_add (by omega) (by omega)
      have a3 : (300 + v).toInt = (300 : Int32).toInt + v.toInt := ti_add (by omega) (by omega)
      rw [if_neg (show ¬ (1 : Int32) = 0 by decide)] at q
      split at q
      rotate_left
      · cases q
      split at q
      rotate_left
      · cases q
      have c0 : (wM h N).1 94 0 v.toNatClampNeg = (l.getD (k / 6) o0) (k % 6) := by
        rw [wM_1 h N rfl, cl_of hv]
        have := A.at (k := k) (by omega)
        rw [Nat.mul_zero, Nat.zero_add] at this
        exact this
      have c1 : (wM h N).1 94 0 (300 + v).toNatClampNeg = (m.getD (k / 6) o0) (k % 6) := by
        rw [wM_1 h N rfl, cl_of (x := 300 + v) (j := 300 * 1 + k) (by omega)]
        exact B.at (k := k) (by omega)
      rw [c0, c1] at q
      split at q
      · rename_i y
        refine ih (v + 1) (k + 1) r (by omega) (by omega) (fun i hi2 => ?_) q
        by_cases w : i = k
        · rw [w]; exact y
        · exact hi i (by omega)
      · rename_i y
        exact Or.inr ⟨fun w => y (w k (by omega)), d_no _ _ _ q⟩
    · rename_i z
      have z := Int32.le_iff_toInt_le.mp (Int32.not_lt.mp z)
      rw [ms] at z
      exact Or.inl ⟨fun i hi2 => hi i (by omega), (Option.some.inj q).symm⟩
theorem dmk2 {h : mH} {M : mM} {lv a : Nat} (j : JC h) (hB : Bk M (xM h)) (hv : lv < 2) (ha : a < 6) (hn : a < nA h) : ∃ N, f_X12_makes (nI lv) (nI a) (wM h M) = some (wM h N) ∧ OPS N lv (cdM (xM h) a) ∧ Fo lv M N := by
  have b : 0 ≤ (h.1 12 0 11).toInt ∧ (h.1 12 0 11).toInt ≤ 12 := j.1.1 12 0 11
  have y := cl_int b.1
  have b2 : 0 ≤ (h.1 12 0 2).toInt ∧ (h.1 12 0 2).toInt ≤ 24 := j.1.1 12 0 2
  have y2 := cl_int b2.1
  have s := j_s j a
  exact e_makes h hB (n := nF h) (nl := nL h) (of_nI b2.1) (by unfold nF; omega) (of_nI b.1) (by unfold nL; omega) hv ha s.2 s.1 (fun i h1 h2 h3 => by
    have q := j_st j hn (k := i - 12 * a) (by omega)
    have ei : 12 * a + (i - 12 * a) = i := by omega
    rw [ei] at q
    rcases q with q | ⟨-, f, hf, ef⟩
    · exfalso
      rw [q] at h3
      rcases h3 with h3 | h3 | h3 <;> exact absurd h3 (by decide)
    · rw [ef]
      exact mIn_nI (by unfold nF at hf; omega) (by omega))
theorem d_same {x1 x2 : Int32} {h : mH} {r : Int32 × mH} (j : JC h) (e : f_X12_same x1 x2 h = some r) : (¬ gSm (h.1 12 0 16).toInt x1 x2 ∧ r = (-1, h)) ∨ (gSm (h.1 12 0 16).toInt x1 x2 ∧ lkP (cdM (xM h) x1.toNatClampNeg) (cdM (xM h) x2.toNatClampNeg) ∧ r.1 = 1) ∨ (gSm (h.1 12 0 16).toInt x1 x2 ∧ ¬ lkP (cdM (xM h) x1.toNatClampNeg) (cdM (xM h) x2.toNatClampNeg) ∧ r.1 = 0) := by
  unfold gSm
  unfold f_X12_same at e
  rw [d_isAct j.1.1, Option.bind_some] at e
  dsimp only at e
  by_cases q1 : 0 ≤ x1.toInt ∧ x1.toInt < (h.1 12 0 16).toInt
  rotate_left
  · rw [if_pos (b2i_n q1)] at e
    exact Or.inl ⟨by omega, (Option.some.inj e).symm⟩
  rw [if_neg (b2i_p q1), d_isAct j.1.1, Option.bind_some] at e
  dsimp only at e
  by_cases q2 : 0 ≤ x2.toInt ∧ x2.toInt < (h.1 12 0 16).toInt
  rotate_left
  · rw [if_pos (b2i_n q2)] at e
    exact Or.inl ⟨by omega, (Option.some.inj e).symm⟩
  rw [if_neg (b2i_p q2)] at e
  have y1 := cl_int q1.1
  have y2 := cl_int q2.1
  have b : 0 ≤ (h.1 12 0 16).toInt ∧ (h.1 12 0 16).toInt ≤ 6 := j.1.1 12 0 16
  have y0 := cl_int b.1
  have ha : x1.toNatClampNeg < nA h := by unfold nA; omega
  have hb : x2.toNatClampNeg < nA h := by unfold nA; omega
  obtain ⟨N1, e3, O1, F1⟩ := dmk (lv := 0) (a := x1.toNatClampNeg) j (by omega) (by omega) ha
  obtain ⟨N2, e4, O2, F2⟩ := dmk2 (lv := 1) (a := x2.toNatClampNeg) j (F1.bk (Bk.rf _)) (by omega) (by omega) hb
  have hl := cd_len j ha
  have hm := cd_len j hb
  have O3 : OPS N2 0 (cdM (xM h) x1.toNatClampNeg) := by
    refine ⟨(F2.1 93 0 (by omega) (by omega)).trans O1.1, fun i w hi hw => ?_⟩
    exact (F2.1 94 _ (by omega) (by omega)).trans (O1.2 i w hi hw)
  rw [← of_nI q1.1, show nI 0 = 0 from rfl] at e3
  rw [← of_nI q2.1, show nI 1 = 1 from rfl] at e4
  rw [e3, Option.bind_some, e4, Option.bind_some] at e
  have o1 : (wM h N2).1 93 0 (0 : Int32).toNatClampNeg = nI (cdM (xM h) x1.toNatClampNeg).length := (wM_1 h N2 rfl _).trans O3.1
  have o2 : (wM h N2).1 93 0 (1 : Int32).toNatClampNeg = nI (cdM (xM h) x2.toNatClampNeg).length := (wM_1 h N2 rfl _).trans O2.1
  have n1 : (nI (cdM (xM h) x1.toNatClampNeg).length).toInt = (cdM (xM h) x1.toNatClampNeg).length := nI_toInt (by omega)
  have n2 : (nI (cdM (xM h) x2.toNatClampNeg).length).toInt = (cdM (xM h) x2.toNatClampNeg).length := nI_toInt (by omega)
  rw [o1, o2] at e
  by_cases q : nI (cdM (xM h) x1.toNatClampNeg).length = nI (cdM (xM h) x2.toNatClampNeg).length
  · rw [if_pos q] at e
    have el : (cdM (xM h) x1.toNatClampNeg).length = (cdM (xM h) x2.toNatClampNeg).length := by
      have := congrArg Int32.toInt q
      omega
    rcases d_like O3 O2 hl el mFu 0 0 r (by decide) (Nat.zero_le _) (fun i hi => by omega) e with ⟨z, y⟩ | ⟨z, y⟩
    · exact Or.inr (Or.inl ⟨by omega, ⟨el, z⟩, by rw [y]⟩)
    · exact Or.inr (Or.inr ⟨by omega, fun w => z w.2, by rw [y]⟩)
  · rw [if_neg q] at e
    have y := d_no _ _ _ e
    exact Or.inr (Or.inr ⟨by omega, fun w => q (by rw [w.1]), by rw [y]⟩)
theorem K_same (x1 x2 : Int32) {h : mH} (j : JC h) : ∃ r r', f_X11_same x1 x2 h = some r ∧ f_X12_same x1 x2 r.2 = some r' ∧ r.1 = r'.1 ∧ JC r'.2 := by
  obtain ⟨I, C, R⟩ := j.1
  obtain ⟨r, e1, S1⟩ := z_X11_same x1 x2 h (SI.an fpK I C) (by decide)
  have R1 : RR r.2 := RR.to S1.2.2.1 R
  have CD := c_same j e1
  have rc : RC r.2 := by
    rcases CD with ⟨-, e⟩ | ⟨-, -, -, q⟩ | ⟨-, -, -, q⟩
    · rw [e]; exact j.2
    · exact q
    · exact q
  have jc : JC r.2 := ⟨⟨S1.1, S1.2.1, R1⟩, rc⟩
  obtain ⟨r', e2, S2⟩ := z_X12_same x1 x2 r.2 (SI.an fpK S1.1 S1.2.1) (by decide)
  obtain ⟨q', f2, S3⟩ := z_X12_same x1 x2 r.2 (SI.an fpC S1.1 S1.2.1) (by decide)
  rw [e2] at f2
  cases f2
  refine ⟨r, r', e1, e2, ?_, ⟨S2.1, S2.2.1, RR.to S2.2.2.1 R1⟩, RC.to S3.2.2.1 rc⟩
  have D := d_same jc e2
  have n : r.2.1 12 0 16 = h.1 1 0 6 := (S1.2.2.1 12 0 16 rfl).1.trans R.1.2.2.2.1.symm
  have cd : ∀ a, cdM (xM r.2) a = cdM (xM h) a := fun a => cdM_to (fun t k q => (S1.2.2.1 t 0 k (rl_K q)).1) a
  rw [n, cd, cd] at D
  rcases CD with ⟨g, e⟩ | ⟨g, p, v, -⟩ | ⟨g, p, v, -⟩ <;> rcases D with ⟨g', e'⟩ | ⟨g', p', v'⟩ | ⟨g', p', v'⟩ <;> first | exact absurd g' g | exact absurd g g' | exact absurd p' p | exact absurd p p' | exact v.trans v'.symm | skip
  rw [e', e]
