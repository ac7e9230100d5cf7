/-! ===== the class makes its code; code, op, same ===== -/
theorem of_nI {x : Int32} (h : 0 ≤ x.toInt) : x = nI x.toNatClampNeg := by
  apply Int32.toInt_inj.mp
  have y := cl_int h
  have z := i32_hi x
  rw [nI_toInt (by omega)]
  exact y
theorem ci_lt {x : Int32} {n : Nat} (h0 : 0 ≤ x.toInt) (h : x.toInt < n) : x.toNatClampNeg < n := by
  have y := cl_int h0
  omega
theorem j_RF {h : mH} (j : JC h) : RF h (nF h) (xM h) := by
  obtain ⟨⟨I, C, R⟩, -⟩ := j
  have b : 0 ≤ (h.1 12 0 2).toInt ∧ (h.1 12 0 2).toInt ≤ 24 := I 12 0 2
  have y := cl_int b.1
  refine ⟨by unfold nF; omega, of_nI b.1, R.1.2.1.trans (of_nI b.1), fun f _ => ?_⟩
  obtain ⟨⟨z0, z1, z2, z3, z4, z5, z6, z7⟩, za, zb, zc, zd⟩ := R.2.1 f
  refine ⟨⟨z0, z1, z2, z3, z4⟩, ?_, ?_, z5, z6, z7⟩
  · rw [za, z2]
    rfl
  · rw [zb, z2, z1]
    rfl
theorem j_RLw {h : mH} (j : JC h) : RLw h (nF h) (xM h) := by
  obtain ⟨⟨I, C, R⟩, d, l, s, c⟩ := j
  have b : 0 ≤ (h.1 12 0 11).toInt ∧ (h.1 12 0 11).toInt ≤ 12 := I 12 0 11
  have y := cl_int b.1
  have b2 : 0 ≤ (h.1 12 0 2).toInt ∧ (h.1 12 0 2).toInt ≤ 24 := I 12 0 2
  have y2 := cl_int b2.1
  refine ⟨nL h, by unfold nL; omega, of_nI b.1, R.1.2.2.1.trans (of_nI b.1), fun k hk => ⟨R.2.2.1 k, ?_, ?_⟩⟩
  · have b5 : 0 ≤ (h.1 55 0 k).toInt ∧ (h.1 55 0 k).toInt ≤ 23 := I 55 0 k
    exact ⟨(h.1 55 0 k).toNatClampNeg, ci_lt b5.1 (by have := (l k hk).1; unfold nF; omega), of_nI b5.1⟩
  · have b5 : 0 ≤ (h.1 56 0 k).toInt ∧ (h.1 56 0 k).toInt ≤ 23 := I 56 0 k
    exact ⟨(h.1 56 0 k).toNatClampNeg, ci_lt b5.1 (by have := (l k hk).2; unfold nF; omega), of_nI b5.1⟩
theorem j_st {h : mH} (j : JC h) {a k : Nat} (ha : a < nA h) (hk : k < (h.1 58 0 a).toNatClampNeg) : stOK (xM h) (nF h) (12 * a + k) := by
  obtain ⟨⟨I, C, R⟩, d, l, s, c⟩ := j
  have b : 0 ≤ (h.1 59 0 (12 * a + k)).toInt ∧ (h.1 59 0 (12 * a + k)).toInt ≤ 3 := I 59 0 _
  have b2 : 0 ≤ (h.1 12 0 2).toInt ∧ (h.1 12 0 2).toInt ≤ 24 := I 12 0 2
  have y2 := cl_int b2.1
  have c3 := C.2.2.1 (12 * a + k)
  rcases s a k ha hk with q | q
  · exact Or.inl q
  · rcases four b.1 b.2 with e | e | e | e
    · refine Or.inr ⟨Or.inl e, (h.1 60 0 (12 * a + k)).toNatClampNeg, ?_, ?_⟩
      · rw [e] at c3
        have t0 : (0 : Int32).toInt = 0 := by decide
        exact ci_lt (by omega) (by unfold nF; omega)
      · rw [e] at c3
        have t0 : (0 : Int32).toInt = 0 := by decide
        exact of_nI (x := h.1 60 0 (12 * a + k)) (by omega)
    · refine Or.inr ⟨Or.inr (Or.inl e), (h.1 60 0 (12 * a + k)).toNatClampNeg, ?_, ?_⟩
      · rw [e] at c3
        have t0 : (1 : Int32).toInt = 1 := by decide
        exact ci_lt (by omega) (by unfold nF; omega)
      · rw [e] at c3
        have t0 : (1 : Int32).toInt = 1 := by decide
        exact of_nI (x := h.1 60 0 (12 * a + k)) (by omega)
    · refine Or.inr ⟨Or.inr (Or.inr e), (h.1 60 0 (12 * a + k)).toNatClampNeg, ?_, ?_⟩
      · rw [e] at c3
        have t0 : (2 : Int32).toInt = 2 := by decide
        exact ci_lt (by omega) (by unfold nF; omega)
      · rw [e] at c3
        have t0 : (2 : Int32).toInt = 2 := by decide
        exact of_nI (x := h.1 60 0 (12 * a + k)) (by omega)
    · exact Or.inl e
theorem j_s {h : mH} (j : JC h) (a : Nat) : (h.1 58 0 a).toNatClampNeg ≤ 12 ∧ h.1 58 0 a = nI (h.1 58 0 a).toNatClampNeg := by
  have b : 0 ≤ (h.1 58 0 a).toInt ∧ (h.1 58 0 a).toInt ≤ 12 := j.1.1 58 0 a
  have y := cl_int b.1
  exact ⟨by omega, of_nI b.1⟩
theorem j_AB {h : mH} (j : JC h) : AB h (xM h) (nF h) (nA h) := by
  intro a ha
  have s := j_s j a
  obtain ⟨I, C, R⟩ := j.1
  refine ⟨(h.1 58 0 a).toNatClampNeg, s.1, s.2, ⟨j_RF j, j_RLw j, R.1.2.2.2.2, (R.2.2.2.1.1 a).trans s.2, fun k hk => R.2.2.2.1.2 a k (by omega)⟩, fun k hk => j_st j ha hk⟩
theorem j_hreg {h : mH} (j : JC h) : ∀ f, f < nF h → ∃ r, r < 8 ∧ (xM h).1 46 f = nI r := by
  intro f _
  have b : 0 ≤ (h.1 46 0 f).toInt ∧ (h.1 46 0 f).toInt ≤ 7 := j.1.1 46 0 f
  exact ⟨(h.1 46 0 f).toNatClampNeg, ci_lt b.1 (by omega), of_nI b.1⟩
theorem j_hh {h : mH} (j : JC h) : ∀ f, f < nF h → (xM h).1 53 f = -1 ∨ ¬ (xM h).1 53 f < 0 := by
  intro f _
  have b : -1 ≤ (h.1 53 0 f).toInt ∧ (h.1 53 0 f).toInt ≤ 5 := j.1.1 53 0 f
  by_cases q : (h.1 53 0 f).toInt = -1
  · exact Or.inl (Int32.toInt_inj.mp (q.trans (by decide)))
  · refine Or.inr (fun z => ?_)
    have z := Int32.lt_iff_toInt_lt.mp z
    have t0 : (0 : Int32).toInt = 0 := by decide
    have z : (h.1 53 0 f).toInt < (0 : Int32).toInt := z
    omega
theorem mkc {h h' : mH} (j : JC h) (e : f_X1_makeCode h = some h') : RC h' ∧ (∀ a, a < nA h → CC h' a (cdM (xM h) a)) ∧ (∀ t i, t ≠ 3 → t ≠ 32 → t ≠ 1 → h'.1 t i = h.1 t i) := by
  have b : 0 ≤ (h.1 12 0 16).toInt ∧ (h.1 12 0 16).toInt ≤ 6 := j.1.1 12 0 16
  have y := cl_int b.1
  obtain ⟨h1, e1, A, F, -, -⟩ := c_makeCode (n := nF h) (na := nA h) (B := xM h) (h := h) (by unfold nA; omega) j.2.1 (j_hreg j) (j_hh j) (j.1.2.2.1.2.2.2.1.trans (of_nI b.1)) (j_AB j) j.2.2.2.2
  rw [e] at e1
  cases e1
  have E : ∀ t k, rl t k = true → h'.1 t 0 k = h.1 t 0 k := by
    intro t k q
    have n3 : t ≠ 3 := fun z => by rw [z] at q; exact absurd q (by simp [rl])
    have n32 : t ≠ 32 := fun z => by rw [z] at q; exact absurd q (by simp [rl])
    have n1 : t ≠ 1 := fun z => by rw [z] at q; exact absurd q (by simp [rl])
    rw [F t 0 n3 n32 n1]
  have eX : ∀ t k, rl t k = true → (xM h').1 t k = (xM h).1 t k := E
  have n1 : nF h' = nF h := by unfold nF; rw [E 12 2 rfl]
  have n2 : nL h' = nL h := by unfold nL; rw [E 12 11 rfl]
  have n3 : nA h' = nA h := by unfold nA; rw [E 12 16 rfl]
  obtain ⟨d, l, s, c⟩ := j.2
  refine ⟨⟨?_, ?_, ?_, Or.inr (fun b hb => ?_)⟩, A.2.2, F⟩
  · intro x y hx hy hn he
    rw [n1] at hx hy
    rw [msk_to eX, msk_to eX]
    refine d x y hx hy hn ?_
    rw [← eX 46 x rfl, ← eX 46 y rfl]
    exact he
  · intro k hk
    rw [n2] at hk
    rw [E 55 k rfl, E 56 k rfl, E 12 2 rfl]
    exact l k hk
  · intro b j hb hj
    rw [n3] at hb
    rw [E 58 b rfl] at hj
    rw [E 59 _ rfl, E 60 _ rfl, E 12 2 rfl]
    exact s b j hb hj
  · rw [n3] at hb
    rw [cdM_to eX]
    exact A.2.2 b hb
theorem cd_len {h : mH} {a : Nat} (j : JC h) (ha : a < nA h) : (cdM (xM h) a).length ≤ 48 := by
  obtain ⟨h1, e1, -⟩ := z_X1_makeCode h (SI.an fp0 j.1.1 j.1.2.1) (fun _ _ => rfl)
  exact ((mkc j e1).2.1 a ha).1
/-- the reference makes the same -/
theorem dmk {h : mH} {lv a : Nat} (j : JC h) (hv : lv < 2) (ha : a < 6) (hn : a < nA h) : ∃ N, f_X12_makes (nI lv) (nI a) h = some (wM h N) ∧ OPS N lv (cdM (xM h) a) ∧ Fo lv (xM h) N := by
  have b : 0 ≤ (h.1 12 0 11).toInt ∧ (h.1 12 0 11).toInt ≤ 12 := j.1.1 12 0 11
  have y := cl_int b.1
  have b2 : 0 ≤ (h.1 12 0 2).toInt ∧ (h.1 12 0 2).toInt ≤ 24 := j.1.1 12 0 2
  have y2 := cl_int b2.1
  have s := j_s j a
  obtain ⟨N, e, O, F⟩ := e_makes h (Bk.rf (xM h)) (n := nF h) (nl := nL h) (of_nI b2.1) (by unfold nF; omega) (of_nI b.1) (by unfold nL; omega) hv ha s.2 s.1 (fun i h1 h2 h3 => by
    have q := j_st j hn (k := i - 12 * a) (by omega)
    have ei : 12 * a + (i - 12 * a) = i := by omega
    rw [ei] at q
    rcases q with q | ⟨-, f, hf, ef⟩
    · exfalso
      rw [q] at h3
      rcases h3 with h3 | h3 | h3 <;> exact absurd h3 (by decide)
    · rw [ef]
      exact mIn_nI (by unfold nF at hf; omega) (by omega))
  rw [wM_x] at e
  exact ⟨N, e, O, F⟩
theorem c_code {x : Int32} {h : mH} {r : Int32 × mH} (j : JC h) (e : f_X11_code x h = some r) : (¬ (0 ≤ x.toInt ∧ x.toInt < (h.1 1 0 6).toInt) ∧ r = (-1, h)) ∨ ((0 ≤ x.toInt ∧ x.toInt < (h.1 1 0 6).toInt) ∧ r.1 = nI (cdM (xM h) x.toNatClampNeg).length ∧ RC r.2) := by
  have e6 := j.1.2.2.1.2.2.2.1
  unfold f_X11_code at e
  rw [c_hasAct, Option.bind_some] at e
  dsimp only at e
  by_cases q1 : 0 ≤ x.toInt ∧ x.toInt < (h.1 1 0 6).toInt
  rotate_left
  · rw [if_pos (b2i_n q1)] at e
    exact Or.inl ⟨q1, (Option.some.inj e).symm⟩
  rw [if_neg (b2i_p q1)] at e
  obtain ⟨r3, e3, e⟩ := Option.bind_eq_some_iff.mp e
  split at e
  · cases e
    obtain ⟨m1, m2, m3⟩ := mkc j e3
    refine Or.inr ⟨q1, ?_, m1⟩
    have ha : x.toNatClampNeg < nA h := by
      have y := cl_int q1.1
      have b : 0 ≤ (h.1 12 0 16).toInt ∧ (h.1 12 0 16).toInt ≤ 6 := j.1.1 12 0 16
      have y2 := cl_int b.1
      rw [e6] at q1
      unfold nA
      omega
    exact (m2 _ ha).2.1
  · cases e
theorem d_code {x : Int32} {h : mH} {r : Int32 × mH} (j : JC h) (e : f_X12_code x h = some r) : (¬ (0 ≤ x.toInt ∧ x.toInt < (h.1 12 0 16).toInt) ∧ r = (-1, h)) ∨ ((0 ≤ x.toInt ∧ x.toInt < (h.1 12 0 16).toInt) ∧ r.1 = nI (cdM (xM h) x.toNatClampNeg).length) := by
  unfold f_X12_code at e
  rw [d_isAct j.1.1, Option.bind_some] at e
  dsimp only at e
  by_cases q1 : 0 ≤ x.toInt ∧ x.toInt < (h.1 12 0 16).toInt
  rotate_left
  · rw [if_pos (b2i_n q1)] at e
    exact Or.inl ⟨q1, (Option.some.inj e).symm⟩
  rw [if_neg (b2i_p q1)] at e
  have y := cl_int q1.1
  have b : 0 ≤ (h.1 12 0 16).toInt ∧ (h.1 12 0 16).toInt ≤ 6 := j.1.1 12 0 16
  have y2 := cl_int b.1
  obtain ⟨N, e3, O, -⟩ := dmk (lv := 0) (a := x.toNatClampNeg) j (by omega) (by omega) (by unfold nA; omega)
  have ex := of_nI q1.1
  rw [← ex, show nI 0 = 0 from rfl] at e3
  rw [e3, Option.bind_some] at e
  cases e
  refine Or.inr ⟨q1, ?_⟩
  show (wM h N).1 93 0 0 = _
  rw [wM_1 h N rfl]
  exact O.1
theorem JC_of {h : mH} {r : Int32 × mH} (J : JR r.2) (R : RC r.2) : JC r.2 := ⟨J, R⟩
theorem K_code (x1 : Int32) {h : mH} (j : JC h) : ∃ r r', f_X11_code x1 h = some r ∧ f_X12_code x1 r.2 = some r' ∧ r.1 = r'.1 ∧ JC r'.2 := by
  obtain ⟨I, C, R⟩ := j.1
  obtain ⟨r, e1, S1⟩ := z_X11_code x1 h (SI.an fpK I C) (by decide)
  have R1 : RR r.2 := RR.to S1.2.2.1 R
  have jr : JR r.2 := ⟨S1.1, S1.2.1, R1⟩
  have CD := c_code j e1
  have rc : RC r.2 := by
    rcases CD with ⟨-, e⟩ | ⟨-, -, q⟩
    · rw [e]; exact j.2
    · exact q
  have jc : JC r.2 := ⟨jr, rc⟩
  obtain ⟨r', e2, S2⟩ := z_X12_code x1 r.2 (SI.an fpK S1.1 S1.2.1) (by decide)
  obtain ⟨q', f2, S3⟩ := z_X12_code x1 r.2 (SI.an fpC S1.1 S1.2.1) (by decide)
  rw [e2] at f2
  cases f2
  refine ⟨r, r', e1, e2, ?_, ⟨S2.1, S2.2.1, RR.to S2.2.2.1 R1⟩, RC.to S3.2.2.1 rc⟩
  have D := d_code jc e2
  have n : r.2.1 12 0 16 = h.1 1 0 6 := (S1.2.2.1 12 0 16 rfl).1.trans R.1.2.2.2.1.symm
  have cd : cdM (xM r.2) x1.toNatClampNeg = cdM (xM h) x1.toNatClampNeg := cdM_to (fun t k q => (S1.2.2.1 t 0 k (rl_K q)).1) _
  rw [n, cd] at D
  rcases CD with ⟨g, e⟩ | ⟨g, v, -⟩ <;> rcases D with ⟨g', e'⟩ | ⟨g', v'⟩ <;> first | exact absurd g' g | exact absurd g g' | skip
  · rw [e', e]
  · exact v.trans v'.symm
