/-! ===== calls that make code on their way: run, walk, play ===== -/
theorem mk_si {h h' : mH} (j : JC h) (e : f_X1_makeCode h = some h') : IR h' ∧ CCs h' ∧ fz (fun c => !(W_X1_makeCode.contains c)) h h' := by
  obtain ⟨r, e1, S, f⟩ := y_X1_makeCode h (SI.an fp0 j.1.1 j.1.2.1) (fun _ _ => rfl)
  rw [e] at e1
  cases e1
  exact ⟨S.1, S.2.1, f⟩
theorem c_run {x : Int32} {h : mH} {r : Int32 × mH} (j : JC h) (e : f_X11_run x h = some r) : RC r.2 := by
  have b : 0 ≤ (h.1 1 0 6).toInt ∧ (h.1 1 0 6).toInt ≤ 6 := j.1.1 1 0 6
  unfold f_X11_run at e
  rw [c_hasAct, Option.bind_some] at e
  dsimp only at e
  by_cases q1 : 0 ≤ x.toInt ∧ x.toInt < (h.1 1 0 6).toInt
  rotate_left
  · rw [if_pos (b2i_n q1)] at e
    cases e
    exact j.2
  rw [if_neg (b2i_p q1)] at e
  obtain ⟨r3, e3, e⟩ := Option.bind_eq_some_iff.mp e
  obtain ⟨r4, e4, e⟩ := Option.bind_eq_some_iff.mp e
  obtain ⟨I3, C3, -⟩ := mk_si j e3
  obtain ⟨r4', e4', S4, -⟩ := z_X5_runAct x r3 (SI.an fpC I3 C3) (by decide) (by omega)
  rw [e4] at e4'
  cases e4'
  have rc : RC r4.2 := RC.to S4.2.2.1 (mkc j e3).1
  split at e
  · cases e
    exact rc
  · obtain ⟨r6, e6, e⟩ := Option.bind_eq_some_iff.mp e
    cases e
    obtain ⟨r6', e6', h6⟩ := z_X11_nearestInt ((r4.2.2 8 0 10) - (r3.2 8 0 10)) r4.2 S4
    rw [e6] at e6'
    cases e6'
    show RC r6.2
    rw [h6]
    exact rc
theorem c_walk {x1 x2 : Int32} {h : mH} {r : Int32 × mH} (j : JC h) (e : f_X11_walk x1 x2 h = some r) : RC r.2 := by
  have b : 0 ≤ (h.1 1 0 6).toInt ∧ (h.1 1 0 6).toInt ≤ 6 := j.1.1 1 0 6
  have b4 : 0 ≤ (h.1 1 0 4).toInt ∧ (h.1 1 0 4).toInt ≤ 24 := j.1.1 1 0 4
  unfold f_X11_walk at e
  rw [c_hasAct, Option.bind_some] at e
  dsimp only at e
  by_cases q1 : 0 ≤ x1.toInt ∧ x1.toInt < (h.1 1 0 6).toInt
  rotate_left
  · rw [if_pos (b2i_n q1)] at e
    cases e
    exact j.2
  rw [if_neg (b2i_p q1), c_hasField, Option.bind_some] at e
  dsimp only at e
  by_cases q2 : 0 ≤ x2.toInt ∧ x2.toInt < (h.1 1 0 4).toInt
  rotate_left
  · rw [if_pos (b2i_n q2)] at e
    cases e
    exact j.2
  rw [if_neg (b2i_p q2), if_pos (mIn_bd (by omega) (by omega))] at e
  by_cases q3 : h.1 6 x2.toNatClampNeg 3 = 2
  rotate_left
  · rw [if_neg q3] at e
    cases e
    exact j.2
  rw [if_pos q3, c_hasAct, Option.bind_some] at e
  dsimp only at e
  by_cases q4 : 0 ≤ (h.1 6 x2.toNatClampNeg 9).toInt ∧ (h.1 6 x2.toNatClampNeg 9).toInt < (h.1 1 0 6).toInt
  rotate_left
  · rw [if_pos (b2i_n q4)] at e
    cases e
    exact j.2
  rw [if_neg (b2i_p q4)] at e
  obtain ⟨r9, e9, e⟩ := Option.bind_eq_some_iff.mp e
  obtain ⟨r10, e10, e⟩ := Option.bind_eq_some_iff.mp e
  obtain ⟨r11, e11, e⟩ := Option.bind_eq_some_iff.mp e
  obtain ⟨r12, e12, e⟩ := Option.bind_eq_some_iff.mp e
  cases e
  obtain ⟨I9, C9, f9⟩ := mk_si j e9
  obtain ⟨s10, g10, S10, p10, f10⟩ := y_X10_keepStart r9 (SI.an fpC I9 C9) (by decide)
  rw [e10] at g10
  cases g10
  have k9 : r10.1 6 x2.toNatClampNeg 9 = h.1 6 x2.toNatClampNeg 9 := (f10 6 _ 9 rfl).1.trans (f9 6 _ 9 rfl).1
  obtain ⟨s11, g11, S11⟩ := z_X10_firstUnwell x1 x2 r10 S10 (by decide) (by omega) (by omega) (by rw [k9]; omega) p10
  rw [e11] at g11
  cases g11
  obtain ⟨s12, g12, S12⟩ := z_X10_restoreStart r11.2 S11 (by decide)
  rw [e12] at g12
  cases g12
  exact RC.to S12.2.2.1 (mkc j e9).1
theorem c_play {x1 x2 x3 : Int32} {h : mH} {r : Int32 × mH} (j : JC h) (e : f_X11_play x1 x2 x3 h = some r) : RC r.2 := by
  have z6 := t6
  have t0 : (0 : Int32).toInt = 0 := by decide
  have t64 : (64 : Int32).toInt = 64 := by decide
  unfold f_X11_play f_X11_hostRefuses at e
  rw [c_isTape, Option.bind_some] at e
  dsimp only at e
  by_cases q1 : 0 ≤ x1.toInt ∧ x1.toInt < (6 : Int32).toInt
  rotate_left
  · rw [if_pos (b2i_n q1)] at e
    cases e
    exact j.2
  rw [if_neg (b2i_p q1)] at e
  by_cases q2 : x3 < 0
  · rw [if_pos q2] at e
    cases e
    exact j.2
  rw [if_neg q2] at e
  have z2 := Int32.le_iff_toInt_le.mp (Int32.not_lt.mp q2)
  by_cases q3 : x3 ≤ 64
  rotate_left
  · rw [if_neg q3] at e
    cases e
    exact j.2
  have z3 := Int32.le_iff_toInt_le.mp q3
  rw [if_pos q3, if_pos (mIn_bd (by omega) (by omega))] at e
  by_cases q4 : h.1 9 x1.toNatClampNeg 0 = 3
  rotate_left
  · rw [if_neg q4, Option.bind_some, Option.bind_some] at e
    split at e
    · cases e
      exact RC.to (fz.u fz.rf rfl) j.2
    · cases e
      exact RC.to (fz.u fz.rf rfl) j.2
  rw [if_pos q4] at e
  obtain ⟨r7, e7, e⟩ := Option.bind_eq_some_iff.mp e
  obtain ⟨I7, C7, -⟩ := mk_si j e7
  have key : ∃ r, f_X11_play_66 (fun _ u18 _ h20 => some (u18, h20)) x1.toNatClampNeg mFu x2 x3 0 r7 = some r ∧ SI fpC r7 521321472 r.2 :=
    z_X11_play_66 (fp := fpC) (b := r7) (m := 0) (P := fun r => SI fpC r7 521321472 r.2) _ x1.toNatClampNeg x2 x3 (by decide) (by omega) (fun u19 h20 S y1 y2 => ⟨_, rfl, SI.mono S (by omega)⟩) (fun rv rh SS => SI.mono SS (by omega)) mFu 0 r7 (SI.mono (SI.an fpC I7 C7) (by omega)) (by decide) (by decide) (by have := mFu_big; omega)
  obtain ⟨r', e', S⟩ := key
  rw [e] at e'
  cases e'
  exact RC.to S.2.2.1 (mkc j e7).1
theorem runC {β γ : Type} {c : mH → Option (β × mH)} {m : mH → Option (γ × mH)} {B C : Nat} {h : mH} (j : JC h) (hK : ∃ r r', c h = some r ∧ m r.2 = some r' ∧ JR r'.2) (hz : ∃ r, c h = some r ∧ SI fp0 h B r.2) (hc : ∀ r, c h = some r → RC r.2) (hm : ∀ g, SI fpC g 0 g → ∃ r, m g = some r ∧ SI fpC g C r.2) : ∃ r r', c h = some r ∧ m r.2 = some r' ∧ JC r'.2 := by
  obtain ⟨r, r', e1, e2, J⟩ := hK
  obtain ⟨q, f1, s1⟩ := hz
  rw [e1] at f1
  cases f1
  obtain ⟨q', f2, s2⟩ := hm r.2 (SI.an fpC s1.1 s1.2.1)
  rw [e2] at f2
  cases f2
  exact ⟨r, r', e1, e2, J, RC.to s2.2.2.1 (hc r e1)⟩
