/-! ===== calls that leave what R speaks of ===== -/
def Kl : List Nat := []
def fpK : Nat → Bool := fun c => Kl.contains c
def RR (_ : mH) : Prop := True
theorem RR.to {a g : mH} (_ : fz fpK a g) (_ : RR a) : RR g := trivial
def JR (h : mH) : Prop := IR h ∧ CCs h ∧ RR h
theorem JR_h0 : JR h0 := ⟨IR_h0, CCs_h0, trivial⟩
theorem K_free {β γ : Type} {c : mH → Option (β × mH)} {m : mH → Option (γ × mH)} {B C : Nat} (hc : ∀ g, SI fpK g 0 g → ∃ r, c g = some r ∧ SI fpK g B r.2) (hm : ∀ g, SI fpK g 0 g → ∃ r, m g = some r ∧ SI fpK g C r.2) {h : mH} (j : JR h) : ∃ r r', c h = some r ∧ m r.2 = some r' ∧ JR r'.2 := by
  obtain ⟨i, cc, q⟩ := j
  obtain ⟨r, e1, s1⟩ := hc h (SI.an fpK i cc)
  obtain ⟨r', e2, s2⟩ := hm r.2 (SI.an fpK s1.1 s1.2.1)
  exact ⟨r, r', e1, e2, s2.1, s2.2.1, RR.to s2.2.2.1 (RR.to s1.2.2.1 q)⟩
theorem pz {β : Type} {c : mH → Option (β × mH)} {g : mH} (h : ∃ r, c g = some r ∧ r.2 = g) (S : SI fpK g 0 g) : ∃ r, c g = some r ∧ SI fpK g 0 r.2 := by
  obtain ⟨r, e, e2⟩ := h
  exact ⟨r, e, by rw [e2]; exact S⟩

theorem N_field (x1 : Int32) (x2 : Int32) (x3 : Int32) (x4 : Int32) (x5 : Int32) {h : mH} (j : JR h) : ∃ r r', f_X11_field x1 x2 x3 x4 x5 h = some r ∧ f_X12_field x1 x2 x3 x4 x5 r.2 = some r' ∧ JR r'.2 := K_free (c := fun g => f_X11_field x1 x2 x3 x4 x5 g) (m := fun g => f_X12_field x1 x2 x3 x4 x5 g) (fun g S => z_X11_field x1 x2 x3 x4 x5 g S (by decide)) (fun g S => z_X12_field x1 x2 x3 x4 x5 g S (by decide)) j
theorem N_period (x1 : Int32) (x2 : Int32) {h : mH} (j : JR h) : ∃ r r', f_X11_period x1 x2 h = some r ∧ f_X12_period x1 x2 r.2 = some r' ∧ JR r'.2 := K_free (c := fun g => f_X11_period x1 x2 g) (m := fun g => f_X12_period x1 x2 g) (fun g S => z_X11_period x1 x2 g S (by decide)) (fun g S => z_X12_period x1 x2 g S (by decide)) j
theorem N_done (x1 : Int32) (x2 : Int32) {h : mH} (j : JR h) : ∃ r r', f_X11_done x1 x2 h = some r ∧ f_X12_done x1 x2 r.2 = some r' ∧ JR r'.2 := K_free (c := fun g => f_X11_done x1 x2 g) (m := fun g => f_X12_done x1 x2 g) (fun g S => z_X11_done x1 x2 g S (by decide)) (fun g S => z_X12_done x1 x2 g S (by decide)) j
theorem N_law (x1 : Int32) (x2 : Int32) (x3 : Int32) (x4 : Int32) {h : mH} (j : JR h) : ∃ r r', f_X11_law x1 x2 x3 x4 h = some r ∧ f_X12_law x1 x2 x3 x4 r.2 = some r' ∧ JR r'.2 := K_free (c := fun g => f_X11_law x1 x2 x3 x4 g) (m := fun g => f_X12_law x1 x2 x3 x4 g) (fun g S => z_X11_law x1 x2 x3 x4 g S (by decide)) (fun g S => z_X12_law x1 x2 x3 x4 g S (by decide)) j
theorem N_act  {h : mH} (j : JR h) : ∃ r r', f_X11_act  h = some r ∧ f_X12_act  r.2 = some r' ∧ JR r'.2 := K_free (c := fun g => f_X11_act  g) (m := fun g => f_X12_act  g) (fun g S => z_X11_act  g S (by decide)) (fun g S => z_X12_act  g S (by decide)) j
theorem N_step (x1 : Int32) (x2 : Int32) (x3 : Int32) (x4 : Int32) (x5 : Int32) {h : mH} (j : JR h) : ∃ r r', f_X11_step x1 x2 x3 x4 x5 h = some r ∧ f_X12_step x1 x2 x3 x4 x5 r.2 = some r' ∧ JR r'.2 := K_free (c := fun g => f_X11_step x1 x2 x3 x4 x5 g) (m := fun g => f_X12_step x1 x2 x3 x4 x5 g) (fun g S => z_X11_step x1 x2 x3 x4 x5 g S (by decide)) (fun g S => z_X12_step x1 x2 x3 x4 x5 g S (by decide)) j
theorem N_bare (x1 : Int32) {h : mH} (j : JR h) : ∃ r r', f_X11_bare x1 h = some r ∧ f_X12_bare x1 r.2 = some r' ∧ JR r'.2 := K_free (c := fun g => f_X11_bare x1 g) (m := fun g => f_X12_bare x1 g) (fun g S => z_X11_bare x1 g S (by decide)) (fun g S => z_X12_bare x1 g S (by decide)) j
theorem N_handler (x1 : Int32) (x2 : Int32) {h : mH} (j : JR h) : ∃ r r', f_X11_handler x1 x2 h = some r ∧ f_X12_handler x1 x2 r.2 = some r' ∧ JR r'.2 := K_free (c := fun g => f_X11_handler x1 x2 g) (m := fun g => f_X12_handler x1 x2 g) (fun g S => z_X11_handler x1 x2 g S (by decide)) (fun g S => z_X12_handler x1 x2 g S (by decide)) j
theorem N_locks (x1 : Int32) {h : mH} (j : JR h) : ∃ r r', f_X11_locks x1 h = some r ∧ f_X12_locks x1 r.2 = some r' ∧ JR r'.2 := K_free (c := fun g => f_X11_locks x1 g) (m := fun g => f_X12_locks x1 g) (fun g S => z_X11_locks x1 g S (by decide)) (fun g S => z_X12_locks x1 g S (by decide)) j
theorem N_code (x1 : Int32) {h : mH} (j : JR h) : ∃ r r', f_X11_code x1 h = some r ∧ f_X12_code x1 r.2 = some r' ∧ JR r'.2 := K_free (c := fun g => f_X11_code x1 g) (m := fun g => f_X12_code x1 g) (fun g S => z_X11_code x1 g S (by decide)) (fun g S => z_X12_code x1 g S (by decide)) j
theorem N_op (x1 : Int32) (x2 : Int32) (x3 : Int32) {h : mH} (j : JR h) : ∃ r r', f_X11_op x1 x2 x3 h = some r ∧ f_X12_op x1 x2 x3 r.2 = some r' ∧ JR r'.2 := K_free (c := fun g => f_X11_op x1 x2 x3 g) (m := fun g => f_X12_op x1 x2 x3 g) (fun g S => z_X11_op x1 x2 x3 g S (by decide)) (fun g S => z_X12_op x1 x2 x3 g S (by decide)) j
theorem N_same (x1 : Int32) (x2 : Int32) {h : mH} (j : JR h) : ∃ r r', f_X11_same x1 x2 h = some r ∧ f_X12_same x1 x2 r.2 = some r' ∧ JR r'.2 := K_free (c := fun g => f_X11_same x1 x2 g) (m := fun g => f_X12_same x1 x2 g) (fun g S => z_X11_same x1 x2 g S (by decide)) (fun g S => z_X12_same x1 x2 g S (by decide)) j
theorem N_power  {h : mH} (j : JR h) : ∃ r r', f_X11_power  h = some r ∧ f_X12_power  r.2 = some r' ∧ JR r'.2 := K_free (c := fun g => f_X11_power  g) (m := fun g => f_X12_power  g) (fun g S => z_X11_power  g S (by decide)) (fun g S => z_X12_power  g S (by decide)) j
theorem N_event (x1 : Int32) (x2 : Int32) (x3 : Int32) {h : mH} (j : JR h) : ∃ r r', f_X11_event x1 x2 x3 h = some r ∧ f_X12_event x1 x2 x3 r.2 = some r' ∧ JR r'.2 := K_free (c := fun g => f_X11_event x1 x2 x3 g) (m := fun g => f_X12_event x1 x2 x3 g) (fun g S => z_X11_event x1 x2 x3 g S (by decide)) (fun g S => z_X12_event x1 x2 x3 g S (by decide)) j
theorem N_run (x1 : Int32) {h : mH} (j : JR h) : ∃ r r', f_X11_run x1 h = some r ∧ f_X12_run x1 r.2 = some r' ∧ JR r'.2 := K_free (c := fun g => f_X11_run x1 g) (m := fun g => f_X12_run x1 g) (fun g S => z_X11_run x1 g S (by decide)) (fun g S => z_X12_run x1 g S (by decide)) j
theorem N_read (x1 : Int32) {h : mH} (j : JR h) : ∃ r r', f_X11_read x1 h = some r ∧ f_X12_read x1 r.2 = some r' ∧ JR r'.2 := K_free (c := fun g => f_X11_read x1 g) (m := fun g => f_X12_read x1 g) (fun g S => z_X11_read x1 g S (by decide)) (fun g S => z_X12_read x1 g S (by decide)) j
theorem N_write (x1 : Int32) (x2 : Int32) {h : mH} (j : JR h) : ∃ r r', f_X11_write x1 x2 h = some r ∧ f_X12_write x1 x2 r.2 = some r' ∧ JR r'.2 := K_free (c := fun g => f_X11_write x1 x2 g) (m := fun g => f_X12_write x1 x2 g) (fun g S => z_X11_write x1 x2 g S (by decide)) (fun g S => z_X12_write x1 x2 g S (by decide)) j
theorem N_wait (x1 : Int32) {h : mH} (j : JR h) : ∃ r r', f_X11_wait x1 h = some r ∧ f_X12_wait x1 r.2 = some r' ∧ JR r'.2 := K_free (c := fun g => f_X11_wait x1 g) (m := fun g => f_X12_wait x1 g) (fun g S => z_X11_wait x1 g S (by decide)) (fun g S => z_X12_wait x1 g S (by decide)) j
theorem N_peek (x1 : Int32) (x2 : Int32) {h : mH} (j : JR h) : ∃ r r', f_X11_peek x1 x2 h = some r ∧ f_X12_peek x1 x2 r.2 = some r' ∧ JR r'.2 := K_free (c := fun g => f_X11_peek x1 x2 g) (m := fun g => f_X12_peek x1 x2 g) (fun g S => pz (z_X11_peek x1 x2 g S) S) (fun g S => pz (z_X12_peek x1 x2 g S) S) j
theorem N_shadow (x1 : Int32) {h : mH} (j : JR h) : ∃ r r', f_X11_shadow x1 h = some r ∧ f_X12_shadow x1 r.2 = some r' ∧ JR r'.2 := K_free (c := fun g => f_X11_shadow x1 g) (m := fun g => f_X12_shadow x1 g) (fun g S => pz (z_X11_shadow x1 g S) S) (fun g S => pz (z_X12_shadow x1 g S) S) j
theorem N_result  {h : mH} (j : JR h) : ∃ r r', f_X11_result  h = some r ∧ f_X12_result  r.2 = some r' ∧ JR r'.2 := K_free (c := fun g => f_X11_result  g) (m := fun g => f_X12_result  g) (fun g S => pz (z_X11_result  g S) S) (fun g S => pz (z_X12_result  g S) S) j
theorem N_breaks (x1 : Int32) {h : mH} (j : JR h) : ∃ r r', f_X11_breaks x1 h = some r ∧ f_X12_breaks x1 r.2 = some r' ∧ JR r'.2 := K_free (c := fun g => f_X11_breaks x1 g) (m := fun g => f_X12_breaks x1 g) (fun g S => pz (z_X11_breaks x1 g S) S) (fun g S => pz (z_X12_breaks x1 g S) S) j
theorem N_walk (x1 : Int32) (x2 : Int32) {h : mH} (j : JR h) : ∃ r r', f_X11_walk x1 x2 h = some r ∧ f_X12_walk x1 x2 r.2 = some r' ∧ JR r'.2 := K_free (c := fun g => f_X11_walk x1 x2 g) (m := fun g => f_X12_walk x1 x2 g) (fun g S => z_X11_walk x1 x2 g S (by decide)) (fun g S => z_X12_walk x1 x2 g S (by decide)) j
theorem N_why (x1 : Int32) {h : mH} (j : JR h) : ∃ r r', f_X11_why x1 h = some r ∧ f_X12_why x1 r.2 = some r' ∧ JR r'.2 := K_free (c := fun g => f_X11_why x1 g) (m := fun g => f_X12_why x1 g) (fun g S => pz (z_X11_why x1 g S) S) (fun g S => pz (z_X12_why x1 g S) S) j
theorem N_tape (x1 : Int32) (x2 : Int32) (x3 : Int32) {h : mH} (j : JR h) : ∃ r r', f_X11_tape x1 x2 x3 h = some r ∧ f_X12_tape x1 x2 x3 r.2 = some r' ∧ JR r'.2 := K_free (c := fun g => f_X11_tape x1 x2 x3 g) (m := fun g => f_X12_tape x1 x2 x3 g) (fun g S => z_X11_tape x1 x2 x3 g S (by decide)) (fun g S => z_X12_tape x1 x2 x3 g S (by decide)) j
theorem N_image (x1 : Int32) {h : mH} (j : JR h) : ∃ r r', f_X11_image x1 h = some r ∧ f_X12_image x1 r.2 = some r' ∧ JR r'.2 := K_free (c := fun g => f_X11_image x1 g) (m := fun g => f_X12_image x1 g) (fun g S => z_X11_image x1 g S (by decide)) (fun g S => z_X12_image x1 g S (by decide)) j
theorem N_back (x1 : Int32) {h : mH} (j : JR h) : ∃ r r', f_X11_back x1 h = some r ∧ f_X12_back x1 r.2 = some r' ∧ JR r'.2 := K_free (c := fun g => f_X11_back x1 g) (m := fun g => f_X12_back x1 g) (fun g S => z_X11_back x1 g S (by decide)) (fun g S => z_X12_back x1 g S (by decide)) j
theorem N_toss (x1 : Int32) {h : mH} (j : JR h) : ∃ r r', f_X11_toss x1 h = some r ∧ f_X12_toss x1 r.2 = some r' ∧ JR r'.2 := K_free (c := fun g => f_X11_toss x1 g) (m := fun g => f_X12_toss x1 g) (fun g S => z_X11_toss x1 g S (by decide)) (fun g S => z_X12_toss x1 g S (by decide)) j
theorem N_play (x1 : Int32) (x2 : Int32) (x3 : Int32) {h : mH} (j : JR h) : ∃ r r', f_X11_play x1 x2 x3 h = some r ∧ f_X12_play x1 x2 x3 r.2 = some r' ∧ JR r'.2 := K_free (c := fun g => f_X11_play x1 x2 x3 g) (m := fun g => f_X12_play x1 x2 x3 g) (fun g S => z_X11_play x1 x2 x3 g S (by decide)) (fun g S => z_X12_play x1 x2 x3 g S (by decide)) j
theorem N_clear (x1 : Int32) {h : mH} (j : JR h) : ∃ r r', f_X11_clear x1 h = some r ∧ f_X12_clear x1 r.2 = some r' ∧ JR r'.2 := K_free (c := fun g => f_X11_clear x1 g) (m := fun g => f_X12_clear x1 g) (fun g S => z_X11_clear x1 g S (by decide)) (fun g S => z_X12_clear x1 g S (by decide)) j
theorem N_put (x1 : Int32) (x2 : Int32) (x3 : Int64) {h : mH} (j : JR h) : ∃ r r', f_X11_put x1 x2 x3 h = some r ∧ f_X12_put x1 x2 x3 r.2 = some r' ∧ JR r'.2 := K_free (c := fun g => f_X11_put x1 x2 x3 g) (m := fun g => f_X12_put x1 x2 x3 g) (fun g S => z_X11_put x1 x2 x3 g S (by decide)) (fun g S => z_X12_put x1 x2 x3 g S (by decide)) j
theorem N_copy (x1 : Int32) (x2 : Int32) (x3 : Int32) (x4 : Int32) (x5 : Int32) {h : mH} (j : JR h) : ∃ r r', f_X11_copy x1 x2 x3 x4 x5 h = some r ∧ f_X12_copy x1 x2 x3 x4 x5 r.2 = some r' ∧ JR r'.2 := K_free (c := fun g => f_X11_copy x1 x2 x3 x4 x5 g) (m := fun g => f_X12_copy x1 x2 x3 x4 x5 g) (fun g S => z_X11_copy x1 x2 x3 x4 x5 g S (by decide)) (fun g S => z_X12_copy x1 x2 x3 x4 x5 g S (by decide)) j
theorem N_count (x1 : Int32) {h : mH} (j : JR h) : ∃ r r', f_X11_count x1 h = some r ∧ f_X12_count x1 r.2 = some r' ∧ JR r'.2 := K_free (c := fun g => f_X11_count x1 g) (m := fun g => f_X12_count x1 g) (fun g S => pz (z_X11_count x1 g S) S) (fun g S => pz (z_X12_count x1 g S) S) j
theorem N_at (x1 x2 : Int32) {h : mH} (j : JR h) : ∃ r r', f_L_at x1 x2 h = some r ∧ f_X12_at x1 x2 r.2 = some r' ∧ JR r'.2 := K_free (c := fun g => f_L_at x1 x2 g) (m := fun g => f_X12_at x1 x2 g) (fun g S => z_L_at x1 x2 g S (by decide)) (fun g S => z_X12_at x1 x2 g S (by decide)) j
theorem N_begin (x1 : Int32) {h : mH} (j : JR h) : ∃ r r', f_X11_begin x1 h = some r ∧ f_X12_begin x1 r.2 = some r' ∧ JR r'.2 := K_free (c := fun g => f_X11_begin x1 g) (m := fun g => f_X12_begin x1 g) (fun g S => z_X11_begin x1 g S (by decide)) (fun g S => z_X12_begin x1 g S (by decide)) j
theorem a_begin {x : Int32} {h : mH} {r : Int32 × mH} (e : f_X11_begin x h = some r) : r.1 = if 1 ≤ x.toInt ∧ x.toInt ≤ 8 then x else -1 := by
  unfold f_X11_begin at e
  have t1 : (1 : Int32).toInt = 1 := by decide
  have t8 : (8 : Int32).toInt = 8 := by decide
  by_cases q1 : x < 1
  · rw [if_pos q1] at e
    cases e
    have := Int32.lt_iff_toInt_lt.mp q1
    rw [if_neg (by omega)]
  · rw [if_neg q1] at e
    have g1 := Int32.le_iff_toInt_le.mp (Int32.not_lt.mp q1)
    by_cases q2 : x ≤ 8
    · rw [if_pos q2] at e
      have g2 := Int32.le_iff_toInt_le.mp q2
      obtain ⟨r3, -, e⟩ := Option.bind_eq_some_iff.mp e
      obtain ⟨r4, -, e⟩ := Option.bind_eq_some_iff.mp e
      obtain ⟨r5, -, e⟩ := Option.bind_eq_some_iff.mp e
      cases e
      rw [if_pos (by omega)]
    · rw [if_neg q2] at e
      have g2 := Int32.lt_iff_toInt_lt.mp (Int32.not_le.mp q2)
      cases e
      rw [if_neg (by omega)]
theorem b_begin {x : Int32} {h : mH} {r : Int32 × mH} (e : f_X12_begin x h = some r) : r.1 = if 1 ≤ x.toInt ∧ x.toInt ≤ 8 then x else -1 := by
  unfold f_X12_begin at e
  have t1 : (1 : Int32).toInt = 1 := by decide
  have t8 : (8 : Int32).toInt = 8 := by decide
  rw [e_in, Option.bind_some] at e
  dsimp only at e
  by_cases q1 : x < 1
  · rw [if_pos q1, if_pos rfl] at e
    cases e
    have := Int32.lt_iff_toInt_lt.mp q1
    rw [if_neg (by omega)]
  · rw [if_neg q1] at e
    have g1 := Int32.le_iff_toInt_le.mp (Int32.not_lt.mp q1)
    by_cases q2 : x ≤ 8
    · rw [if_pos q2, if_neg (by decide)] at e
      have g2 := Int32.le_iff_toInt_le.mp q2
      unfold mLet at e
      obtain ⟨r5, -, e⟩ := Option.bind_eq_some_iff.mp e
      cases e
      rw [if_pos (by omega)]
    · rw [if_neg q2, if_pos rfl] at e
      have g2 := Int32.lt_iff_toInt_lt.mp (Int32.not_le.mp q2)
      cases e
      rw [if_neg (by omega)]
theorem K_begin (x1 : Int32) {h : mH} (j : JR h) : ∃ r r', f_X11_begin x1 h = some r ∧ f_X12_begin x1 r.2 = some r' ∧ r.1 = r'.1 ∧ JR r'.2 := by
  obtain ⟨r, r', e1, e2, j2⟩ := N_begin x1 j
  exact ⟨r, r', e1, e2, (a_begin e1).trans (b_begin e2).symm, j2⟩
theorem a_tape {x1 x2 x3 : Int32} {h : mH} {r : Int32 × mH} (e : f_X11_tape x1 x2 x3 h = some r) : r.1 = if (0 ≤ x1.toInt ∧ x1.toInt ≤ 5) ∧ (1 ≤ x2.toInt ∧ x2.toInt ≤ 4) ∧ x3.toInt ≤ 64 then (if x3.toInt < 0 then -14 else x3) else -1 := by
  have t0 : (0 : Int32).toInt = 0 := by decide
  have t1 : (1 : Int32).toInt = 1 := by decide
  have t4 : (4 : Int32).toInt = 4 := by decide
  have t6 : (6 : Int32).toInt = 6 := by decide
  have t64 : (64 : Int32).toInt = 64 := by decide
  unfold f_X11_tape f_X11_isTape at e
  by_cases q0 : x1 < 0
  · rw [if_pos q0, Option.bind_some, if_pos rfl] at e
    cases e
    have := Int32.lt_iff_toInt_lt.mp q0
    rw [if_neg (by omega)]
  rw [if_neg q0] at e
  have g0 := Int32.le_iff_toInt_le.mp (Int32.not_lt.mp q0)
  by_cases q1 : x1 < 6
  rotate_left
  · rw [if_neg q1, Option.bind_some, if_pos rfl] at e
    cases e
    have := Int32.le_iff_toInt_le.mp (Int32.not_lt.mp q1)
    rw [if_neg (by omega)]
  rw [if_pos q1, Option.bind_some, if_neg (show ¬ (1 : Int32) = 0 by decide)] at e
  have g1 := Int32.lt_iff_toInt_lt.mp q1
  by_cases q2 : x2 < 1
  · rw [if_pos q2] at e
    cases e
    have := Int32.lt_iff_toInt_lt.mp q2
    rw [if_neg (by omega)]
  rw [if_neg q2] at e
  have g2 := Int32.le_iff_toInt_le.mp (Int32.not_lt.mp q2)
  by_cases q3 : x2 ≤ 4
  rotate_left
  · rw [if_neg q3] at e
    cases e
    have := Int32.lt_iff_toInt_lt.mp (Int32.not_le.mp q3)
    rw [if_neg (by omega)]
  rw [if_pos q3] at e
  have g3 := Int32.le_iff_toInt_le.mp q3
  by_cases q4 : x3 ≤ 64
  rotate_left
  · rw [if_neg q4] at e
    cases e
    have := Int32.lt_iff_toInt_lt.mp (Int32.not_le.mp q4)
    rw [if_neg (by omega)]
  rw [if_pos q4] at e
  have g4 := Int32.le_iff_toInt_le.mp q4
  rw [if_pos (by omega)]
  by_cases q5 : x3 < 0
  · rw [if_pos q5] at e
    have g5 := Int32.lt_iff_toInt_lt.mp q5
    unfold f_X11_hostRefuses at e
    rw [Option.bind_some] at e
    cases e
    rw [if_pos (by omega)]
  · rw [if_neg q5] at e
    have g5 := Int32.le_iff_toInt_le.mp (Int32.not_lt.mp q5)
    split at e
    · obtain ⟨r8, -, e⟩ := Option.bind_eq_some_iff.mp e
      cases e
      rw [if_neg (by omega)]
    · cases e
theorem tape_52_ans : ∀ (n : Nat) (v1 v3 v4 : Int32) (h : mH) (r : Int32 × mH), f_X12_tape_52 (fun _ u12 _ h14 => some (u12, h14)) n v1 v3 v4 h = some r → r.1 = v3 := by
  intro n
  induction n with
  | zero => intro v1 v3 v4 h r e; cases e
  | succ n ih =>
    intro v1 v3 v4 h r e
    unfold f_X12_tape_52 at e
    split at e
    · split at e
      · exact ih _ _ _ _ _ e
      · cases e
    · cases e
      rfl
theorem b_tape {x1 x2 x3 : Int32} {h : mH} {r : Int32 × mH} (e : f_X12_tape x1 x2 x3 h = some r) : r.1 = if (0 ≤ x1.toInt ∧ x1.toInt ≤ 5) ∧ (1 ≤ x2.toInt ∧ x2.toInt ≤ 4) ∧ x3.toInt ≤ 64 then (if x3.toInt < 0 then -14 else x3) else -1 := by
  have t0 : (0 : Int32).toInt = 0 := by decide
  have t1 : (1 : Int32).toInt = 1 := by decide
  have t4 : (4 : Int32).toInt = 4 := by decide
  have t5 : (5 : Int32).toInt = 5 := by decide
  have t64 : (64 : Int32).toInt = 64 := by decide
  unfold f_X12_tape f_X12_isTape at e
  rw [e_in, Option.bind_some] at e
  dsimp only at e
  by_cases q0 : x1 < 0
  · rw [if_pos q0, if_pos (Or.inl rfl), Option.bind_some, if_pos rfl] at e
    cases e
    have := Int32.lt_iff_toInt_lt.mp q0
    rw [if_neg (by omega)]
  rw [if_neg q0] at e
  have g0 := Int32.le_iff_toInt_le.mp (Int32.not_lt.mp q0)
  by_cases q1 : x1 ≤ 5
  rotate_left
  · rw [if_neg q1, if_pos (Or.inl rfl), Option.bind_some, if_pos rfl] at e
    cases e
    have := Int32.lt_iff_toInt_lt.mp (Int32.not_le.mp q1)
    rw [if_neg (by omega)]
  rw [if_pos q1, if_pos (Or.inr rfl), Option.bind_some, if_neg (show ¬ (1 : Int32) = 0 by decide), e_in, Option.bind_some] at e
  dsimp only at e
  have g1 := Int32.le_iff_toInt_le.mp q1
  by_cases q2 : x2 < 1
  · rw [if_pos q2, if_pos rfl] at e
    cases e
    have := Int32.lt_iff_toInt_lt.mp q2
    rw [if_neg (by omega)]
  rw [if_neg q2] at e
  have g2 := Int32.le_iff_toInt_le.mp (Int32.not_lt.mp q2)
  by_cases q3 : x2 ≤ 4
  rotate_left
  · rw [if_neg q3, if_pos rfl] at e
    cases e
    have := Int32.lt_iff_toInt_lt.mp (Int32.not_le.mp q3)
    rw [if_neg (by omega)]
  rw [if_pos q3, if_neg (by decide)] at e
  have g3 := Int32.le_iff_toInt_le.mp q3
  by_cases q4 : x3 ≤ 64
  rotate_left
  · rw [if_neg q4] at e
    cases e
    have := Int32.lt_iff_toInt_lt.mp (Int32.not_le.mp q4)
    rw [if_neg (by omega)]
  rw [if_pos q4] at e
  have g4 := Int32.le_iff_toInt_le.mp q4
  rw [if_pos (by omega)]
  by_cases q5 : x3 < 0
  · rw [if_pos q5] at e
    have g5 := Int32.lt_iff_toInt_lt.mp q5
    unfold f_X12_refuse at e
    obtain ⟨r8, e1, e⟩ := Option.bind_eq_some_iff.mp e
    cases e1
    cases e
    rw [if_pos (by omega)]
  · rw [if_neg q5] at e
    have g5 := Int32.le_iff_toInt_le.mp (Int32.not_lt.mp q5)
    rw [if_neg (by omega)]
    split at e
    · exact tape_52_ans _ _ _ _ _ _ e
    · cases e
theorem K_tape (x1 x2 x3 : Int32) {h : mH} (j : JR h) : ∃ r r', f_X11_tape x1 x2 x3 h = some r ∧ f_X12_tape x1 x2 x3 r.2 = some r' ∧ r.1 = r'.1 ∧ JR r'.2 := by
  obtain ⟨r, r', e1, e2, j2⟩ := N_tape x1 x2 x3 j
  exact ⟨r, r', e1, e2, (a_tape e1).trans (b_tape e2).symm, j2⟩
