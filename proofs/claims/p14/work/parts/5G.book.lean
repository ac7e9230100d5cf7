/-! ===== the book's calls keep RC ===== -/
def djO (h : mH) : Prop := djM (nF h) (xM h)
def fpF : Nat → Bool := fun c => ([770, 2944, 3008, 3072] : List Nat).contains c
def fpW : Nat → Bool := fun c => ([770, 779, 3520, 3584] : List Nat).contains c
def fpS : Nat → Bool := fun c => ([770, 784, 3712, 3776, 3840] : List Nat).contains c
theorem djO.to {a g : mH} (f : fz fpF a g) (d : djO a) : djO g := by
  have x := fun t i k (e : fpF (ky t i k) = true) => (f t i k e).1
  intro p q hp hq hn he
  have n1 : nF g = nF a := by unfold nF; rw [x 12 0 2 rfl]
  rw [n1] at hp hq
  have m : ∀ i, mskM (xM g) i = mskM (xM a) i := by
    intro i
    unfold mskM oneM
    have e1 : (xM g).1 48 i = (xM a).1 48 i := x 48 0 i rfl
    have e2 : (xM g).1 47 i = (xM a).1 47 i := x 47 0 i rfl
    rw [e1, e2]
  rw [m, m]
  refine d p q hp hq hn ?_
  have e1 : (xM g).1 46 p = (xM a).1 46 p := x 46 0 p rfl
  have e2 : (xM g).1 46 q = (xM a).1 46 q := x 46 0 q rfl
  rw [← e1, ← e2]
  exact he
theorem lwO.to {a g : mH} (f : fz fpW a g) (d : lwO a) : lwO g := by
  have x := fun t i k (e : fpW (ky t i k) = true) => (f t i k e).1
  intro k hk
  have n1 : nL g = nL a := by unfold nL; rw [x 12 0 11 rfl]
  rw [n1] at hk
  rw [x 55 0 k rfl, x 56 0 k rfl, x 12 0 2 rfl]
  exact d k hk
theorem spO.to {a g : mH} (f : fz fpS a g) (d : spO a) : spO g := by
  have x := fun t i k (e : fpS (ky t i k) = true) => (f t i k e).1
  intro b k hb hk
  have n1 : nA g = nA a := by unfold nA; rw [x 12 0 16 rfl]
  rw [n1] at hb
  rw [x 58 0 b rfl] at hk
  rw [x 59 0 _ rfl, x 60 0 _ rfl, x 12 0 2 rfl]
  exact d b k hb hk
theorem rc_ref {r r' : Int32 × mH} {h : mH} {v : Int32} (R : RC h) (e : r = (v, h)) (e' : r' = (v, r.2)) : RC r'.2 := by
  rw [e', e]
  exact R
/-- K's row with RC besides -/
theorem bkC {c m : mH → Option (Int32 × mH)} {h : mH} (hK : ∃ r r', c h = some r ∧ m r.2 = some r' ∧ r.1 = r'.1 ∧ JR r'.2) (hR : ∀ r r', c h = some r → m r.2 = some r' → RC r'.2) : ∃ r r', c h = some r ∧ m r.2 = some r' ∧ r.1 = r'.1 ∧ JC r'.2 := by
  obtain ⟨r, r', e1, e2, v, J⟩ := hK
  exact ⟨r, r', e1, e2, v, J, hR r r' e1 e2⟩
theorem rc_locks {x1 : Int32} {h : mH} {r r' : Int32 × mH} (j : JC h) (e1 : f_X11_locks x1 h = some r) (e2 : f_X12_locks x1 r.2 = some r') : RC r'.2 := by
  rcases c_locks e1 with ⟨g, e⟩ | ⟨g, e⟩ <;> rcases d_locks e2 with ⟨g', e'⟩ | ⟨g', e'⟩ <;> first | exact absurd g' g | exact absurd g g' | exact rc_ref j.2 e e' | skip
  obtain ⟨d, l, s, c⟩ := j.2
  rw [e', e]
  refine ⟨djO.to ?_ d, lwO.to ?_ l, spO.to ?_ s, Or.inl rfl⟩ <;> (repeat (refine fz.u ?_ rfl)) <;> exact fz.rf
theorem rc_handler {x1 x2 : Int32} {h : mH} {r r' : Int32 × mH} (j : JC h) (e1 : f_X11_handler x1 x2 h = some r) (e2 : f_X12_handler x1 x2 r.2 = some r') : RC r'.2 := by
  obtain ⟨I, C, R⟩ := j.1
  obtain ⟨r0, e0, S1⟩ := z_X11_handler x1 x2 h (SI.an fpM I C) (by decide)
  rw [e1] at e0
  cases e0
  have M := S1.2.2.1
  have n : r.2.1 12 0 2 = h.1 1 0 4 := (M 12 0 2 rfl).1.trans R.1.2.1.symm
  have n2 : r.2.1 12 0 16 = h.1 1 0 6 := (M 12 0 16 rfl).1.trans R.1.2.2.2.1.symm
  have k : r.2.1 49 0 x1.toNatClampNeg = h.1 6 x1.toNatClampNeg 3 := (M 49 0 _ rfl).1.trans (R.2.1 _).1.2.2.2.1.symm
  have D := d_handler S1.1 e2
  rw [n, n2, k] at D
  rcases c_handler e1 with ⟨g, e⟩ | ⟨g, q, e⟩ | ⟨g, q, e⟩ <;> rcases D with ⟨g', e'⟩ | ⟨g', q', e'⟩ | ⟨g', q', e'⟩ <;> first | exact absurd g' g | exact absurd g g' | exact absurd q' q | exact absurd q q' | exact rc_ref j.2 e e' | skip
  obtain ⟨d, l, s, c⟩ := j.2
  rw [e', e]
  refine ⟨djO.to ?_ d, lwO.to ?_ l, spO.to ?_ s, Or.inl rfl⟩ <;> (repeat (refine fz.u ?_ rfl)) <;> exact fz.rf
theorem rc_bare {x1 : Int32} {h : mH} {r r' : Int32 × mH} (j : JC h) (e1 : f_X11_bare x1 h = some r) (e2 : f_X12_bare x1 r.2 = some r') : RC r'.2 := by
  obtain ⟨I, C, R⟩ := j.1
  obtain ⟨r0, e0, S1⟩ := z_X11_bare x1 h (SI.an fpM I C) (by decide)
  rw [e1] at e0
  cases e0
  have n : r.2.1 12 0 16 = h.1 1 0 6 := (S1.2.2.1 12 0 16 rfl).1.trans R.1.2.2.2.1.symm
  have D := d_bare S1.1 e2
  rw [n] at D
  rcases c_bare e1 with ⟨g, e⟩ | ⟨g, e⟩ <;> rcases D with ⟨g', e'⟩ | ⟨g', e'⟩ <;> first | exact absurd g' g | exact absurd g g' | exact rc_ref j.2 e e' | skip
  obtain ⟨d, l, s, c⟩ := j.2
  rw [e', e]
  refine ⟨djO.to ?_ d, lwO.to ?_ l, fun a k ha hk => ?_, Or.inl rfl⟩
  · (repeat (refine fz.u ?_ rfl)) <;> exact fz.rf
  · (repeat (refine fz.u ?_ rfl)) <;> exact fz.rf
  · by_cases y : a = x1.toNatClampNeg
    · exfalso
      rw [y] at hk
      simp [uI_1] at hk
    · simp [uI_1, y] at hk ⊢
      exact s a k ha hk
theorem rc_act {h : mH} {r r' : Int32 × mH} (j : JC h) (e1 : f_X11_act h = some r) (e2 : f_X12_act r.2 = some r') : RC r'.2 := by
  obtain ⟨I, C, R⟩ := j.1
  obtain ⟨r0, e0, S1⟩ := z_X11_act h (SI.an fpM I C) (by decide)
  rw [e1] at e0
  cases e0
  have n : r.2.1 12 0 16 = h.1 1 0 6 := (S1.2.2.1 12 0 16 rfl).1.trans R.1.2.2.2.1.symm
  have D := d_act S1.1 e2
  rw [n] at D
  rcases c_act e1 with ⟨g, e⟩ | ⟨g, e⟩ <;> rcases D with ⟨g', e'⟩ | ⟨g', e'⟩ <;> first | exact absurd g' g | exact absurd g g' | exact rc_ref j.2 e e' | skip
  obtain ⟨d, l, s, c⟩ := j.2
  have b : 0 ≤ (h.1 1 0 6).toInt ∧ (h.1 1 0 6).toInt ≤ 6 := I 1 0 6
  have t1 : (1 : Int32).toInt = 1 := by decide
  have a1 : (h.1 1 0 6 + 1).toInt = (h.1 1 0 6).toInt + (1 : Int32).toInt := ti_add (by omega) (by omega)
  have y0 := cl_int b.1
  have y1 := cl_int (x := h.1 1 0 6 + 1) (by omega)
  have e6 := R.1.2.2.2.1
  rw [e', e]
  refine ⟨djO.to ?_ d, lwO.to ?_ l, fun a k ha hk => ?_, Or.inl rfl⟩
  · (repeat (refine fz.u ?_ rfl)) <;> exact fz.rf
  · (repeat (refine fz.u ?_ rfl)) <;> exact fz.rf
  · have ha2 : a < (h.1 1 0 6 + 1).toNatClampNeg := ha
    by_cases y : a = (h.1 1 0 6).toNatClampNeg
    · exfalso
      rw [y] at hk
      simp [uI_1] at hk
    · simp [uI_1, y] at hk ⊢
      refine s a k ?_ hk
      unfold nA
      rw [← e6]
      omega
theorem rc_law {x1 x2 x3 x4 : Int32} {h : mH} {r r' : Int32 × mH} (j : JC h) (e1 : f_X11_law x1 x2 x3 x4 h = some r) (e2 : f_X12_law x1 x2 x3 x4 r.2 = some r') : RC r'.2 := by
  obtain ⟨I, C, R⟩ := j.1
  obtain ⟨r0, e0, S1⟩ := z_X11_law x1 x2 x3 x4 h (SI.an fpM I C) (by decide)
  rw [e1] at e0
  cases e0
  have M := S1.2.2.1
  have n : r.2.1 12 0 2 = h.1 1 0 4 := (M 12 0 2 rfl).1.trans R.1.2.1.symm
  have k : r.2.1 12 0 11 = h.1 1 0 5 := (M 12 0 11 rfl).1.trans R.1.2.2.1.symm
  have D := d_law S1.1 e2
  rw [n, k] at D
  rcases c_law e1 with ⟨g, e⟩ | ⟨g, q, e⟩ | ⟨g, q, e⟩ <;> rcases D with ⟨g', e'⟩ | ⟨g', q', e'⟩ | ⟨g', q', e'⟩ <;> first | exact absurd g' g | exact absurd g g' | exact absurd q' q | exact absurd q q' | exact rc_ref j.2 e e' | skip
  obtain ⟨d, l, s, c⟩ := j.2
  have b : 0 ≤ (h.1 1 0 5).toInt ∧ (h.1 1 0 5).toInt ≤ 12 := I 1 0 5
  have t1 : (1 : Int32).toInt = 1 := by decide
  have a1 : (h.1 1 0 5 + 1).toInt = (h.1 1 0 5).toInt + (1 : Int32).toInt := ti_add (by omega) (by omega)
  have y0 := cl_int b.1
  have y1 := cl_int (x := h.1 1 0 5 + 1) (by omega)
  have e5 := R.1.2.2.1
  have e4 := R.1.2.1
  unfold gLaw at g
  rw [e', e]
  refine ⟨djO.to ?_ d, fun i hi => ?_, spO.to ?_ s, Or.inl rfl⟩
  · (repeat (refine fz.u ?_ rfl)) <;> exact fz.rf
  · have hi2 : i < (h.1 1 0 5 + 1).toNatClampNeg := hi
    by_cases y : i = (h.1 1 0 5).toNatClampNeg
    · simp [uI_1, y]
      rw [← e4]
      omega
    · have z := l i (by unfold nL; rw [← e5]; omega)
      simp [uI_1, y]
      exact z
  · (repeat (refine fz.u ?_ rfl)) <;> exact fz.rf
theorem rc_step {x1 x2 x3 x4 x5 : Int32} {h : mH} {r r' : Int32 × mH} (j : JC h) (e1 : f_X11_step x1 x2 x3 x4 x5 h = some r) (e2 : f_X12_step x1 x2 x3 x4 x5 r.2 = some r') : RC r'.2 := by
  obtain ⟨I, C, R⟩ := j.1
  obtain ⟨r0, e0, S1⟩ := z_X11_step x1 x2 x3 x4 x5 h (SI.an fpM I C) (by decide)
  rw [e1] at e0
  cases e0
  have M := S1.2.2.1
  have n : r.2.1 12 0 2 = h.1 1 0 4 := (M 12 0 2 rfl).1.trans R.1.2.1.symm
  have n2 : r.2.1 12 0 16 = h.1 1 0 6 := (M 12 0 16 rfl).1.trans R.1.2.2.2.1.symm
  have k : ∀ c, r.2.1 49 0 c = h.1 6 c 3 := fun c => (M 49 0 c rfl).1.trans (R.2.1 c).1.2.2.2.1.symm
  have k2 : ∀ c, r.2.1 48 0 c = h.1 6 c 2 := fun c => (M 48 0 c rfl).1.trans (R.2.1 c).1.2.2.1.symm
  have sc : ∀ a, r.2.1 58 0 a = h.1 0 a 5 := fun a => (M 58 0 a rfl).1.trans (R.2.2.2.1.1 a).symm
  have D := d_step S1.1 (fun c => by rw [k2 c]; exact (R.2.1 c).2.2.2) e2
  rw [n, n2, k, k2, sc] at D
  rcases c_step I e1 with ⟨g, e⟩ | ⟨g, q, e⟩ | ⟨g, q, p, e⟩ | ⟨g, q, p, e⟩ <;> rcases D with ⟨g', e'⟩ | ⟨g', q', e'⟩ | ⟨g', q', p', e'⟩ | ⟨g', q', p', e'⟩ <;> first | exact absurd g' g | exact absurd g g' | exact absurd q' q | exact absurd q q' | exact absurd p' p | exact absurd p p' | exact rc_ref j.2 e e' | skip
  obtain ⟨d, l, s, c⟩ := j.2
  have sa := sc x1.toNatClampNeg
  have s5 := R.2.2.2.1.1 x1.toNatClampNeg
  unfold stM at e'
  rw [sa] at e'
  have b : 0 ≤ (h.1 0 x1.toNatClampNeg 5).toInt ∧ (h.1 0 x1.toNatClampNeg 5).toInt ≤ 12 := I 0 _ 5
  have t1 : (1 : Int32).toInt = 1 := by decide
  have a1 : (h.1 0 x1.toNatClampNeg 5 + 1).toInt = (h.1 0 x1.toNatClampNeg 5).toInt + (1 : Int32).toInt := ti_add (by omega) (by omega)
  have y0 := cl_int b.1
  have y1 := cl_int (x := h.1 0 x1.toNatClampNeg 5 + 1) (by omega)
  have e4 := R.1.2.1
  have b58 : ∀ a, 0 ≤ (h.1 58 0 a).toInt ∧ (h.1 58 0 a).toInt ≤ 12 := fun a => I 58 0 a
  unfold gStp at g
  rw [e', e]
  unfold stC
  refine ⟨djO.to ?_ d, lwO.to ?_ l, fun a i ha hi => ?_, Or.inl rfl⟩
  · (repeat (refine fz.u ?_ rfl)) <;> exact fz.rf
  · (repeat (refine fz.u ?_ rfl)) <;> exact fz.rf
  · have ha2 : a < nA h := ha
    have hi12 : i < 12 ∨ 12 ≤ i := by omega
    by_cases y : a = x1.toNatClampNeg
    · rw [y] at hi ⊢
      simp [uI_1] at hi
      by_cases w : i = (h.1 0 x1.toNatClampNeg 5).toNatClampNeg
      · simp [uI_1, w]
        rw [← e4]
        by_cases x3' : x2 = 3
        · exact Or.inl x3'
        · have := ti_ne x3'
          have t3 : (3 : Int32).toInt = 3 := by decide
          exact Or.inr (by omega)
      · simp [uI_1, w]
        refine s _ i (by rw [← y]; exact ha2) ?_
        rw [← s5]
        omega
    · simp [uI_1, y] at hi
      have ba := b58 a
      have ya := cl_int ba.1
      have w : ¬ (12 * a + i = 12 * x1.toNatClampNeg + (h.1 0 x1.toNatClampNeg 5).toNatClampNeg) := by omega
      simp [uI_1, w]
      exact s a i ha2 hi
