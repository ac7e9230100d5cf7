/-! ===== what stays alike in class and reference: the book, the steps, the tapes ===== -/
def Kc : List Nat := [5, 67, 68, 69, 70, 71, 384, 385, 386, 387, 388, 389, 390, 391, 392, 393, 448, 449, 450, 451, 576, 577, 1280, 1344, 1408, 1472, 2688]
def Km : List Nat := [769, 770, 779, 784, 790, 2944, 3008, 3072, 3136, 3200, 3264, 3328, 3392, 3456, 3520, 3584, 3648, 3712, 3776, 3840, 3904, 3968, 5696, 5760, 5824]
def fpM : Nat → Bool := fun c => Km.contains c
def fpK : Nat → Bool := fun c => (Kc ++ Km).contains c
def fp0 : Nat → Bool := fun _ => false
def fpB : Nat → Bool := fun c => ([384, 385, 386, 387, 388, 389, 390, 391, 392, 393, 2944, 3008, 3072, 3136, 3200, 3264, 3328, 3392] : List Nat).contains c
def fpL : Nat → Bool := fun c => ([448, 449, 450, 451, 3456, 3520, 3584, 3648] : List Nat).contains c
def fpP : Nat → Bool := fun c => ([5, 1280, 1344, 1408, 1472, 3712, 3776, 3840, 3904, 3968] : List Nat).contains c
def fpT : Nat → Bool := fun c => ([576, 577, 2688, 5696, 5760, 5824] : List Nat).contains c
def fpA : Nat → Bool := fun c => ([67, 68, 69, 70, 71, 769, 770, 779, 784, 790] : List Nat).contains c
theorem fz.rf {fp : Nat → Bool} {a : mH} : fz fp a a := fun _ _ _ _ => ⟨rfl, rfl⟩
theorem fz.tr {fp : Nat → Bool} {a b c : mH} (f : fz fp a b) (g : fz fp b c) : fz fp a c := fun t i k e => ⟨(g t i k e).1.trans (f t i k e).1, (g t i k e).2.trans (f t i k e).2⟩
theorem fz.c {fp : Nat → Bool} {a b : mH} {t i k : Nat} {x : Int32} (f : fz fp a b) : fz fp (uI a t i k x) (uI b t i k x) := by
  intro t' i' k' e
  refine ⟨?_, (f t' i' k' e).2⟩
  show (if t' = t ∧ i' = i ∧ k' = k then x else b.1 t' i' k') = (if t' = t ∧ i' = i ∧ k' = k then x else a.1 t' i' k')
  rw [(f t' i' k' e).1]
theorem fz.cj {fp : Nat → Bool} {a b : mH} {t i k : Nat} {x : Int64} (f : fz fp a b) : fz fp (uJ a t i k x) (uJ b t i k x) := by
  intro t' i' k' e
  refine ⟨(f t' i' k' e).1, ?_⟩
  show (if t' = t ∧ i' = i ∧ k' = k then x else b.2 t' i' k') = (if t' = t ∧ i' = i ∧ k' = k then x else a.2 t' i' k')
  rw [(f t' i' k' e).2]
theorem fz.lo {fp fq : Nat → Bool} {a b : mH} (f : fz fp a b) (s : ∀ c, fq c = true → fp c = true) : fz fq a b := fun t i k e => f t i k (s _ e)
def one (w : Int32) : Int32 := (1 <<< (w &&& 31)) - 1
def RA (h : mH) : Prop := h.1 1 0 3 = h.1 12 0 1 ∧ h.1 1 0 4 = h.1 12 0 2 ∧ h.1 1 0 5 = h.1 12 0 11 ∧ h.1 1 0 6 = h.1 12 0 16 ∧ h.1 1 0 7 = h.1 12 0 22
def RB (h : mH) : Prop := ∀ i, (h.1 6 i 0 = h.1 46 0 i ∧ h.1 6 i 1 = h.1 47 0 i ∧ h.1 6 i 2 = h.1 48 0 i ∧ h.1 6 i 3 = h.1 49 0 i ∧ h.1 6 i 4 = h.1 50 0 i ∧ h.1 6 i 7 = h.1 51 0 i ∧ h.1 6 i 8 = h.1 52 0 i ∧ h.1 6 i 9 = h.1 53 0 i) ∧ h.1 6 i 5 = one (h.1 6 i 2) ∧ h.1 6 i 6 = one (h.1 6 i 2) <<< (h.1 6 i 1 &&& 31) ∧ 0 ≤ (h.1 6 i 2).toInt ∧ (h.1 6 i 2).toInt ≤ 8
def RW (h : mH) : Prop := ∀ i, h.1 7 i 0 = h.1 54 0 i ∧ h.1 7 i 1 = h.1 55 0 i ∧ h.1 7 i 2 = h.1 56 0 i ∧ h.1 7 i 3 = h.1 57 0 i
def RP (h : mH) : Prop := (∀ a, h.1 0 a 5 = h.1 58 0 a) ∧ ∀ a k, k < 12 → h.1 20 a k = h.1 59 0 (12 * a + k) ∧ h.1 21 a k = h.1 60 0 (12 * a + k) ∧ h.1 22 a k = h.1 61 0 (12 * a + k) ∧ h.1 23 a k = h.1 62 0 (12 * a + k)
def RT (h : mH) : Prop := (∀ d, h.1 9 d 0 = h.1 89 0 d) ∧ (∀ d, h.1 9 d 0 ≠ 0 → h.1 9 d 0 ≠ 5 → h.1 9 d 1 = h.1 90 0 d) ∧ ∀ d k, k < 64 → h.2 42 d k = h.2 91 0 (64 * d + k)
def RR (h : mH) : Prop := RA h ∧ RB h ∧ RW h ∧ RP h ∧ RT h
theorem RA.to {a g : mH} (f : fz fpA a g) (r : RA a) : RA g := by
  obtain ⟨a1, a2, a3, a4, a5⟩ := r
  have x := fun t i k (e : fpA (ky t i k) = true) => (f t i k e).1
  exact ⟨by rw [x 1 0 3 rfl, x 12 0 1 rfl]; exact a1, by rw [x 1 0 4 rfl, x 12 0 2 rfl]; exact a2, by rw [x 1 0 5 rfl, x 12 0 11 rfl]; exact a3, by rw [x 1 0 6 rfl, x 12 0 16 rfl]; exact a4, by rw [x 1 0 7 rfl, x 12 0 22 rfl]; exact a5⟩
theorem RB.to {a g : mH} (f : fz fpB a g) (r : RB a) : RB g := by
  have x := fun t i k (e : fpB (ky t i k) = true) => (f t i k e).1
  intro i
  rw [x 6 i 0 rfl, x 6 i 1 rfl, x 6 i 2 rfl, x 6 i 3 rfl, x 6 i 4 rfl, x 6 i 5 rfl, x 6 i 6 rfl, x 6 i 7 rfl, x 6 i 8 rfl, x 6 i 9 rfl, x 46 0 i rfl, x 47 0 i rfl, x 48 0 i rfl, x 49 0 i rfl, x 50 0 i rfl, x 51 0 i rfl, x 52 0 i rfl, x 53 0 i rfl]
  exact r i
theorem RW.to {a g : mH} (f : fz fpL a g) (r : RW a) : RW g := by
  have x := fun t i k (e : fpL (ky t i k) = true) => (f t i k e).1
  intro i
  rw [x 7 i 0 rfl, x 7 i 1 rfl, x 7 i 2 rfl, x 7 i 3 rfl, x 54 0 i rfl, x 55 0 i rfl, x 56 0 i rfl, x 57 0 i rfl]
  exact r i
theorem RP.to {a g : mH} (f : fz fpP a g) (r : RP a) : RP g := by
  have x := fun t i k (e : fpP (ky t i k) = true) => (f t i k e).1
  refine ⟨fun b => ?_, fun b k hk => ?_⟩
  · rw [x 0 b 5 rfl, x 58 0 b rfl]
    exact r.1 b
  · rw [x 20 b k rfl, x 21 b k rfl, x 22 b k rfl, x 23 b k rfl, x 59 0 _ rfl, x 60 0 _ rfl, x 61 0 _ rfl, x 62 0 _ rfl]
    exact r.2 b k hk
theorem RT.to {a g : mH} (f : fz fpT a g) (r : RT a) : RT g := by
  have x := fun t i k (e : fpT (ky t i k) = true) => (f t i k e).1
  have y := fun t i k (e : fpT (ky t i k) = true) => (f t i k e).2
  refine ⟨fun d => ?_, fun d => ?_, fun d k hk => ?_⟩
  · rw [x 9 d 0 rfl, x 89 0 d rfl]
    exact r.1 d
  · rw [x 9 d 0 rfl, x 9 d 1 rfl, x 90 0 d rfl]
    exact r.2.1 d
  · rw [y 42 d k rfl, y 91 0 _ rfl]
    exact r.2.2 d k hk
theorem sub_of {l m : List Nat} (h : ∀ c ∈ l, c ∈ m) : ∀ c, l.contains c = true → m.contains c = true := fun c e => List.contains_iff_mem.mpr (h c (List.contains_iff_mem.mp e))
theorem RR.to {a g : mH} (f : fz fpK a g) (r : RR a) : RR g :=
  ⟨r.1.to (f.lo (sub_of (by decide))), r.2.1.to (f.lo (sub_of (by decide))), r.2.2.1.to (f.lo (sub_of (by decide))), r.2.2.2.1.to (f.lo (sub_of (by decide))), r.2.2.2.2.to (f.lo (sub_of (by decide)))⟩
def JR (h : mH) : Prop := IR h ∧ CCs h ∧ RR h
theorem RR_h0 : RR h0 := by
  refine ⟨⟨rfl, rfl, rfl, rfl, rfl⟩, fun i => ⟨⟨rfl, rfl, rfl, rfl, rfl, rfl, rfl, rfl⟩, ?_, ?_, ?_, ?_⟩, fun i => ⟨rfl, rfl, rfl, rfl⟩, ⟨fun a => rfl, fun a k _ => ⟨rfl, rfl, rfl, rfl⟩⟩, fun d => rfl, fun d z => absurd rfl z, fun d k _ => rfl⟩
  · show (0 : Int32) = one 0
    decide
  · show (0 : Int32) = one 0 <<< ((0 : Int32) &&& 31)
    decide
  · show (0 : Int) ≤ (0 : Int32).toInt
    decide
  · show (0 : Int32).toInt ≤ 8
    decide
theorem JR_h0 : JR h0 := ⟨IR_h0, CCs_h0, RR_h0⟩
theorem K_free {β γ : Type} {c : mH → Option (β × mH)} {m : mH → Option (γ × mH)} {B C : Nat} (hc : ∀ g, SI fpK g 0 g → ∃ r, c g = some r ∧ SI fpK g B r.2) (hm : ∀ g, SI fpK g 0 g → ∃ r, m g = some r ∧ SI fpK g C r.2) {h : mH} (j : JR h) : ∃ r r', c h = some r ∧ m r.2 = some r' ∧ JR r'.2 := by
  obtain ⟨i, cc, q⟩ := j
  obtain ⟨r, e1, s1⟩ := hc h (SI.an fpK i cc)
  obtain ⟨r', e2, s2⟩ := hm r.2 (SI.an fpK s1.1 s1.2.1)
  exact ⟨r, r', e1, e2, s2.1, s2.2.1, RR.to s2.2.2.1 (RR.to s1.2.2.1 q)⟩
theorem pz {β : Type} {c : mH → Option (β × mH)} {g : mH} (h : ∃ r, c g = some r ∧ r.2 = g) (S : SI fpK g 0 g) : ∃ r, c g = some r ∧ SI fpK g 0 r.2 := by
  obtain ⟨r, e, e2⟩ := h
  exact ⟨r, e, by rw [e2]; exact S⟩
-- free rows
theorem N_code (x1 : Int32) {h : mH} (j : JR h) : ∃ r r', f_X11_code x1 h = some r ∧ f_X12_code x1 r.2 = some r' ∧ JR r'.2 := K_free (c := fun g => f_X11_code x1 g) (m := fun g => f_X12_code x1 g) (fun g S => z_X11_code x1 g S (by decide)) (fun g S => z_X12_code x1 g S (by decide)) j
theorem N_op (x1 : Int32) (x2 : Int32) (x3 : Int32) {h : mH} (j : JR h) : ∃ r r', f_X11_op x1 x2 x3 h = some r ∧ f_X12_op x1 x2 x3 r.2 = some r' ∧ JR r'.2 := K_free (c := fun g => f_X11_op x1 x2 x3 g) (m := fun g => f_X12_op x1 x2 x3 g) (fun g S => z_X11_op x1 x2 x3 g S (by decide)) (fun g S => z_X12_op x1 x2 x3 g S (by decide)) j
theorem N_same (x1 : Int32) (x2 : Int32) {h : mH} (j : JR h) : ∃ r r', f_X11_same x1 x2 h = some r ∧ f_X12_same x1 x2 r.2 = some r' ∧ JR r'.2 := K_free (c := fun g => f_X11_same x1 x2 g) (m := fun g => f_X12_same x1 x2 g) (fun g S => z_X11_same x1 x2 g S (by decide)) (fun g S => z_X12_same x1 x2 g S (by decide)) j
theorem N_power  {h : mH} (j : JR h) : ∃ r r', f_X11_power  h = some r ∧ f_X12_power  r.2 = some r' ∧ JR r'.2 := K_free (c := fun g => f_X11_power  g) (m := fun g => f_X12_power  g) (fun g S => z_X11_power  g S (by decide)) (fun g S => z_X12_power  g S (by decide)) j
theorem N_event (x1 : Int32) (x2 : Int32) (x3 : Int32) {h : mH} (j : JR h) : ∃ r r', f_X11_event x1 x2 x3 h = some r ∧ f_X12_event x1 x2 x3 r.2 = some r' ∧ JR r'.2 := K_free (c := fun g => f_X11_event x1 x2 x3 g) (m := fun g => f_X12_event x1 x2 x3 g) (fun g S => z_X11_event x1 x2 x3 g S (by decide)) (fun g S => z_X12_event x1 x2 x3 g S (by decide)) j
theorem N_run (x1 : Int32) {h : mH} (j : JR h) : ∃ r r', f_X11_run x1 h = some r ∧ f_X12_run x1 r.2 = some r' ∧ JR r'.2 := K_free (c := fun g => f_X11_run x1 g) (m := fun g => f_X12_run x1 g) (fun g S => z_X11_run x1 g S (by decide)) (fun g S => z_X12_run x1 g S (by decide)) j
theorem N_read (x1 : Int32) {h : mH} (j : JR h) : ∃ r r', f_X11_read x1 h = some r ∧ f_X12_read x1 r.2 = some r' ∧ JR r'.2 := K_free (c := fun g => f_X11_read x1 g) (m := fun g => f_X12_read x1 g) (fun g S => z_X11_read x1 g S (by decide)) (fun g S => z_X12_read x1 g S (by decide)) j
theorem N_write (x1 : Int32) (x2 : Int32) {h : mH} (j : JR h) : ∃ r r', f_X11_write x1 x2 h = some r ∧ f_X12_write x1 x2 r.2 = some r' ∧ JR r'.2 := K_free (c := fun g => f_X11_write x1 x2 g) (m := fun g => f_X12_write x1 x2 g) (fun g S => z_X11_write x1 x2 g S (by decide)) (fun g S => z_X12_write x1 x2 g S (by decide)) j
theorem N_wait (x1 : Int32) {h : mH} (j : JR h) : ∃ r r', f_X11_wait x1 h = some r ∧ f_X12_wait x1 r.2 = some r' ∧ JR r'.2 := K_free (c := fun g => f_X11_wait x1 g) (m := fun g => f_X12_wait x1 g) (fun g S => z_X11_wait x1 g S (by decide)) (fun g S => z_X12_wait x1 g S (by decide)) j
theorem N_peek (x1 : Int32) (x2 : Int32) {h : mH} (j : JR h) : ∃ r r', f_X11_peek x1 x2 h = some r ∧ f_X12_peek x1 x2 r.2 = some r' ∧ JR r'.2 := K_free (c := fun g => f_X11_peek x1 x2 g) (m := fun g => f_X12_peek x1 x2 g) (fun g S => pz (z_X11_peek x1 x2 g S) S) (fun g S => pz (z_X12_peek x1 x2 g S) S) j
theorem N_shadow (x1 : Int32) {h : mH} (j : JR h) : ∃ r r', f_X11_shadow x1 h = some r ∧ f_X12_shadow x1 r.2 = some r' ∧ JR r'.2 := K_free (c := fun g => f_X11_shadow x1 g) (m := fun g => f_X12_shadow x1 g) (fun g S => pz (z_X11_shadow x1 g S) S) (fun g S => pz (z_X12_shadow x1 g S) S) j
theorem N_result  {h : mH} (j : JR h) : ∃ r r', f_X11_result  h = some r ∧ f_X12_result  r.2 = some r' ∧ JR r'.2 := K_free (c := fun g => f_X11_result  g) (m := fun g => f_X12_result  g) (fun g S => pz (z_X11_result  g S) S) (fun g S => pz (z_X12_result  g S) S) j
theorem N_breaks (x1 : Int32) {h : mH} (j : JR h) : ∃ r r', f_X11_breaks x1 h = some r ∧ f_X12_breaks x1 r.2 = some r' ∧ JR r'.2 := K_free (c := fun g => f_X11_breaks x1 g) (m := fun g => f_X12_breaks x1 g) (fun g S => pz (z_X11_breaks x1 g S) S) (fun g S => pz (z_X12_breaks x1 g S) S) j
theorem N_walk (x1 : Int32) (x2 : Int32) {h : mH} (j : JR h) : ∃ r r', f_X11_walk x1 x2 h = some r ∧ f_X12_walk x1 x2 r.2 = some r' ∧ JR r'.2 := K_free (c := fun g => f_X11_walk x1 x2 g) (m := fun g => f_X12_walk x1 x2 g) (fun g S => z_X11_walk x1 x2 g S (by decide)) (fun g S => z_X12_walk x1 x2 g S (by decide)) j
theorem N_why (x1 : Int32) {h : mH} (j : JR h) : ∃ r r', f_X11_why x1 h = some r ∧ f_X12_why x1 r.2 = some r' ∧ JR r'.2 := K_free (c := fun g => f_X11_why x1 g) (m := fun g => f_X12_why x1 g) (fun g S => pz (z_X11_why x1 g S) S) (fun g S => pz (z_X12_why x1 g S) S) j
theorem N_back (x1 : Int32) {h : mH} (j : JR h) : ∃ r r', f_X11_back x1 h = some r ∧ f_X12_back x1 r.2 = some r' ∧ JR r'.2 := K_free (c := fun g => f_X11_back x1 g) (m := fun g => f_X12_back x1 g) (fun g S => z_X11_back x1 g S (by decide)) (fun g S => z_X12_back x1 g S (by decide)) j
theorem N_toss (x1 : Int32) {h : mH} (j : JR h) : ∃ r r', f_X11_toss x1 h = some r ∧ f_X12_toss x1 r.2 = some r' ∧ JR r'.2 := K_free (c := fun g => f_X11_toss x1 g) (m := fun g => f_X12_toss x1 g) (fun g S => z_X11_toss x1 g S (by decide)) (fun g S => z_X12_toss x1 g S (by decide)) j
theorem N_play (x1 : Int32) (x2 : Int32) (x3 : Int32) {h : mH} (j : JR h) : ∃ r r', f_X11_play x1 x2 x3 h = some r ∧ f_X12_play x1 x2 x3 r.2 = some r' ∧ JR r'.2 := K_free (c := fun g => f_X11_play x1 x2 x3 g) (m := fun g => f_X12_play x1 x2 x3 g) (fun g S => z_X11_play x1 x2 x3 g S (by decide)) (fun g S => z_X12_play x1 x2 x3 g S (by decide)) j
theorem N_count (x1 : Int32) {h : mH} (j : JR h) : ∃ r r', f_X11_count x1 h = some r ∧ f_X12_count x1 r.2 = some r' ∧ JR r'.2 := K_free (c := fun g => f_X11_count x1 g) (m := fun g => f_X12_count x1 g) (fun g S => pz (z_X11_count x1 g S) S) (fun g S => pz (z_X12_count x1 g S) S) j
theorem N_at (x1 x2 : Int32) {h : mH} (j : JR h) : ∃ r r', f_L_at x1 x2 h = some r ∧ f_X12_at x1 x2 r.2 = some r' ∧ JR r'.2 := K_free (c := fun g => f_L_at x1 x2 g) (m := fun g => f_X12_at x1 x2 g) (fun g S => z_L_at x1 x2 g S (by decide)) (fun g S => z_X12_at x1 x2 g S (by decide)) j
