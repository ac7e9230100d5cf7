/-! ===== what stays true besides: fields share no bit, laws and steps name fields, code is made ===== -/
def rl (t k : Nat) : Bool := (Nat.ble 46 t && Nat.ble t 50) || ((Nat.ble 53 t && Nat.ble t 62) || (Nat.beq t 12 && (Nat.beq k 2 || (Nat.beq k 11 || (Nat.beq k 16 || Nat.beq k 22)))))
def zM (B : mM) : mM := (fun t k => bif rl t k then B.1 t k else 0, fun _ _ => 0)
theorem opG_z (B : mM) (p i : Nat) : opG (zM B) p i = opG B p i := rfl
theorem stB_z (B : mM) (p : Nat) : stB (zM B) p = stB B p := rfl
theorem joM_z (B : mM) (p i : Nat) : joM (zM B) p i = joM B p i := rfl
theorem cdS_z (B : mM) : ∀ d p i, cdS (zM B) d p i = cdS B d p i := by
  intro d
  induction d with
  | zero => intro p i; rfl
  | succ d ih =>
    intro p i
    have e59 : (zM B).1 59 i = B.1 59 i := rfl
    unfold cdS
    simp only [ih, opG_z, stB_z, joM_z, e59]
theorem cdM_z (B : mM) (a : Nat) : cdM (zM B) a = cdM B a := cdS_z B _ _ _
theorem cdM_to {A B : mM} (e : ∀ t k, rl t k = true → A.1 t k = B.1 t k) (a : Nat) : cdM A a = cdM B a := by
  rw [← cdM_z A, ← cdM_z B]
  have : zM A = zM B := by
    unfold zM
    congr 1
    funext t k
    cases q : rl t k
    · rfl
    · exact e t k q
  rw [this]
def nF (h : mH) : Nat := (h.1 12 0 2).toNatClampNeg
def nL (h : mH) : Nat := (h.1 12 0 11).toNatClampNeg
def nA (h : mH) : Nat := (h.1 12 0 16).toNatClampNeg
def cdO (h : mH) : Prop := h.1 1 0 9 = 0 ∨ ∀ b, b < nA h → CC h b (cdM (xM h) b)
def lwO (h : mH) : Prop := ∀ l, l < nL h → (h.1 55 0 l).toInt < (h.1 12 0 2).toInt ∧ (h.1 56 0 l).toInt < (h.1 12 0 2).toInt
def spO (h : mH) : Prop := ∀ a j, a < nA h → j < (h.1 58 0 a).toNatClampNeg → h.1 59 0 (12 * a + j) = 3 ∨ (h.1 60 0 (12 * a + j)).toInt < (h.1 12 0 2).toInt
def RC (h : mH) : Prop := djM (nF h) (xM h) ∧ lwO h ∧ spO h ∧ cdO h
def KC : List Nat := [770, 779, 784, 790, 2944, 3008, 3072, 3136, 3200, 3392, 3456, 3520, 3584, 3648, 3712, 3776, 3840, 3904, 3968, 73, 193, 2048]
def fpC : Nat → Bool := fun c => KC.contains c
def fpD : Nat → Bool := fun c => ([73, 193, 2048] : List Nat).contains c
theorem rl_key {t k : Nat} (h : rl t k = true) : fpC (ky t 0 k) = true := by
  unfold rl at h
  rw [Bool.or_eq_true, Bool.or_eq_true, Bool.and_eq_true, Bool.and_eq_true, Bool.and_eq_true] at h
  rcases h with h | h | h
  · have h1 := Nat.le_of_ble_eq_true h.1
    have h2 := Nat.le_of_ble_eq_true h.2
    have : t = 46 ∨ t = 47 ∨ t = 48 ∨ t = 49 ∨ t = 50 := by omega
    rcases this with rfl | rfl | rfl | rfl | rfl <;> rfl
  · have h1 := Nat.le_of_ble_eq_true h.1
    have h2 := Nat.le_of_ble_eq_true h.2
    have : t = 53 ∨ t = 54 ∨ t = 55 ∨ t = 56 ∨ t = 57 ∨ t = 58 ∨ t = 59 ∨ t = 60 ∨ t = 61 ∨ t = 62 := by omega
    rcases this with rfl | rfl | rfl | rfl | rfl | rfl | rfl | rfl | rfl | rfl <;> rfl
  · have h1 := Nat.eq_of_beq_eq_true h.1
    subst h1
    have h2 := h.2
    rw [Bool.or_eq_true, Bool.or_eq_true, Bool.or_eq_true] at h2
    rcases h2 with h2 | h2 | h2 | h2 <;> (have h3 := Nat.eq_of_beq_eq_true h2; subst h3; rfl)
theorem rl_K {t k : Nat} (h : rl t k = true) : fpK (ky t 0 k) = true := by
  unfold rl at h
  rw [Bool.or_eq_true, Bool.or_eq_true, Bool.and_eq_true, Bool.and_eq_true, Bool.and_eq_true] at h
  rcases h with h | h | h
  · have h1 := Nat.le_of_ble_eq_true h.1
    have h2 := Nat.le_of_ble_eq_true h.2
    have : t = 46 ∨ t = 47 ∨ t = 48 ∨ t = 49 ∨ t = 50 := by omega
    rcases this with rfl | rfl | rfl | rfl | rfl <;> rfl
  · have h1 := Nat.le_of_ble_eq_true h.1
    have h2 := Nat.le_of_ble_eq_true h.2
    have : t = 53 ∨ t = 54 ∨ t = 55 ∨ t = 56 ∨ t = 57 ∨ t = 58 ∨ t = 59 ∨ t = 60 ∨ t = 61 ∨ t = 62 := by omega
    rcases this with rfl | rfl | rfl | rfl | rfl | rfl | rfl | rfl | rfl | rfl <;> rfl
  · have h1 := Nat.eq_of_beq_eq_true h.1
    subst h1
    have h2 := h.2
    rw [Bool.or_eq_true, Bool.or_eq_true, Bool.or_eq_true] at h2
    rcases h2 with h2 | h2 | h2 | h2 <;> (have h3 := Nat.eq_of_beq_eq_true h2; subst h3; rfl)
theorem msk_to {A B : mM} (e : ∀ t k, rl t k = true → A.1 t k = B.1 t k) (f : Nat) : mskM A f = mskM B f := by
  unfold mskM oneM
  rw [e 48 f rfl, e 47 f rfl]
theorem RC.to {a g : mH} (f : fz fpC a g) (r : RC a) : RC g := by
  have e : ∀ t k, rl t k = true → g.1 t 0 k = a.1 t 0 k := fun t k q => (f t 0 k (rl_key q)).1
  have eX : ∀ t k, rl t k = true → (xM g).1 t k = (xM a).1 t k := e
  have n1 : nF g = nF a := by unfold nF; rw [e 12 2 rfl]
  have n2 : nL g = nL a := by unfold nL; rw [e 12 11 rfl]
  have n3 : nA g = nA a := by unfold nA; rw [e 12 16 rfl]
  obtain ⟨d, l, s, c⟩ := r
  refine ⟨?_, ?_, ?_, ?_⟩
  · intro x y hx hy hn he
    rw [n1] at hx hy
    rw [msk_to eX, msk_to eX]
    refine d x y hx hy hn ?_
    have e1 := eX 46 x rfl
    have e2 := eX 46 y rfl
    rw [← e1, ← e2]
    exact he
  · intro k hk
    rw [n2] at hk
    rw [e 55 k rfl, e 56 k rfl, e 12 2 rfl]
    exact l k hk
  · intro b j hb hj
    rw [n3] at hb
    rw [e 58 b rfl] at hj
    rw [e 59 _ rfl, e 60 _ rfl, e 12 2 rfl]
    exact s b j hb hj
  · rcases c with c | c
    · exact Or.inl ((f 1 0 9 rfl).1.trans c)
    · refine Or.inr (fun b hb => ?_)
      rw [n3] at hb
      rw [cdM_to eX]
      obtain ⟨c1, c2, c3⟩ := c b hb
      exact ⟨c1, (f 3 b 1 rfl).1.trans c2, fun i w hi hw => (f 32 b _ rfl).1.trans (c3 i w hi hw)⟩
def JC (h : mH) : Prop := JR h ∧ RC h
theorem RC_h0 : RC h0 := by
  have n1 : nF h0 = 0 := rfl
  have n2 : nL h0 = 0 := rfl
  have n3 : nA h0 = 0 := rfl
  refine ⟨fun x y hx => ?_, fun k hk => ?_, fun b j hb => ?_, Or.inl rfl⟩
  · rw [n1] at hx; omega
  · rw [n2] at hk; omega
  · rw [n3] at hb; omega
theorem JC_h0 : JC h0 := ⟨JR_h0, RC_h0⟩
/-- a call of both that RC doesn't see -/
theorem addC {β γ : Type} {P : β × mH → γ × mH → Prop} {c : mH → Option (β × mH)} {m : mH → Option (γ × mH)} {B C : Nat} {h : mH} (j : JC h) (hK : ∃ r r', c h = some r ∧ m r.2 = some r' ∧ P r r' ∧ JR r'.2) (hc : ∀ g, SI fpC g 0 g → ∃ r, c g = some r ∧ SI fpC g B r.2) (hm : ∀ g, SI fpC g 0 g → ∃ r, m g = some r ∧ SI fpC g C r.2) : ∃ r r', c h = some r ∧ m r.2 = some r' ∧ P r r' ∧ JC r'.2 := by
  obtain ⟨r, r', e1, e2, p, J⟩ := hK
  obtain ⟨q, f1, s1⟩ := hc h (SI.an fpC j.1.1 j.1.2.1)
  rw [e1] at f1
  cases f1
  obtain ⟨q', f2, s2⟩ := hm r.2 (SI.an fpC s1.1 s1.2.1)
  rw [e2] at f2
  cases f2
  exact ⟨r, r', e1, e2, p, J, RC.to s2.2.2.1 (RC.to s1.2.2.1 j.2)⟩
