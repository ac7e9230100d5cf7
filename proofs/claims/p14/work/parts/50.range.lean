/-! ===== SAFETY: ranges of what cells hold, of class and model; what is frozen; how many ticks ===== -/
abbrev fl32 : Int × Int := (-2147483648, 2147483647)
/-- by tag and slot: least and largest -/
def rg (t k : Nat) : Int × Int := match t with
  | 0 => (match k with | 5 => (0, 12) | _ => fl32)
  | 1 => (match k with | 3 => (1, 8) | 4 => (0, 24) | 5 => (0, 12) | 6 => (0, 6) | 9 => (0, 1) | _ => fl32)
  | 2 => (match k with | 6 => (0, 24) | _ => fl32)
  | 3 => (match k with | 1 => (0, 48) | 3 => (0, 7) | _ => fl32)
  | 4 => (match k with | 0 => (0, 48) | 3 => (0, 1) | _ => fl32)
  | 5 => (match k with | 5 => (0, 1) | _ => fl32)
  | 6 => (match k with | 0 => (0, 7) | 8 => (-1, 23) | _ => fl32)
  | 7 => (match k with | 1 => (0, 23) | 2 => (0, 23) | _ => fl32)
  | 8 => (match k with | 9 => (0, 16) | _ => fl32)
  | 9 => (match k with | 0 => (0, 5) | 1 => (0, 64) | _ => fl32)
  | 12 => (match k with | 1 => (1, 8) | 2 => (0, 24) | 11 => (0, 12) | 16 => (0, 6) | 30 => (0, 16) | _ => fl32)
  | 20 => (0, 3)
  | 21 => (-1, 23)
  | 28 => (0, 23)
  | 29 => (0, 16)
  | 31 => (0, 23)
  | 39 => (0, 23)
  | 46 => (0, 7)
  | 52 => (-1, 23)
  | 53 => (-1, 5)
  | 55 => (0, 23)
  | 56 => (0, 23)
  | 58 => (0, 12)
  | 59 => (0, 3)
  | 60 => (-1, 23)
  | 62 => (0, 20)
  | 69 => (0, 23)
  | 79 => (0, 16)
  | 80 => (0, 23)
  | 89 => (0, 5)
  | 90 => (0, 64)
  | 92 => (0, 1)
  | 93 => (0, 48)
  | _ => fl32
/-- a cell's key: rows by tag, objects by tag and slot, courses and states by 0 or another -/
def ky (t i k : Nat) : Nat := bif Nat.blt t 13 then (bif Nat.beq t 4 || Nat.beq t 8 then (bif Nat.beq i 0 then t * 64 + k else t * 64 + 32 + k) else t * 64 + k) else t * 64
def IR (h : mH) : Prop := ∀ t i k, (rg t k).1 ≤ (h.1 t i k).toInt ∧ (h.1 t i k).toInt ≤ (rg t k).2
theorem i32_lo (x : Int32) : (-2147483648 : Int) ≤ x.toInt := Int32.le_toInt x
theorem i32_hi (x : Int32) : x.toInt ≤ (2147483647 : Int) := by
  have := Int32.toInt_lt x
  omega
theorem ti_ne {x y : Int32} (h : ¬ x = y) : x.toInt ≠ y.toInt := fun z => h (Int32.toInt_inj.mp z)
theorem mFu_big : (8589934592 : Int) ≤ (mFu : Int) := by decide
/-- what goes beyond ranges: a step that isn't PAUSE names a field; an instruction's place -/
def okP (w p l : Int) : Prop := ((w = 3 ∧ p ≤ 9) ∨ w = 5 ∨ w = 6 ∨ (w = 4 ∧ 0 ≤ p ∧ p ≤ 23) ∨ (0 ≤ w ∧ w ≤ 2 ∧ 0 ≤ p ∧ p ≤ 7)) ∧ l ≤ 20
def okQ (w p : Int) : Prop := w = 3 ∨ w = 5 ∨ w = 6 ∨ (w = 4 ∧ 0 ≤ p ∧ p ≤ 23) ∨ (0 ≤ w ∧ w ≤ 2 ∧ 0 ≤ p ∧ p ≤ 7)
def CC1 (h : mH) : Prop := ∀ a k, (h.1 20 a k).toInt = 3 ∨ 0 ≤ (h.1 21 a k).toInt
def CC2 (h : mH) : Prop := ∀ c i, okQ (h.1 32 c (6 * i)).toInt (h.1 32 c (6 * i + 1)).toInt
def CC3 (h : mH) : Prop := ∀ k, ((h.1 59 0 k).toInt = 3 ∧ (h.1 61 0 k).toInt ≤ 9) ∨ ((h.1 59 0 k).toInt ≠ 3 ∧ 0 ≤ (h.1 60 0 k).toInt)
def CC4 (h : mH) : Prop := ∀ i, okP (h.1 94 0 (6 * i)).toInt (h.1 94 0 (6 * i + 1)).toInt (h.1 94 0 (6 * i + 5)).toInt
def CCs (h : mH) : Prop := CC1 h ∧ CC2 h ∧ CC3 h ∧ CC4 h
/-- tags that stand in a correlation, and the model's NOW -/
def noC (t k : Nat) : Bool := t != 20 && t != 21 && t != 32 && t != 59 && t != 60 && t != 61 && t != 62 && t != 94 && !(t == 12 && k == 23)
def noJ (t i k : Nat) : Bool := !(t == 8 && (k == 10 && i == 0))
def fz (fp : Nat → Bool) (b h : mH) : Prop := ∀ t i k, fp (ky t i k) = true → h.1 t i k = b.1 t i k ∧ h.2 t i k = b.2 t i k
def tkC (b : mH) (B : Nat) (h : mH) : Prop := ∃ d : Nat, d ≤ B ∧ h.2 8 0 10 = b.2 8 0 10 + Int64.ofNat d
def tkM (b : mH) (B : Nat) (h : mH) : Prop := ∃ d : Nat, d ≤ B ∧ h.1 12 0 23 = b.1 12 0 23 + nI d
def SI (fp : Nat → Bool) (b : mH) (B : Nat) (h : mH) : Prop := IR h ∧ CCs h ∧ fz fp b h ∧ (fp 9998 = true → tkC b B h) ∧ (fp 9999 = true → tkM b B h)
theorem SI.mono {fp : Nat → Bool} {b h : mH} {B B' : Nat} (s : SI fp b B h) (e : B ≤ B') : SI fp b B' h := by
  obtain ⟨s1, s2, s3, s4, s5⟩ := s
  refine ⟨s1, s2, s3, fun z => ?_, fun z => ?_⟩
  · obtain ⟨d, hd, e1⟩ := s4 z
    exact ⟨d, Nat.le_trans hd e, e1⟩
  · obtain ⟨d, hd, e1⟩ := s5 z
    exact ⟨d, Nat.le_trans hd e, e1⟩
theorem uI_t (h : mH) {t i k t' i' k' : Nat} {x : Int32} (e : Nat.beq t' t = false) : (uI h t i k x).1 t' i' k' = h.1 t' i' k' := if_neg (fun z => Nat.ne_of_beq_eq_false e z.1)
theorem uI_k (h : mH) {t i k t' i' k' : Nat} {x : Int32} (e : Nat.beq k' k = false) : (uI h t i k x).1 t' i' k' = h.1 t' i' k' := if_neg (fun z => Nat.ne_of_beq_eq_false e z.2.2)
theorem uI_s' (h : mH) (t i k : Nat) (x : Int32) : (uI h t i k x).1 t i k = x := if_pos ⟨rfl, rfl, rfl⟩
theorem IR.u {h : mH} {t i k : Nat} {x : Int32} (I : IR h) (b : (rg t k).1 ≤ x.toInt ∧ x.toInt ≤ (rg t k).2) : IR (uI h t i k x) := by
  intro t' i' k'
  show (rg t' k').1 ≤ (if t' = t ∧ i' = i ∧ k' = k then x else h.1 t' i' k').toInt ∧ (if t' = t ∧ i' = i ∧ k' = k then x else h.1 t' i' k').toInt ≤ (rg t' k').2
  by_cases q : t' = t ∧ i' = i ∧ k' = k
  · rw [if_pos q, q.1, q.2.2]
    exact b
  · rw [if_neg q]
    exact I t' i' k'
theorem CCs.to {h g : mH} (c : CCs h) (e : ∀ t i k, noC t 0 = false → g.1 t i k = h.1 t i k) : CCs g := by
  obtain ⟨c1, c2, c3, c4⟩ := c
  refine ⟨fun a k => ?_, fun a k => ?_, fun k => ?_, fun k => ?_⟩
  · rw [e 20 a k rfl, e 21 a k rfl]; exact c1 a k
  · rw [e 32 _ _ rfl, e 32 _ _ rfl]; exact c2 a k
  · rw [e 59 _ _ rfl, e 60 _ _ rfl, e 61 _ _ rfl]; exact c3 k
  · rw [e 94 _ _ rfl, e 94 _ _ rfl, e 94 _ _ rfl]; exact c4 k
theorem noC_0 {t k : Nat} (h : noC t k = true) : noC t 0 = true := by
  simp [noC] at h ⊢
  simp [h]
theorem CCs.u {h : mH} {t i k : Nat} {x : Int32} (c : CCs h) (ht : noC t 0 = true) : CCs (uI h t i k x) := c.to (fun t' i' k' hn => if_neg (fun z => by rw [z.1, ht] at hn; cases hn))
theorem fz.u {fp : Nat → Bool} {b h : mH} {t i k : Nat} {x : Int32} (f : fz fp b h) (hw : fp (ky t i k) = false) : fz fp b (uI h t i k x) := by
  intro t' i' k' e
  refine ⟨?_, (f t' i' k' e).2⟩
  rw [← (f t' i' k' e).1]
  refine if_neg (fun z => ?_)
  obtain ⟨rfl, rfl, rfl⟩ := z
  rw [hw] at e
  cases e
theorem fz.j {fp : Nat → Bool} {b h : mH} {t i k : Nat} {x : Int64} (f : fz fp b h) (hw : fp (ky t i k) = false) : fz fp b (uJ h t i k x) := by
  intro t' i' k' e
  refine ⟨(f t' i' k' e).1, ?_⟩
  rw [← (f t' i' k' e).2]
  refine if_neg (fun z => ?_)
  obtain ⟨rfl, rfl, rfl⟩ := z
  rw [hw] at e
  cases e
theorem noC_now {t i k : Nat} {h : mH} {x : Int32} (ht : noC t k = true) : (uI h t i k x).1 12 0 23 = h.1 12 0 23 := by
  refine if_neg (fun z => ?_)
  obtain ⟨rfl, rfl, rfl⟩ := z
  simp [noC] at ht
theorem SI.u {fp : Nat → Bool} {b h : mH} {B t i k : Nat} {x : Int32} (s : SI fp b B h) (ht : noC t k = true) (hw : fp (ky t i k) = false) (r : (rg t k).1 ≤ x.toInt ∧ x.toInt ≤ (rg t k).2) : SI fp b B (uI h t i k x) := by
  obtain ⟨s1, s2, s3, s4, s5⟩ := s
  refine ⟨s1.u r, s2.u (noC_0 ht), s3.u hw, s4, fun z => ?_⟩
  obtain ⟨d, hd, e1⟩ := s5 z
  exact ⟨d, hd, (noC_now ht).trans e1⟩
theorem SI.f {fp : Nat → Bool} {b h : mH} {B t i k : Nat} {x : Int32} (s : SI fp b B h) (ht : noC t k = true) (hw : fp (ky t i k) = false) (e : rg t k = fl32) : SI fp b B (uI h t i k x) := s.u ht hw (by rw [e]; exact ⟨i32_lo x, i32_hi x⟩)
theorem SI.un {fp : Nat → Bool} {b h : mH} {B : Nat} {x : Int32} (s : SI fp b B h) (h9 : fp 9999 = false) (hw : fp (ky 12 0 23) = false) : SI fp b B (uI h 12 0 23 x) := by
  obtain ⟨s1, s2, s3, s4, s5⟩ := s
  exact ⟨s1.u ⟨i32_lo x, i32_hi x⟩, s2.u rfl, s3.u hw, s4, fun z => by rw [h9] at z; cases z⟩
theorem nI_s (d : Nat) : nI d + 1 = nI (d + 1) := (nI_succ d).symm
theorem SI.tkM {fp : Nat → Bool} {b h : mH} {B : Nat} (s : SI fp b B h) (hw : fp (ky 12 0 23) = false) : SI fp b (B + 1) (uI h 12 0 23 ((h.1 12 0 23) + 1)) := by
  obtain ⟨s1, s2, s3, s4, s5⟩ := s
  refine ⟨s1.u ⟨i32_lo _, i32_hi _⟩, s2.u rfl, s3.u hw, fun z => ?_, fun z => ?_⟩
  · obtain ⟨d, hd, e1⟩ := s4 z
    exact ⟨d, by omega, e1⟩
  · obtain ⟨d, hd, e1⟩ := s5 z
    refine ⟨d + 1, by omega, ?_⟩
    rw [uI_s', e1, Int32.add_assoc, nI_s]
theorem jI_s (d : Nat) : Int64.ofNat d + 1 = Int64.ofNat (d + 1) := by
  rw [Int64.ofNat_add]; rfl
theorem SI.tkC {fp : Nat → Bool} {b h : mH} {B : Nat} (s : SI fp b B h) (hw : fp (ky 8 0 10) = false) : SI fp b (B + 1) (uJ h 8 0 10 ((h.2 8 0 10) + 1)) := by
  obtain ⟨s1, s2, s3, s4, s5⟩ := s
  refine ⟨s1, s2, s3.j hw, fun z => ?_, fun z => ?_⟩
  · obtain ⟨d, hd, e1⟩ := s4 z
    refine ⟨d + 1, by omega, ?_⟩
    have e2 : (uJ h 8 0 10 ((h.2 8 0 10) + 1)).2 8 0 10 = h.2 8 0 10 + 1 := by
      show (if 8 = 8 ∧ 0 = 0 ∧ 10 = 10 then h.2 8 0 10 + 1 else h.2 8 0 10) = _
      rw [if_pos ⟨rfl, rfl, rfl⟩]
    rw [e2, e1, Int64.add_assoc, jI_s]
  · obtain ⟨d, hd, e1⟩ := s5 z
    exact ⟨d, by omega, e1⟩
theorem SI.j {fp : Nat → Bool} {b h : mH} {B t i k : Nat} {x : Int64} (s : SI fp b B h) (ht : noJ t i k = true) (hw : fp (ky t i k) = false) : SI fp b B (uJ h t i k x) := by
  obtain ⟨s1, s2, s3, s4, s5⟩ := s
  refine ⟨s1, s2, s3.j hw, fun z => ?_, s5⟩
  obtain ⟨d, hd, e1⟩ := s4 z
  refine ⟨d, hd, Eq.trans (if_neg (fun z => ?_)) e1⟩
  obtain ⟨rfl, rfl, rfl⟩ := z
  cases ht
theorem SI.jn {fp : Nat → Bool} {b h : mH} {B t i k : Nat} {x : Int64} (s : SI fp b B h) (h9 : fp 9998 = false) (hw : fp (ky t i k) = false) : SI fp b B (uJ h t i k x) := by
  obtain ⟨s1, s2, s3, s4, s5⟩ := s
  exact ⟨s1, s2, s3.j hw, fun z => (by rw [h9] at z; cases z), s5⟩
/-- many cells of one tag, at once: fill and copy -/
theorem SI.many {fp : Nat → Bool} {b h g : mH} {B t i : Nat} (s : SI fp b B h) (ht : noC t 0 = true) (h12 : Nat.beq t 12 = false) (hw : ∀ k, fp (ky t i k) = false) (e2 : g.2 = h.2) (e : ∀ t' i' k', ¬ (t' = t ∧ i' = i) → g.1 t' i' k' = h.1 t' i' k') (r : ∀ k, (rg t k).1 ≤ (g.1 t i k).toInt ∧ (g.1 t i k).toInt ≤ (rg t k).2) : SI fp b B g := by
  obtain ⟨s1, s2, s3, s4, s5⟩ := s
  refine ⟨fun t' i' k' => ?_, s2.to (fun t' i' k' hn => e t' i' k' (fun z => by rw [z.1, ht] at hn; cases hn)), fun t' i' k' z => ?_, fun z => ?_, fun z => ?_⟩
  · by_cases q : t' = t ∧ i' = i
    · rw [q.1, q.2]; exact r k'
    · rw [e _ _ _ q]; exact s1 t' i' k'
  · rw [e2]
    refine ⟨?_, (s3 t' i' k' z).2⟩
    rw [← (s3 t' i' k' z).1]
    exact e _ _ _ (fun q => by rw [q.1, q.2, hw k'] at z; cases z)
  · obtain ⟨d, hd, e1⟩ := s4 z
    exact ⟨d, hd, by rw [e2]; exact e1⟩
  · obtain ⟨d, hd, e1⟩ := s5 z
    exact ⟨d, hd, (e _ _ _ (fun q => Nat.ne_of_beq_eq_false h12 q.1.symm)).trans e1⟩
theorem SI.manyJ {fp : Nat → Bool} {b h g : mH} {B t i : Nat} (s : SI fp b B h) (h8 : Nat.beq t 8 = false) (hw : ∀ k, fp (ky t i k) = false) (e1 : g.1 = h.1) (e : ∀ t' i' k', ¬ (t' = t ∧ i' = i) → g.2 t' i' k' = h.2 t' i' k') : SI fp b B g := by
  obtain ⟨s1, s2, s3, s4, s5⟩ := s
  refine ⟨fun t' i' k' => by rw [e1]; exact s1 t' i' k', s2.to (fun t' i' k' _ => by rw [e1]), fun t' i' k' z => ?_, fun z => ?_, fun z => ?_⟩
  · refine ⟨by rw [e1]; exact (s3 t' i' k' z).1, ?_⟩
    rw [← (s3 t' i' k' z).2]
    exact e _ _ _ (fun q => by rw [q.1, q.2, hw k'] at z; cases z)
  · obtain ⟨d, hd, e2⟩ := s4 z
    exact ⟨d, hd, (e _ _ _ (fun q => Nat.ne_of_beq_eq_false h8 q.1.symm)).trans e2⟩
  · obtain ⟨d, hd, e2⟩ := s5 z
    exact ⟨d, hd, by rw [e1]; exact e2⟩
theorem SI.fl {fp : Nat → Bool} {b h : mH} {B t i n : Nat} {x : Int32} (s : SI fp b B h) (ht : noC t 0 = true) (h12 : Nat.beq t 12 = false) (hw : ∀ k, fp (ky t i k) = false) (r : ∀ k, (rg t k).1 ≤ x.toInt ∧ x.toInt ≤ (rg t k).2) : SI fp b B (flI h t i n x) :=
  s.many ht h12 hw rfl (fun t' i' k' q => if_neg (fun z => q ⟨z.1, z.2.1⟩)) (fun k => by
    show (rg t k).1 ≤ (if t = t ∧ i = i ∧ k < n then x else h.1 t i k).toInt ∧ (if t = t ∧ i = i ∧ k < n then x else h.1 t i k).toInt ≤ (rg t k).2
    by_cases q : t = t ∧ i = i ∧ k < n
    · rw [if_pos q]; exact r k
    · rw [if_neg q]; exact s.1 t i k)
theorem SI.fj {fp : Nat → Bool} {b h : mH} {B t i n : Nat} {x : Int64} (s : SI fp b B h) (h8 : Nat.beq t 8 = false) (hw : ∀ k, fp (ky t i k) = false) : SI fp b B (flJ h t i n x) :=
  s.manyJ h8 hw rfl (fun t' i' k' q => if_neg (fun z => q ⟨z.1, z.2.1⟩))
theorem SI.cp {fp : Nat → Bool} {b h : mH} {B t i0 i a c n : Nat} (s : SI fp b B h) (ht : noC t 0 = true) (h12 : Nat.beq t 12 = false) (hw : ∀ k, fp (ky t i k) = false) (e : ∀ k k', rg t k = rg t k') : SI fp b B (cpI h t i0 t i a c n) :=
  s.many ht h12 hw rfl (fun t' i' k' q => if_neg (fun z => q ⟨z.1, z.2.1⟩)) (fun k => by
    show (rg t k).1 ≤ (if t = t ∧ i = i ∧ c ≤ k ∧ k < c + n then h.1 t i0 (a + (k - c)) else h.1 t i k).toInt ∧ (if t = t ∧ i = i ∧ c ≤ k ∧ k < c + n then h.1 t i0 (a + (k - c)) else h.1 t i k).toInt ≤ (rg t k).2
    by_cases q : t = t ∧ i = i ∧ c ≤ k ∧ k < c + n
    · rw [if_pos q, e k (a + (k - c))]; exact s.1 t i0 _
    · rw [if_neg q]; exact s.1 t i k)
theorem SI.cj {fp : Nat → Bool} {b h : mH} {B t0 i0 t i a c n : Nat} (s : SI fp b B h) (h8 : Nat.beq t 8 = false) (hw : ∀ k, fp (ky t i k) = false) : SI fp b B (cpJ h t0 i0 t i a c n) :=
  s.manyJ h8 hw rfl (fun t' i' k' q => if_neg (fun z => q ⟨z.1, z.2.1⟩))
/-- a fresh anchor: what fp2 freezes stands as it stood; back again -/
theorem SI.re {fp : Nat → Bool} {b h : mH} {B : Nat} (s : SI fp b B h) (fp2 : Nat → Bool) : SI fp2 h 0 h :=
  ⟨s.1, s.2.1, fun _ _ _ _ => ⟨rfl, rfl⟩, fun _ => ⟨0, Nat.le_refl _, by rw [show Int64.ofNat 0 = 0 from rfl, Int64.add_zero]⟩, fun _ => ⟨0, Nat.le_refl _, by rw [show nI 0 = 0 from rfl, Int32.add_zero]⟩⟩
theorem SI.back {fp fp2 : Nat → Bool} {b h g : mH} {B C : Nat} (s : SI fp b B h) (r : SI fp2 h C g) (e : ∀ c, fp c = true → fp2 c = true) : SI fp b (B + C) g := by
  refine ⟨r.1, r.2.1, fun t i k z => ?_, fun z => ?_, fun z => ?_⟩
  · have r1 := r.2.2.1 t i k (e _ z)
    have s1 := s.2.2.1 t i k z
    exact ⟨r1.1.trans s1.1, r1.2.trans s1.2⟩
  · obtain ⟨d, hd, e1⟩ := s.2.2.2.1 z
    obtain ⟨d', hd', e2⟩ := r.2.2.2.1 (e _ z)
    exact ⟨d + d', by omega, by rw [e2, e1, Int64.add_assoc, Int64.ofNat_add]⟩
  · obtain ⟨d, hd, e1⟩ := s.2.2.2.2 z
    obtain ⟨d', hd', e2⟩ := r.2.2.2.2 (e _ z)
    exact ⟨d + d', by omega, by rw [e2, e1, Int32.add_assoc, nI_add]⟩
theorem mIn_bd {x : Int32} {n : Nat} (h1 : 0 ≤ x.toInt) (h2 : x.toInt < n) : mIn x n = true := by
  have e0 : (0 : Int32).toInt = 0 := by decide
  have q : ¬ x < 0 := fun z => by
    rw [Int32.lt_iff_toInt_lt, e0] at z
    omega
  have e1 : x.toNatClampNeg = x.toInt.toNat := rfl
  simp [mIn, Int32.not_lt.mp q]
  rw [e1]
  omega
theorem bd_of {x : Int32} {n : Nat} (h : mIn x n = true) : 0 ≤ x.toInt ∧ x.toInt < n := by
  have e0 : (0 : Int32).toInt = 0 := by decide
  have e1 : x.toNatClampNeg = x.toInt.toNat := rfl
  simp [mIn] at h
  have z0 := h.1
  have z1 := h.2
  rw [Int32.le_iff_toInt_le, e0] at z0
  rw [e1] at z1
  omega
theorem mCp_bd {x y z : Int32} {n0 n1 : Nat} (h1 : 0 ≤ x.toInt) (h2 : 0 ≤ y.toInt) (h3 : 0 ≤ z.toInt) (h4 : x.toInt + z.toInt ≤ n0) (h5 : y.toInt + z.toInt ≤ n1) : mCp x y z n0 n1 = true := by
  have e0 : (0 : Int32).toInt = 0 := by decide
  have q : ∀ w : Int32, 0 ≤ w.toInt → (0 : Int32) ≤ w := fun w hw => by
    rw [Int32.le_iff_toInt_le, e0]
    exact hw
  have e1 : ∀ w : Int32, w.toNatClampNeg = w.toInt.toNat := fun _ => rfl
  simp [mCp, q x h1, q y h2, q z h3]
  rw [e1, e1, e1]
  omega
theorem ti_add {x y : Int32} (h1 : -2147483648 ≤ x.toInt + y.toInt) (h2 : x.toInt + y.toInt < 2147483648) : (x + y).toInt = x.toInt + y.toInt := by
  rw [Int32.toInt_add]
  exact Int.bmod_eq_of_le (by omega) (by omega)
theorem ti_sub {x y : Int32} (h1 : -2147483648 ≤ x.toInt - y.toInt) (h2 : x.toInt - y.toInt < 2147483648) : (x - y).toInt = x.toInt - y.toInt := by
  rw [Int32.toInt_sub]
  exact Int.bmod_eq_of_le (by omega) (by omega)
theorem ti_mul {x y : Int32} (h1 : -2147483648 ≤ x.toInt * y.toInt) (h2 : x.toInt * y.toInt < 2147483648) : (x * y).toInt = x.toInt * y.toInt := by
  rw [Int32.toInt_mul]
  exact Int.bmod_eq_of_le (by omega) (by omega)
theorem ti_mk {x y : Int32} {n : Int} (e : y.toInt = n) (h1 : -2147483648 ≤ x.toInt * n) (h2 : x.toInt * n < 2147483648) : (x * y).toInt = x.toInt * n := by
  rw [← e] at h1 h2 ⊢
  exact ti_mul h1 h2
theorem ti_km {x y : Int32} {n : Int} (e : y.toInt = n) (h1 : -2147483648 ≤ n * x.toInt) (h2 : n * x.toInt < 2147483648) : (y * x).toInt = n * x.toInt := by
  rw [← e] at h1 h2 ⊢
  exact ti_mul h1 h2
theorem cl_of {x : Int32} {j : Nat} (h : x.toInt = j) : x.toNatClampNeg = j := by
  show x.toInt.toNat = j
  omega
theorem part_ok {fp : Nat → Bool} {b h : mH} {B : Nat} (s : SI fp b B h) (i : Nat) {x : Int32} (h1 : 0 ≤ x.toInt) (h2 : x.toInt < 48) : okQ (h.1 32 i ((x * 6) + 0).toNatClampNeg).toInt (h.1 32 i ((x * 6) + 1).toNatClampNeg).toInt := by
  have e6 : (6 : Int32).toInt = 6 := by decide
  have e0 : (0 : Int32).toInt = 0 := by decide
  have e1 : (1 : Int32).toInt = 1 := by decide
  have m : (x * 6).toInt = x.toInt * 6 := ti_mk e6 (by omega) (by omega)
  have a0 : (x * 6 + 0).toInt = (x * 6).toInt + (0 : Int32).toInt := ti_add (by omega) (by omega)
  have a1 : (x * 6 + 1).toInt = (x * 6).toInt + (1 : Int32).toInt := ti_add (by omega) (by omega)
  rw [cl_of (j := 6 * x.toInt.toNat) (by omega), cl_of (j := 6 * x.toInt.toNat + 1) (by omega)]
  exact s.2.1.2.1 i x.toInt.toNat
theorem op_ok {fp : Nat → Bool} {b h : mH} {B : Nat} (s : SI fp b B h) {x y : Int32} (h1 : 0 ≤ x.toInt) (h2 : x.toInt ≤ 1) (h3 : 0 ≤ y.toInt) (h4 : y.toInt < 50) : okP (h.1 94 0 (6 * ((50 * x) + y)).toNatClampNeg).toInt (h.1 94 0 ((6 * ((50 * x) + y)) + 1).toNatClampNeg).toInt (h.1 94 0 ((6 * ((50 * x) + y)) + 5).toNatClampNeg).toInt := by
  have e6 : (6 : Int32).toInt = 6 := by decide
  have e50 : (50 : Int32).toInt = 50 := by decide
  have e1 : (1 : Int32).toInt = 1 := by decide
  have e5 : (5 : Int32).toInt = 5 := by decide
  have m0 : (50 * x).toInt = 50 * x.toInt := ti_km e50 (by omega) (by omega)
  have m1 : (50 * x + y).toInt = (50 * x).toInt + y.toInt := ti_add (by omega) (by omega)
  have m2 : (6 * (50 * x + y)).toInt = 6 * (50 * x + y).toInt := ti_km e6 (by omega) (by omega)
  have a1 : (6 * (50 * x + y) + 1).toInt = (6 * (50 * x + y)).toInt + (1 : Int32).toInt := ti_add (by omega) (by omega)
  have a5 : (6 * (50 * x + y) + 5).toInt = (6 * (50 * x + y)).toInt + (5 : Int32).toInt := ti_add (by omega) (by omega)
  rw [cl_of (j := 6 * (50 * x + y).toInt.toNat) (by omega), cl_of (j := 6 * (50 * x + y).toInt.toNat + 1) (by omega), cl_of (j := 6 * (50 * x + y).toInt.toNat + 5) (by omega)]
  exact s.2.1.2.2.2 (50 * x + y).toInt.toNat
theorem let_ex {α : Type} {P : α → Prop} {E : mH} {K : mH → Option α} (hk : ∀ g, E = g → ∃ r, K g = some r ∧ P r) : ∃ r, mLet E K = some r ∧ P r := hk E rfl
theorem ky8 {fp : Nat → Bool} {i k : Nat} (h0 : fp (512 + k) = false) (h1 : fp (544 + k) = false) : fp (ky 8 i k) = false := by
  cases i with
  | zero => exact h0
  | succ i => exact h1
theorem zfl {fp : Nat → Bool} {b h : mH} {m : Nat} (t n i : Nat) (v : Int32) (hn : n ≤ 64) (S : SI fp b m h) (ht : noC t 0 = true) (h12 : Nat.beq t 12 = false) (hw : ∀ k, fp (ky t i k) = false) (r : ∀ k, (rg t k).1 ≤ v.toInt ∧ v.toInt ≤ (rg t k).2) : ∃ r, f_J7_fill_53178 t n i v h = some r ∧ SI fp b m r := ⟨_, e_fill t hn i v h, S.fl ht h12 hw r⟩
theorem zfj {fp : Nat → Bool} {b h : mH} {m : Nat} (t n i : Nat) (v : Int64) (hn : n ≤ 64) (S : SI fp b m h) (h8 : Nat.beq t 8 = false) (hw : ∀ k, fp (ky t i k) = false) : ∃ r, f_J7_fill_d0a16 t n i v h = some r ∧ SI fp b m r := ⟨_, e_fillJ t hn i v h, S.fj h8 hw⟩
theorem uI_n (h : mH) {t i k t' i' k' : Nat} {x : Int32} (e : ¬ (t' = t ∧ i' = i ∧ k' = k)) : (uI h t i k x).1 t' i' k' = h.1 t' i' k' := if_neg e
theorem SI.upd {fp : Nat → Bool} {b h g : mH} {m : Nat} (s : SI fp b m h) (hI : IR g) (hC : CCs g) (e2 : g.2 = h.2) (hz : ∀ t i k, g.1 t i k = h.1 t i k ∨ fp (ky t i k) = false) (h12 : g.1 12 0 23 = h.1 12 0 23) : SI fp b m g := by
  obtain ⟨s1, s2, s3, s4, s5⟩ := s
  refine ⟨hI, hC, fun t i k z => ?_, fun z => ?_, fun z => ?_⟩
  · rw [e2]
    refine ⟨?_, (s3 t i k z).2⟩
    cases hz t i k with
    | inl q => rw [q]; exact (s3 t i k z).1
    | inr q => rw [q] at z; cases z
  · obtain ⟨d, hd, e1⟩ := s4 z
    exact ⟨d, hd, by rw [e2]; exact e1⟩
  · obtain ⟨d, hd, e1⟩ := s5 z
    exact ⟨d, hd, h12.trans e1⟩
/-- six cells of a code -/
theorem SI.code {fp : Nat → Bool} {b h g : mH} {m i0 N : Nat} (s : SI fp b m h) (w : fp 2048 = false) (e2 : g.2 = h.2) (e : ∀ t i k, ¬ (t = 32 ∧ i = i0 ∧ 6 * N ≤ k ∧ k < 6 * N + 6) → g.1 t i k = h.1 t i k) (o : okQ (g.1 32 i0 (6 * N)).toInt (g.1 32 i0 (6 * N + 1)).toInt) : SI fp b m g := by
  have e32 : ∀ t i k, t ≠ 32 → g.1 t i k = h.1 t i k := fun t i k q => e t i k (fun z => q z.1)
  refine s.upd (fun t i k => ?_) ⟨fun a k => ?_, fun c i => ?_, fun k => ?_, fun k => ?_⟩ e2 (fun t i k => ?_) (e32 _ _ _ (by decide))
  · by_cases q : t = 32
    · rw [q]; exact ⟨i32_lo _, i32_hi _⟩
    · rw [e32 t i k q]; exact s.1 t i k
  · rw [e32 _ _ _ (by decide), e32 _ _ _ (by decide)]; exact s.2.1.1 a k
  · by_cases q : c = i0 ∧ i = N
    · rw [q.1, q.2]; exact o
    · have q1 : ¬ (32 = 32 ∧ c = i0 ∧ 6 * N ≤ 6 * i ∧ 6 * i < 6 * N + 6) := fun z => q ⟨z.2.1, by omega⟩
      have q2 : ¬ (32 = 32 ∧ c = i0 ∧ 6 * N ≤ 6 * i + 1 ∧ 6 * i + 1 < 6 * N + 6) := fun z => q ⟨z.2.1, by omega⟩
      rw [e 32 c (6 * i) q1, e 32 c (6 * i + 1) q2]
      exact s.2.1.2.1 c i
  · rw [e32 _ _ _ (by decide), e32 _ _ _ (by decide), e32 _ _ _ (by decide)]; exact s.2.1.2.2.1 k
  · rw [e32 _ _ _ (by decide), e32 _ _ _ (by decide), e32 _ _ _ (by decide)]; exact s.2.1.2.2.2 k
  · by_cases q : t = 32
    · rw [q]; exact Or.inr w
    · exact Or.inl (e32 t i k q)
theorem SI.codeM {fp : Nat → Bool} {b h g : mH} {m N : Nat} (s : SI fp b m h) (w : fp 6016 = false) (e2 : g.2 = h.2) (e : ∀ t i k, ¬ (t = 94 ∧ i = 0 ∧ 6 * N ≤ k ∧ k < 6 * N + 6) → g.1 t i k = h.1 t i k) (o : okP (g.1 94 0 (6 * N)).toInt (g.1 94 0 (6 * N + 1)).toInt (g.1 94 0 (6 * N + 5)).toInt) : SI fp b m g := by
  have e32 : ∀ t i k, t ≠ 94 → g.1 t i k = h.1 t i k := fun t i k q => e t i k (fun z => q z.1)
  refine s.upd (fun t i k => ?_) ⟨fun a k => ?_, fun c i => ?_, fun k => ?_, fun i => ?_⟩ e2 (fun t i k => ?_) (e32 _ _ _ (by decide))
  · by_cases q : t = 94
    · rw [q]; exact ⟨i32_lo _, i32_hi _⟩
    · rw [e32 t i k q]; exact s.1 t i k
  · rw [e32 _ _ _ (by decide), e32 _ _ _ (by decide)]; exact s.2.1.1 a k
  · rw [e32 _ _ _ (by decide), e32 _ _ _ (by decide)]; exact s.2.1.2.1 c i
  · rw [e32 _ _ _ (by decide), e32 _ _ _ (by decide), e32 _ _ _ (by decide)]; exact s.2.1.2.2.1 k
  · by_cases q : i = N
    · rw [q]; exact o
    · have q1 : ¬ (94 = 94 ∧ 0 = 0 ∧ 6 * N ≤ 6 * i ∧ 6 * i < 6 * N + 6) := fun z => q (by omega)
      have q2 : ¬ (94 = 94 ∧ 0 = 0 ∧ 6 * N ≤ 6 * i + 1 ∧ 6 * i + 1 < 6 * N + 6) := fun z => q (by omega)
      have q3 : ¬ (94 = 94 ∧ 0 = 0 ∧ 6 * N ≤ 6 * i + 5 ∧ 6 * i + 5 < 6 * N + 6) := fun z => q (by omega)
      rw [e 94 0 (6 * i) q1, e 94 0 (6 * i + 1) q2, e 94 0 (6 * i + 5) q3]
      exact s.2.1.2.2.2 i
  · by_cases q : t = 94
    · rw [q]; exact Or.inr w
    · exact Or.inl (e32 t i k q)
/-- a step is told: class -/
theorem SI.step {fp : Nat → Bool} {b h : mH} {m i0 c : Nat} {x1 x2 x3 x4 : Int32} (s : SI fp b m h) (w20 : fp 1280 = false) (w21 : fp 1344 = false) (w22 : fp 1408 = false) (w23 : fp 1472 = false) (h1 : 0 ≤ x1.toInt ∧ x1.toInt ≤ 3) (h2 : -1 ≤ x2.toInt ∧ x2.toInt ≤ 23) (h3 : x1.toInt = 3 ∨ 0 ≤ x2.toInt) : SI fp b m (uI (uI (uI (uI h 20 i0 c x1) 21 i0 c x2) 22 i0 c x3) 23 i0 c x4) := by
  have e32 : ∀ t i k, t ≠ 20 → t ≠ 21 → t ≠ 22 → t ≠ 23 → (uI (uI (uI (uI h 20 i0 c x1) 21 i0 c x2) 22 i0 c x3) 23 i0 c x4).1 t i k = h.1 t i k := fun t i k q1 q2 q3 q4 => by
    rw [uI_n _ (fun z => q4 z.1), uI_n _ (fun z => q3 z.1), uI_n _ (fun z => q2 z.1), uI_n _ (fun z => q1 z.1)]
  refine s.upd ?_ ⟨fun a k => ?_, fun c i => ?_, fun k => ?_, fun k => ?_⟩ rfl (fun t i k => ?_) (e32 _ _ _ (by decide) (by decide) (by decide) (by decide))
  · exact IR.u (t := 23) (k := c) (IR.u (t := 22) (k := c) (IR.u (t := 21) (k := c) (IR.u (t := 20) (k := c) s.1 h1) h2) ⟨i32_lo _, i32_hi _⟩) ⟨i32_lo _, i32_hi _⟩
  · rw [uI_t _ (t := 23) (t' := 20) rfl, uI_t _ (t := 22) (t' := 20) rfl, uI_t _ (t := 21) (t' := 20) rfl, uI_t _ (t := 23) (t' := 21) rfl, uI_t _ (t := 22) (t' := 21) rfl]
    by_cases q : a = i0 ∧ k = c
    · rw [q.1, q.2, uI_s', uI_s']; exact h3
    · rw [uI_n _ (fun z => q z.2), uI_n _ (fun z => q z.2), uI_t _ (t := 20) (t' := 21) rfl]; exact s.2.1.1 a k
  · rw [e32 _ _ _ (by decide) (by decide) (by decide) (by decide), e32 _ _ _ (by decide) (by decide) (by decide) (by decide)]; exact s.2.1.2.1 c i
  · rw [e32 _ _ _ (by decide) (by decide) (by decide) (by decide), e32 _ _ _ (by decide) (by decide) (by decide) (by decide), e32 _ _ _ (by decide) (by decide) (by decide) (by decide)]; exact s.2.1.2.2.1 k
  · rw [e32 _ _ _ (by decide) (by decide) (by decide) (by decide), e32 _ _ _ (by decide) (by decide) (by decide) (by decide), e32 _ _ _ (by decide) (by decide) (by decide) (by decide)]; exact s.2.1.2.2.2 k
  · by_cases q1 : t = 20
    · rw [q1]; exact Or.inr w20
    · by_cases q2 : t = 21
      · rw [q2]; exact Or.inr w21
      · by_cases q3 : t = 22
        · rw [q3]; exact Or.inr w22
        · by_cases q4 : t = 23
          · rw [q4]; exact Or.inr w23
          · exact Or.inl (e32 t i k q1 q2 q3 q4)
/-- a step is told: model -/
theorem SI.stepM {fp : Nat → Bool} {b h : mH} {m c : Nat} {x1 x2 x3 x4 : Int32} (s : SI fp b m h) (w20 : fp 3776 = false) (w21 : fp 3840 = false) (w22 : fp 3904 = false) (w23 : fp 3968 = false) (h1 : 0 ≤ x1.toInt ∧ x1.toInt ≤ 3) (h2 : -1 ≤ x2.toInt ∧ x2.toInt ≤ 23) (h4 : 0 ≤ x4.toInt ∧ x4.toInt ≤ 20) (h3 : (x1.toInt = 3 ∧ x3.toInt ≤ 9) ∨ (x1.toInt ≠ 3 ∧ 0 ≤ x2.toInt)) : SI fp b m (uI (uI (uI (uI h 59 0 c x1) 60 0 c x2) 61 0 c x3) 62 0 c x4) := by
  have e32 : ∀ t i k, t ≠ 59 → t ≠ 60 → t ≠ 61 → t ≠ 62 → (uI (uI (uI (uI h 59 0 c x1) 60 0 c x2) 61 0 c x3) 62 0 c x4).1 t i k = h.1 t i k := fun t i k q1 q2 q3 q4 => by
    rw [uI_n _ (fun z => q4 z.1), uI_n _ (fun z => q3 z.1), uI_n _ (fun z => q2 z.1), uI_n _ (fun z => q1 z.1)]
  refine s.upd ?_ ⟨fun a k => ?_, fun c i => ?_, fun k => ?_, fun k => ?_⟩ rfl (fun t i k => ?_) (e32 _ _ _ (by decide) (by decide) (by decide) (by decide))
  · exact IR.u (t := 62) (k := c) (IR.u (t := 61) (k := c) (IR.u (t := 60) (k := c) (IR.u (t := 59) (k := c) s.1 h1) h2) ⟨i32_lo _, i32_hi _⟩) h4
  · rw [e32 _ _ _ (by decide) (by decide) (by decide) (by decide), e32 _ _ _ (by decide) (by decide) (by decide) (by decide)]; exact s.2.1.1 a k
  · rw [e32 _ _ _ (by decide) (by decide) (by decide) (by decide), e32 _ _ _ (by decide) (by decide) (by decide) (by decide)]; exact s.2.1.2.1 c i
  · rw [uI_t _ (t := 62) (t' := 59) rfl, uI_t _ (t := 61) (t' := 59) rfl, uI_t _ (t := 60) (t' := 59) rfl, uI_t _ (t := 62) (t' := 60) rfl, uI_t _ (t := 61) (t' := 60) rfl, uI_t _ (t := 62) (t' := 61) rfl]
    by_cases q : k = c
    · rw [q, uI_s', uI_s', uI_s']; exact h3
    · have n : ∀ (g : mH) (t : Nat) (x : Int32) (t' : Nat), (uI g t 0 c x).1 t' 0 k = g.1 t' 0 k := fun g t x t' => uI_n _ (fun z => q z.2.2)
      simp only [n]
      exact s.2.1.2.2.1 k
  · rw [e32 _ _ _ (by decide) (by decide) (by decide) (by decide), e32 _ _ _ (by decide) (by decide) (by decide) (by decide), e32 _ _ _ (by decide) (by decide) (by decide) (by decide)]; exact s.2.1.2.2.2 k
  · by_cases q1 : t = 59
    · rw [q1]; exact Or.inr w20
    · by_cases q2 : t = 60
      · rw [q2]; exact Or.inr w21
      · by_cases q3 : t = 61
        · rw [q3]; exact Or.inr w22
        · by_cases q4 : t = 62
          · rw [q4]; exact Or.inr w23
          · exact Or.inl (e32 t i k q1 q2 q3 q4)
def al6 (x : Int32) : Prop := ∃ i : Nat, x.toInt = 6 * i ∧ i < 100
theorem al6_of {x y : Int32} (h1 : 0 ≤ x.toInt) (h2 : x.toInt ≤ 1) (h3 : 0 ≤ y.toInt) (h4 : y.toInt < 50) : al6 (6 * ((50 * x) + y)) := by
  have m0 : (50 * x).toInt = 50 * x.toInt := ti_km (by decide) (by omega) (by omega)
  have m1 : (50 * x + y).toInt = (50 * x).toInt + y.toInt := ti_add (by omega) (by omega)
  have m2 : (6 * (50 * x + y)).toInt = 6 * (50 * x + y).toInt := ti_km (by decide) (by omega) (by omega)
  exact ⟨(50 * x + y).toInt.toNat, by omega, by omega⟩
theorem lim_ok {fp : Nat → Bool} {b h : mH} {B : Nat} {x : Int32} (s : SI fp b B h) (a : al6 x) : (h.1 94 0 (x + 5).toNatClampNeg).toInt ≤ 20 := by
  obtain ⟨i, hi, h100⟩ := a
  have e5 : (5 : Int32).toInt = 5 := by decide
  have a5 : (x + 5).toInt = x.toInt + (5 : Int32).toInt := ti_add (by omega) (by omega)
  rw [cl_of (j := 6 * i + 5) (by omega)]
  exact (s.2.1.2.2.2 i).2
theorem one_all {h : mH} {x : Int32} (h0 : 0 ≤ x.toInt) (h1 : x.toInt < 100) (e : (h.1 59 0 x.toNatClampNeg).toInt = 0) : ∀ j : Nat, x.toInt ≤ j → (j : Int) < (x + 1).toInt → (h.1 59 0 j).toInt = 0 := by
  intro j h2 h3
  have e1 : (1 : Int32).toInt = 1 := by decide
  have a1 : (x + 1).toInt = x.toInt + (1 : Int32).toInt := ti_add (by omega) (by omega)
  have : x.toNatClampNeg = j := cl_of (by omega)
  rw [← this]
  exact e
theorem bool_bd {x : Int32} (h : x = 0 ∨ x = 1) : 0 ≤ x.toInt ∧ x.toInt ≤ 1 := by
  cases h with
  | inl h => rw [h]; decide
  | inr h => rw [h]; decide
theorem now_d {x : Int32} {d : Nat} (hd : d ≤ 8524656) : (x + nI d - x).toInt ≤ 9000000 := by
  rw [Int32.add_comm, Int32.add_sub_cancel, nI_toInt (by omega)]
  omega
