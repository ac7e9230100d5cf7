/-! ===== one beat of the class's driver ===== -/
theorem RF.o {h h' : mH} {n : Nat} {M : mM} (r : RF h n M) (e : ∀ t i, t ≠ 4 → t ≠ 5 → h'.1 t i = h.1 t i) : RF h' n M := by
  obtain ⟨h24, a, b, c⟩ := r
  refine ⟨h24, a, by rw [e 1 0 (by omega) (by omega)]; exact b, fun g hg => ?_⟩
  rw [e 6 g (by omega) (by omega)]
  exact c g hg
theorem RH.o {h h' : mH} {n : Nat} {M : mM} (r : RH h n M) (e : ∀ t i, t ≠ 4 → t ≠ 5 → h'.1 t i = h.1 t i) : RH h' n M := by
  obtain ⟨a, b, c⟩ := r
  refine ⟨fun r hr => ?_, ?_, ?_⟩
  · rw [e 29 0 (by omega) (by omega), e 30 0 (by omega) (by omega), e 28 r (by omega) (by omega)]
    exact a r hr
  · rw [e 2 0 (by omega) (by omega)]
    exact b
  · rw [e 31 0 (by omega) (by omega)]
    exact c
theorem RS.o {h h' : mH} {s n : Nat} {M : mM} (r : RS h s n M) (e : ∀ t i, t ≠ 4 → t ≠ 5 → h'.1 t i = h.1 t i) : RS h' s n M := by
  obtain ⟨a, b, c, d, f⟩ := r
  have e8 : h'.1 8 s = h.1 8 s := e 8 s (by omega) (by omega)
  refine ⟨fun q hq f hf => ?_, fun r hr => ?_, ?_, ?_, ?_⟩
  · rw [e _ s (by omega) (by omega)]
    exact a q hq f hf
  · rw [e 38 s (by omega) (by omega)]
    exact b r hr
  · obtain ⟨m, c1, c2, c3, c4⟩ := c
    refine ⟨m, c1, by rw [e8]; exact c2, c3, fun q hq k hk => ?_⟩
    rw [e _ s (by omega) (by omega)]
    exact c4 q hq k hk
  · rw [e8]
    exact d
  · rw [e8]
    exact f
theorem RLw.o {h h' : mH} {n : Nat} {M : mM} (r : RLw h n M) (e : ∀ t i, t ≠ 4 → t ≠ 5 → h'.1 t i = h.1 t i) : RLw h' n M := by
  obtain ⟨w, h1, h2, h3, h4⟩ := r
  refine ⟨w, h1, h2, by rw [e 1 0 (by omega) (by omega)]; exact h3, fun l hl => ?_⟩
  rw [e 7 l (by omega) (by omega)]
  exact h4 l hl
theorem CS.o {h h' : mH} {n : Nat} {M : mM} (c : CS h n M) (e : ∀ t i, t ≠ 4 → t ≠ 5 → h'.1 t i = h.1 t i) : CS h' n M := ⟨c.1.o e, c.2.1.o e, c.2.2.1.o e, c.2.2.2.1.o e, c.2.2.2.2⟩
/-- the code of act j -/
def CC (h : mH) (j : Nat) (c : List (Nat → Int32)) : Prop := c.length ≤ 48 ∧ h.1 3 j 1 = nI c.length ∧ ∀ i w, i < c.length → w < 6 → h.1 32 j (6 * i + w) = (c.getD i o0) w
theorem CC.to {h h' : mH} {j : Nat} {c : List (Nat → Int32)} (r : CC h j c) (e3 : h'.1 3 j = h.1 3 j) (e32 : h'.1 32 j = h.1 32 j) : CC h' j c := ⟨r.1, by rw [e3]; exact r.2.1, fun i w hi hw => by rw [e32]; exact r.2.2 i w hi hw⟩
theorem c_part {h : mH} {j i : Nat} {c : List (Nat → Int32)} (r : CC h j c) (hi : i < c.length) (w : Nat) (hw : w < 6) : f_X3_part j (nI i) (nI w) h = some ((c.getD i o0) w, h) := by
  have h48 := r.1
  have e : nI i * 6 + nI w = nI (6 * i + w) := by
    show nI i * nI 6 + nI w = _
    rw [nI_mul, nI_add, Nat.mul_comm]
  unfold f_X3_part
  rw [e, if_pos (mIn_nI (show 6 * i + w < 288 by omega) (by omega)), nI_clamp (by omega), r.2.2 i w hi hw]
/-- a course: place, beats, acc, timed out -/
def Co (h : mH) (k : Nat) (i b acc to : Int32) : Prop := h.1 4 k 0 = i ∧ h.1 4 k 1 = b ∧ h.1 4 k 2 = acc ∧ h.1 4 k 3 = to
/-- only state 0, course k and the lock have changed -/
def Fdr (k : Nat) (h h' : mH) : Prop := (∀ t i, ¬ (i = 0 ∧ (t = 8 ∨ (33 ≤ t ∧ t ≤ 41))) → ¬ (t = 4 ∧ i = k) → t ≠ 5 → h'.1 t i = h.1 t i) ∧ h'.2 = h.2
theorem Fdr.rf (k : Nat) (h : mH) : Fdr k h h := ⟨fun _ _ _ _ _ => rfl, rfl⟩
theorem Fdr.tr {k : Nat} {a b c : mH} (h1 : Fdr k a b) (h2 : Fdr k b c) : Fdr k a c := ⟨fun t i p q r => (h2.1 t i p q r).trans (h1.1 t i p q r), h2.2.trans h1.2⟩
theorem Fs.d {h h' : mH} (k : Nat) (f : Fs h h') : Fdr k h h' := ⟨fun t i p _ _ => f.1 t i p, f.2⟩
theorem Fdr.u4 (k : Nat) (h : mH) (s : Nat) (x : Int32) : Fdr k h (uI h 4 k s x) := ⟨fun t i _ q _ => uI_ne (fun z => q z), rfl⟩
theorem Fdr.u5 (k : Nat) (h : mH) (s : Nat) (x : Int32) : Fdr k h (uI h 5 0 s x) := ⟨fun t i _ _ q => uI_ne (fun z => q z.1), rfl⟩
theorem Fdr.cc {k : Nat} {h h' : mH} {j : Nat} {c : List (Nat → Int32)} (f : Fdr k h h') (r : CC h j c) : CC h' j c := r.to (f.1 3 j (by omega) (by omega) (by omega)) (f.1 32 j (by omega) (by omega) (by omega))
theorem Fs.co {h h' : mH} {k : Nat} {i b a t : Int32} (f : Fs h h') (c : Co h k i b a t) : Co h' k i b a t := by
  unfold Co
  rw [f.1 4 k (by omega)]
  exact c
theorem uI4 (h : mH) (k s s' : Nat) (x : Int32) : (uI h 4 k s x).1 4 k s' = if s' = s then x else h.1 4 k s' := by
  rw [uI_1]
  by_cases z : s' = s
  · rw [if_pos ⟨rfl, rfl, z⟩, if_pos z]
  · rw [if_neg (fun y => z y.2.2), if_neg z]
/-- a step on in course k -/
def nxH (h : mH) (k : Nat) : mH := uI (uI h 4 k 0 (h.1 4 k 0 + 1)) 4 k 1 0
theorem c_next (h : mH) (k : Nat) : f_X4_next k h = some (nxH h k) := rfl
theorem nx_co {h : mH} {k i : Nat} {b a t : Int32} (c : Co h k (nI i) b a t) : Co (nxH h k) k (nI (i + 1)) 0 a t := by
  obtain ⟨c1, c2, c3, c4⟩ := c
  unfold nxH
  refine ⟨?_, ?_, ?_, ?_⟩
  · rw [uI4, if_neg (by omega), uI4, if_pos rfl, c1, nI_succ]
  · rw [uI4, if_pos rfl]
  · rw [uI4, if_neg (by omega), uI4, if_neg (by omega)]
    exact c3
  · rw [uI4, if_neg (by omega), uI4, if_neg (by omega)]
    exact c4
theorem nx_d (h : mH) (k : Nat) : Fdr k h (nxH h k) := (Fdr.u4 k h _ _).tr (Fdr.u4 k _ _ _)
theorem nx_o (h : mH) (k : Nat) : ∀ t i, t ≠ 4 → t ≠ 5 → (nxH h k).1 t i = h.1 t i := fun t i h4 _ => (uI_ne (fun z => h4 z.1)).trans (uI_ne (fun z => h4 z.1))
theorem nx_5 (h : mH) (k : Nat) : (nxH h k).1 5 0 = h.1 5 0 := (uI_ne (fun z => by omega)).trans (uI_ne (fun z => by omega))
theorem co_acc {h : mH} {k : Nat} {i b a t : Int32} (c : Co h k i b a t) (x : Int32) : Co (uI h 4 k 2 x) k i b x t := by
  obtain ⟨c1, c2, c3, c4⟩ := c
  refine ⟨?_, ?_, ?_, ?_⟩
  · rw [uI4, if_neg (by omega)]; exact c1
  · rw [uI4, if_neg (by omega)]; exact c2
  · rw [uI4, if_pos rfl]
  · rw [uI4, if_neg (by omega)]; exact c4
theorem co_bt {h : mH} {k : Nat} {i b a t : Int32} (c : Co h k i b a t) (x : Int32) : Co (uI h 4 k 1 x) k i x a t := by
  obtain ⟨c1, c2, c3, c4⟩ := c
  refine ⟨?_, ?_, ?_, ?_⟩
  · rw [uI4, if_neg (by omega)]; exact c1
  · rw [uI4, if_pos rfl]
  · rw [uI4, if_neg (by omega)]; exact c3
  · rw [uI4, if_neg (by omega)]; exact c4
theorem co_to {h : mH} {k : Nat} {i b a t : Int32} (c : Co h k i b a t) (x : Int32) : Co (uI h 4 k 3 x) k i b a x := by
  obtain ⟨c1, c2, c3, c4⟩ := c
  refine ⟨?_, ?_, ?_, ?_⟩
  · rw [uI4, if_neg (by omega)]; exact c1
  · rw [uI4, if_neg (by omega)]; exact c2
  · rw [uI4, if_neg (by omega)]; exact c3
  · rw [uI4, if_pos rfl]
theorem u4_o (h : mH) (k s : Nat) (x : Int32) : ∀ t i, t ≠ 4 → t ≠ 5 → (uI h 4 k s x).1 t i = h.1 t i := fun t i h4 _ => uI_ne (fun z => h4 z.1)
theorem u5_o (h : mH) (s : Nat) (x : Int32) : ∀ t i, t ≠ 4 → t ≠ 5 → (uI h 5 0 s x).1 t i = h.1 t i := fun t i _ h5 => uI_ne (fun z => h5 z.1)
theorem bt_read {h : mH} {n j k i r : Nat} {M : mM} {c : List (Nat → Int32)} {b a t : Int32} (S : CS h n M) (C : CC h j c) (hi : i < c.length) (o : Co h k (nI i) b a t) (h0 : (c.getD i o0) 0 = 0) (h1 : (c.getD i o0) 1 = nI r) (hr : r < 8) : ∃ h', f_X5_beat j k h = some h' ∧ CS h' n (redM (nI r) 1 M).2 ∧ Co h' k (nI (i + 1)) 0 (redM (nI r) 1 M).1 t ∧ h'.1 5 0 5 = h.1 5 0 5 ∧ Fdr k h h' := by
  have p1 : f_X3_part j (nI i) 1 h = some ((c.getD i o0) 1, h) := c_part C hi 1 (by omega)
  have p0 : f_X3_part j (nI i) 0 h = some ((c.getD i o0) 0, h) := c_part C hi 0 (by omega)
  obtain ⟨h', e, S', F⟩ := S.read hr 1
  have o1 := co_acc (F.co o) (redM (nI r) 1 M).1
  refine ⟨nxH (uI h' 4 k 2 (redM (nI r) 1 M).1) k, ?_, (S'.o (u4_o _ _ _ _)).o (nx_o _ _), nx_co o1, ?_, ((F.d k).tr (Fdr.u4 k _ _ _)).tr (nx_d _ _)⟩
  · unfold f_X5_beat
    rw [o.1, p1, Option.bind_some]
    dsimp only
    rw [o.1, p0, Option.bind_some]
    dsimp only
    rw [h0, if_pos rfl, h1, e, Option.bind_some]
    rfl
  · rw [nx_5, uI_ne (fun z => by omega), F.1 5 0 (by omega)]
theorem bt_pause {h : mH} {n j k i : Nat} {M : mM} {c : List (Nat → Int32)} {b a t : Int32} (S : CS h n M) (C : CC h j c) (hi : i < c.length) (o : Co h k (nI i) b a t) (h0 : (c.getD i o0) 0 = 3) : ∃ h', f_X5_beat j k h = some h' ∧ CS h' n (tikM M) ∧ (if b + 1 < (c.getD i o0) 1 then Co h' k (nI i) (b + 1) a t else Co h' k (nI (i + 1)) 0 a t) ∧ h'.1 5 0 5 = h.1 5 0 5 ∧ Fdr k h h' := by
  have p1 : f_X3_part j (nI i) 1 h = some ((c.getD i o0) 1, h) := c_part C hi 1 (by omega)
  have p0 : f_X3_part j (nI i) 0 h = some ((c.getD i o0) 0, h) := c_part C hi 0 (by omega)
  obtain ⟨h', e, S', F⟩ := S.tick
  have o1 := co_bt (F.co o) (b + 1)
  have e1 : f_X5_beat j k h = if b + 1 < (c.getD i o0) 1 then some (uI h' 4 k 1 (b + 1)) else some (nxH (uI h' 4 k 1 (b + 1)) k) := by
    unfold f_X5_beat
    rw [o.1, p1, Option.bind_some]
    dsimp only
    rw [o.1, p0, Option.bind_some]
    dsimp only
    rw [h0, if_neg (by decide), if_neg (by decide), if_neg (by decide), if_pos rfl, e, Option.bind_some]
    simp only [mLet]
    rw [(F.co o).2.1, o1.2.1]
    rfl
  have n5 : (uI h' 4 k 1 (b + 1)).1 5 0 = h.1 5 0 := (uI_ne (fun z => by omega)).trans (F.1 5 0 (by omega))
  by_cases q : b + 1 < (c.getD i o0) 1
  · rw [if_pos q] at e1
    refine ⟨_, e1, S'.o (u4_o _ _ _ _), ?_, ?_, (F.d k).tr (Fdr.u4 k _ _ _)⟩
    · rw [if_pos q]
      exact o1
    · rw [n5]
  · rw [if_neg q] at e1
    refine ⟨_, e1, (S'.o (u4_o _ _ _ _)).o (nx_o _ _), ?_, ?_, ((F.d k).tr (Fdr.u4 k _ _ _)).tr (nx_d _ _)⟩
    · rw [if_neg q]
      exact nx_co o1
    · rw [nx_5, n5]
theorem bt_lock {h : mH} {n j k i : Nat} {M : mM} {c : List (Nat → Int32)} {b a t : Int32} (S : CS h n M) (C : CC h j c) (hi : i < c.length) (o : Co h k (nI i) b a t) (h0 : (c.getD i o0) 0 = 5 ∨ (c.getD i o0) 0 = 6) : ∃ h', f_X5_beat j k h = some h' ∧ CS h' n M ∧ Co h' k (nI (i + 1)) 0 a t ∧ h'.1 5 0 5 = (if (c.getD i o0) 0 = 5 then 1 else 0) ∧ Fdr k h h' := by
  have p1 : f_X3_part j (nI i) 1 h = some ((c.getD i o0) 1, h) := c_part C hi 1 (by omega)
  have p0 : f_X3_part j (nI i) 0 h = some ((c.getD i o0) 0, h) := c_part C hi 0 (by omega)
  have key : ∀ x : Int32, Co (uI h 5 0 5 x) k (nI i) b a t := fun x => by
    unfold Co
    rw [uI_ne (fun z => by omega)]
    exact o
  have e5 : ∀ x : Int32, (nxH (uI h 5 0 5 x) k).1 5 0 5 = x := fun x => by
    rw [nx_5, uI_1, if_pos ⟨rfl, rfl, rfl⟩]
  have e1 : f_X5_beat j k h = some (nxH (uI h 5 0 5 (if (c.getD i o0) 0 = 5 then 1 else 0)) k) := by
    unfold f_X5_beat
    rw [o.1, p1, Option.bind_some]
    dsimp only
    rw [o.1, p0, Option.bind_some]
    dsimp only
    rw [o.1, p0, Option.bind_some]
    dsimp only
    rcases h0 with h0 | h0
    · rw [h0, if_neg (by decide), if_neg (by decide), if_neg (by decide), if_neg (by decide), if_neg (by decide), if_pos rfl, if_pos rfl]
      rfl
    · rw [h0, if_neg (by decide), if_neg (by decide), if_neg (by decide), if_neg (by decide), if_neg (by decide), if_neg (by decide), if_neg (by decide)]
      rfl
  exact ⟨_, e1, (S.o (u5_o _ _ _)).o (nx_o _ _), nx_co (key _), e5 _, (Fdr.u5 k _ _ _).tr (nx_d _ _)⟩
