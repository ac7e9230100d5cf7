theorem bt_poll {h : mH} {n j k i r : Nat} {M : mM} {c : List (Nat → Int32)} {b a t : Int32} (S : CS h n M) (C : CC h j c) (hi : i < c.length) (o : Co h k (nI i) b a t) (h0 : (c.getD i o0) 0 = 2) (h1 : (c.getD i o0) 1 = nI r) (hr : r < 8) : ∃ h', f_X5_beat j k h = some h' ∧ CS h' n (redM (nI r) 1 M).2 ∧ (if (redM (nI r) 1 M).1 &&& (c.getD i o0) 3 = (c.getD i o0) 4 then Co h' k (nI (i + 1)) 0 (redM (nI r) 1 M).1 t else if b + 1 ≤ (c.getD i o0) 5 then Co h' k (nI i) (b + 1) (redM (nI r) 1 M).1 t else Co h' k (nI i) (b + 1) (redM (nI r) 1 M).1 1) ∧ h'.1 5 0 5 = h.1 5 0 5 ∧ Fdr k h h' := by
  have p1 : f_X3_part j (nI i) 1 h = some ((c.getD i o0) 1, h) := c_part C hi 1 (by omega)
  have p0 : f_X3_part j (nI i) 0 h = some ((c.getD i o0) 0, h) := c_part C hi 0 (by omega)
  obtain ⟨h', e, S', F⟩ := S.read hr 1
  have o1 := co_acc (F.co o) (redM (nI r) 1 M).1
  have o2 := co_bt o1 (b + 1)
  have C2 : CC (uI (uI h' 4 k 2 (redM (nI r) 1 M).1) 4 k 1 (b + 1)) j c := (((F.d k).tr (Fdr.u4 k _ _ _)).tr (Fdr.u4 k _ _ _)).cc C
  have F2 : Fdr k h (uI (uI h' 4 k 2 (redM (nI r) 1 M).1) 4 k 1 (b + 1)) := ((F.d k).tr (Fdr.u4 k _ _ _)).tr (Fdr.u4 k _ _ _)
  have S2 : CS (uI (uI h' 4 k 2 (redM (nI r) 1 M).1) 4 k 1 (b + 1)) n (redM (nI r) 1 M).2 := (S'.o (u4_o _ _ _ _)).o (u4_o _ _ _ _)
  have q3 : f_X3_part j (nI i) 3 _ = some ((c.getD i o0) 3, _) := c_part C2 hi 3 (by omega)
  have q4 : f_X3_part j (nI i) 4 _ = some ((c.getD i o0) 4, _) := c_part C2 hi 4 (by omega)
  have q5 : f_X3_part j (nI i) 5 _ = some ((c.getD i o0) 5, _) := c_part C2 hi 5 (by omega)
  have n5 : (uI (uI h' 4 k 2 (redM (nI r) 1 M).1) 4 k 1 (b + 1)).1 5 0 = h.1 5 0 := (uI_ne (fun z => by omega)).trans ((uI_ne (fun z => by omega)).trans (F.1 5 0 (by omega)))
  have e1 : f_X5_beat j k h = if (redM (nI r) 1 M).1 &&& (c.getD i o0) 3 = (c.getD i o0) 4 then some (nxH (uI (uI h' 4 k 2 (redM (nI r) 1 M).1) 4 k 1 (b + 1)) k) else if b + 1 ≤ (c.getD i o0) 5 then some (uI (uI h' 4 k 2 (redM (nI r) 1 M).1) 4 k 1 (b + 1)) else some (uI (uI (uI h' 4 k 2 (redM (nI r) 1 M).1) 4 k 1 (b + 1)) 4 k 3 1) := by
    unfold f_X5_beat
    rw [o.1, p1, Option.bind_some]
    dsimp only
    rw [o.1, p0, Option.bind_some]
    dsimp only
    rw [h0, if_neg (by decide), if_neg (by decide), if_pos rfl, h1, e, Option.bind_some]
    unfold f_X5_endPollBeat
    simp only [mLet]
    rw [o1.2.1, o2.1, q3, Option.bind_some]
    dsimp only
    rw [o2.1, q4, Option.bind_some]
    dsimp only
    rw [o2.1, q5, Option.bind_some, o2.2.2.1, o2.2.1, c_next]
    dsimp only
    split
    · rfl
    · split <;> rfl
  by_cases z1 : (redM (nI r) 1 M).1 &&& (c.getD i o0) 3 = (c.getD i o0) 4
  · rw [if_pos z1] at e1
    refine ⟨_, e1, S2.o (nx_o _ _), ?_, by rw [nx_5, n5], F2.tr (nx_d _ _)⟩
    rw [if_pos z1]
    exact nx_co o2
  · rw [if_neg z1] at e1
    by_cases z2 : b + 1 ≤ (c.getD i o0) 5
    · rw [if_pos z2] at e1
      refine ⟨_, e1, S2, ?_, by rw [n5], F2⟩
      rw [if_neg z1, if_pos z2]
      exact o2
    · rw [if_neg z2] at e1
      refine ⟨_, e1, S2.o (u4_o _ _ _ _), ?_, by rw [uI_ne (fun z => by omega), n5], F2.tr (Fdr.u4 k _ _ _)⟩
      rw [if_neg z1, if_neg z2]
      exact co_to o2 1
/-- what PICK does -/
def pkM (M : mM) (f : Nat) (a : Int32) : mM := if M.1 49 f = 3 then uM (uM M 12 38 (M.1 66 f)) 66 f 0 else uM M 12 38 (bitM M f a)
theorem pkM_f (M : mM) (f : Nat) (a : Int32) : Fm M (pkM M f a) := by
  unfold pkM
  split
  · exact (Fm.u _ _ (by omega)).tr (Fm.u _ _ (by omega))
  · exact Fm.u _ _ (by omega)
theorem okS.pk {n : Nat} {M : mM} (s : okS n M) (f : Nat) (a : Int32) : okS n (pkM M f a) := by
  have e : ∀ t k, t ≠ 66 → ¬ (t = 12 ∧ k = 38) → (pkM M f a).1 t k = M.1 t k := fun t k h1 h2 => by
    unfold pkM
    split
    · rw [uM_t _ h1, uM_1, if_neg h2]
    · rw [uM_1, if_neg h2]
  exact s.mk' (e _ _ (by omega) (by omega)) (fun k => e _ _ (by omega) (by omega)) (fun k => e _ _ (by omega) (by omega)) (fun f hf => ⟨fun q => e _ _ (by omega) (by omega), fun q => Or.inl (e _ _ (by omega) (by omega)), fun q => Or.inl (e _ _ (by omega) (by omega))⟩)
theorem bt_pick {h : mH} {n j k i f : Nat} {M : mM} {c : List (Nat → Int32)} {b a t : Int32} (S : CS h n M) (C : CC h j c) (hi : i < c.length) (o : Co h k (nI i) b a t) (h0 : (c.getD i o0) 0 = 4) (h1 : (c.getD i o0) 1 = nI f) (hf : f < n) : ∃ h', f_X5_beat j k h = some h' ∧ CS h' n (pkM M f a) ∧ Co h' k (nI (i + 1)) 0 a t ∧ h'.1 5 0 5 = h.1 5 0 5 ∧ Fdr k h h' := by
  have p1 : f_X3_part j (nI i) 1 h = some ((c.getD i o0) 1, h) := c_part C hi 1 (by omega)
  have p0 : f_X3_part j (nI i) 0 h = some ((c.getD i o0) 0, h) := c_part C hi 0 (by omega)
  have h24 := S.1.1
  have key : ∃ h', f_X5_pick (nI f) a h = some h' ∧ RS h' 0 n (pkM M f a) ∧ Fs h h' := by
    unfold f_X5_pick pkM
    rw [if_pos (mIn_nI (show f < 24 by omega) (by omega)), nI_clamp (by omega), (S.1.2.2.2 f hf).1.2.2.2.1]
    by_cases q : M.1 49 f = 3
    · rw [if_pos q, if_pos q]
      simp only [mLet]
      have e66 : h.1 36 0 f = M.1 66 f := S.2.2.1.1 3 (by omega) f hf
      rw [e66]
      refine ⟨_, rfl, ?_, (Fs.u _ _ (by omega)).tr (Fs.u _ _ (by omega))⟩
      exact (S.2.2.1.sc (a := 11) (b := 38) _ (by omega)).row (q := 3) _ (by omega)
    · rw [if_neg q, if_neg q, e_bitsIn a S.1 hf, Option.bind_some]
      exact ⟨_, rfl, S.2.2.1.sc (a := 11) (b := 38) _ (by omega), Fs.u _ _ (by omega)⟩
  obtain ⟨h', e, R, F⟩ := key
  have S' := S.mk' F (pkM_f M f a) R (S.2.2.2.2.2.pk f a)
  refine ⟨nxH h' k, ?_, S'.o (nx_o _ _), nx_co (F.co o), by rw [nx_5, F.1 5 0 (by omega)], (F.d k).tr (nx_d _ _)⟩
  unfold f_X5_beat
  rw [o.1, p1, Option.bind_some]
  dsimp only
  rw [o.1, p0, Option.bind_some]
  dsimp only
  rw [h0, if_neg (by decide), if_neg (by decide), if_neg (by decide), if_neg (by decide), if_pos rfl, h1, o.2.2.1, e, Option.bind_some]
  rfl
/-- the number that a WRITE puts -/
def nuM (M : mM) (o : Nat → Int32) (r : Nat) (a : Int32) : Int32 := if o 2 = 1 then o 4 ||| (o 3 &&& a) else if o 2 = 2 then o 4 ||| (o 3 &&& M.1 68 r) else o 4
def wpM (M : mM) (n r : Nat) (x : Int32) : mM := tikM (uM (wrtM (nI r) x M) 68 r (x &&& kpB M r n))
theorem bt_write {h : mH} {n j k i r : Nat} {M : mM} {c : List (Nat → Int32)} {b a t : Int32} (S : CS h n M) (C : CC h j c) (hi : i < c.length) (o : Co h k (nI i) b a t) (h0 : (c.getD i o0) 0 = 1) (h1 : (c.getD i o0) 1 = nI r) (hr : r < 8) : ∃ h', f_X5_beat j k h = some h' ∧ CS h' n (wpM M n r (nuM M (c.getD i o0) r a)) ∧ Co h' k (nI (i + 1)) 0 a t ∧ h'.1 5 0 5 = h.1 5 0 5 ∧ Fdr k h h' := by
  have p1 : f_X3_part j (nI i) 1 h = some ((c.getD i o0) 1, h) := c_part C hi 1 (by omega)
  have p0 : f_X3_part j (nI i) 0 h = some ((c.getD i o0) 0, h) := c_part C hi 0 (by omega)
  have p2 : f_X3_part j (nI i) 2 h = some ((c.getD i o0) 2, h) := c_part C hi 2 (by omega)
  have p3 : f_X3_part j (nI i) 3 h = some ((c.getD i o0) 3, h) := c_part C hi 3 (by omega)
  have p4 : f_X3_part j (nI i) 4 h = some ((c.getD i o0) 4, h) := c_part C hi 4 (by omega)
  have en : f_X5_numberToWrite j k h = some (nuM M (c.getD i o0) r a, h) := by
    unfold f_X5_numberToWrite nuM
    rw [o.1, p4, Option.bind_some]
    dsimp only
    rw [o.1, p3, Option.bind_some]
    dsimp only
    rw [o.1, p2, Option.bind_some]
    dsimp only
    rw [o.1, p1, Option.bind_some, o.2.2.1, h1]
    dsimp only
    rw [if_pos (mIn_nI hr (by omega)), nI_clamp (by omega), S.2.2.1.2.1 r hr]
    split
    · rfl
    · split <;> rfl
  generalize hx : nuM M (c.getD i o0) r a = x at en ⊢
  have e30 : h.1 30 0 r = kpB M r n := (S.2.1.1 r hr).2.2.2
  obtain ⟨a1, a2, a3, a4, a5⟩ := S.2.2.1
  have R1 : RS (uI h 38 0 r (x &&& kpB M r n)) 0 n (uM M 68 r (x &&& kpB M r n)) := by
    have o8 : ∀ k, (uI h 38 0 r (x &&& kpB M r n)).1 8 0 k = h.1 8 0 k := fun k => by rw [uI_ne (fun z => by omega)]
    have o12 : ∀ k, (uM M 68 r (x &&& kpB M r n)).1 12 k = M.1 12 k := fun k => uM_t _ (by omega)
    refine ⟨fun q hq f hf => ?_, fun r' hr' => ?_, ?_, ?_, ?_⟩
    · rw [uI_ne (fun z => by omega), uM_t _ (by omega)]
      exact a1 q hq f hf
    · rw [uI_1, uM_1]
      by_cases z : r' = r
      · rw [if_pos ⟨rfl, rfl, z⟩, if_pos ⟨rfl, z⟩]
      · rw [if_neg (fun y => z y.2.2), if_neg (fun y => z y.2)]
        exact a2 r' hr'
    · obtain ⟨m, c1, c2, c3, c4⟩ := a3
      refine ⟨m, c1, by rw [o8]; exact c2, by rw [o12]; exact c3, fun q hq k hk => ?_⟩
      rw [uI_ne (fun z => by omega), uM_t _ (by omega)]
      exact c4 q hq k hk
    · rw [o8, o8, o8, o8, o12, o12, o12, o12]
      exact a4
    · rw [o8, o8, o12, o12, o12]
      exact a5
  have F1 : Fs h (uI h 38 0 r (x &&& kpB M r n)) := Fs.u _ _ (by omega)
  have S1 : CS (uI h 38 0 r (x &&& kpB M r n)) n (uM M 68 r (x &&& kpB M r n)) := S.mk' F1 (Fm.u _ _ (by omega)) R1 (S.2.2.2.2.2.mk' (uM_t _ (by omega)) (fun k => uM_t _ (by omega)) (fun k => uM_t _ (by omega)) (fun f hf => ⟨fun q => uM_t _ (by omega), fun q => Or.inl (uM_t _ (by omega)), fun q => Or.inl (uM_t _ (by omega))⟩))
  obtain ⟨h', e, S', F⟩ := S1.write hr x
  rw [wrt68] at S'
  have F2 : Fs h h' := F1.tr F
  refine ⟨nxH h' k, ?_, S'.o (nx_o _ _), nx_co (F2.co o), by rw [nx_5, F2.1 5 0 (by omega)], (F2.d k).tr (nx_d _ _)⟩
  unfold f_X5_beat
  rw [o.1, p1, Option.bind_some]
  dsimp only
  rw [o.1, p0, Option.bind_some]
  dsimp only
  rw [h0, if_neg (by decide), if_pos rfl, en, Option.bind_some, h1]
  dsimp only
  rw [if_pos (mIn_nI hr (by omega)), nI_clamp (by omega), e30, e, Option.bind_some]
  rfl
