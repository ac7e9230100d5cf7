/-! ===== class and model side by side: one instruction, then a whole code ===== -/
def lkO (o : Nat → Int32) (x : Int32) : Int32 := if o 0 = 5 then 1 else if o 0 = 6 then 0 else x
theorem wpM_f (M : mM) (n r : Nat) (x : Int32) : Fm M (wpM M n r x) := ((wrtM_f _ _ M).tr (Fm.u _ _ (by omega))).tr (tikM_f _)
theorem fu_21 : ∃ m, mFu = m + 1 ∧ 21 ≤ m := ⟨mFu - 1, by have := mFu_lt (N := 30) (by omega); omega, by have := mFu_lt (N := 30) (by omega); omega⟩
theorem s_instr {g : mH} {β γ : Type} {B : mM} {n na k j i : Nat} {BC BM : mH → Option mH} {L : Nat → mH → Option β} {P : Int32 → Nat → Int32 → mH → Option (Int32 × mH)} {Q : Int32 → Nat → Int32 → mH → Option mH} {K : Int32 → Int32 → mH → Option γ} {R : Nat → Int32 → Int32 → mH → Option γ} (hk : k < 2) (hj : j < na) (bt : Btw g B n na k j BC BM) (lc : LC (cdM B j) j k BC L) (pu : ∀ v2, PU BM (nI k) v2 (P v2)) (qu : ∀ v2, QU BM v2 (Q v2)) (ru : RU BM (nI k) (fun a h => P a mFu 0 h) (fun a h => Q a mFu 0 h) K R) (hi : i < (cdM B j).length) (ok : okO n ((cdM B j).getD i o0)) {h : mH} {M : mM} {u : Nat} (D : DR B n na k j h M i 0) (hu : u ≤ 21 * i) : ∃ h' N u', u' ≤ 21 * (i + 1) ∧ L u h = L u' h' ∧ Fy k h h' ∧ Fi k M N ∧ N.1 12 67 = lkO ((cdM B j).getD i o0) (M.1 12 67) ∧ (((∀ m, R (m + 1) 0 (nI i) (wM g M) = R m 0 (nI (i + 1)) (wM g N)) ∧ DR B n na k j h' N (i + 1) 0) ∨ (((cdM B j).getD i o0) 0 = 2 ∧ (∀ m, R (m + 1) 0 (nI i) (wM g M) = R m 1 (nI (i + 1)) (wM g N)) ∧ DL B n na k h' N)) := by
  have hl : (cdM B j).length ≤ 48 := (D.2.1.2.2 j hj).1
  obtain ⟨h1, M1, b1, b2, D1, F1, G1, K1⟩ := bt _ _ _ _ D
  have eQ : 6 * ((50 * nI k) + nI i) = nI (300 * k + 6 * i) := by
    show nI 6 * (nI 50 * nI k + nI i) = _
    rw [nI_mul, nI_add, nI_mul]
    congr 1
    omega
  have eQ1 : nI (300 * k + 6 * i) + 1 = nI (300 * k + 6 * i + 1) := nI_add _ 1
  have eL : L u h = (f_X5_beat j k h1).bind fun h2 => L (u + 1) h2 := by
    rw [lc u h i _ _ (by omega) (D.2.1.2.2 j hj) hi D.2.2.2.2.1, b1, Option.bind_some]
  have O1 := D1.2.2.2.1
  have a0 := ops_at O1 hi 0 (by omega)
  have a1 := ops_at O1 hi 1 (by omega)
  rw [Nat.add_zero] at a0
  have C1 := D1.2.1.2.2 j hj
  generalize hc : (cdM B j).getD i o0 = o at *
  have pre : ∀ m, R (m + 1) 0 (nI i) (wM g M) = (if o 0 = 0 then (f_X12_reads (o 1) 1 (wM g M1)).bind fun r11 => R m 0 (nI i + 1) (uI r11.2 95 0 k r11.1) else if o 0 = 1 then (f_X12_puts (nI k) (nI (300 * k + 6 * i)) (wM g M1)).bind fun r13 => R m 0 (nI i + 1) r13 else if o 0 = 2 then (P (nI (300 * k + 6 * i)) mFu 0 (wM g M1)).bind fun r15 => R m r15.1 (nI i + 1) r15.2 else if o 0 = 3 then (Q (o 1) mFu 0 (wM g M1)).bind fun r18 => R m 0 (nI i + 1) r18 else if o 0 = 4 then (f_X12_picks (nI k) (o 1) (wM g M1)).bind fun r21 => R m 0 (nI i + 1) r21 else if o 0 = 5 then R m 0 (nI i + 1) (uI (wM g M1) 12 0 67 1) else R m 0 (nI i + 1) (uI (wM g M1) 12 0 67 0)) := fun m => by
    rw [ru, if_pos (mIn_nI hk (by omega)), nI_clamp (by omega), wM_1 g M rfl, D.2.2.2.1.1, if_pos (nI_lt hi (by omega)), if_pos rfl, b2, Option.bind_some, eQ, eQ1, if_pos (mIn_nI (show 300 * k + 6 * i < 600 by omega) (by omega)), nI_clamp (by omega), nI_clamp (by omega), wM_1 g M1 rfl, wM_1 g M1 rfl, a0, a1]
    simp only [if_pos (mIn_nI (show 300 * k + 6 * i + 1 < 600 by omega) (by omega))]
  rcases ok with ⟨k0, r, hr, k1⟩ | ⟨k0, r, hr, k1⟩ | ⟨k0, ⟨r, hr, k1⟩, l, hl20, k5⟩ | ⟨k0, v, v1, v9, k1⟩ | ⟨k0, f, hf, k1⟩ | k0
  · obtain ⟨h', e, S, co, e5, F⟩ := bt_read D1.1 C1 hi D1.2.2.2.2.1 (by rw [hc]; exact k0) (by rw [hc]; exact k1) hr
    have fm := redM_f (nI r) 1 M1
    refine ⟨h', uM (redM (nI r) 1 M1).2 95 k (redM (nI r) 1 M1).1, u + 1, by omega, by rw [eL, e, Option.bind_some], F1.tr F.y, (G1.tr (fm.i k)).tr (Fi.u95 k _ _), ?_, Or.inl ⟨fun m => ?_, DR.up hj D1 S F fm e5 (b' := 0) co⟩⟩
    · unfold lkO
      rw [k0, if_neg (by decide), if_neg (by decide), uM_t _ (by omega), fm.1 12 67 (by omega) (by omega) (by omega), K1]
    · rw [pre, if_pos k0, k1, D1.1.e_read, Option.bind_some, nI_succ]
      dsimp only
      rw [wM_u g _ rfl]
  · obtain ⟨h', e, S, co, e5, F⟩ := bt_write D1.1 C1 hi D1.2.2.2.2.1 (by rw [hc]; exact k0) (by rw [hc]; exact k1) hr
    rw [hc] at S
    have fm := wpM_f M1 n r (nuM M1 o r (M1.1 95 k))
    refine ⟨h', wpM M1 n r (nuM M1 o r (M1.1 95 k)), u + 1, by omega, by rw [eL, e, Option.bind_some], F1.tr F.y, G1.tr (fm.i k), ?_, Or.inl ⟨fun m => ?_, DR.up' hj D1 S F fm e5 (b' := 0) co⟩⟩
    · unfold lkO
      rw [k0, if_neg (by decide), if_neg (by decide), fm.1 12 67 (by omega) (by omega) (by omega), K1]
    · have ep := e_puts D1.1 hk O1 (by omega) hi (by rw [hc]; exact k1) hr g
      rw [hc] at ep
      rw [pre, k0, if_neg (by decide), if_pos rfl, ep, Option.bind_some, nI_succ]
  · obtain ⟨mf, em, hm⟩ := fu_21
    obtain ⟨h', N, u', hu', e4, F4, G4, K4, res⟩ := s_poll hk hj bt lc (pu _) hi (by rw [hc]; exact k0) (by rw [hc]; exact k1) hr (by rw [hc]; exact k5) hl20 l 0 (by omega) h1 M1 u D1 (by omega)
    have hP : P (nI (300 * k + 6 * i)) mFu 0 (wM g M1) = pTl (P (nI (300 * k + 6 * i))) (nI k) (nI (300 * k + 6 * i)) mf (nI 0) (wM g M1) := by
      have q5 : nI (300 * k + 6 * i) + 5 = nI (300 * k + 6 * i + 5) := nI_add _ 5
      have a5 := ops_at O1 hi 5 (by omega)
      rw [em, pu (nI (300 * k + 6 * i)), q5, if_pos (mIn_nI (show 300 * k + 6 * i + 5 < 600 by omega) (by omega)), nI_clamp (by omega), wM_1 g M1 rfl, a5, hc, k5, if_pos (show (0 : Int32) ≤ nI l from nI_pos' (by omega)), if_pos (by decide)]
      rfl
    refine ⟨h', N, u', by omega, by rw [eL]; exact e4, F1.tr F4, G1.tr G4, ?_, ?_⟩
    · unfold lkO
      rw [k0, if_neg (by decide), if_neg (by decide), K4, K1]
    · rcases res with ⟨r1, r2⟩ | ⟨r1, r2⟩
      · refine Or.inl ⟨fun m => ?_, r2⟩
        rw [pre, k0, if_neg (by decide), if_neg (by decide), if_pos rfl, hP, r1 mf (by omega), Option.bind_some, nI_succ]
      · refine Or.inr ⟨k0, fun m => ?_, r2⟩
        rw [pre, k0, if_neg (by decide), if_neg (by decide), if_pos rfl, hP, r1 mf (by omega), Option.bind_some, nI_succ]
  · obtain ⟨mf, em, hm⟩ := fu_21
    obtain ⟨h', N, u', hu', e4, F4, G4, K4, r1, r2⟩ := s_pause hj bt lc (qu (nI v)) hi (by rw [hc]; exact k0) (by rw [hc]; exact k1) v9 (v - 1) 0 (by omega) h1 M1 u D1 (by omega)
    refine ⟨h', N, u', by omega, by rw [eL]; exact e4, F1.tr F4, G1.tr G4, ?_, Or.inl ⟨fun m => ?_, r2⟩⟩
    · unfold lkO
      rw [k0, if_neg (by decide), if_neg (by decide), K4, K1]
    · rw [pre, k0, if_neg (by decide), if_neg (by decide), if_neg (by decide), if_pos rfl, k1, em, qu (nI v), if_pos (show (0 : Int32) < nI v from nI_lt (a := 0) (by omega) (by omega)), if_pos (by decide)]
      have := r1 mf (by omega)
      rw [show nI (0 + 1) = (0 : Int32) + 1 from rfl] at this
      rw [this, Option.bind_some, nI_succ]
  · obtain ⟨h', e, S, co, e5, F⟩ := bt_pick D1.1 C1 hi D1.2.2.2.2.1 (by rw [hc]; exact k0) (by rw [hc]; exact k1) hf
    have fm := pkM_f M1 f (M1.1 95 k)
    refine ⟨h', pkM M1 f (M1.1 95 k), u + 1, by omega, by rw [eL, e, Option.bind_some], F1.tr F.y, G1.tr (fm.i k), ?_, Or.inl ⟨fun m => ?_, DR.up' hj D1 S F fm e5 (b' := 0) co⟩⟩
    · unfold lkO
      rw [k0, if_neg (by decide), if_neg (by decide), fm.1 12 67 (by omega) (by omega) (by omega), K1]
    · rw [pre, k0, if_neg (by decide), if_neg (by decide), if_neg (by decide), if_neg (by decide), if_pos rfl, k1, e_picks D1.1.1.1 hk hf, Option.bind_some, nI_succ]
  · obtain ⟨h', e, S, co, e5, F⟩ := bt_lock D1.1 C1 hi D1.2.2.2.2.1 (by rw [hc]; exact k0)
    rw [hc] at e5
    have e7 : lkO o (M.1 12 67) = if o 0 = 5 then 1 else 0 := by
      unfold lkO
      rcases k0 with k0 | k0
      · rw [k0, if_pos rfl, if_pos rfl]
      · rw [k0, if_neg (by decide), if_pos rfl, if_neg (by decide)]
    refine ⟨h', uM M1 12 67 (if o 0 = 5 then 1 else 0), u + 1, by omega, by rw [eL, e, Option.bind_some], F1.tr F.y, G1.tr (Fi.u67 k _ _), by rw [uM_s, e7], Or.inl ⟨fun m => ?_, ?_⟩⟩
    · rw [pre]
      rcases k0 with k0 | k0
      · rw [k0, if_neg (by decide), if_neg (by decide), if_neg (by decide), if_neg (by decide), if_neg (by decide), if_pos rfl, if_pos rfl, nI_succ, wM_u g _ rfl]
      · rw [k0, if_neg (by decide), if_neg (by decide), if_neg (by decide), if_neg (by decide), if_neg (by decide), if_neg (by decide), if_neg (by decide), nI_succ, wM_u g _ rfl]
    · refine ⟨S.i (Eq7.u67 _ _), F.y.al D1.2.1, (Fi.u67 k _ _).bk D1.2.2.1, (Fi.u67 k _ _).ops (by omega) O1, ?_, by rw [e5, uM_s]⟩
      rw [uM_t _ (by omega)]
      exact co
