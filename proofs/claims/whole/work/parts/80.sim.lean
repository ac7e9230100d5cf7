def QU (BM : mH → Option mH) (v2 : Int32) (Q : Nat → Int32 → mH → Option mH) : Prop := ∀ m v3 h, Q (m + 1) v3 h = if v3 < v2 then if v3 ≤ 0 then (f_X12_ticks h).bind fun r => Q m (v3 + 1) r else (BM h).bind fun r4 => (f_X12_ticks r4).bind fun r5 => Q m (v3 + 1) r5 else some h
theorem QU_1 (v1 v2 : Int32) : QU (f_X12_handles_1 v1) v2 (fun m v3 h => f_X12_pauses_1_2 (fun _ _ _ h9 => some h9) m v1 v2 v3 h) := fun m v3 h => rfl
theorem QU_2 (v1 v2 : Int32) : QU (f_X12_handles_2 v1) v2 (fun m v3 h => f_X12_pauses_2_2 (fun _ _ _ h9 => some h9) m v1 v2 v3 h) := fun m v3 h => rfl
theorem s_pause {g : mH} {β : Type} {B : mM} {n na k j i v : Nat} {BC BM : mH → Option mH} {L : Nat → mH → Option β} {Q : Nat → Int32 → mH → Option mH} (hj : j < na) (bt : Btw g B n na k j BC BM) (lc : LC (cdM B j) j k BC L) (qu : QU BM (nI v) Q) (hi : i < (cdM B j).length) (h0 : ((cdM B j).getD i o0) 0 = 3) (h1 : ((cdM B j).getD i o0) 1 = nI v) (hv : v ≤ 9) : ∀ d b, b + d + 1 = v → ∀ h M u, DR B n na k j h M i b → u + d < 1008 → ∃ h' N u', u' ≤ u + d + 1 ∧ (f_X5_beat j k h).bind (fun h2 => L (u + 1) h2) = L u' h' ∧ Fy k h h' ∧ Fi k M N ∧ N.1 12 67 = M.1 12 67 ∧ (∀ m, d < m → (f_X12_ticks (wM g M)).bind (fun r => Q m (nI (b + 1)) r) = some (wM g N)) ∧ DR B n na k j h' N (i + 1) 0 := by
  intro d
  induction d with
  | zero =>
    intro b hb h M u D hu
    obtain ⟨h', e, S, o, e5, F⟩ := bt_pause D.1 (D.2.1.2.2 j hj) hi D.2.2.2.2.1 h0
    have fm := tikM_f M
    rw [h1, ← nI_succ, if_neg (nI_nlt (by omega) (by omega))] at o
    refine ⟨h', tikM M, u + 1, by omega, by rw [e, Option.bind_some], F.y, fm.i k, fm.1 12 67 (by omega) (by omega) (by omega), fun m hm => ?_, DR.up' hj D S F fm e5 (b' := 0) o⟩
    cases m with
    | zero => omega
    | succ m => rw [D.1.e_tick, Option.bind_some, qu, if_neg (nI_nlt (by omega) (by omega))]
  | succ d ih =>
    intro b hb h M u D hu
    obtain ⟨h', e, S, o, e5, F⟩ := bt_pause D.1 (D.2.1.2.2 j hj) hi D.2.2.2.2.1 h0
    have fm := tikM_f M
    rw [h1, ← nI_succ, if_pos (nI_lt (by omega) (by omega))] at o
    have D1 := DR.up' hj D S F fm e5 o
    obtain ⟨h3, M3, b1, b2, D3, F3, G3, K3⟩ := bt _ _ _ _ D1
    obtain ⟨h4, N, u', hu', e4, F4, G4, K4, r1, r2⟩ := ih (b + 1) (by omega) h3 M3 (u + 1) D3 (by omega)
    refine ⟨h4, N, u', by omega, ?_, (F.y.tr F3).tr F4, ((fm.i k).tr G3).tr G4, (K4.trans K3).trans (fm.1 12 67 (by omega) (by omega) (by omega)), fun m hm => ?_, r2⟩
    · rw [e, Option.bind_some, lc (u + 1) h' i _ _ (by omega) (D1.2.1.2.2 j hj) hi D1.2.2.2.2.1, b1, Option.bind_some]
      exact e4
    · cases m with
      | zero => omega
      | succ m =>
        rw [D.1.e_tick, Option.bind_some, qu, if_pos (nI_lt (by omega) (by omega)), if_neg (nI_nle (by omega) (by omega)), b2, Option.bind_some, ← nI_succ]
        exact r1 m (by omega)
/-- an instruction as code may have it -/
def okO (n : Nat) (o : Nat → Int32) : Prop := (o 0 = 0 ∧ ∃ r, r < 8 ∧ o 1 = nI r) ∨ (o 0 = 1 ∧ ∃ r, r < 8 ∧ o 1 = nI r) ∨ (o 0 = 2 ∧ (∃ r, r < 8 ∧ o 1 = nI r) ∧ ∃ l, l ≤ 20 ∧ o 5 = nI l) ∨ (o 0 = 3 ∧ ∃ v, 1 ≤ v ∧ v ≤ 9 ∧ o 1 = nI v) ∨ (o 0 = 4 ∧ ∃ f, f < n ∧ o 1 = nI f) ∨ (o 0 = 5 ∨ o 0 = 6)
def RU {γ : Type} (BM : mH → Option mH) (v1 : Int32) (PO : Int32 → mH → Option (Int32 × mH)) (PA : Int32 → mH → Option mH) (K : Int32 → Int32 → mH → Option γ) (R : Nat → Int32 → Int32 → mH → Option γ) : Prop := ∀ m v3 v4 h, R (m + 1) v3 v4 h =
    if mIn v1 2 = true then
    if v4 < (h.1 93 0 v1.toNatClampNeg) then
      if v3 = 0 then
        (BM h).bind fun r7 =>
        if mIn (6 * ((50 * v1) + v4)) 600 = true then
        if (r7.1 94 0 (6 * ((50 * v1) + v4)).toNatClampNeg) = 0 then
          if mIn ((6 * ((50 * v1) + v4)) + 1) 600 = true then
          (f_X12_reads (r7.1 94 0 ((6 * ((50 * v1) + v4)) + 1).toNatClampNeg) 1 r7).bind fun r11 =>
          R m v3 (v4 + 1) (uI r11.2 95 0 v1.toNatClampNeg r11.1)
          else none
        else
        if (r7.1 94 0 (6 * ((50 * v1) + v4)).toNatClampNeg) = 1 then
          (f_X12_puts v1 (6 * ((50 * v1) + v4)) r7).bind fun r13 =>
          R m v3 (v4 + 1) r13
        else
        if (r7.1 94 0 (6 * ((50 * v1) + v4)).toNatClampNeg) = 2 then
          (PO (6 * ((50 * v1) + v4)) r7).bind fun r15 =>
          R m r15.1 (v4 + 1) r15.2
        else
        if (r7.1 94 0 (6 * ((50 * v1) + v4)).toNatClampNeg) = 3 then
          if mIn ((6 * ((50 * v1) + v4)) + 1) 600 = true then
          (PA (r7.1 94 0 ((6 * ((50 * v1) + v4)) + 1).toNatClampNeg) r7).bind fun r18 =>
          R m v3 (v4 + 1) r18
          else none
        else
        if (r7.1 94 0 (6 * ((50 * v1) + v4)).toNatClampNeg) = 4 then
          if mIn ((6 * ((50 * v1) + v4)) + 1) 600 = true then
          (f_X12_picks v1 (r7.1 94 0 ((6 * ((50 * v1) + v4)) + 1).toNatClampNeg) r7).bind fun r21 =>
          R m v3 (v4 + 1) r21
          else none
        else
        if (r7.1 94 0 (6 * ((50 * v1) + v4)).toNatClampNeg) = 5 then
          R m v3 (v4 + 1) (uI r7 12 0 67 1)
        else
          R m v3 (v4 + 1) (uI r7 12 0 67 0)
        else none
      else
        K v3 v4 h
    else
      K v3 v4 h
    else none
theorem RU_1 (v1 : Int32) (K : Int32 → Int32 → Int32 → mH → Option (Int32 × mH)) : RU (f_X12_handles_1 v1) v1 (fun a h => f_X12_polls_1 v1 a h) (fun a h => f_X12_pauses_1 v1 a h) (K v1) (fun m v3 v4 h => f_X12_runs_1_23 K m v1 v3 v4 h) := fun m v3 v4 h => rfl
theorem RU_2 (v1 : Int32) (K : Int32 → Int32 → Int32 → mH → Option (Int32 × mH)) : RU (f_X12_handles_2 v1) v1 (fun a h => f_X12_polls_2 v1 a h) (fun a h => f_X12_pauses_2 v1 a h) (K v1) (fun m v3 v4 h => f_X12_runs_2_23 K m v1 v3 v4 h) := fun m v3 v4 h => rfl
