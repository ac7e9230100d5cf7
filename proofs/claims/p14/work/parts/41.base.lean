/-! ===== the model's small methods, in closed form ===== -/
def b2i (b : Bool) : Int32 := if b = true then 1 else 0
theorem b2i_0 {b : Bool} : b2i b = 0 ↔ b = false := by cases b <;> simp [b2i]
theorem b2i_01 (b : Bool) : b2i b = 0 ∨ b2i b = 1 := by cases b <;> simp [b2i]
theorem nI_sub1 (m : Nat) : nI (m + 1) - 1 = nI m := by rw [nI_succ, Int32.add_sub_cancel]
theorem mIn_neg {x : Int32} {n : Nat} (h : x < 0) : mIn x n = false := by simp [mIn, h]
theorem mIn_le {x : Int32} {n : Nat} (h0 : ¬ x < 0) (hn : n < 2147483648) : (x ≤ nI n - 1) ↔ mIn x n = true := by
  have h1 := Int32.not_lt.mp h0
  have hx : ∃ j : Nat, j < 2147483648 ∧ x = nI j := by
    rw [Int32.le_iff_toInt_le, Int32.toInt_zero] at h1
    have hlt : x.toInt < 2147483648 := Int32.toInt_lt x
    refine ⟨x.toInt.toNat, by omega, ?_⟩
    apply Int32.toInt_inj.mp
    rw [nI_toInt (by omega)]
    omega
  obtain ⟨j, hj, rfl⟩ := hx
  have hc : mIn (nI j) n = decide (j < n) := by
    by_cases q : j < n
    · rw [mIn_nI q hn, decide_eq_true q]
    · have e : (nI j).toNatClampNeg = j := nI_clamp (by omega)
      rw [decide_eq_false q]
      simp [mIn, e]
      intro _
      omega
  rw [hc]
  cases n with
  | zero =>
    constructor
    · intro q
      exact absurd (Int32.le_trans (nI_pos' (by omega)) q) (by decide)
    · intro q
      simp at q
  | succ m =>
    rw [nI_sub1]
    constructor
    · intro q
      apply decide_eq_true
      by_cases z : j < m + 1
      · exact z
      · exact absurd q (nI_ge (by omega) (by omega))
    · intro q
      exact nI_le (by have := of_decide_eq_true q; omega) (by omega)
theorem rng {x : Int32} {n : Nat} (hn : n < 2147483648) : (if x < 0 then (0 : Int32) else if x ≤ nI n - 1 then 1 else 0) = b2i (mIn x n) := by
  by_cases h : x < 0
  · rw [if_pos h, mIn_neg h]
    rfl
  · rw [if_neg h]
    by_cases q : x ≤ nI n - 1
    · rw [if_pos q, (mIn_le h hn).mp q]
      rfl
    · rw [if_neg q]
      cases e : mIn x n
      · rfl
      · exact absurd ((mIn_le h hn).mpr e) q
theorem e_in (x a b : Int32) (h : mH) : f_X12_in x a b h = some (if x < a then 0 else if x ≤ b then 1 else 0, h) := by
  unfold f_X12_in
  split
  · rfl
  · split <;> rfl
theorem e_isField {x : Int32} {h : mH} {M : mM} {n : Nat} (hn : M.1 12 2 = nI n) (hb : n < 2147483648) : f_X12_isField x (wM h M) = some (b2i (mIn x n), wM h M) := by
  unfold f_X12_isField
  rw [e_in, wM_1 h M rfl, hn, Option.bind_some]
  dsimp only
  rw [rng hb, if_pos (b2i_01 _)]
theorem e_isRegister {x : Int32} {h : mH} {M : mM} {n : Nat} (hn : M.1 12 1 = nI n) (hb : n < 2147483648) : f_X12_isRegister x (wM h M) = some (b2i (mIn x n), wM h M) := by
  unfold f_X12_isRegister
  rw [e_in, wM_1 h M rfl, hn, Option.bind_some]
  dsimp only
  rw [rng hb, if_pos (b2i_01 _)]
theorem e_isAct {x : Int32} {h : mH} {M : mM} {n : Nat} (hn : M.1 12 16 = nI n) (hb : n < 2147483648) : f_X12_isAct x (wM h M) = some (b2i (mIn x n), wM h M) := by
  unfold f_X12_isAct
  rw [e_in, wM_1 h M rfl, hn, Option.bind_some]
  dsimp only
  rw [rng hb, if_pos (b2i_01 _)]
/-- the largest number of a field's width; its bits -/
def oneM (M : mM) (f : Nat) : Int32 := (1 <<< ((M.1 48 f) &&& 31)) - 1
def mskM (M : mM) (f : Nat) : Int32 := oneM M f <<< ((M.1 47 f) &&& 31)
def bitM (M : mM) (f : Nat) (x : Int32) : Int32 := (x >>> ((M.1 47 f) &&& 31)) &&& oneM M f
theorem e_most {f : Nat} (hf : f < 24) (h : mH) (M : mM) : f_X12_most (nI f) (wM h M) = some (oneM M f, wM h M) := by
  unfold f_X12_most
  rw [if_pos (mIn_nI hf (by omega)), wM_1 h M rfl, nI_clamp (by omega)]
  rfl
theorem e_mask {f : Nat} (hf : f < 24) (h : mH) (M : mM) : f_X12_mask (nI f) (wM h M) = some (mskM M f, wM h M) := by
  unfold f_X12_mask
  rw [e_most hf, Option.bind_some]
  dsimp only
  rw [if_pos (mIn_nI hf (by omega)), wM_1 h M rfl, nI_clamp (by omega)]
  rfl
theorem e_bitsOf {f : Nat} (hf : f < 24) (x : Int32) (h : mH) (M : mM) : f_X12_bitsOf (nI f) x (wM h M) = some (bitM M f x, wM h M) := by
  unfold f_X12_bitsOf
  rw [if_pos (mIn_nI hf (by omega)), e_most hf, Option.bind_some, wM_1 h M rfl, nI_clamp (by omega)]
  rfl
def refM (M : mM) : mM := uM M 12 62 (M.1 12 62 + 1)
theorem e_refuse (x : Int32) (h : mH) (M : mM) : f_X12_refuse x (wM h M) = some (x, wM h (refM M)) := by
  unfold f_X12_refuse refM
  rw [wM_1 h M rfl, wM_u h M rfl]
/-- POWER: the scalars, the shadows, then the fields one by one -/
def pwSc (M : mM) : mM := uM (uM (uM (uM (uM (uM (uM M 12 23 0) 12 30 0) 12 34 0) 12 35 (-1)) 12 36 (-1)) 12 37 0) 12 38 0
def pwSh : Nat → mM → mM
  | 0, M => M
  | j + 1, M => uM (pwSh j M) 68 j 0
def pwF (M : mM) (f : Nat) : mM :=
  let M1 := uM (uM (uM (uM (uM M 63 f (M.1 50 f)) 64 f (M.1 50 f)) 65 f 0) 66 f 0) 67 f (-1)
  uM M1 68 (M.1 46 f).toNatClampNeg (M.1 68 (M.1 46 f).toNatClampNeg ||| (if M.1 49 f = 0 ∨ M.1 49 f = 5 then M.1 50 f <<< (M.1 47 f &&& 31) else 0))
def pwFs : Nat → mM → mM
  | 0, M => M
  | f + 1, M => pwF (pwFs f M) f
def powM (M : mM) : mM := pwFs (M.1 12 2).toNatClampNeg (pwSh 8 (pwSc M))
