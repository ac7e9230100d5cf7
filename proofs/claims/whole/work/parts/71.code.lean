/-! ===== CODE, the model's side: what is read of the book, and the list of instructions ===== -/
/-- M's book is that of B -/
def Bk (M B : mM) : Prop := ∀ t k, ((46 ≤ t ∧ t ≤ 62) ∨ (t = 12 ∧ (k = 1 ∨ k = 2 ∨ k = 11 ∨ k = 16 ∨ k = 22))) → M.1 t k = B.1 t k
theorem Bk.rf (M : mM) : Bk M M := fun _ _ _ => rfl
theorem Bk.a {M B : mM} (h : Bk M B) {t : Nat} (k : Nat) (h1 : 46 ≤ t) (h2 : t ≤ 62) : M.1 t k = B.1 t k := h t k (Or.inl ⟨h1, h2⟩)
theorem Bk.f {M B : mM} (h : Bk M B) : M.1 12 2 = B.1 12 2 := h 12 2 (by omega)
theorem Bk.l {M B : mM} (h : Bk M B) : M.1 12 11 = B.1 12 11 := h 12 11 (by omega)
theorem Bk.c {M B : mM} (h : Bk M B) : M.1 12 16 = B.1 12 16 := h 12 16 (by omega)
theorem Bk.o {M B : mM} (h : Bk M B) : M.1 12 22 = B.1 12 22 := h 12 22 (by omega)
def anN (p : Nat → Bool) : Nat → Bool
  | 0 => false
  | n + 1 => anN p n || p n
def alN (p : Nat → Bool) : Nat → Bool
  | 0 => true
  | n + 1 => alN p n && p n
def orI (g : Nat → Int32) : Nat → Int32
  | 0 => 0
  | n + 1 => orI g n ||| g n
theorem alN_false {p : Nat → Bool} {j : Nat} (h : alN p j = false) : ∀ d, alN p (j + d) = false
  | 0 => h
  | d + 1 => by
    show (alN p (j + d) && p (j + d)) = false
    rw [alN_false h d]
    rfl
theorem anN_iff {p : Nat → Bool} : ∀ {n : Nat}, anN p n = true ↔ ∃ j, j < n ∧ p j = true
  | 0 => ⟨fun h => absurd (show false = true from h) (by decide), fun ⟨j, h, _⟩ => absurd h (Nat.not_lt_zero j)⟩
  | n + 1 => by
    show (anN p n || p n) = true ↔ _
    rw [Bool.or_eq_true, anN_iff]
    constructor
    · rintro (⟨j, h1, h2⟩ | h)
      · exact ⟨j, by omega, h2⟩
      · exact ⟨n, by omega, h⟩
    · rintro ⟨j, h1, h2⟩
      by_cases e : j = n
      · exact Or.inr (e ▸ h2)
      · exact Or.inl ⟨j, by omega, h2⟩
theorem alN_iff {p : Nat → Bool} : ∀ {n : Nat}, alN p n = true ↔ ∀ j, j < n → p j = true
  | 0 => ⟨fun _ j h => absurd h (Nat.not_lt_zero j), fun _ => rfl⟩
  | n + 1 => by
    show (alN p n && p n) = true ↔ _
    rw [Bool.and_eq_true, alN_iff]
    constructor
    · rintro ⟨h1, h2⟩ j hj
      by_cases e : j = n
      · exact e ▸ h2
      · exact h1 j (by omega)
    · intro h
      exact ⟨fun j hj => h j (by omega), h n (by omega)⟩
theorem nI_mul (a b : Nat) : nI a * nI b = nI (a * b) := (Int32.ofNat_mul a b).symm
theorem it4 {α : Type} (P Q R S : Prop) [Decidable P] [Decidable Q] [Decidable R] [Decidable S] (F : Int32 → α) : (if P then if Q then F 1 else if R then if S then F 1 else F 0 else F 0 else if R then if S then F 1 else F 0 else F 0) = F (b2i (false || ((decide P && decide Q) || (decide R && decide S)))) := by
  by_cases hP : P <;> by_cases hQ : Q <;> by_cases hR : R <;> by_cases hS : S <;> simp [hP, hQ, hR, hS, b2i]
/-- laws that bind two fields -/
def bdP (B : mM) (x y : Int32) (l : Nat) : Bool := (decide (B.1 55 l = x) && decide (B.1 56 l = y)) || (decide (B.1 55 l = y) && decide (B.1 56 l = x))
def bdM (B : mM) (x y : Int32) : Bool := anN (bdP B x y) (B.1 12 11).toNatClampNeg
theorem e_isBound (x y : Int32) (h : mH) {M B : mM} (hB : Bk M B) {n : Nat} (hn : B.1 12 11 = nI n) (h12 : n ≤ 12) : f_X12_isBound x y (wM h M) = some (b2i (bdM B x y), wM h M) := by
  have en : (B.1 12 11).toNatClampNeg = n := by rw [hn, nI_clamp (by omega)]
  unfold f_X12_isBound bdM
  rw [en]
  refine mLoop (fun m (c : Int32 × Int32) => f_X12_isBound_5 (fun _ _ u12 _ h14 => if (u12 = 0 ∨ u12 = 1) then some (u12, h14) else none) m x y c.1 c.2 (wM h M)) (fun j => (b2i (anN (bdP B x y) j), nI j)) n (some (b2i (anN (bdP B x y) n), wM h M)) ?_ ?_ mFu (mFu_lt (by omega))
  · intro j hj m
    dsimp only
    rw [f_X12_isBound_5, wM_1 h M rfl, hB.l, hn, if_pos (nI_lt hj (by omega)), if_pos (mIn_nI (show j < 12 by omega) (by omega)), nI_clamp (by omega), wM_1 h M rfl, wM_1 h M rfl, hB.a j (by omega) (by omega), hB.a j (by omega) (by omega), nI_succ]
    have e : anN (bdP B x y) (j + 1) = (anN (bdP B x y) j || bdP B x y j) := rfl
    rw [e]
    cases anN (bdP B x y) j
    · rw [if_pos (show b2i false = 0 from rfl)]
      unfold bdP
      exact it4 _ _ _ _ (fun v => f_X12_isBound_5 (fun _ _ u12 _ h14 => if (u12 = 0 ∨ u12 = 1) then some (u12, h14) else none) m x y v (nI j + 1) (wM h M))
    · rw [if_neg (by decide)]
      rfl
  · intro m
    dsimp only
    rw [f_X12_isBound_5, wM_1 h M rfl, hB.l, hn, if_neg (nI_nlt (Nat.le_refl _) (by omega)), if_pos (b2i_01 _)]
def shP (B : mM) (x : Int32) (f : Nat) : Bool := decide (B.1 46 f = x) && (decide (B.1 49 f = 3) || decide (B.1 49 f = 5))
def shM (B : mM) (x : Int32) : Bool := anN (shP B x) (B.1 12 2).toNatClampNeg
theorem e_isShadowed (x : Int32) (h : mH) {M B : mM} (hB : Bk M B) {n : Nat} (hn : B.1 12 2 = nI n) (h24 : n ≤ 24) : f_X12_isShadowed x (wM h M) = some (b2i (shM B x), wM h M) := by
  have en : (B.1 12 2).toNatClampNeg = n := by rw [hn, nI_clamp (by omega)]
  unfold f_X12_isShadowed shM
  rw [en]
  refine mLoop (fun m (c : Int32 × Int32) => f_X12_isShadowed_4 (fun _ u8 _ h10 => if (u8 = 0 ∨ u8 = 1) then some (u8, h10) else none) m x c.1 c.2 (wM h M)) (fun j => (b2i (anN (shP B x) j), nI j)) n (some (b2i (anN (shP B x) n), wM h M)) ?_ ?_ mFu (mFu_lt (by omega))
  · intro j hj m
    dsimp only
    rw [f_X12_isShadowed_4, wM_1 h M rfl, hB.f, hn, if_pos (nI_lt hj (by omega)), if_pos (mIn_nI (show j < 24 by omega) (by omega)), nI_clamp (by omega), wM_1 h M rfl, wM_1 h M rfl, hB.a j (by omega) (by omega), hB.a j (by omega) (by omega), nI_succ]
    have e : anN (shP B x) (j + 1) = (anN (shP B x) j || shP B x j) := rfl
    rw [e]
    cases anN (shP B x) j
    · rw [if_pos (show b2i false = 0 from rfl)]
      unfold shP
      by_cases q1 : B.1 46 j = x <;> by_cases q2 : B.1 49 j = 3 <;> by_cases q3 : B.1 49 j = 5 <;> simp only [q1, q2, q3, if_true, if_false, decide_true, decide_false, Bool.and_self, Bool.and_true, Bool.and_false, Bool.or_false, Bool.or_true, Bool.or_self, Bool.false_and, Bool.true_and, Bool.true_or, Bool.false_or] <;> rfl
    · rw [if_neg (by decide)]
      rfl
  · intro m
    dsimp only
    rw [f_X12_isShadowed_4, wM_1 h M rfl, hB.f, hn, if_neg (nI_nlt (Nat.le_refl _) (by omega)), if_pos (b2i_01 _)]
def hhP (B : mM) (f : Nat) : Bool := !(decide (B.1 53 f = -1))
def hhM (B : mM) : Bool := anN (hhP B) (B.1 12 2).toNatClampNeg
theorem e_hasHandler (h : mH) {M B : mM} (hB : Bk M B) {n : Nat} (hn : B.1 12 2 = nI n) (h24 : n ≤ 24) : f_X12_hasHandler (wM h M) = some (b2i (hhM B), wM h M) := by
  have en : (B.1 12 2).toNatClampNeg = n := by rw [hn, nI_clamp (by omega)]
  unfold f_X12_hasHandler hhM
  rw [en]
  refine mLoop (fun m (c : Int32 × Int32) => f_X12_hasHandler_4 (fun u8 _ h10 => if (u8 = 0 ∨ u8 = 1) then some (u8, h10) else none) m c.1 c.2 (wM h M)) (fun j => (b2i (anN (hhP B) j), nI j)) n (some (b2i (anN (hhP B) n), wM h M)) ?_ ?_ mFu (mFu_lt (by omega))
  · intro j hj m
    dsimp only
    rw [f_X12_hasHandler_4, wM_1 h M rfl, hB.f, hn, if_pos (nI_lt hj (by omega)), if_pos (mIn_nI (show j < 24 by omega) (by omega)), nI_clamp (by omega), wM_1 h M rfl, hB.a j (by omega) (by omega), nI_succ]
    have e : anN (hhP B) (j + 1) = (anN (hhP B) j || hhP B j) := rfl
    rw [e]
    cases anN (hhP B) j
    · rw [if_pos (show b2i false = 0 from rfl)]
      unfold hhP
      by_cases q1 : B.1 53 j = -1
      · rw [if_pos q1, decide_eq_true q1]
        rfl
      · rw [if_neg q1, decide_eq_false q1]
        rfl
    · rw [if_neg (by decide)]
      rfl
  · intro m
    dsimp only
    rw [f_X12_hasHandler_4, wM_1 h M rfl, hB.f, hn, if_neg (nI_nlt (Nat.le_refl _) (by omega)), if_pos (b2i_01 _)]
/-- the field of a step -/
def sfM (B : mM) (p : Nat) : Nat := (B.1 60 p).toNatClampNeg
/-- whether step q goes with the group from p on -/
def joP (B : mM) (p q d : Nat) : Bool := !(decide (B.1 60 (p + d) = B.1 60 q)) && !(bdM B (B.1 60 (p + d)) (B.1 60 q))
def joM (B : mM) (p q : Nat) : Bool := (decide (B.1 59 q = 0) && decide (B.1 46 (sfM B q) = B.1 46 (sfM B p))) && alN (joP B p q) (q - p)
theorem e_jo43 (h : mH) {M B : mM} (hB : Bk M B) {n : Nat} (hn : B.1 12 11 = nI n) (h12 : n ≤ 12) {p q : Nat} (hpq : p ≤ q) (hq : q < 72) : ∀ (d j : Nat), j + d = q - p → ∀ (m : Nat), d < m → ∀ b : Bool, f_X12_joins_43 (fun _ u20 _ h22 => if (u20 = 0 ∨ u20 = 1) then some (u20, h22) else none) m (nI q) (b2i (b && alN (joP B p q) j)) (nI (p + j)) (wM h M) = some (b2i (b && alN (joP B p q) (q - p)), wM h M) := by
  intro d
  induction d with
  | zero =>
    intro j hj m hm b
    cases m with
    | zero => omega
    | succ m =>
      have e : j = q - p := by omega
      subst e
      rw [f_X12_joins_43, if_neg (nI_nlt (by omega) (by omega)), if_pos (b2i_01 _)]
  | succ d ih =>
    intro j hj m hm b
    cases m with
    | zero => omega
    | succ m =>
      rw [f_X12_joins_43, if_pos (nI_lt (by omega) (by omega))]
      cases hb : (b && alN (joP B p q) j)
      · rw [if_pos (show b2i false = 0 from rfl), if_pos (b2i_01 _)]
        have z : (b && alN (joP B p q) (q - p)) = false := by
          cases b
          · rfl
          · have := alN_false (p := joP B p q) (j := j) hb (d + 1)
            rw [hj] at this
            exact this
        rw [z]
      · have i2 := ih (j + 1) (by omega) m (by omega) b
        have e : (b && alN (joP B p q) (j + 1)) = joP B p q j := by
          show (b && (alN (joP B p q) j && joP B p q j)) = _
          rw [← Bool.and_assoc, hb, Bool.true_and]
        rw [e] at i2
        rw [if_neg (by decide), if_pos (mIn_nI (show p + j < 72 by omega) (by omega)), if_pos (mIn_nI hq (by omega)), nI_clamp (by omega), nI_clamp (by omega), wM_1 h M rfl, wM_1 h M rfl, hB.a _ (by omega) (by omega), hB.a _ (by omega) (by omega), ← nI_succ]
        rw [e_isBound _ _ h hB hn h12, Option.bind_some]
        dsimp only
        rw [show p + j + 1 = p + (j + 1) by omega]
        rw [← i2]
        unfold joP
        by_cases q1 : B.1 60 (p + j) = B.1 60 q
        · rw [if_pos q1, decide_eq_true q1]
          rfl
        · rw [if_neg q1, decide_eq_false q1]
          cases bdM B (B.1 60 (p + j)) (B.1 60 q)
          · rw [if_pos (show b2i false = 0 from rfl)]
            rfl
          · rw [if_neg (by decide)]
            rfl
theorem e_joins (h : mH) {M B : mM} (hB : Bk M B) {n : Nat} (hn : B.1 12 11 = nI n) (h12 : n ≤ 12) {p q : Nat} (hpq : p ≤ q) (hq : q < 72) (hp : mIn (B.1 60 p) 24 = true) (hs : B.1 59 q = 0 → mIn (B.1 60 q) 24 = true) : f_X12_joins (nI p) (nI q) (wM h M) = some (b2i (joM B p q), wM h M) := by
  have k0 := e_jo43 h hB hn h12 hpq hq (q - p) 0 (by omega) mFu (mFu_lt (by omega)) false
  have k1 := e_jo43 h hB hn h12 hpq hq (q - p) 0 (by omega) mFu (mFu_lt (by omega)) true
  unfold f_X12_joins joM
  rw [if_pos (mIn_nI hq (by omega)), nI_clamp (by omega), wM_1 h M rfl, hB.a q (by omega) (by omega)]
  by_cases q1 : B.1 59 q = 0
  · rw [if_pos q1, wM_1 h M rfl, hB.a q (by omega) (by omega), if_pos (hs q1), if_pos (mIn_nI (show p < 72 by omega) (by omega)), nI_clamp (by omega), wM_1 h M rfl, hB.a p (by omega) (by omega), if_pos hp, wM_1 h M rfl, wM_1 h M rfl, hB.a _ (by omega) (by omega), hB.a _ (by omega) (by omega), decide_eq_true q1]
    show (if B.1 46 (sfM B q) = B.1 46 (sfM B p) then _ else _) = _
    by_cases q2 : B.1 46 (sfM B q) = B.1 46 (sfM B p)
    · rw [if_pos q2, decide_eq_true q2]
      exact k1
    · rw [if_neg q2, decide_eq_false q2]
      exact k0
  · rw [if_neg q1, decide_eq_false q1]
    exact k0
