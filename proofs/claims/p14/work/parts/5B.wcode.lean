/-! ===== CODE: the reference's and the class's (rows of whole, parts 60 to 90) ===== -/
def lsP (p : Nat → Bool) : Nat → List Nat
  | 0 => []
  | n + 1 => if p n = true then lsP p n ++ [n] else lsP p n
theorem mLoopR {α β : Type} (F : Nat → β → Option α) (I : Nat → β → Prop) (N : Nat) (E : β → Option α) (hs : ∀ j, j < N → ∀ b, I j b → ∃ b', I (j + 1) b' ∧ ∀ n, F (n + 1) b = F n b') (he : ∀ b, I N b → ∀ n, F (n + 1) b = E b) {b0 : β} (h0 : I 0 b0) : ∀ n, N < n → ∃ b, I N b ∧ F n b0 = E b := by
  have key : ∀ d j, j + d = N → ∀ b, I j b → ∀ n, d < n → ∃ b', I N b' ∧ F n b = E b' := by
    intro d
    induction d with
    | zero =>
      intro j hj b hb n hn
      cases n with
      | zero => omega
      | succ n =>
        have e : j = N := by omega
        subst e
        exact ⟨b, hb, he b hb n⟩
    | succ d ih =>
      intro j hj b hb n hn
      cases n with
      | zero => omega
      | succ n =>
        obtain ⟨b', hb', e⟩ := hs j (by omega) b hb
        obtain ⟨b2, h1, h2⟩ := ih (j + 1) (by omega) b' hb' n (by omega)
        exact ⟨b2, h1, by rw [e n]; exact h2⟩
  intro n hn
  exact key N 0 (by omega) b0 h0 n hn
def RF (h : mH) (n : Nat) (M : mM) : Prop := n ≤ 24 ∧ M.1 12 2 = nI n ∧ h.1 1 0 4 = nI n ∧ ∀ f, f < n → (h.1 6 f 0 = M.1 46 f ∧ h.1 6 f 1 = M.1 47 f ∧ h.1 6 f 2 = M.1 48 f ∧ h.1 6 f 3 = M.1 49 f ∧ h.1 6 f 4 = M.1 50 f) ∧ h.1 6 f 5 = oneM M f ∧ h.1 6 f 6 = mskM M f ∧ h.1 6 f 7 = M.1 51 f ∧ h.1 6 f 8 = M.1 52 f ∧ h.1 6 f 9 = M.1 53 f
def inR (M : mM) (r : Nat) : Nat → Bool := fun f => decide (M.1 46 f = nI r)
def kpM (M : mM) (f : Nat) : Bool := decide (M.1 49 f = 0) || decide (M.1 49 f = 5)
def kpB (M : mM) (r : Nat) : Nat → Int32
  | 0 => 0
  | f + 1 => if (inR M r f && kpM M f) = true then kpB M r f ||| mskM M f else kpB M r f
/-! rows on bits, shifts and unsigned numbers, to paste: each family out of a closed proof of our own, whole with what it rests on; each by itself clean at Lean in its own claim (generation 39, form 5). Take a family whole -/
/-! ===== Int32 by its bits: bt x i ===== -/
def bt (x : Int32) (i : Nat) : Bool := x.toBitVec.getLsbD i
theorem b_ext {x y : Int32} (h : ∀ i, i < 32 → bt x i = bt y i) : x = y := Int32.toBitVec_inj.mp (BitVec.eq_of_getLsbD_eq (fun i hi => h i hi))
theorem b_or (x y : Int32) (i : Nat) : bt (x ||| y) i = (bt x i || bt y i) := by unfold bt; rw [Int32.toBitVec_or, BitVec.getLsbD_or]
theorem b_and (x y : Int32) (i : Nat) : bt (x &&& y) i = (bt x i && bt y i) := by unfold bt; rw [Int32.toBitVec_and, BitVec.getLsbD_and]
theorem b_xor (x y : Int32) (i : Nat) : bt (x ^^^ y) i = (bt x i ^^ bt y i) := by unfold bt; rw [Int32.toBitVec_xor, BitVec.getLsbD_xor]
theorem b_big {x : Int32} {i : Nat} (h : 32 ≤ i) : bt x i = false := BitVec.getLsbD_of_ge _ _ h
theorem b_255 (i : Nat) : bt 255 i = decide (i < 8) := by
  rcases Nat.lt_or_ge i 32 with h | h
  · exact (by decide +kernel : ∀ i, i < 32 → bt 255 i = decide (i < 8)) i h
  · rw [b_big h, decide_eq_false (by omega)]
theorem b_65535 (i : Nat) : bt 65535 i = decide (i < 16) := by
  rcases Nat.lt_or_ge i 32 with h | h
  · exact (by decide +kernel : ∀ i, i < 32 → bt 65535 i = decide (i < 16)) i h
  · rw [b_big h, decide_eq_false (by omega)]
theorem b_m1 : ∀ i, i < 32 → bt (-1) i = true := by decide +kernel
theorem b_0 (i : Nat) : bt 0 i = false := BitVec.getLsbD_zero
theorem s_l : ∀ n, n < 32 → ((nI n &&& 31).toBitVec.smod 32).toNat = n := by decide +kernel
theorem s_u : ∀ n, n < 32 → (((nI n).toUInt32 &&& Int32.toUInt32 31).toBitVec % 32).toNat = n := by decide +kernel
theorem b_shl (n : Nat) (hn : n < 32) (x : Int32) {i : Nat} (hi : i < 32) : bt (x <<< (nI n &&& 31)) i = (decide (n ≤ i) && bt x (i - n)) := by
  unfold bt
  rw [Int32.toBitVec_shiftLeft]
  show (x.toBitVec <<< ((nI n &&& 31).toBitVec.smod 32).toNat).getLsbD i = _
  rw [s_l n hn, BitVec.getLsbD_shiftLeft]
  rcases Nat.lt_or_ge i n with h | h
  · simp [h, Nat.not_le.mpr h]
  · simp [hi, h, Nat.not_lt.mpr h]
theorem b_ushr (n : Nat) (hn : n < 32) (x : Int32) (i : Nat) : bt ((x.toUInt32 >>> ((nI n).toUInt32 &&& Int32.toUInt32 31)).toInt32) i = bt x (n + i) := by
  show (x.toUInt32 >>> ((nI n).toUInt32 &&& Int32.toUInt32 31)).toBitVec.getLsbD i = x.toUInt32.toBitVec.getLsbD (n + i)
  rw [UInt32.toBitVec_shiftRight]
  show (x.toUInt32.toBitVec >>> (((nI n).toUInt32 &&& Int32.toUInt32 31).toBitVec % 32).toNat).getLsbD i = _
  rw [s_u n hn, BitVec.getLsbD_ushiftRight]
theorem b_sshr (n : Nat) (hn : n < 32) (x : Int32) {i : Nat} (hi : i < 32) : bt (x >>> (nI n &&& 31)) i = if n + i < 32 then bt x (n + i) else bt x 31 := by
  unfold bt
  rw [Int32.toBitVec_shiftRight]
  show (x.toBitVec.sshiftRight ((nI n &&& 31).toBitVec.smod 32).toNat).getLsbD i = _
  rw [s_l n hn, BitVec.getLsbD_sshiftRight, BitVec.msb_eq_getLsbD_last]
  simp [hi]
/-! ===== sets of fields as numbers ===== -/
theorem b_1 : ∀ i, i < 32 → bt 1 i = decide (i = 0) := by decide +kernel
theorem isIn_bt (x : Int32) {f : Nat} (hf : f < 32) : ((x >>> (nI f &&& 31)) &&& 1) = 0 ↔ bt x f = false := by
  have e0 : bt (x >>> (nI f &&& 31)) 0 = bt x f := by
    rw [b_sshr f hf x (by decide), if_pos (by omega)]
    rfl
  constructor
  · intro h
    have z : bt ((x >>> (nI f &&& 31)) &&& 1) 0 = false := by rw [h, b_0]
    rw [b_and, e0, b_1 0 (by decide)] at z
    simpa using z
  · intro h
    apply b_ext
    intro i hi
    rw [b_and, b_0, b_1 i hi]
    by_cases q : i = 0
    · subst q
      rw [e0, h]
      rfl
    · rw [decide_eq_false q, Bool.and_false]
theorem bt_add (x : Int32) {a b : Nat} (ha : a < 32) (hb : b < 32) : bt (x ||| (1 <<< (nI a &&& 31))) b = (bt x b || decide (a = b)) := by
  rw [b_or, b_shl a ha 1 hb]
  by_cases q : a = b
  · subst q
    rw [decide_eq_true (Nat.le_refl a), Nat.sub_self, b_1 0 (by decide)]
    simp
  · rw [decide_eq_false q]
    by_cases z : a ≤ b
    · rw [decide_eq_true z, b_1 (b - a) (by omega), decide_eq_false (by omega)]
      rfl
    · rw [decide_eq_false z]
      rfl
theorem e_isIn (x : Int32) {f : Nat} (hf : f < 32) (h : mH) : f_X11_isIn x (nI f) h = some (b2i (bt x f), h) := by
  unfold f_X11_isIn
  cases e : bt x f
  · rw [if_pos ((isIn_bt x hf).mpr e)]
    rfl
  · rw [if_neg (fun z => by rw [(isIn_bt x hf).mp z] at e; cases e)]
    rfl
def RLw (h : mH) (n : Nat) (M : mM) : Prop := ∃ w, w ≤ 12 ∧ M.1 12 11 = nI w ∧ h.1 1 0 5 = nI w ∧ ∀ l, l < w → (h.1 7 l 0 = M.1 54 l ∧ h.1 7 l 1 = M.1 55 l ∧ h.1 7 l 2 = M.1 56 l ∧ h.1 7 l 3 = M.1 57 l) ∧ (∃ f, f < n ∧ M.1 55 l = nI f) ∧ ∃ g, g < n ∧ M.1 56 l = nI g
theorem c_isKept {h : mH} {n f : Nat} {M : mM} (F : RF h n M) (hf : f < n) : f_X6_isKept f h = some (b2i (kpM M f), h) := by
  unfold f_X6_isKept kpM
  rw [(F.2.2.2 f hf).1.2.2.2.1]
  by_cases q0 : M.1 49 f = 0
  · rw [if_pos q0, decide_eq_true q0]
    rfl
  · rw [if_neg q0, decide_eq_false q0]
    by_cases q5 : M.1 49 f = 5
    · rw [if_pos q5, decide_eq_true q5]
      rfl
    · rw [if_neg q5, decide_eq_false q5]
      rfl
theorem kpB_succ (M : mM) (r f : Nat) : kpB M r (f + 1) = if (inR M r f && kpM M f) = true then kpB M r f ||| mskM M f else kpB M r f := rfl
/-! ===== CODE, the model's side: what is read of the book, and the list of instructions ===== -/
/-- M's book is that of B -/
def Bk (M B : mM) : Prop := ∀ t k, ((46 ≤ t ∧ t ≤ 62) ∨ (t = 12 ∧ (k = 1 ∨ k = 2 ∨ k = 11 ∨ k = 16 ∨ k = 22))) → M.1 t k = B.1 t k
theorem Bk.rf (M : mM) : Bk M M := fun _ _ _ => rfl
theorem Bk.a {M B : mM} (h : Bk M B) {t : Nat} (k : Nat) (h1 : 46 ≤ t) (h2 : t ≤ 62) : M.1 t k = B.1 t k := h t k (Or.inl ⟨h1, h2⟩)
theorem Bk.f {M B : mM} (h : Bk M B) : M.1 12 2 = B.1 12 2 := h 12 2 (by omega)
theorem Bk.l {M B : mM} (h : Bk M B) : M.1 12 11 = B.1 12 11 := h 12 11 (by omega)
theorem Bk.c {M B : mM} (h : Bk M B) : M.1 12 16 = B.1 12 16 := h 12 16 (by omega)
theorem Bk.o {M B : mM} (h : Bk M B) : M.1 12 22 = B.1 12 22 := h 12 22 (by omega)
def anN (p : Nat → Bool) : Nat → Bool
  | 0 => false
  | n + 1 => anN p n || p n
def alN (p : Nat → Bool) : Nat → Bool
  | 0 => true
  | n + 1 => alN p n && p n
def orI (g : Nat → Int32) : Nat → Int32
  | 0 => 0
  | n + 1 => orI g n ||| g n
theorem alN_false {p : Nat → Bool} {j : Nat} (h : alN p j = false) : ∀ d, alN p (j + d) = false
  | 0 => h
  | d + 1 => by
    show (alN p (j + d) && p (j + d)) = false
    rw [alN_false h d]
    rfl
theorem anN_iff {p : Nat → Bool} : ∀ {n : Nat}, anN p n = true ↔ ∃ j, j < n ∧ p j = true
  | 0 => ⟨fun h => absurd (show false = true from h) (by decide), fun ⟨j, h, _⟩ => absurd h (Nat.not_lt_zero j)⟩
  | n + 1 => by
    show (anN p n || p n) = true ↔ _
    rw [Bool.or_eq_true, anN_iff]
    constructor
    · rintro (⟨j, h1, h2⟩ | h)
      · exact ⟨j, by omega, h2⟩
      · exact ⟨n, by omega, h⟩
    · rintro ⟨j, h1, h2⟩
      by_cases e : j = n
      · exact Or.inr (e ▸ h2)
      · exact Or.inl ⟨j, by omega, h2⟩
theorem alN_iff {p : Nat → Bool} : ∀ {n : Nat}, alN p n = true ↔ ∀ j, j < n → p j = true
  | 0 => ⟨fun _ j h => absurd h (Nat.not_lt_zero j), fun _ => rfl⟩
  | n + 1 => by
    show (alN p n && p n) = true ↔ _
    rw [Bool.and_eq_true, alN_iff]
    constructor
    · rintro ⟨h1, h2⟩ j hj
      by_cases e : j = n
      · exact e ▸ h2
      · exact h1 j (by omega)
    · intro h
      exact ⟨fun j hj => h j (by omega), h n (by omega)⟩
theorem nI_mul (a b : Nat) : nI a * nI b = nI (a * b) := (Int32.ofNat_mul a b).symm
theorem it4 {α : Type} (P Q R S : Prop) [Decidable P] [Decidable Q] [Decidable R] [Decidable S] (F : Int32 → α) : (if P then if Q then F 1 else if R then if S then F 1 else F 0 else F 0 else if R then if S then F 1 else F 0 else F 0) = F (b2i (false || ((decide P && decide Q) || (decide R && decide S)))) := by
  by_cases hP : P <;> by_cases hQ : Q <;> by_cases hR : R <;> by_cases hS : S <;> simp [hP, hQ, hR, hS, b2i]
/-- laws that bind two fields -/
def bdP (B : mM) (x y : Int32) (l : Nat) : Bool := (decide (B.1 55 l = x) && decide (B.1 56 l = y)) || (decide (B.1 55 l = y) && decide (B.1 56 l = x))
def bdM (B : mM) (x y : Int32) : Bool := anN (bdP B x y) (B.1 12 11).toNatClampNeg
theorem e_isBound (x y : Int32) (h : mH) {M B : mM} (hB : Bk M B) {n : Nat} (hn : B.1 12 11 = nI n) (h12 : n ≤ 12) : f_X12_isBound x y (wM h M) = some (b2i (bdM B x y), wM h M) := by
  have en : (B.1 12 11).toNatClampNeg = n := by rw [hn, nI_clamp (by omega)]
  unfold f_X12_isBound bdM
  rw [en]
  refine mLoop (fun m (c : Int32 × Int32) => f_X12_isBound_5 (fun _ _ u12 _ h14 => if (u12 = 0 ∨ u12 = 1) then some (u12, h14) else none) m x y c.1 c.2 (wM h M)) (fun j => (b2i (anN (bdP B x y) j), nI j)) n (some (b2i (anN (bdP B x y) n), wM h M)) ?_ ?_ mFu (mFu_lt (by omega))
  · intro j hj m
    dsimp only
    rw [f_X12_isBound_5, wM_1 h M rfl, hB.l, hn, if_pos (nI_lt hj (by omega)), if_pos (mIn_nI (show j < 12 by omega) (by omega)), nI_clamp (by omega), wM_1 h M rfl, wM_1 h M rfl, hB.a j (by omega) (by omega), hB.a j (by omega) (by omega), nI_succ]
    have e : anN (bdP B x y) (j + 1) = (anN (bdP B x y) j || bdP B x y j) := rfl
    rw [e]
    cases anN (bdP B x y) j
    · rw [if_pos (show b2i false = 0 from rfl)]
      unfold bdP
      exact it4 _ _ _ _ (fun v => f_X12_isBound_5 (fun _ _ u12 _ h14 => if (u12 = 0 ∨ u12 = 1) then some (u12, h14) else none) m x y v (nI j + 1) (wM h M))
    · rw [if_neg (by decide)]
      rfl
  · intro m
    dsimp only
    rw [f_X12_isBound_5, wM_1 h M rfl, hB.l, hn, if_neg (nI_nlt (Nat.le_refl _) (by omega)), if_pos (b2i_01 _)]
def shP (B : mM) (x : Int32) (f : Nat) : Bool := decide (B.1 46 f = x) && (decide (B.1 49 f = 3) || decide (B.1 49 f = 5))
def shM (B : mM) (x : Int32) : Bool := anN (shP B x) (B.1 12 2).toNatClampNeg
theorem e_isShadowed (x : Int32) (h : mH) {M B : mM} (hB : Bk M B) {n : Nat} (hn : B.1 12 2 = nI n) (h24 : n ≤ 24) : f_X12_isShadowed x (wM h M) = some (b2i (shM B x), wM h M) := by
  have en : (B.1 12 2).toNatClampNeg = n := by rw [hn, nI_clamp (by omega)]
  unfold f_X12_isShadowed shM
  rw [en]
  refine mLoop (fun m (c : Int32 × Int32) => f_X12_isShadowed_4 (fun _ u8 _ h10 => if (u8 = 0 ∨ u8 = 1) then some (u8, h10) else none) m x c.1 c.2 (wM h M)) (fun j => (b2i (anN (shP B x) j), nI j)) n (some (b2i (anN (shP B x) n), wM h M)) ?_ ?_ mFu (mFu_lt (by omega))
  · intro j hj m
    dsimp only
    rw [f_X12_isShadowed_4, wM_1 h M rfl, hB.f, hn, if_pos (nI_lt hj (by omega)), if_pos (mIn_nI (show j < 24 by omega) (by omega)), nI_clamp (by omega), wM_1 h M rfl, wM_1 h M rfl, hB.a j (by omega) (by omega), hB.a j (by omega) (by omega), nI_succ]
    have e : anN (shP B x) (j + 1) = (anN (shP B x) j || shP B x j) := rfl
    rw [e]
    cases anN (shP B x) j
    · rw [if_pos (show b2i false = 0 from rfl)]
      unfold shP
      by_cases q1 : B.1 46 j = x <;> by_cases q2 : B.1 49 j = 3 <;> by_cases q3 : B.1 49 j = 5 <;> simp only [q1, q2, q3, if_true, if_false, decide_true, decide_false, Bool.and_self, Bool.and_true, Bool.and_false, Bool.or_false, Bool.or_true, Bool.or_self, Bool.false_and, Bool.true_and, Bool.true_or, Bool.false_or] <;> rfl
    · rw [if_neg (by decide)]
      rfl
  · intro m
    dsimp only
    rw [f_X12_isShadowed_4, wM_1 h M rfl, hB.f, hn, if_neg (nI_nlt (Nat.le_refl _) (by omega)), if_pos (b2i_01 _)]
def hhP (B : mM) (f : Nat) : Bool := !(decide (B.1 53 f = -1))
def hhM (B : mM) : Bool := anN (hhP B) (B.1 12 2).toNatClampNeg
theorem e_hasHandler (h : mH) {M B : mM} (hB : Bk M B) {n : Nat} (hn : B.1 12 2 = nI n) (h24 : n ≤ 24) : f_X12_hasHandler (wM h M) = some (b2i (hhM B), wM h M) := by
  have en : (B.1 12 2).toNatClampNeg = n := by rw [hn, nI_clamp (by omega)]
  unfold f_X12_hasHandler hhM
  rw [en]
  refine mLoop (fun m (c : Int32 × Int32) => f_X12_hasHandler_4 (fun u8 _ h10 => if (u8 = 0 ∨ u8 = 1) then some (u8, h10) else none) m c.1 c.2 (wM h M)) (fun j => (b2i (anN (hhP B) j), nI j)) n (some (b2i (anN (hhP B) n), wM h M)) ?_ ?_ mFu (mFu_lt (by omega))
  · intro j hj m
    dsimp only
    rw [f_X12_hasHandler_4, wM_1 h M rfl, hB.f, hn, if_pos (nI_lt hj (by omega)), if_pos (mIn_nI (show j < 24 by omega) (by omega)), nI_clamp (by omega), wM_1 h M rfl, hB.a j (by omega) (by omega), nI_succ]
    have e : anN (hhP B) (j + 1) = (anN (hhP B) j || hhP B j) := rfl
    rw [e]
    cases anN (hhP B) j
    · rw [if_pos (show b2i false = 0 from rfl)]
      unfold hhP
      by_cases q1 : B.1 53 j = -1
      · rw [if_pos q1, decide_eq_true q1]
        rfl
      · rw [if_neg q1, decide_eq_false q1]
        rfl
    · rw [if_neg (by decide)]
      rfl
  · intro m
    dsimp only
    rw [f_X12_hasHandler_4, wM_1 h M rfl, hB.f, hn, if_neg (nI_nlt (Nat.le_refl _) (by omega)), if_pos (b2i_01 _)]
/-- the field of a step -/
def sfM (B : mM) (p : Nat) : Nat := (B.1 60 p).toNatClampNeg
/-- whether step q goes with the group from p on -/
def joP (B : mM) (p q d : Nat) : Bool := !(decide (B.1 60 (p + d) = B.1 60 q)) && !(bdM B (B.1 60 (p + d)) (B.1 60 q))
def joM (B : mM) (p q : Nat) : Bool := (decide (B.1 59 q = 0) && decide (B.1 46 (sfM B q) = B.1 46 (sfM B p))) && alN (joP B p q) (q - p)
theorem e_jo43 (h : mH) {M B : mM} (hB : Bk M B) {n : Nat} (hn : B.1 12 11 = nI n) (h12 : n ≤ 12) {p q : Nat} (hpq : p ≤ q) (hq : q < 72) : ∀ (d j : Nat), j + d = q - p → ∀ (m : Nat), d < m → ∀ b : Bool, f_X12_joins_43 (fun _ u20 _ h22 => if (u20 = 0 ∨ u20 = 1) then some (u20, h22) else none) m (nI q) (b2i (b && alN (joP B p q) j)) (nI (p + j)) (wM h M) = some (b2i (b && alN (joP B p q) (q - p)), wM h M) := by
  intro d
  induction d with
  | zero =>
    intro j hj m hm b
    cases m with
    | zero => omega
    | succ m =>
      have e : j = q - p := by omega
      subst e
      rw [f_X12_joins_43, if_neg (nI_nlt (by omega) (by omega)), if_pos (b2i_01 _)]
  | succ d ih =>
    intro j hj m hm b
    cases m with
    | zero => omega
    | succ m =>
      rw [f_X12_joins_43, if_pos (nI_lt (by omega) (by omega))]
      cases hb : (b && alN (joP B p q) j)
      · rw [if_pos (show b2i false = 0 from rfl), if_pos (b2i_01 _)]
        have z : (b && alN (joP B p q) (q - p)) = false := by
          cases b
          · rfl
          · have := alN_false (p := joP B p q) (j := j) hb (d + 1)
            rw [hj] at this
            exact this
        rw [z]
      · have i2 := ih (j + 1) (by omega) m (by omega) b
        have e : (b && alN (joP B p q) (j + 1)) = joP B p q j := by
          show (b && (alN (joP B p q) j && joP B p q j)) = _
          rw [← Bool.and_assoc, hb, Bool.true_and]
        rw [e] at i2
        rw [if_neg (by decide), if_pos (mIn_nI (show p + j < 72 by omega) (by omega)), if_pos (mIn_nI hq (by omega)), nI_clamp (by omega), nI_clamp (by omega), wM_1 h M rfl, wM_1 h M rfl, hB.a _ (by omega) (by omega), hB.a _ (by omega) (by omega), ← nI_succ]
        rw [e_isBound _ _ h hB hn h12, Option.bind_some]
        dsimp only
        rw [show p + j + 1 = p + (j + 1) by omega]
        rw [← i2]
        unfold joP
        by_cases q1 : B.1 60 (p + j) = B.1 60 q
        · rw [if_pos q1, decide_eq_true q1]
          rfl
        · rw [if_neg q1, decide_eq_false q1]
          cases bdM B (B.1 60 (p + j)) (B.1 60 q)
          · rw [if_pos (show b2i false = 0 from rfl)]
            rfl
          · rw [if_neg (by decide)]
            rfl
theorem e_joins (h : mH) {M B : mM} (hB : Bk M B) {n : Nat} (hn : B.1 12 11 = nI n) (h12 : n ≤ 12) {p q : Nat} (hpq : p ≤ q) (hq : q < 72) (hp : mIn (B.1 60 p) 24 = true) (hs : B.1 59 q = 0 → mIn (B.1 60 q) 24 = true) : f_X12_joins (nI p) (nI q) (wM h M) = some (b2i (joM B p q), wM h M) := by
  have k0 := e_jo43 h hB hn h12 hpq hq (q - p) 0 (by omega) mFu (mFu_lt (by omega)) false
  have k1 := e_jo43 h hB hn h12 hpq hq (q - p) 0 (by omega) mFu (mFu_lt (by omega)) true
  unfold f_X12_joins joM
  rw [if_pos (mIn_nI hq (by omega)), nI_clamp (by omega), wM_1 h M rfl, hB.a q (by omega) (by omega)]
  by_cases q1 : B.1 59 q = 0
  · rw [if_pos q1, wM_1 h M rfl, hB.a q (by omega) (by omega), if_pos (hs q1), if_pos (mIn_nI (show p < 72 by omega) (by omega)), nI_clamp (by omega), wM_1 h M rfl, hB.a p (by omega) (by omega), if_pos hp, wM_1 h M rfl, wM_1 h M rfl, hB.a _ (by omega) (by omega), hB.a _ (by omega) (by omega), decide_eq_true q1]
    show (if B.1 46 (sfM B q) = B.1 46 (sfM B p) then _ else _) = _
    by_cases q2 : B.1 46 (sfM B q) = B.1 46 (sfM B p)
    · rw [if_pos q2, decide_eq_true q2]
      exact k1
    · rw [if_neg q2, decide_eq_false q2]
      exact k0
  · rw [if_neg q1, decide_eq_false q1]
    exact k0
/-! ===== CODE, the model's side: emitted instructions ===== -/
def o6 (a b c d e f : Int32) : Nat → Int32 := fun w => if w = 0 then a else if w = 1 then b else if w = 2 then c else if w = 3 then d else if w = 4 then e else f
def o0 : Nat → Int32 := fun _ => 0
def OPS (M : mM) (lv : Nat) (l : List (Nat → Int32)) : Prop := M.1 93 lv = nI l.length ∧ ∀ i w, i < l.length → w < 6 → M.1 94 (300 * lv + 6 * i + w) = (l.getD i o0) w
/-- only the code of level lv has changed -/
def Fo (lv : Nat) (M N : mM) : Prop := (∀ t k, ¬ (t = 93 ∧ k = lv) → ¬ (t = 94 ∧ 300 * lv ≤ k ∧ k < 300 * lv + 300) → N.1 t k = M.1 t k) ∧ N.2 = M.2
theorem Fo.rf (lv : Nat) (M : mM) : Fo lv M M := ⟨fun _ _ _ _ => rfl, rfl⟩
theorem Fo.tr {lv : Nat} {a b c : mM} (h1 : Fo lv a b) (h2 : Fo lv b c) : Fo lv a c := ⟨fun t k p q => (h2.1 t k p q).trans (h1.1 t k p q), h2.2.trans h1.2⟩
theorem Fo.bk {lv : Nat} {M N B : mM} (f : Fo lv M N) (h : Bk M B) : Bk N B := fun t k z => (f.1 t k (by omega) (by omega)).trans (h t k z)
theorem Bk.m {M B : mM} (h : Bk M B) (f : Nat) : mskM M f = mskM B f := by
  unfold mskM oneM
  rw [h.a f (by omega) (by omega), h.a f (by omega) (by omega)]
theorem gd_l {α : Type} (l : List α) (x d : α) {k : Nat} (hk : k < l.length) : (l ++ [x]).getD k d = l.getD k d := by rw [List.getD_eq_getElem?_getD, List.getD_eq_getElem?_getD, List.getElem?_append_left hk]
theorem gd_r {α : Type} (l : List α) (x d : α) : (l ++ [x]).getD l.length d = x := by
  rw [List.getD_eq_getElem?_getD]
  simp
theorem nI_lit (Q c : Nat) : nI Q + nI c = nI (Q + c) := nI_add Q c
theorem e_emit (h : mH) {M : mM} {lv : Nat} (hv : lv < 2) {l : List (Nat → Int32)} (O : OPS M lv l) (hl : l.length < 50) (a b c d e f : Int32) : ∃ N, f_X12_emit (nI lv) a b c d e f (wM h M) = some (wM h N) ∧ OPS N lv (l ++ [o6 a b c d e f]) ∧ Fo lv M N := by
  obtain ⟨o1, o2⟩ := O
  obtain ⟨Q, hQ⟩ : ∃ Q, Q = 300 * lv + 6 * l.length := ⟨_, rfl⟩
  have eQ : 6 * ((50 * nI lv) + nI l.length) = nI Q := by
    show nI 6 * (nI 50 * nI lv + nI l.length) = nI Q
    rw [nI_mul, nI_add, nI_mul, hQ]
    congr 1
    omega
  have q1 : nI Q + 1 = nI (Q + 1) := nI_add Q 1
  have q2 : nI Q + 2 = nI (Q + 2) := nI_add Q 2
  have q3 : nI Q + 3 = nI (Q + 3) := nI_add Q 3
  have q4 : nI Q + 4 = nI (Q + 4) := nI_add Q 4
  have q5 : nI Q + 5 = nI (Q + 5) := nI_add Q 5
  refine ⟨uM (uM (uM (uM (uM (uM (uM M 94 Q a) 94 (Q + 1) b) 94 (Q + 2) c) 94 (Q + 3) d) 94 (Q + 4) e) 94 (Q + 5) f) 93 lv (nI (l.length + 1)), ?_, ?_, ?_⟩
  · unfold f_X12_emit
    simp only [mLet]
    rw [if_pos (mIn_nI hv (by omega)), nI_clamp (by omega), wM_1 h M rfl, o1, eQ, q1, q2, q3, q4, q5, if_pos (mIn_nI (show Q < 600 by omega) (by omega)), if_pos (mIn_nI (show Q + 1 < 600 by omega) (by omega)), if_pos (mIn_nI (show Q + 2 < 600 by omega) (by omega)), if_pos (mIn_nI (show Q + 3 < 600 by omega) (by omega)), if_pos (mIn_nI (show Q + 4 < 600 by omega) (by omega)), if_pos (mIn_nI (show Q + 5 < 600 by omega) (by omega)), nI_clamp (by omega), nI_clamp (by omega), nI_clamp (by omega), nI_clamp (by omega), nI_clamp (by omega), nI_clamp (by omega), wM_u h M rfl, wM_u h _ rfl, wM_u h _ rfl, wM_u h _ rfl, wM_u h _ rfl, wM_u h _ rfl, wM_1 h _ rfl, uM_t _ (by omega), uM_t _ (by omega), uM_t _ (by omega), uM_t _ (by omega), uM_t _ (by omega), uM_t _ (by omega), o1, wM_u h _ rfl, nI_succ]
  · have C : ∀ k, (uM (uM (uM (uM (uM (uM (uM M 94 Q a) 94 (Q + 1) b) 94 (Q + 2) c) 94 (Q + 3) d) 94 (Q + 4) e) 94 (Q + 5) f) 93 lv (nI (l.length + 1))).1 94 k = if 94 = 94 ∧ k = Q + 5 then f else if 94 = 94 ∧ k = Q + 4 then e else if 94 = 94 ∧ k = Q + 3 then d else if 94 = 94 ∧ k = Q + 2 then c else if 94 = 94 ∧ k = Q + 1 then b else if 94 = 94 ∧ k = Q then a else M.1 94 k := fun k => uM_t _ (by omega)
    have len : (l ++ [o6 a b c d e f]).length = l.length + 1 := by rw [List.length_append]; rfl
    refine ⟨?_, fun i w hi hw => ?_⟩
    · rw [uM_s, len]
    · rw [len] at hi
      rw [C]
      by_cases z : i = l.length
      · subst z
        rw [gd_r]
        have hw : w = 0 ∨ w = 1 ∨ w = 2 ∨ w = 3 ∨ w = 4 ∨ w = 5 := by omega
        rcases hw with rfl | rfl | rfl | rfl | rfl | rfl
        · rw [if_neg (by omega), if_neg (by omega), if_neg (by omega), if_neg (by omega), if_neg (by omega), if_pos (by omega)]
          rfl
        · rw [if_neg (by omega), if_neg (by omega), if_neg (by omega), if_neg (by omega), if_pos (by omega)]
          rfl
        · rw [if_neg (by omega), if_neg (by omega), if_neg (by omega), if_pos (by omega)]
          rfl
        · rw [if_neg (by omega), if_neg (by omega), if_pos (by omega)]
          rfl
        · rw [if_neg (by omega), if_pos (by omega)]
          rfl
        · rw [if_pos (by omega)]
          rfl
      · rw [if_neg (by omega), if_neg (by omega), if_neg (by omega), if_neg (by omega), if_neg (by omega), if_neg (by omega), gd_l _ _ _ (by omega)]
        exact o2 i w (by omega) hw
  · refine ⟨fun t k h1 h2 => ?_, rfl⟩
    by_cases z : t = 94
    · subst z
      rw [uM_t _ (by omega), uM_k _ (by omega), uM_k _ (by omega), uM_k _ (by omega), uM_k _ (by omega), uM_k _ (by omega), uM_k _ (by omega)]
    · rw [uM_1, if_neg h1, uM_t _ z, uM_t _ z, uM_t _ z, uM_t _ z, uM_t _ z, uM_t _ z]
/-- no step of the group from p to q has field x -/
def gnP (B : mM) (p : Nat) (x : Int32) (d : Nat) : Bool := !(decide (B.1 60 (p + d) = x))
theorem e_g127 (K : Int32 → Int32 → Int32 → Int32 → Int32 → Int32 → Int32 → Int32 → Int32 → Int32 → mH → Option mH) (h : mH) {M B : mM} (hB : Bk M B) {p q : Nat} (hpq : p ≤ q) (hq : q ≤ 72) (v1 v2 v4 v5 v6 v7 v8 : Int32) (b : Bool) : f_X12_groups_127 K mFu v1 v2 (nI q) v4 v5 v6 v7 v8 (b2i b) (nI p) (wM h M) = K v1 v2 (nI q) v4 v5 v6 v7 v8 (b2i (b && alN (gnP B p v8) (q - p))) (nI q) (wM h M) := by
  have z := mLoop (fun m (c : Int32 × Int32) => f_X12_groups_127 K m v1 v2 (nI q) v4 v5 v6 v7 v8 c.1 c.2 (wM h M)) (fun j => (b2i (b && alN (gnP B p v8) j), nI (p + j))) (q - p) (K v1 v2 (nI q) v4 v5 v6 v7 v8 (b2i (b && alN (gnP B p v8) (q - p))) (nI q) (wM h M)) ?_ ?_ mFu (mFu_lt (by omega))
  · have e : (b && alN (gnP B p v8) 0) = b := Bool.and_true b
    dsimp only at z
    rw [e] at z
    exact z
  · intro j hj m
    dsimp only
    rw [f_X12_groups_127, if_pos (nI_lt (by omega) (by omega)), if_pos (mIn_nI (show p + j < 72 by omega) (by omega)), nI_clamp (by omega), wM_1 h M rfl, hB.a _ (by omega) (by omega), ← nI_succ, show p + j + 1 = p + (j + 1) by omega]
    have e : (b && alN (gnP B p v8) (j + 1)) = ((b && alN (gnP B p v8) j) && gnP B p v8 j) := by
      rw [Bool.and_assoc]
      rfl
    rw [e]
    cases (b && alN (gnP B p v8) j)
    · rw [if_pos (show b2i false = 0 from rfl)]
      rfl
    · rw [if_neg (by decide)]
      unfold gnP
      by_cases q1 : B.1 60 (p + j) = v8
      · rw [if_pos q1, decide_eq_true q1]
        rfl
      · rw [if_neg q1, decide_eq_false q1]
        rfl
  · intro m
    dsimp only
    rw [f_X12_groups_127, show p + (q - p) = q by omega, if_neg (nI_nlt (Nat.le_refl _) (by omega))]
def ptP (B : mM) (p d : Nat) : Int32 := B.1 61 (p + d) <<< (B.1 47 (sfM B (p + d)) &&& 31)
theorem e_g30 (K : Int32 → Int32 → Int32 → Int32 → Int32 → Int32 → Int32 → Int32 → mH → Option mH) (h : mH) {M B : mM} (hB : Bk M B) {p q : Nat} (hpq : p ≤ q) (hq : q ≤ 72) (hs : ∀ i, p ≤ i → i < q → mIn (B.1 60 i) 24 = true) (v1 v2 v4 v5 v7 : Int32) : f_X12_groups_30 K mFu v1 v2 (nI q) v4 v5 0 v7 (nI p) (wM h M) = K v1 v2 (nI q) v4 v5 (orI (ptP B p) (q - p)) v7 (nI q) (wM h M) := by
  refine mLoop (fun m (c : Int32 × Int32) => f_X12_groups_30 K m v1 v2 (nI q) v4 v5 c.1 v7 c.2 (wM h M)) (fun j => (orI (ptP B p) j, nI (p + j))) (q - p) (K v1 v2 (nI q) v4 v5 (orI (ptP B p) (q - p)) v7 (nI q) (wM h M)) ?_ ?_ mFu (mFu_lt (by omega))
  · intro j hj m
    dsimp only
    rw [f_X12_groups_30, if_pos (nI_lt (by omega) (by omega)), if_pos (mIn_nI (show p + j < 72 by omega) (by omega)), nI_clamp (by omega), wM_1 h M rfl, hB.a _ (by omega) (by omega), if_pos (hs _ (by omega) (by omega)), wM_1 h M rfl, wM_1 h M rfl, hB.a _ (by omega) (by omega), hB.a _ (by omega) (by omega), ← nI_succ, show p + j + 1 = p + (j + 1) by omega]
    rfl
  · intro m
    dsimp only
    rw [f_X12_groups_30, show p + (q - p) = q by omega, if_neg (nI_nlt (Nat.le_refl _) (by omega))]
theorem it5 {α : Type} (A P Q : Prop) [Decidable A] [Decidable P] [Decidable Q] (s : Bool) (F : Int32 → α) : (if A then if P then F 1 else if Q then if b2i s = 0 then F 0 else F 1 else F 0 else F 0) = F (b2i (decide A && (decide P || (decide Q && s)))) := by
  by_cases hA : A <;> by_cases hP : P <;> by_cases hQ : Q <;> cases s <;> simp [hA, hP, hQ, b2i]
def kpP (B : mM) (x : Int32) (s : Bool) (p q f : Nat) : Bool := (decide (B.1 46 f = x) && (decide (B.1 49 f = 0) || (decide (B.1 49 f = 5) && s))) && alN (gnP B p (nI f)) (q - p)
def keP (B : mM) (x : Int32) (s : Bool) (p q f : Nat) : Int32 := if kpP B x s p q f = true then mskM B f else 0
theorem e_g70 (K : Int32 → Int32 → Int32 → Int32 → Int32 → Int32 → Int32 → Int32 → mH → Option mH) (h : mH) {M B : mM} (hB : Bk M B) {n : Nat} (hn : B.1 12 2 = nI n) (h24 : n ≤ 24) {p q : Nat} (hpq : p ≤ q) (hq : q ≤ 72) (v1 x v6 : Int32) (s : Bool) : f_X12_groups_70 K mFu v1 (nI p) (nI q) x (b2i s) v6 0 0 (wM h M) = K v1 (nI p) (nI q) x (b2i s) v6 (orI (keP B x s p q) n) (nI n) (wM h M) := by
  refine mLoop (fun m (c : Int32 × Int32) => f_X12_groups_70 K m v1 (nI p) (nI q) x (b2i s) v6 c.1 c.2 (wM h M)) (fun j => (orI (keP B x s p q) j, nI j)) n (K v1 (nI p) (nI q) x (b2i s) v6 (orI (keP B x s p q) n) (nI n) (wM h M)) ?_ ?_ mFu (mFu_lt (by omega))
  · intro j hj m
    dsimp only
    rw [f_X12_groups_70, wM_1 h M rfl, hB.f, hn, if_pos (nI_lt hj (by omega)), if_pos (mIn_nI (show j < 24 by omega) (by omega)), nI_clamp (by omega), wM_1 h M rfl, wM_1 h M rfl, hB.a _ (by omega) (by omega), hB.a _ (by omega) (by omega)]
    refine (it5 _ _ _ s (fun v => f_X12_groups_127 (fun u23 u24 u25 u26 u27 u28 u29 u30 u31 _ h33 => if u31 = 0 then f_X12_groups_70 K m u23 u24 u25 u26 u27 u28 (u29 ||| 0) (u30 + 1) h33 else (f_X12_mask u30 h33).bind fun r35 => f_X12_groups_70 K m u23 u24 u25 u26 u27 u28 (u29 ||| r35.1) (u30 + 1) r35.2) mFu v1 (nI p) (nI q) x (b2i s) v6 (orI (keP B x s p q) j) (nI j) v (nI p) (wM h M))).trans ?_
    rw [e_g127 _ h hB hpq hq, e_mask (show j < 24 by omega) h M, Option.bind_some, hB.m, nI_succ]
    dsimp only
    show (if b2i (kpP B x s p q j) = 0 then _ else _) = f_X12_groups_70 K m v1 (nI p) (nI q) x (b2i s) v6 (orI (keP B x s p q) j ||| (if kpP B x s p q j = true then mskM B j else 0)) (nI j + 1) (wM h M)
    cases kpP B x s p q j
    · rw [if_pos (show b2i false = 0 from rfl), if_neg (show ¬ (false = true) by decide)]
    · rw [if_neg (by decide), if_pos rfl]
  · intro m
    dsimp only
    rw [f_X12_groups_70, wM_1 h M rfl, hB.f, hn, if_neg (nI_nlt (Nat.le_refl _) (by omega))]
/-- the instructions of the group of steps from p to q -/
def grB (B : mM) (p q : Nat) : List (Nat → Int32) :=
  if orI (keP B (B.1 46 (sfM B p)) (shM B (B.1 46 (sfM B p))) p q) (B.1 12 2).toNatClampNeg = 0 then [o6 1 (B.1 46 (sfM B p)) 0 0 (orI (ptP B p) (q - p)) (-2)]
  else if shM B (B.1 46 (sfM B p)) = true then [o6 1 (B.1 46 (sfM B p)) 2 (orI (keP B (B.1 46 (sfM B p)) (shM B (B.1 46 (sfM B p))) p q) (B.1 12 2).toNatClampNeg) (orI (ptP B p) (q - p)) (-2)]
  else if B.1 12 22 = 1 ∧ hhM B = true then [o6 5 (-2) (-2) (-2) (-2) (-2), o6 0 (B.1 46 (sfM B p)) (-2) (-2) (-2) (-2), o6 1 (B.1 46 (sfM B p)) 1 (orI (keP B (B.1 46 (sfM B p)) (shM B (B.1 46 (sfM B p))) p q) (B.1 12 2).toNatClampNeg) (orI (ptP B p) (q - p)) (-2), o6 6 (-2) (-2) (-2) (-2) (-2)]
  else [o6 0 (B.1 46 (sfM B p)) (-2) (-2) (-2) (-2), o6 1 (B.1 46 (sfM B p)) 1 (orI (keP B (B.1 46 (sfM B p)) (shM B (B.1 46 (sfM B p))) p q) (B.1 12 2).toNatClampNeg) (orI (ptP B p) (q - p)) (-2)]
theorem grB_len (B : mM) (p q : Nat) : 1 ≤ (grB B p q).length ∧ (grB B p q).length ≤ 4 := by
  unfold grB
  split
  · exact ⟨by simp, by simp⟩
  · split
    · exact ⟨by simp, by simp⟩
    · split
      · exact ⟨by simp, by simp⟩
      · exact ⟨by simp, by simp⟩
theorem e_groups (h : mH) {M B : mM} (hB : Bk M B) {n : Nat} (hn : B.1 12 2 = nI n) (h24 : n ≤ 24) {p q : Nat} (hpq : p < q) (hq : q ≤ 72) (hs : ∀ i, p ≤ i → i < q → mIn (B.1 60 i) 24 = true) {lv : Nat} (hv : lv < 2) {l : List (Nat → Int32)} (O : OPS M lv l) (hl : l.length ≤ 46) : ∃ N, f_X12_groups (nI lv) (nI p) (nI q) (wM h M) = some (wM h N) ∧ OPS N lv (l ++ grB B p q) ∧ Fo lv M N := by
  have en : (B.1 12 2).toNatClampNeg = n := by rw [hn, nI_clamp (by omega)]
  have eS : (B.1 60 p).toNatClampNeg = sfM B p := rfl
  unfold f_X12_groups grB
  rw [if_pos (mIn_nI (show p < 72 by omega) (by omega)), nI_clamp (by omega), wM_1 h M rfl, hB.a _ (by omega) (by omega), if_pos (hs p (by omega) hpq), eS, wM_1 h M rfl, hB.a _ (by omega) (by omega), e_isShadowed _ h hB hn h24, Option.bind_some]
  dsimp only
  rw [e_g30 _ h hB (by omega) hq hs]
  rw [e_g70 _ h hB hn h24 (by omega) hq]
  rw [en]
  generalize orI (keP B (B.1 46 (sfM B p)) (shM B (B.1 46 (sfM B p))) p q) n = kp
  generalize orI (ptP B p) (q - p) = pt
  generalize B.1 46 (sfM B p) = x
  by_cases q1 : kp = 0
  · rw [if_pos q1, if_pos q1, q1]
    obtain ⟨N, e, O1, F1⟩ := e_emit h hv O (by omega) 1 x 0 0 pt (-2)
    rw [e]
    exact ⟨N, rfl, O1, F1⟩
  · rw [if_neg q1, if_neg q1]
    cases shM B x
    · rw [if_pos (show b2i false = 0 from rfl), if_neg (show ¬ (false = true) by decide), wM_1 h M rfl, hB.o]
      by_cases q2 : B.1 12 22 = 1
      · rw [if_pos q2, e_hasHandler h hB hn h24, Option.bind_some]
        dsimp only
        cases hhM B
        · rw [if_pos (show b2i false = 0 from rfl), if_neg (show ¬ (B.1 12 22 = 1 ∧ false = true) from fun z => absurd z.2 (by decide))]
          unfold f_X12_groups_j243 f_X12_groups_j267
          obtain ⟨N1, e1, O1, F1⟩ := e_emit h hv O (by omega) 0 x (-2) (-2) (-2) (-2)
          obtain ⟨N2, e2, O2, F2⟩ := e_emit h hv O1 (by rw [List.length_append]; show _ + 1 < 50; omega) 1 x 1 kp pt (-2)
          rw [e1, Option.bind_some, e2, Option.bind_some, if_pos rfl]
          refine ⟨N2, rfl, ?_, F1.tr F2⟩
          rw [List.append_assoc] at O2
          exact O2
        · rw [if_neg (by decide), if_pos ⟨q2, rfl⟩]
          unfold f_X12_groups_j267
          obtain ⟨N0, e0, O0, F0⟩ := e_emit h hv O (by omega) 5 (-2) (-2) (-2) (-2) (-2)
          obtain ⟨N1, e1, O1, F1⟩ := e_emit h hv O0 (by rw [List.length_append]; show _ + 1 < 50; omega) 0 x (-2) (-2) (-2) (-2)
          obtain ⟨N2, e2, O2, F2⟩ := e_emit h hv O1 (by rw [List.length_append, List.length_append]; show _ + 1 + 1 < 50; omega) 1 x 1 kp pt (-2)
          obtain ⟨N3, e3, O3, F3⟩ := e_emit h hv O2 (by rw [List.length_append, List.length_append, List.length_append]; show _ + 1 + 1 + 1 < 50; omega) 6 (-2) (-2) (-2) (-2) (-2)
          rw [e0, Option.bind_some, e1, Option.bind_some, e2, Option.bind_some, if_neg (by decide), e3]
          refine ⟨N3, rfl, ?_, ((F0.tr F1).tr F2).tr F3⟩
          rw [List.append_assoc, List.append_assoc, List.append_assoc] at O3
          exact O3
      · rw [if_neg q2, if_neg (fun z => q2 z.1)]
        unfold f_X12_groups_j243 f_X12_groups_j267
        obtain ⟨N1, e1, O1, F1⟩ := e_emit h hv O (by omega) 0 x (-2) (-2) (-2) (-2)
        obtain ⟨N2, e2, O2, F2⟩ := e_emit h hv O1 (by rw [List.length_append]; show _ + 1 < 50; omega) 1 x 1 kp pt (-2)
        rw [e1, Option.bind_some, e2, Option.bind_some, if_pos rfl]
        refine ⟨N2, rfl, ?_, F1.tr F2⟩
        rw [List.append_assoc] at O2
        exact O2
    · rw [if_neg (by decide), if_pos rfl]
      obtain ⟨N, e, O1, F1⟩ := e_emit h hv O (by omega) 1 x 2 kp pt (-2)
      rw [e]
      exact ⟨N, rfl, O1, F1⟩
/-! ===== CODE, the model's side: an act's whole code ===== -/
/-- the instructions of a step that is no SET -/
def stB (B : mM) (p : Nat) : List (Nat → Int32) :=
  if B.1 59 p = 1 then [o6 2 (B.1 46 (sfM B p)) (-2) (mskM B (sfM B p)) (B.1 61 p <<< (B.1 47 (sfM B p) &&& 31)) (B.1 62 p)]
  else if B.1 59 p = 2 then [o6 0 (B.1 46 (sfM B p)) (-2) (-2) (-2) (-2), o6 4 (B.1 60 p) (-2) (-2) (-2) (-2)]
  else [o6 3 (B.1 61 p) (-2) (-2) (-2) (-2)]
theorem stB_len (B : mM) (p : Nat) : 1 ≤ (stB B p).length ∧ (stB B p).length ≤ 2 := by
  unfold stB
  split
  · exact ⟨by simp, by simp⟩
  · split
    · exact ⟨by simp, by simp⟩
    · exact ⟨by simp, by simp⟩
def opG (B : mM) (p i : Nat) : List (Nat → Int32) := if p < i then grB B p i else []
/-- d steps are left from step i on; the group from p to i is open if p < i -/
def cdS (B : mM) : Nat → Nat → Nat → List (Nat → Int32)
  | 0, p, i => opG B p i
  | d + 1, p, i => if (decide (p < i) && joM B p i) = true then cdS B d p (i + 1) else opG B p i ++ (if B.1 59 i = 0 then cdS B d i (i + 1) else stB B i ++ cdS B d (i + 1) (i + 1))
def cdM (B : mM) (a : Nat) : List (Nat → Int32) := cdS B (B.1 58 a).toNatClampNeg (12 * a) (12 * a)
/-- where the group from p on ends, that has come to q, with d steps left -/
def gN (B : mM) (p : Nat) : Nat → Nat → Nat
  | 0, q => q
  | d + 1, q => if joM B p q = true then gN B p d (q + 1) else q
theorem gN_le (B : mM) (p : Nat) : ∀ d q, q ≤ gN B p d q ∧ gN B p d q ≤ q + d
  | 0, q => ⟨Nat.le_refl _, Nat.le_refl _⟩
  | d + 1, q => by
    unfold gN
    split
    · have := gN_le B p d (q + 1)
      omega
    · omega
theorem gN_set (B : mM) (p : Nat) : ∀ d q i, q ≤ i → i < gN B p d q → B.1 59 i = 0
  | 0, q, i, h1, h2 => by
    have : i < q := h2
    omega
  | d + 1, q, i, h1, h2 => by
    unfold gN at h2
    by_cases z : joM B p q = true
    · rw [if_pos z] at h2
      by_cases y : i = q
      · subst y
        unfold joM at z
        rw [Bool.and_eq_true, Bool.and_eq_true] at z
        exact of_decide_eq_true z.1.1
      · exact gN_set B p d (q + 1) i (by omega) h2
    · rw [if_neg z] at h2
      omega
theorem cdS_gN (B : mM) (p : Nat) : ∀ d q, p < q → cdS B d p q = grB B p (gN B p d q) ++ cdS B (q + d - gN B p d q) (gN B p d q) (gN B p d q)
  | 0, q, h => by
    show opG B p q = grB B p q ++ cdS B (q + 0 - q) q q
    rw [show q + 0 - q = 0 by omega]
    show opG B p q = grB B p q ++ opG B q q
    unfold opG
    rw [if_pos h, if_neg (by omega), List.append_nil]
  | d + 1, q, h => by
    have ih := cdS_gN B p d (q + 1) (by omega)
    by_cases z : joM B p q = true
    · have e : gN B p (d + 1) q = gN B p d (q + 1) := if_pos z
      rw [e, show q + (d + 1) - gN B p d (q + 1) = q + 1 + d - gN B p d (q + 1) by omega, ← ih]
      exact if_pos (by rw [z, decide_eq_true h]; rfl)
    · have e : gN B p (d + 1) q = q := if_neg z
      rw [e, show q + (d + 1) - q = d + 1 by omega]
      have e1 : cdS B (d + 1) p q = opG B p q ++ (if B.1 59 q = 0 then cdS B d q (q + 1) else stB B q ++ cdS B d (q + 1) (q + 1)) := if_neg (fun y => z (by rw [Bool.and_eq_true] at y; exact y.2))
      have e2 : cdS B (d + 1) q q = opG B q q ++ (if B.1 59 q = 0 then cdS B d q (q + 1) else stB B q ++ cdS B d (q + 1) (q + 1)) := if_neg (fun y => by rw [Bool.and_eq_true] at y; have := of_decide_eq_true y.1; omega)
      have o1 : opG B p q = grB B p q := if_pos h
      have o2 : opG B q q = [] := if_neg (by omega)
      rw [e1, e2, o1, o2, List.nil_append]
theorem e_mk56 (K : Int32 → Int32 → Int32 → Int32 → mH → Option mH) (h : mH) {M B : mM} (hB : Bk M B) {n : Nat} (hn : B.1 12 11 = nI n) (h12 : n ≤ 12) (v1 : Int32) {p e : Nat} (he : e ≤ 72) (hp : mIn (B.1 60 p) 24 = true) (hs : ∀ i, p ≤ i → i < e → B.1 59 i = 0 → mIn (B.1 60 i) 24 = true) : ∀ d q, q + d = e → p ≤ q → ∀ m, d < m → f_X12_makes_56 K m v1 (nI e) (nI p) (nI q) (wM h M) = K v1 (nI e) (nI p) (nI (gN B p d q)) (wM h M) := by
  intro d
  induction d with
  | zero =>
    intro q hq hpq m hm
    cases m with
    | zero => omega
    | succ m => rw [f_X12_makes_56, if_neg (nI_nlt (by omega) (by omega))]; rfl
  | succ d ih =>
    intro q hq hpq m hm
    cases m with
    | zero => omega
    | succ m =>
      rw [f_X12_makes_56, if_pos (nI_lt (by omega) (by omega)), e_joins h hB hn h12 hpq (by omega) hp (hs q hpq (by omega)), Option.bind_some]
      dsimp only
      unfold gN
      cases joM B p q
      · rw [if_pos (show b2i false = 0 from rfl), if_neg (show ¬ (false = true) by decide)]
      · rw [if_neg (by decide), if_pos rfl, ← nI_succ]
        exact ih (q + 1) (by omega) (by omega) m (by omega)
theorem e_mk25 (K : Int32 → Int32 → Int32 → mH → Option mH) (h : mH) {B : mM} {n nl : Nat} (hn : B.1 12 2 = nI n) (h24 : n ≤ 24) (hnl : B.1 12 11 = nI nl) (h12 : nl ≤ 12) {lv : Nat} (hv : lv < 2) {p0 e : Nat} (he : e ≤ 72) (hs : ∀ i, p0 ≤ i → i < e → (B.1 59 i = 0 ∨ B.1 59 i = 1 ∨ B.1 59 i = 2) → mIn (B.1 60 i) 24 = true) : ∀ s d, d ≤ s → ∀ q, p0 ≤ q → q + d = e → ∀ (M : mM), Bk M B → ∀ l, OPS M lv l → l.length + 4 * d ≤ 48 → ∀ m, d < m → ∃ N, f_X12_makes_25 K m (nI lv) (nI e) (nI q) (wM h M) = K (nI lv) (nI e) (nI e) (wM h N) ∧ OPS N lv (l ++ cdS B d q q) ∧ Fo lv M N := by
  have hz : ∀ i, p0 ≤ i → i < e → ∃ f, f < 24 ∧ ((B.1 59 i = 0 ∨ B.1 59 i = 1 ∨ B.1 59 i = 2) → B.1 60 i = nI f ∧ sfM B i = f) := fun i h1 h2 => by
    by_cases z : B.1 59 i = 0 ∨ B.1 59 i = 1 ∨ B.1 59 i = 2
    · obtain ⟨f, h3, h4⟩ := mIn_of (hs i h1 h2 z)
      exact ⟨f, h3, fun _ => ⟨h4, by unfold sfM; rw [h4, nI_clamp (by omega)]⟩⟩
    · exact ⟨0, by omega, fun y => absurd y z⟩
  intro s
  induction s with
  | zero =>
    intro d hd q hq hqe M hB l O hl m hm
    cases m with
    | zero => omega
    | succ m =>
      have ed : d = 0 := by omega
      subst ed
      have eq : q = e := by omega
      subst eq
      refine ⟨M, ?_, ?_, Fo.rf _ _⟩
      · rw [f_X12_makes_25, if_neg (nI_nlt (by omega) (by omega))]
      · show OPS M lv (l ++ opG B q q)
        unfold opG
        rw [if_neg (by omega), List.append_nil]
        exact O
  | succ s ih =>
    intro d hd q hq hqe M hB l O hl m hm
    cases d with
    | zero => exact ih 0 (by omega) q hq hqe M hB l O hl m hm
    | succ d =>
      cases m with
      | zero => omega
      | succ m =>
        have e2 : cdS B (d + 1) q q = opG B q q ++ (if B.1 59 q = 0 then cdS B d q (q + 1) else stB B q ++ cdS B d (q + 1) (q + 1)) := if_neg (fun y => by rw [Bool.and_eq_true] at y; have := of_decide_eq_true y.1; omega)
        have o2 : opG B q q = [] := if_neg (by omega)
        rw [e2, o2, List.nil_append]
        obtain ⟨f, hf, hqf⟩ := hz q hq (by omega)
        rw [f_X12_makes_25, if_pos (nI_lt (by omega) (by omega)), if_pos (mIn_nI (show q < 72 by omega) (by omega)), nI_clamp (by omega), wM_1 h M rfl, hB.a _ (by omega) (by omega), wM_1 h M rfl, hB.a q (show 46 ≤ 60 by omega) (by omega), ← nI_succ]
        by_cases k0 : B.1 59 q = 0
        · rw [if_pos k0, if_pos k0]
          rw [e_mk56 _ h hB hnl h12 _ he (hs q hq (by omega) (Or.inl k0)) (fun i h1 h2 h3 => hs i (by omega) h2 (Or.inl h3)) d (q + 1) (by omega) (by omega) mFu (mFu_lt (by omega))]
          have gl := gN_le B q d (q + 1)
          obtain ⟨N1, e1, O1, F1⟩ := e_groups h hB hn h24 (p := q) (q := gN B q d (q + 1)) (by omega) (by omega) (fun i h1 h2 => hs i (by omega) (by omega) (by
            by_cases y : i = q
            · subst y
              exact Or.inl k0
            · exact Or.inl (gN_set B q d (q + 1) i (by omega) h2))) hv O (by omega)
          have lg := grB_len B q (gN B q d (q + 1))
          obtain ⟨N2, e3, O2, F2⟩ := ih (q + 1 + d - gN B q d (q + 1)) (by omega) (gN B q d (q + 1)) (by omega) (by omega) N1 (F1.bk hB) _ O1 (by rw [List.length_append]; omega) m (by omega)
          rw [e1, Option.bind_some]
          refine ⟨N2, e3, ?_, F1.tr F2⟩
          rw [cdS_gN B q d (q + 1) (by omega), ← List.append_assoc]
          exact O2
        · rw [if_neg k0, if_neg k0]
          unfold stB
          by_cases k1 : B.1 59 q = 1
          · obtain ⟨hf1, hf2⟩ := hqf (Or.inr (Or.inl k1))
            rw [if_pos k1, if_pos k1, if_pos (hs q hq (by omega) (Or.inr (Or.inl k1))), hf1, e_mask hf h M, Option.bind_some, hf2, nI_clamp (by omega)]
            dsimp only
            rw [wM_1 h M rfl, wM_1 h M rfl, wM_1 h M rfl, wM_1 h M rfl, hB.a _ (by omega) (by omega), hB.a _ (by omega) (by omega), hB.a _ (by omega) (by omega), hB.a _ (by omega) (by omega), hB.m]
            obtain ⟨N1, e1, O1, F1⟩ := e_emit h hv O (by omega) 2 (B.1 46 f) (-2) (mskM B f) (B.1 61 q <<< (B.1 47 f &&& 31)) (B.1 62 q)
            obtain ⟨N2, e3, O2, F2⟩ := ih d (by omega) (q + 1) (by omega) (by omega) N1 (F1.bk hB) _ O1 (by rw [List.length_append]; show _ + 1 + _ ≤ _; omega) m (by omega)
            rw [e1, Option.bind_some]
            refine ⟨N2, e3, ?_, F1.tr F2⟩
            rw [← List.append_assoc]
            exact O2
          · rw [if_neg k1, if_neg k1]
            by_cases k2 : B.1 59 q = 2
            · obtain ⟨hf1, hf2⟩ := hqf (Or.inr (Or.inr k2))
              rw [if_pos k2, if_pos k2, if_pos (hs q hq (by omega) (Or.inr (Or.inr k2))), hf1, hf2, nI_clamp (by omega), wM_1 h M rfl, hB.a _ (by omega) (by omega)]
              obtain ⟨N0, e0, O0, F0⟩ := e_emit h hv O (by omega) 0 (B.1 46 f) (-2) (-2) (-2) (-2)
              obtain ⟨N1, e1, O1, F1⟩ := e_emit h hv O0 (by rw [List.length_append]; show _ + 1 < 50; omega) 4 (nI f) (-2) (-2) (-2) (-2)
              obtain ⟨N2, e3, O2, F2⟩ := ih d (by omega) (q + 1) (by omega) (by omega) N1 (F1.bk (F0.bk hB)) _ O1 (by rw [List.length_append, List.length_append]; show _ + 1 + 1 + _ ≤ _; omega) m (by omega)
              rw [e0, Option.bind_some, e1, Option.bind_some]
              refine ⟨N2, e3, ?_, (F0.tr F1).tr F2⟩
              rw [List.append_assoc, List.append_assoc] at O2
              exact O2
            · rw [if_neg k2, if_neg k2, wM_1 h M rfl, hB.a _ (by omega) (by omega)]
              obtain ⟨N1, e1, O1, F1⟩ := e_emit h hv O (by omega) 3 (B.1 61 q) (-2) (-2) (-2) (-2)
              obtain ⟨N2, e3, O2, F2⟩ := ih d (by omega) (q + 1) (by omega) (by omega) N1 (F1.bk hB) _ O1 (by rw [List.length_append]; show _ + 1 + _ ≤ _; omega) m (by omega)
              rw [e1, Option.bind_some]
              refine ⟨N2, e3, ?_, F1.tr F2⟩
              rw [← List.append_assoc]
              exact O2
theorem e_makes (h : mH) {M B : mM} (hB : Bk M B) {n nl : Nat} (hn : B.1 12 2 = nI n) (h24 : n ≤ 24) (hnl : B.1 12 11 = nI nl) (h12 : nl ≤ 12) {lv : Nat} (hv : lv < 2) {a s : Nat} (ha : a < 6) (hs0 : B.1 58 a = nI s) (h12s : s ≤ 12) (hs : ∀ i, 12 * a ≤ i → i < 12 * a + s → (B.1 59 i = 0 ∨ B.1 59 i = 1 ∨ B.1 59 i = 2) → mIn (B.1 60 i) 24 = true) : ∃ N, f_X12_makes (nI lv) (nI a) (wM h M) = some (wM h N) ∧ OPS N lv (cdM B a) ∧ Fo lv M N := by
  unfold f_X12_makes cdM
  simp only [mLet]
  have F0 : Fo lv M (uM M 93 lv 0) := ⟨fun t k h1 _ => if_neg h1, rfl⟩
  have O0 : OPS (uM M 93 lv 0) lv [] := ⟨uM_s _ _ _ _, fun i w hi => absurd hi (Nat.not_lt_zero i)⟩
  obtain ⟨N, e, O, F⟩ := e_mk25 (fun _ _ _ h28 => some h28) h hn h24 hnl h12 hv (p0 := 12 * a) (e := 12 * a + s) (by omega) hs s s (Nat.le_refl _) (12 * a) (Nat.le_refl _) rfl _ (F0.bk hB) [] O0 (by show 0 + 4 * s ≤ 48; omega) mFu (mFu_lt (by omega))
  refine ⟨N, ?_, ?_, F0.tr F⟩
  · rw [if_pos (mIn_nI hv (by omega)), nI_clamp (by omega), wM_u h M rfl, if_pos (mIn_nI ha (by omega)), nI_clamp (by omega), wM_1 h _ rfl, uM_t _ (by omega), hB.a _ (by omega) (by omega), hs0]
    show f_X12_makes_25 _ mFu (nI lv) (nI 12 * nI a + nI s) (nI 12 * nI a) _ = _
    rw [nI_mul, nI_add]
    exact e
  · rw [hs0, nI_clamp (by omega)]
    exact O
def CC (h : mH) (j : Nat) (c : List (Nat → Int32)) : Prop := c.length ≤ 48 ∧ h.1 3 j 1 = nI c.length ∧ ∀ i w, i < c.length → w < 6 → h.1 32 j (6 * i + w) = (c.getD i o0) w
theorem CC.to {h h' : mH} {j : Nat} {c : List (Nat → Int32)} (r : CC h j c) (e3 : h'.1 3 j = h.1 3 j) (e32 : h'.1 32 j = h.1 32 j) : CC h' j c := ⟨r.1, by rw [e3]; exact r.2.1, fun i w hi hw => by rw [e32]; exact r.2.2 i w hi hw⟩
def AL (h : mH) (B : mM) (na : Nat) : Prop := na ≤ 6 ∧ h.1 1 0 6 = nI na ∧ ∀ a, a < na → CC h a (cdM B a)
/-! ===== CODE, the class's side: what it asks of the book ===== -/
theorem anN_t {p : Nat → Bool} {n j : Nat} (hj : j < n) (h : p j = true) : anN p n = true := anN_iff.mpr ⟨j, hj, h⟩
theorem anN_s {p : Nat → Bool} {j : Nat} (h : anN p j = false) (q : p j = false) : anN p (j + 1) = false := by
  show (anN p j || p j) = false
  rw [h, q]
  rfl
/-- a search that ends at the first that is found -/
theorem mAny {α : Type} (F : Nat → Nat → Option α) (p : Nat → Bool) (n : Nat) (res : Bool → Option α) (ht : ∀ j, j < n → p j = true → ∀ m, F (m + 1) j = res true) (hf : ∀ j, j < n → p j = false → ∀ m, F (m + 1) j = F m (j + 1)) (he : ∀ m, F (m + 1) n = res false) : ∀ m, n < m → F m 0 = res (anN p n) := by
  have key : ∀ d j, j + d = n → anN p j = false → ∀ m, d < m → F m j = res (anN p n) := by
    intro d
    induction d with
    | zero =>
      intro j hj hp m hm
      cases m with
      | zero => omega
      | succ m =>
        have e : j = n := by omega
        subst e
        rw [he, hp]
    | succ d ih =>
      intro j hj hp m hm
      cases m with
      | zero => omega
      | succ m =>
        cases q : p j
        · rw [hf j (by omega) q m]
          exact ih (j + 1) (by omega) (anN_s hp q) m (by omega)
        · rw [ht j (by omega) q m, anN_t (show j < n by omega) q]
  intro m hm
  exact key n 0 (by omega) rfl m hm
theorem c_isShadowed {h : mH} {n : Nat} {M : mM} (F : RF h n M) (x : Int32) : f_X1_isShadowed x h = some (b2i (shM M x), h) := by
  have h24 := F.1
  have en : (M.1 12 2).toNatClampNeg = n := by rw [F.2.1, nI_clamp (by omega)]
  unfold f_X1_isShadowed shM
  rw [en]
  refine mAny (fun m j => f_X1_isShadowed_2 (fun _ _ h8 => some (0, h8)) m x (nI j) h) (shP M x) n (fun b => some (b2i b, h)) ?_ ?_ ?_ mFu (mFu_lt (by omega))
  · intro j hj q m
    rw [f_X1_isShadowed_2, F.2.2.1, if_pos (nI_lt hj (by omega)), if_pos (mIn_nI (show j < 24 by omega) (by omega)), nI_clamp (by omega), (F.2.2.2 j hj).1.1, (F.2.2.2 j hj).1.2.2.2.1]
    unfold shP at q
    rw [Bool.and_eq_true, Bool.or_eq_true] at q
    rw [if_pos (of_decide_eq_true q.1)]
    rcases q.2 with z | z
    · rw [if_pos (of_decide_eq_true z)]
      rfl
    · rw [if_pos (of_decide_eq_true z)]
      split <;> rfl
  · intro j hj q m
    rw [f_X1_isShadowed_2, F.2.2.1, if_pos (nI_lt hj (by omega)), if_pos (mIn_nI (show j < 24 by omega) (by omega)), nI_clamp (by omega), (F.2.2.2 j hj).1.1, (F.2.2.2 j hj).1.2.2.2.1, ← nI_succ]
    unfold shP at q
    by_cases q1 : M.1 46 j = x
    · rw [decide_eq_true q1, Bool.true_and, Bool.or_eq_false_iff] at q
      rw [if_pos q1, if_neg (of_decide_eq_false q.1), if_neg (of_decide_eq_false q.2)]
    · rw [if_neg q1]
  · intro m
    rw [f_X1_isShadowed_2, F.2.2.1, if_neg (nI_nlt (Nat.le_refl _) (by omega))]
    rfl
theorem c_hasHandlers {h : mH} {n : Nat} {M : mM} (F : RF h n M) (hh : ∀ f, f < n → M.1 53 f = -1 ∨ ¬ M.1 53 f < 0) : f_X1_hasHandlers h = some (b2i (hhM M), h) := by
  have h24 := F.1
  have en : (M.1 12 2).toNatClampNeg = n := by rw [F.2.1, nI_clamp (by omega)]
  unfold f_X1_hasHandlers hhM
  rw [en]
  refine mAny (fun m j => f_X1_hasHandlers_2 (fun _ h5 => some (0, h5)) m (nI j) h) (hhP M) n (fun b => some (b2i b, h)) ?_ ?_ ?_ mFu (mFu_lt (by omega))
  · intro j hj q m
    unfold hhP at q
    have z : ¬ M.1 53 j = -1 := fun z => by rw [z] at q; simp at q
    rw [f_X1_hasHandlers_2, F.2.2.1, if_pos (nI_lt hj (by omega)), if_pos (mIn_nI (show j < 24 by omega) (by omega)), nI_clamp (by omega), (F.2.2.2 j hj).2.2.2.2.2, if_neg ((hh j hj).resolve_left z)]
    rfl
  · intro j hj q m
    unfold hhP at q
    have z : M.1 53 j = -1 := by
      by_cases z : M.1 53 j = -1
      · exact z
      · rw [decide_eq_false z] at q
        cases q
    rw [f_X1_hasHandlers_2, F.2.2.1, if_pos (nI_lt hj (by omega)), if_pos (mIn_nI (show j < 24 by omega) (by omega)), nI_clamp (by omega), (F.2.2.2 j hj).2.2.2.2.2, z, if_pos (by decide), ← nI_succ]
  · intro m
    rw [f_X1_hasHandlers_2, F.2.2.1, if_neg (nI_nlt (Nat.le_refl _) (by omega))]
    rfl
theorem c_bitsOfKept {h : mH} {n : Nat} {M : mM} (F : RF h n M) (r : Nat) : f_X1_bitsOfKept (nI r) h = some (kpB M r n, h) := by
  have h24 := F.1
  unfold f_X1_bitsOfKept
  refine mLoop (fun m (c : Int32 × Int32) => f_X1_bitsOfKept_4 (fun _ u7 _ h9 => some (u7, h9)) m (nI r) c.1 c.2 h) (fun j => (kpB M r j, nI j)) n (some (kpB M r n, h)) ?_ ?_ mFu (mFu_lt (by omega))
  · intro j hj m
    dsimp only
    rw [f_X1_bitsOfKept_4, F.2.2.1, if_pos (nI_lt hj (by omega)), if_pos (mIn_nI (show j < 24 by omega) (by omega)), nI_clamp (by omega), (F.2.2.2 j hj).1.1, c_isKept F hj, Option.bind_some, kpB_succ, ← nI_succ]
    dsimp only
    rw [(F.2.2.2 j hj).2.2.1]
    unfold inR
    by_cases q1 : M.1 46 j = nI r
    · rw [if_pos q1, decide_eq_true q1, Bool.true_and]
      cases kpM M j
      · rw [if_pos (show b2i false = 0 from rfl), if_neg (show ¬ (false = true) by decide)]
      · rw [if_neg (by decide), if_pos rfl]
    · rw [if_neg q1, decide_eq_false q1, Bool.false_and, if_neg (show ¬ (false = true) by decide)]
  · intro m
    dsimp only
    rw [f_X1_bitsOfKept_4, F.2.2.1, if_neg (nI_nlt (Nat.le_refl _) (by omega))]
/-- a law binds field x and one of the set y -/
def bnP (M : mM) (x y : Int32) (l : Nat) : Bool := (decide (M.1 55 l = x) && bt y (M.1 56 l).toNatClampNeg) || (decide (M.1 56 l = x) && bt y (M.1 55 l).toNatClampNeg)
theorem c_binds {h : mH} {n l f1 g1 : Nat} {M : mM} (h24 : n ≤ 24) (hl : h.1 7 l 0 = M.1 54 l ∧ h.1 7 l 1 = M.1 55 l ∧ h.1 7 l 2 = M.1 56 l ∧ h.1 7 l 3 = M.1 57 l) (hf : f1 < n) (ef : M.1 55 l = nI f1) (hg : g1 < n) (eg : M.1 56 l = nI g1) (x y : Int32) : f_X7_binds l x y h = some (b2i (bnP M x y l), h) := by
  unfold f_X7_binds bnP
  rw [hl.2.1, hl.2.2.1, ef, eg, e_isIn y (show g1 < 32 by omega), Option.bind_some, e_isIn y (show f1 < 32 by omega), Option.bind_some, nI_clamp (by omega), nI_clamp (by omega)]
  dsimp only
  rw [hl.2.2.1, hl.2.1, ef, eg, e_isIn y (show f1 < 32 by omega), Option.bind_some]
  dsimp only
  by_cases q1 : nI f1 = x
  · rw [if_pos q1, decide_eq_true q1, Bool.true_and]
    cases bt y g1
    · rw [if_pos (show b2i false = 0 from rfl), Bool.false_or]
      by_cases q2 : nI g1 = x
      · rw [if_pos q2, decide_eq_true q2, Bool.true_and]
        cases bt y f1 <;> rfl
      · rw [if_neg q2, decide_eq_false q2]
        rfl
    · rw [if_neg (by decide)]
      rfl
  · rw [if_neg q1, decide_eq_false q1, Bool.false_and, Bool.false_or]
    by_cases q2 : nI g1 = x
    · rw [if_pos q2, decide_eq_true q2, Bool.true_and]
      cases bt y f1 <;> rfl
    · rw [if_neg q2, decide_eq_false q2]
      rfl
theorem c_isBound {h : mH} {n : Nat} {M : mM} (h24 : n ≤ 24) (W : RLw h n M) (x y : Int32) : f_X1_isBound x y h = some (b2i (anN (bnP M x y) (M.1 12 11).toNatClampNeg), h) := by
  obtain ⟨w, w1, w2, w3, w4⟩ := W
  have en : (M.1 12 11).toNatClampNeg = w := by rw [w2, nI_clamp (by omega)]
  unfold f_X1_isBound
  rw [en]
  have ee : ∀ j, j < w → f_X7_binds j x y h = some (b2i (bnP M x y j), h) := fun j hj => by
    obtain ⟨a, ⟨f, f1, f2⟩, ⟨g, g1, g2⟩⟩ := w4 j hj
    exact c_binds h24 a f1 f2 g1 g2 x y
  refine mAny (fun m j => f_X1_isBound_2 (fun _ _ _ h8 => some (0, h8)) m x y (nI j) h) (bnP M x y) w (fun b => some (b2i b, h)) ?_ ?_ ?_ mFu (mFu_lt (by omega))
  · intro j hj q m
    rw [f_X1_isBound_2, w3, if_pos (nI_lt hj (by omega)), if_pos (mIn_nI (show j < 12 by omega) (by omega)), nI_clamp (by omega), ee j hj, Option.bind_some, q]
    rfl
  · intro j hj q m
    rw [f_X1_isBound_2, w3, if_pos (nI_lt hj (by omega)), if_pos (mIn_nI (show j < 12 by omega) (by omega)), nI_clamp (by omega), ee j hj, Option.bind_some, q, nI_succ]
    rfl
  · intro m
    rw [f_X1_isBound_2, w3, if_neg (nI_nlt (Nat.le_refl _) (by omega))]
    rfl
/-! ===== CODE, the class's side: instructions are added ===== -/
/-- of act a's code only parts and size have changed -/
def Fk (a : Nat) (h h' : mH) : Prop := (∀ t i, ¬ (t = 32 ∧ i = a) → ¬ (t = 3 ∧ i = a) → h'.1 t i = h.1 t i) ∧ (∀ s, s ≠ 1 → h'.1 3 a s = h.1 3 a s) ∧ h'.2 = h.2
theorem Fk.rf (a : Nat) (h : mH) : Fk a h h := ⟨fun _ _ _ _ => rfl, fun _ _ => rfl, rfl⟩
theorem Fk.tr {k : Nat} {a b c : mH} (h1 : Fk k a b) (h2 : Fk k b c) : Fk k a c := ⟨fun t i p q => (h2.1 t i p q).trans (h1.1 t i p q), fun s p => (h2.2.1 s p).trans (h1.2.1 s p), h2.2.2.trans h1.2.2⟩
theorem uI3 (h : mH) (t i s s' : Nat) (x : Int32) : (uI h t i s x).1 t i s' = if s' = s then x else h.1 t i s' := by
  rw [uI_1]
  by_cases z : s' = s
  · rw [if_pos ⟨rfl, rfl, z⟩, if_pos z]
  · rw [if_neg (fun y => z y.2.2), if_neg z]
theorem c_add {h : mH} {j : Nat} {l : List (Nat → Int32)} (C : CC h j l) (hl : l.length < 48) (a b c d e f : Int32) : ∃ h', f_X3_add j a b c d e f h = some h' ∧ CC h' j (l ++ [o6 a b c d e f]) ∧ Fk j h h' := by
  obtain ⟨c0, c1, c2⟩ := C
  obtain ⟨Q, hQ⟩ : ∃ Q, Q = 6 * l.length := ⟨_, rfl⟩
  have eQ : nI l.length * 6 = nI Q := by
    show nI l.length * nI 6 = nI Q
    rw [nI_mul, hQ, Nat.mul_comm]
  have q0 : nI Q + 0 = nI Q := nI_add Q 0
  have q1 : nI Q + 1 = nI (Q + 1) := nI_add Q 1
  have q2 : nI Q + 2 = nI (Q + 2) := nI_add Q 2
  have q3 : nI Q + 3 = nI (Q + 3) := nI_add Q 3
  have q4 : nI Q + 4 = nI (Q + 4) := nI_add Q 4
  have q5 : nI Q + 5 = nI (Q + 5) := nI_add Q 5
  refine ⟨uI (uI (uI (uI (uI (uI (uI h 32 j Q a) 32 j (Q + 1) b) 32 j (Q + 2) c) 32 j (Q + 3) d) 32 j (Q + 4) e) 32 j (Q + 5) f) 3 j 1 (nI (l.length + 1)), ?_, ⟨?_, ?_, ?_⟩, ?_⟩
  · unfold f_X3_add
    simp only [mLet]
    rw [c1, if_pos (show nI l.length < 48 from nI_lt (b := 48) hl (by omega)), eQ, q0, q1, q2, q3, q4, q5, if_pos (mIn_nI (show Q < 288 by omega) (by omega)), if_pos (mIn_nI (show Q + 1 < 288 by omega) (by omega)), if_pos (mIn_nI (show Q + 2 < 288 by omega) (by omega)), if_pos (mIn_nI (show Q + 3 < 288 by omega) (by omega)), if_pos (mIn_nI (show Q + 4 < 288 by omega) (by omega)), if_pos (mIn_nI (show Q + 5 < 288 by omega) (by omega)), nI_clamp (by omega), nI_clamp (by omega), nI_clamp (by omega), nI_clamp (by omega), nI_clamp (by omega), nI_clamp (by omega), uI_ne (fun z => by omega), uI_ne (fun z => by omega), uI_ne (fun z => by omega), uI_ne (fun z => by omega), uI_ne (fun z => by omega), uI_ne (fun z => by omega), c1, nI_succ]
  · rw [List.length_append]
    show _ + 1 ≤ 48
    omega
  · rw [uI3, if_pos rfl, List.length_append]
    rfl
  · intro i w hi hw
    rw [List.length_append] at hi
    have hi : i < l.length + 1 := hi
    rw [uI_ne (fun z => by omega), uI3, uI3, uI3, uI3, uI3, uI3]
    by_cases z : i = l.length
    · subst z
      rw [gd_r]
      have hw : w = 0 ∨ w = 1 ∨ w = 2 ∨ w = 3 ∨ w = 4 ∨ w = 5 := by omega
      rcases hw with rfl | rfl | rfl | rfl | rfl | rfl
      · rw [if_neg (by omega), if_neg (by omega), if_neg (by omega), if_neg (by omega), if_neg (by omega), if_pos (by omega)]
        rfl
      · rw [if_neg (by omega), if_neg (by omega), if_neg (by omega), if_neg (by omega), if_pos (by omega)]
        rfl
      · rw [if_neg (by omega), if_neg (by omega), if_neg (by omega), if_pos (by omega)]
        rfl
      · rw [if_neg (by omega), if_neg (by omega), if_pos (by omega)]
        rfl
      · rw [if_neg (by omega), if_pos (by omega)]
        rfl
      · rw [if_pos (by omega)]
        rfl
    · rw [if_neg (by omega), if_neg (by omega), if_neg (by omega), if_neg (by omega), if_neg (by omega), if_neg (by omega), gd_l _ _ _ (by omega)]
      exact c2 i w (by omega) hw
  · refine ⟨fun t i p q => ?_, fun s p => ?_, rfl⟩
    · rw [uI_ne (fun z => q z), uI_ne (fun z => p z), uI_ne (fun z => p z), uI_ne (fun z => p z), uI_ne (fun z => p z), uI_ne (fun z => p z), uI_ne (fun z => p z)]
    · rw [uI3, if_neg p, uI_ne (fun z => by omega), uI_ne (fun z => by omega), uI_ne (fun z => by omega), uI_ne (fun z => by omega), uI_ne (fun z => by omega), uI_ne (fun z => by omega)]
/-! ===== CODE, the class's side: the bits that a group keeps ===== -/
/-- fields of a register share no bit -/
def djM (n : Nat) (B : mM) : Prop := ∀ f g, f < n → g < n → f ≠ g → B.1 46 f = B.1 46 g → mskM B f &&& mskM B g = 0
theorem orI_bt (g : Nat → Int32) (b : Nat) : ∀ n, bt (orI g n) b = anN (fun j => bt (g j) b) n
  | 0 => b_0 b
  | n + 1 => by
    show bt (orI g n ||| g n) b = (anN (fun j => bt (g j) b) n || bt (g n) b)
    rw [b_or, orI_bt g b n]
theorem kpB_bt (M : mM) (r b : Nat) : ∀ n, bt (kpB M r n) b = anN (fun f => (inR M r f && kpM M f) && bt (mskM M f) b) n
  | 0 => b_0 b
  | n + 1 => by
    rw [kpB_succ]
    show _ = (anN (fun f => (inR M r f && kpM M f) && bt (mskM M f) b) n || ((inR M r n && kpM M n) && bt (mskM M n) b))
    rw [← kpB_bt M r b n]
    cases (inR M r n && kpM M n)
    · rw [if_neg (by decide), Bool.false_and, Bool.or_false]
    · rw [if_pos rfl, b_or, Bool.true_and]
def gmP (B : mM) (p d : Nat) : Int32 := mskM B (sfM B (p + d))
theorem not_bt (x : Int32) {b : Nat} (hb : b < 32) : bt (x ^^^ (-1)) b = !bt x b := by rw [b_xor, b_m1 b hb, Bool.xor_true]
theorem keep_eq {B : mM} {n p q r : Nat} (h24 : n ≤ 24) (en : (B.1 12 2).toNatClampNeg = n) (dj : djM n B) (hs : ∀ i, p ≤ i → i < q → ∃ f, f < n ∧ B.1 60 i = nI f ∧ B.1 46 f = nI r) : kpB B r n &&& (orI (gmP B p) (q - p) ^^^ (-1)) = orI (keP B (nI r) (shM B (nI r)) p q) n := by
  apply b_ext
  intro b hb
  rw [b_and, not_bt _ hb, kpB_bt, orI_bt, orI_bt]
  have sf : ∀ i f, f < 24 → B.1 60 i = nI f → sfM B i = f := fun i f hf e => by unfold sfM; rw [e, nI_clamp (by omega)]
  have inj : ∀ f g, f < 24 → g < 24 → nI f = nI g → f = g := fun f g hf hg e => by
    have : (nI f).toNatClampNeg = (nI g).toNatClampNeg := by rw [e]
    rw [nI_clamp (by omega), nI_clamp (by omega)] at this
    exact this
  apply Bool.eq_iff_iff.mpr
  rw [Bool.and_eq_true, Bool.not_eq_true', anN_iff, anN_iff]
  constructor
  · rintro ⟨⟨f, f1, f2⟩, ng⟩
    rw [Bool.and_eq_true, Bool.and_eq_true] at f2
    obtain ⟨⟨f3, f4⟩, f5⟩ := f2
    have f3 : B.1 46 f = nI r := of_decide_eq_true f3
    refine ⟨f, f1, ?_⟩
    have ck : kpP B (nI r) (shM B (nI r)) p q f = true := by
      unfold kpP
      rw [Bool.and_eq_true, Bool.and_eq_true]
      refine ⟨⟨decide_eq_true f3, ?_⟩, ?_⟩
      · unfold kpM at f4
        rw [Bool.or_eq_true] at f4 ⊢
        rcases f4 with z | z
        · exact Or.inl z
        · refine Or.inr ?_
          rw [z, Bool.true_and]
          unfold shM
          rw [en]
          refine anN_t f1 ?_
          unfold shP
          rw [decide_eq_true f3, z, Bool.or_true]
          rfl
      · rw [alN_iff]
        intro d hd
        unfold gnP
        rw [Bool.not_eq_true']
        apply decide_eq_false
        intro z
        have : anN (fun j => bt (gmP B p j) b) (q - p) = true := by
          refine anN_t hd ?_
          unfold gmP
          rw [sf (p + d) f (by omega) z]
          exact f5
        rw [this] at ng
        cases ng
    unfold keP
    rw [if_pos ck]
    exact f5
  · rintro ⟨f, f1, f2⟩
    unfold keP at f2
    by_cases ck : kpP B (nI r) (shM B (nI r)) p q f = true
    · rw [if_pos ck] at f2
      unfold kpP at ck
      rw [Bool.and_eq_true, Bool.and_eq_true] at ck
      obtain ⟨⟨c1, c2⟩, c3⟩ := ck
      have f3 : B.1 46 f = nI r := of_decide_eq_true c1
      refine ⟨⟨f, f1, ?_⟩, ?_⟩
      · rw [Bool.and_eq_true, Bool.and_eq_true]
        refine ⟨⟨c1, ?_⟩, f2⟩
        unfold kpM
        rw [Bool.or_eq_true] at c2 ⊢
        rcases c2 with z | z
        · exact Or.inl z
        · rw [Bool.and_eq_true] at z
          exact Or.inr z.1
      · cases ng : anN (fun j => bt (gmP B p j) b) (q - p)
        · rfl
        · obtain ⟨d, d1, d2⟩ := anN_iff.mp ng
          obtain ⟨g, g1, g2, g3⟩ := hs (p + d) (by omega) (by omega)
          unfold gmP at d2
          rw [sf (p + d) g (by omega) g2] at d2
          have hne : f ≠ g := fun z => by
            have := alN_iff.mp c3 d d1
            unfold gnP at this
            rw [Bool.not_eq_true'] at this
            exact (of_decide_eq_false this) (by rw [g2, z])
          have dd := dj f g f1 g1 hne (f3.trans g3.symm)
          have z : bt (mskM B f &&& mskM B g) b = true := by rw [b_and, f2, d2]; rfl
          rw [dd, b_0] at z
          cases z
    · rw [if_neg ck, b_0] at f2
      cases f2
/-! ===== CODE, the class's side: groups ===== -/
/-- only act a's code has changed -/
def Fz (a : Nat) (h h' : mH) : Prop := (∀ t i, ¬ (t = 32 ∧ i = a) → ¬ (t = 3 ∧ i = a) → h'.1 t i = h.1 t i) ∧ h'.2 = h.2
theorem Fz.rf (a : Nat) (h : mH) : Fz a h h := ⟨fun _ _ _ _ => rfl, rfl⟩
theorem Fz.tr {k : Nat} {a b c : mH} (h1 : Fz k a b) (h2 : Fz k b c) : Fz k a c := ⟨fun t i p q => (h2.1 t i p q).trans (h1.1 t i p q), h2.2.trans h1.2⟩
theorem Fk.z {a : Nat} {h h' : mH} (f : Fk a h h') : Fz a h h' := ⟨f.1, f.2.2⟩
theorem Fz.u (a : Nat) (h : mH) (s : Nat) (x : Int32) : Fz a h (uI h 3 a s x) := ⟨fun t i _ q => uI_ne (fun z => q z), rfl⟩
theorem RF.z {a : Nat} {h h' : mH} {n : Nat} {M : mM} (r : RF h n M) (e : Fz a h h') : RF h' n M := by
  obtain ⟨h24, x, b, c⟩ := r
  refine ⟨h24, x, by rw [e.1 1 0 (by omega) (by omega)]; exact b, fun g hg => ?_⟩
  rw [e.1 6 g (by omega) (by omega)]
  exact c g hg
theorem RLw.z {a : Nat} {h h' : mH} {n : Nat} {M : mM} (r : RLw h n M) (e : Fz a h h') : RLw h' n M := by
  obtain ⟨w, h1, h2, h3, h4⟩ := r
  refine ⟨w, h1, h2, by rw [e.1 1 0 (by omega) (by omega)]; exact h3, fun l hl => ?_⟩
  rw [e.1 7 l (by omega) (by omega)]
  exact h4 l hl
/-- the open group of steps p to i -/
def GS (h : mH) (a : Nat) (B : mM) (n p i : Nat) : Prop := (p = i ∧ h.1 3 a 2 = 0) ∨ (p < i ∧ ¬ h.1 3 a 2 = 0 ∧ (∀ f, f < 24 → bt (h.1 3 a 2) f = anN (fun d => decide (B.1 60 (p + d) = nI f)) (i - p)) ∧ h.1 3 a 3 = B.1 46 (sfM B p) ∧ h.1 3 a 4 = orI (gmP B p) (i - p) ∧ h.1 3 a 5 = orI (ptP B p) (i - p) ∧ ∀ q, p ≤ q → q < i → ∃ f, f < n ∧ B.1 60 q = nI f ∧ B.1 46 f = B.1 46 (sfM B p))
theorem cc_u {h : mH} {a : Nat} {l : List (Nat → Int32)} (C : CC h a l) {s : Nat} (hs : s ≠ 1) (x : Int32) : CC (uI h 3 a s x) a l := ⟨C.1, by rw [uI3, if_neg (fun z => hs z.symm)]; exact C.2.1, fun i w hi hw => by rw [uI_ne (fun z => by omega)]; exact C.2.2 i w hi hw⟩
theorem c_rw {h : mH} {a : Nat} {l : List (Nat → Int32)} (C : CC h a l) (hl : l.length + 4 ≤ 48) (x k : Int32) (b : Bool) : ∃ h', f_X3_addReadAndWrite a x k (b2i b) h = some h' ∧ CC h' a (l ++ (if b = true then [o6 5 (-2) (-2) (-2) (-2) (-2), o6 0 x (-2) (-2) (-2) (-2), o6 1 x 1 k (h.1 3 a 5) (-2), o6 6 (-2) (-2) (-2) (-2) (-2)] else [o6 0 x (-2) (-2) (-2) (-2), o6 1 x 1 k (h.1 3 a 5) (-2)])) ∧ Fk a h h' := by
  unfold f_X3_addReadAndWrite f_X3_addReadAndWrite_j19
  cases b
  · obtain ⟨h1, e1, C1, F1⟩ := c_add C (by omega) 0 x (-2) (-2) (-2) (-2)
    obtain ⟨h2, e2, C2, F2⟩ := c_add C1 (by rw [List.length_append]; show _ + 1 < 48; omega) 1 x 1 k (h.1 3 a 5) (-2)
    refine ⟨h2, ?_, ?_, F1.tr F2⟩
    · rw [if_pos (show b2i false = 0 from rfl), e1, Option.bind_some, F1.2.1 5 (by omega), e2, Option.bind_some, if_pos (show b2i false = 0 from rfl)]
    · rw [if_neg (by decide)]
      rw [List.append_assoc] at C2
      exact C2
  · obtain ⟨h0, e0, C0, F0⟩ := c_add C (by omega) 5 (-2) (-2) (-2) (-2) (-2)
    obtain ⟨h1, e1, C1, F1⟩ := c_add C0 (by rw [List.length_append]; show _ + 1 < 48; omega) 0 x (-2) (-2) (-2) (-2)
    obtain ⟨h2, e2, C2, F2⟩ := c_add C1 (by rw [List.length_append, List.length_append]; show _ + 1 + 1 < 48; omega) 1 x 1 k (h.1 3 a 5) (-2)
    obtain ⟨h3, e3, C3, F3⟩ := c_add C2 (by rw [List.length_append, List.length_append, List.length_append]; show _ + 1 + 1 + 1 < 48; omega) 6 (-2) (-2) (-2) (-2) (-2)
    refine ⟨h3, ?_, ?_, ((F0.tr F1).tr F2).tr F3⟩
    · rw [if_neg (by decide), e0, Option.bind_some, e1, Option.bind_some, F1.2.1 5 (by omega), F0.2.1 5 (by omega), e2, Option.bind_some, if_neg (by decide), e3, Option.bind_some]
    · rw [if_pos rfl]
      rw [List.append_assoc, List.append_assoc, List.append_assoc] at C3
      exact C3
theorem c_endGroup {h : mH} {a n p i : Nat} {B : mM} {l : List (Nat → Int32)} (F : RF h n B) (dj : djM n B) (hreg : ∀ f, f < n → ∃ r, r < 8 ∧ B.1 46 f = nI r) (hh : ∀ f, f < n → B.1 53 f = -1 ∨ ¬ B.1 53 f < 0) (h7 : h.1 1 0 7 = B.1 12 22) (C : CC h a l) (hl : p < i → l.length + 4 ≤ 48) (G : GS h a B n p i) : ∃ h', f_X3_endGroup a h = some h' ∧ CC h' a (l ++ opG B p i) ∧ h'.1 3 a 2 = 0 ∧ Fz a h h' := by
  have h24 := F.1
  have en : (B.1 12 2).toNatClampNeg = n := by rw [F.2.1, nI_clamp (by omega)]
  unfold f_X3_endGroup opG
  rcases G with ⟨g1, g2⟩ | ⟨g1, g2, g3, g4, g5, g6, g7⟩
  · rw [if_pos g2, if_neg (by omega), List.append_nil]
    exact ⟨h, rfl, C, g2, Fz.rf _ _⟩
  · have hl := hl g1
    obtain ⟨f0, f1, f2, f3⟩ := g7 p (Nat.le_refl _) g1
    obtain ⟨r, hr, er⟩ := hreg f0 f1
    have ex : B.1 46 (sfM B p) = nI r := by rw [← f3, er]
    have C2 : CC (uI h 3 a 2 0) a l := cc_u C (by omega) 0
    have F2 : RF (uI h 3 a 2 0) n B := F.z (Fz.u a h 2 0)
    have k3 : (uI h 3 a 2 0).1 3 a 3 = nI r := by rw [uI3, if_neg (by omega), g4, ex]
    have k4 : (uI h 3 a 2 0).1 3 a 4 = orI (gmP B p) (i - p) := by rw [uI3, if_neg (by omega), g5]
    have k5 : (uI h 3 a 2 0).1 3 a 5 = orI (ptP B p) (i - p) := by rw [uI3, if_neg (by omega), g6]
    have k2 : (uI h 3 a 2 0).1 3 a 2 = 0 := by rw [uI3, if_pos rfl]
    have k7 : (uI h 3 a 2 0).1 1 0 7 = B.1 12 22 := by rw [uI_ne (fun z => by omega), h7]
    rw [if_neg g2, if_pos g1]
    simp only [mLet]
    rw [k3, c_bitsOfKept F2 r, Option.bind_some]
    dsimp only
    rw [k4, keep_eq h24 en dj (fun q q1 q2 => by obtain ⟨f, z1, z2, z3⟩ := g7 q q1 q2; exact ⟨f, z1, z2, by rw [z3, ex]⟩), k5, c_isShadowed F2, Option.bind_some]
    dsimp only
    rw [k7, k5, c_hasHandlers F2 hh, Option.bind_some]
    dsimp only
    unfold grB
    rw [ex, en]
    generalize orI (keP B (nI r) (shM B (nI r)) p i) n = kp
    by_cases q1 : kp = 0
    · rw [if_pos q1, if_pos q1]
      obtain ⟨h1, e1, C1, F1⟩ := c_add C2 (by omega) 1 (nI r) 0 0 (orI (ptP B p) (i - p)) (-2)
      rw [e1, Option.bind_some]
      exact ⟨h1, rfl, C1, by rw [F1.2.1 2 (by omega), k2], (Fz.u a h 2 0).tr F1.z⟩
    · rw [if_neg q1, if_neg q1]
      cases shM B (nI r)
      · rw [if_pos (show b2i false = 0 from rfl), if_neg (show ¬ (false = true) by decide)]
        obtain ⟨h1, e1, C1, F1⟩ := c_rw C2 hl (nI r) kp (decide (B.1 12 22 = 1) && hhM B)
        rw [k5] at C1
        refine ⟨h1, ?_, ?_, by rw [F1.2.1 2 (by omega), k2], (Fz.u a h 2 0).tr F1.z⟩
        · by_cases q2 : B.1 12 22 = 1
          · rw [if_pos q2]
            rw [decide_eq_true q2, Bool.true_and] at e1
            cases hq : hhM B
            · rw [hq] at e1
              have e1 : f_X3_addReadAndWrite a (nI r) kp 0 (uI h 3 a 2 0) = some h1 := e1
              rw [if_pos (show b2i false = 0 from rfl), e1, Option.bind_some]
            · rw [hq] at e1
              have e1 : f_X3_addReadAndWrite a (nI r) kp 1 (uI h 3 a 2 0) = some h1 := e1
              rw [if_neg (by decide), e1, Option.bind_some]
          · rw [if_neg q2]
            rw [decide_eq_false q2, Bool.false_and] at e1
            have e1 : f_X3_addReadAndWrite a (nI r) kp 0 (uI h 3 a 2 0) = some h1 := e1
            rw [e1, Option.bind_some]
        · have ec : ((decide (B.1 12 22 = 1) && hhM B) = true) = (B.1 12 22 = 1 ∧ hhM B = true) := by simp
          simp only [ec] at C1
          exact C1
      · rw [if_neg (by decide), if_pos rfl]
        obtain ⟨h1, e1, C1, F1⟩ := c_add C2 (by omega) 1 (nI r) 2 kp (orI (ptP B p) (i - p)) (-2)
        rw [e1, Option.bind_some]
        exact ⟨h1, rfl, C1, by rw [F1.2.1 2 (by omega), k2], (Fz.u a h 2 0).tr F1.z⟩
theorem inj24 {f g : Nat} (hf : f < 24) (hg : g < 24) (e : nI f = nI g) : f = g := by
  have : (nI f).toNatClampNeg = (nI g).toNatClampNeg := by rw [e]
  rw [nI_clamp (by omega), nI_clamp (by omega)] at this
  exact this
theorem sf_eq {B : mM} {q f : Nat} (hf : f < 24) (e : B.1 60 q = nI f) : sfM B q = f := by unfold sfM; rw [e, nI_clamp (by omega)]
/-- the class asks of a set what the model asks of each step -/
theorem bound_eq {h : mH} {B : mM} {n p i f : Nat} {y : Int32} (h24 : n ≤ 24) (W : RLw h n B) (hf : f < n) (ef : B.1 60 i = nI f) (hy : ∀ f, f < 24 → bt y f = anN (fun d => decide (B.1 60 (p + d) = nI f)) (i - p)) : (!bt y f && !anN (bnP B (nI f) y) (B.1 12 11).toNatClampNeg) = alN (joP B p i) (i - p) := by
  obtain ⟨w, w1, w2, w3, w4⟩ := W
  have ew : (B.1 12 11).toNatClampNeg = w := by rw [w2, nI_clamp (by omega)]
  rw [ew]
  apply Bool.eq_iff_iff.mpr
  rw [Bool.and_eq_true, Bool.not_eq_true', Bool.not_eq_true', alN_iff]
  constructor
  · rintro ⟨a1, a2⟩ d hd
    unfold joP
    rw [Bool.and_eq_true, Bool.not_eq_true', Bool.not_eq_true', ef]
    constructor
    · apply decide_eq_false
      intro z
      rw [hy f (by omega), anN_t hd (decide_eq_true z)] at a1
      cases a1
    · unfold bdM
      rw [ew]
      cases hq : anN (bdP B (B.1 60 (p + d)) (nI f)) w
      · rfl
      · obtain ⟨l, l1, l2⟩ := anN_iff.mp hq
        obtain ⟨-, ⟨u, u1, u2⟩, ⟨v, v1, v2⟩⟩ := w4 l l1
        have : anN (bnP B (nI f) y) w = true := by
          refine anN_t l1 ?_
          unfold bdP at l2
          unfold bnP
          rw [Bool.or_eq_true, Bool.and_eq_true, Bool.and_eq_true] at l2 ⊢
          rcases l2 with ⟨z1, z2⟩ | ⟨z1, z2⟩
          · have z1 := of_decide_eq_true z1
            refine Or.inr ⟨z2, ?_⟩
            rw [u2, nI_clamp (by omega), hy u (by omega)]
            exact anN_t hd (decide_eq_true (by rw [← z1, u2]))
          · have z2 := of_decide_eq_true z2
            refine Or.inl ⟨z1, ?_⟩
            rw [v2, nI_clamp (by omega), hy v (by omega)]
            exact anN_t hd (decide_eq_true (by rw [← z2, v2]))
        rw [this] at a2
        cases a2
  · intro hal
    have key : ∀ d, d < i - p → ¬ B.1 60 (p + d) = nI f ∧ anN (bdP B (B.1 60 (p + d)) (nI f)) w = false := fun d hd => by
      have := hal d hd
      unfold joP at this
      rw [Bool.and_eq_true, Bool.not_eq_true', Bool.not_eq_true', ef] at this
      refine ⟨of_decide_eq_false this.1, ?_⟩
      have z := this.2
      unfold bdM at z
      rw [ew] at z
      exact z
    constructor
    · cases hq : bt y f
      · rfl
      · rw [hy f (by omega)] at hq
        obtain ⟨d, d1, d2⟩ := anN_iff.mp hq
        exact absurd (of_decide_eq_true d2) (key d d1).1
    · cases hq : anN (bnP B (nI f) y) w
      · rfl
      · obtain ⟨l, l1, l2⟩ := anN_iff.mp hq
        obtain ⟨-, ⟨u, u1, u2⟩, ⟨v, v1, v2⟩⟩ := w4 l l1
        unfold bnP at l2
        rw [Bool.or_eq_true, Bool.and_eq_true, Bool.and_eq_true] at l2
        rcases l2 with ⟨z1, z2⟩ | ⟨z1, z2⟩
        · rw [v2, nI_clamp (by omega), hy v (by omega)] at z2
          obtain ⟨d, d1, d2⟩ := anN_iff.mp z2
          have d2 := of_decide_eq_true d2
          have : anN (bdP B (B.1 60 (p + d)) (nI f)) w = true := by
            refine anN_t l1 ?_
            unfold bdP
            rw [z1, d2, decide_eq_true v2]
            simp
          rw [(key d d1).2] at this
          cases this
        · rw [u2, nI_clamp (by omega), hy u (by omega)] at z2
          obtain ⟨d, d1, d2⟩ := anN_iff.mp z2
          have d2 := of_decide_eq_true d2
          have : anN (bdP B (B.1 60 (p + d)) (nI f)) w = true := by
            refine anN_t l1 ?_
            unfold bdP
            rw [z1, d2, decide_eq_true u2]
            simp
          rw [(key d d1).2] at this
          cases this
theorem c_joins {h : mH} {a n p i f : Nat} {B : mM} (F : RF h n B) (W : RLw h n B) (G : GS h a B n p i) (k0 : B.1 59 i = 0) (hf : f < n) (ef : B.1 60 i = nI f) : f_X3_joinsGroup a (nI f) h = some (b2i (decide (p < i) && joM B p i), h) := by
  have h24 := F.1
  unfold f_X3_joinsGroup joM
  rcases G with ⟨g1, g2⟩ | ⟨g1, g2, g3, g4, g5, g6, g7⟩
  · rw [if_pos g2, decide_eq_false (by omega)]
    rfl
  · rw [if_neg g2, if_pos (mIn_nI (show f < 24 by omega) (by omega)), nI_clamp (by omega), (F.2.2.2 f hf).1.1, g4, e_isIn _ (show f < 32 by omega), Option.bind_some, decide_eq_true g1, decide_eq_true k0, sf_eq (by omega) ef, Bool.true_and, Bool.true_and, ← bound_eq h24 W hf ef g3]
    dsimp only
    rw [c_isBound h24 W, Option.bind_some]
    dsimp only
    by_cases q1 : B.1 46 f = B.1 46 (sfM B p)
    · rw [if_pos q1, decide_eq_true q1, Bool.true_and]
      cases bt (h.1 3 a 2) f
      · rw [if_pos (show b2i false = 0 from rfl)]
        cases anN (bnP B (nI f) (h.1 3 a 2)) (B.1 12 11).toNatClampNeg <;> rfl
      · rw [if_neg (by decide)]
        rfl
    · rw [if_neg q1, decide_eq_false q1]
      rfl
theorem u3_6 (h : mH) (a s : Nat) (x : Int32) (f : Nat) : (uI h 3 a s x).1 6 f = h.1 6 f := uI_ne (fun z => by omega)
theorem set_ne (x : Int32) {f : Nat} (hf : f < 24) : ¬ x ||| (1 <<< (nI f &&& 31)) = 0 := fun z => by
  have e := bt_add x (show f < 32 by omega) (show f < 32 by omega)
  rw [z, b_0, decide_eq_true rfl, Bool.or_true] at e
  cases e
theorem dec_nI {f f' : Nat} (hf : f < 24) (hf' : f' < 24) : decide (nI f = nI f') = decide (f = f') := by
  by_cases z : f = f'
  · rw [decide_eq_true z, decide_eq_true (by rw [z])]
  · rw [decide_eq_false z, decide_eq_false (fun y => z (inj24 hf hf' y))]
theorem anN_1 (p : Nat → Bool) (n : Nat) : anN p (n + 1) = (anN p n || p n) := rfl
theorem orI_1 (g : Nat → Int32) (n : Nat) : orI g (n + 1) = orI g n ||| g n := rfl
theorem c_join {h : mH} {a n p i f : Nat} {B : mM} {l : List (Nat → Int32)} (F : RF h n B) (C : CC h a l) (G : GS h a B n p i) (hf : f < n) (ef : B.1 60 i = nI f) (hr : p < i → B.1 46 f = B.1 46 (sfM B p)) : ∃ h', f_X3_join a (nI f) (B.1 61 i) h = some h' ∧ CC h' a l ∧ GS h' a B n p (i + 1) ∧ Fz a h h' := by
  have h24 := F.1
  have sfi : sfM B i = f := sf_eq (by omega) ef
  unfold f_X3_join f_X3_join_j34
  simp only [mLet]
  rw [if_pos (mIn_nI (show f < 24 by omega) (by omega)), nI_clamp (by omega)]
  rcases G with ⟨g1, g2⟩ | ⟨g1, g2, g3, g4, g5, g6, g7⟩
  · subst g1
    rw [if_pos g2]
    refine ⟨_, rfl, ?_, Or.inr ⟨by omega, ?_, fun f' hf' => ?_, ?_, ?_, ?_, fun q q1 q2 => ?_⟩, ?_⟩
    · exact cc_u (cc_u (cc_u (cc_u (cc_u (cc_u C (by omega) _) (by omega) _) (by omega) _) (by omega) _) (by omega) _) (by omega) _
    · simp (config := { decide := true }) only [uI3, if_true, if_false]
      exact set_ne _ (by omega)
    · simp (config := { decide := true }) only [uI3, if_true, if_false]
      rw [bt_add _ (show f < 32 by omega) (show f' < 32 by omega), g2, b_0, show p + 1 - p = 0 + 1 by omega, anN_1, Nat.add_zero, ef, dec_nI (by omega) hf']
      rfl
    · simp (config := { decide := true }) only [uI3, if_true, if_false]
      rw [(F.2.2.2 f hf).1.1, sfi]
    · simp (config := { decide := true }) only [uI3, u3_6, if_true, if_false]
      rw [(F.2.2.2 f hf).2.2.1, show p + 1 - p = 0 + 1 by omega, orI_1]
      unfold gmP
      rw [Nat.add_zero, sfi]
      rfl
    · simp (config := { decide := true }) only [uI3, u3_6, if_true, if_false]
      rw [(F.2.2.2 f hf).1.2.1, show p + 1 - p = 0 + 1 by omega, orI_1]
      unfold ptP
      rw [Nat.add_zero, sfi]
      rfl
    · have : q = p := by omega
      subst this
      exact ⟨f, hf, ef, by rw [sfi]⟩
    · exact (((((Fz.u a _ _ _).tr (Fz.u a _ _ _)).tr (Fz.u a _ _ _)).tr (Fz.u a _ _ _)).tr (Fz.u a _ _ _)).tr (Fz.u a _ _ _)
  · rw [if_neg g2]
    refine ⟨_, rfl, ?_, Or.inr ⟨by omega, ?_, fun f' hf' => ?_, ?_, ?_, ?_, fun q q1 q2 => ?_⟩, ?_⟩
    · exact cc_u (cc_u (cc_u C (by omega) _) (by omega) _) (by omega) _
    · simp (config := { decide := true }) only [uI3, if_true, if_false]
      exact set_ne _ (by omega)
    · simp (config := { decide := true }) only [uI3, if_true, if_false]
      rw [bt_add _ (show f < 32 by omega) (show f' < 32 by omega), g3 f' hf', show i + 1 - p = (i - p) + 1 by omega, anN_1, show p + (i - p) = i by omega, ef, dec_nI (by omega) hf']
    · simp (config := { decide := true }) only [uI3, if_true, if_false]
      exact g4
    · simp (config := { decide := true }) only [uI3, u3_6, if_true, if_false]
      rw [(F.2.2.2 f hf).2.2.1, show i + 1 - p = (i - p) + 1 by omega, orI_1, g5]
      unfold gmP
      rw [show p + (i - p) = i by omega, sfi]
    · simp (config := { decide := true }) only [uI3, u3_6, if_true, if_false]
      rw [(F.2.2.2 f hf).1.2.1, show i + 1 - p = (i - p) + 1 by omega, orI_1, g6]
      unfold ptP
      rw [show p + (i - p) = i by omega, sfi]
    · by_cases z : q = i
      · subst z
        exact ⟨f, hf, ef, hr g1⟩
      · exact g7 q q1 (by omega)
    · exact ((Fz.u a _ _ _).tr (Fz.u a _ _ _)).tr (Fz.u a _ _ _)
/-! ===== CODE, the class's side: an act's whole code ===== -/
def stOK (B : mM) (n P : Nat) : Prop := B.1 59 P = 3 ∨ ((B.1 59 P = 0 ∨ B.1 59 P = 1 ∨ B.1 59 P = 2) ∧ ∃ f, f < n ∧ B.1 60 P = nI f)
/-- what the class reads when it makes act a's code -/
def BR (h : mH) (B : mM) (n a s : Nat) : Prop := RF h n B ∧ RLw h n B ∧ h.1 1 0 7 = B.1 12 22 ∧ h.1 0 a 5 = nI s ∧ ∀ j, j < s → h.1 20 a j = B.1 59 (12 * a + j) ∧ h.1 21 a j = B.1 60 (12 * a + j) ∧ h.1 22 a j = B.1 61 (12 * a + j) ∧ h.1 23 a j = B.1 62 (12 * a + j)
theorem BR.z {h h' : mH} {B : mM} {n a b s : Nat} (r : BR h B n a s) (e : Fz b h h') : BR h' B n a s := by
  obtain ⟨r1, r2, r3, r4, r5⟩ := r
  refine ⟨r1.z e, r2.z e, by rw [e.1 1 0 (by omega) (by omega)]; exact r3, by rw [e.1 0 a (by omega) (by omega)]; exact r4, fun j hj => ?_⟩
  rw [e.1 20 a (by omega) (by omega), e.1 21 a (by omega) (by omega), e.1 22 a (by omega) (by omega), e.1 23 a (by omega) (by omega)]
  exact r5 j hj
theorem c_addStep {h : mH} {a n s j : Nat} {B : mM} {l : List (Nat → Int32)} (R : BR h B n a s) (hs : s ≤ 12) (hj : j < s) (ok : stOK B n (12 * a + j)) (k0 : ¬ B.1 59 (12 * a + j) = 0) (C : CC h a l) (hl : l.length + 2 ≤ 48) : ∃ h', f_X3_addStep a a (nI j) h = some h' ∧ CC h' a (l ++ stB B (12 * a + j)) ∧ Fk a h h' := by
  obtain ⟨F, W, h7, r4, r5⟩ := R
  have h24 := F.1
  obtain ⟨s1, s2, s3, s4⟩ := r5 j hj
  unfold f_X3_addStep stB
  rw [if_pos (mIn_nI (show j < 12 by omega) (by omega)), nI_clamp (by omega), s1, s2, s3]
  rcases ok with k3 | ⟨kk, f, hf, ef⟩
  · rw [if_pos k3, k3, if_neg (by decide), if_neg (by decide)]
    obtain ⟨h1, e1, C1, F1⟩ := c_add C (by omega) 3 (B.1 61 (12 * a + j)) (-2) (-2) (-2) (-2)
    rw [e1, Option.bind_some]
    exact ⟨h1, rfl, C1, F1⟩
  · have kk := kk.resolve_left k0
    have n3 : ¬ B.1 59 (12 * a + j) = 3 := fun z => by rw [z] at kk; rcases kk with y | y <;> exact absurd y (by decide)
    have e1 : f_X1_hasField (nI f) h = some (1, h) := by
      unfold f_X1_hasField
      rw [if_neg (nI_pos (by omega)), F.2.2.1, if_pos (nI_lt hf (by omega))]
    rw [if_neg n3, ef, e1, Option.bind_some, if_neg (show ¬ (1 : Int32) = 0 by decide), if_pos (mIn_nI (show f < 24 by omega) (by omega)), nI_clamp (n := f) (by omega), sf_eq (by omega) ef]
    dsimp only
    rw [s1, (F.2.2.2 f hf).1.1, (F.2.2.2 f hf).1.2.1, (F.2.2.2 f hf).2.2.1, s4]
    rcases kk with k1 | k2
    · rw [if_pos k1, if_pos k1]
      obtain ⟨h1, e1, C1, F1⟩ := c_add C (by omega) 2 (B.1 46 f) (-2) (mskM B f) (B.1 61 (12 * a + j) <<< (B.1 47 f &&& 31)) (B.1 62 (12 * a + j))
      rw [e1, Option.bind_some]
      exact ⟨h1, rfl, C1, F1⟩
    · rw [k2, if_neg (by decide), if_neg (by decide), if_pos rfl]
      obtain ⟨h1, e1, C1, F1⟩ := c_add C (by omega) 0 (B.1 46 f) (-2) (-2) (-2) (-2)
      obtain ⟨h2, e2, C2, F2⟩ := c_add C1 (by rw [List.length_append]; show _ + 1 < 48; omega) 4 (nI f) (-2) (-2) (-2) (-2)
      rw [e1, Option.bind_some, e2, Option.bind_some]
      refine ⟨h2, rfl, ?_, F1.tr F2⟩
      rw [List.append_assoc] at C2
      exact C2
theorem opG_len (B : mM) (p i : Nat) : (opG B p i).length ≤ (if p < i then 4 else 0) := by
  unfold opG
  split
  · exact (grB_len B p i).2
  · exact Nat.le_refl _
theorem c_mk12 {a n s : Nat} {B : mM} (hs : s ≤ 12) (dj : djM n B) (hreg : ∀ f, f < n → ∃ r, r < 8 ∧ B.1 46 f = nI r) (hh : ∀ f, f < n → B.1 53 f = -1 ∨ ¬ B.1 53 f < 0) (ok : ∀ j, j < s → stOK B n (12 * a + j)) : ∀ d j, j + d = s → ∀ h p l, BR h B n a s → 12 * a ≤ p → p ≤ 12 * a + j → GS h a B n p (12 * a + j) → CC h a l → l.length ≤ 4 * (p - 12 * a) → ∀ m, d < m → ∃ h', f_X3_makeFrom_12 (fun _ h13 => (f_X3_endGroup a h13).bind fun r14 => some r14) a a m (nI j) h = some h' ∧ CC h' a (l ++ cdS B d p (12 * a + j)) ∧ Fz a h h' := by
  intro d
  induction d with
  | zero =>
    intro j hj h p l R hp hpj G C hl m hm
    cases m with
    | zero => omega
    | succ m =>
      obtain ⟨h1, e1, C1, z1, F1⟩ := c_endGroup R.1 dj hreg hh R.2.2.1 C (fun z => by omega) G
      refine ⟨h1, ?_, C1, F1⟩
      rw [f_X3_makeFrom_12, R.2.2.2.1, if_neg (nI_nlt (by omega) (by omega)), e1, Option.bind_some]
  | succ d ih =>
    intro j hj h p l R hp hpj G C hl m hm
    cases m with
    | zero => omega
    | succ m =>
      have hjs : j < s := by omega
      obtain ⟨s1, s2, s3, s4⟩ := R.2.2.2.2 j hjs
      have h24 := R.1.1
      have lo := opG_len B p (12 * a + j)
      have lo2 : (l ++ opG B p (12 * a + j)).length ≤ 4 * (12 * a + j - 12 * a) := by
        rw [List.length_append]
        by_cases z : p < 12 * a + j
        · rw [if_pos z] at lo
          omega
        · rw [if_neg z] at lo
          omega
      rw [f_X3_makeFrom_12, R.2.2.2.1, if_pos (nI_lt hjs (by omega)), if_pos (mIn_nI (show j < 12 by omega) (by omega)), nI_clamp (by omega), s1, s2, ← nI_succ]
      by_cases k0 : B.1 59 (12 * a + j) = 0
      · have okj := ok j hjs
        obtain ⟨f, hf, ef⟩ : ∃ f, f < n ∧ B.1 60 (12 * a + j) = nI f := by
          rcases okj with z | z
          · rw [k0] at z
            exact absurd z (by decide)
          · exact z.2
        rw [if_pos k0, ef, c_joins R.1 R.2.1 G k0 hf ef, Option.bind_some]
        dsimp only
        rw [s2, s3, ef]
        cases hq : (decide (p < 12 * a + j) && joM B p (12 * a + j))
        · rw [if_pos (show b2i false = 0 from rfl)]
          obtain ⟨h1, e1, C1, z1, F1⟩ := c_endGroup R.1 dj hreg hh R.2.2.1 C (fun z => by omega) G
          have R1 := R.z F1
          obtain ⟨t1, t2, t3, t4⟩ := R1.2.2.2.2 j hjs
          obtain ⟨h2, e2, C2, G2, F2⟩ := c_join R1.1 C1 (p := 12 * a + j) (i := 12 * a + j) (Or.inl ⟨rfl, z1⟩) hf ef (fun z => absurd z (by omega))
          obtain ⟨h3, e3, C3, F3⟩ := ih (j + 1) (by omega) h2 (12 * a + j) _ (R1.z F2) (by omega) (by omega) G2 C2 lo2 m (by omega)
          rw [e1, Option.bind_some, t2, t3, ef, e2, Option.bind_some]
          refine ⟨h3, e3, ?_, (F1.tr F2).tr F3⟩
          rw [List.append_assoc] at C3
          unfold cdS
          rw [hq, if_neg (by decide), if_pos k0]
          exact C3
        · rw [if_neg (by decide)]
          rw [Bool.and_eq_true] at hq
          have hr : B.1 46 f = B.1 46 (sfM B p) := by
            have z := hq.2
            unfold joM at z
            rw [Bool.and_eq_true, Bool.and_eq_true, sf_eq (by omega) ef] at z
            exact of_decide_eq_true z.1.2
          obtain ⟨h2, e2, C2, G2, F2⟩ := c_join R.1 C G hf ef (fun _ => hr)
          obtain ⟨h3, e3, C3, F3⟩ := ih (j + 1) (by omega) h2 p l (R.z F2) hp (by omega) G2 C2 hl m (by omega)
          rw [e2, Option.bind_some]
          refine ⟨h3, e3, ?_, F2.tr F3⟩
          unfold cdS
          rw [if_pos (by rw [Bool.and_eq_true]; exact hq)]
          exact C3
      · rw [if_neg k0]
        obtain ⟨h1, e1, C1, z1, F1⟩ := c_endGroup R.1 dj hreg hh R.2.2.1 C (fun z => by omega) G
        have R1 := R.z F1
        obtain ⟨h2, e2, C2, F2⟩ := c_addStep R1 hs hjs (ok j hjs) k0 C1 (by omega)
        have sl := (stB_len B (12 * a + j)).2
        obtain ⟨h3, e3, C3, F3⟩ := ih (j + 1) (by omega) h2 (12 * a + j + 1) _ (R1.z F2.z) (by omega) (by omega) (Or.inl ⟨rfl, by rw [F2.2.1 2 (by omega)]; exact z1⟩) C2 (by rw [List.length_append]; omega) m (by omega)
        rw [e1, Option.bind_some, e2, Option.bind_some]
        refine ⟨h3, e3, ?_, (F1.tr F2.z).tr F3⟩
        rw [List.append_assoc, List.append_assoc] at C3
        unfold cdS
        rw [if_neg (fun z => by
          rw [Bool.and_eq_true] at z
          have y := z.2
          unfold joM at y
          rw [Bool.and_eq_true, Bool.and_eq_true] at y
          exact k0 (of_decide_eq_true y.1.1)), if_neg k0]
        exact C3
theorem c_makeFrom {a n s : Nat} {B : mM} {h : mH} (hs : s ≤ 12) (hs0 : B.1 58 a = nI s) (dj : djM n B) (hreg : ∀ f, f < n → ∃ r, r < 8 ∧ B.1 46 f = nI r) (hh : ∀ f, f < n → B.1 53 f = -1 ∨ ¬ B.1 53 f < 0) (ok : ∀ j, j < s → stOK B n (12 * a + j)) (R : BR h B n a s) : ∃ h', f_X3_makeFrom a a h = some h' ∧ CC h' a (cdM B a) ∧ Fz a h h' := by
  have F0 : Fz a h (uI (uI h 3 a 1 0) 3 a 2 0) := (Fz.u a _ _ _).tr (Fz.u a _ _ _)
  have C0 : CC (uI (uI h 3 a 1 0) 3 a 2 0) a [] := ⟨by simp, by rw [uI3, if_neg (by omega), uI3, if_pos rfl]; rfl, fun i w hi => absurd hi (Nat.not_lt_zero i)⟩
  obtain ⟨h1, e1, C1, F1⟩ := c_mk12 hs dj hreg hh ok s 0 (by omega) _ (12 * a) [] (R.z F0) (by omega) (by omega) (Or.inl ⟨rfl, by rw [uI3, if_pos rfl]⟩) C0 (by simp) mFu (mFu_lt (by omega))
  have e2 : f_X3_makeFrom a a h = some h1 := by
    rw [nI_0] at e1
    unfold f_X3_makeFrom
    simp only [mLet]
    exact e1
  refine ⟨h1, e2, ?_, F0.tr F1⟩
  unfold cdM
  rw [hs0, nI_clamp (by omega)]
  exact C1
/-! ===== CODE, the class's side: all acts' code ===== -/
def AB (h : mH) (B : mM) (n na : Nat) : Prop := ∀ a, a < na → ∃ s, s ≤ 12 ∧ B.1 58 a = nI s ∧ BR h B n a s ∧ ∀ j, j < s → stOK B n (12 * a + j)
/-- only code has changed -/
def Fw (h h' : mH) : Prop := (∀ t i, t ≠ 3 → t ≠ 32 → h'.1 t i = h.1 t i) ∧ h'.2 = h.2
theorem Fz.w {a : Nat} {h h' : mH} (f : Fz a h h') : Fw h h' := ⟨fun t i p q => f.1 t i (by omega) (by omega), f.2⟩
theorem Fw.tr {a b c : mH} (h1 : Fw a b) (h2 : Fw b c) : Fw a c := ⟨fun t i p q => (h2.1 t i p q).trans (h1.1 t i p q), h2.2.trans h1.2⟩
theorem AB.z {h h' : mH} {B : mM} {n na b : Nat} (r : AB h B n na) (e : Fz b h h') : AB h' B n na := fun a ha => by
  obtain ⟨s, s1, s2, s3, s4⟩ := r a ha
  exact ⟨s, s1, s2, s3.z e, s4⟩
theorem c_mc10 {n na : Nat} {B : mM} (h6 : na ≤ 6) (dj : djM n B) (hreg : ∀ f, f < n → ∃ r, r < 8 ∧ B.1 46 f = nI r) (hh : ∀ f, f < n → B.1 53 f = -1 ∨ ¬ B.1 53 f < 0) (k : Int32 → mH → Option mH) : ∀ d a, a + d = na → ∀ h, h.1 1 0 6 = nI na → AB h B n na → (∀ b, b < a → CC h b (cdM B b)) → ∀ m, d < m → ∃ h', f_X1_makeCode_10 k m (nI a) h = k (nI na) h' ∧ (∀ b, b < na → CC h' b (cdM B b)) ∧ Fw h h' := by
  intro d
  induction d with
  | zero =>
    intro a ha h e6 A C m hm
    cases m with
    | zero => omega
    | succ m =>
      have e : a = na := by omega
      subst e
      refine ⟨h, ?_, C, ⟨fun _ _ _ _ => rfl, rfl⟩⟩
      rw [f_X1_makeCode_10, e6, if_neg (nI_nlt (Nat.le_refl _) (by omega))]
  | succ d ih =>
    intro a ha h e6 A C m hm
    cases m with
    | zero => omega
    | succ m =>
      obtain ⟨s, s1, s2, s3, s4⟩ := A a (by omega)
      obtain ⟨h1, e1, C1, F1⟩ := c_makeFrom s1 s2 dj hreg hh s4 s3
      obtain ⟨h2, e2, C2, F2⟩ := ih (a + 1) (by omega) h1 (by rw [F1.1 1 0 (by omega) (by omega)]; exact e6) (A.z F1) (fun b hb => by
        by_cases z : b = a
        · subst z
          exact C1
        · exact (C b (by omega)).to (F1.1 3 b (by omega) (by omega)) (F1.1 32 b (by omega) (by omega))) m (by omega)
      refine ⟨h2, ?_, C2, F1.w.tr F2⟩
      rw [f_X1_makeCode_10, e6, if_pos (nI_lt (by omega) (by omega)), if_pos (mIn_nI (show a < 6 by omega) (by omega)), nI_clamp (by omega), e1, Option.bind_some, ← nI_succ]
      exact e2
/-- code that is made, if the book says so, is that of the book -/
def codeOK (h : mH) (B : mM) (na : Nat) : Prop := h.1 1 0 9 = 0 ∨ ∀ b, b < na → CC h b (cdM B b)
theorem c_makeCode {n na : Nat} {B : mM} {h : mH} (h6 : na ≤ 6) (dj : djM n B) (hreg : ∀ f, f < n → ∃ r, r < 8 ∧ B.1 46 f = nI r) (hh : ∀ f, f < n → B.1 53 f = -1 ∨ ¬ B.1 53 f < 0) (e6 : h.1 1 0 6 = nI na) (A : AB h B n na) (ok : codeOK h B na) : ∃ h', f_X1_makeCode h = some h' ∧ AL h' B na ∧ (∀ t i, t ≠ 3 → t ≠ 32 → t ≠ 1 → h'.1 t i = h.1 t i) ∧ (∀ s, s ≠ 9 → h'.1 1 0 s = h.1 1 0 s) ∧ h'.2 = h.2 := by
  unfold f_X1_makeCode
  by_cases q : h.1 1 0 9 = 0
  · rw [if_pos q]
    obtain ⟨h1, e1, C1, F1⟩ := c_mc10 h6 dj hreg hh (fun _ h6 => some (uI h6 1 0 9 1)) na 0 (by omega) h e6 A (fun b hb => absurd hb (Nat.not_lt_zero b)) mFu (mFu_lt (by omega))
    rw [nI_0] at e1
    refine ⟨uI h1 1 0 9 1, e1, ⟨h6, ?_, fun b hb => ?_⟩, fun t i p1 p2 p3 => ?_, fun s hs => ?_, F1.2⟩
    · rw [uI3, if_neg (by omega), F1.1 1 0 (by omega) (by omega)]
      exact e6
    · exact (C1 b hb).to (uI_ne (fun z => by omega)) (uI_ne (fun z => by omega))
    · rw [uI_ne (fun z => p3 z.1)]
      exact F1.1 t i p1 p2
    · rw [uI3, if_neg hs, F1.1 1 0 (by omega) (by omega)]
  · rw [if_neg q]
    exact ⟨h, rfl, ⟨h6, e6, ok.resolve_left q⟩, fun _ _ _ _ _ => rfl, fun _ _ => rfl, rfl⟩
