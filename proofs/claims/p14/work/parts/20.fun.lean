-- DriverBook$Act.append(IIII)I
def f_X0_append (i0 : Nat) (x1 : Int32) (x2 : Int32) (x3 : Int32) (x4 : Int32) (h : mH) : Option (Int32 × mH) :=
  if mIn (h.1 0 i0 5) 12 = true then
  mLet (uI h 20 i0 (h.1 0 i0 5).toNatClampNeg x1) fun h2 =>
  if mIn (h2.1 0 i0 5) 12 = true then
  mLet (uI h2 21 i0 (h2.1 0 i0 5).toNatClampNeg x2) fun h4 =>
  if mIn (h4.1 0 i0 5) 12 = true then
  mLet (uI h4 22 i0 (h4.1 0 i0 5).toNatClampNeg x3) fun h6 =>
  if mIn (h6.1 0 i0 5) 12 = true then
  mLet (uI h6 23 i0 (h6.1 0 i0 5).toNatClampNeg x4) fun h8 =>
  mLet (uI h8 0 i0 5 ((h8.1 0 i0 5) + 1)) fun h9 =>
  some (h9.1 0 i0 5, h9)
  else none
  else none
  else none
  else none
set_option maxRecDepth 20000 in
theorem sf_X0_append (G : mG) (X : mX) (i0 : Nat) (x1 : Int32) (x2 : Int32) (x3 : Int32) (x4 : Int32)  (h : mH) : Sim G X cX0_append 5 RX0 (some .int) (mRoom 0 0) eI (f_X0_append i0 x1 x2 x3 x4 h) 0 [(0, .inr (.inr (0, i0))), (1, .inl x1), (2, .inl x2), (3, .inl x3), (4, .inl x4)] [] h := by
  unfold f_X0_append
  refine s_aload0 0 rfl dX0_append_0 ?_
  refine s_gr (gR_RX0_9 i0) dX0_append_1 ?_
  refine s_aload0 0 rfl dX0_append_4 ?_
  refine s_gi gI_RX0_31 dX0_append_5 ?_
  refine s_iload1 1 rfl dX0_append_8 ?_
  refine s_chk (fun q1 => ?_)
  refine s_ias aT_20 q1 dX0_append_9 ?_
  refine s_aload0 0 rfl dX0_append_10 ?_
  refine s_gr (gR_RX0_15 i0) dX0_append_11 ?_
  refine s_aload0 0 rfl dX0_append_14 ?_
  refine s_let (fun h2 => ?_)
  refine s_gi gI_RX0_31 dX0_append_15 ?_
  refine s_iload2 2 rfl dX0_append_18 ?_
  refine s_chk (fun q3 => ?_)
  refine s_ias aT_21 q3 dX0_append_19 ?_
  refine s_aload0 0 rfl dX0_append_20 ?_
  refine s_gr (gR_RX0_18 i0) dX0_append_21 ?_
  refine s_aload0 0 rfl dX0_append_24 ?_
  refine s_let (fun h4 => ?_)
  refine s_gi gI_RX0_31 dX0_append_25 ?_
  refine s_iload3 3 rfl dX0_append_28 ?_
  refine s_chk (fun q5 => ?_)
  refine s_ias aT_22 q5 dX0_append_29 ?_
  refine s_aload0 0 rfl dX0_append_30 ?_
  refine s_gr (gR_RX0_21 i0) dX0_append_31 ?_
  refine s_aload0 0 rfl dX0_append_34 ?_
  refine s_let (fun h6 => ?_)
  refine s_gi gI_RX0_31 dX0_append_35 ?_
  refine s_iload 4 rfl dX0_append_38 ?_
  refine s_chk (fun q7 => ?_)
  refine s_ias aT_23 q7 dX0_append_40 ?_
  refine s_aload0 0 rfl dX0_append_41 ?_
  refine s_dup rfl dX0_append_42 ?_
  refine s_let (fun h8 => ?_)
  refine s_gi gI_RX0_31 dX0_append_43 ?_
  refine s_k1 dX0_append_46 ?_
  refine s_iadd dX0_append_47 ?_
  refine s_pi pI_RX0_31 dX0_append_48 ?_
  refine s_aload0 0 rfl dX0_append_51 ?_
  refine s_let (fun h9 => ?_)
  refine s_gi gI_RX0_31 dX0_append_52 ?_
  exact s_ireturn rfl rfl dX0_append_55
set_option maxRecDepth 20000 in
theorem cf_X0_append (G : mG) (l : Launch) (i0 : Nat) (x1 : Int32) (x2 : Int32) (x3 : Int32) (x4 : Int32)  (h : mH) (b : Int32 × mH) (hb : f_X0_append i0 x1 x2 x3 x4 h = some b) (hl : ∀ v ∈ ([.inr (.inr (0, i0)), .inl x1, .inl x2, .inl x3, .inl x4] : List mV), mLi v) : mMet G l yX0_append cX0_append 5 (some .int) (mRoom 0 0) [.inr (.inr (0, i0)), .inl x1, .inl x2, .inl x3, .inl x4] h (eI b) :=
  mMet.of (y := yX0_append) (as := [.inr (.inr (0, i0)), .inl x1, .inl x2, .inl x3, .inl x4]) (by decide +kernel) (Nat.le_of_ble_eq_true rfl) (fun X => sf_X0_append G X i0 x1 x2 x3 x4  h) hl b hb
-- DriverBook$Act.lastSet(I)I
def f_X0_lastSet_7 (k : Int32 → Int32 → mH → Option (Int32 × mH)) (j0 : Nat) : Nat → Int32 → Int32 → mH → Option (Int32 × mH)
  | 0, _, _, _ => none
  | n + 1, v1, v2, h =>
    if v2 < 0 then
      k v1 v2 h
    else
      if mIn v2 12 = true then
      if (h.1 20 j0 v2.toNatClampNeg) = 0 then
        if (h.1 21 j0 v2.toNatClampNeg) = v1 then
          some (h.1 22 j0 v2.toNatClampNeg, h)
        else
          f_X0_lastSet_7 k j0 n v1 (v2 + (-1)) h
      else
        f_X0_lastSet_7 k j0 n v1 (v2 + (-1)) h
      else none
def f_X0_lastSet (i0 : Nat) (x1 : Int32) (h : mH) : Option (Int32 × mH) :=
  f_X0_lastSet_7 (fun u5 u6 h7 =>
    some ((-1), h7)) i0 mFu x1 ((h.1 0 i0 5) - 1) h
set_option maxRecDepth 20000 in
theorem sf_X0_lastSet_7 (G : mG) (X : mX) (j0 : Nat)  (k : Int32 → Int32 → mH → Option (Int32 × mH)) (hk : ∀ (v1 : Int32) (v2 : Int32) (h : mH), Sim G X cX0_lastSet 3 RX0 (some .int) (mRoom 0 0) eI (k v1 v2 h) 43 [(0, .inr (.inr (0, j0))), (1, .inl v1), (2, .inl v2)] [] h) (n : Nat) : ∀ (v1 : Int32) (v2 : Int32) (h : mH), Sim G X cX0_lastSet 3 RX0 (some .int) (mRoom 0 0) eI (f_X0_lastSet_7 k j0 n v1 v2 h) 7 [(0, .inr (.inr (0, j0))), (1, .inl v1), (2, .inl v2)] [] h := by
  induction n with
  | zero =>
    intro v1 v2 h
    exact s_none
  | succ n ih =>
    intro v1 v2 h
    unfold f_X0_lastSet_7
    refine s_iload2 2 rfl dX0_lastSet_7 ?_
    refine s_if_lt (tgt := 43) dX0_lastSet_8 (by decide) (fun q1 => ?_) (fun q1 => ?_)
    · skip
      exact s_loc [0, 1, 2] rfl (hk v1 v2 h)
    · skip
      refine s_aload0 0 rfl dX0_lastSet_11 ?_
      refine s_gr (gR_RX0_9 j0) dX0_lastSet_12 ?_
      refine s_iload2 2 rfl dX0_lastSet_15 ?_
      refine s_chk (fun q2 => ?_)
      refine s_ial aT_20 q2 dX0_lastSet_16 ?_
      refine s_if_ne (tgt := 37) dX0_lastSet_17 (by decide) (fun q3 => ?_) (fun q3 => ?_)
      · skip
        refine s_iincw (-1) (by decide) 2 [(2, .inl (v2 + (-1))), (0, .inr (.inr (0, j0))), (1, .inl v1)] rfl rfl rfl dX0_lastSet_37 ?_
        refine s_goto (tgt := 7) dX0_lastSet_40 (by decide) ?_
        exact s_loc [1, 2, 0] rfl (ih v1 (v2 + (-1)) h)
      · skip
        refine s_aload0 0 rfl dX0_lastSet_20 ?_
        refine s_gr (gR_RX0_15 j0) dX0_lastSet_21 ?_
        refine s_iload2 2 rfl dX0_lastSet_24 ?_
        refine s_ial aT_21 q2 dX0_lastSet_25 ?_
        refine s_iload1 1 rfl dX0_lastSet_26 ?_
        refine s_ic_ne (tgt := 37) dX0_lastSet_27 (by decide) (fun q4 => ?_) (fun q4 => ?_)
        · skip
          refine s_iincw (-1) (by decide) 2 [(2, .inl (v2 + (-1))), (0, .inr (.inr (0, j0))), (1, .inl v1)] rfl rfl rfl dX0_lastSet_37 ?_
          refine s_goto (tgt := 7) dX0_lastSet_40 (by decide) ?_
          exact s_loc [1, 2, 0] rfl (ih v1 (v2 + (-1)) h)
        · skip
          refine s_aload0 0 rfl dX0_lastSet_30 ?_
          refine s_gr (gR_RX0_18 j0) dX0_lastSet_31 ?_
          refine s_iload2 2 rfl dX0_lastSet_34 ?_
          refine s_ial aT_22 q2 dX0_lastSet_35 ?_
          exact s_ireturn rfl rfl dX0_lastSet_36
set_option maxRecDepth 20000 in
theorem sf_X0_lastSet (G : mG) (X : mX) (i0 : Nat) (x1 : Int32)  (h : mH) : Sim G X cX0_lastSet 3 RX0 (some .int) (mRoom 0 0) eI (f_X0_lastSet i0 x1 h) 0 [(0, .inr (.inr (0, i0))), (1, .inl x1)] [] h := by
  unfold f_X0_lastSet
  refine s_aload0 0 rfl dX0_lastSet_0 ?_
  refine s_gi gI_RX0_31 dX0_lastSet_1 ?_
  refine s_k1 dX0_lastSet_4 ?_
  refine s_isub dX0_lastSet_5 ?_
  refine s_istore2 [(2, .inl ((h.1 0 i0 5) - 1)), (0, .inr (.inr (0, i0))), (1, .inl x1)] rfl rfl dX0_lastSet_6 ?_
  refine s_loc [1, 2, 0] rfl ?_
  refine sf_X0_lastSet_7 G X i0 _ (fun u5 u6 h7 => ?_) mFu x1 ((h.1 0 i0 5) - 1) h
  · skip
    refine s_km1 dX0_lastSet_43 ?_
    exact s_ireturn rfl rfl dX0_lastSet_44
set_option maxRecDepth 20000 in
theorem cf_X0_lastSet (G : mG) (l : Launch) (i0 : Nat) (x1 : Int32)  (h : mH) (b : Int32 × mH) (hb : f_X0_lastSet i0 x1 h = some b) (hl : ∀ v ∈ ([.inr (.inr (0, i0)), .inl x1] : List mV), mLi v) : mMet G l yX0_lastSet cX0_lastSet 3 (some .int) (mRoom 0 0) [.inr (.inr (0, i0)), .inl x1] h (eI b) :=
  mMet.of (y := yX0_lastSet) (as := [.inr (.inr (0, i0)), .inl x1]) (by decide +kernel) (Nat.le_of_ble_eq_true rfl) (fun X => sf_X0_lastSet G X i0 x1  h) hl b hb
-- DriverBook$Book.startAnew(I)V
def f_X1_startAnew (x1 : Int32) (h : mH) : Option (mH) :=
  mLet (uI h 1 0 3 x1) fun h1 =>
  mLet (uI h1 1 0 4 0) fun h2 =>
  mLet (uI h2 1 0 5 0) fun h3 =>
  mLet (uI h3 1 0 6 0) fun h4 =>
  mLet (uI h4 1 0 7 1) fun h5 =>
  mLet (uI h5 1 0 8 ((h5.1 1 0 8) + 1)) fun h6 =>
  some (uI h6 1 0 9 0)
set_option maxRecDepth 20000 in
theorem sf_X1_startAnew (G : mG) (X : mX) (x1 : Int32)  (h : mH) : Sim G X cX1_startAnew 2 RX1 none (mRoom 0 0) eV (f_X1_startAnew x1 h) 0 [(0, .inr (.inr (1, 0))), (1, .inl x1)] [] h := by
  unfold f_X1_startAnew
  refine s_aload0 0 rfl dX1_startAnew_0 ?_
  refine s_iload1 1 rfl dX1_startAnew_1 ?_
  refine s_pi pI_RX1_29 dX1_startAnew_2 ?_
  refine s_aload0 0 rfl dX1_startAnew_5 ?_
  refine s_k0 dX1_startAnew_6 ?_
  refine s_let (fun h1 => ?_)
  refine s_pi pI_RX1_33 dX1_startAnew_7 ?_
  refine s_aload0 0 rfl dX1_startAnew_10 ?_
  refine s_k0 dX1_startAnew_11 ?_
  refine s_let (fun h2 => ?_)
  refine s_pi pI_RX1_36 dX1_startAnew_12 ?_
  refine s_aload0 0 rfl dX1_startAnew_15 ?_
  refine s_k0 dX1_startAnew_16 ?_
  refine s_let (fun h3 => ?_)
  refine s_pi pI_RX1_39 dX1_startAnew_17 ?_
  refine s_aload0 0 rfl dX1_startAnew_20 ?_
  refine s_k1 dX1_startAnew_21 ?_
  refine s_let (fun h4 => ?_)
  refine s_pi pI_RX1_42 dX1_startAnew_22 ?_
  refine s_aload0 0 rfl dX1_startAnew_25 ?_
  refine s_dup rfl dX1_startAnew_26 ?_
  refine s_let (fun h5 => ?_)
  refine s_gi gI_RX1_45 dX1_startAnew_27 ?_
  refine s_k1 dX1_startAnew_30 ?_
  refine s_iadd dX1_startAnew_31 ?_
  refine s_pi pI_RX1_45 dX1_startAnew_32 ?_
  refine s_aload0 0 rfl dX1_startAnew_35 ?_
  refine s_k0 dX1_startAnew_36 ?_
  refine s_let (fun h6 => ?_)
  refine s_pz pI_RX1_48 (Or.inl rfl) dX1_startAnew_37 ?_
  exact s_return rfl rfl dX1_startAnew_40
set_option maxRecDepth 20000 in
theorem cf_X1_startAnew (G : mG) (l : Launch) (x1 : Int32)  (h : mH) (b : mH) (hb : f_X1_startAnew x1 h = some b) (hl : ∀ v ∈ ([.inr (.inr (1, 0)), .inl x1] : List mV), mLi v) : mMet G l yX1_startAnew cX1_startAnew 2 none (mRoom 0 0) [.inr (.inr (1, 0)), .inl x1] h (eV b) :=
  mMet.of (y := yX1_startAnew) (as := [.inr (.inr (1, 0)), .inl x1]) (by decide +kernel) (Nat.le_of_ble_eq_true rfl) (fun X => sf_X1_startAnew G X x1  h) hl b hb
-- DriverBook$Book.hasRegister(I)Z
def f_X1_hasRegister (x1 : Int32) (h : mH) : Option (Int32 × mH) :=
  if x1 < 0 then
    some (0, h)
  else
    if x1 < (h.1 1 0 3) then
      some (1, h)
    else
      some (0, h)
set_option maxRecDepth 20000 in
theorem sf_X1_hasRegister (G : mG) (X : mX) (x1 : Int32)  (h : mH) : Sim G X cX1_hasRegister 2 RX1 (some .boolean) (mRoom 0 0) eI (f_X1_hasRegister x1 h) 0 [(0, .inr (.inr (1, 0))), (1, .inl x1)] [] h := by
  unfold f_X1_hasRegister
  refine s_iload1 1 rfl dX1_hasRegister_0 ?_
  refine s_if_lt (tgt := 16) dX1_hasRegister_1 (by decide) (fun q1 => ?_) (fun q1 => ?_)
  · skip
    refine s_k0 dX1_hasRegister_16 ?_
    exact s_zreturn rfl rfl (Or.inl rfl) dX1_hasRegister_17
  · skip
    refine s_iload1 1 rfl dX1_hasRegister_4 ?_
    refine s_aload0 0 rfl dX1_hasRegister_5 ?_
    refine s_gi gI_RX1_29 dX1_hasRegister_6 ?_
    refine s_ic_ge (tgt := 16) dX1_hasRegister_9 (by decide) (fun q2 => ?_) (fun q2 => ?_)
    · skip
      refine s_k0 dX1_hasRegister_16 ?_
      exact s_zreturn rfl rfl (Or.inl rfl) dX1_hasRegister_17
    · skip
      refine s_k1 dX1_hasRegister_12 ?_
      refine s_goto (tgt := 17) dX1_hasRegister_13 (by decide) ?_
      exact s_zreturn rfl rfl (Or.inr rfl) dX1_hasRegister_17
set_option maxRecDepth 20000 in
theorem cf_X1_hasRegister (G : mG) (l : Launch) (x1 : Int32)  (h : mH) (b : Int32 × mH) (hb : f_X1_hasRegister x1 h = some b) (hl : ∀ v ∈ ([.inr (.inr (1, 0)), .inl x1] : List mV), mLi v) : mMet G l yX1_hasRegister cX1_hasRegister 2 (some .boolean) (mRoom 0 0) [.inr (.inr (1, 0)), .inl x1] h (eI b) :=
  mMet.of (y := yX1_hasRegister) (as := [.inr (.inr (1, 0)), .inl x1]) (by decide +kernel) (Nat.le_of_ble_eq_true rfl) (fun X => sf_X1_hasRegister G X x1  h) hl b hb
-- DriverBook$Book.hasField(I)Z
def f_X1_hasField (x1 : Int32) (h : mH) : Option (Int32 × mH) :=
  if x1 < 0 then
    some (0, h)
  else
    if x1 < (h.1 1 0 4) then
      some (1, h)
    else
      some (0, h)
set_option maxRecDepth 20000 in
theorem sf_X1_hasField (G : mG) (X : mX) (x1 : Int32)  (h : mH) : Sim G X cX1_hasField 2 RX1 (some .boolean) (mRoom 0 0) eI (f_X1_hasField x1 h) 0 [(0, .inr (.inr (1, 0))), (1, .inl x1)] [] h := by
  unfold f_X1_hasField
  refine s_iload1 1 rfl dX1_hasField_0 ?_
  refine s_if_lt (tgt := 16) dX1_hasField_1 (by decide) (fun q1 => ?_) (fun q1 => ?_)
  · skip
    refine s_k0 dX1_hasField_16 ?_
    exact s_zreturn rfl rfl (Or.inl rfl) dX1_hasField_17
  · skip
    refine s_iload1 1 rfl dX1_hasField_4 ?_
    refine s_aload0 0 rfl dX1_hasField_5 ?_
    refine s_gi gI_RX1_33 dX1_hasField_6 ?_
    refine s_ic_ge (tgt := 16) dX1_hasField_9 (by decide) (fun q2 => ?_) (fun q2 => ?_)
    · skip
      refine s_k0 dX1_hasField_16 ?_
      exact s_zreturn rfl rfl (Or.inl rfl) dX1_hasField_17
    · skip
      refine s_k1 dX1_hasField_12 ?_
      refine s_goto (tgt := 17) dX1_hasField_13 (by decide) ?_
      exact s_zreturn rfl rfl (Or.inr rfl) dX1_hasField_17
set_option maxRecDepth 20000 in
theorem cf_X1_hasField (G : mG) (l : Launch) (x1 : Int32)  (h : mH) (b : Int32 × mH) (hb : f_X1_hasField x1 h = some b) (hl : ∀ v ∈ ([.inr (.inr (1, 0)), .inl x1] : List mV), mLi v) : mMet G l yX1_hasField cX1_hasField 2 (some .boolean) (mRoom 0 0) [.inr (.inr (1, 0)), .inl x1] h (eI b) :=
  mMet.of (y := yX1_hasField) (as := [.inr (.inr (1, 0)), .inl x1]) (by decide +kernel) (Nat.le_of_ble_eq_true rfl) (fun X => sf_X1_hasField G X x1  h) hl b hb
-- DriverBook$Book.hasAct(I)Z
def f_X1_hasAct (x1 : Int32) (h : mH) : Option (Int32 × mH) :=
  if x1 < 0 then
    some (0, h)
  else
    if x1 < (h.1 1 0 6) then
      some (1, h)
    else
      some (0, h)
set_option maxRecDepth 20000 in
theorem sf_X1_hasAct (G : mG) (X : mX) (x1 : Int32)  (h : mH) : Sim G X cX1_hasAct 2 RX1 (some .boolean) (mRoom 0 0) eI (f_X1_hasAct x1 h) 0 [(0, .inr (.inr (1, 0))), (1, .inl x1)] [] h := by
  unfold f_X1_hasAct
  refine s_iload1 1 rfl dX1_hasAct_0 ?_
  refine s_if_lt (tgt := 16) dX1_hasAct_1 (by decide) (fun q1 => ?_) (fun q1 => ?_)
  · skip
    refine s_k0 dX1_hasAct_16 ?_
    exact s_zreturn rfl rfl (Or.inl rfl) dX1_hasAct_17
  · skip
    refine s_iload1 1 rfl dX1_hasAct_4 ?_
    refine s_aload0 0 rfl dX1_hasAct_5 ?_
    refine s_gi gI_RX1_39 dX1_hasAct_6 ?_
    refine s_ic_ge (tgt := 16) dX1_hasAct_9 (by decide) (fun q2 => ?_) (fun q2 => ?_)
    · skip
      refine s_k0 dX1_hasAct_16 ?_
      exact s_zreturn rfl rfl (Or.inl rfl) dX1_hasAct_17
    · skip
      refine s_k1 dX1_hasAct_12 ?_
      refine s_goto (tgt := 17) dX1_hasAct_13 (by decide) ?_
      exact s_zreturn rfl rfl (Or.inr rfl) dX1_hasAct_17
set_option maxRecDepth 20000 in
theorem cf_X1_hasAct (G : mG) (l : Launch) (x1 : Int32)  (h : mH) (b : Int32 × mH) (hb : f_X1_hasAct x1 h = some b) (hl : ∀ v ∈ ([.inr (.inr (1, 0)), .inl x1] : List mV), mLi v) : mMet G l yX1_hasAct cX1_hasAct 2 (some .boolean) (mRoom 0 0) [.inr (.inr (1, 0)), .inl x1] h (eI b) :=
  mMet.of (y := yX1_hasAct) (as := [.inr (.inr (1, 0)), .inl x1]) (by decide +kernel) (Nat.le_of_ble_eq_true rfl) (fun X => sf_X1_hasAct G X x1  h) hl b hb
-- DriverBook$Book.hasHandlers()Z
def f_X1_hasHandlers_2 (k : Int32 → mH → Option (Int32 × mH))  : Nat → Int32 → mH → Option (Int32 × mH)
  | 0, _, _ => none
  | n + 1, v1, h =>
    if v1 < (h.1 1 0 4) then
      if mIn v1 24 = true then
      if (h.1 6 v1.toNatClampNeg 9) < 0 then
        f_X1_hasHandlers_2 k  n (v1 + 1) h
      else
        some (1, h)
      else none
    else
      k v1 h
def f_X1_hasHandlers  (h : mH) : Option (Int32 × mH) :=
  f_X1_hasHandlers_2 (fun u4 h5 =>
    some (0, h5))  mFu 0 h
set_option maxRecDepth 20000 in
theorem sf_X1_hasHandlers_2 (G : mG) (X : mX)   (k : Int32 → mH → Option (Int32 × mH)) (hk : ∀ (v1 : Int32) (h : mH), Sim G X cX1_hasHandlers 2 RX1 (some .boolean) (mRoom 0 0) eI (k v1 h) 30 [(0, .inr (.inr (1, 0))), (1, .inl v1)] [] h) (n : Nat) : ∀ (v1 : Int32) (h : mH), Sim G X cX1_hasHandlers 2 RX1 (some .boolean) (mRoom 0 0) eI (f_X1_hasHandlers_2 k  n v1 h) 2 [(0, .inr (.inr (1, 0))), (1, .inl v1)] [] h := by
  induction n with
  | zero =>
    intro v1 h
    exact s_none
  | succ n ih =>
    intro v1 h
    unfold f_X1_hasHandlers_2
    refine s_iload1 1 rfl dX1_hasHandlers_2 ?_
    refine s_aload0 0 rfl dX1_hasHandlers_3 ?_
    refine s_gi gI_RX1_33 dX1_hasHandlers_4 ?_
    refine s_ic_ge (tgt := 30) dX1_hasHandlers_7 (by decide) (fun q1 => ?_) (fun q1 => ?_)
    · skip
      exact s_loc [0, 1] rfl (hk v1 h)
    · skip
      refine s_aload0 0 rfl dX1_hasHandlers_10 ?_
      refine s_gr (gR_RX1_11 0) dX1_hasHandlers_11 ?_
      refine s_iload1 1 rfl dX1_hasHandlers_14 ?_
      refine s_chk (fun q2 => ?_)
      refine s_aal (aR_24 0 v1) q2 dX1_hasHandlers_15 ?_
      refine s_gi gI_RX1_55 dX1_hasHandlers_16 ?_
      refine s_if_lt (tgt := 24) dX1_hasHandlers_19 (by decide) (fun q3 => ?_) (fun q3 => ?_)
      · skip
        refine s_iincw 1 (by decide) 1 [(1, .inl (v1 + 1)), (0, .inr (.inr (1, 0)))] rfl rfl rfl dX1_hasHandlers_24 ?_
        refine s_goto (tgt := 2) dX1_hasHandlers_27 (by decide) ?_
        exact s_loc [1, 0] rfl (ih (v1 + 1) h)
      · skip
        refine s_k1 dX1_hasHandlers_22 ?_
        exact s_zreturn rfl rfl (Or.inr rfl) dX1_hasHandlers_23
set_option maxRecDepth 20000 in
theorem sf_X1_hasHandlers (G : mG) (X : mX)   (h : mH) : Sim G X cX1_hasHandlers 2 RX1 (some .boolean) (mRoom 0 0) eI (f_X1_hasHandlers  h) 0 [(0, .inr (.inr (1, 0)))] [] h := by
  unfold f_X1_hasHandlers
  refine s_k0 dX1_hasHandlers_0 ?_
  refine s_istore1 [(1, .inl 0), (0, .inr (.inr (1, 0)))] rfl rfl dX1_hasHandlers_1 ?_
  refine s_loc [1, 0] rfl ?_
  refine sf_X1_hasHandlers_2 G X  _ (fun u4 h5 => ?_) mFu 0 h
  · skip
    refine s_k0 dX1_hasHandlers_30 ?_
    exact s_zreturn rfl rfl (Or.inl rfl) dX1_hasHandlers_31
set_option maxRecDepth 20000 in
theorem cf_X1_hasHandlers (G : mG) (l : Launch)   (h : mH) (b : Int32 × mH) (hb : f_X1_hasHandlers  h = some b) (hl : ∀ v ∈ ([.inr (.inr (1, 0))] : List mV), mLi v) : mMet G l yX1_hasHandlers cX1_hasHandlers 2 (some .boolean) (mRoom 0 0) [.inr (.inr (1, 0))] h (eI b) :=
  mMet.of (y := yX1_hasHandlers) (as := [.inr (.inr (1, 0))]) (by decide +kernel) (Nat.le_of_ble_eq_true rfl) (fun X => sf_X1_hasHandlers G X   h) hl b hb
-- DriverBook$Book.tellField(IIIII)I
def f_X1_tellField (x1 : Int32) (x2 : Int32) (x3 : Int32) (x4 : Int32) (x5 : Int32) (h : mH) : Option (Int32 × mH) :=
  if mIn (h.1 1 0 4) 24 = true then
  mLet (uI h 6 ((h.1 1 0 4).toNatClampNeg) 0 x1) fun h2 =>
  mLet (uI h2 6 ((h.1 1 0 4).toNatClampNeg) 1 x2) fun h3 =>
  mLet (uI h3 6 ((h.1 1 0 4).toNatClampNeg) 2 x3) fun h4 =>
  mLet (uI h4 6 ((h.1 1 0 4).toNatClampNeg) 3 x4) fun h5 =>
  mLet (uI h5 6 ((h.1 1 0 4).toNatClampNeg) 4 x5) fun h6 =>
  mLet (uI h6 6 ((h.1 1 0 4).toNatClampNeg) 5 ((1 <<< (x3 &&& 31)) - 1)) fun h7 =>
  mLet (uI h7 6 ((h.1 1 0 4).toNatClampNeg) 6 ((h7.1 6 ((h.1 1 0 4).toNatClampNeg) 5) <<< (x2 &&& 31))) fun h8 =>
  mLet (uI h8 6 ((h.1 1 0 4).toNatClampNeg) 7 3) fun h9 =>
  mLet (uI h9 6 ((h.1 1 0 4).toNatClampNeg) 8 (-1)) fun h10 =>
  mLet (uI h10 6 ((h.1 1 0 4).toNatClampNeg) 9 (-1)) fun h11 =>
  mLet (uI h11 1 0 8 ((h11.1 1 0 8) + 1)) fun h12 =>
  mLet (uI h12 1 0 9 0) fun h13 =>
  mLet (uI h13 1 0 4 ((h13.1 1 0 4) + 1)) fun h14 =>
  some ((h14.1 1 0 4) - 1, h14)
  else none
set_option maxRecDepth 20000 in
theorem sf_X1_tellField (G : mG) (X : mX) (x1 : Int32) (x2 : Int32) (x3 : Int32) (x4 : Int32) (x5 : Int32)  (h : mH) : Sim G X cX1_tellField 7 RX1 (some .int) (mRoom 0 0) eI (f_X1_tellField x1 x2 x3 x4 x5 h) 0 [(0, .inr (.inr (1, 0))), (1, .inl x1), (2, .inl x2), (3, .inl x3), (4, .inl x4), (5, .inl x5)] [] h := by
  unfold f_X1_tellField
  refine s_aload0 0 rfl dX1_tellField_0 ?_
  refine s_gr (gR_RX1_11 0) dX1_tellField_1 ?_
  refine s_aload0 0 rfl dX1_tellField_4 ?_
  refine s_gi gI_RX1_33 dX1_tellField_5 ?_
  refine s_chk (fun q1 => ?_)
  refine s_aal (aR_24 0 (h.1 1 0 4)) q1 dX1_tellField_8 ?_
  refine s_astorew [(6, .inr (.inr (6, (h.1 1 0 4).toNatClampNeg))), (0, .inr (.inr (1, 0))), (1, .inl x1), (2, .inl x2), (3, .inl x3), (4, .inl x4), (5, .inl x5)] rfl rfl dX1_tellField_9 ?_
  refine s_aload 0 rfl dX1_tellField_11 ?_
  refine s_iload1 2 rfl dX1_tellField_13 ?_
  refine s_pi pI_RX1_58 dX1_tellField_14 ?_
  refine s_aload 0 rfl dX1_tellField_17 ?_
  refine s_iload2 3 rfl dX1_tellField_19 ?_
  refine s_let (fun h2 => ?_)
  refine s_pi pI_RX1_61 dX1_tellField_20 ?_
  refine s_aload 0 rfl dX1_tellField_23 ?_
  refine s_iload3 4 rfl dX1_tellField_25 ?_
  refine s_let (fun h3 => ?_)
  refine s_pi pI_RX1_64 dX1_tellField_26 ?_
  refine s_aload 0 rfl dX1_tellField_29 ?_
  refine s_iload 5 rfl dX1_tellField_31 ?_
  refine s_let (fun h4 => ?_)
  refine s_pi pI_RX1_67 dX1_tellField_33 ?_
  refine s_aload 0 rfl dX1_tellField_36 ?_
  refine s_iload 6 rfl dX1_tellField_38 ?_
  refine s_let (fun h5 => ?_)
  refine s_pi pI_RX1_70 dX1_tellField_40 ?_
  refine s_aload 0 rfl dX1_tellField_43 ?_
  refine s_k1 dX1_tellField_45 ?_
  refine s_iload3 4 rfl dX1_tellField_46 ?_
  refine s_ishl dX1_tellField_47 ?_
  refine s_k1 dX1_tellField_48 ?_
  refine s_isub dX1_tellField_49 ?_
  refine s_let (fun h6 => ?_)
  refine s_pi pI_RX1_73 dX1_tellField_50 ?_
  refine s_aload 0 rfl dX1_tellField_53 ?_
  refine s_aload 0 rfl dX1_tellField_55 ?_
  refine s_let (fun h7 => ?_)
  refine s_gi gI_RX1_73 dX1_tellField_57 ?_
  refine s_iload2 3 rfl dX1_tellField_60 ?_
  refine s_ishl dX1_tellField_61 ?_
  refine s_pi pI_RX1_76 dX1_tellField_62 ?_
  refine s_aload 0 rfl dX1_tellField_65 ?_
  refine s_k3 dX1_tellField_67 ?_
  refine s_let (fun h8 => ?_)
  refine s_pi pI_RX1_79 dX1_tellField_68 ?_
  refine s_aload 0 rfl dX1_tellField_71 ?_
  refine s_km1 dX1_tellField_73 ?_
  refine s_let (fun h9 => ?_)
  refine s_pi pI_RX1_82 dX1_tellField_74 ?_
  refine s_aload 0 rfl dX1_tellField_77 ?_
  refine s_km1 dX1_tellField_79 ?_
  refine s_let (fun h10 => ?_)
  refine s_pi pI_RX1_55 dX1_tellField_80 ?_
  refine s_aload0 1 rfl dX1_tellField_83 ?_
  refine s_dup rfl dX1_tellField_84 ?_
  refine s_let (fun h11 => ?_)
  refine s_gi gI_RX1_45 dX1_tellField_85 ?_
  refine s_k1 dX1_tellField_88 ?_
  refine s_iadd dX1_tellField_89 ?_
  refine s_pi pI_RX1_45 dX1_tellField_90 ?_
  refine s_aload0 1 rfl dX1_tellField_93 ?_
  refine s_k0 dX1_tellField_94 ?_
  refine s_let (fun h12 => ?_)
  refine s_pz pI_RX1_48 (Or.inl rfl) dX1_tellField_95 ?_
  refine s_aload0 1 rfl dX1_tellField_98 ?_
  refine s_dup rfl dX1_tellField_99 ?_
  refine s_let (fun h13 => ?_)
  refine s_gi gI_RX1_33 dX1_tellField_100 ?_
  refine s_k1 dX1_tellField_103 ?_
  refine s_iadd dX1_tellField_104 ?_
  refine s_pi pI_RX1_33 dX1_tellField_105 ?_
  refine s_aload0 1 rfl dX1_tellField_108 ?_
  refine s_let (fun h14 => ?_)
  refine s_gi gI_RX1_33 dX1_tellField_109 ?_
  refine s_k1 dX1_tellField_112 ?_
  refine s_isub dX1_tellField_113 ?_
  exact s_ireturn rfl rfl dX1_tellField_114
set_option maxRecDepth 20000 in
theorem cf_X1_tellField (G : mG) (l : Launch) (x1 : Int32) (x2 : Int32) (x3 : Int32) (x4 : Int32) (x5 : Int32)  (h : mH) (b : Int32 × mH) (hb : f_X1_tellField x1 x2 x3 x4 x5 h = some b) (hl : ∀ v ∈ ([.inr (.inr (1, 0)), .inl x1, .inl x2, .inl x3, .inl x4, .inl x5] : List mV), mLi v) : mMet G l yX1_tellField cX1_tellField 7 (some .int) (mRoom 0 0) [.inr (.inr (1, 0)), .inl x1, .inl x2, .inl x3, .inl x4, .inl x5] h (eI b) :=
  mMet.of (y := yX1_tellField) (as := [.inr (.inr (1, 0)), .inl x1, .inl x2, .inl x3, .inl x4, .inl x5]) (by decide +kernel) (Nat.le_of_ble_eq_true rfl) (fun X => sf_X1_tellField G X x1 x2 x3 x4 x5  h) hl b hb
-- DriverBook$Book.tellLaw(IIII)I
def f_X1_tellLaw (x1 : Int32) (x2 : Int32) (x3 : Int32) (x4 : Int32) (h : mH) : Option (Int32 × mH) :=
  if mIn (h.1 1 0 5) 12 = true then
  mLet (uI h 7 ((h.1 1 0 5).toNatClampNeg) 0 x1) fun h2 =>
  mLet (uI h2 7 ((h.1 1 0 5).toNatClampNeg) 1 x2) fun h3 =>
  mLet (uI h3 7 ((h.1 1 0 5).toNatClampNeg) 2 x3) fun h4 =>
  mLet (uI h4 7 ((h.1 1 0 5).toNatClampNeg) 3 x4) fun h5 =>
  mLet (uI h5 1 0 9 0) fun h6 =>
  mLet (uI h6 1 0 5 ((h6.1 1 0 5) + 1)) fun h7 =>
  some ((h7.1 1 0 5) - 1, h7)
  else none
set_option maxRecDepth 20000 in
theorem sf_X1_tellLaw (G : mG) (X : mX) (x1 : Int32) (x2 : Int32) (x3 : Int32) (x4 : Int32)  (h : mH) : Sim G X cX1_tellLaw 6 RX1 (some .int) (mRoom 0 0) eI (f_X1_tellLaw x1 x2 x3 x4 h) 0 [(0, .inr (.inr (1, 0))), (1, .inl x1), (2, .inl x2), (3, .inl x3), (4, .inl x4)] [] h := by
  unfold f_X1_tellLaw
  refine s_aload0 0 rfl dX1_tellLaw_0 ?_
  refine s_gr (gR_RX1_19 0) dX1_tellLaw_1 ?_
  refine s_aload0 0 rfl dX1_tellLaw_4 ?_
  refine s_gi gI_RX1_36 dX1_tellLaw_5 ?_
  refine s_chk (fun q1 => ?_)
  refine s_aal (aR_25 0 (h.1 1 0 5)) q1 dX1_tellLaw_8 ?_
  refine s_astorew [(5, .inr (.inr (7, (h.1 1 0 5).toNatClampNeg))), (0, .inr (.inr (1, 0))), (1, .inl x1), (2, .inl x2), (3, .inl x3), (4, .inl x4)] rfl rfl dX1_tellLaw_9 ?_
  refine s_aload 0 rfl dX1_tellLaw_11 ?_
  refine s_iload1 2 rfl dX1_tellLaw_13 ?_
  refine s_pi pI_RX1_85 dX1_tellLaw_14 ?_
  refine s_aload 0 rfl dX1_tellLaw_17 ?_
  refine s_iload2 3 rfl dX1_tellLaw_19 ?_
  refine s_let (fun h2 => ?_)
  refine s_pi pI_RX1_86 dX1_tellLaw_20 ?_
  refine s_aload 0 rfl dX1_tellLaw_23 ?_
  refine s_iload3 4 rfl dX1_tellLaw_25 ?_
  refine s_let (fun h3 => ?_)
  refine s_pi pI_RX1_89 dX1_tellLaw_26 ?_
  refine s_aload 0 rfl dX1_tellLaw_29 ?_
  refine s_iload 5 rfl dX1_tellLaw_31 ?_
  refine s_let (fun h4 => ?_)
  refine s_pi pI_RX1_92 dX1_tellLaw_33 ?_
  refine s_aload0 1 rfl dX1_tellLaw_36 ?_
  refine s_k0 dX1_tellLaw_37 ?_
  refine s_let (fun h5 => ?_)
  refine s_pz pI_RX1_48 (Or.inl rfl) dX1_tellLaw_38 ?_
  refine s_aload0 1 rfl dX1_tellLaw_41 ?_
  refine s_dup rfl dX1_tellLaw_42 ?_
  refine s_let (fun h6 => ?_)
  refine s_gi gI_RX1_36 dX1_tellLaw_43 ?_
  refine s_k1 dX1_tellLaw_46 ?_
  refine s_iadd dX1_tellLaw_47 ?_
  refine s_pi pI_RX1_36 dX1_tellLaw_48 ?_
  refine s_aload0 1 rfl dX1_tellLaw_51 ?_
  refine s_let (fun h7 => ?_)
  refine s_gi gI_RX1_36 dX1_tellLaw_52 ?_
  refine s_k1 dX1_tellLaw_55 ?_
  refine s_isub dX1_tellLaw_56 ?_
  exact s_ireturn rfl rfl dX1_tellLaw_57
set_option maxRecDepth 20000 in
theorem cf_X1_tellLaw (G : mG) (l : Launch) (x1 : Int32) (x2 : Int32) (x3 : Int32) (x4 : Int32)  (h : mH) (b : Int32 × mH) (hb : f_X1_tellLaw x1 x2 x3 x4 h = some b) (hl : ∀ v ∈ ([.inr (.inr (1, 0)), .inl x1, .inl x2, .inl x3, .inl x4] : List mV), mLi v) : mMet G l yX1_tellLaw cX1_tellLaw 6 (some .int) (mRoom 0 0) [.inr (.inr (1, 0)), .inl x1, .inl x2, .inl x3, .inl x4] h (eI b) :=
  mMet.of (y := yX1_tellLaw) (as := [.inr (.inr (1, 0)), .inl x1, .inl x2, .inl x3, .inl x4]) (by decide +kernel) (Nat.le_of_ble_eq_true rfl) (fun X => sf_X1_tellLaw G X x1 x2 x3 x4  h) hl b hb
-- DriverBook$Book.changePeriod(II)I
def f_X1_changePeriod (x1 : Int32) (x2 : Int32) (h : mH) : Option (Int32 × mH) :=
  if mIn x1 24 = true then
  mLet (uI h 6 x1.toNatClampNeg 7 x2) fun h2 =>
  some (h.1 6 x1.toNatClampNeg 7, uI h2 1 0 8 ((h2.1 1 0 8) + 1))
  else none
set_option maxRecDepth 20000 in
theorem sf_X1_changePeriod (G : mG) (X : mX) (x1 : Int32) (x2 : Int32)  (h : mH) : Sim G X cX1_changePeriod 4 RX1 (some .int) (mRoom 0 0) eI (f_X1_changePeriod x1 x2 h) 0 [(0, .inr (.inr (1, 0))), (1, .inl x1), (2, .inl x2)] [] h := by
  unfold f_X1_changePeriod
  refine s_aload0 0 rfl dX1_changePeriod_0 ?_
  refine s_gr (gR_RX1_11 0) dX1_changePeriod_1 ?_
  refine s_iload1 1 rfl dX1_changePeriod_4 ?_
  refine s_chk (fun q1 => ?_)
  refine s_aal (aR_24 0 x1) q1 dX1_changePeriod_5 ?_
  refine s_gi gI_RX1_79 dX1_changePeriod_6 ?_
  refine s_istore3 [(3, .inl (h.1 6 x1.toNatClampNeg 7)), (0, .inr (.inr (1, 0))), (1, .inl x1), (2, .inl x2)] rfl rfl dX1_changePeriod_9 ?_
  refine s_aload0 1 rfl dX1_changePeriod_10 ?_
  refine s_gr (gR_RX1_11 0) dX1_changePeriod_11 ?_
  refine s_iload1 2 rfl dX1_changePeriod_14 ?_
  refine s_aal (aR_24 0 x1) q1 dX1_changePeriod_15 ?_
  refine s_iload2 3 rfl dX1_changePeriod_16 ?_
  refine s_pi pI_RX1_79 dX1_changePeriod_17 ?_
  refine s_aload0 1 rfl dX1_changePeriod_20 ?_
  refine s_dup rfl dX1_changePeriod_21 ?_
  refine s_let (fun h2 => ?_)
  refine s_gi gI_RX1_45 dX1_changePeriod_22 ?_
  refine s_k1 dX1_changePeriod_25 ?_
  refine s_iadd dX1_changePeriod_26 ?_
  refine s_pi pI_RX1_45 dX1_changePeriod_27 ?_
  refine s_iload3 0 rfl dX1_changePeriod_30 ?_
  exact s_ireturn rfl rfl dX1_changePeriod_31
set_option maxRecDepth 20000 in
theorem cf_X1_changePeriod (G : mG) (l : Launch) (x1 : Int32) (x2 : Int32)  (h : mH) (b : Int32 × mH) (hb : f_X1_changePeriod x1 x2 h = some b) (hl : ∀ v ∈ ([.inr (.inr (1, 0)), .inl x1, .inl x2] : List mV), mLi v) : mMet G l yX1_changePeriod cX1_changePeriod 4 (some .int) (mRoom 0 0) [.inr (.inr (1, 0)), .inl x1, .inl x2] h (eI b) :=
  mMet.of (y := yX1_changePeriod) (as := [.inr (.inr (1, 0)), .inl x1, .inl x2]) (by decide +kernel) (Nat.le_of_ble_eq_true rfl) (fun X => sf_X1_changePeriod G X x1 x2  h) hl b hb
-- DriverBook$Book.changeDone(II)I
def f_X1_changeDone (x1 : Int32) (x2 : Int32) (h : mH) : Option (Int32 × mH) :=
  if mIn x1 24 = true then
  mLet (uI h 6 x1.toNatClampNeg 8 x2) fun h2 =>
  some (h.1 6 x1.toNatClampNeg 8, uI h2 1 0 8 ((h2.1 1 0 8) + 1))
  else none
set_option maxRecDepth 20000 in
theorem sf_X1_changeDone (G : mG) (X : mX) (x1 : Int32) (x2 : Int32)  (h : mH) : Sim G X cX1_changeDone 4 RX1 (some .int) (mRoom 0 0) eI (f_X1_changeDone x1 x2 h) 0 [(0, .inr (.inr (1, 0))), (1, .inl x1), (2, .inl x2)] [] h := by
  unfold f_X1_changeDone
  refine s_aload0 0 rfl dX1_changeDone_0 ?_
  refine s_gr (gR_RX1_11 0) dX1_changeDone_1 ?_
  refine s_iload1 1 rfl dX1_changeDone_4 ?_
  refine s_chk (fun q1 => ?_)
  refine s_aal (aR_24 0 x1) q1 dX1_changeDone_5 ?_
  refine s_gi gI_RX1_82 dX1_changeDone_6 ?_
  refine s_istore3 [(3, .inl (h.1 6 x1.toNatClampNeg 8)), (0, .inr (.inr (1, 0))), (1, .inl x1), (2, .inl x2)] rfl rfl dX1_changeDone_9 ?_
  refine s_aload0 1 rfl dX1_changeDone_10 ?_
  refine s_gr (gR_RX1_11 0) dX1_changeDone_11 ?_
  refine s_iload1 2 rfl dX1_changeDone_14 ?_
  refine s_aal (aR_24 0 x1) q1 dX1_changeDone_15 ?_
  refine s_iload2 3 rfl dX1_changeDone_16 ?_
  refine s_pi pI_RX1_82 dX1_changeDone_17 ?_
  refine s_aload0 1 rfl dX1_changeDone_20 ?_
  refine s_dup rfl dX1_changeDone_21 ?_
  refine s_let (fun h2 => ?_)
  refine s_gi gI_RX1_45 dX1_changeDone_22 ?_
  refine s_k1 dX1_changeDone_25 ?_
  refine s_iadd dX1_changeDone_26 ?_
  refine s_pi pI_RX1_45 dX1_changeDone_27 ?_
  refine s_iload3 0 rfl dX1_changeDone_30 ?_
  exact s_ireturn rfl rfl dX1_changeDone_31
set_option maxRecDepth 20000 in
theorem cf_X1_changeDone (G : mG) (l : Launch) (x1 : Int32) (x2 : Int32)  (h : mH) (b : Int32 × mH) (hb : f_X1_changeDone x1 x2 h = some b) (hl : ∀ v ∈ ([.inr (.inr (1, 0)), .inl x1, .inl x2] : List mV), mLi v) : mMet G l yX1_changeDone cX1_changeDone 4 (some .int) (mRoom 0 0) [.inr (.inr (1, 0)), .inl x1, .inl x2] h (eI b) :=
  mMet.of (y := yX1_changeDone) (as := [.inr (.inr (1, 0)), .inl x1, .inl x2]) (by decide +kernel) (Nat.le_of_ble_eq_true rfl) (fun X => sf_X1_changeDone G X x1 x2  h) hl b hb
-- DriverBook$Book.changeHandler(II)I
def f_X1_changeHandler (x1 : Int32) (x2 : Int32) (h : mH) : Option (Int32 × mH) :=
  if mIn x1 24 = true then
  mLet (uI h 6 x1.toNatClampNeg 9 x2) fun h2 =>
  some (h.1 6 x1.toNatClampNeg 9, uI h2 1 0 9 0)
  else none
set_option maxRecDepth 20000 in
theorem sf_X1_changeHandler (G : mG) (X : mX) (x1 : Int32) (x2 : Int32)  (h : mH) : Sim G X cX1_changeHandler 4 RX1 (some .int) (mRoom 0 0) eI (f_X1_changeHandler x1 x2 h) 0 [(0, .inr (.inr (1, 0))), (1, .inl x1), (2, .inl x2)] [] h := by
  unfold f_X1_changeHandler
  refine s_aload0 0 rfl dX1_changeHandler_0 ?_
  refine s_gr (gR_RX1_11 0) dX1_changeHandler_1 ?_
  refine s_iload1 1 rfl dX1_changeHandler_4 ?_
  refine s_chk (fun q1 => ?_)
  refine s_aal (aR_24 0 x1) q1 dX1_changeHandler_5 ?_
  refine s_gi gI_RX1_55 dX1_changeHandler_6 ?_
  refine s_istore3 [(3, .inl (h.1 6 x1.toNatClampNeg 9)), (0, .inr (.inr (1, 0))), (1, .inl x1), (2, .inl x2)] rfl rfl dX1_changeHandler_9 ?_
  refine s_aload0 1 rfl dX1_changeHandler_10 ?_
  refine s_gr (gR_RX1_11 0) dX1_changeHandler_11 ?_
  refine s_iload1 2 rfl dX1_changeHandler_14 ?_
  refine s_aal (aR_24 0 x1) q1 dX1_changeHandler_15 ?_
  refine s_iload2 3 rfl dX1_changeHandler_16 ?_
  refine s_pi pI_RX1_55 dX1_changeHandler_17 ?_
  refine s_aload0 1 rfl dX1_changeHandler_20 ?_
  refine s_k0 dX1_changeHandler_21 ?_
  refine s_let (fun h2 => ?_)
  refine s_pz pI_RX1_48 (Or.inl rfl) dX1_changeHandler_22 ?_
  refine s_iload3 0 rfl dX1_changeHandler_25 ?_
  exact s_ireturn rfl rfl dX1_changeHandler_26
set_option maxRecDepth 20000 in
theorem cf_X1_changeHandler (G : mG) (l : Launch) (x1 : Int32) (x2 : Int32)  (h : mH) (b : Int32 × mH) (hb : f_X1_changeHandler x1 x2 h = some b) (hl : ∀ v ∈ ([.inr (.inr (1, 0)), .inl x1, .inl x2] : List mV), mLi v) : mMet G l yX1_changeHandler cX1_changeHandler 4 (some .int) (mRoom 0 0) [.inr (.inr (1, 0)), .inl x1, .inl x2] h (eI b) :=
  mMet.of (y := yX1_changeHandler) (as := [.inr (.inr (1, 0)), .inl x1, .inl x2]) (by decide +kernel) (Nat.le_of_ble_eq_true rfl) (fun X => sf_X1_changeHandler G X x1 x2  h) hl b hb
-- DriverBook$Book.changeLocks(I)I
def f_X1_changeLocks (x1 : Int32) (h : mH) : Option (Int32 × mH) :=
  mLet (uI h 1 0 7 x1) fun h1 =>
  some (h.1 1 0 7, uI h1 1 0 9 0)
set_option maxRecDepth 20000 in
theorem sf_X1_changeLocks (G : mG) (X : mX) (x1 : Int32)  (h : mH) : Sim G X cX1_changeLocks 3 RX1 (some .int) (mRoom 0 0) eI (f_X1_changeLocks x1 h) 0 [(0, .inr (.inr (1, 0))), (1, .inl x1)] [] h := by
  unfold f_X1_changeLocks
  refine s_aload0 0 rfl dX1_changeLocks_0 ?_
  refine s_gi gI_RX1_42 dX1_changeLocks_1 ?_
  refine s_istore2 [(2, .inl (h.1 1 0 7)), (0, .inr (.inr (1, 0))), (1, .inl x1)] rfl rfl dX1_changeLocks_4 ?_
  refine s_aload0 1 rfl dX1_changeLocks_5 ?_
  refine s_iload1 2 rfl dX1_changeLocks_6 ?_
  refine s_pi pI_RX1_42 dX1_changeLocks_7 ?_
  refine s_aload0 1 rfl dX1_changeLocks_10 ?_
  refine s_k0 dX1_changeLocks_11 ?_
  refine s_let (fun h1 => ?_)
  refine s_pz pI_RX1_48 (Or.inl rfl) dX1_changeLocks_12 ?_
  refine s_iload2 0 rfl dX1_changeLocks_15 ?_
  exact s_ireturn rfl rfl dX1_changeLocks_16
set_option maxRecDepth 20000 in
theorem cf_X1_changeLocks (G : mG) (l : Launch) (x1 : Int32)  (h : mH) (b : Int32 × mH) (hb : f_X1_changeLocks x1 h = some b) (hl : ∀ v ∈ ([.inr (.inr (1, 0)), .inl x1] : List mV), mLi v) : mMet G l yX1_changeLocks cX1_changeLocks 3 (some .int) (mRoom 0 0) [.inr (.inr (1, 0)), .inl x1] h (eI b) :=
  mMet.of (y := yX1_changeLocks) (as := [.inr (.inr (1, 0)), .inl x1]) (by decide +kernel) (Nat.le_of_ble_eq_true rfl) (fun X => sf_X1_changeLocks G X x1  h) hl b hb
-- DriverBook$Book.tellAct()I
def f_X1_tellAct  (h : mH) : Option (Int32 × mH) :=
  if mIn (h.1 1 0 6) 6 = true then
  mLet (uI h 0 ((h.1 1 0 6).toNatClampNeg) 5 0) fun h2 =>
  mLet (uI h2 1 0 9 0) fun h3 =>
  mLet (uI h3 1 0 6 ((h3.1 1 0 6) + 1)) fun h4 =>
  some ((h4.1 1 0 6) - 1, h4)
  else none
set_option maxRecDepth 20000 in
theorem sf_X1_tellAct (G : mG) (X : mX)   (h : mH) : Sim G X cX1_tellAct 1 RX1 (some .int) (mRoom 0 0) eI (f_X1_tellAct  h) 0 [(0, .inr (.inr (1, 0)))] [] h := by
  unfold f_X1_tellAct
  refine s_aload0 0 rfl dX1_tellAct_0 ?_
  refine s_gr (gR_RX1_25 0) dX1_tellAct_1 ?_
  refine s_aload0 0 rfl dX1_tellAct_4 ?_
  refine s_gi gI_RX1_39 dX1_tellAct_5 ?_
  refine s_chk (fun q1 => ?_)
  refine s_aal (aR_26 0 (h.1 1 0 6)) q1 dX1_tellAct_8 ?_
  refine s_k0 dX1_tellAct_9 ?_
  refine s_pi pI_RX1_95 dX1_tellAct_10 ?_
  refine s_aload0 0 rfl dX1_tellAct_13 ?_
  refine s_k0 dX1_tellAct_14 ?_
  refine s_let (fun h2 => ?_)
  refine s_pz pI_RX1_48 (Or.inl rfl) dX1_tellAct_15 ?_
  refine s_aload0 0 rfl dX1_tellAct_18 ?_
  refine s_dup rfl dX1_tellAct_19 ?_
  refine s_let (fun h3 => ?_)
  refine s_gi gI_RX1_39 dX1_tellAct_20 ?_
  refine s_k1 dX1_tellAct_23 ?_
  refine s_iadd dX1_tellAct_24 ?_
  refine s_pi pI_RX1_39 dX1_tellAct_25 ?_
  refine s_aload0 0 rfl dX1_tellAct_28 ?_
  refine s_let (fun h4 => ?_)
  refine s_gi gI_RX1_39 dX1_tellAct_29 ?_
  refine s_k1 dX1_tellAct_32 ?_
  refine s_isub dX1_tellAct_33 ?_
  exact s_ireturn rfl rfl dX1_tellAct_34
set_option maxRecDepth 20000 in
theorem cf_X1_tellAct (G : mG) (l : Launch)   (h : mH) (b : Int32 × mH) (hb : f_X1_tellAct  h = some b) (hl : ∀ v ∈ ([.inr (.inr (1, 0))] : List mV), mLi v) : mMet G l yX1_tellAct cX1_tellAct 1 (some .int) (mRoom 0 0) [.inr (.inr (1, 0))] h (eI b) :=
  mMet.of (y := yX1_tellAct) (as := [.inr (.inr (1, 0))]) (by decide +kernel) (Nat.le_of_ble_eq_true rfl) (fun X => sf_X1_tellAct G X   h) hl b hb
-- DriverBook$Book.tellStep(IIIII)I
def f_X1_tellStep (x1 : Int32) (x2 : Int32) (x3 : Int32) (x4 : Int32) (x5 : Int32) (h : mH) : Option (Int32 × mH) :=
  if mIn x1 6 = true then
  (f_X0_append x1.toNatClampNeg x2 x3 x4 x5 (uI h 1 0 9 0)).bind fun r2 =>
  some (r2.1, r2.2)
  else none
set_option maxRecDepth 20000 in
theorem sf_X1_tellStep (G : mG) (X : mX) (x1 : Int32) (x2 : Int32) (x3 : Int32) (x4 : Int32) (x5 : Int32)  (h : mH) : Sim G X cX1_tellStep 6 RX1 (some .int) (mRoom 1 24) eI (f_X1_tellStep x1 x2 x3 x4 x5 h) 0 [(0, .inr (.inr (1, 0))), (1, .inl x1), (2, .inl x2), (3, .inl x3), (4, .inl x4), (5, .inl x5)] [] h := by
  unfold f_X1_tellStep
  refine s_aload0 0 rfl dX1_tellStep_0 ?_
  refine s_k0 dX1_tellStep_1 ?_
  refine s_pz pI_RX1_48 (Or.inl rfl) dX1_tellStep_2 ?_
  refine s_aload0 0 rfl dX1_tellStep_5 ?_
  refine s_gr (gR_RX1_25 0) dX1_tellStep_6 ?_
  refine s_iload1 1 rfl dX1_tellStep_9 ?_
  refine s_chk (fun q1 => ?_)
  refine s_aal (aR_26 0 x1) q1 dX1_tellStep_10 ?_
  refine s_iload2 2 rfl dX1_tellStep_11 ?_
  refine s_iload3 3 rfl dX1_tellStep_12 ?_
  refine s_iload 4 rfl dX1_tellStep_13 ?_
  refine s_iload 5 rfl dX1_tellStep_15 ?_
  refine s_viI [.inl x2, .inl x3, .inl x4, .inl x5] (fun l b hb hl => cf_X0_append G l x1.toNatClampNeg x2 x3 x4 x5 (uI h 1 0 9 0) b hb hl) me_X0_append vi_RX1_98 rfl rfl rfl rfl rfl dX1_tellStep_17 (fun r2 => ?_)
  exact s_ireturn rfl rfl dX1_tellStep_20
set_option maxRecDepth 20000 in
theorem cf_X1_tellStep (G : mG) (l : Launch) (x1 : Int32) (x2 : Int32) (x3 : Int32) (x4 : Int32) (x5 : Int32)  (h : mH) (b : Int32 × mH) (hb : f_X1_tellStep x1 x2 x3 x4 x5 h = some b) (hl : ∀ v ∈ ([.inr (.inr (1, 0)), .inl x1, .inl x2, .inl x3, .inl x4, .inl x5] : List mV), mLi v) : mMet G l yX1_tellStep cX1_tellStep 6 (some .int) (mRoom 1 24) [.inr (.inr (1, 0)), .inl x1, .inl x2, .inl x3, .inl x4, .inl x5] h (eI b) :=
  mMet.of (y := yX1_tellStep) (as := [.inr (.inr (1, 0)), .inl x1, .inl x2, .inl x3, .inl x4, .inl x5]) (by decide +kernel) (Nat.le_of_ble_eq_true rfl) (fun X => sf_X1_tellStep G X x1 x2 x3 x4 x5  h) hl b hb
-- DriverBook$Book.dropSteps(I)I
def f_X1_dropSteps (x1 : Int32) (h : mH) : Option (Int32 × mH) :=
  if mIn x1 6 = true then
  mLet (uI h 0 x1.toNatClampNeg 5 0) fun h2 =>
  some (h.1 0 x1.toNatClampNeg 5, uI h2 1 0 9 0)
  else none
set_option maxRecDepth 20000 in
theorem sf_X1_dropSteps (G : mG) (X : mX) (x1 : Int32)  (h : mH) : Sim G X cX1_dropSteps 3 RX1 (some .int) (mRoom 0 0) eI (f_X1_dropSteps x1 h) 0 [(0, .inr (.inr (1, 0))), (1, .inl x1)] [] h := by
  unfold f_X1_dropSteps
  refine s_aload0 0 rfl dX1_dropSteps_0 ?_
  refine s_gr (gR_RX1_25 0) dX1_dropSteps_1 ?_
  refine s_iload1 1 rfl dX1_dropSteps_4 ?_
  refine s_chk (fun q1 => ?_)
  refine s_aal (aR_26 0 x1) q1 dX1_dropSteps_5 ?_
  refine s_gi gI_RX1_95 dX1_dropSteps_6 ?_
  refine s_istore2 [(2, .inl (h.1 0 x1.toNatClampNeg 5)), (0, .inr (.inr (1, 0))), (1, .inl x1)] rfl rfl dX1_dropSteps_9 ?_
  refine s_aload0 1 rfl dX1_dropSteps_10 ?_
  refine s_gr (gR_RX1_25 0) dX1_dropSteps_11 ?_
  refine s_iload1 2 rfl dX1_dropSteps_14 ?_
  refine s_aal (aR_26 0 x1) q1 dX1_dropSteps_15 ?_
  refine s_k0 dX1_dropSteps_16 ?_
  refine s_pi pI_RX1_95 dX1_dropSteps_17 ?_
  refine s_aload0 1 rfl dX1_dropSteps_20 ?_
  refine s_k0 dX1_dropSteps_21 ?_
  refine s_let (fun h2 => ?_)
  refine s_pz pI_RX1_48 (Or.inl rfl) dX1_dropSteps_22 ?_
  refine s_iload2 0 rfl dX1_dropSteps_25 ?_
  exact s_ireturn rfl rfl dX1_dropSteps_26
set_option maxRecDepth 20000 in
theorem cf_X1_dropSteps (G : mG) (l : Launch) (x1 : Int32)  (h : mH) (b : Int32 × mH) (hb : f_X1_dropSteps x1 h = some b) (hl : ∀ v ∈ ([.inr (.inr (1, 0)), .inl x1] : List mV), mLi v) : mMet G l yX1_dropSteps cX1_dropSteps 3 (some .int) (mRoom 0 0) [.inr (.inr (1, 0)), .inl x1] h (eI b) :=
  mMet.of (y := yX1_dropSteps) (as := [.inr (.inr (1, 0)), .inl x1]) (by decide +kernel) (Nat.le_of_ble_eq_true rfl) (fun X => sf_X1_dropSteps G X x1  h) hl b hb
-- DriverBook$Book.bitsOfAll(I)I
def f_X1_bitsOfAll_4 (k : Int32 → Int32 → Int32 → mH → Option (Int32 × mH))  : Nat → Int32 → Int32 → Int32 → mH → Option (Int32 × mH)
  | 0, _, _, _, _ => none
  | n + 1, v1, v2, v3, h =>
    if v3 < (h.1 1 0 4) then
      if mIn v3 24 = true then
      if (h.1 6 v3.toNatClampNeg 0) = v1 then
        f_X1_bitsOfAll_4 k  n v1 (v2 ||| (h.1 6 v3.toNatClampNeg 6)) (v3 + 1) h
      else
        f_X1_bitsOfAll_4 k  n v1 v2 (v3 + 1) h
      else none
    else
      k v1 v2 v3 h
def f_X1_bitsOfAll (x1 : Int32) (h : mH) : Option (Int32 × mH) :=
  f_X1_bitsOfAll_4 (fun u4 u5 u6 h7 =>
    some (u5, h7))  mFu x1 0 0 h
set_option maxRecDepth 20000 in
theorem sf_X1_bitsOfAll_4 (G : mG) (X : mX)   (k : Int32 → Int32 → Int32 → mH → Option (Int32 × mH)) (hk : ∀ (v1 : Int32) (v2 : Int32) (v3 : Int32) (h : mH), Sim G X cX1_bitsOfAll 4 RX1 (some .int) (mRoom 0 0) eI (k v1 v2 v3 h) 43 [(0, .inr (.inr (1, 0))), (1, .inl v1), (2, .inl v2), (3, .inl v3)] [] h) (n : Nat) : ∀ (v1 : Int32) (v2 : Int32) (v3 : Int32) (h : mH), Sim G X cX1_bitsOfAll 4 RX1 (some .int) (mRoom 0 0) eI (f_X1_bitsOfAll_4 k  n v1 v2 v3 h) 4 [(0, .inr (.inr (1, 0))), (1, .inl v1), (2, .inl v2), (3, .inl v3)] [] h := by
  induction n with
  | zero =>
    intro v1 v2 v3 h
    exact s_none
  | succ n ih =>
    intro v1 v2 v3 h
    unfold f_X1_bitsOfAll_4
    refine s_iload3 3 rfl dX1_bitsOfAll_4 ?_
    refine s_aload0 0 rfl dX1_bitsOfAll_5 ?_
    refine s_gi gI_RX1_33 dX1_bitsOfAll_6 ?_
    refine s_ic_ge (tgt := 43) dX1_bitsOfAll_9 (by decide) (fun q1 => ?_) (fun q1 => ?_)
    · skip
      exact s_loc [0, 1, 2, 3] rfl (hk v1 v2 v3 h)
    · skip
      refine s_aload0 0 rfl dX1_bitsOfAll_12 ?_
      refine s_gr (gR_RX1_11 0) dX1_bitsOfAll_13 ?_
      refine s_iload3 3 rfl dX1_bitsOfAll_16 ?_
      refine s_chk (fun q2 => ?_)
      refine s_aal (aR_24 0 v3) q2 dX1_bitsOfAll_17 ?_
      refine s_gi gI_RX1_58 dX1_bitsOfAll_18 ?_
      refine s_iload1 1 rfl dX1_bitsOfAll_21 ?_
      refine s_ic_ne (tgt := 37) dX1_bitsOfAll_22 (by decide) (fun q3 => ?_) (fun q3 => ?_)
      · skip
        refine s_iincw 1 (by decide) 3 [(3, .inl (v3 + 1)), (0, .inr (.inr (1, 0))), (1, .inl v1), (2, .inl v2)] rfl rfl rfl dX1_bitsOfAll_37 ?_
        refine s_goto (tgt := 4) dX1_bitsOfAll_40 (by decide) ?_
        exact s_loc [1, 2, 3, 0] rfl (ih v1 v2 (v3 + 1) h)
      · skip
        refine s_iload2 2 rfl dX1_bitsOfAll_25 ?_
        refine s_aload0 0 rfl dX1_bitsOfAll_26 ?_
        refine s_gr (gR_RX1_11 0) dX1_bitsOfAll_27 ?_
        refine s_iload3 3 rfl dX1_bitsOfAll_30 ?_
        refine s_aal (aR_24 0 v3) q2 dX1_bitsOfAll_31 ?_
        refine s_gi gI_RX1_76 dX1_bitsOfAll_32 ?_
        refine s_ior dX1_bitsOfAll_35 ?_
        refine s_istore2 [(2, .inl (v2 ||| (h.1 6 v3.toNatClampNeg 6))), (0, .inr (.inr (1, 0))), (1, .inl v1), (3, .inl v3)] rfl rfl dX1_bitsOfAll_36 ?_
        refine s_iincw 1 (by decide) 3 [(3, .inl (v3 + 1)), (2, .inl (v2 ||| (h.1 6 v3.toNatClampNeg 6))), (0, .inr (.inr (1, 0))), (1, .inl v1)] rfl rfl rfl dX1_bitsOfAll_37 ?_
        refine s_goto (tgt := 4) dX1_bitsOfAll_40 (by decide) ?_
        exact s_loc [2, 3, 1, 0] rfl (ih v1 (v2 ||| (h.1 6 v3.toNatClampNeg 6)) (v3 + 1) h)
set_option maxRecDepth 20000 in
theorem sf_X1_bitsOfAll (G : mG) (X : mX) (x1 : Int32)  (h : mH) : Sim G X cX1_bitsOfAll 4 RX1 (some .int) (mRoom 0 0) eI (f_X1_bitsOfAll x1 h) 0 [(0, .inr (.inr (1, 0))), (1, .inl x1)] [] h := by
  unfold f_X1_bitsOfAll
  refine s_k0 dX1_bitsOfAll_0 ?_
  refine s_istore2 [(2, .inl 0), (0, .inr (.inr (1, 0))), (1, .inl x1)] rfl rfl dX1_bitsOfAll_1 ?_
  refine s_k0 dX1_bitsOfAll_2 ?_
  refine s_istore3 [(3, .inl 0), (2, .inl 0), (0, .inr (.inr (1, 0))), (1, .inl x1)] rfl rfl dX1_bitsOfAll_3 ?_
  refine s_loc [2, 3, 1, 0] rfl ?_
  refine sf_X1_bitsOfAll_4 G X  _ (fun u4 u5 u6 h7 => ?_) mFu x1 0 0 h
  · skip
    refine s_iload2 2 rfl dX1_bitsOfAll_43 ?_
    exact s_ireturn rfl rfl dX1_bitsOfAll_44
set_option maxRecDepth 20000 in
theorem cf_X1_bitsOfAll (G : mG) (l : Launch) (x1 : Int32)  (h : mH) (b : Int32 × mH) (hb : f_X1_bitsOfAll x1 h = some b) (hl : ∀ v ∈ ([.inr (.inr (1, 0)), .inl x1] : List mV), mLi v) : mMet G l yX1_bitsOfAll cX1_bitsOfAll 4 (some .int) (mRoom 0 0) [.inr (.inr (1, 0)), .inl x1] h (eI b) :=
  mMet.of (y := yX1_bitsOfAll) (as := [.inr (.inr (1, 0)), .inl x1]) (by decide +kernel) (Nat.le_of_ble_eq_true rfl) (fun X => sf_X1_bitsOfAll G X x1  h) hl b hb
-- DriverBook$Field.isKept()Z
def f_X6_isKept (i0 : Nat) (h : mH) : Option (Int32 × mH) :=
  if (h.1 6 i0 3) = 0 then
    some (1, h)
  else
    if (h.1 6 i0 3) = 5 then
      some (1, h)
    else
      some (0, h)
set_option maxRecDepth 20000 in
theorem sf_X6_isKept (G : mG) (X : mX) (i0 : Nat)  (h : mH) : Sim G X cX6_isKept 1 RX6 (some .boolean) (mRoom 0 0) eI (f_X6_isKept i0 h) 0 [(0, .inr (.inr (6, i0)))] [] h := by
  unfold f_X6_isKept
  refine s_aload0 0 rfl dX6_isKept_0 ?_
  refine s_gi gI_RX6_16 dX6_isKept_1 ?_
  refine s_if_eq (tgt := 15) dX6_isKept_4 (by decide) (fun q1 => ?_) (fun q1 => ?_)
  · skip
    refine s_k1 dX6_isKept_15 ?_
    refine s_goto (tgt := 20) dX6_isKept_16 (by decide) ?_
    exact s_zreturn rfl rfl (Or.inr rfl) dX6_isKept_20
  · skip
    refine s_aload0 0 rfl dX6_isKept_7 ?_
    refine s_gi gI_RX6_16 dX6_isKept_8 ?_
    refine s_k5 dX6_isKept_11 ?_
    refine s_ic_ne (tgt := 19) dX6_isKept_12 (by decide) (fun q2 => ?_) (fun q2 => ?_)
    · skip
      refine s_k0 dX6_isKept_19 ?_
      exact s_zreturn rfl rfl (Or.inl rfl) dX6_isKept_20
    · skip
      refine s_k1 dX6_isKept_15 ?_
      refine s_goto (tgt := 20) dX6_isKept_16 (by decide) ?_
      exact s_zreturn rfl rfl (Or.inr rfl) dX6_isKept_20
set_option maxRecDepth 20000 in
theorem cf_X6_isKept (G : mG) (l : Launch) (i0 : Nat)  (h : mH) (b : Int32 × mH) (hb : f_X6_isKept i0 h = some b) (hl : ∀ v ∈ ([.inr (.inr (6, i0))] : List mV), mLi v) : mMet G l yX6_isKept cX6_isKept 1 (some .boolean) (mRoom 0 0) [.inr (.inr (6, i0))] h (eI b) :=
  mMet.of (y := yX6_isKept) (as := [.inr (.inr (6, i0))]) (by decide +kernel) (Nat.le_of_ble_eq_true rfl) (fun X => sf_X6_isKept G X i0  h) hl b hb
-- DriverBook$Book.bitsOfKept(I)I
def f_X1_bitsOfKept_4 (k : Int32 → Int32 → Int32 → mH → Option (Int32 × mH))  : Nat → Int32 → Int32 → Int32 → mH → Option (Int32 × mH)
  | 0, _, _, _, _ => none
  | n + 1, v1, v2, v3, h =>
    if v3 < (h.1 1 0 4) then
      if mIn v3 24 = true then
      if (h.1 6 v3.toNatClampNeg 0) = v1 then
        (f_X6_isKept v3.toNatClampNeg h).bind fun r4 =>
        if r4.1 = 0 then
          f_X1_bitsOfKept_4 k  n v1 v2 (v3 + 1) r4.2
        else
          f_X1_bitsOfKept_4 k  n v1 (v2 ||| (r4.2.1 6 v3.toNatClampNeg 6)) (v3 + 1) r4.2
      else
        f_X1_bitsOfKept_4 k  n v1 v2 (v3 + 1) h
      else none
    else
      k v1 v2 v3 h
def f_X1_bitsOfKept (x1 : Int32) (h : mH) : Option (Int32 × mH) :=
  f_X1_bitsOfKept_4 (fun u6 u7 u8 h9 =>
    some (u7, h9))  mFu x1 0 0 h
set_option maxRecDepth 20000 in
theorem sf_X1_bitsOfKept_4 (G : mG) (X : mX)   (k : Int32 → Int32 → Int32 → mH → Option (Int32 × mH)) (hk : ∀ (v1 : Int32) (v2 : Int32) (v3 : Int32) (h : mH), Sim G X cX1_bitsOfKept 4 RX1 (some .int) (mRoom 1 20) eI (k v1 v2 v3 h) 55 [(0, .inr (.inr (1, 0))), (1, .inl v1), (2, .inl v2), (3, .inl v3)] [] h) (n : Nat) : ∀ (v1 : Int32) (v2 : Int32) (v3 : Int32) (h : mH), Sim G X cX1_bitsOfKept 4 RX1 (some .int) (mRoom 1 20) eI (f_X1_bitsOfKept_4 k  n v1 v2 v3 h) 4 [(0, .inr (.inr (1, 0))), (1, .inl v1), (2, .inl v2), (3, .inl v3)] [] h := by
  induction n with
  | zero =>
    intro v1 v2 v3 h
    exact s_none
  | succ n ih =>
    intro v1 v2 v3 h
    unfold f_X1_bitsOfKept_4
    refine s_iload3 3 rfl dX1_bitsOfKept_4 ?_
    refine s_aload0 0 rfl dX1_bitsOfKept_5 ?_
    refine s_gi gI_RX1_33 dX1_bitsOfKept_6 ?_
    refine s_ic_ge (tgt := 55) dX1_bitsOfKept_9 (by decide) (fun q1 => ?_) (fun q1 => ?_)
    · skip
      exact s_loc [0, 1, 2, 3] rfl (hk v1 v2 v3 h)
    · skip
      refine s_aload0 0 rfl dX1_bitsOfKept_12 ?_
      refine s_gr (gR_RX1_11 0) dX1_bitsOfKept_13 ?_
      refine s_iload3 3 rfl dX1_bitsOfKept_16 ?_
      refine s_chk (fun q2 => ?_)
      refine s_aal (aR_24 0 v3) q2 dX1_bitsOfKept_17 ?_
      refine s_gi gI_RX1_58 dX1_bitsOfKept_18 ?_
      refine s_iload1 1 rfl dX1_bitsOfKept_21 ?_
      refine s_ic_ne (tgt := 49) dX1_bitsOfKept_22 (by decide) (fun q3 => ?_) (fun q3 => ?_)
      · skip
        refine s_iincw 1 (by decide) 3 [(3, .inl (v3 + 1)), (0, .inr (.inr (1, 0))), (1, .inl v1), (2, .inl v2)] rfl rfl rfl dX1_bitsOfKept_49 ?_
        refine s_goto (tgt := 4) dX1_bitsOfKept_52 (by decide) ?_
        exact s_loc [1, 2, 3, 0] rfl (ih v1 v2 (v3 + 1) h)
      · skip
        refine s_aload0 0 rfl dX1_bitsOfKept_25 ?_
        refine s_gr (gR_RX1_11 0) dX1_bitsOfKept_26 ?_
        refine s_iload3 3 rfl dX1_bitsOfKept_29 ?_
        refine s_aal (aR_24 0 v3) q2 dX1_bitsOfKept_30 ?_
        refine s_viI [] (fun l b hb hl => cf_X6_isKept G l v3.toNatClampNeg h b hb hl) me_X6_isKept vi_RX1_102 rfl rfl rfl rfl rfl dX1_bitsOfKept_31 (fun r4 => ?_)
        refine s_if_eq (tgt := 49) dX1_bitsOfKept_34 (by decide) (fun q5 => ?_) (fun q5 => ?_)
        · skip
          refine s_iincw 1 (by decide) 3 [(3, .inl (v3 + 1)), (0, .inr (.inr (1, 0))), (1, .inl v1), (2, .inl v2)] rfl rfl rfl dX1_bitsOfKept_49 ?_
          refine s_goto (tgt := 4) dX1_bitsOfKept_52 (by decide) ?_
          exact s_loc [1, 2, 3, 0] rfl (ih v1 v2 (v3 + 1) r4.2)
        · skip
          refine s_iload2 2 rfl dX1_bitsOfKept_37 ?_
          refine s_aload0 0 rfl dX1_bitsOfKept_38 ?_
          refine s_gr (gR_RX1_11 0) dX1_bitsOfKept_39 ?_
          refine s_iload3 3 rfl dX1_bitsOfKept_42 ?_
          refine s_aal (aR_24 0 v3) q2 dX1_bitsOfKept_43 ?_
          refine s_gi gI_RX1_76 dX1_bitsOfKept_44 ?_
          refine s_ior dX1_bitsOfKept_47 ?_
          refine s_istore2 [(2, .inl (v2 ||| (r4.2.1 6 v3.toNatClampNeg 6))), (0, .inr (.inr (1, 0))), (1, .inl v1), (3, .inl v3)] rfl rfl dX1_bitsOfKept_48 ?_
          refine s_iincw 1 (by decide) 3 [(3, .inl (v3 + 1)), (2, .inl (v2 ||| (r4.2.1 6 v3.toNatClampNeg 6))), (0, .inr (.inr (1, 0))), (1, .inl v1)] rfl rfl rfl dX1_bitsOfKept_49 ?_
          refine s_goto (tgt := 4) dX1_bitsOfKept_52 (by decide) ?_
          exact s_loc [2, 3, 1, 0] rfl (ih v1 (v2 ||| (r4.2.1 6 v3.toNatClampNeg 6)) (v3 + 1) r4.2)
set_option maxRecDepth 20000 in
theorem sf_X1_bitsOfKept (G : mG) (X : mX) (x1 : Int32)  (h : mH) : Sim G X cX1_bitsOfKept 4 RX1 (some .int) (mRoom 1 20) eI (f_X1_bitsOfKept x1 h) 0 [(0, .inr (.inr (1, 0))), (1, .inl x1)] [] h := by
  unfold f_X1_bitsOfKept
  refine s_k0 dX1_bitsOfKept_0 ?_
  refine s_istore2 [(2, .inl 0), (0, .inr (.inr (1, 0))), (1, .inl x1)] rfl rfl dX1_bitsOfKept_1 ?_
  refine s_k0 dX1_bitsOfKept_2 ?_
  refine s_istore3 [(3, .inl 0), (2, .inl 0), (0, .inr (.inr (1, 0))), (1, .inl x1)] rfl rfl dX1_bitsOfKept_3 ?_
  refine s_loc [2, 3, 1, 0] rfl ?_
  refine sf_X1_bitsOfKept_4 G X  _ (fun u6 u7 u8 h9 => ?_) mFu x1 0 0 h
  · skip
    refine s_iload2 2 rfl dX1_bitsOfKept_55 ?_
    exact s_ireturn rfl rfl dX1_bitsOfKept_56
set_option maxRecDepth 20000 in
theorem cf_X1_bitsOfKept (G : mG) (l : Launch) (x1 : Int32)  (h : mH) (b : Int32 × mH) (hb : f_X1_bitsOfKept x1 h = some b) (hl : ∀ v ∈ ([.inr (.inr (1, 0)), .inl x1] : List mV), mLi v) : mMet G l yX1_bitsOfKept cX1_bitsOfKept 4 (some .int) (mRoom 1 20) [.inr (.inr (1, 0)), .inl x1] h (eI b) :=
  mMet.of (y := yX1_bitsOfKept) (as := [.inr (.inr (1, 0)), .inl x1]) (by decide +kernel) (Nat.le_of_ble_eq_true rfl) (fun X => sf_X1_bitsOfKept G X x1  h) hl b hb
-- DriverBook$Book.isShadowed(I)Z
def f_X1_isShadowed_2 (k : Int32 → Int32 → mH → Option (Int32 × mH))  : Nat → Int32 → Int32 → mH → Option (Int32 × mH)
  | 0, _, _, _ => none
  | n + 1, v1, v2, h =>
    if v2 < (h.1 1 0 4) then
      if mIn v2 24 = true then
      if (h.1 6 v2.toNatClampNeg 0) = v1 then
        if (h.1 6 v2.toNatClampNeg 3) = 3 then
          some (1, h)
        else
          if (h.1 6 v2.toNatClampNeg 3) = 5 then
            some (1, h)
          else
            f_X1_isShadowed_2 k  n v1 (v2 + 1) h
      else
        f_X1_isShadowed_2 k  n v1 (v2 + 1) h
      else none
    else
      k v1 v2 h
def f_X1_isShadowed (x1 : Int32) (h : mH) : Option (Int32 × mH) :=
  f_X1_isShadowed_2 (fun u6 u7 h8 =>
    some (0, h8))  mFu x1 0 h
set_option maxRecDepth 20000 in
theorem sf_X1_isShadowed_2 (G : mG) (X : mX)   (k : Int32 → Int32 → mH → Option (Int32 × mH)) (hk : ∀ (v1 : Int32) (v2 : Int32) (h : mH), Sim G X cX1_isShadowed 4 RX1 (some .boolean) (mRoom 0 0) eI (k v1 v2 h) 49 [(0, .inr (.inr (1, 0))), (1, .inl v1), (2, .inl v2)] [] h) (n : Nat) : ∀ (v1 : Int32) (v2 : Int32) (h : mH), Sim G X cX1_isShadowed 4 RX1 (some .boolean) (mRoom 0 0) eI (f_X1_isShadowed_2 k  n v1 v2 h) 2 [(0, .inr (.inr (1, 0))), (1, .inl v1), (2, .inl v2)] [] h := by
  induction n with
  | zero =>
    intro v1 v2 h
    exact s_none
  | succ n ih =>
    intro v1 v2 h
    unfold f_X1_isShadowed_2
    refine s_iload2 2 rfl dX1_isShadowed_2 ?_
    refine s_aload0 0 rfl dX1_isShadowed_3 ?_
    refine s_gi gI_RX1_33 dX1_isShadowed_4 ?_
    refine s_ic_ge (tgt := 49) dX1_isShadowed_7 (by decide) (fun q1 => ?_) (fun q1 => ?_)
    · skip
      exact s_loc [0, 1, 2] rfl (hk v1 v2 h)
    · skip
      refine s_aload0 0 rfl dX1_isShadowed_10 ?_
      refine s_gr (gR_RX1_11 0) dX1_isShadowed_11 ?_
      refine s_iload2 2 rfl dX1_isShadowed_14 ?_
      refine s_chk (fun q2 => ?_)
      refine s_aal (aR_24 0 v2) q2 dX1_isShadowed_15 ?_
      refine s_astore3 [(3, .inr (.inr (6, v2.toNatClampNeg))), (0, .inr (.inr (1, 0))), (1, .inl v1), (2, .inl v2)] rfl rfl dX1_isShadowed_16 ?_
      refine s_aload3 0 rfl dX1_isShadowed_17 ?_
      refine s_gi gI_RX1_58 dX1_isShadowed_18 ?_
      refine s_iload1 2 rfl dX1_isShadowed_21 ?_
      refine s_ic_ne (tgt := 43) dX1_isShadowed_22 (by decide) (fun q3 => ?_) (fun q3 => ?_)
      · skip
        refine s_iincw 1 (by decide) 3 [(2, .inl (v2 + 1)), (3, .inr (.inr (6, v2.toNatClampNeg))), (0, .inr (.inr (1, 0))), (1, .inl v1)] rfl rfl rfl dX1_isShadowed_43 ?_
        refine s_goto (tgt := 2) dX1_isShadowed_46 (by decide) ?_
        exact s_loc [2, 3, 0] rfl (ih v1 (v2 + 1) h)
      · skip
        refine s_aload3 0 rfl dX1_isShadowed_25 ?_
        refine s_gi gI_RX1_67 dX1_isShadowed_26 ?_
        refine s_k3 dX1_isShadowed_29 ?_
        refine s_ic_eq (tgt := 41) dX1_isShadowed_30 (by decide) (fun q4 => ?_) (fun q4 => ?_)
        · skip
          refine s_k1 dX1_isShadowed_41 ?_
          exact s_zreturn rfl rfl (Or.inr rfl) dX1_isShadowed_42
        · skip
          refine s_aload3 0 rfl dX1_isShadowed_33 ?_
          refine s_gi gI_RX1_67 dX1_isShadowed_34 ?_
          refine s_k5 dX1_isShadowed_37 ?_
          refine s_ic_ne (tgt := 43) dX1_isShadowed_38 (by decide) (fun q5 => ?_) (fun q5 => ?_)
          · skip
            refine s_iincw 1 (by decide) 3 [(2, .inl (v2 + 1)), (3, .inr (.inr (6, v2.toNatClampNeg))), (0, .inr (.inr (1, 0))), (1, .inl v1)] rfl rfl rfl dX1_isShadowed_43 ?_
            refine s_goto (tgt := 2) dX1_isShadowed_46 (by decide) ?_
            exact s_loc [2, 3, 0] rfl (ih v1 (v2 + 1) h)
          · skip
            refine s_k1 dX1_isShadowed_41 ?_
            exact s_zreturn rfl rfl (Or.inr rfl) dX1_isShadowed_42
set_option maxRecDepth 20000 in
theorem sf_X1_isShadowed (G : mG) (X : mX) (x1 : Int32)  (h : mH) : Sim G X cX1_isShadowed 4 RX1 (some .boolean) (mRoom 0 0) eI (f_X1_isShadowed x1 h) 0 [(0, .inr (.inr (1, 0))), (1, .inl x1)] [] h := by
  unfold f_X1_isShadowed
  refine s_k0 dX1_isShadowed_0 ?_
  refine s_istore2 [(2, .inl 0), (0, .inr (.inr (1, 0))), (1, .inl x1)] rfl rfl dX1_isShadowed_1 ?_
  refine s_loc [1, 2, 0] rfl ?_
  refine sf_X1_isShadowed_2 G X  _ (fun u6 u7 h8 => ?_) mFu x1 0 h
  · skip
    refine s_k0 dX1_isShadowed_49 ?_
    exact s_zreturn rfl rfl (Or.inl rfl) dX1_isShadowed_50
set_option maxRecDepth 20000 in
theorem cf_X1_isShadowed (G : mG) (l : Launch) (x1 : Int32)  (h : mH) (b : Int32 × mH) (hb : f_X1_isShadowed x1 h = some b) (hl : ∀ v ∈ ([.inr (.inr (1, 0)), .inl x1] : List mV), mLi v) : mMet G l yX1_isShadowed cX1_isShadowed 4 (some .boolean) (mRoom 0 0) [.inr (.inr (1, 0)), .inl x1] h (eI b) :=
  mMet.of (y := yX1_isShadowed) (as := [.inr (.inr (1, 0)), .inl x1]) (by decide +kernel) (Nat.le_of_ble_eq_true rfl) (fun X => sf_X1_isShadowed G X x1  h) hl b hb
-- DriverBook.isIn(II)Z
def f_X11_isIn (x0 : Int32) (x1 : Int32) (h : mH) : Option (Int32 × mH) :=
  if ((x0 >>> (x1 &&& 31)) &&& 1) = 0 then
    some (0, h)
  else
    some (1, h)
set_option maxRecDepth 20000 in
theorem sf_X11_isIn (G : mG) (X : mX) (x0 : Int32) (x1 : Int32)  (h : mH) : Sim G X cX11_isIn 2 RX11 (some .boolean) (mRoom 0 0) eI (f_X11_isIn x0 x1 h) 0 [(0, .inl x0), (1, .inl x1)] [] h := by
  unfold f_X11_isIn
  refine s_iload0 0 rfl dX11_isIn_0 ?_
  refine s_iload1 1 rfl dX11_isIn_1 ?_
  refine s_ishr dX11_isIn_2 ?_
  refine s_k1 dX11_isIn_3 ?_
  refine s_iand dX11_isIn_4 ?_
  refine s_if_eq (tgt := 12) dX11_isIn_5 (by decide) (fun q1 => ?_) (fun q1 => ?_)
  · skip
    refine s_k0 dX11_isIn_12 ?_
    exact s_zreturn rfl rfl (Or.inl rfl) dX11_isIn_13
  · skip
    refine s_k1 dX11_isIn_8 ?_
    refine s_goto (tgt := 13) dX11_isIn_9 (by decide) ?_
    exact s_zreturn rfl rfl (Or.inr rfl) dX11_isIn_13
set_option maxRecDepth 20000 in
theorem cf_X11_isIn (G : mG) (l : Launch) (x0 : Int32) (x1 : Int32)  (h : mH) (b : Int32 × mH) (hb : f_X11_isIn x0 x1 h = some b) (hl : ∀ v ∈ ([.inl x0, .inl x1] : List mV), mLi v) : mMet G l yX11_isIn cX11_isIn 2 (some .boolean) (mRoom 0 0) [.inl x0, .inl x1] h (eI b) :=
  mMet.of (y := yX11_isIn) (as := [.inl x0, .inl x1]) (by decide +kernel) (Nat.le_of_ble_eq_true rfl) (fun X => sf_X11_isIn G X x0 x1  h) hl b hb
-- DriverBook$Law.binds(II)Z
def f_X7_binds (i0 : Nat) (x1 : Int32) (x2 : Int32) (h : mH) : Option (Int32 × mH) :=
  if (h.1 7 i0 1) = x1 then
    (f_X11_isIn x2 (h.1 7 i0 2) h).bind fun r5 =>
    if r5.1 = 0 then
      if (r5.2.1 7 i0 2) = x1 then
        (f_X11_isIn x2 (r5.2.1 7 i0 1) r5.2).bind fun r8 =>
        if r8.1 = 0 then
          some (0, r8.2)
        else
          some (1, r8.2)
      else
        some (0, r5.2)
    else
      some (1, r5.2)
  else
    if (h.1 7 i0 2) = x1 then
      (f_X11_isIn x2 (h.1 7 i0 1) h).bind fun r3 =>
      if r3.1 = 0 then
        some (0, r3.2)
      else
        some (1, r3.2)
    else
      some (0, h)
set_option maxRecDepth 20000 in
theorem sf_X7_binds (G : mG) (X : mX) (i0 : Nat) (x1 : Int32) (x2 : Int32)  (h : mH) : Sim G X cX7_binds 3 RX7 (some .boolean) (mRoom 1 21) eI (f_X7_binds i0 x1 x2 h) 0 [(0, .inr (.inr (7, i0))), (1, .inl x1), (2, .inl x2)] [] h := by
  unfold f_X7_binds
  refine s_aload0 0 rfl dX7_binds_0 ?_
  refine s_gi gI_RX7_7 dX7_binds_1 ?_
  refine s_iload1 1 rfl dX7_binds_4 ?_
  refine s_ic_ne (tgt := 19) dX7_binds_5 (by decide) (fun q1 => ?_) (fun q1 => ?_)
  · skip
    refine s_aload0 0 rfl dX7_binds_19 ?_
    refine s_gi gI_RX7_13 dX7_binds_20 ?_
    refine s_iload1 1 rfl dX7_binds_23 ?_
    refine s_ic_ne (tgt := 42) dX7_binds_24 (by decide) (fun q2 => ?_) (fun q2 => ?_)
    · skip
      refine s_k0 dX7_binds_42 ?_
      exact s_zreturn rfl rfl (Or.inl rfl) dX7_binds_43
    · skip
      refine s_iload2 2 rfl dX7_binds_27 ?_
      refine s_aload0 0 rfl dX7_binds_28 ?_
      refine s_gi gI_RX7_7 dX7_binds_29 ?_
      refine s_siI [.inl x2, .inl (h.1 7 i0 1)] (fun l b hb hl => cf_X11_isIn G l x2 (h.1 7 i0 1) h b hb hl) me_X11_isIn si_RX7_16 rfl rfl rfl rfl rfl dX7_binds_32 (fun r3 => ?_)
      refine s_if_eq (tgt := 42) dX7_binds_35 (by decide) (fun q4 => ?_) (fun q4 => ?_)
      · skip
        refine s_k0 dX7_binds_42 ?_
        exact s_zreturn rfl rfl (Or.inl rfl) dX7_binds_43
      · skip
        refine s_k1 dX7_binds_38 ?_
        refine s_goto (tgt := 43) dX7_binds_39 (by decide) ?_
        exact s_zreturn rfl rfl (Or.inr rfl) dX7_binds_43
  · skip
    refine s_iload2 2 rfl dX7_binds_8 ?_
    refine s_aload0 0 rfl dX7_binds_9 ?_
    refine s_gi gI_RX7_13 dX7_binds_10 ?_
    refine s_siI [.inl x2, .inl (h.1 7 i0 2)] (fun l b hb hl => cf_X11_isIn G l x2 (h.1 7 i0 2) h b hb hl) me_X11_isIn si_RX7_16 rfl rfl rfl rfl rfl dX7_binds_13 (fun r5 => ?_)
    refine s_if_ne (tgt := 38) dX7_binds_16 (by decide) (fun q6 => ?_) (fun q6 => ?_)
    · skip
      refine s_k1 dX7_binds_38 ?_
      refine s_goto (tgt := 43) dX7_binds_39 (by decide) ?_
      exact s_zreturn rfl rfl (Or.inr rfl) dX7_binds_43
    · skip
      refine s_aload0 0 rfl dX7_binds_19 ?_
      refine s_gi gI_RX7_13 dX7_binds_20 ?_
      refine s_iload1 1 rfl dX7_binds_23 ?_
      refine s_ic_ne (tgt := 42) dX7_binds_24 (by decide) (fun q7 => ?_) (fun q7 => ?_)
      · skip
        refine s_k0 dX7_binds_42 ?_
        exact s_zreturn rfl rfl (Or.inl rfl) dX7_binds_43
      · skip
        refine s_iload2 2 rfl dX7_binds_27 ?_
        refine s_aload0 0 rfl dX7_binds_28 ?_
        refine s_gi gI_RX7_7 dX7_binds_29 ?_
        refine s_siI [.inl x2, .inl (r5.2.1 7 i0 1)] (fun l b hb hl => cf_X11_isIn G l x2 (r5.2.1 7 i0 1) r5.2 b hb hl) me_X11_isIn si_RX7_16 rfl rfl rfl rfl rfl dX7_binds_32 (fun r8 => ?_)
        refine s_if_eq (tgt := 42) dX7_binds_35 (by decide) (fun q9 => ?_) (fun q9 => ?_)
        · skip
          refine s_k0 dX7_binds_42 ?_
          exact s_zreturn rfl rfl (Or.inl rfl) dX7_binds_43
        · skip
          refine s_k1 dX7_binds_38 ?_
          refine s_goto (tgt := 43) dX7_binds_39 (by decide) ?_
          exact s_zreturn rfl rfl (Or.inr rfl) dX7_binds_43
set_option maxRecDepth 20000 in
theorem cf_X7_binds (G : mG) (l : Launch) (i0 : Nat) (x1 : Int32) (x2 : Int32)  (h : mH) (b : Int32 × mH) (hb : f_X7_binds i0 x1 x2 h = some b) (hl : ∀ v ∈ ([.inr (.inr (7, i0)), .inl x1, .inl x2] : List mV), mLi v) : mMet G l yX7_binds cX7_binds 3 (some .boolean) (mRoom 1 21) [.inr (.inr (7, i0)), .inl x1, .inl x2] h (eI b) :=
  mMet.of (y := yX7_binds) (as := [.inr (.inr (7, i0)), .inl x1, .inl x2]) (by decide +kernel) (Nat.le_of_ble_eq_true rfl) (fun X => sf_X7_binds G X i0 x1 x2  h) hl b hb
-- DriverBook$Book.isBound(II)Z
def f_X1_isBound_2 (k : Int32 → Int32 → Int32 → mH → Option (Int32 × mH))  : Nat → Int32 → Int32 → Int32 → mH → Option (Int32 × mH)
  | 0, _, _, _, _ => none
  | n + 1, v1, v2, v3, h =>
    if v3 < (h.1 1 0 5) then
      if mIn v3 12 = true then
      (f_X7_binds v3.toNatClampNeg v1 v2 h).bind fun r3 =>
      if r3.1 = 0 then
        f_X1_isBound_2 k  n v1 v2 (v3 + 1) r3.2
      else
        some (1, r3.2)
      else none
    else
      k v1 v2 v3 h
def f_X1_isBound (x1 : Int32) (x2 : Int32) (h : mH) : Option (Int32 × mH) :=
  f_X1_isBound_2 (fun u5 u6 u7 h8 =>
    some (0, h8))  mFu x1 x2 0 h
set_option maxRecDepth 20000 in
theorem sf_X1_isBound_2 (G : mG) (X : mX)   (k : Int32 → Int32 → Int32 → mH → Option (Int32 × mH)) (hk : ∀ (v1 : Int32) (v2 : Int32) (v3 : Int32) (h : mH), Sim G X cX1_isBound 4 RX1 (some .boolean) (mRoom 2 43) eI (k v1 v2 v3 h) 32 [(0, .inr (.inr (1, 0))), (1, .inl v1), (2, .inl v2), (3, .inl v3)] [] h) (n : Nat) : ∀ (v1 : Int32) (v2 : Int32) (v3 : Int32) (h : mH), Sim G X cX1_isBound 4 RX1 (some .boolean) (mRoom 2 43) eI (f_X1_isBound_2 k  n v1 v2 v3 h) 2 [(0, .inr (.inr (1, 0))), (1, .inl v1), (2, .inl v2), (3, .inl v3)] [] h := by
  induction n with
  | zero =>
    intro v1 v2 v3 h
    exact s_none
  | succ n ih =>
    intro v1 v2 v3 h
    unfold f_X1_isBound_2
    refine s_iload3 3 rfl dX1_isBound_2 ?_
    refine s_aload0 0 rfl dX1_isBound_3 ?_
    refine s_gi gI_RX1_36 dX1_isBound_4 ?_
    refine s_ic_ge (tgt := 32) dX1_isBound_7 (by decide) (fun q1 => ?_) (fun q1 => ?_)
    · skip
      exact s_loc [0, 1, 2, 3] rfl (hk v1 v2 v3 h)
    · skip
      refine s_aload0 0 rfl dX1_isBound_10 ?_
      refine s_gr (gR_RX1_19 0) dX1_isBound_11 ?_
      refine s_iload3 3 rfl dX1_isBound_14 ?_
      refine s_chk (fun q2 => ?_)
      refine s_aal (aR_25 0 v3) q2 dX1_isBound_15 ?_
      refine s_iload1 1 rfl dX1_isBound_16 ?_
      refine s_iload2 2 rfl dX1_isBound_17 ?_
      refine s_viI [.inl v1, .inl v2] (fun l b hb hl => cf_X7_binds G l v3.toNatClampNeg v1 v2 h b hb hl) me_X7_binds vi_RX1_106 rfl rfl rfl rfl rfl dX1_isBound_18 (fun r3 => ?_)
      refine s_if_eq (tgt := 26) dX1_isBound_21 (by decide) (fun q4 => ?_) (fun q4 => ?_)
      · skip
        refine s_iincw 1 (by decide) 3 [(3, .inl (v3 + 1)), (0, .inr (.inr (1, 0))), (1, .inl v1), (2, .inl v2)] rfl rfl rfl dX1_isBound_26 ?_
        refine s_goto (tgt := 2) dX1_isBound_29 (by decide) ?_
        exact s_loc [1, 2, 3, 0] rfl (ih v1 v2 (v3 + 1) r3.2)
      · skip
        refine s_k1 dX1_isBound_24 ?_
        exact s_zreturn rfl rfl (Or.inr rfl) dX1_isBound_25
set_option maxRecDepth 20000 in
theorem sf_X1_isBound (G : mG) (X : mX) (x1 : Int32) (x2 : Int32)  (h : mH) : Sim G X cX1_isBound 4 RX1 (some .boolean) (mRoom 2 43) eI (f_X1_isBound x1 x2 h) 0 [(0, .inr (.inr (1, 0))), (1, .inl x1), (2, .inl x2)] [] h := by
  unfold f_X1_isBound
  refine s_k0 dX1_isBound_0 ?_
  refine s_istore3 [(3, .inl 0), (0, .inr (.inr (1, 0))), (1, .inl x1), (2, .inl x2)] rfl rfl dX1_isBound_1 ?_
  refine s_loc [1, 2, 3, 0] rfl ?_
  refine sf_X1_isBound_2 G X  _ (fun u5 u6 u7 h8 => ?_) mFu x1 x2 0 h
  · skip
    refine s_k0 dX1_isBound_32 ?_
    exact s_zreturn rfl rfl (Or.inl rfl) dX1_isBound_33
set_option maxRecDepth 20000 in
theorem cf_X1_isBound (G : mG) (l : Launch) (x1 : Int32) (x2 : Int32)  (h : mH) (b : Int32 × mH) (hb : f_X1_isBound x1 x2 h = some b) (hl : ∀ v ∈ ([.inr (.inr (1, 0)), .inl x1, .inl x2] : List mV), mLi v) : mMet G l yX1_isBound cX1_isBound 4 (some .boolean) (mRoom 2 43) [.inr (.inr (1, 0)), .inl x1, .inl x2] h (eI b) :=
  mMet.of (y := yX1_isBound) (as := [.inr (.inr (1, 0)), .inl x1, .inl x2]) (by decide +kernel) (Nat.le_of_ble_eq_true rfl) (fun X => sf_X1_isBound G X x1 x2  h) hl b hb
-- DriverBook$Code.joinsGroup(ILDriverBook$Book;)Z
def f_X3_joinsGroup (i0 : Nat) (x1 : Int32) (h : mH) : Option (Int32 × mH) :=
  if (h.1 3 i0 2) = 0 then
    some (0, h)
  else
    if mIn x1 24 = true then
    if (h.1 6 x1.toNatClampNeg 0) = (h.1 3 i0 3) then
      (f_X11_isIn (h.1 3 i0 2) x1 h).bind fun r4 =>
      if r4.1 = 0 then
        (f_X1_isBound x1 (r4.2.1 3 i0 2) r4.2).bind fun r6 =>
        if r6.1 = 0 then
          some (1, r6.2)
        else
          some (0, r6.2)
      else
        some (0, r4.2)
    else
      some (0, h)
    else none
set_option maxRecDepth 20000 in
theorem sf_X3_joinsGroup (G : mG) (X : mX) (i0 : Nat) (x1 : Int32)  (h : mH) : Sim G X cX3_joinsGroup 3 RX3 (some .boolean) (mRoom 3 66) eI (f_X3_joinsGroup i0 x1 h) 0 [(0, .inr (.inr (3, i0))), (1, .inl x1), (2, .inr (.inr (1, 0)))] [] h := by
  unfold f_X3_joinsGroup
  refine s_aload0 0 rfl dX3_joinsGroup_0 ?_
  refine s_gi gI_RX3_19 dX3_joinsGroup_1 ?_
  refine s_if_eq (tgt := 50) dX3_joinsGroup_4 (by decide) (fun q1 => ?_) (fun q1 => ?_)
  · skip
    refine s_k0 dX3_joinsGroup_50 ?_
    exact s_zreturn rfl rfl (Or.inl rfl) dX3_joinsGroup_51
  · skip
    refine s_aload2 2 rfl dX3_joinsGroup_7 ?_
    refine s_gr (gR_RX3_61 0) dX3_joinsGroup_8 ?_
    refine s_iload1 1 rfl dX3_joinsGroup_11 ?_
    refine s_chk (fun q2 => ?_)
    refine s_aal (aR_24 0 x1) q2 dX3_joinsGroup_12 ?_
    refine s_gi gI_RX3_67 dX3_joinsGroup_13 ?_
    refine s_aload0 0 rfl dX3_joinsGroup_16 ?_
    refine s_gi gI_RX3_22 dX3_joinsGroup_17 ?_
    refine s_ic_ne (tgt := 50) dX3_joinsGroup_20 (by decide) (fun q3 => ?_) (fun q3 => ?_)
    · skip
      refine s_k0 dX3_joinsGroup_50 ?_
      exact s_zreturn rfl rfl (Or.inl rfl) dX3_joinsGroup_51
    · skip
      refine s_aload0 0 rfl dX3_joinsGroup_23 ?_
      refine s_gi gI_RX3_19 dX3_joinsGroup_24 ?_
      refine s_iload1 1 rfl dX3_joinsGroup_27 ?_
      refine s_siI [.inl (h.1 3 i0 2), .inl x1] (fun l b hb hl => cf_X11_isIn G l (h.1 3 i0 2) x1 h b hb hl) me_X11_isIn si_RX3_72 rfl rfl rfl rfl rfl dX3_joinsGroup_28 (fun r4 => ?_)
      refine s_if_ne (tgt := 50) dX3_joinsGroup_31 (by decide) (fun q5 => ?_) (fun q5 => ?_)
      · skip
        refine s_k0 dX3_joinsGroup_50 ?_
        exact s_zreturn rfl rfl (Or.inl rfl) dX3_joinsGroup_51
      · skip
        refine s_aload2 2 rfl dX3_joinsGroup_34 ?_
        refine s_iload1 1 rfl dX3_joinsGroup_35 ?_
        refine s_aload0 0 rfl dX3_joinsGroup_36 ?_
        refine s_gi gI_RX3_19 dX3_joinsGroup_37 ?_
        refine s_viI [.inl x1, .inl (r4.2.1 3 i0 2)] (fun l b hb hl => cf_X1_isBound G l x1 (r4.2.1 3 i0 2) r4.2 b hb hl) me_X1_isBound vi_RX3_76 rfl rfl rfl rfl rfl dX3_joinsGroup_40 (fun r6 => ?_)
        refine s_if_ne (tgt := 50) dX3_joinsGroup_43 (by decide) (fun q7 => ?_) (fun q7 => ?_)
        · skip
          refine s_k0 dX3_joinsGroup_50 ?_
          exact s_zreturn rfl rfl (Or.inl rfl) dX3_joinsGroup_51
        · skip
          refine s_k1 dX3_joinsGroup_46 ?_
          refine s_goto (tgt := 51) dX3_joinsGroup_47 (by decide) ?_
          exact s_zreturn rfl rfl (Or.inr rfl) dX3_joinsGroup_51
set_option maxRecDepth 20000 in
theorem cf_X3_joinsGroup (G : mG) (l : Launch) (i0 : Nat) (x1 : Int32)  (h : mH) (b : Int32 × mH) (hb : f_X3_joinsGroup i0 x1 h = some b) (hl : ∀ v ∈ ([.inr (.inr (3, i0)), .inl x1, .inr (.inr (1, 0))] : List mV), mLi v) : mMet G l yX3_joinsGroup cX3_joinsGroup 3 (some .boolean) (mRoom 3 66) [.inr (.inr (3, i0)), .inl x1, .inr (.inr (1, 0))] h (eI b) :=
  mMet.of (y := yX3_joinsGroup) (as := [.inr (.inr (3, i0)), .inl x1, .inr (.inr (1, 0))]) (by decide +kernel) (Nat.le_of_ble_eq_true rfl) (fun X => sf_X3_joinsGroup G X i0 x1  h) hl b hb
-- DriverBook$Code.add(IIIIII)V
def f_X3_add (i0 : Nat) (x1 : Int32) (x2 : Int32) (x3 : Int32) (x4 : Int32) (x5 : Int32) (x6 : Int32) (h : mH) : Option (mH) :=
  if (h.1 3 i0 1) < 48 then
    if mIn (((h.1 3 i0 1) * 6) + 0) 288 = true then
    mLet (uI h 32 i0 (((h.1 3 i0 1) * 6) + 0).toNatClampNeg x1) fun h3 =>
    if mIn (((h.1 3 i0 1) * 6) + 1) 288 = true then
    mLet (uI h3 32 i0 (((h.1 3 i0 1) * 6) + 1).toNatClampNeg x2) fun h5 =>
    if mIn (((h.1 3 i0 1) * 6) + 2) 288 = true then
    mLet (uI h5 32 i0 (((h.1 3 i0 1) * 6) + 2).toNatClampNeg x3) fun h7 =>
    if mIn (((h.1 3 i0 1) * 6) + 3) 288 = true then
    mLet (uI h7 32 i0 (((h.1 3 i0 1) * 6) + 3).toNatClampNeg x4) fun h9 =>
    if mIn (((h.1 3 i0 1) * 6) + 4) 288 = true then
    mLet (uI h9 32 i0 (((h.1 3 i0 1) * 6) + 4).toNatClampNeg x5) fun h11 =>
    if mIn (((h.1 3 i0 1) * 6) + 5) 288 = true then
    mLet (uI h11 32 i0 (((h.1 3 i0 1) * 6) + 5).toNatClampNeg x6) fun h13 =>
    some (uI h13 3 i0 1 ((h13.1 3 i0 1) + 1))
    else none
    else none
    else none
    else none
    else none
    else none
  else
    some h
set_option maxRecDepth 20000 in
theorem sf_X3_add (G : mG) (X : mX) (i0 : Nat) (x1 : Int32) (x2 : Int32) (x3 : Int32) (x4 : Int32) (x5 : Int32) (x6 : Int32)  (h : mH) : Sim G X cX3_add 8 RX3 none (mRoom 0 0) eV (f_X3_add i0 x1 x2 x3 x4 x5 x6 h) 0 [(0, .inr (.inr (3, i0))), (1, .inl x1), (2, .inl x2), (3, .inl x3), (4, .inl x4), (5, .inl x5), (6, .inl x6)] [] h := by
  unfold f_X3_add
  refine s_aload0 0 rfl dX3_add_0 ?_
  refine s_gi gI_RX3_15 dX3_add_1 ?_
  refine s_bip 48 kb_48 dX3_add_4 ?_
  refine s_ic_lt (tgt := 10) dX3_add_6 (by decide) (fun q1 => ?_) (fun q1 => ?_)
  · skip
    refine s_aload0 0 rfl dX3_add_10 ?_
    refine s_gi gI_RX3_15 dX3_add_11 ?_
    refine s_bip 6 kb_6 dX3_add_14 ?_
    refine s_imul dX3_add_16 ?_
    refine s_istorew [(7, .inl ((h.1 3 i0 1) * 6)), (0, .inr (.inr (3, i0))), (1, .inl x1), (2, .inl x2), (3, .inl x3), (4, .inl x4), (5, .inl x5), (6, .inl x6)] rfl rfl dX3_add_17 ?_
    refine s_aload0 1 rfl dX3_add_19 ?_
    refine s_gr (gR_RX3_11 i0) dX3_add_20 ?_
    refine s_iload 0 rfl dX3_add_23 ?_
    refine s_k0 dX3_add_25 ?_
    refine s_iadd dX3_add_26 ?_
    refine s_iload1 2 rfl dX3_add_27 ?_
    refine s_chk (fun q2 => ?_)
    refine s_ias aT_32 q2 dX3_add_28 ?_
    refine s_aload0 1 rfl dX3_add_29 ?_
    refine s_gr (gR_RX3_11 i0) dX3_add_30 ?_
    refine s_iload 0 rfl dX3_add_33 ?_
    refine s_k1 dX3_add_35 ?_
    refine s_iadd dX3_add_36 ?_
    refine s_iload2 3 rfl dX3_add_37 ?_
    refine s_let (fun h3 => ?_)
    refine s_chk (fun q4 => ?_)
    refine s_ias aT_32 q4 dX3_add_38 ?_
    refine s_aload0 1 rfl dX3_add_39 ?_
    refine s_gr (gR_RX3_11 i0) dX3_add_40 ?_
    refine s_iload 0 rfl dX3_add_43 ?_
    refine s_k2 dX3_add_45 ?_
    refine s_iadd dX3_add_46 ?_
    refine s_iload3 4 rfl dX3_add_47 ?_
    refine s_let (fun h5 => ?_)
    refine s_chk (fun q6 => ?_)
    refine s_ias aT_32 q6 dX3_add_48 ?_
    refine s_aload0 1 rfl dX3_add_49 ?_
    refine s_gr (gR_RX3_11 i0) dX3_add_50 ?_
    refine s_iload 0 rfl dX3_add_53 ?_
    refine s_k3 dX3_add_55 ?_
    refine s_iadd dX3_add_56 ?_
    refine s_iload 5 rfl dX3_add_57 ?_
    refine s_let (fun h7 => ?_)
    refine s_chk (fun q8 => ?_)
    refine s_ias aT_32 q8 dX3_add_59 ?_
    refine s_aload0 1 rfl dX3_add_60 ?_
    refine s_gr (gR_RX3_11 i0) dX3_add_61 ?_
    refine s_iload 0 rfl dX3_add_64 ?_
    refine s_k4 dX3_add_66 ?_
    refine s_iadd dX3_add_67 ?_
    refine s_iload 6 rfl dX3_add_68 ?_
    refine s_let (fun h9 => ?_)
    refine s_chk (fun q10 => ?_)
    refine s_ias aT_32 q10 dX3_add_70 ?_
    refine s_aload0 1 rfl dX3_add_71 ?_
    refine s_gr (gR_RX3_11 i0) dX3_add_72 ?_
    refine s_iload 0 rfl dX3_add_75 ?_
    refine s_k5 dX3_add_77 ?_
    refine s_iadd dX3_add_78 ?_
    refine s_iload 7 rfl dX3_add_79 ?_
    refine s_let (fun h11 => ?_)
    refine s_chk (fun q12 => ?_)
    refine s_ias aT_32 q12 dX3_add_81 ?_
    refine s_aload0 1 rfl dX3_add_82 ?_
    refine s_dup rfl dX3_add_83 ?_
    refine s_let (fun h13 => ?_)
    refine s_gi gI_RX3_15 dX3_add_84 ?_
    refine s_k1 dX3_add_87 ?_
    refine s_iadd dX3_add_88 ?_
    refine s_pi pI_RX3_15 dX3_add_89 ?_
    exact s_return rfl rfl dX3_add_92
  · skip
    exact s_return rfl rfl dX3_add_9
set_option maxRecDepth 20000 in
theorem cf_X3_add (G : mG) (l : Launch) (i0 : Nat) (x1 : Int32) (x2 : Int32) (x3 : Int32) (x4 : Int32) (x5 : Int32) (x6 : Int32)  (h : mH) (b : mH) (hb : f_X3_add i0 x1 x2 x3 x4 x5 x6 h = some b) (hl : ∀ v ∈ ([.inr (.inr (3, i0)), .inl x1, .inl x2, .inl x3, .inl x4, .inl x5, .inl x6] : List mV), mLi v) : mMet G l yX3_add cX3_add 8 none (mRoom 0 0) [.inr (.inr (3, i0)), .inl x1, .inl x2, .inl x3, .inl x4, .inl x5, .inl x6] h (eV b) :=
  mMet.of (y := yX3_add) (as := [.inr (.inr (3, i0)), .inl x1, .inl x2, .inl x3, .inl x4, .inl x5, .inl x6]) (by decide +kernel) (Nat.le_of_ble_eq_true rfl) (fun X => sf_X3_add G X i0 x1 x2 x3 x4 x5 x6  h) hl b hb
