-- DriverBook$Course.next()V
def f_X4_next (i0 : Nat) (h : mH) : Option (mH) :=
  mLet (uI h 4 i0 0 ((h.1 4 i0 0) + 1)) fun h1 =>
  some (uI h1 4 i0 1 0)
set_option maxRecDepth 20000 in
theorem sf_X4_next (G : mG) (X : mX) (i0 : Nat)  (h : mH) : Sim G X cX4_next 1 RX4 none (mRoom 0 0) eV (f_X4_next i0 h) 0 [(0, .inr (.inr (4, i0)))] [] h := by
  unfold f_X4_next
  refine s_aload0 0 rfl dX4_next_0 ?_
  refine s_dup rfl dX4_next_1 ?_
  refine s_gi gI_RX4_7 dX4_next_2 ?_
  refine s_k1 dX4_next_5 ?_
  refine s_iadd dX4_next_6 ?_
  refine s_pi pI_RX4_7 dX4_next_7 ?_
  refine s_aload0 0 rfl dX4_next_10 ?_
  refine s_k0 dX4_next_11 ?_
  refine s_let (fun h1 => ?_)
  refine s_pi pI_RX4_13 dX4_next_12 ?_
  exact s_return rfl rfl dX4_next_15
set_option maxRecDepth 20000 in
theorem cf_X4_next (G : mG) (l : Launch) (i0 : Nat)  (h : mH) (b : mH) (hb : f_X4_next i0 h = some b) (hl : ∀ v ∈ ([.inr (.inr (4, i0))] : List mV), mLi v) : mMet G l yX4_next cX4_next 1 none (mRoom 0 0) [.inr (.inr (4, i0))] h (eV b) :=
  mMet.of (y := yX4_next) (as := [.inr (.inr (4, i0))]) (by decide +kernel) (Nat.le_of_ble_eq_true rfl) (fun X => sf_X4_next G X i0  h) hl b hb
-- DriverBook$Driver.calledAct()I
def f_X5_calledAct_2 (k : Int32 → mH → Option (Int32 × mH))  : Nat → Int32 → mH → Option (Int32 × mH)
  | 0, _, _ => none
  | n + 1, v1, h =>
    if v1 < (h.1 1 0 4) then
      if mIn v1 24 = true then
      if (h.1 6 v1.toNatClampNeg 9) < 0 then
        f_X5_calledAct_2 k  n (v1 + 1) h
      else
        if (h.1 33 0 v1.toNatClampNeg) = 0 then
          f_X5_calledAct_2 k  n (v1 + 1) h
        else
          some (h.1 6 v1.toNatClampNeg 9, h)
      else none
    else
      k v1 h
def f_X5_calledAct  (h : mH) : Option (Int32 × mH) :=
  f_X5_calledAct_2 (fun u5 h6 =>
    some ((-1), h6))  mFu 0 h
set_option maxRecDepth 20000 in
theorem sf_X5_calledAct_2 (G : mG) (X : mX)   (k : Int32 → mH → Option (Int32 × mH)) (hk : ∀ (v1 : Int32) (h : mH), Sim G X cX5_calledAct 2 RX5 (some .int) (mRoom 0 0) eI (k v1 h) 59 [(0, .inr (.inr (5, 0))), (1, .inl v1)] [] h) (n : Nat) : ∀ (v1 : Int32) (h : mH), Sim G X cX5_calledAct 2 RX5 (some .int) (mRoom 0 0) eI (f_X5_calledAct_2 k  n v1 h) 2 [(0, .inr (.inr (5, 0))), (1, .inl v1)] [] h := by
  induction n with
  | zero =>
    intro v1 h
    exact s_none
  | succ n ih =>
    intro v1 h
    unfold f_X5_calledAct_2
    refine s_iload1 1 rfl dX5_calledAct_2 ?_
    refine s_aload0 0 rfl dX5_calledAct_3 ?_
    refine s_gr (gR_RX5_27 0) dX5_calledAct_4 ?_
    refine s_gi gI_RX5_85 dX5_calledAct_7 ?_
    refine s_ic_ge (tgt := 59) dX5_calledAct_10 (by decide) (fun q1 => ?_) (fun q1 => ?_)
    · skip
      exact s_loc [0, 1] rfl (hk v1 h)
    · skip
      refine s_aload0 0 rfl dX5_calledAct_13 ?_
      refine s_gr (gR_RX5_27 0) dX5_calledAct_14 ?_
      refine s_gr (gR_RX5_88 0) dX5_calledAct_17 ?_
      refine s_iload1 1 rfl dX5_calledAct_20 ?_
      refine s_chk (fun q2 => ?_)
      refine s_aal (aR_24 0 v1) q2 dX5_calledAct_21 ?_
      refine s_gi gI_RX5_92 dX5_calledAct_22 ?_
      refine s_if_lt (tgt := 53) dX5_calledAct_25 (by decide) (fun q3 => ?_) (fun q3 => ?_)
      · skip
        refine s_iincw 1 (by decide) 1 [(1, .inl (v1 + 1)), (0, .inr (.inr (5, 0)))] rfl rfl rfl dX5_calledAct_53 ?_
        refine s_goto (tgt := 2) dX5_calledAct_56 (by decide) ?_
        exact s_loc [1, 0] rfl (ih (v1 + 1) h)
      · skip
        refine s_aload0 0 rfl dX5_calledAct_28 ?_
        refine s_gr (gR_RX5_31 0) dX5_calledAct_29 ?_
        refine s_gr (gR_RX5_97 0) dX5_calledAct_32 ?_
        refine s_iload1 1 rfl dX5_calledAct_35 ?_
        refine s_ial aT_33 q2 dX5_calledAct_36 ?_
        refine s_if_eq (tgt := 53) dX5_calledAct_37 (by decide) (fun q4 => ?_) (fun q4 => ?_)
        · skip
          refine s_iincw 1 (by decide) 1 [(1, .inl (v1 + 1)), (0, .inr (.inr (5, 0)))] rfl rfl rfl dX5_calledAct_53 ?_
          refine s_goto (tgt := 2) dX5_calledAct_56 (by decide) ?_
          exact s_loc [1, 0] rfl (ih (v1 + 1) h)
        · skip
          refine s_aload0 0 rfl dX5_calledAct_40 ?_
          refine s_gr (gR_RX5_27 0) dX5_calledAct_41 ?_
          refine s_gr (gR_RX5_88 0) dX5_calledAct_44 ?_
          refine s_iload1 1 rfl dX5_calledAct_47 ?_
          refine s_aal (aR_24 0 v1) q2 dX5_calledAct_48 ?_
          refine s_gi gI_RX5_92 dX5_calledAct_49 ?_
          exact s_ireturn rfl rfl dX5_calledAct_52
set_option maxRecDepth 20000 in
theorem sf_X5_calledAct (G : mG) (X : mX)   (h : mH) : Sim G X cX5_calledAct 2 RX5 (some .int) (mRoom 0 0) eI (f_X5_calledAct  h) 0 [(0, .inr (.inr (5, 0)))] [] h := by
  unfold f_X5_calledAct
  refine s_k0 dX5_calledAct_0 ?_
  refine s_istore1 [(1, .inl 0), (0, .inr (.inr (5, 0)))] rfl rfl dX5_calledAct_1 ?_
  refine s_loc [1, 0] rfl ?_
  refine sf_X5_calledAct_2 G X  _ (fun u5 h6 => ?_) mFu 0 h
  · skip
    refine s_km1 dX5_calledAct_59 ?_
    exact s_ireturn rfl rfl dX5_calledAct_60
set_option maxRecDepth 20000 in
theorem cf_X5_calledAct (G : mG) (l : Launch)   (h : mH) (b : Int32 × mH) (hb : f_X5_calledAct  h = some b) (hl : ∀ v ∈ ([.inr (.inr (5, 0))] : List mV), mLi v) : mMet G l yX5_calledAct cX5_calledAct 2 (some .int) (mRoom 0 0) [.inr (.inr (5, 0))] h (eI b) :=
  mMet.of (y := yX5_calledAct) (as := [.inr (.inr (5, 0))]) (by decide +kernel) (Nat.le_of_ble_eq_true rfl) (fun X => sf_X5_calledAct G X   h) hl b hb
-- DriverBook$Driver.numberToWrite(LDriverBook$Code;LDriverBook$Course;)I
def f_X5_numberToWrite (i1 : Nat) (i2 : Nat) (h : mH) : Option (Int32 × mH) :=
  (f_X3_part i1 (h.1 4 i2 0) 4 h).bind fun r1 =>
  (f_X3_part i1 (r1.2.1 4 i2 0) 3 r1.2).bind fun r2 =>
  (f_X3_part i1 (r2.2.1 4 i2 0) 2 r2.2).bind fun r3 =>
  if r3.1 = 1 then
    some (r1.1 ||| (r2.1 &&& (r3.2.1 4 i2 2)), r3.2)
  else
  if r3.1 = 2 then
    (f_X3_part i1 (r3.2.1 4 i2 0) 1 r3.2).bind fun r6 =>
    if mIn r6.1 8 = true then
    some (r1.1 ||| (r2.1 &&& (r6.2.1 38 0 r6.1.toNatClampNeg)), r6.2)
    else none
  else
    some (r1.1, r3.2)
set_option maxRecDepth 20000 in
theorem sf_X5_numberToWrite (G : mG) (X : mX) (i1 : Nat) (i2 : Nat)  (h : mH) : Sim G X cX5_numberToWrite 5 RX5 (some .int) (mRoom 1 22) eI (f_X5_numberToWrite i1 i2 h) 0 [(0, .inr (.inr (5, 0))), (1, .inr (.inr (3, i1))), (2, .inr (.inr (4, i2)))] [] h := by
  unfold f_X5_numberToWrite
  refine s_aload1 1 rfl dX5_numberToWrite_0 ?_
  refine s_aload2 2 rfl dX5_numberToWrite_1 ?_
  refine s_gi gI_RX5_101 dX5_numberToWrite_2 ?_
  refine s_k4 dX5_numberToWrite_5 ?_
  refine s_viI [.inl (h.1 4 i2 0), .inl 4] (fun l b hb hl => cf_X3_part G l i1 (h.1 4 i2 0) 4 h b hb hl) me_X3_part vi_RX5_104 rfl rfl rfl rfl rfl dX5_numberToWrite_6 (fun r1 => ?_)
  refine s_istore3 [(3, .inl r1.1), (0, .inr (.inr (5, 0))), (1, .inr (.inr (3, i1))), (2, .inr (.inr (4, i2)))] rfl rfl dX5_numberToWrite_9 ?_
  refine s_aload1 2 rfl dX5_numberToWrite_10 ?_
  refine s_aload2 3 rfl dX5_numberToWrite_11 ?_
  refine s_gi gI_RX5_101 dX5_numberToWrite_12 ?_
  refine s_k3 dX5_numberToWrite_15 ?_
  refine s_viI [.inl (r1.2.1 4 i2 0), .inl 3] (fun l b hb hl => cf_X3_part G l i1 (r1.2.1 4 i2 0) 3 r1.2 b hb hl) me_X3_part vi_RX5_104 rfl rfl rfl rfl rfl dX5_numberToWrite_16 (fun r2 => ?_)
  refine s_istorew [(4, .inl r2.1), (3, .inl r1.1), (0, .inr (.inr (5, 0))), (1, .inr (.inr (3, i1))), (2, .inr (.inr (4, i2)))] rfl rfl dX5_numberToWrite_19 ?_
  refine s_aload1 3 rfl dX5_numberToWrite_21 ?_
  refine s_aload2 4 rfl dX5_numberToWrite_22 ?_
  refine s_gi gI_RX5_101 dX5_numberToWrite_23 ?_
  refine s_k2 dX5_numberToWrite_26 ?_
  refine s_viI [.inl (r2.2.1 4 i2 0), .inl 2] (fun l b hb hl => cf_X3_part G l i1 (r2.2.1 4 i2 0) 2 r2.2 b hb hl) me_X3_part vi_RX5_104 rfl rfl rfl rfl rfl dX5_numberToWrite_27 (fun r3 => ?_)
  refine s_case (fun q4 => ?_) (fun q4 => ?_)
  · skip
    refine s_lokP dX5_numberToWrite_30 1 q4 (by decide) 56 (by decide) ?_
    refine s_iload3 1 rfl dX5_numberToWrite_56 ?_
    refine s_iload 0 rfl dX5_numberToWrite_57 ?_
    refine s_aload2 4 rfl dX5_numberToWrite_59 ?_
    refine s_gi gI_RX5_114 dX5_numberToWrite_60 ?_
    refine s_iand dX5_numberToWrite_63 ?_
    refine s_ior dX5_numberToWrite_64 ?_
    exact s_ireturn rfl rfl dX5_numberToWrite_65
  refine s_case (fun q5 => ?_) (fun q5 => ?_)
  · skip
    refine s_lokP dX5_numberToWrite_30 2 q5 (by decide) 66 (by decide) ?_
    refine s_iload3 1 rfl dX5_numberToWrite_66 ?_
    refine s_iload 0 rfl dX5_numberToWrite_67 ?_
    refine s_aload0 2 rfl dX5_numberToWrite_69 ?_
    refine s_gr (gR_RX5_31 0) dX5_numberToWrite_70 ?_
    refine s_gr (gR_RX5_124 0) dX5_numberToWrite_73 ?_
    refine s_aload1 3 rfl dX5_numberToWrite_76 ?_
    refine s_aload2 4 rfl dX5_numberToWrite_77 ?_
    refine s_gi gI_RX5_101 dX5_numberToWrite_78 ?_
    refine s_k1 dX5_numberToWrite_81 ?_
    refine s_viI [.inl (r3.2.1 4 i2 0), .inl 1] (fun l b hb hl => cf_X3_part G l i1 (r3.2.1 4 i2 0) 1 r3.2 b hb hl) me_X3_part vi_RX5_104 rfl rfl rfl rfl rfl dX5_numberToWrite_82 (fun r6 => ?_)
    refine s_chk (fun q7 => ?_)
    refine s_ial aT_38 q7 dX5_numberToWrite_85 ?_
    refine s_iand dX5_numberToWrite_86 ?_
    refine s_ior dX5_numberToWrite_87 ?_
    exact s_ireturn rfl rfl dX5_numberToWrite_88
  refine s_lokD dX5_numberToWrite_30 [1, 2] (by refine List.forall_mem_cons.mpr ⟨q4, ?_⟩; refine List.forall_mem_cons.mpr ⟨q5, ?_⟩; exact fun _ z => absurd z List.not_mem_nil) (by decide) (by decide) 89 (by decide) ?_
  · skip
    refine s_iload3 1 rfl dX5_numberToWrite_89 ?_
    exact s_ireturn rfl rfl dX5_numberToWrite_90
set_option maxRecDepth 20000 in
theorem cf_X5_numberToWrite (G : mG) (l : Launch) (i1 : Nat) (i2 : Nat)  (h : mH) (b : Int32 × mH) (hb : f_X5_numberToWrite i1 i2 h = some b) (hl : ∀ v ∈ ([.inr (.inr (5, 0)), .inr (.inr (3, i1)), .inr (.inr (4, i2))] : List mV), mLi v) : mMet G l yX5_numberToWrite cX5_numberToWrite 5 (some .int) (mRoom 1 22) [.inr (.inr (5, 0)), .inr (.inr (3, i1)), .inr (.inr (4, i2))] h (eI b) :=
  mMet.of (y := yX5_numberToWrite) (as := [.inr (.inr (5, 0)), .inr (.inr (3, i1)), .inr (.inr (4, i2))]) (by decide +kernel) (Nat.le_of_ble_eq_true rfl) (fun X => sf_X5_numberToWrite G X i1 i2  h) hl b hb
-- DriverBook$Driver.endPollBeat(LDriverBook$Code;LDriverBook$Course;)V
def f_X5_endPollBeat (i1 : Nat) (i2 : Nat) (h : mH) : Option (mH) :=
  mLet (uI h 4 i2 1 ((h.1 4 i2 1) + 1)) fun h1 =>
  (f_X3_part i1 (h1.1 4 i2 0) 3 h1).bind fun r2 =>
  (f_X3_part i1 (r2.2.1 4 i2 0) 4 r2.2).bind fun r3 =>
  if ((h1.1 4 i2 2) &&& r2.1) = r3.1 then
    (f_X4_next i2 r3.2).bind fun r7 =>
    some r7
  else
    (f_X3_part i1 (r3.2.1 4 i2 0) 5 r3.2).bind fun r5 =>
    if (r3.2.1 4 i2 1) ≤ r5.1 then
      some r5.2
    else
      some (uI r5.2 4 i2 3 1)
set_option maxRecDepth 20000 in
theorem sf_X5_endPollBeat (G : mG) (X : mX) (i1 : Nat) (i2 : Nat)  (h : mH) : Sim G X cX5_endPollBeat 3 RX5 none (mRoom 1 22) eV (f_X5_endPollBeat i1 i2 h) 0 [(0, .inr (.inr (5, 0))), (1, .inr (.inr (3, i1))), (2, .inr (.inr (4, i2)))] [] h := by
  unfold f_X5_endPollBeat
  refine s_aload2 2 rfl dX5_endPollBeat_0 ?_
  refine s_dup rfl dX5_endPollBeat_1 ?_
  refine s_gi gI_RX5_140 dX5_endPollBeat_2 ?_
  refine s_k1 dX5_endPollBeat_5 ?_
  refine s_iadd dX5_endPollBeat_6 ?_
  refine s_pi pI_RX5_140 dX5_endPollBeat_7 ?_
  refine s_aload2 2 rfl dX5_endPollBeat_10 ?_
  refine s_let (fun h1 => ?_)
  refine s_gi gI_RX5_114 dX5_endPollBeat_11 ?_
  refine s_aload1 1 rfl dX5_endPollBeat_14 ?_
  refine s_aload2 2 rfl dX5_endPollBeat_15 ?_
  refine s_gi gI_RX5_101 dX5_endPollBeat_16 ?_
  refine s_k3 dX5_endPollBeat_19 ?_
  refine s_viI [.inl (h1.1 4 i2 0), .inl 3] (fun l b hb hl => cf_X3_part G l i1 (h1.1 4 i2 0) 3 h1 b hb hl) me_X3_part vi_RX5_104 rfl rfl rfl rfl rfl dX5_endPollBeat_20 (fun r2 => ?_)
  refine s_iand dX5_endPollBeat_23 ?_
  refine s_aload1 1 rfl dX5_endPollBeat_24 ?_
  refine s_aload2 2 rfl dX5_endPollBeat_25 ?_
  refine s_gi gI_RX5_101 dX5_endPollBeat_26 ?_
  refine s_k4 dX5_endPollBeat_29 ?_
  refine s_viI [.inl (r2.2.1 4 i2 0), .inl 4] (fun l b hb hl => cf_X3_part G l i1 (r2.2.1 4 i2 0) 4 r2.2 b hb hl) me_X3_part vi_RX5_104 rfl rfl rfl rfl rfl dX5_endPollBeat_30 (fun r3 => ?_)
  refine s_ic_ne (tgt := 43) dX5_endPollBeat_33 (by decide) (fun q4 => ?_) (fun q4 => ?_)
  · skip
    refine s_aload2 2 rfl dX5_endPollBeat_43 ?_
    refine s_gi gI_RX5_140 dX5_endPollBeat_44 ?_
    refine s_aload1 1 rfl dX5_endPollBeat_47 ?_
    refine s_aload2 2 rfl dX5_endPollBeat_48 ?_
    refine s_gi gI_RX5_101 dX5_endPollBeat_49 ?_
    refine s_k5 dX5_endPollBeat_52 ?_
    refine s_viI [.inl (r3.2.1 4 i2 0), .inl 5] (fun l b hb hl => cf_X3_part G l i1 (r3.2.1 4 i2 0) 5 r3.2 b hb hl) me_X3_part vi_RX5_104 rfl rfl rfl rfl rfl dX5_endPollBeat_53 (fun r5 => ?_)
    refine s_ic_le (tgt := 64) dX5_endPollBeat_56 (by decide) (fun q6 => ?_) (fun q6 => ?_)
    · skip
      exact s_return rfl rfl dX5_endPollBeat_64
    · skip
      refine s_aload2 2 rfl dX5_endPollBeat_59 ?_
      refine s_k1 dX5_endPollBeat_60 ?_
      refine s_pz pI_RX5_65 (Or.inr rfl) dX5_endPollBeat_61 ?_
      exact s_return rfl rfl dX5_endPollBeat_64
  · skip
    refine s_aload2 2 rfl dX5_endPollBeat_36 ?_
    refine s_viV [] (fun l b hb hl => cf_X4_next G l i2 r3.2 b hb hl) me_X4_next vi_RX5_117 rfl rfl rfl rfl rfl dX5_endPollBeat_37 (fun r7 => ?_)
    refine s_goto (tgt := 64) dX5_endPollBeat_40 (by decide) ?_
    exact s_return rfl rfl dX5_endPollBeat_64
set_option maxRecDepth 20000 in
theorem cf_X5_endPollBeat (G : mG) (l : Launch) (i1 : Nat) (i2 : Nat)  (h : mH) (b : mH) (hb : f_X5_endPollBeat i1 i2 h = some b) (hl : ∀ v ∈ ([.inr (.inr (5, 0)), .inr (.inr (3, i1)), .inr (.inr (4, i2))] : List mV), mLi v) : mMet G l yX5_endPollBeat cX5_endPollBeat 3 none (mRoom 1 22) [.inr (.inr (5, 0)), .inr (.inr (3, i1)), .inr (.inr (4, i2))] h (eV b) :=
  mMet.of (y := yX5_endPollBeat) (as := [.inr (.inr (5, 0)), .inr (.inr (3, i1)), .inr (.inr (4, i2))]) (by decide +kernel) (Nat.le_of_ble_eq_true rfl) (fun X => sf_X5_endPollBeat G X i1 i2  h) hl b hb
-- DriverBook$Driver.pick(II)V
def f_X5_pick (x1 : Int32) (x2 : Int32) (h : mH) : Option (mH) :=
  if mIn x1 24 = true then
  if (h.1 6 x1.toNatClampNeg 3) = 3 then
    mLet (uI h 8 0 11 (h.1 36 0 x1.toNatClampNeg)) fun h4 =>
    some (uI h4 36 0 x1.toNatClampNeg 0)
  else
    (f_X6_bitsIn x1.toNatClampNeg x2 h).bind fun r3 =>
    some (uI r3.2 8 0 11 r3.1)
  else none
set_option maxRecDepth 20000 in
theorem sf_X5_pick (G : mG) (X : mX) (x1 : Int32) (x2 : Int32)  (h : mH) : Sim G X cX5_pick 4 RX5 none (mRoom 1 21) eV (f_X5_pick x1 x2 h) 0 [(0, .inr (.inr (5, 0))), (1, .inl x1), (2, .inl x2)] [] h := by
  unfold f_X5_pick
  refine s_aload0 0 rfl dX5_pick_0 ?_
  refine s_gr (gR_RX5_27 0) dX5_pick_1 ?_
  refine s_gr (gR_RX5_88 0) dX5_pick_4 ?_
  refine s_iload1 1 rfl dX5_pick_7 ?_
  refine s_chk (fun q1 => ?_)
  refine s_aal (aR_24 0 x1) q1 dX5_pick_8 ?_
  refine s_astore3 [(3, .inr (.inr (6, x1.toNatClampNeg))), (0, .inr (.inr (5, 0))), (1, .inl x1), (2, .inl x2)] rfl rfl dX5_pick_9 ?_
  refine s_aload3 0 rfl dX5_pick_10 ?_
  refine s_gi gI_RX5_146 dX5_pick_11 ?_
  refine s_k3 dX5_pick_14 ?_
  refine s_ic_ne (tgt := 47) dX5_pick_15 (by decide) (fun q2 => ?_) (fun q2 => ?_)
  · skip
    refine s_aload0 1 rfl dX5_pick_47 ?_
    refine s_gr (gR_RX5_31 0) dX5_pick_48 ?_
    refine s_aload3 0 rfl dX5_pick_51 ?_
    refine s_iload2 3 rfl dX5_pick_52 ?_
    refine s_viI [.inl x2] (fun l b hb hl => cf_X6_bitsIn G l x1.toNatClampNeg x2 h b hb hl) me_X6_bitsIn vi_RX5_152 rfl rfl rfl rfl rfl dX5_pick_53 (fun r3 => ?_)
    refine s_pi pI_RX5_76 dX5_pick_56 ?_
    exact s_return rfl rfl dX5_pick_59
  · skip
    refine s_aload0 1 rfl dX5_pick_18 ?_
    refine s_gr (gR_RX5_31 0) dX5_pick_19 ?_
    refine s_aload0 1 rfl dX5_pick_22 ?_
    refine s_gr (gR_RX5_31 0) dX5_pick_23 ?_
    refine s_gr (gR_RX5_149 0) dX5_pick_26 ?_
    refine s_iload1 2 rfl dX5_pick_29 ?_
    refine s_ial aT_36 q1 dX5_pick_30 ?_
    refine s_pi pI_RX5_76 dX5_pick_31 ?_
    refine s_aload0 1 rfl dX5_pick_34 ?_
    refine s_gr (gR_RX5_31 0) dX5_pick_35 ?_
    refine s_gr (gR_RX5_149 0) dX5_pick_38 ?_
    refine s_iload1 2 rfl dX5_pick_41 ?_
    refine s_k0 dX5_pick_42 ?_
    refine s_let (fun h4 => ?_)
    refine s_ias aT_36 q1 dX5_pick_43 ?_
    refine s_goto (tgt := 59) dX5_pick_44 (by decide) ?_
    exact s_return rfl rfl dX5_pick_59
set_option maxRecDepth 20000 in
theorem cf_X5_pick (G : mG) (l : Launch) (x1 : Int32) (x2 : Int32)  (h : mH) (b : mH) (hb : f_X5_pick x1 x2 h = some b) (hl : ∀ v ∈ ([.inr (.inr (5, 0)), .inl x1, .inl x2] : List mV), mLi v) : mMet G l yX5_pick cX5_pick 4 none (mRoom 1 21) [.inr (.inr (5, 0)), .inl x1, .inl x2] h (eV b) :=
  mMet.of (y := yX5_pick) (as := [.inr (.inr (5, 0)), .inl x1, .inl x2]) (by decide +kernel) (Nat.le_of_ble_eq_true rfl) (fun X => sf_X5_pick G X x1 x2  h) hl b hb
-- DriverBook$Driver.beat(LDriverBook$Code;LDriverBook$Course;)V
def f_X5_beat (i1 : Nat) (i2 : Nat) (h : mH) : Option (mH) :=
  (f_X3_part i1 (h.1 4 i2 0) 1 h).bind fun r1 =>
  (f_X3_part i1 (r1.2.1 4 i2 0) 0 r1.2).bind fun r2 =>
  if r2.1 = 0 then
    (f_X2_readRegister r1.1 1 r2.2).bind fun r4 =>
    (f_X4_next i2 (uI r4.2 4 i2 2 r4.1)).bind fun r5 =>
    some r5
  else
  if r2.1 = 1 then
    (f_X5_numberToWrite i1 i2 r2.2).bind fun r7 =>
    if mIn r1.1 8 = true then
    (f_X2_writeRegister r1.1 r7.1 (uI r7.2 38 0 r1.1.toNatClampNeg (r7.1 &&& (r7.2.1 30 0 r1.1.toNatClampNeg)))).bind fun r9 =>
    (f_X4_next i2 r9).bind fun r10 =>
    some r10
    else none
  else
  if r2.1 = 2 then
    (f_X2_readRegister r1.1 1 r2.2).bind fun r12 =>
    (f_X5_endPollBeat i1 i2 (uI r12.2 4 i2 2 r12.1)).bind fun r13 =>
    some r13
  else
  if r2.1 = 3 then
    (f_X2_tick  r2.2).bind fun r15 =>
    mLet (uI r15 4 i2 1 ((r15.1 4 i2 1) + 1)) fun h16 =>
    if (h16.1 4 i2 1) < r1.1 then
      some h16
    else
      (f_X4_next i2 h16).bind fun r18 =>
      some r18
  else
  if r2.1 = 4 then
    (f_X5_pick r1.1 (r2.2.1 4 i2 2) r2.2).bind fun r20 =>
    (f_X4_next i2 r20).bind fun r21 =>
    some r21
  else
    (f_X3_part i1 (r2.2.1 4 i2 0) 0 r2.2).bind fun r22 =>
    if r22.1 = 5 then
      (f_X4_next i2 (uI r22.2 5 0 5 1)).bind fun r25 =>
      some r25
    else
      (f_X4_next i2 (uI r22.2 5 0 5 0)).bind fun r24 =>
      some r24
set_option maxRecDepth 20000 in
theorem sf_X5_beat (G : mG) (X : mX) (i1 : Nat) (i2 : Nat)  (h : mH) : Sim G X cX5_beat 5 RX5 none (mRoom 3 72) eV (f_X5_beat i1 i2 h) 0 [(0, .inr (.inr (5, 0))), (1, .inr (.inr (3, i1))), (2, .inr (.inr (4, i2)))] [] h := by
  unfold f_X5_beat
  refine s_aload1 1 rfl dX5_beat_0 ?_
  refine s_aload2 2 rfl dX5_beat_1 ?_
  refine s_gi gI_RX5_101 dX5_beat_2 ?_
  refine s_k1 dX5_beat_5 ?_
  refine s_viI [.inl (h.1 4 i2 0), .inl 1] (fun l b hb hl => cf_X3_part G l i1 (h.1 4 i2 0) 1 h b hb hl) me_X3_part vi_RX5_104 rfl rfl rfl rfl rfl dX5_beat_6 (fun r1 => ?_)
  refine s_istore3 [(3, .inl r1.1), (0, .inr (.inr (5, 0))), (1, .inr (.inr (3, i1))), (2, .inr (.inr (4, i2)))] rfl rfl dX5_beat_9 ?_
  refine s_aload1 2 rfl dX5_beat_10 ?_
  refine s_aload2 3 rfl dX5_beat_11 ?_
  refine s_gi gI_RX5_101 dX5_beat_12 ?_
  refine s_k0 dX5_beat_15 ?_
  refine s_viI [.inl (r1.2.1 4 i2 0), .inl 0] (fun l b hb hl => cf_X3_part G l i1 (r1.2.1 4 i2 0) 0 r1.2 b hb hl) me_X3_part vi_RX5_104 rfl rfl rfl rfl rfl dX5_beat_16 (fun r2 => ?_)
  refine s_case (fun q3 => ?_) (fun q3 => ?_)
  · skip
    refine s_tabP dX5_beat_19 0 q3 52 (by decide) (by decide) ?_
    refine s_aload2 3 rfl dX5_beat_52 ?_
    refine s_aload0 1 rfl dX5_beat_53 ?_
    refine s_gr (gR_RX5_35 0) dX5_beat_54 ?_
    refine s_iload3 0 rfl dX5_beat_57 ?_
    refine s_k1 dX5_beat_58 ?_
    refine s_viI [.inl r1.1, .inl 1] (fun l b hb hl => cf_X2_readRegister G l r1.1 1 r2.2 b hb hl) me_X2_readRegister vi_RX5_108 rfl rfl rfl rfl rfl dX5_beat_59 (fun r4 => ?_)
    refine s_pi pI_RX5_114 dX5_beat_62 ?_
    refine s_aload2 3 rfl dX5_beat_65 ?_
    refine s_viV [] (fun l b hb hl => cf_X4_next G l i2 (uI r4.2 4 i2 2 r4.1) b hb hl) me_X4_next vi_RX5_117 rfl rfl rfl rfl rfl dX5_beat_66 (fun r5 => ?_)
    refine s_goto (tgt := 214) dX5_beat_69 (by decide) ?_
    exact s_return rfl rfl dX5_beat_214
  refine s_case (fun q6 => ?_) (fun q6 => ?_)
  · skip
    refine s_tabP dX5_beat_19 1 q6 72 (by decide) (by decide) ?_
    refine s_aload0 1 rfl dX5_beat_72 ?_
    refine s_aload1 2 rfl dX5_beat_73 ?_
    refine s_aload2 3 rfl dX5_beat_74 ?_
    refine s_viI [.inr (.inr (3, i1)), .inr (.inr (4, i2))] (fun l b hb hl => cf_X5_numberToWrite G l i1 i2 r2.2 b hb hl) me_X5_numberToWrite vi_RX5_120 rfl rfl rfl rfl rfl dX5_beat_75 (fun r7 => ?_)
    refine s_istorew [(4, .inl r7.1), (3, .inl r1.1), (0, .inr (.inr (5, 0))), (1, .inr (.inr (3, i1))), (2, .inr (.inr (4, i2)))] rfl rfl dX5_beat_78 ?_
    refine s_aload0 2 rfl dX5_beat_80 ?_
    refine s_gr (gR_RX5_31 0) dX5_beat_81 ?_
    refine s_gr (gR_RX5_124 0) dX5_beat_84 ?_
    refine s_iload3 1 rfl dX5_beat_87 ?_
    refine s_iload 0 rfl dX5_beat_88 ?_
    refine s_aload0 2 rfl dX5_beat_90 ?_
    refine s_gr (gR_RX5_35 0) dX5_beat_91 ?_
    refine s_gr (gR_RX5_127 0) dX5_beat_94 ?_
    refine s_iload3 1 rfl dX5_beat_97 ?_
    refine s_chk (fun q8 => ?_)
    refine s_ial aT_30 q8 dX5_beat_98 ?_
    refine s_iand dX5_beat_99 ?_
    refine s_ias aT_38 q8 dX5_beat_100 ?_
    refine s_aload0 2 rfl dX5_beat_101 ?_
    refine s_gr (gR_RX5_35 0) dX5_beat_102 ?_
    refine s_iload3 1 rfl dX5_beat_105 ?_
    refine s_iload 0 rfl dX5_beat_106 ?_
    refine s_viV [.inl r1.1, .inl r7.1] (fun l b hb hl => cf_X2_writeRegister G l r1.1 r7.1 (uI r7.2 38 0 r1.1.toNatClampNeg (r7.1 &&& (r7.2.1 30 0 r1.1.toNatClampNeg))) b hb hl) me_X2_writeRegister vi_RX5_130 rfl rfl rfl rfl rfl dX5_beat_108 (fun r9 => ?_)
    refine s_aload2 4 rfl dX5_beat_111 ?_
    refine s_viV [] (fun l b hb hl => cf_X4_next G l i2 r9 b hb hl) me_X4_next vi_RX5_117 rfl rfl rfl rfl rfl dX5_beat_112 (fun r10 => ?_)
    refine s_goto (tgt := 214) dX5_beat_115 (by decide) ?_
    exact s_return rfl rfl dX5_beat_214
  refine s_case (fun q11 => ?_) (fun q11 => ?_)
  · skip
    refine s_tabP dX5_beat_19 2 q11 118 (by decide) (by decide) ?_
    refine s_aload2 3 rfl dX5_beat_118 ?_
    refine s_aload0 1 rfl dX5_beat_119 ?_
    refine s_gr (gR_RX5_35 0) dX5_beat_120 ?_
    refine s_iload3 0 rfl dX5_beat_123 ?_
    refine s_k1 dX5_beat_124 ?_
    refine s_viI [.inl r1.1, .inl 1] (fun l b hb hl => cf_X2_readRegister G l r1.1 1 r2.2 b hb hl) me_X2_readRegister vi_RX5_108 rfl rfl rfl rfl rfl dX5_beat_125 (fun r12 => ?_)
    refine s_pi pI_RX5_114 dX5_beat_128 ?_
    refine s_aload0 1 rfl dX5_beat_131 ?_
    refine s_aload1 2 rfl dX5_beat_132 ?_
    refine s_aload2 3 rfl dX5_beat_133 ?_
    refine s_viV [.inr (.inr (3, i1)), .inr (.inr (4, i2))] (fun l b hb hl => cf_X5_endPollBeat G l i1 i2 (uI r12.2 4 i2 2 r12.1) b hb hl) me_X5_endPollBeat vi_RX5_134 rfl rfl rfl rfl rfl dX5_beat_134 (fun r13 => ?_)
    refine s_goto (tgt := 214) dX5_beat_137 (by decide) ?_
    exact s_return rfl rfl dX5_beat_214
  refine s_case (fun q14 => ?_) (fun q14 => ?_)
  · skip
    refine s_tabP dX5_beat_19 3 q14 140 (by decide) (by decide) ?_
    refine s_aload0 1 rfl dX5_beat_140 ?_
    refine s_gr (gR_RX5_35 0) dX5_beat_141 ?_
    refine s_viV [] (fun l b hb hl => cf_X2_tick G l  r2.2 b hb hl) me_X2_tick vi_RX5_137 rfl rfl rfl rfl rfl dX5_beat_144 (fun r15 => ?_)
    refine s_aload2 3 rfl dX5_beat_147 ?_
    refine s_dup rfl dX5_beat_148 ?_
    refine s_gi gI_RX5_140 dX5_beat_149 ?_
    refine s_k1 dX5_beat_152 ?_
    refine s_iadd dX5_beat_153 ?_
    refine s_pi pI_RX5_140 dX5_beat_154 ?_
    refine s_aload2 3 rfl dX5_beat_157 ?_
    refine s_let (fun h16 => ?_)
    refine s_gi gI_RX5_140 dX5_beat_158 ?_
    refine s_iload3 0 rfl dX5_beat_161 ?_
    refine s_ic_lt (tgt := 214) dX5_beat_162 (by decide) (fun q17 => ?_) (fun q17 => ?_)
    · skip
      exact s_return rfl rfl dX5_beat_214
    · skip
      refine s_aload2 3 rfl dX5_beat_165 ?_
      refine s_viV [] (fun l b hb hl => cf_X4_next G l i2 h16 b hb hl) me_X4_next vi_RX5_117 rfl rfl rfl rfl rfl dX5_beat_166 (fun r18 => ?_)
      refine s_goto (tgt := 214) dX5_beat_169 (by decide) ?_
      exact s_return rfl rfl dX5_beat_214
  refine s_case (fun q19 => ?_) (fun q19 => ?_)
  · skip
    refine s_tabP dX5_beat_19 4 q19 172 (by decide) (by decide) ?_
    refine s_aload0 1 rfl dX5_beat_172 ?_
    refine s_iload3 0 rfl dX5_beat_173 ?_
    refine s_aload2 3 rfl dX5_beat_174 ?_
    refine s_gi gI_RX5_114 dX5_beat_175 ?_
    refine s_viV [.inl r1.1, .inl (r2.2.1 4 i2 2)] (fun l b hb hl => cf_X5_pick G l r1.1 (r2.2.1 4 i2 2) r2.2 b hb hl) me_X5_pick vi_RX5_143 rfl rfl rfl rfl rfl dX5_beat_178 (fun r20 => ?_)
    refine s_aload2 3 rfl dX5_beat_181 ?_
    refine s_viV [] (fun l b hb hl => cf_X4_next G l i2 r20 b hb hl) me_X4_next vi_RX5_117 rfl rfl rfl rfl rfl dX5_beat_182 (fun r21 => ?_)
    refine s_goto (tgt := 214) dX5_beat_185 (by decide) ?_
    exact s_return rfl rfl dX5_beat_214
  refine s_tabD dX5_beat_19 [0, 1, 2, 3, 4] (by refine List.forall_mem_cons.mpr ⟨q3, ?_⟩; refine List.forall_mem_cons.mpr ⟨q6, ?_⟩; refine List.forall_mem_cons.mpr ⟨q11, ?_⟩; refine List.forall_mem_cons.mpr ⟨q14, ?_⟩; refine List.forall_mem_cons.mpr ⟨q19, ?_⟩; exact fun _ z => absurd z List.not_mem_nil) (by decide) (by decide) 188 (by decide) ?_
  · skip
    refine s_aload0 1 rfl dX5_beat_188 ?_
    refine s_aload1 2 rfl dX5_beat_189 ?_
    refine s_aload2 3 rfl dX5_beat_190 ?_
    refine s_gi gI_RX5_101 dX5_beat_191 ?_
    refine s_k0 dX5_beat_194 ?_
    refine s_viI [.inl (r2.2.1 4 i2 0), .inl 0] (fun l b hb hl => cf_X3_part G l i1 (r2.2.1 4 i2 0) 0 r2.2 b hb hl) me_X3_part vi_RX5_104 rfl rfl rfl rfl rfl dX5_beat_195 (fun r22 => ?_)
    refine s_k5 dX5_beat_198 ?_
    refine s_ic_ne (tgt := 206) dX5_beat_199 (by decide) (fun q23 => ?_) (fun q23 => ?_)
    · skip
      refine s_k0 dX5_beat_206 ?_
      refine s_pz pI_RX5_23 (Or.inl rfl) dX5_beat_207 ?_
      refine s_aload2 3 rfl dX5_beat_210 ?_
      refine s_viV [] (fun l b hb hl => cf_X4_next G l i2 (uI r22.2 5 0 5 0) b hb hl) me_X4_next vi_RX5_117 rfl rfl rfl rfl rfl dX5_beat_211 (fun r24 => ?_)
      exact s_return rfl rfl dX5_beat_214
    · skip
      refine s_k1 dX5_beat_202 ?_
      refine s_goto (tgt := 207) dX5_beat_203 (by decide) ?_
      refine s_pz pI_RX5_23 (Or.inr rfl) dX5_beat_207 ?_
      refine s_aload2 3 rfl dX5_beat_210 ?_
      refine s_viV [] (fun l b hb hl => cf_X4_next G l i2 (uI r22.2 5 0 5 1) b hb hl) me_X4_next vi_RX5_117 rfl rfl rfl rfl rfl dX5_beat_211 (fun r25 => ?_)
      exact s_return rfl rfl dX5_beat_214
set_option maxRecDepth 20000 in
theorem cf_X5_beat (G : mG) (l : Launch) (i1 : Nat) (i2 : Nat)  (h : mH) (b : mH) (hb : f_X5_beat i1 i2 h = some b) (hl : ∀ v ∈ ([.inr (.inr (5, 0)), .inr (.inr (3, i1)), .inr (.inr (4, i2))] : List mV), mLi v) : mMet G l yX5_beat cX5_beat 5 none (mRoom 3 72) [.inr (.inr (5, 0)), .inr (.inr (3, i1)), .inr (.inr (4, i2))] h (eV b) :=
  mMet.of (y := yX5_beat) (as := [.inr (.inr (5, 0)), .inr (.inr (3, i1)), .inr (.inr (4, i2))]) (by decide +kernel) (Nat.le_of_ble_eq_true rfl) (fun X => sf_X5_beat G X i1 i2  h) hl b hb
-- DriverBook$Driver.serve()V
def f_X5_serve_64 (k : Int32 → Int32 → Int32 → mH → Option (mH)) (j3 : Nat) : Nat → Int32 → Int32 → Int32 → mH → Option (mH)
  | 0, _, _, _, _ => none
  | n + 1, v1, v4, v5, h =>
    if v5 < 1008 then
      (f_X4_goesOn 1 j3 h).bind fun r9 =>
      if r9.1 = 0 then
        k v1 v4 v5 r9.2
      else
        (f_X5_beat j3 1 r9.2).bind fun r11 =>
        f_X5_serve_64 k j3 n v1 v4 (v5 + 1) r11
    else
      k v1 v4 v5 h
def f_X5_serve_2 (k : Int32 → mH → Option (mH))  : Nat → Int32 → mH → Option (mH)
  | 0, _, _ => none
  | n + 1, v1, h =>
    if v1 < 8 then
      if (h.1 5 0 5) = 0 then
        (f_X5_calledAct  h).bind fun r3 =>
        (f_X1_hasAct r3.1 r3.2).bind fun r4 =>
        if r4.1 = 0 then
          some r4.2
        else
          if mIn r3.1 6 = true then
          (f_X4_start 1 r4.2).bind fun r7 =>
          f_X5_serve_64 (fun u12 u13 u14 h15 =>
            mLet (uI h15 8 0 11 u13) fun h16 =>
            f_X5_serve_2 k  n (u12 + 1) (uI h16 8 0 12 ((h16.1 8 0 12) + 1))) r3.1.toNatClampNeg mFu v1 (r4.2.1 8 0 11) 0 r7
          else none
      else
        k v1 h
    else
      k v1 h
def f_X5_serve  (h : mH) : Option (mH) :=
  f_X5_serve_2 (fun u17 h18 =>
    some h18)  mFu 0 h
set_option maxRecDepth 20000 in
theorem sf_X5_serve_64 (G : mG) (X : mX) (j3 : Nat)  (k : Int32 → Int32 → Int32 → mH → Option (mH)) (hk : ∀ (v1 : Int32) (v4 : Int32) (v5 : Int32) (h : mH), Sim G X cX5_serve 6 RX5 none (mRoom 4 96) eV (k v1 v4 v5 h) 98 [(0, .inr (.inr (5, 0))), (1, .inl v1), (3, .inr (.inr (3, j3))), (4, .inl v4), (5, .inl v5)] [] h) (n : Nat) : ∀ (v1 : Int32) (v4 : Int32) (v5 : Int32) (h : mH), Sim G X cX5_serve 6 RX5 none (mRoom 4 96) eV (f_X5_serve_64 k j3 n v1 v4 v5 h) 64 [(0, .inr (.inr (5, 0))), (1, .inl v1), (3, .inr (.inr (3, j3))), (4, .inl v4), (5, .inl v5)] [] h := by
  induction n with
  | zero =>
    intro v1 v4 v5 h
    exact s_none
  | succ n ih =>
    intro v1 v4 v5 h
    unfold f_X5_serve_64
    refine s_iload 4 rfl dX5_serve_64 ?_
    refine s_sip 1008 ks_1008 dX5_serve_66 ?_
    refine s_ic_ge (tgt := 98) dX5_serve_69 (by decide) (fun q8 => ?_) (fun q8 => ?_)
    · skip
      exact s_loc [0, 1, 2, 3, 4] rfl (hk v1 v4 v5 h)
    · skip
      refine s_aload0 0 rfl dX5_serve_72 ?_
      refine s_gr (gR_RX5_20 0) dX5_serve_73 ?_
      refine s_aload3 2 rfl dX5_serve_76 ?_
      refine s_viI [.inr (.inr (3, j3))] (fun l b hb hl => cf_X4_goesOn G l 1 j3 h b hb hl) me_X4_goesOn vi_RX5_54 rfl rfl rfl rfl rfl dX5_serve_77 (fun r9 => ?_)
      refine s_if_eq (tgt := 98) dX5_serve_80 (by decide) (fun q10 => ?_) (fun q10 => ?_)
      · skip
        exact s_loc [0, 1, 2, 3, 4] rfl (hk v1 v4 v5 r9.2)
      · skip
        refine s_aload0 0 rfl dX5_serve_83 ?_
        refine s_aload3 2 rfl dX5_serve_84 ?_
        refine s_aload0 0 rfl dX5_serve_85 ?_
        refine s_gr (gR_RX5_20 0) dX5_serve_86 ?_
        refine s_viV [.inr (.inr (3, j3)), .inr (.inr (4, 1))] (fun l b hb hl => cf_X5_beat G l j3 1 r9.2 b hb hl) me_X5_beat vi_RX5_61 rfl rfl rfl rfl rfl dX5_serve_89 (fun r11 => ?_)
        refine s_iincw 1 (by decide) 4 [(5, .inl (v5 + 1)), (0, .inr (.inr (5, 0))), (1, .inl v1), (3, .inr (.inr (3, j3))), (4, .inl v4)] rfl rfl rfl dX5_serve_92 ?_
        refine s_goto (tgt := 64) dX5_serve_95 (by decide) ?_
        exact s_loc [1, 2, 3, 4, 0] rfl (ih v1 v4 (v5 + 1) r11)
set_option maxRecDepth 20000 in
theorem sf_X5_serve_2 (G : mG) (X : mX)   (k : Int32 → mH → Option (mH)) (hk : ∀ (v1 : Int32) (h : mH), Sim G X cX5_serve 6 RX5 none (mRoom 4 96) eV (k v1 h) 126 [(0, .inr (.inr (5, 0))), (1, .inl v1)] [] h) (n : Nat) : ∀ (v1 : Int32) (h : mH), Sim G X cX5_serve 6 RX5 none (mRoom 4 96) eV (f_X5_serve_2 k  n v1 h) 2 [(0, .inr (.inr (5, 0))), (1, .inl v1)] [] h := by
  induction n with
  | zero =>
    intro v1 h
    exact s_none
  | succ n ih =>
    intro v1 h
    unfold f_X5_serve_2
    refine s_iload1 1 rfl dX5_serve_2 ?_
    refine s_bip 8 kb_8 dX5_serve_3 ?_
    refine s_ic_ge (tgt := 126) dX5_serve_5 (by decide) (fun q1 => ?_) (fun q1 => ?_)
    · skip
      exact s_loc [0, 1] rfl (hk v1 h)
    · skip
      refine s_aload0 0 rfl dX5_serve_8 ?_
      refine s_gi gI_RX5_23 dX5_serve_9 ?_
      refine s_if_ne (tgt := 126) dX5_serve_12 (by decide) (fun q2 => ?_) (fun q2 => ?_)
      · skip
        exact s_loc [0, 1] rfl (hk v1 h)
      · skip
        refine s_aload0 0 rfl dX5_serve_15 ?_
        refine s_viI [] (fun l b hb hl => cf_X5_calledAct G l  h b hb hl) me_X5_calledAct vi_RX5_68 rfl rfl rfl rfl rfl dX5_serve_16 (fun r3 => ?_)
        refine s_istore2 [(2, .inl r3.1), (0, .inr (.inr (5, 0))), (1, .inl v1)] rfl rfl dX5_serve_19 ?_
        refine s_aload0 1 rfl dX5_serve_20 ?_
        refine s_gr (gR_RX5_27 0) dX5_serve_21 ?_
        refine s_iload2 0 rfl dX5_serve_24 ?_
        refine s_viI [.inl r3.1] (fun l b hb hl => cf_X1_hasAct G l r3.1 r3.2 b hb hl) me_X1_hasAct vi_RX5_72 rfl rfl rfl rfl rfl dX5_serve_25 (fun r4 => ?_)
        refine s_if_ne (tgt := 32) dX5_serve_28 (by decide) (fun q5 => ?_) (fun q5 => ?_)
        · skip
          refine s_aload0 1 rfl dX5_serve_32 ?_
          refine s_gr (gR_RX5_27 0) dX5_serve_33 ?_
          refine s_gr (gR_RX5_39 0) dX5_serve_36 ?_
          refine s_iload2 0 rfl dX5_serve_39 ?_
          refine s_chk (fun q6 => ?_)
          refine s_aal (aR_26 0 r3.1) q6 dX5_serve_40 ?_
          refine s_gr (gR_RX5_45 r3.1.toNatClampNeg) dX5_serve_41 ?_
          refine s_astore3 [(3, .inr (.inr (3, r3.1.toNatClampNeg))), (2, .inl r3.1), (0, .inr (.inr (5, 0))), (1, .inl v1)] rfl rfl dX5_serve_44 ?_
          refine s_aload0 2 rfl dX5_serve_45 ?_
          refine s_gr (gR_RX5_31 0) dX5_serve_46 ?_
          refine s_gi gI_RX5_76 dX5_serve_49 ?_
          refine s_istorew [(4, .inl (r4.2.1 8 0 11)), (3, .inr (.inr (3, r3.1.toNatClampNeg))), (2, .inl r3.1), (0, .inr (.inr (5, 0))), (1, .inl v1)] rfl rfl dX5_serve_52 ?_
          refine s_aload0 3 rfl dX5_serve_54 ?_
          refine s_gr (gR_RX5_20 0) dX5_serve_55 ?_
          refine s_viV [] (fun l b hb hl => cf_X4_start G l 1 r4.2 b hb hl) me_X4_start vi_RX5_51 rfl rfl rfl rfl rfl dX5_serve_58 (fun r7 => ?_)
          refine s_k0 dX5_serve_61 ?_
          refine s_istorew [(5, .inl 0), (4, .inl (r4.2.1 8 0 11)), (3, .inr (.inr (3, r3.1.toNatClampNeg))), (2, .inl r3.1), (0, .inr (.inr (5, 0))), (1, .inl v1)] rfl rfl dX5_serve_62 ?_
          refine s_loc [4, 5, 2, 1, 0] rfl ?_
          refine sf_X5_serve_64 G X r3.1.toNatClampNeg _ (fun u12 u13 u14 h15 => ?_) mFu v1 (r4.2.1 8 0 11) 0 r7
          · skip
            refine s_aload0 0 rfl dX5_serve_98 ?_
            refine s_gr (gR_RX5_31 0) dX5_serve_99 ?_
            refine s_iload 3 rfl dX5_serve_102 ?_
            refine s_pi pI_RX5_76 dX5_serve_104 ?_
            refine s_aload0 0 rfl dX5_serve_107 ?_
            refine s_gr (gR_RX5_31 0) dX5_serve_108 ?_
            refine s_dup rfl dX5_serve_111 ?_
            refine s_let (fun h16 => ?_)
            refine s_gi gI_RX5_82 dX5_serve_112 ?_
            refine s_k1 dX5_serve_115 ?_
            refine s_iadd dX5_serve_116 ?_
            refine s_pi pI_RX5_82 dX5_serve_117 ?_
            refine s_iincw 1 (by decide) 1 [(1, .inl (u12 + 1)), (0, .inr (.inr (5, 0))), (3, .inr (.inr (3, r3.1.toNatClampNeg))), (4, .inl u13), (5, .inl u14)] rfl rfl rfl dX5_serve_120 ?_
            refine s_goto (tgt := 2) dX5_serve_123 (by decide) ?_
            exact s_loc [1, 0] rfl (ih (u12 + 1) (uI h16 8 0 12 ((h16.1 8 0 12) + 1)))
        · skip
          exact s_return rfl rfl dX5_serve_31
set_option maxRecDepth 20000 in
theorem sf_X5_serve (G : mG) (X : mX)   (h : mH) : Sim G X cX5_serve 6 RX5 none (mRoom 4 96) eV (f_X5_serve  h) 0 [(0, .inr (.inr (5, 0)))] [] h := by
  unfold f_X5_serve
  refine s_k0 dX5_serve_0 ?_
  refine s_istore1 [(1, .inl 0), (0, .inr (.inr (5, 0)))] rfl rfl dX5_serve_1 ?_
  refine s_loc [1, 0] rfl ?_
  refine sf_X5_serve_2 G X  _ (fun u17 h18 => ?_) mFu 0 h
  · skip
    exact s_return rfl rfl dX5_serve_126
set_option maxRecDepth 20000 in
theorem cf_X5_serve (G : mG) (l : Launch)   (h : mH) (b : mH) (hb : f_X5_serve  h = some b) (hl : ∀ v ∈ ([.inr (.inr (5, 0))] : List mV), mLi v) : mMet G l yX5_serve cX5_serve 6 none (mRoom 4 96) [.inr (.inr (5, 0))] h (eV b) :=
  mMet.of (y := yX5_serve) (as := [.inr (.inr (5, 0))]) (by decide +kernel) (Nat.le_of_ble_eq_true rfl) (fun X => sf_X5_serve G X   h) hl b hb
-- DriverBook$Driver.runAct(I)Z
def f_X5_runAct_27 (k : Int32 → mH → Option (Int32 × mH)) (j2 : Nat) : Nat → Int32 → mH → Option (Int32 × mH)
  | 0, _, _ => none
  | n + 1, v3, h =>
    if v3 < 1008 then
      (f_X4_goesOn 0 j2 h).bind fun r4 =>
      if r4.1 = 0 then
        k v3 r4.2
      else
        (f_X5_serve  r4.2).bind fun r6 =>
        (f_X5_beat j2 0 r6).bind fun r7 =>
        f_X5_runAct_27 k j2 n (v3 + 1) r7
    else
      k v3 h
def f_X5_runAct (x1 : Int32) (h : mH) : Option (Int32 × mH) :=
  if mIn x1 6 = true then
  (f_X4_start 0 (uI h 5 0 5 0)).bind fun r2 =>
  f_X5_runAct_27 (fun u8 h9 =>
    (f_X5_serve  (uI h9 5 0 5 0)).bind fun r10 =>
    if (r10.1 4 0 3) = 0 then
      some (1, r10)
    else
      some (0, r10)) x1.toNatClampNeg mFu 0 r2
  else none
set_option maxRecDepth 20000 in
theorem sf_X5_runAct_27 (G : mG) (X : mX) (j2 : Nat)  (k : Int32 → mH → Option (Int32 × mH)) (hk : ∀ (v3 : Int32) (h : mH), Sim G X cX5_runAct 4 RX5 (some .boolean) (mRoom 5 121) eI (k v3 h) 64 [(0, .inr (.inr (5, 0))), (2, .inr (.inr (3, j2))), (3, .inl v3)] [] h) (n : Nat) : ∀ (v3 : Int32) (h : mH), Sim G X cX5_runAct 4 RX5 (some .boolean) (mRoom 5 121) eI (f_X5_runAct_27 k j2 n v3 h) 27 [(0, .inr (.inr (5, 0))), (2, .inr (.inr (3, j2))), (3, .inl v3)] [] h := by
  induction n with
  | zero =>
    intro v3 h
    exact s_none
  | succ n ih =>
    intro v3 h
    unfold f_X5_runAct_27
    refine s_iload3 2 rfl dX5_runAct_27 ?_
    refine s_sip 1008 ks_1008 dX5_runAct_28 ?_
    refine s_ic_ge (tgt := 64) dX5_runAct_31 (by decide) (fun q3 => ?_) (fun q3 => ?_)
    · skip
      exact s_loc [0, 1, 2] rfl (hk v3 h)
    · skip
      refine s_aload0 0 rfl dX5_runAct_34 ?_
      refine s_gr (gR_RX5_14 0) dX5_runAct_35 ?_
      refine s_aload2 1 rfl dX5_runAct_38 ?_
      refine s_viI [.inr (.inr (3, j2))] (fun l b hb hl => cf_X4_goesOn G l 0 j2 h b hb hl) me_X4_goesOn vi_RX5_54 rfl rfl rfl rfl rfl dX5_runAct_39 (fun r4 => ?_)
      refine s_if_eq (tgt := 64) dX5_runAct_42 (by decide) (fun q5 => ?_) (fun q5 => ?_)
      · skip
        exact s_loc [0, 1, 2] rfl (hk v3 r4.2)
      · skip
        refine s_aload0 0 rfl dX5_runAct_45 ?_
        refine s_viV [] (fun l b hb hl => cf_X5_serve G l  r4.2 b hb hl) me_X5_serve vi_RX5_58 rfl rfl rfl rfl rfl dX5_runAct_46 (fun r6 => ?_)
        refine s_aload0 0 rfl dX5_runAct_49 ?_
        refine s_aload2 1 rfl dX5_runAct_50 ?_
        refine s_aload0 0 rfl dX5_runAct_51 ?_
        refine s_gr (gR_RX5_14 0) dX5_runAct_52 ?_
        refine s_viV [.inr (.inr (3, j2)), .inr (.inr (4, 0))] (fun l b hb hl => cf_X5_beat G l j2 0 r6 b hb hl) me_X5_beat vi_RX5_61 rfl rfl rfl rfl rfl dX5_runAct_55 (fun r7 => ?_)
        refine s_iincw 1 (by decide) 2 [(3, .inl (v3 + 1)), (0, .inr (.inr (5, 0))), (2, .inr (.inr (3, j2)))] rfl rfl rfl dX5_runAct_58 ?_
        refine s_goto (tgt := 27) dX5_runAct_61 (by decide) ?_
        exact s_loc [1, 2, 0] rfl (ih (v3 + 1) r7)
set_option maxRecDepth 20000 in
theorem sf_X5_runAct (G : mG) (X : mX) (x1 : Int32)  (h : mH) : Sim G X cX5_runAct 4 RX5 (some .boolean) (mRoom 5 121) eI (f_X5_runAct x1 h) 0 [(0, .inr (.inr (5, 0))), (1, .inl x1)] [] h := by
  unfold f_X5_runAct
  refine s_aload0 0 rfl dX5_runAct_0 ?_
  refine s_gr (gR_RX5_27 0) dX5_runAct_1 ?_
  refine s_gr (gR_RX5_39 0) dX5_runAct_4 ?_
  refine s_iload1 1 rfl dX5_runAct_7 ?_
  refine s_chk (fun q1 => ?_)
  refine s_aal (aR_26 0 x1) q1 dX5_runAct_8 ?_
  refine s_gr (gR_RX5_45 x1.toNatClampNeg) dX5_runAct_9 ?_
  refine s_astore2 [(2, .inr (.inr (3, x1.toNatClampNeg))), (0, .inr (.inr (5, 0))), (1, .inl x1)] rfl rfl dX5_runAct_12 ?_
  refine s_aload0 1 rfl dX5_runAct_13 ?_
  refine s_k0 dX5_runAct_14 ?_
  refine s_pz pI_RX5_23 (Or.inl rfl) dX5_runAct_15 ?_
  refine s_aload0 1 rfl dX5_runAct_18 ?_
  refine s_gr (gR_RX5_14 0) dX5_runAct_19 ?_
  refine s_viV [] (fun l b hb hl => cf_X4_start G l 0 (uI h 5 0 5 0) b hb hl) me_X4_start vi_RX5_51 rfl rfl rfl rfl rfl dX5_runAct_22 (fun r2 => ?_)
  refine s_k0 dX5_runAct_25 ?_
  refine s_istore3 [(3, .inl 0), (2, .inr (.inr (3, x1.toNatClampNeg))), (0, .inr (.inr (5, 0))), (1, .inl x1)] rfl rfl dX5_runAct_26 ?_
  refine s_loc [2, 1, 0] rfl ?_
  refine sf_X5_runAct_27 G X x1.toNatClampNeg _ (fun u8 h9 => ?_) mFu 0 r2
  · skip
    refine s_aload0 0 rfl dX5_runAct_64 ?_
    refine s_k0 dX5_runAct_65 ?_
    refine s_pz pI_RX5_23 (Or.inl rfl) dX5_runAct_66 ?_
    refine s_aload0 0 rfl dX5_runAct_69 ?_
    refine s_viV [] (fun l b hb hl => cf_X5_serve G l  (uI h9 5 0 5 0) b hb hl) me_X5_serve vi_RX5_58 rfl rfl rfl rfl rfl dX5_runAct_70 (fun r10 => ?_)
    refine s_aload0 0 rfl dX5_runAct_73 ?_
    refine s_gr (gR_RX5_14 0) dX5_runAct_74 ?_
    refine s_gi gI_RX5_65 dX5_runAct_77 ?_
    refine s_if_ne (tgt := 87) dX5_runAct_80 (by decide) (fun q11 => ?_) (fun q11 => ?_)
    · skip
      refine s_k0 dX5_runAct_87 ?_
      exact s_zreturn rfl rfl (Or.inl rfl) dX5_runAct_88
    · skip
      refine s_k1 dX5_runAct_83 ?_
      refine s_goto (tgt := 88) dX5_runAct_84 (by decide) ?_
      exact s_zreturn rfl rfl (Or.inr rfl) dX5_runAct_88
set_option maxRecDepth 20000 in
theorem cf_X5_runAct (G : mG) (l : Launch) (x1 : Int32)  (h : mH) (b : Int32 × mH) (hb : f_X5_runAct x1 h = some b) (hl : ∀ v ∈ ([.inr (.inr (5, 0)), .inl x1] : List mV), mLi v) : mMet G l yX5_runAct cX5_runAct 4 (some .boolean) (mRoom 5 121) [.inr (.inr (5, 0)), .inl x1] h (eI b) :=
  mMet.of (y := yX5_runAct) (as := [.inr (.inr (5, 0)), .inl x1]) (by decide +kernel) (Nat.le_of_ble_eq_true rfl) (fun X => sf_X5_runAct G X x1  h) hl b hb
-- DriverBook$State.takeFrom(LDriverBook$State;)V
def f_X8_takeFrom (i0 : Nat) (i1 : Nat) (h : mH) : Option (mH) :=
  mLet (cpI h 33 i1 33 i0 (0 : Int32).toNatClampNeg (0 : Int32).toNatClampNeg (24 : Int32).toNatClampNeg) fun h1 =>
  mLet (cpI h1 34 i1 34 i0 (0 : Int32).toNatClampNeg (0 : Int32).toNatClampNeg (24 : Int32).toNatClampNeg) fun h2 =>
  mLet (cpI h2 35 i1 35 i0 (0 : Int32).toNatClampNeg (0 : Int32).toNatClampNeg (24 : Int32).toNatClampNeg) fun h3 =>
  mLet (cpI h3 36 i1 36 i0 (0 : Int32).toNatClampNeg (0 : Int32).toNatClampNeg (24 : Int32).toNatClampNeg) fun h4 =>
  mLet (cpJ h4 37 i1 37 i0 (0 : Int32).toNatClampNeg (0 : Int32).toNatClampNeg (24 : Int32).toNatClampNeg) fun h5 =>
  mLet (cpI h5 38 i1 38 i0 (0 : Int32).toNatClampNeg (0 : Int32).toNatClampNeg (8 : Int32).toNatClampNeg) fun h6 =>
  mLet (cpI h6 39 i1 39 i0 (0 : Int32).toNatClampNeg (0 : Int32).toNatClampNeg (16 : Int32).toNatClampNeg) fun h7 =>
  mLet (cpI h7 40 i1 40 i0 (0 : Int32).toNatClampNeg (0 : Int32).toNatClampNeg (16 : Int32).toNatClampNeg) fun h8 =>
  mLet (cpJ h8 41 i1 41 i0 (0 : Int32).toNatClampNeg (0 : Int32).toNatClampNeg (16 : Int32).toNatClampNeg) fun h9 =>
  mLet (uI h9 8 i0 9 (h9.1 8 i1 9)) fun h10 =>
  mLet (uJ h10 8 i0 10 (h10.2 8 i1 10)) fun h11 =>
  mLet (uI h11 8 i0 11 (h11.1 8 i1 11)) fun h12 =>
  mLet (uI h12 8 i0 12 (h12.1 8 i1 12)) fun h13 =>
  mLet (uJ h13 8 i0 13 (h13.2 8 i1 13)) fun h14 =>
  mLet (uI h14 8 i0 14 (h14.1 8 i1 14)) fun h15 =>
  some (uJ h15 8 i0 15 (h15.2 8 i1 15))
set_option maxRecDepth 20000 in
theorem sf_X8_takeFrom (G : mG) (X : mX) (i0 : Nat) (i1 : Nat)  (h : mH) : Sim G X cX8_takeFrom 2 RX8 none (mRoom 1 64) eV (f_X8_takeFrom i0 i1 h) 0 [(0, .inr (.inr (8, i0))), (1, .inr (.inr (8, i1)))] [] h := by
  unfold f_X8_takeFrom
  refine s_aload1 1 rfl dX8_takeFrom_0 ?_
  refine s_gr (gR_RX8_9 i1) dX8_takeFrom_1 ?_
  refine s_k0 dX8_takeFrom_4 ?_
  refine s_aload0 0 rfl dX8_takeFrom_5 ?_
  refine s_gr (gR_RX8_9 i0) dX8_takeFrom_6 ?_
  refine s_k0 dX8_takeFrom_9 ?_
  refine s_bip 24 kb_24 dX8_takeFrom_10 ?_
  refine s_cpI aT_33 aT_33 (by decide) km_RX8_74 rfl rfl dX8_takeFrom_12 ?_
  refine s_aload1 1 rfl dX8_takeFrom_15 ?_
  refine s_gr (gR_RX8_15 i1) dX8_takeFrom_16 ?_
  refine s_k0 dX8_takeFrom_19 ?_
  refine s_aload0 0 rfl dX8_takeFrom_20 ?_
  refine s_gr (gR_RX8_15 i0) dX8_takeFrom_21 ?_
  refine s_k0 dX8_takeFrom_24 ?_
  refine s_bip 24 kb_24 dX8_takeFrom_25 ?_
  refine s_let (fun h1 => ?_)
  refine s_cpI aT_34 aT_34 (by decide) km_RX8_74 rfl rfl dX8_takeFrom_27 ?_
  refine s_aload1 1 rfl dX8_takeFrom_30 ?_
  refine s_gr (gR_RX8_18 i1) dX8_takeFrom_31 ?_
  refine s_k0 dX8_takeFrom_34 ?_
  refine s_aload0 0 rfl dX8_takeFrom_35 ?_
  refine s_gr (gR_RX8_18 i0) dX8_takeFrom_36 ?_
  refine s_k0 dX8_takeFrom_39 ?_
  refine s_bip 24 kb_24 dX8_takeFrom_40 ?_
  refine s_let (fun h2 => ?_)
  refine s_cpI aT_35 aT_35 (by decide) km_RX8_74 rfl rfl dX8_takeFrom_42 ?_
  refine s_aload1 1 rfl dX8_takeFrom_45 ?_
  refine s_gr (gR_RX8_21 i1) dX8_takeFrom_46 ?_
  refine s_k0 dX8_takeFrom_49 ?_
  refine s_aload0 0 rfl dX8_takeFrom_50 ?_
  refine s_gr (gR_RX8_21 i0) dX8_takeFrom_51 ?_
  refine s_k0 dX8_takeFrom_54 ?_
  refine s_bip 24 kb_24 dX8_takeFrom_55 ?_
  refine s_let (fun h3 => ?_)
  refine s_cpI aT_36 aT_36 (by decide) km_RX8_74 rfl rfl dX8_takeFrom_57 ?_
  refine s_aload1 1 rfl dX8_takeFrom_60 ?_
  refine s_gr (gR_RX8_24 i1) dX8_takeFrom_61 ?_
  refine s_k0 dX8_takeFrom_64 ?_
  refine s_aload0 0 rfl dX8_takeFrom_65 ?_
  refine s_gr (gR_RX8_24 i0) dX8_takeFrom_66 ?_
  refine s_k0 dX8_takeFrom_69 ?_
  refine s_bip 24 kb_24 dX8_takeFrom_70 ?_
  refine s_let (fun h4 => ?_)
  refine s_cpJ aT_37 aT_37 (by decide) km_RX8_74 rfl rfl dX8_takeFrom_72 ?_
  refine s_aload1 1 rfl dX8_takeFrom_75 ?_
  refine s_gr (gR_RX8_28 i1) dX8_takeFrom_76 ?_
  refine s_k0 dX8_takeFrom_79 ?_
  refine s_aload0 0 rfl dX8_takeFrom_80 ?_
  refine s_gr (gR_RX8_28 i0) dX8_takeFrom_81 ?_
  refine s_k0 dX8_takeFrom_84 ?_
  refine s_bip 8 kb_8 dX8_takeFrom_85 ?_
  refine s_let (fun h5 => ?_)
  refine s_cpI aT_38 aT_38 (by decide) km_RX8_74 rfl rfl dX8_takeFrom_87 ?_
  refine s_aload1 1 rfl dX8_takeFrom_90 ?_
  refine s_gr (gR_RX8_31 i1) dX8_takeFrom_91 ?_
  refine s_k0 dX8_takeFrom_94 ?_
  refine s_aload0 0 rfl dX8_takeFrom_95 ?_
  refine s_gr (gR_RX8_31 i0) dX8_takeFrom_96 ?_
  refine s_k0 dX8_takeFrom_99 ?_
  refine s_bip 16 kb_16 dX8_takeFrom_100 ?_
  refine s_let (fun h6 => ?_)
  refine s_cpI aT_39 aT_39 (by decide) km_RX8_74 rfl rfl dX8_takeFrom_102 ?_
  refine s_aload1 1 rfl dX8_takeFrom_105 ?_
  refine s_gr (gR_RX8_34 i1) dX8_takeFrom_106 ?_
  refine s_k0 dX8_takeFrom_109 ?_
  refine s_aload0 0 rfl dX8_takeFrom_110 ?_
  refine s_gr (gR_RX8_34 i0) dX8_takeFrom_111 ?_
  refine s_k0 dX8_takeFrom_114 ?_
  refine s_bip 16 kb_16 dX8_takeFrom_115 ?_
  refine s_let (fun h7 => ?_)
  refine s_cpI aT_40 aT_40 (by decide) km_RX8_74 rfl rfl dX8_takeFrom_117 ?_
  refine s_aload1 1 rfl dX8_takeFrom_120 ?_
  refine s_gr (gR_RX8_37 i1) dX8_takeFrom_121 ?_
  refine s_k0 dX8_takeFrom_124 ?_
  refine s_aload0 0 rfl dX8_takeFrom_125 ?_
  refine s_gr (gR_RX8_37 i0) dX8_takeFrom_126 ?_
  refine s_k0 dX8_takeFrom_129 ?_
  refine s_bip 16 kb_16 dX8_takeFrom_130 ?_
  refine s_let (fun h8 => ?_)
  refine s_cpJ aT_41 aT_41 (by decide) km_RX8_74 rfl rfl dX8_takeFrom_132 ?_
  refine s_aload0 0 rfl dX8_takeFrom_135 ?_
  refine s_aload1 1 rfl dX8_takeFrom_136 ?_
  refine s_let (fun h9 => ?_)
  refine s_gi gI_RX8_40 dX8_takeFrom_137 ?_
  refine s_pi pI_RX8_40 dX8_takeFrom_140 ?_
  refine s_aload0 0 rfl dX8_takeFrom_143 ?_
  refine s_aload1 1 rfl dX8_takeFrom_144 ?_
  refine s_let (fun h10 => ?_)
  refine s_gj gJ_RX8_44 dX8_takeFrom_145 ?_
  refine s_pj pJ_RX8_44 dX8_takeFrom_148 ?_
  refine s_aload0 0 rfl dX8_takeFrom_151 ?_
  refine s_aload1 1 rfl dX8_takeFrom_152 ?_
  refine s_let (fun h11 => ?_)
  refine s_gi gI_RX8_48 dX8_takeFrom_153 ?_
  refine s_pi pI_RX8_48 dX8_takeFrom_156 ?_
  refine s_aload0 0 rfl dX8_takeFrom_159 ?_
  refine s_aload1 1 rfl dX8_takeFrom_160 ?_
  refine s_let (fun h12 => ?_)
  refine s_gi gI_RX8_51 dX8_takeFrom_161 ?_
  refine s_pi pI_RX8_51 dX8_takeFrom_164 ?_
  refine s_aload0 0 rfl dX8_takeFrom_167 ?_
  refine s_aload1 1 rfl dX8_takeFrom_168 ?_
  refine s_let (fun h13 => ?_)
  refine s_gj gJ_RX8_54 dX8_takeFrom_169 ?_
  refine s_pj pJ_RX8_54 dX8_takeFrom_172 ?_
  refine s_aload0 0 rfl dX8_takeFrom_175 ?_
  refine s_aload1 1 rfl dX8_takeFrom_176 ?_
  refine s_let (fun h14 => ?_)
  refine s_gi gI_RX8_57 dX8_takeFrom_177 ?_
  refine s_pi pI_RX8_57 dX8_takeFrom_180 ?_
  refine s_aload0 0 rfl dX8_takeFrom_183 ?_
  refine s_aload1 1 rfl dX8_takeFrom_184 ?_
  refine s_let (fun h15 => ?_)
  refine s_gj gJ_RX8_62 dX8_takeFrom_185 ?_
  refine s_pj pJ_RX8_62 dX8_takeFrom_188 ?_
  exact s_return rfl rfl dX8_takeFrom_191
set_option maxRecDepth 20000 in
theorem cf_X8_takeFrom (G : mG) (l : Launch) (i0 : Nat) (i1 : Nat)  (h : mH) (b : mH) (hb : f_X8_takeFrom i0 i1 h = some b) (hl : ∀ v ∈ ([.inr (.inr (8, i0)), .inr (.inr (8, i1))] : List mV), mLi v) : mMet G l yX8_takeFrom cX8_takeFrom 2 none (mRoom 1 64) [.inr (.inr (8, i0)), .inr (.inr (8, i1))] h (eV b) :=
  mMet.of (y := yX8_takeFrom) (as := [.inr (.inr (8, i0)), .inr (.inr (8, i1))]) (by decide +kernel) (Nat.le_of_ble_eq_true rfl) (fun X => sf_X8_takeFrom G X i0 i1  h) hl b hb
-- DriverBook$State.tellEvent(IIJ)V
def f_X8_tellEvent (i0 : Nat) (x1 : Int32) (x2 : Int32) (x3 : Int64) (h : mH) : Option (mH) :=
  if (h.1 8 i0 9) < 16 then
    if mIn (h.1 8 i0 9) 16 = true then
    mLet (uI h 39 i0 (h.1 8 i0 9).toNatClampNeg x1) fun h3 =>
    if mIn (h3.1 8 i0 9) 16 = true then
    mLet (uI h3 40 i0 (h3.1 8 i0 9).toNatClampNeg x2) fun h5 =>
    if mIn (h5.1 8 i0 9) 16 = true then
    mLet (uJ h5 41 i0 (h5.1 8 i0 9).toNatClampNeg x3) fun h7 =>
    some (uI h7 8 i0 9 ((h7.1 8 i0 9) + 1))
    else none
    else none
    else none
  else
    some h
set_option maxRecDepth 20000 in
theorem sf_X8_tellEvent (G : mG) (X : mX) (i0 : Nat) (x1 : Int32) (x2 : Int32) (x3 : Int64)  (h : mH) : Sim G X cX8_tellEvent 5 RX8 none (mRoom 0 0) eV (f_X8_tellEvent i0 x1 x2 x3 h) 0 [(0, .inr (.inr (8, i0))), (1, .inl x1), (2, .inl x2), (3, .inr (.inl x3))] [] h := by
  unfold f_X8_tellEvent
  refine s_aload0 0 rfl dX8_tellEvent_0 ?_
  refine s_gi gI_RX8_40 dX8_tellEvent_1 ?_
  refine s_bip 16 kb_16 dX8_tellEvent_4 ?_
  refine s_ic_lt (tgt := 10) dX8_tellEvent_6 (by decide) (fun q1 => ?_) (fun q1 => ?_)
  · skip
    refine s_aload0 0 rfl dX8_tellEvent_10 ?_
    refine s_gr (gR_RX8_31 i0) dX8_tellEvent_11 ?_
    refine s_aload0 0 rfl dX8_tellEvent_14 ?_
    refine s_gi gI_RX8_40 dX8_tellEvent_15 ?_
    refine s_iload1 1 rfl dX8_tellEvent_18 ?_
    refine s_chk (fun q2 => ?_)
    refine s_ias aT_39 q2 dX8_tellEvent_19 ?_
    refine s_aload0 0 rfl dX8_tellEvent_20 ?_
    refine s_gr (gR_RX8_34 i0) dX8_tellEvent_21 ?_
    refine s_aload0 0 rfl dX8_tellEvent_24 ?_
    refine s_let (fun h3 => ?_)
    refine s_gi gI_RX8_40 dX8_tellEvent_25 ?_
    refine s_iload2 2 rfl dX8_tellEvent_28 ?_
    refine s_chk (fun q4 => ?_)
    refine s_ias aT_40 q4 dX8_tellEvent_29 ?_
    refine s_aload0 0 rfl dX8_tellEvent_30 ?_
    refine s_gr (gR_RX8_37 i0) dX8_tellEvent_31 ?_
    refine s_aload0 0 rfl dX8_tellEvent_34 ?_
    refine s_let (fun h5 => ?_)
    refine s_gi gI_RX8_40 dX8_tellEvent_35 ?_
    refine s_lload3 3 rfl dX8_tellEvent_38 ?_
    refine s_chk (fun q6 => ?_)
    refine s_las aT_41 q6 dX8_tellEvent_39 ?_
    refine s_aload0 0 rfl dX8_tellEvent_40 ?_
    refine s_dup rfl dX8_tellEvent_41 ?_
    refine s_let (fun h7 => ?_)
    refine s_gi gI_RX8_40 dX8_tellEvent_42 ?_
    refine s_k1 dX8_tellEvent_45 ?_
    refine s_iadd dX8_tellEvent_46 ?_
    refine s_pi pI_RX8_40 dX8_tellEvent_47 ?_
    exact s_return rfl rfl dX8_tellEvent_50
  · skip
    exact s_return rfl rfl dX8_tellEvent_9
set_option maxRecDepth 20000 in
theorem cf_X8_tellEvent (G : mG) (l : Launch) (i0 : Nat) (x1 : Int32) (x2 : Int32) (x3 : Int64)  (h : mH) (b : mH) (hb : f_X8_tellEvent i0 x1 x2 x3 h = some b) (hl : ∀ v ∈ ([.inr (.inr (8, i0)), .inl x1, .inl x2, .inr (.inl x3)] : List mV), mLi v) : mMet G l yX8_tellEvent cX8_tellEvent 5 none (mRoom 0 0) [.inr (.inr (8, i0)), .inl x1, .inl x2, .inr (.inl x3)] h (eV b) :=
  mMet.of (y := yX8_tellEvent) (as := [.inr (.inr (8, i0)), .inl x1, .inl x2, .inr (.inl x3)]) (by decide +kernel) (Nat.le_of_ble_eq_true rfl) (fun X => sf_X8_tellEvent G X i0 x1 x2 x3  h) hl b hb
-- DriverBook$Tape.takeRow(II)V
def f_X9_takeRow (i0 : Nat) (x1 : Int32) (x2 : Int32) (h : mH) : Option (mH) :=
  mLet (uI h 9 i0 0 x1) fun h1 =>
  (f_J7_fill_d0a16 42 64 i0 0 (uI h1 9 i0 1 x2)).bind fun r2 =>
  some r2
set_option maxRecDepth 20000 in
theorem sf_X9_takeRow (G : mG) (X : mX) (i0 : Nat) (x1 : Int32) (x2 : Int32)  (h : mH) : Sim G X cX9_takeRow 3 RX9 none (mRoom 1 24) eV (f_X9_takeRow i0 x1 x2 h) 0 [(0, .inr (.inr (9, i0))), (1, .inl x1), (2, .inl x2)] [] h := by
  unfold f_X9_takeRow
  refine s_aload0 0 rfl dX9_takeRow_0 ?_
  refine s_iload1 1 rfl dX9_takeRow_1 ?_
  refine s_pi pI_RX9_11 dX9_takeRow_2 ?_
  refine s_aload0 0 rfl dX9_takeRow_5 ?_
  refine s_iload2 2 rfl dX9_takeRow_6 ?_
  refine s_let (fun h1 => ?_)
  refine s_pi pI_RX9_15 dX9_takeRow_7 ?_
  refine s_aload0 0 rfl dX9_takeRow_10 ?_
  refine s_gr (gR_RX9_18 i0) dX9_takeRow_11 ?_
  refine s_lk0 dX9_takeRow_14 ?_
  refine s_siV [.inr (.inr (42, i0)), .inr (.inl 0)] (fun l b hb hl => cf_J7_fill_d0a16 G l 42 64 i0 0 aT_42 (uI h1 9 i0 1 x2) b hb hl) me_J7_fill_d0a16 si_RX9_32 rfl rfl rfl rfl rfl dX9_takeRow_15 (fun r2 => ?_)
  exact s_return rfl rfl dX9_takeRow_18
set_option maxRecDepth 20000 in
theorem cf_X9_takeRow (G : mG) (l : Launch) (i0 : Nat) (x1 : Int32) (x2 : Int32)  (h : mH) (b : mH) (hb : f_X9_takeRow i0 x1 x2 h = some b) (hl : ∀ v ∈ ([.inr (.inr (9, i0)), .inl x1, .inl x2] : List mV), mLi v) : mMet G l yX9_takeRow cX9_takeRow 3 none (mRoom 1 24) [.inr (.inr (9, i0)), .inl x1, .inl x2] h (eV b) :=
  mMet.of (y := yX9_takeRow) (as := [.inr (.inr (9, i0)), .inl x1, .inl x2]) (by decide +kernel) (Nat.le_of_ble_eq_true rfl) (fun X => sf_X9_takeRow G X i0 x1 x2  h) hl b hb
-- DriverBook$Tape.takeImage(LDriverBook$State;I)V
def f_X9_takeImage (i0 : Nat) (i1 : Nat) (x2 : Int32) (h : mH) : Option (mH) :=
  (f_X8_takeFrom (i0 + 2) i1 (uI h 9 i0 0 5)).bind fun r1 =>
  some (uI r1 9 i0 4 x2)
set_option maxRecDepth 20000 in
theorem sf_X9_takeImage (G : mG) (X : mX) (i0 : Nat) (i1 : Nat) (x2 : Int32)  (h : mH) : Sim G X cX9_takeImage 3 RX9 none (mRoom 2 85) eV (f_X9_takeImage i0 i1 x2 h) 0 [(0, .inr (.inr (9, i0))), (1, .inr (.inr (8, i1))), (2, .inl x2)] [] h := by
  unfold f_X9_takeImage
  refine s_aload0 0 rfl dX9_takeImage_0 ?_
  refine s_k5 dX9_takeImage_1 ?_
  refine s_pi pI_RX9_11 dX9_takeImage_2 ?_
  refine s_aload0 0 rfl dX9_takeImage_5 ?_
  refine s_gr (gR_RX9_25 i0) dX9_takeImage_6 ?_
  refine s_aload1 1 rfl dX9_takeImage_9 ?_
  refine s_viV [.inr (.inr (8, i1))] (fun l b hb hl => cf_X8_takeFrom G l (i0 + 2) i1 (uI h 9 i0 0 5) b hb hl) me_X8_takeFrom vi_RX9_38 rfl rfl rfl rfl rfl dX9_takeImage_10 (fun r1 => ?_)
  refine s_aload0 0 rfl dX9_takeImage_13 ?_
  refine s_iload2 2 rfl dX9_takeImage_14 ?_
  refine s_pi pI_RX9_29 dX9_takeImage_15 ?_
  exact s_return rfl rfl dX9_takeImage_18
set_option maxRecDepth 20000 in
theorem cf_X9_takeImage (G : mG) (l : Launch) (i0 : Nat) (i1 : Nat) (x2 : Int32)  (h : mH) (b : mH) (hb : f_X9_takeImage i0 i1 x2 h = some b) (hl : ∀ v ∈ ([.inr (.inr (9, i0)), .inr (.inr (8, i1)), .inl x2] : List mV), mLi v) : mMet G l yX9_takeImage cX9_takeImage 3 none (mRoom 2 85) [.inr (.inr (9, i0)), .inr (.inr (8, i1)), .inl x2] h (eV b) :=
  mMet.of (y := yX9_takeImage) (as := [.inr (.inr (9, i0)), .inr (.inr (8, i1)), .inl x2]) (by decide +kernel) (Nat.le_of_ble_eq_true rfl) (fun X => sf_X9_takeImage G X i0 i1 x2  h) hl b hb
-- DriverBook$Tape.holdsRow()Z
def f_X9_holdsRow (i0 : Nat) (h : mH) : Option (Int32 × mH) :=
  if (h.1 9 i0 0) < 1 then
    some (0, h)
  else
    if (h.1 9 i0 0) ≤ 4 then
      some (1, h)
    else
      some (0, h)
set_option maxRecDepth 20000 in
theorem sf_X9_holdsRow (G : mG) (X : mX) (i0 : Nat)  (h : mH) : Sim G X cX9_holdsRow 1 RX9 (some .boolean) (mRoom 0 0) eI (f_X9_holdsRow i0 h) 0 [(0, .inr (.inr (9, i0)))] [] h := by
  unfold f_X9_holdsRow
  refine s_aload0 0 rfl dX9_holdsRow_0 ?_
  refine s_gi gI_RX9_11 dX9_holdsRow_1 ?_
  refine s_k1 dX9_holdsRow_4 ?_
  refine s_ic_lt (tgt := 20) dX9_holdsRow_5 (by decide) (fun q1 => ?_) (fun q1 => ?_)
  · skip
    refine s_k0 dX9_holdsRow_20 ?_
    exact s_zreturn rfl rfl (Or.inl rfl) dX9_holdsRow_21
  · skip
    refine s_aload0 0 rfl dX9_holdsRow_8 ?_
    refine s_gi gI_RX9_11 dX9_holdsRow_9 ?_
    refine s_k4 dX9_holdsRow_12 ?_
    refine s_ic_gt (tgt := 20) dX9_holdsRow_13 (by decide) (fun q2 => ?_) (fun q2 => ?_)
    · skip
      refine s_k0 dX9_holdsRow_20 ?_
      exact s_zreturn rfl rfl (Or.inl rfl) dX9_holdsRow_21
    · skip
      refine s_k1 dX9_holdsRow_16 ?_
      refine s_goto (tgt := 21) dX9_holdsRow_17 (by decide) ?_
      exact s_zreturn rfl rfl (Or.inr rfl) dX9_holdsRow_21
set_option maxRecDepth 20000 in
theorem cf_X9_holdsRow (G : mG) (l : Launch) (i0 : Nat)  (h : mH) (b : Int32 × mH) (hb : f_X9_holdsRow i0 h = some b) (hl : ∀ v ∈ ([.inr (.inr (9, i0))] : List mV), mLi v) : mMet G l yX9_holdsRow cX9_holdsRow 1 (some .boolean) (mRoom 0 0) [.inr (.inr (9, i0))] h (eI b) :=
  mMet.of (y := yX9_holdsRow) (as := [.inr (.inr (9, i0))]) (by decide +kernel) (Nat.le_of_ble_eq_true rfl) (fun X => sf_X9_holdsRow G X i0  h) hl b hb
-- DriverBook$Tape.hasPlace(I)Z
def f_X9_hasPlace (i0 : Nat) (x1 : Int32) (h : mH) : Option (Int32 × mH) :=
  if x1 < 0 then
    some (0, h)
  else
    if x1 < (h.1 9 i0 1) then
      some (1, h)
    else
      some (0, h)
set_option maxRecDepth 20000 in
theorem sf_X9_hasPlace (G : mG) (X : mX) (i0 : Nat) (x1 : Int32)  (h : mH) : Sim G X cX9_hasPlace 2 RX9 (some .boolean) (mRoom 0 0) eI (f_X9_hasPlace i0 x1 h) 0 [(0, .inr (.inr (9, i0))), (1, .inl x1)] [] h := by
  unfold f_X9_hasPlace
  refine s_iload1 1 rfl dX9_hasPlace_0 ?_
  refine s_if_lt (tgt := 16) dX9_hasPlace_1 (by decide) (fun q1 => ?_) (fun q1 => ?_)
  · skip
    refine s_k0 dX9_hasPlace_16 ?_
    exact s_zreturn rfl rfl (Or.inl rfl) dX9_hasPlace_17
  · skip
    refine s_iload1 1 rfl dX9_hasPlace_4 ?_
    refine s_aload0 0 rfl dX9_hasPlace_5 ?_
    refine s_gi gI_RX9_15 dX9_hasPlace_6 ?_
    refine s_ic_ge (tgt := 16) dX9_hasPlace_9 (by decide) (fun q2 => ?_) (fun q2 => ?_)
    · skip
      refine s_k0 dX9_hasPlace_16 ?_
      exact s_zreturn rfl rfl (Or.inl rfl) dX9_hasPlace_17
    · skip
      refine s_k1 dX9_hasPlace_12 ?_
      refine s_goto (tgt := 17) dX9_hasPlace_13 (by decide) ?_
      exact s_zreturn rfl rfl (Or.inr rfl) dX9_hasPlace_17
set_option maxRecDepth 20000 in
theorem cf_X9_hasPlace (G : mG) (l : Launch) (i0 : Nat) (x1 : Int32)  (h : mH) (b : Int32 × mH) (hb : f_X9_hasPlace i0 x1 h = some b) (hl : ∀ v ∈ ([.inr (.inr (9, i0)), .inl x1] : List mV), mLi v) : mMet G l yX9_hasPlace cX9_hasPlace 2 (some .boolean) (mRoom 0 0) [.inr (.inr (9, i0)), .inl x1] h (eI b) :=
  mMet.of (y := yX9_hasPlace) (as := [.inr (.inr (9, i0)), .inl x1]) (by decide +kernel) (Nat.le_of_ble_eq_true rfl) (fun X => sf_X9_hasPlace G X i0 x1  h) hl b hb
-- DriverBook$Tape.hasPlaces(II)Z
def f_X9_hasPlaces (i0 : Nat) (x1 : Int32) (x2 : Int32) (h : mH) : Option (Int32 × mH) :=
  if x2 < 0 then
    some (0, h)
  else
    if x1 < 0 then
      some (0, h)
    else
      if x2 ≤ (h.1 9 i0 1) then
        if x1 ≤ ((h.1 9 i0 1) - x2) then
          some (1, h)
        else
          some (0, h)
      else
        some (0, h)
set_option maxRecDepth 20000 in
theorem sf_X9_hasPlaces (G : mG) (X : mX) (i0 : Nat) (x1 : Int32) (x2 : Int32)  (h : mH) : Sim G X cX9_hasPlaces 3 RX9 (some .boolean) (mRoom 0 0) eI (f_X9_hasPlaces i0 x1 x2 h) 0 [(0, .inr (.inr (9, i0))), (1, .inl x1), (2, .inl x2)] [] h := by
  unfold f_X9_hasPlaces
  refine s_iload2 2 rfl dX9_hasPlaces_0 ?_
  refine s_if_lt (tgt := 30) dX9_hasPlaces_1 (by decide) (fun q1 => ?_) (fun q1 => ?_)
  · skip
    refine s_k0 dX9_hasPlaces_30 ?_
    exact s_zreturn rfl rfl (Or.inl rfl) dX9_hasPlaces_31
  · skip
    refine s_iload1 1 rfl dX9_hasPlaces_4 ?_
    refine s_if_lt (tgt := 30) dX9_hasPlaces_5 (by decide) (fun q2 => ?_) (fun q2 => ?_)
    · skip
      refine s_k0 dX9_hasPlaces_30 ?_
      exact s_zreturn rfl rfl (Or.inl rfl) dX9_hasPlaces_31
    · skip
      refine s_iload2 2 rfl dX9_hasPlaces_8 ?_
      refine s_aload0 0 rfl dX9_hasPlaces_9 ?_
      refine s_gi gI_RX9_15 dX9_hasPlaces_10 ?_
      refine s_ic_gt (tgt := 30) dX9_hasPlaces_13 (by decide) (fun q3 => ?_) (fun q3 => ?_)
      · skip
        refine s_k0 dX9_hasPlaces_30 ?_
        exact s_zreturn rfl rfl (Or.inl rfl) dX9_hasPlaces_31
      · skip
        refine s_iload1 1 rfl dX9_hasPlaces_16 ?_
        refine s_aload0 0 rfl dX9_hasPlaces_17 ?_
        refine s_gi gI_RX9_15 dX9_hasPlaces_18 ?_
        refine s_iload2 2 rfl dX9_hasPlaces_21 ?_
        refine s_isub dX9_hasPlaces_22 ?_
        refine s_ic_gt (tgt := 30) dX9_hasPlaces_23 (by decide) (fun q4 => ?_) (fun q4 => ?_)
        · skip
          refine s_k0 dX9_hasPlaces_30 ?_
          exact s_zreturn rfl rfl (Or.inl rfl) dX9_hasPlaces_31
        · skip
          refine s_k1 dX9_hasPlaces_26 ?_
          refine s_goto (tgt := 31) dX9_hasPlaces_27 (by decide) ?_
          exact s_zreturn rfl rfl (Or.inr rfl) dX9_hasPlaces_31
set_option maxRecDepth 20000 in
theorem cf_X9_hasPlaces (G : mG) (l : Launch) (i0 : Nat) (x1 : Int32) (x2 : Int32)  (h : mH) (b : Int32 × mH) (hb : f_X9_hasPlaces i0 x1 x2 h = some b) (hl : ∀ v ∈ ([.inr (.inr (9, i0)), .inl x1, .inl x2] : List mV), mLi v) : mMet G l yX9_hasPlaces cX9_hasPlaces 3 (some .boolean) (mRoom 0 0) [.inr (.inr (9, i0)), .inl x1, .inl x2] h (eI b) :=
  mMet.of (y := yX9_hasPlaces) (as := [.inr (.inr (9, i0)), .inl x1, .inl x2]) (by decide +kernel) (Nat.le_of_ble_eq_true rfl) (fun X => sf_X9_hasPlaces G X i0 x1 x2  h) hl b hb
-- DriverBook$Tape.narrowed(J)J
def f_X9_narrowed (i0 : Nat) (x1 : Int64) (h : mH) : Option (Int64 × mH) :=
  if (h.1 9 i0 0) = 1 then
    some (x1.toInt32.toInt8.toInt32.toInt64, h)
  else
  if (h.1 9 i0 0) = 2 then
    some (x1.toInt32.toInt16.toInt32.toInt64, h)
  else
  if (h.1 9 i0 0) = 3 then
    some (x1.toInt32.toInt64, h)
  else
    some (x1, h)
set_option maxRecDepth 20000 in
theorem sf_X9_narrowed (G : mG) (X : mX) (i0 : Nat) (x1 : Int64)  (h : mH) : Sim G X cX9_narrowed 3 RX9 (some .long) (mRoom 0 0) eJ (f_X9_narrowed i0 x1 h) 0 [(0, .inr (.inr (9, i0))), (1, .inr (.inl x1))] [] h := by
  unfold f_X9_narrowed
  refine s_aload0 0 rfl dX9_narrowed_0 ?_
  refine s_gi gI_RX9_11 dX9_narrowed_1 ?_
  refine s_case (fun q1 => ?_) (fun q1 => ?_)
  · skip
    refine s_tabP dX9_narrowed_4 1 q1 32 (by decide) (by decide) ?_
    refine s_lload1 1 rfl dX9_narrowed_32 ?_
    refine s_l2i dX9_narrowed_33 ?_
    refine s_i2b dX9_narrowed_34 ?_
    refine s_i2l dX9_narrowed_35 ?_
    exact s_lreturn rfl rfl dX9_narrowed_36
  refine s_case (fun q2 => ?_) (fun q2 => ?_)
  · skip
    refine s_tabP dX9_narrowed_4 2 q2 37 (by decide) (by decide) ?_
    refine s_lload1 1 rfl dX9_narrowed_37 ?_
    refine s_l2i dX9_narrowed_38 ?_
    refine s_i2s dX9_narrowed_39 ?_
    refine s_i2l dX9_narrowed_40 ?_
    exact s_lreturn rfl rfl dX9_narrowed_41
  refine s_case (fun q3 => ?_) (fun q3 => ?_)
  · skip
    refine s_tabP dX9_narrowed_4 3 q3 42 (by decide) (by decide) ?_
    refine s_lload1 1 rfl dX9_narrowed_42 ?_
    refine s_l2i dX9_narrowed_43 ?_
    refine s_i2l dX9_narrowed_44 ?_
    exact s_lreturn rfl rfl dX9_narrowed_45
  refine s_tabD dX9_narrowed_4 [1, 2, 3] (by refine List.forall_mem_cons.mpr ⟨q1, ?_⟩; refine List.forall_mem_cons.mpr ⟨q2, ?_⟩; refine List.forall_mem_cons.mpr ⟨q3, ?_⟩; exact fun _ z => absurd z List.not_mem_nil) (by decide) (by decide) 46 (by decide) ?_
  · skip
    refine s_lload1 1 rfl dX9_narrowed_46 ?_
    exact s_lreturn rfl rfl dX9_narrowed_47
set_option maxRecDepth 20000 in
theorem cf_X9_narrowed (G : mG) (l : Launch) (i0 : Nat) (x1 : Int64)  (h : mH) (b : Int64 × mH) (hb : f_X9_narrowed i0 x1 h = some b) (hl : ∀ v ∈ ([.inr (.inr (9, i0)), .inr (.inl x1)] : List mV), mLi v) : mMet G l yX9_narrowed cX9_narrowed 3 (some .long) (mRoom 0 0) [.inr (.inr (9, i0)), .inr (.inl x1)] h (eJ b) :=
  mMet.of (y := yX9_narrowed) (as := [.inr (.inr (9, i0)), .inr (.inl x1)]) (by decide +kernel) (Nat.le_of_ble_eq_true rfl) (fun X => sf_X9_narrowed G X i0 x1  h) hl b hb
-- DriverBook$Walker.forget()V
def f_X10_forget  (h : mH) : Option (mH) :=
  mLet (uI h 10 0 6 0) fun h1 =>
  some (uI h1 10 0 7 (-2))
set_option maxRecDepth 20000 in
theorem sf_X10_forget (G : mG) (X : mX)   (h : mH) : Sim G X cX10_forget 1 RX10 none (mRoom 0 0) eV (f_X10_forget  h) 0 [(0, .inr (.inr (10, 0)))] [] h := by
  unfold f_X10_forget
  refine s_aload0 0 rfl dX10_forget_0 ?_
  refine s_k0 dX10_forget_1 ?_
  refine s_pi pI_RX10_25 dX10_forget_2 ?_
  refine s_aload0 0 rfl dX10_forget_5 ?_
  refine s_bip (-2) kb_m2 dX10_forget_6 ?_
  refine s_let (fun h1 => ?_)
  refine s_pi pI_RX10_29 dX10_forget_8 ?_
  exact s_return rfl rfl dX10_forget_11
set_option maxRecDepth 20000 in
theorem cf_X10_forget (G : mG) (l : Launch)   (h : mH) (b : mH) (hb : f_X10_forget  h = some b) (hl : ∀ v ∈ ([.inr (.inr (10, 0))] : List mV), mLi v) : mMet G l yX10_forget cX10_forget 1 none (mRoom 0 0) [.inr (.inr (10, 0))] h (eV b) :=
  mMet.of (y := yX10_forget) (as := [.inr (.inr (10, 0))]) (by decide +kernel) (Nat.le_of_ble_eq_true rfl) (fun X => sf_X10_forget G X   h) hl b hb
-- DriverBook$Walker.keepStart()V
def f_X10_keepStart  (h : mH) : Option (mH) :=
  (f_X8_takeFrom 1 0 h).bind fun r1 =>
  some r1
set_option maxRecDepth 20000 in
theorem sf_X10_keepStart (G : mG) (X : mX)   (h : mH) : Sim G X cX10_keepStart 1 RX10 none (mRoom 2 85) eV (f_X10_keepStart  h) 0 [(0, .inr (.inr (10, 0)))] [] h := by
  unfold f_X10_keepStart
  refine s_aload0 0 rfl dX10_keepStart_0 ?_
  refine s_gr (gR_RX10_12 0) dX10_keepStart_1 ?_
  refine s_aload0 0 rfl dX10_keepStart_4 ?_
  refine s_gr (gR_RX10_36 0) dX10_keepStart_5 ?_
  refine s_viV [.inr (.inr (8, 0))] (fun l b hb hl => cf_X8_takeFrom G l 1 0 h b hb hl) me_X8_takeFrom vi_RX10_43 rfl rfl rfl rfl rfl dX10_keepStart_8 (fun r1 => ?_)
  exact s_return rfl rfl dX10_keepStart_11
set_option maxRecDepth 20000 in
theorem cf_X10_keepStart (G : mG) (l : Launch)   (h : mH) (b : mH) (hb : f_X10_keepStart  h = some b) (hl : ∀ v ∈ ([.inr (.inr (10, 0))] : List mV), mLi v) : mMet G l yX10_keepStart cX10_keepStart 1 none (mRoom 2 85) [.inr (.inr (10, 0))] h (eV b) :=
  mMet.of (y := yX10_keepStart) (as := [.inr (.inr (10, 0))]) (by decide +kernel) (Nat.le_of_ble_eq_true rfl) (fun X => sf_X10_keepStart G X   h) hl b hb
-- DriverBook$Walker.restoreStart()V
def f_X10_restoreStart  (h : mH) : Option (mH) :=
  (f_X8_takeFrom 0 1 h).bind fun r1 =>
  some r1
set_option maxRecDepth 20000 in
theorem sf_X10_restoreStart (G : mG) (X : mX)   (h : mH) : Sim G X cX10_restoreStart 1 RX10 none (mRoom 2 85) eV (f_X10_restoreStart  h) 0 [(0, .inr (.inr (10, 0)))] [] h := by
  unfold f_X10_restoreStart
  refine s_aload0 0 rfl dX10_restoreStart_0 ?_
  refine s_gr (gR_RX10_36 0) dX10_restoreStart_1 ?_
  refine s_aload0 0 rfl dX10_restoreStart_4 ?_
  refine s_gr (gR_RX10_12 0) dX10_restoreStart_5 ?_
  refine s_viV [.inr (.inr (8, 1))] (fun l b hb hl => cf_X8_takeFrom G l 0 1 h b hb hl) me_X8_takeFrom vi_RX10_43 rfl rfl rfl rfl rfl dX10_restoreStart_8 (fun r1 => ?_)
  exact s_return rfl rfl dX10_restoreStart_11
set_option maxRecDepth 20000 in
theorem cf_X10_restoreStart (G : mG) (l : Launch)   (h : mH) (b : mH) (hb : f_X10_restoreStart  h = some b) (hl : ∀ v ∈ ([.inr (.inr (10, 0))] : List mV), mLi v) : mMet G l yX10_restoreStart cX10_restoreStart 1 none (mRoom 2 85) [.inr (.inr (10, 0))] h (eV b) :=
  mMet.of (y := yX10_restoreStart) (as := [.inr (.inr (10, 0))]) (by decide +kernel) (Nat.le_of_ble_eq_true rfl) (fun X => sf_X10_restoreStart G X   h) hl b hb
-- DriverBook.nearestInt(J)I
def f_X11_nearestInt (x0 : Int64) (h : mH) : Option (Int32 × mH) :=
  some ((if 2147483647 < x0 then 2147483647 else x0).toInt32, h)
set_option maxRecDepth 20000 in
theorem sf_X11_nearestInt (G : mG) (X : mX) (x0 : Int64)  (h : mH) : Sim G X cX11_nearestInt 2 RX11 (some .int) (mRoom 1 64) eI (f_X11_nearestInt x0 h) 0 [(0, .inr (.inl x0))] [] h := by
  unfold f_X11_nearestInt
  refine s_lload0 0 rfl dX11_nearestInt_0 ?_
  refine s_ldc2 (v := 2147483647) kc_RX11_328 dX11_nearestInt_1 ?_
  refine s_minJ kmn_RX11_330 rfl rfl dX11_nearestInt_4 ?_
  refine s_l2i dX11_nearestInt_7 ?_
  exact s_ireturn rfl rfl dX11_nearestInt_8
set_option maxRecDepth 20000 in
theorem cf_X11_nearestInt (G : mG) (l : Launch) (x0 : Int64)  (h : mH) (b : Int32 × mH) (hb : f_X11_nearestInt x0 h = some b) (hl : ∀ v ∈ ([.inr (.inl x0)] : List mV), mLi v) : mMet G l yX11_nearestInt cX11_nearestInt 2 (some .int) (mRoom 1 64) [.inr (.inl x0)] h (eI b) :=
  mMet.of (y := yX11_nearestInt) (as := [.inr (.inl x0)]) (by decide +kernel) (Nat.le_of_ble_eq_true rfl) (fun X => sf_X11_nearestInt G X x0  h) hl b hb
-- DriverBook$Walker.noteSets(LDriverBook$Act;LDriverBook$Act;)V
def f_X10_noteSets_2 (k : Int32 → mH → Option (mH)) (j1 : Nat) (j2 : Nat) : Nat → Int32 → mH → Option (mH)
  | 0, _, _ => none
  | n + 1, v3, h =>
    if v3 < (h.1 1 0 4) then
      (f_X0_lastSet j1 v3 h).bind fun r2 =>
      if mIn v3 24 = true then
      (f_X0_lastSet j2 v3 (uI r2.2 43 0 v3.toNatClampNeg r2.1)).bind fun r4 =>
      f_X10_noteSets_2 k j1 j2 n (v3 + 1) (uI r4.2 44 0 v3.toNatClampNeg r4.1)
      else none
    else
      k v3 h
def f_X10_noteSets (i1 : Nat) (i2 : Nat) (h : mH) : Option (mH) :=
  f_X10_noteSets_2 (fun u5 h6 =>
    some h6) i1 i2 mFu 0 h
set_option maxRecDepth 20000 in
theorem sf_X10_noteSets_2 (G : mG) (X : mX) (j1 : Nat) (j2 : Nat)  (k : Int32 → mH → Option (mH)) (hk : ∀ (v3 : Int32) (h : mH), Sim G X cX10_noteSets 4 RX10 none (mRoom 1 22) eV (k v3 h) 41 [(0, .inr (.inr (10, 0))), (1, .inr (.inr (0, j1))), (2, .inr (.inr (0, j2))), (3, .inl v3)] [] h) (n : Nat) : ∀ (v3 : Int32) (h : mH), Sim G X cX10_noteSets 4 RX10 none (mRoom 1 22) eV (f_X10_noteSets_2 k j1 j2 n v3 h) 2 [(0, .inr (.inr (10, 0))), (1, .inr (.inr (0, j1))), (2, .inr (.inr (0, j2))), (3, .inl v3)] [] h := by
  induction n with
  | zero =>
    intro v3 h
    exact s_none
  | succ n ih =>
    intro v3 h
    unfold f_X10_noteSets_2
    refine s_iload3 3 rfl dX10_noteSets_2 ?_
    refine s_aload0 0 rfl dX10_noteSets_3 ?_
    refine s_gr (gR_RX10_32 0) dX10_noteSets_4 ?_
    refine s_gi gI_RX10_101 dX10_noteSets_7 ?_
    refine s_ic_ge (tgt := 41) dX10_noteSets_10 (by decide) (fun q1 => ?_) (fun q1 => ?_)
    · skip
      exact s_loc [0, 1, 2, 3] rfl (hk v3 h)
    · skip
      refine s_aload0 0 rfl dX10_noteSets_13 ?_
      refine s_gr (gR_RX10_18 0) dX10_noteSets_14 ?_
      refine s_iload3 3 rfl dX10_noteSets_17 ?_
      refine s_aload1 1 rfl dX10_noteSets_18 ?_
      refine s_iload3 3 rfl dX10_noteSets_19 ?_
      refine s_viI [.inl v3] (fun l b hb hl => cf_X0_lastSet G l j1 v3 h b hb hl) me_X0_lastSet vi_RX10_104 rfl rfl rfl rfl rfl dX10_noteSets_20 (fun r2 => ?_)
      refine s_chk (fun q3 => ?_)
      refine s_ias aT_43 q3 dX10_noteSets_23 ?_
      refine s_aload0 0 rfl dX10_noteSets_24 ?_
      refine s_gr (gR_RX10_22 0) dX10_noteSets_25 ?_
      refine s_iload3 3 rfl dX10_noteSets_28 ?_
      refine s_aload2 2 rfl dX10_noteSets_29 ?_
      refine s_iload3 3 rfl dX10_noteSets_30 ?_
      refine s_viI [.inl v3] (fun l b hb hl => cf_X0_lastSet G l j2 v3 (uI r2.2 43 0 v3.toNatClampNeg r2.1) b hb hl) me_X0_lastSet vi_RX10_104 rfl rfl rfl rfl rfl dX10_noteSets_31 (fun r4 => ?_)
      refine s_ias aT_44 q3 dX10_noteSets_34 ?_
      refine s_iincw 1 (by decide) 3 [(3, .inl (v3 + 1)), (0, .inr (.inr (10, 0))), (1, .inr (.inr (0, j1))), (2, .inr (.inr (0, j2)))] rfl rfl rfl dX10_noteSets_35 ?_
      refine s_goto (tgt := 2) dX10_noteSets_38 (by decide) ?_
      exact s_loc [1, 2, 3, 0] rfl (ih (v3 + 1) (uI r4.2 44 0 v3.toNatClampNeg r4.1))
set_option maxRecDepth 20000 in
theorem sf_X10_noteSets (G : mG) (X : mX) (i1 : Nat) (i2 : Nat)  (h : mH) : Sim G X cX10_noteSets 4 RX10 none (mRoom 1 22) eV (f_X10_noteSets i1 i2 h) 0 [(0, .inr (.inr (10, 0))), (1, .inr (.inr (0, i1))), (2, .inr (.inr (0, i2)))] [] h := by
  unfold f_X10_noteSets
  refine s_k0 dX10_noteSets_0 ?_
  refine s_istore3 [(3, .inl 0), (0, .inr (.inr (10, 0))), (1, .inr (.inr (0, i1))), (2, .inr (.inr (0, i2)))] rfl rfl dX10_noteSets_1 ?_
  refine s_loc [1, 2, 3, 0] rfl ?_
  refine sf_X10_noteSets_2 G X i1 i2 _ (fun u5 h6 => ?_) mFu 0 h
  · skip
    exact s_return rfl rfl dX10_noteSets_41
set_option maxRecDepth 20000 in
theorem cf_X10_noteSets (G : mG) (l : Launch) (i1 : Nat) (i2 : Nat)  (h : mH) (b : mH) (hb : f_X10_noteSets i1 i2 h = some b) (hl : ∀ v ∈ ([.inr (.inr (10, 0)), .inr (.inr (0, i1)), .inr (.inr (0, i2))] : List mV), mLi v) : mMet G l yX10_noteSets cX10_noteSets 4 none (mRoom 1 22) [.inr (.inr (10, 0)), .inr (.inr (0, i1)), .inr (.inr (0, i2))] h (eV b) :=
  mMet.of (y := yX10_noteSets) (as := [.inr (.inr (10, 0)), .inr (.inr (0, i1)), .inr (.inr (0, i2))]) (by decide +kernel) (Nat.le_of_ble_eq_true rfl) (fun X => sf_X10_noteSets G X i1 i2  h) hl b hb
