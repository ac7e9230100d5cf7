-- DriverBook$Chip.tick()V
def f_X2_tick_15 (k : Int32 → mH → Option (mH))  : Nat → Int32 → mH → Option (mH)
  | 0, _, _ => none
  | n + 1, v1, h =>
    if v1 < (h.1 2 0 6) then
      if mIn v1 24 = true then
      if mIn (h.1 31 0 v1.toNatClampNeg) 24 = true then
      if (h.1 35 0 (h.1 31 0 v1.toNatClampNeg).toNatClampNeg) ≤ 0 then
        f_X2_tick_15 k  n (v1 + 1) h
      else
        mLet (uI h 35 0 (h.1 31 0 v1.toNatClampNeg).toNatClampNeg ((h.1 35 0 (h.1 31 0 v1.toNatClampNeg).toNatClampNeg) - 1)) fun h5 =>
        if (h5.1 35 0 (h.1 31 0 v1.toNatClampNeg).toNatClampNeg) = 0 then
          (f_X2_endPulse (h.1 31 0 v1.toNatClampNeg) h5).bind fun r7 =>
          f_X2_tick_15 k  n (v1 + 1) r7
        else
          f_X2_tick_15 k  n (v1 + 1) h5
      else none
      else none
    else
      k v1 h
def f_X2_tick  (h : mH) : Option (mH) :=
  f_X2_tick_15 (fun u8 h9 =>
    if (h9.1 8 0 9) ≤ 0 then
      some h9
    else
      (f_X2_fireEvents  h9).bind fun r11 =>
      some r11)  mFu 0 (uJ h 8 0 10 ((h.2 8 0 10) + 1))
set_option maxRecDepth 20000 in
theorem sf_X2_tick_15 (G : mG) (X : mX)   (k : Int32 → mH → Option (mH)) (hk : ∀ (v1 : Int32) (h : mH), Sim G X cX2_tick 3 RX2 none (mRoom 1 23) eV (k v1 h) 78 [(0, .inr (.inr (2, 0))), (1, .inl v1)] [] h) (n : Nat) : ∀ (v1 : Int32) (h : mH), Sim G X cX2_tick 3 RX2 none (mRoom 1 23) eV (f_X2_tick_15 k  n v1 h) 15 [(0, .inr (.inr (2, 0))), (1, .inl v1)] [] h := by
  induction n with
  | zero =>
    intro v1 h
    exact s_none
  | succ n ih =>
    intro v1 h
    unfold f_X2_tick_15
    refine s_iload1 1 rfl dX2_tick_15 ?_
    refine s_aload0 0 rfl dX2_tick_16 ?_
    refine s_gi gI_RX2_26 dX2_tick_17 ?_
    refine s_ic_ge (tgt := 78) dX2_tick_20 (by decide) (fun q1 => ?_) (fun q1 => ?_)
    · skip
      exact s_loc [0, 1] rfl (hk v1 h)
    · skip
      refine s_aload0 0 rfl dX2_tick_23 ?_
      refine s_gr (gR_RX2_23 0) dX2_tick_24 ?_
      refine s_iload1 1 rfl dX2_tick_27 ?_
      refine s_chk (fun q2 => ?_)
      refine s_ial aT_31 q2 dX2_tick_28 ?_
      refine s_istore2 [(2, .inl (h.1 31 0 v1.toNatClampNeg)), (0, .inr (.inr (2, 0))), (1, .inl v1)] rfl rfl dX2_tick_29 ?_
      refine s_aload0 1 rfl dX2_tick_30 ?_
      refine s_gr (gR_RX2_34 0) dX2_tick_31 ?_
      refine s_gr (gR_RX2_96 0) dX2_tick_34 ?_
      refine s_iload2 0 rfl dX2_tick_37 ?_
      refine s_chk (fun q3 => ?_)
      refine s_ial aT_35 q3 dX2_tick_38 ?_
      refine s_if_le (tgt := 72) dX2_tick_39 (by decide) (fun q4 => ?_) (fun q4 => ?_)
      · skip
        refine s_iincw 1 (by decide) 2 [(1, .inl (v1 + 1)), (2, .inl (h.1 31 0 v1.toNatClampNeg)), (0, .inr (.inr (2, 0)))] rfl rfl rfl dX2_tick_72 ?_
        refine s_goto (tgt := 15) dX2_tick_75 (by decide) ?_
        exact s_loc [2, 0] rfl (ih (v1 + 1) h)
      · skip
        refine s_aload0 1 rfl dX2_tick_42 ?_
        refine s_gr (gR_RX2_34 0) dX2_tick_43 ?_
        refine s_gr (gR_RX2_96 0) dX2_tick_46 ?_
        refine s_iload2 0 rfl dX2_tick_49 ?_
        refine s_dup2 rfl rfl dX2_tick_50 ?_
        refine s_ial aT_35 q3 dX2_tick_51 ?_
        refine s_k1 dX2_tick_52 ?_
        refine s_isub dX2_tick_53 ?_
        refine s_ias aT_35 q3 dX2_tick_54 ?_
        refine s_aload0 1 rfl dX2_tick_55 ?_
        refine s_gr (gR_RX2_34 0) dX2_tick_56 ?_
        refine s_gr (gR_RX2_96 0) dX2_tick_59 ?_
        refine s_iload2 0 rfl dX2_tick_62 ?_
        refine s_let (fun h5 => ?_)
        refine s_ial aT_35 q3 dX2_tick_63 ?_
        refine s_if_ne (tgt := 72) dX2_tick_64 (by decide) (fun q6 => ?_) (fun q6 => ?_)
        · skip
          refine s_iincw 1 (by decide) 2 [(1, .inl (v1 + 1)), (2, .inl (h.1 31 0 v1.toNatClampNeg)), (0, .inr (.inr (2, 0)))] rfl rfl rfl dX2_tick_72 ?_
          refine s_goto (tgt := 15) dX2_tick_75 (by decide) ?_
          exact s_loc [2, 0] rfl (ih (v1 + 1) h5)
        · skip
          refine s_aload0 1 rfl dX2_tick_67 ?_
          refine s_iload2 0 rfl dX2_tick_68 ?_
          refine s_viV [.inl (h.1 31 0 v1.toNatClampNeg)] (fun l b hb hl => cf_X2_endPulse G l (h.1 31 0 v1.toNatClampNeg) h5 b hb hl) me_X2_endPulse vi_RX2_99 rfl rfl rfl rfl rfl dX2_tick_69 (fun r7 => ?_)
          refine s_iincw 1 (by decide) 2 [(1, .inl (v1 + 1)), (2, .inl (h.1 31 0 v1.toNatClampNeg)), (0, .inr (.inr (2, 0)))] rfl rfl rfl dX2_tick_72 ?_
          refine s_goto (tgt := 15) dX2_tick_75 (by decide) ?_
          exact s_loc [2, 0] rfl (ih (v1 + 1) r7)
set_option maxRecDepth 20000 in
theorem sf_X2_tick (G : mG) (X : mX)   (h : mH) : Sim G X cX2_tick 3 RX2 none (mRoom 1 23) eV (f_X2_tick  h) 0 [(0, .inr (.inr (2, 0)))] [] h := by
  unfold f_X2_tick
  refine s_aload0 0 rfl dX2_tick_0 ?_
  refine s_gr (gR_RX2_34 0) dX2_tick_1 ?_
  refine s_dup rfl dX2_tick_4 ?_
  refine s_gj gJ_RX2_92 dX2_tick_5 ?_
  refine s_lk1 dX2_tick_8 ?_
  refine s_ladd dX2_tick_9 ?_
  refine s_pj pJ_RX2_92 dX2_tick_10 ?_
  refine s_k0 dX2_tick_13 ?_
  refine s_istore1 [(1, .inl 0), (0, .inr (.inr (2, 0)))] rfl rfl dX2_tick_14 ?_
  refine s_loc [1, 0] rfl ?_
  refine sf_X2_tick_15 G X  _ (fun u8 h9 => ?_) mFu 0 (uJ h 8 0 10 ((h.2 8 0 10) + 1))
  · skip
    refine s_aload0 0 rfl dX2_tick_78 ?_
    refine s_gr (gR_RX2_34 0) dX2_tick_79 ?_
    refine s_gi gI_RX2_103 dX2_tick_82 ?_
    refine s_if_le (tgt := 92) dX2_tick_85 (by decide) (fun q10 => ?_) (fun q10 => ?_)
    · skip
      exact s_return rfl rfl dX2_tick_92
    · skip
      refine s_aload0 0 rfl dX2_tick_88 ?_
      refine s_viV [] (fun l b hb hl => cf_X2_fireEvents G l  h9 b hb hl) me_X2_fireEvents vi_RX2_106 rfl rfl rfl rfl rfl dX2_tick_89 (fun r11 => ?_)
      exact s_return rfl rfl dX2_tick_92
set_option maxRecDepth 20000 in
theorem cf_X2_tick (G : mG) (l : Launch)   (h : mH) (b : mH) (hb : f_X2_tick  h = some b) (hl : ∀ v ∈ ([.inr (.inr (2, 0))] : List mV), mLi v) : mMet G l yX2_tick cX2_tick 3 none (mRoom 1 23) [.inr (.inr (2, 0))] h (eV b) :=
  mMet.of (y := yX2_tick) (as := [.inr (.inr (2, 0))]) (by decide +kernel) (Nat.le_of_ble_eq_true rfl) (fun X => sf_X2_tick G X   h) hl b hb
-- DriverBook$Chip.readRegister(IZ)I
def f_X2_readRegister_5 (k : Int32 → Int32 → Int32 → Int32 → mH → Option (Int32 × mH))  : Nat → Int32 → Int32 → Int32 → Int32 → mH → Option (Int32 × mH)
  | 0, _, _, _, _, _ => none
  | n + 1, v1, v2, v3, v4, h =>
    if mIn v1 8 = true then
    if v4 < (h.1 29 0 v1.toNatClampNeg) then
      if mIn v4 16 = true then
      if mIn (h.1 28 v1.toNatClampNeg v4.toNatClampNeg) 24 = true then
      if (h.1 6 ((h.1 28 v1.toNatClampNeg v4.toNatClampNeg).toNatClampNeg) 3) = 3 then
        if v2 = 0 then
          f_X2_readRegister_5 k  n v1 v2 (v3 ||| ((h.1 33 0 (h.1 28 v1.toNatClampNeg v4.toNatClampNeg).toNatClampNeg) <<< ((h.1 6 ((h.1 28 v1.toNatClampNeg v4.toNatClampNeg).toNatClampNeg) 1) &&& 31))) (v4 + 1) (uI h 33 0 (h.1 28 v1.toNatClampNeg v4.toNatClampNeg).toNatClampNeg 0)
        else
          mLet (uI h 36 0 (h.1 28 v1.toNatClampNeg v4.toNatClampNeg).toNatClampNeg ((h.1 36 0 (h.1 28 v1.toNatClampNeg v4.toNatClampNeg).toNatClampNeg) ||| (h.1 33 0 (h.1 28 v1.toNatClampNeg v4.toNatClampNeg).toNatClampNeg))) fun h7 =>
          f_X2_readRegister_5 k  n v1 v2 (v3 ||| ((h.1 33 0 (h.1 28 v1.toNatClampNeg v4.toNatClampNeg).toNatClampNeg) <<< ((h.1 6 ((h.1 28 v1.toNatClampNeg v4.toNatClampNeg).toNatClampNeg) 1) &&& 31))) (v4 + 1) (uI h7 33 0 (h.1 28 v1.toNatClampNeg v4.toNatClampNeg).toNatClampNeg 0)
      else
        f_X2_readRegister_5 k  n v1 v2 (v3 ||| ((h.1 33 0 (h.1 28 v1.toNatClampNeg v4.toNatClampNeg).toNatClampNeg) <<< ((h.1 6 ((h.1 28 v1.toNatClampNeg v4.toNatClampNeg).toNatClampNeg) 1) &&& 31))) (v4 + 1) h
      else none
      else none
    else
      k v1 v2 v3 v4 h
    else none
def f_X2_readRegister (x1 : Int32) (x2 : Int32) (h : mH) : Option (Int32 × mH) :=
  f_X2_readRegister_5 (fun u8 u9 u10 u11 h12 =>
    (f_X2_tick  h12).bind fun r13 =>
    some (u10, r13))  mFu x1 x2 0 0 h
set_option maxRecDepth 20000 in
theorem sf_X2_readRegister_5 (G : mG) (X : mX)   (k : Int32 → Int32 → Int32 → Int32 → mH → Option (Int32 × mH)) (hk : ∀ (v1 : Int32) (v2 : Int32) (v3 : Int32) (v4 : Int32) (h : mH), Sim G X cX2_readRegister 7 RX2 (some .int) (mRoom 2 45) eI (k v1 v2 v3 v4 h) 111 [(0, .inr (.inr (2, 0))), (1, .inl v1), (2, .inl v2), (3, .inl v3), (4, .inl v4)] [] h) (n : Nat) : ∀ (v1 : Int32) (v2 : Int32) (v3 : Int32) (v4 : Int32) (h : mH), Sim G X cX2_readRegister 7 RX2 (some .int) (mRoom 2 45) eI (f_X2_readRegister_5 k  n v1 v2 v3 v4 h) 5 [(0, .inr (.inr (2, 0))), (1, .inl v1), (2, .inl v2), (3, .inl v3), (4, .inl v4)] [] h := by
  induction n with
  | zero =>
    intro v1 v2 v3 v4 h
    exact s_none
  | succ n ih =>
    intro v1 v2 v3 v4 h
    unfold f_X2_readRegister_5
    refine s_iload 4 rfl dX2_readRegister_5 ?_
    refine s_aload0 0 rfl dX2_readRegister_7 ?_
    refine s_gr (gR_RX2_16 0) dX2_readRegister_8 ?_
    refine s_iload1 1 rfl dX2_readRegister_11 ?_
    refine s_chk (fun q1 => ?_)
    refine s_ial aT_29 q1 dX2_readRegister_12 ?_
    refine s_ic_ge (tgt := 111) dX2_readRegister_13 (by decide) (fun q2 => ?_) (fun q2 => ?_)
    · skip
      exact s_loc [0, 1, 2, 3, 4] rfl (hk v1 v2 v3 v4 h)
    · skip
      refine s_aload0 0 rfl dX2_readRegister_16 ?_
      refine s_gr (gR_RX2_11 0) dX2_readRegister_17 ?_
      refine s_iload1 1 rfl dX2_readRegister_20 ?_
      refine s_aal (aR_27 0 v1) q1 dX2_readRegister_21 ?_
      refine s_iload 4 rfl dX2_readRegister_22 ?_
      refine s_chk (fun q3 => ?_)
      refine s_ial aT_28 q3 dX2_readRegister_24 ?_
      refine s_istorew [(5, .inl (h.1 28 v1.toNatClampNeg v4.toNatClampNeg)), (0, .inr (.inr (2, 0))), (1, .inl v1), (2, .inl v2), (3, .inl v3), (4, .inl v4)] rfl rfl dX2_readRegister_25 ?_
      refine s_aload0 1 rfl dX2_readRegister_27 ?_
      refine s_gr (gR_RX2_30 0) dX2_readRegister_28 ?_
      refine s_gr (gR_RX2_54 0) dX2_readRegister_31 ?_
      refine s_iload 0 rfl dX2_readRegister_34 ?_
      refine s_chk (fun q4 => ?_)
      refine s_aal (aR_24 0 (h.1 28 v1.toNatClampNeg v4.toNatClampNeg)) q4 dX2_readRegister_36 ?_
      refine s_astorew [(6, .inr (.inr (6, (h.1 28 v1.toNatClampNeg v4.toNatClampNeg).toNatClampNeg))), (5, .inl (h.1 28 v1.toNatClampNeg v4.toNatClampNeg)), (0, .inr (.inr (2, 0))), (1, .inl v1), (2, .inl v2), (3, .inl v3), (4, .inl v4)] rfl rfl dX2_readRegister_37 ?_
      refine s_iload3 5 rfl dX2_readRegister_39 ?_
      refine s_aload0 2 rfl dX2_readRegister_40 ?_
      refine s_gr (gR_RX2_34 0) dX2_readRegister_41 ?_
      refine s_gr (gR_RX2_62 0) dX2_readRegister_44 ?_
      refine s_iload 1 rfl dX2_readRegister_47 ?_
      refine s_ial aT_33 q4 dX2_readRegister_49 ?_
      refine s_aload 0 rfl dX2_readRegister_50 ?_
      refine s_gi gI_RX2_83 dX2_readRegister_52 ?_
      refine s_ishl dX2_readRegister_55 ?_
      refine s_ior dX2_readRegister_56 ?_
      refine s_istore3 [(3, .inl (v3 ||| ((h.1 33 0 (h.1 28 v1.toNatClampNeg v4.toNatClampNeg).toNatClampNeg) <<< ((h.1 6 ((h.1 28 v1.toNatClampNeg v4.toNatClampNeg).toNatClampNeg) 1) &&& 31)))), (6, .inr (.inr (6, (h.1 28 v1.toNatClampNeg v4.toNatClampNeg).toNatClampNeg))), (5, .inl (h.1 28 v1.toNatClampNeg v4.toNatClampNeg)), (0, .inr (.inr (2, 0))), (1, .inl v1), (2, .inl v2), (4, .inl v4)] rfl rfl dX2_readRegister_57 ?_
      refine s_aload 1 rfl dX2_readRegister_58 ?_
      refine s_gi gI_RX2_89 dX2_readRegister_60 ?_
      refine s_k3 dX2_readRegister_63 ?_
      refine s_ic_ne (tgt := 105) dX2_readRegister_64 (by decide) (fun q5 => ?_) (fun q5 => ?_)
      · skip
        refine s_iincw 1 (by decide) 6 [(4, .inl (v4 + 1)), (3, .inl (v3 ||| ((h.1 33 0 (h.1 28 v1.toNatClampNeg v4.toNatClampNeg).toNatClampNeg) <<< ((h.1 6 ((h.1 28 v1.toNatClampNeg v4.toNatClampNeg).toNatClampNeg) 1) &&& 31)))), (6, .inr (.inr (6, (h.1 28 v1.toNatClampNeg v4.toNatClampNeg).toNatClampNeg))), (5, .inl (h.1 28 v1.toNatClampNeg v4.toNatClampNeg)), (0, .inr (.inr (2, 0))), (1, .inl v1), (2, .inl v2)] rfl rfl rfl dX2_readRegister_105 ?_
        refine s_goto (tgt := 5) dX2_readRegister_108 (by decide) ?_
        exact s_loc [4, 5, 6, 1, 0] rfl (ih v1 v2 (v3 ||| ((h.1 33 0 (h.1 28 v1.toNatClampNeg v4.toNatClampNeg).toNatClampNeg) <<< ((h.1 6 ((h.1 28 v1.toNatClampNeg v4.toNatClampNeg).toNatClampNeg) 1) &&& 31))) (v4 + 1) h)
      · skip
        refine s_iload2 5 rfl dX2_readRegister_67 ?_
        refine s_if_eq (tgt := 94) dX2_readRegister_68 (by decide) (fun q6 => ?_) (fun q6 => ?_)
        · skip
          refine s_aload0 3 rfl dX2_readRegister_94 ?_
          refine s_gr (gR_RX2_34 0) dX2_readRegister_95 ?_
          refine s_gr (gR_RX2_62 0) dX2_readRegister_98 ?_
          refine s_iload 2 rfl dX2_readRegister_101 ?_
          refine s_k0 dX2_readRegister_103 ?_
          refine s_ias aT_33 q4 dX2_readRegister_104 ?_
          refine s_iincw 1 (by decide) 6 [(4, .inl (v4 + 1)), (3, .inl (v3 ||| ((h.1 33 0 (h.1 28 v1.toNatClampNeg v4.toNatClampNeg).toNatClampNeg) <<< ((h.1 6 ((h.1 28 v1.toNatClampNeg v4.toNatClampNeg).toNatClampNeg) 1) &&& 31)))), (6, .inr (.inr (6, (h.1 28 v1.toNatClampNeg v4.toNatClampNeg).toNatClampNeg))), (5, .inl (h.1 28 v1.toNatClampNeg v4.toNatClampNeg)), (0, .inr (.inr (2, 0))), (1, .inl v1), (2, .inl v2)] rfl rfl rfl dX2_readRegister_105 ?_
          refine s_goto (tgt := 5) dX2_readRegister_108 (by decide) ?_
          exact s_loc [4, 5, 6, 1, 0] rfl (ih v1 v2 (v3 ||| ((h.1 33 0 (h.1 28 v1.toNatClampNeg v4.toNatClampNeg).toNatClampNeg) <<< ((h.1 6 ((h.1 28 v1.toNatClampNeg v4.toNatClampNeg).toNatClampNeg) 1) &&& 31))) (v4 + 1) (uI h 33 0 (h.1 28 v1.toNatClampNeg v4.toNatClampNeg).toNatClampNeg 0))
        · skip
          refine s_aload0 3 rfl dX2_readRegister_71 ?_
          refine s_gr (gR_RX2_34 0) dX2_readRegister_72 ?_
          refine s_gr (gR_RX2_125 0) dX2_readRegister_75 ?_
          refine s_iload 2 rfl dX2_readRegister_78 ?_
          refine s_dup2 rfl rfl dX2_readRegister_80 ?_
          refine s_ial aT_36 q4 dX2_readRegister_81 ?_
          refine s_aload0 3 rfl dX2_readRegister_82 ?_
          refine s_gr (gR_RX2_34 0) dX2_readRegister_83 ?_
          refine s_gr (gR_RX2_62 0) dX2_readRegister_86 ?_
          refine s_iload 2 rfl dX2_readRegister_89 ?_
          refine s_ial aT_33 q4 dX2_readRegister_91 ?_
          refine s_ior dX2_readRegister_92 ?_
          refine s_ias aT_36 q4 dX2_readRegister_93 ?_
          refine s_aload0 3 rfl dX2_readRegister_94 ?_
          refine s_gr (gR_RX2_34 0) dX2_readRegister_95 ?_
          refine s_gr (gR_RX2_62 0) dX2_readRegister_98 ?_
          refine s_iload 2 rfl dX2_readRegister_101 ?_
          refine s_k0 dX2_readRegister_103 ?_
          refine s_let (fun h7 => ?_)
          refine s_ias aT_33 q4 dX2_readRegister_104 ?_
          refine s_iincw 1 (by decide) 6 [(4, .inl (v4 + 1)), (3, .inl (v3 ||| ((h.1 33 0 (h.1 28 v1.toNatClampNeg v4.toNatClampNeg).toNatClampNeg) <<< ((h.1 6 ((h.1 28 v1.toNatClampNeg v4.toNatClampNeg).toNatClampNeg) 1) &&& 31)))), (6, .inr (.inr (6, (h.1 28 v1.toNatClampNeg v4.toNatClampNeg).toNatClampNeg))), (5, .inl (h.1 28 v1.toNatClampNeg v4.toNatClampNeg)), (0, .inr (.inr (2, 0))), (1, .inl v1), (2, .inl v2)] rfl rfl rfl dX2_readRegister_105 ?_
          refine s_goto (tgt := 5) dX2_readRegister_108 (by decide) ?_
          exact s_loc [4, 5, 6, 1, 0] rfl (ih v1 v2 (v3 ||| ((h.1 33 0 (h.1 28 v1.toNatClampNeg v4.toNatClampNeg).toNatClampNeg) <<< ((h.1 6 ((h.1 28 v1.toNatClampNeg v4.toNatClampNeg).toNatClampNeg) 1) &&& 31))) (v4 + 1) (uI h7 33 0 (h.1 28 v1.toNatClampNeg v4.toNatClampNeg).toNatClampNeg 0))
set_option maxRecDepth 20000 in
theorem sf_X2_readRegister (G : mG) (X : mX) (x1 : Int32) (x2 : Int32)  (h : mH) : Sim G X cX2_readRegister 7 RX2 (some .int) (mRoom 2 45) eI (f_X2_readRegister x1 x2 h) 0 [(0, .inr (.inr (2, 0))), (1, .inl x1), (2, .inl x2)] [] h := by
  unfold f_X2_readRegister
  refine s_k0 dX2_readRegister_0 ?_
  refine s_istore3 [(3, .inl 0), (0, .inr (.inr (2, 0))), (1, .inl x1), (2, .inl x2)] rfl rfl dX2_readRegister_1 ?_
  refine s_k0 dX2_readRegister_2 ?_
  refine s_istorew [(4, .inl 0), (3, .inl 0), (0, .inr (.inr (2, 0))), (1, .inl x1), (2, .inl x2)] rfl rfl dX2_readRegister_3 ?_
  refine s_loc [2, 3, 4, 1, 0] rfl ?_
  refine sf_X2_readRegister_5 G X  _ (fun u8 u9 u10 u11 h12 => ?_) mFu x1 x2 0 0 h
  · skip
    refine s_aload0 0 rfl dX2_readRegister_111 ?_
    refine s_viV [] (fun l b hb hl => cf_X2_tick G l  h12 b hb hl) me_X2_tick vi_RX2_128 rfl rfl rfl rfl rfl dX2_readRegister_112 (fun r13 => ?_)
    refine s_iload3 3 rfl dX2_readRegister_115 ?_
    exact s_ireturn rfl rfl dX2_readRegister_116
set_option maxRecDepth 20000 in
theorem cf_X2_readRegister (G : mG) (l : Launch) (x1 : Int32) (x2 : Int32)  (h : mH) (b : Int32 × mH) (hb : f_X2_readRegister x1 x2 h = some b) (hl : ∀ v ∈ ([.inr (.inr (2, 0)), .inl x1, .inl x2] : List mV), mLi v) : mMet G l yX2_readRegister cX2_readRegister 7 (some .int) (mRoom 2 45) [.inr (.inr (2, 0)), .inl x1, .inl x2] h (eI b) :=
  mMet.of (y := yX2_readRegister) (as := [.inr (.inr (2, 0)), .inl x1, .inl x2]) (by decide +kernel) (Nat.le_of_ble_eq_true rfl) (fun X => sf_X2_readRegister G X x1 x2  h) hl b hb
-- DriverBook$Field.bitsIn(I)I
def f_X6_bitsIn (i0 : Nat) (x1 : Int32) (h : mH) : Option (Int32 × mH) :=
  some ((x1 >>> ((h.1 6 i0 1) &&& 31)) &&& (h.1 6 i0 5), h)
set_option maxRecDepth 20000 in
theorem sf_X6_bitsIn (G : mG) (X : mX) (i0 : Nat) (x1 : Int32)  (h : mH) : Sim G X cX6_bitsIn 2 RX6 (some .int) (mRoom 0 0) eI (f_X6_bitsIn i0 x1 h) 0 [(0, .inr (.inr (6, i0))), (1, .inl x1)] [] h := by
  unfold f_X6_bitsIn
  refine s_iload1 1 rfl dX6_bitsIn_0 ?_
  refine s_aload0 0 rfl dX6_bitsIn_1 ?_
  refine s_gi gI_RX6_7 dX6_bitsIn_2 ?_
  refine s_ishr dX6_bitsIn_5 ?_
  refine s_aload0 0 rfl dX6_bitsIn_6 ?_
  refine s_gi gI_RX6_13 dX6_bitsIn_7 ?_
  refine s_iand dX6_bitsIn_10 ?_
  exact s_ireturn rfl rfl dX6_bitsIn_11
set_option maxRecDepth 20000 in
theorem cf_X6_bitsIn (G : mG) (l : Launch) (i0 : Nat) (x1 : Int32)  (h : mH) (b : Int32 × mH) (hb : f_X6_bitsIn i0 x1 h = some b) (hl : ∀ v ∈ ([.inr (.inr (6, i0)), .inl x1] : List mV), mLi v) : mMet G l yX6_bitsIn cX6_bitsIn 2 (some .int) (mRoom 0 0) [.inr (.inr (6, i0)), .inl x1] h (eI b) :=
  mMet.of (y := yX6_bitsIn) (as := [.inr (.inr (6, i0)), .inl x1]) (by decide +kernel) (Nat.le_of_ble_eq_true rfl) (fun X => sf_X6_bitsIn G X i0 x1  h) hl b hb
-- DriverBook$Chip.isHit(II)Z
def f_X2_isHit (x1 : Int32) (x2 : Int32) (h : mH) : Option (Int32 × mH) :=
  if mIn x1 24 = true then
  if (h.1 6 x1.toNatClampNeg 3) = 0 then
    if x2 = (h.1 33 0 x1.toNatClampNeg) then
      some (0, h)
    else
      some (1, h)
  else
  if (h.1 6 x1.toNatClampNeg 3) = 2 then
    if x2 = 0 then
      some (0, h)
    else
      some (1, h)
  else
  if (h.1 6 x1.toNatClampNeg 3) = 4 then
    if x2 = 0 then
      some (0, h)
    else
      some (1, h)
  else
  if (h.1 6 x1.toNatClampNeg 3) = 5 then
    if x2 = (h.1 34 0 x1.toNatClampNeg) then
      some (0, h)
    else
      some (1, h)
  else
  if (h.1 6 x1.toNatClampNeg 3) = 6 then
    if x2 = 0 then
      some (0, h)
    else
      some (1, h)
  else
    some (0, h)
  else none
set_option maxRecDepth 20000 in
theorem sf_X2_isHit (G : mG) (X : mX) (x1 : Int32) (x2 : Int32)  (h : mH) : Sim G X cX2_isHit 3 RX2 (some .boolean) (mRoom 0 0) eI (f_X2_isHit x1 x2 h) 0 [(0, .inr (.inr (2, 0))), (1, .inl x1), (2, .inl x2)] [] h := by
  unfold f_X2_isHit
  refine s_aload0 0 rfl dX2_isHit_0 ?_
  refine s_gr (gR_RX2_30 0) dX2_isHit_1 ?_
  refine s_gr (gR_RX2_54 0) dX2_isHit_4 ?_
  refine s_iload1 1 rfl dX2_isHit_7 ?_
  refine s_chk (fun q1 => ?_)
  refine s_aal (aR_24 0 x1) q1 dX2_isHit_8 ?_
  refine s_gi gI_RX2_89 dX2_isHit_9 ?_
  refine s_case (fun q2 => ?_) (fun q2 => ?_)
  · skip
    refine s_tabP dX2_isHit_12 0 q2 56 (by decide) (by decide) ?_
    refine s_iload2 2 rfl dX2_isHit_56 ?_
    refine s_aload0 0 rfl dX2_isHit_57 ?_
    refine s_gr (gR_RX2_34 0) dX2_isHit_58 ?_
    refine s_gr (gR_RX2_62 0) dX2_isHit_61 ?_
    refine s_iload1 1 rfl dX2_isHit_64 ?_
    refine s_ial aT_33 q1 dX2_isHit_65 ?_
    refine s_ic_eq (tgt := 73) dX2_isHit_66 (by decide) (fun q3 => ?_) (fun q3 => ?_)
    · skip
      refine s_k0 dX2_isHit_73 ?_
      exact s_zreturn rfl rfl (Or.inl rfl) dX2_isHit_74
    · skip
      refine s_k1 dX2_isHit_69 ?_
      refine s_goto (tgt := 74) dX2_isHit_70 (by decide) ?_
      exact s_zreturn rfl rfl (Or.inr rfl) dX2_isHit_74
  refine s_case (fun q4 => ?_) (fun q4 => ?_)
  · skip
    refine s_tabP dX2_isHit_12 2 q4 94 (by decide) (by decide) ?_
    refine s_iload2 2 rfl dX2_isHit_94 ?_
    refine s_if_eq (tgt := 102) dX2_isHit_95 (by decide) (fun q5 => ?_) (fun q5 => ?_)
    · skip
      refine s_k0 dX2_isHit_102 ?_
      exact s_zreturn rfl rfl (Or.inl rfl) dX2_isHit_103
    · skip
      refine s_k1 dX2_isHit_98 ?_
      refine s_goto (tgt := 103) dX2_isHit_99 (by decide) ?_
      exact s_zreturn rfl rfl (Or.inr rfl) dX2_isHit_103
  refine s_case (fun q6 => ?_) (fun q6 => ?_)
  · skip
    refine s_tabP dX2_isHit_12 4 q6 94 (by decide) (by decide) ?_
    refine s_iload2 2 rfl dX2_isHit_94 ?_
    refine s_if_eq (tgt := 102) dX2_isHit_95 (by decide) (fun q7 => ?_) (fun q7 => ?_)
    · skip
      refine s_k0 dX2_isHit_102 ?_
      exact s_zreturn rfl rfl (Or.inl rfl) dX2_isHit_103
    · skip
      refine s_k1 dX2_isHit_98 ?_
      refine s_goto (tgt := 103) dX2_isHit_99 (by decide) ?_
      exact s_zreturn rfl rfl (Or.inr rfl) dX2_isHit_103
  refine s_case (fun q8 => ?_) (fun q8 => ?_)
  · skip
    refine s_tabP dX2_isHit_12 5 q8 75 (by decide) (by decide) ?_
    refine s_iload2 2 rfl dX2_isHit_75 ?_
    refine s_aload0 0 rfl dX2_isHit_76 ?_
    refine s_gr (gR_RX2_34 0) dX2_isHit_77 ?_
    refine s_gr (gR_RX2_70 0) dX2_isHit_80 ?_
    refine s_iload1 1 rfl dX2_isHit_83 ?_
    refine s_ial aT_34 q1 dX2_isHit_84 ?_
    refine s_ic_eq (tgt := 92) dX2_isHit_85 (by decide) (fun q9 => ?_) (fun q9 => ?_)
    · skip
      refine s_k0 dX2_isHit_92 ?_
      exact s_zreturn rfl rfl (Or.inl rfl) dX2_isHit_93
    · skip
      refine s_k1 dX2_isHit_88 ?_
      refine s_goto (tgt := 93) dX2_isHit_89 (by decide) ?_
      exact s_zreturn rfl rfl (Or.inr rfl) dX2_isHit_93
  refine s_case (fun q10 => ?_) (fun q10 => ?_)
  · skip
    refine s_tabP dX2_isHit_12 6 q10 94 (by decide) (by decide) ?_
    refine s_iload2 2 rfl dX2_isHit_94 ?_
    refine s_if_eq (tgt := 102) dX2_isHit_95 (by decide) (fun q11 => ?_) (fun q11 => ?_)
    · skip
      refine s_k0 dX2_isHit_102 ?_
      exact s_zreturn rfl rfl (Or.inl rfl) dX2_isHit_103
    · skip
      refine s_k1 dX2_isHit_98 ?_
      refine s_goto (tgt := 103) dX2_isHit_99 (by decide) ?_
      exact s_zreturn rfl rfl (Or.inr rfl) dX2_isHit_103
  refine s_tabD dX2_isHit_12 [0, 2, 4, 5, 6] (by refine List.forall_mem_cons.mpr ⟨q2, ?_⟩; refine List.forall_mem_cons.mpr ⟨q4, ?_⟩; refine List.forall_mem_cons.mpr ⟨q6, ?_⟩; refine List.forall_mem_cons.mpr ⟨q8, ?_⟩; refine List.forall_mem_cons.mpr ⟨q10, ?_⟩; exact fun _ z => absurd z List.not_mem_nil) (by decide) (by decide) 104 (by decide) ?_
  · skip
    refine s_k0 dX2_isHit_104 ?_
    exact s_zreturn rfl rfl (Or.inl rfl) dX2_isHit_105
set_option maxRecDepth 20000 in
theorem cf_X2_isHit (G : mG) (l : Launch) (x1 : Int32) (x2 : Int32)  (h : mH) (b : Int32 × mH) (hb : f_X2_isHit x1 x2 h = some b) (hl : ∀ v ∈ ([.inr (.inr (2, 0)), .inl x1, .inl x2] : List mV), mLi v) : mMet G l yX2_isHit cX2_isHit 3 (some .boolean) (mRoom 0 0) [.inr (.inr (2, 0)), .inl x1, .inl x2] h (eI b) :=
  mMet.of (y := yX2_isHit) (as := [.inr (.inr (2, 0)), .inl x1, .inl x2]) (by decide +kernel) (Nat.le_of_ble_eq_true rfl) (fun X => sf_X2_isHit G X x1 x2  h) hl b hb
-- DriverBook$Chip.hitsOf(II)I
def f_X2_hitsOf_5 (k : Int32 → Int32 → Int32 → Int32 → mH → Option (Int32 × mH))  : Nat → Int32 → Int32 → Int32 → Int32 → mH → Option (Int32 × mH)
  | 0, _, _, _, _, _ => none
  | n + 1, v1, v2, v3, v4, h =>
    if mIn v1 8 = true then
    if v4 < (h.1 29 0 v1.toNatClampNeg) then
      if mIn v4 16 = true then
      if mIn (h.1 28 v1.toNatClampNeg v4.toNatClampNeg) 24 = true then
      (f_X6_bitsIn ((h.1 28 v1.toNatClampNeg v4.toNatClampNeg).toNatClampNeg) v2 h).bind fun r5 =>
      (f_X2_isHit (h.1 28 v1.toNatClampNeg v4.toNatClampNeg) r5.1 r5.2).bind fun r6 =>
      if r6.1 = 0 then
        f_X2_hitsOf_5 k  n v1 v2 v3 (v4 + 1) r6.2
      else
        f_X2_hitsOf_5 k  n v1 v2 (v3 ||| (1 <<< ((h.1 28 v1.toNatClampNeg v4.toNatClampNeg) &&& 31))) (v4 + 1) r6.2
      else none
      else none
    else
      k v1 v2 v3 v4 h
    else none
def f_X2_hitsOf (x1 : Int32) (x2 : Int32) (h : mH) : Option (Int32 × mH) :=
  f_X2_hitsOf_5 (fun u8 u9 u10 u11 h12 =>
    some (u10, h12))  mFu x1 x2 0 0 h
set_option maxRecDepth 20000 in
theorem sf_X2_hitsOf_5 (G : mG) (X : mX)   (k : Int32 → Int32 → Int32 → Int32 → mH → Option (Int32 × mH)) (hk : ∀ (v1 : Int32) (v2 : Int32) (v3 : Int32) (v4 : Int32) (h : mH), Sim G X cX2_hitsOf 6 RX2 (some .int) (mRoom 1 22) eI (k v1 v2 v3 v4 h) 63 [(0, .inr (.inr (2, 0))), (1, .inl v1), (2, .inl v2), (3, .inl v3), (4, .inl v4)] [] h) (n : Nat) : ∀ (v1 : Int32) (v2 : Int32) (v3 : Int32) (v4 : Int32) (h : mH), Sim G X cX2_hitsOf 6 RX2 (some .int) (mRoom 1 22) eI (f_X2_hitsOf_5 k  n v1 v2 v3 v4 h) 5 [(0, .inr (.inr (2, 0))), (1, .inl v1), (2, .inl v2), (3, .inl v3), (4, .inl v4)] [] h := by
  induction n with
  | zero =>
    intro v1 v2 v3 v4 h
    exact s_none
  | succ n ih =>
    intro v1 v2 v3 v4 h
    unfold f_X2_hitsOf_5
    refine s_iload 4 rfl dX2_hitsOf_5 ?_
    refine s_aload0 0 rfl dX2_hitsOf_7 ?_
    refine s_gr (gR_RX2_16 0) dX2_hitsOf_8 ?_
    refine s_iload1 1 rfl dX2_hitsOf_11 ?_
    refine s_chk (fun q1 => ?_)
    refine s_ial aT_29 q1 dX2_hitsOf_12 ?_
    refine s_ic_ge (tgt := 63) dX2_hitsOf_13 (by decide) (fun q2 => ?_) (fun q2 => ?_)
    · skip
      exact s_loc [0, 1, 2, 3, 4] rfl (hk v1 v2 v3 v4 h)
    · skip
      refine s_aload0 0 rfl dX2_hitsOf_16 ?_
      refine s_gr (gR_RX2_11 0) dX2_hitsOf_17 ?_
      refine s_iload1 1 rfl dX2_hitsOf_20 ?_
      refine s_aal (aR_27 0 v1) q1 dX2_hitsOf_21 ?_
      refine s_iload 4 rfl dX2_hitsOf_22 ?_
      refine s_chk (fun q3 => ?_)
      refine s_ial aT_28 q3 dX2_hitsOf_24 ?_
      refine s_istorew [(5, .inl (h.1 28 v1.toNatClampNeg v4.toNatClampNeg)), (0, .inr (.inr (2, 0))), (1, .inl v1), (2, .inl v2), (3, .inl v3), (4, .inl v4)] rfl rfl dX2_hitsOf_25 ?_
      refine s_aload0 1 rfl dX2_hitsOf_27 ?_
      refine s_iload 0 rfl dX2_hitsOf_28 ?_
      refine s_aload0 1 rfl dX2_hitsOf_30 ?_
      refine s_gr (gR_RX2_30 0) dX2_hitsOf_31 ?_
      refine s_gr (gR_RX2_54 0) dX2_hitsOf_34 ?_
      refine s_iload 0 rfl dX2_hitsOf_37 ?_
      refine s_chk (fun q4 => ?_)
      refine s_aal (aR_24 0 (h.1 28 v1.toNatClampNeg v4.toNatClampNeg)) q4 dX2_hitsOf_39 ?_
      refine s_iload2 3 rfl dX2_hitsOf_40 ?_
      refine s_viI [.inl v2] (fun l b hb hl => cf_X6_bitsIn G l ((h.1 28 v1.toNatClampNeg v4.toNatClampNeg).toNatClampNeg) v2 h b hb hl) me_X6_bitsIn vi_RX2_145 rfl rfl rfl rfl rfl dX2_hitsOf_41 (fun r5 => ?_)
      refine s_viI [.inl (h.1 28 v1.toNatClampNeg v4.toNatClampNeg), .inl r5.1] (fun l b hb hl => cf_X2_isHit G l (h.1 28 v1.toNatClampNeg v4.toNatClampNeg) r5.1 r5.2 b hb hl) me_X2_isHit vi_RX2_153 rfl rfl rfl rfl rfl dX2_hitsOf_44 (fun r6 => ?_)
      refine s_if_eq (tgt := 57) dX2_hitsOf_47 (by decide) (fun q7 => ?_) (fun q7 => ?_)
      · skip
        refine s_iincw 1 (by decide) 5 [(4, .inl (v4 + 1)), (5, .inl (h.1 28 v1.toNatClampNeg v4.toNatClampNeg)), (0, .inr (.inr (2, 0))), (1, .inl v1), (2, .inl v2), (3, .inl v3)] rfl rfl rfl dX2_hitsOf_57 ?_
        refine s_goto (tgt := 5) dX2_hitsOf_60 (by decide) ?_
        exact s_loc [2, 3, 4, 5, 0] rfl (ih v1 v2 v3 (v4 + 1) r6.2)
      · skip
        refine s_iload3 4 rfl dX2_hitsOf_50 ?_
        refine s_k1 dX2_hitsOf_51 ?_
        refine s_iload 0 rfl dX2_hitsOf_52 ?_
        refine s_ishl dX2_hitsOf_54 ?_
        refine s_ior dX2_hitsOf_55 ?_
        refine s_istore3 [(3, .inl (v3 ||| (1 <<< ((h.1 28 v1.toNatClampNeg v4.toNatClampNeg) &&& 31)))), (5, .inl (h.1 28 v1.toNatClampNeg v4.toNatClampNeg)), (0, .inr (.inr (2, 0))), (1, .inl v1), (2, .inl v2), (4, .inl v4)] rfl rfl dX2_hitsOf_56 ?_
        refine s_iincw 1 (by decide) 5 [(4, .inl (v4 + 1)), (3, .inl (v3 ||| (1 <<< ((h.1 28 v1.toNatClampNeg v4.toNatClampNeg) &&& 31)))), (5, .inl (h.1 28 v1.toNatClampNeg v4.toNatClampNeg)), (0, .inr (.inr (2, 0))), (1, .inl v1), (2, .inl v2)] rfl rfl rfl dX2_hitsOf_57 ?_
        refine s_goto (tgt := 5) dX2_hitsOf_60 (by decide) ?_
        exact s_loc [3, 4, 5, 1, 0] rfl (ih v1 v2 (v3 ||| (1 <<< ((h.1 28 v1.toNatClampNeg v4.toNatClampNeg) &&& 31))) (v4 + 1) r6.2)
set_option maxRecDepth 20000 in
theorem sf_X2_hitsOf (G : mG) (X : mX) (x1 : Int32) (x2 : Int32)  (h : mH) : Sim G X cX2_hitsOf 6 RX2 (some .int) (mRoom 1 22) eI (f_X2_hitsOf x1 x2 h) 0 [(0, .inr (.inr (2, 0))), (1, .inl x1), (2, .inl x2)] [] h := by
  unfold f_X2_hitsOf
  refine s_k0 dX2_hitsOf_0 ?_
  refine s_istore3 [(3, .inl 0), (0, .inr (.inr (2, 0))), (1, .inl x1), (2, .inl x2)] rfl rfl dX2_hitsOf_1 ?_
  refine s_k0 dX2_hitsOf_2 ?_
  refine s_istorew [(4, .inl 0), (3, .inl 0), (0, .inr (.inr (2, 0))), (1, .inl x1), (2, .inl x2)] rfl rfl dX2_hitsOf_3 ?_
  refine s_loc [2, 3, 4, 1, 0] rfl ?_
  refine sf_X2_hitsOf_5 G X  _ (fun u8 u9 u10 u11 h12 => ?_) mFu x1 x2 0 0 h
  · skip
    refine s_iload3 3 rfl dX2_hitsOf_63 ?_
    exact s_ireturn rfl rfl dX2_hitsOf_64
set_option maxRecDepth 20000 in
theorem cf_X2_hitsOf (G : mG) (l : Launch) (x1 : Int32) (x2 : Int32)  (h : mH) (b : Int32 × mH) (hb : f_X2_hitsOf x1 x2 h = some b) (hl : ∀ v ∈ ([.inr (.inr (2, 0)), .inl x1, .inl x2] : List mV), mLi v) : mMet G l yX2_hitsOf cX2_hitsOf 6 (some .int) (mRoom 1 22) [.inr (.inr (2, 0)), .inl x1, .inl x2] h (eI b) :=
  mMet.of (y := yX2_hitsOf) (as := [.inr (.inr (2, 0)), .inl x1, .inl x2]) (by decide +kernel) (Nat.le_of_ble_eq_true rfl) (fun X => sf_X2_hitsOf G X x1 x2  h) hl b hb
-- DriverBook$Chip.isBroken(LDriverBook$Law;)Z
def f_X2_isBroken (i1 : Nat) (h : mH) : Option (Int32 × mH) :=
  if (h.1 7 i1 0) = 0 then
    if mIn (h.1 7 i1 2) 24 = true then
    if (h.1 33 0 (h.1 7 i1 2).toNatClampNeg) = (h.1 7 i1 3) then
      some (1, h)
    else
      some (0, h)
    else none
  else
  if (h.1 7 i1 0) = 1 then
    if mIn (h.1 7 i1 2) 24 = true then
    if (h.1 33 0 (h.1 7 i1 2).toNatClampNeg) = (h.1 7 i1 3) then
      some (0, h)
    else
      some (1, h)
    else none
  else
    if mIn (h.1 7 i1 2) 24 = true then
    if (lg_cmp (h.2 37 0 (h.1 7 i1 2).toNatClampNeg) (-1)) = 0 then
      some (0, h)
    else
      if (lg_cmp ((h.2 8 0 10) - (h.2 37 0 (h.1 7 i1 2).toNatClampNeg)) ((h.1 7 i1 3).toInt64)) < 0 then
        some (1, h)
      else
        some (0, h)
    else none
set_option maxRecDepth 20000 in
theorem sf_X2_isBroken (G : mG) (X : mX) (i1 : Nat)  (h : mH) : Sim G X cX2_isBroken 2 RX2 (some .boolean) (mRoom 0 0) eI (f_X2_isBroken i1 h) 0 [(0, .inr (.inr (2, 0))), (1, .inr (.inr (7, i1)))] [] h := by
  unfold f_X2_isBroken
  refine s_aload1 1 rfl dX2_isBroken_0 ?_
  refine s_gi gI_RX2_175 dX2_isBroken_1 ?_
  refine s_case (fun q1 => ?_) (fun q1 => ?_)
  · skip
    refine s_lokP dX2_isBroken_4 0 q1 (by decide) 32 (by decide) ?_
    refine s_aload0 0 rfl dX2_isBroken_32 ?_
    refine s_gr (gR_RX2_34 0) dX2_isBroken_33 ?_
    refine s_gr (gR_RX2_62 0) dX2_isBroken_36 ?_
    refine s_aload1 1 rfl dX2_isBroken_39 ?_
    refine s_gi gI_RX2_176 dX2_isBroken_40 ?_
    refine s_chk (fun q2 => ?_)
    refine s_ial aT_33 q2 dX2_isBroken_43 ?_
    refine s_aload1 1 rfl dX2_isBroken_44 ?_
    refine s_gi gI_RX2_179 dX2_isBroken_45 ?_
    refine s_ic_ne (tgt := 55) dX2_isBroken_48 (by decide) (fun q3 => ?_) (fun q3 => ?_)
    · skip
      refine s_k0 dX2_isBroken_55 ?_
      exact s_zreturn rfl rfl (Or.inl rfl) dX2_isBroken_56
    · skip
      refine s_k1 dX2_isBroken_51 ?_
      refine s_goto (tgt := 56) dX2_isBroken_52 (by decide) ?_
      exact s_zreturn rfl rfl (Or.inr rfl) dX2_isBroken_56
  refine s_case (fun q4 => ?_) (fun q4 => ?_)
  · skip
    refine s_lokP dX2_isBroken_4 1 q4 (by decide) 57 (by decide) ?_
    refine s_aload0 0 rfl dX2_isBroken_57 ?_
    refine s_gr (gR_RX2_34 0) dX2_isBroken_58 ?_
    refine s_gr (gR_RX2_62 0) dX2_isBroken_61 ?_
    refine s_aload1 1 rfl dX2_isBroken_64 ?_
    refine s_gi gI_RX2_176 dX2_isBroken_65 ?_
    refine s_chk (fun q5 => ?_)
    refine s_ial aT_33 q5 dX2_isBroken_68 ?_
    refine s_aload1 1 rfl dX2_isBroken_69 ?_
    refine s_gi gI_RX2_179 dX2_isBroken_70 ?_
    refine s_ic_eq (tgt := 80) dX2_isBroken_73 (by decide) (fun q6 => ?_) (fun q6 => ?_)
    · skip
      refine s_k0 dX2_isBroken_80 ?_
      exact s_zreturn rfl rfl (Or.inl rfl) dX2_isBroken_81
    · skip
      refine s_k1 dX2_isBroken_76 ?_
      refine s_goto (tgt := 81) dX2_isBroken_77 (by decide) ?_
      exact s_zreturn rfl rfl (Or.inr rfl) dX2_isBroken_81
  refine s_lokD dX2_isBroken_4 [0, 1] (by refine List.forall_mem_cons.mpr ⟨q1, ?_⟩; refine List.forall_mem_cons.mpr ⟨q4, ?_⟩; exact fun _ z => absurd z List.not_mem_nil) (by decide) (by decide) 82 (by decide) ?_
  · skip
    refine s_aload0 0 rfl dX2_isBroken_82 ?_
    refine s_gr (gR_RX2_34 0) dX2_isBroken_83 ?_
    refine s_gr (gR_RX2_142 0) dX2_isBroken_86 ?_
    refine s_aload1 1 rfl dX2_isBroken_89 ?_
    refine s_gi gI_RX2_176 dX2_isBroken_90 ?_
    refine s_chk (fun q7 => ?_)
    refine s_lal aT_37 q7 dX2_isBroken_93 ?_
    refine s_ldc2 (v := (-1)) kc_RX2_182 dX2_isBroken_94 ?_
    refine s_lcmp dX2_isBroken_97 ?_
    refine s_if_eq (tgt := 134) dX2_isBroken_98 (by decide) (fun q8 => ?_) (fun q8 => ?_)
    · skip
      refine s_k0 dX2_isBroken_134 ?_
      exact s_zreturn rfl rfl (Or.inl rfl) dX2_isBroken_135
    · skip
      refine s_aload0 0 rfl dX2_isBroken_101 ?_
      refine s_gr (gR_RX2_34 0) dX2_isBroken_102 ?_
      refine s_gj gJ_RX2_92 dX2_isBroken_105 ?_
      refine s_aload0 0 rfl dX2_isBroken_108 ?_
      refine s_gr (gR_RX2_34 0) dX2_isBroken_109 ?_
      refine s_gr (gR_RX2_142 0) dX2_isBroken_112 ?_
      refine s_aload1 1 rfl dX2_isBroken_115 ?_
      refine s_gi gI_RX2_176 dX2_isBroken_116 ?_
      refine s_lal aT_37 q7 dX2_isBroken_119 ?_
      refine s_lsub dX2_isBroken_120 ?_
      refine s_aload1 1 rfl dX2_isBroken_121 ?_
      refine s_gi gI_RX2_179 dX2_isBroken_122 ?_
      refine s_i2l dX2_isBroken_125 ?_
      refine s_lcmp dX2_isBroken_126 ?_
      refine s_if_ge (tgt := 134) dX2_isBroken_127 (by decide) (fun q9 => ?_) (fun q9 => ?_)
      · skip
        refine s_k0 dX2_isBroken_134 ?_
        exact s_zreturn rfl rfl (Or.inl rfl) dX2_isBroken_135
      · skip
        refine s_k1 dX2_isBroken_130 ?_
        refine s_goto (tgt := 135) dX2_isBroken_131 (by decide) ?_
        exact s_zreturn rfl rfl (Or.inr rfl) dX2_isBroken_135
set_option maxRecDepth 20000 in
theorem cf_X2_isBroken (G : mG) (l : Launch) (i1 : Nat)  (h : mH) (b : Int32 × mH) (hb : f_X2_isBroken i1 h = some b) (hl : ∀ v ∈ ([.inr (.inr (2, 0)), .inr (.inr (7, i1))] : List mV), mLi v) : mMet G l yX2_isBroken cX2_isBroken 2 (some .boolean) (mRoom 0 0) [.inr (.inr (2, 0)), .inr (.inr (7, i1))] h (eI b) :=
  mMet.of (y := yX2_isBroken) (as := [.inr (.inr (2, 0)), .inr (.inr (7, i1))]) (by decide +kernel) (Nat.le_of_ble_eq_true rfl) (fun X => sf_X2_isBroken G X i1  h) hl b hb
-- DriverBook$State.countBreak(I)V
def f_X8_countBreak (i0 : Nat) (x1 : Int32) (h : mH) : Option (mH) :=
  if (lg_cmp (h.2 8 i0 13) 0) = 0 then
    mLet (uI h 8 i0 14 x1) fun h2 =>
    mLet (uJ h2 8 i0 15 (h2.2 8 i0 10)) fun h3 =>
    some (uJ h3 8 i0 13 ((h3.2 8 i0 13) + 1))
  else
    some (uJ h 8 i0 13 ((h.2 8 i0 13) + 1))
set_option maxRecDepth 20000 in
theorem sf_X8_countBreak (G : mG) (X : mX) (i0 : Nat) (x1 : Int32)  (h : mH) : Sim G X cX8_countBreak 2 RX8 none (mRoom 0 0) eV (f_X8_countBreak i0 x1 h) 0 [(0, .inr (.inr (8, i0))), (1, .inl x1)] [] h := by
  unfold f_X8_countBreak
  refine s_aload0 0 rfl dX8_countBreak_0 ?_
  refine s_gj gJ_RX8_54 dX8_countBreak_1 ?_
  refine s_lk0 dX8_countBreak_4 ?_
  refine s_lcmp dX8_countBreak_5 ?_
  refine s_if_ne (tgt := 22) dX8_countBreak_6 (by decide) (fun q1 => ?_) (fun q1 => ?_)
  · skip
    refine s_aload0 0 rfl dX8_countBreak_22 ?_
    refine s_dup rfl dX8_countBreak_23 ?_
    refine s_gj gJ_RX8_54 dX8_countBreak_24 ?_
    refine s_lk1 dX8_countBreak_27 ?_
    refine s_ladd dX8_countBreak_28 ?_
    refine s_pj pJ_RX8_54 dX8_countBreak_29 ?_
    exact s_return rfl rfl dX8_countBreak_32
  · skip
    refine s_aload0 0 rfl dX8_countBreak_9 ?_
    refine s_iload1 1 rfl dX8_countBreak_10 ?_
    refine s_pi pI_RX8_57 dX8_countBreak_11 ?_
    refine s_aload0 0 rfl dX8_countBreak_14 ?_
    refine s_aload0 0 rfl dX8_countBreak_15 ?_
    refine s_let (fun h2 => ?_)
    refine s_gj gJ_RX8_44 dX8_countBreak_16 ?_
    refine s_pj pJ_RX8_62 dX8_countBreak_19 ?_
    refine s_aload0 0 rfl dX8_countBreak_22 ?_
    refine s_dup rfl dX8_countBreak_23 ?_
    refine s_let (fun h3 => ?_)
    refine s_gj gJ_RX8_54 dX8_countBreak_24 ?_
    refine s_lk1 dX8_countBreak_27 ?_
    refine s_ladd dX8_countBreak_28 ?_
    refine s_pj pJ_RX8_54 dX8_countBreak_29 ?_
    exact s_return rfl rfl dX8_countBreak_32
set_option maxRecDepth 20000 in
theorem cf_X8_countBreak (G : mG) (l : Launch) (i0 : Nat) (x1 : Int32)  (h : mH) (b : mH) (hb : f_X8_countBreak i0 x1 h = some b) (hl : ∀ v ∈ ([.inr (.inr (8, i0)), .inl x1] : List mV), mLi v) : mMet G l yX8_countBreak cX8_countBreak 2 none (mRoom 0 0) [.inr (.inr (8, i0)), .inl x1] h (eV b) :=
  mMet.of (y := yX8_countBreak) (as := [.inr (.inr (8, i0)), .inl x1]) (by decide +kernel) (Nat.le_of_ble_eq_true rfl) (fun X => sf_X8_countBreak G X i0 x1  h) hl b hb
-- DriverBook$Chip.lookAtLaws(I)V
def f_X2_lookAtLaws_2 (k : Int32 → Int32 → mH → Option (mH))  : Nat → Int32 → Int32 → mH → Option (mH)
  | 0, _, _, _ => none
  | n + 1, v1, v2, h =>
    if v2 < (h.1 1 0 5) then
      if mIn v2 12 = true then
      (f_X11_isIn v1 (h.1 7 v2.toNatClampNeg 1) h).bind fun r3 =>
      if r3.1 = 0 then
        f_X2_lookAtLaws_2 k  n v1 (v2 + 1) r3.2
      else
        (f_X2_isBroken v2.toNatClampNeg r3.2).bind fun r5 =>
        if r5.1 = 0 then
          f_X2_lookAtLaws_2 k  n v1 (v2 + 1) r5.2
        else
          (f_X8_countBreak 0 v2 r5.2).bind fun r7 =>
          f_X2_lookAtLaws_2 k  n v1 (v2 + 1) r7
      else none
    else
      k v1 v2 h
def f_X2_lookAtLaws (x1 : Int32) (h : mH) : Option (mH) :=
  f_X2_lookAtLaws_2 (fun u8 u9 h10 =>
    some h10)  mFu x1 0 h
set_option maxRecDepth 20000 in
theorem sf_X2_lookAtLaws_2 (G : mG) (X : mX)   (k : Int32 → Int32 → mH → Option (mH)) (hk : ∀ (v1 : Int32) (v2 : Int32) (h : mH), Sim G X cX2_lookAtLaws 4 RX2 none (mRoom 1 21) eV (k v1 v2 h) 56 [(0, .inr (.inr (2, 0))), (1, .inl v1), (2, .inl v2)] [] h) (n : Nat) : ∀ (v1 : Int32) (v2 : Int32) (h : mH), Sim G X cX2_lookAtLaws 4 RX2 none (mRoom 1 21) eV (f_X2_lookAtLaws_2 k  n v1 v2 h) 2 [(0, .inr (.inr (2, 0))), (1, .inl v1), (2, .inl v2)] [] h := by
  induction n with
  | zero =>
    intro v1 v2 h
    exact s_none
  | succ n ih =>
    intro v1 v2 h
    unfold f_X2_lookAtLaws_2
    refine s_iload2 2 rfl dX2_lookAtLaws_2 ?_
    refine s_aload0 0 rfl dX2_lookAtLaws_3 ?_
    refine s_gr (gR_RX2_30 0) dX2_lookAtLaws_4 ?_
    refine s_gi gI_RX2_156 dX2_lookAtLaws_7 ?_
    refine s_ic_ge (tgt := 56) dX2_lookAtLaws_10 (by decide) (fun q1 => ?_) (fun q1 => ?_)
    · skip
      exact s_loc [0, 1, 2] rfl (hk v1 v2 h)
    · skip
      refine s_aload0 0 rfl dX2_lookAtLaws_13 ?_
      refine s_gr (gR_RX2_30 0) dX2_lookAtLaws_14 ?_
      refine s_gr (gR_RX2_159 0) dX2_lookAtLaws_17 ?_
      refine s_iload2 2 rfl dX2_lookAtLaws_20 ?_
      refine s_chk (fun q2 => ?_)
      refine s_aal (aR_25 0 v2) q2 dX2_lookAtLaws_21 ?_
      refine s_astore3 [(3, .inr (.inr (7, v2.toNatClampNeg))), (0, .inr (.inr (2, 0))), (1, .inl v1), (2, .inl v2)] rfl rfl dX2_lookAtLaws_22 ?_
      refine s_iload1 2 rfl dX2_lookAtLaws_23 ?_
      refine s_aload3 0 rfl dX2_lookAtLaws_24 ?_
      refine s_gi gI_RX2_163 dX2_lookAtLaws_25 ?_
      refine s_siI [.inl v1, .inl (h.1 7 v2.toNatClampNeg 1)] (fun l b hb hl => cf_X11_isIn G l v1 (h.1 7 v2.toNatClampNeg 1) h b hb hl) me_X11_isIn si_RX2_138 rfl rfl rfl rfl rfl dX2_lookAtLaws_28 (fun r3 => ?_)
      refine s_if_eq (tgt := 50) dX2_lookAtLaws_31 (by decide) (fun q4 => ?_) (fun q4 => ?_)
      · skip
        refine s_iincw 1 (by decide) 3 [(2, .inl (v2 + 1)), (3, .inr (.inr (7, v2.toNatClampNeg))), (0, .inr (.inr (2, 0))), (1, .inl v1)] rfl rfl rfl dX2_lookAtLaws_50 ?_
        refine s_goto (tgt := 2) dX2_lookAtLaws_53 (by decide) ?_
        exact s_loc [2, 3, 0] rfl (ih v1 (v2 + 1) r3.2)
      · skip
        refine s_aload0 1 rfl dX2_lookAtLaws_34 ?_
        refine s_aload3 0 rfl dX2_lookAtLaws_35 ?_
        refine s_viI [.inr (.inr (7, v2.toNatClampNeg))] (fun l b hb hl => cf_X2_isBroken G l v2.toNatClampNeg r3.2 b hb hl) me_X2_isBroken vi_RX2_168 rfl rfl rfl rfl rfl dX2_lookAtLaws_36 (fun r5 => ?_)
        refine s_if_eq (tgt := 50) dX2_lookAtLaws_39 (by decide) (fun q6 => ?_) (fun q6 => ?_)
        · skip
          refine s_iincw 1 (by decide) 3 [(2, .inl (v2 + 1)), (3, .inr (.inr (7, v2.toNatClampNeg))), (0, .inr (.inr (2, 0))), (1, .inl v1)] rfl rfl rfl dX2_lookAtLaws_50 ?_
          refine s_goto (tgt := 2) dX2_lookAtLaws_53 (by decide) ?_
          exact s_loc [2, 3, 0] rfl (ih v1 (v2 + 1) r5.2)
        · skip
          refine s_aload0 1 rfl dX2_lookAtLaws_42 ?_
          refine s_gr (gR_RX2_34 0) dX2_lookAtLaws_43 ?_
          refine s_iload2 3 rfl dX2_lookAtLaws_46 ?_
          refine s_viV [.inl v2] (fun l b hb hl => cf_X8_countBreak G l 0 v2 r5.2 b hb hl) me_X8_countBreak vi_RX2_172 rfl rfl rfl rfl rfl dX2_lookAtLaws_47 (fun r7 => ?_)
          refine s_iincw 1 (by decide) 3 [(2, .inl (v2 + 1)), (3, .inr (.inr (7, v2.toNatClampNeg))), (0, .inr (.inr (2, 0))), (1, .inl v1)] rfl rfl rfl dX2_lookAtLaws_50 ?_
          refine s_goto (tgt := 2) dX2_lookAtLaws_53 (by decide) ?_
          exact s_loc [2, 3, 0] rfl (ih v1 (v2 + 1) r7)
set_option maxRecDepth 20000 in
theorem sf_X2_lookAtLaws (G : mG) (X : mX) (x1 : Int32)  (h : mH) : Sim G X cX2_lookAtLaws 4 RX2 none (mRoom 1 21) eV (f_X2_lookAtLaws x1 h) 0 [(0, .inr (.inr (2, 0))), (1, .inl x1)] [] h := by
  unfold f_X2_lookAtLaws
  refine s_k0 dX2_lookAtLaws_0 ?_
  refine s_istore2 [(2, .inl 0), (0, .inr (.inr (2, 0))), (1, .inl x1)] rfl rfl dX2_lookAtLaws_1 ?_
  refine s_loc [1, 2, 0] rfl ?_
  refine sf_X2_lookAtLaws_2 G X  _ (fun u8 u9 h10 => ?_) mFu x1 0 h
  · skip
    exact s_return rfl rfl dX2_lookAtLaws_56
set_option maxRecDepth 20000 in
theorem cf_X2_lookAtLaws (G : mG) (l : Launch) (x1 : Int32)  (h : mH) (b : mH) (hb : f_X2_lookAtLaws x1 h = some b) (hl : ∀ v ∈ ([.inr (.inr (2, 0)), .inl x1] : List mV), mLi v) : mMet G l yX2_lookAtLaws cX2_lookAtLaws 4 none (mRoom 1 21) [.inr (.inr (2, 0)), .inl x1] h (eV b) :=
  mMet.of (y := yX2_lookAtLaws) (as := [.inr (.inr (2, 0)), .inl x1]) (by decide +kernel) (Nat.le_of_ble_eq_true rfl) (fun X => sf_X2_lookAtLaws G X x1  h) hl b hb
-- DriverBook$Chip.loadHeld()V
def f_X2_loadHeld_2 (k : Int32 → mH → Option (mH))  : Nat → Int32 → mH → Option (mH)
  | 0, _, _ => none
  | n + 1, v1, h =>
    if v1 < (h.1 1 0 4) then
      if mIn v1 24 = true then
      if (h.1 6 v1.toNatClampNeg 3) = 5 then
        f_X2_loadHeld_2 k  n (v1 + 1) (uI h 33 0 v1.toNatClampNeg (h.1 34 0 v1.toNatClampNeg))
      else
        f_X2_loadHeld_2 k  n (v1 + 1) h
      else none
    else
      k v1 h
def f_X2_loadHeld  (h : mH) : Option (mH) :=
  f_X2_loadHeld_2 (fun u4 h5 =>
    some h5)  mFu 0 h
set_option maxRecDepth 20000 in
theorem sf_X2_loadHeld_2 (G : mG) (X : mX)   (k : Int32 → mH → Option (mH)) (hk : ∀ (v1 : Int32) (h : mH), Sim G X cX2_loadHeld 2 RX2 none (mRoom 0 0) eV (k v1 h) 53 [(0, .inr (.inr (2, 0))), (1, .inl v1)] [] h) (n : Nat) : ∀ (v1 : Int32) (h : mH), Sim G X cX2_loadHeld 2 RX2 none (mRoom 0 0) eV (f_X2_loadHeld_2 k  n v1 h) 2 [(0, .inr (.inr (2, 0))), (1, .inl v1)] [] h := by
  induction n with
  | zero =>
    intro v1 h
    exact s_none
  | succ n ih =>
    intro v1 h
    unfold f_X2_loadHeld_2
    refine s_iload1 1 rfl dX2_loadHeld_2 ?_
    refine s_aload0 0 rfl dX2_loadHeld_3 ?_
    refine s_gr (gR_RX2_30 0) dX2_loadHeld_4 ?_
    refine s_gi gI_RX2_49 dX2_loadHeld_7 ?_
    refine s_ic_ge (tgt := 53) dX2_loadHeld_10 (by decide) (fun q1 => ?_) (fun q1 => ?_)
    · skip
      exact s_loc [0, 1] rfl (hk v1 h)
    · skip
      refine s_aload0 0 rfl dX2_loadHeld_13 ?_
      refine s_gr (gR_RX2_30 0) dX2_loadHeld_14 ?_
      refine s_gr (gR_RX2_54 0) dX2_loadHeld_17 ?_
      refine s_iload1 1 rfl dX2_loadHeld_20 ?_
      refine s_chk (fun q2 => ?_)
      refine s_aal (aR_24 0 v1) q2 dX2_loadHeld_21 ?_
      refine s_gi gI_RX2_89 dX2_loadHeld_22 ?_
      refine s_k5 dX2_loadHeld_25 ?_
      refine s_ic_ne (tgt := 47) dX2_loadHeld_26 (by decide) (fun q3 => ?_) (fun q3 => ?_)
      · skip
        refine s_iincw 1 (by decide) 1 [(1, .inl (v1 + 1)), (0, .inr (.inr (2, 0)))] rfl rfl rfl dX2_loadHeld_47 ?_
        refine s_goto (tgt := 2) dX2_loadHeld_50 (by decide) ?_
        exact s_loc [1, 0] rfl (ih (v1 + 1) h)
      · skip
        refine s_aload0 0 rfl dX2_loadHeld_29 ?_
        refine s_gr (gR_RX2_34 0) dX2_loadHeld_30 ?_
        refine s_gr (gR_RX2_62 0) dX2_loadHeld_33 ?_
        refine s_iload1 1 rfl dX2_loadHeld_36 ?_
        refine s_aload0 0 rfl dX2_loadHeld_37 ?_
        refine s_gr (gR_RX2_34 0) dX2_loadHeld_38 ?_
        refine s_gr (gR_RX2_70 0) dX2_loadHeld_41 ?_
        refine s_iload1 1 rfl dX2_loadHeld_44 ?_
        refine s_ial aT_34 q2 dX2_loadHeld_45 ?_
        refine s_ias aT_33 q2 dX2_loadHeld_46 ?_
        refine s_iincw 1 (by decide) 1 [(1, .inl (v1 + 1)), (0, .inr (.inr (2, 0)))] rfl rfl rfl dX2_loadHeld_47 ?_
        refine s_goto (tgt := 2) dX2_loadHeld_50 (by decide) ?_
        exact s_loc [1, 0] rfl (ih (v1 + 1) (uI h 33 0 v1.toNatClampNeg (h.1 34 0 v1.toNatClampNeg)))
set_option maxRecDepth 20000 in
theorem sf_X2_loadHeld (G : mG) (X : mX)   (h : mH) : Sim G X cX2_loadHeld 2 RX2 none (mRoom 0 0) eV (f_X2_loadHeld  h) 0 [(0, .inr (.inr (2, 0)))] [] h := by
  unfold f_X2_loadHeld
  refine s_k0 dX2_loadHeld_0 ?_
  refine s_istore1 [(1, .inl 0), (0, .inr (.inr (2, 0)))] rfl rfl dX2_loadHeld_1 ?_
  refine s_loc [1, 0] rfl ?_
  refine sf_X2_loadHeld_2 G X  _ (fun u4 h5 => ?_) mFu 0 h
  · skip
    exact s_return rfl rfl dX2_loadHeld_53
set_option maxRecDepth 20000 in
theorem cf_X2_loadHeld (G : mG) (l : Launch)   (h : mH) (b : mH) (hb : f_X2_loadHeld  h = some b) (hl : ∀ v ∈ ([.inr (.inr (2, 0))] : List mV), mLi v) : mMet G l yX2_loadHeld cX2_loadHeld 2 none (mRoom 0 0) [.inr (.inr (2, 0))] h (eV b) :=
  mMet.of (y := yX2_loadHeld) (as := [.inr (.inr (2, 0))]) (by decide +kernel) (Nat.le_of_ble_eq_true rfl) (fun X => sf_X2_loadHeld G X   h) hl b hb
-- DriverBook$Chip.writeField(II)V
def f_X2_writeField (x1 : Int32) (x2 : Int32) (h : mH) : Option (mH) :=
  if mIn x1 24 = true then
  if (h.1 6 x1.toNatClampNeg 3) = 0 then
    some (uI h 33 0 x1.toNatClampNeg x2)
  else
  if (h.1 6 x1.toNatClampNeg 3) = 2 then
    some (uI h 33 0 x1.toNatClampNeg ((h.1 33 0 x1.toNatClampNeg) &&& (x2 ^^^ (-1))))
  else
  if (h.1 6 x1.toNatClampNeg 3) = 4 then
    if x2 = 0 then
      some h
    else
      mLet (uI h 33 0 x1.toNatClampNeg x2) fun h6 =>
      some (uI h6 35 0 x1.toNatClampNeg (h6.1 6 x1.toNatClampNeg 7))
  else
  if (h.1 6 x1.toNatClampNeg 3) = 5 then
    some (uI h 34 0 x1.toNatClampNeg x2)
  else
  if (h.1 6 x1.toNatClampNeg 3) = 6 then
    if x2 = 0 then
      some h
    else
      (f_X2_loadHeld  h).bind fun r10 =>
      some r10
  else
    some h
  else none
set_option maxRecDepth 20000 in
theorem sf_X2_writeField (G : mG) (X : mX) (x1 : Int32) (x2 : Int32)  (h : mH) : Sim G X cX2_writeField 3 RX2 none (mRoom 1 21) eV (f_X2_writeField x1 x2 h) 0 [(0, .inr (.inr (2, 0))), (1, .inl x1), (2, .inl x2)] [] h := by
  unfold f_X2_writeField
  refine s_aload0 0 rfl dX2_writeField_0 ?_
  refine s_gr (gR_RX2_30 0) dX2_writeField_1 ?_
  refine s_gr (gR_RX2_54 0) dX2_writeField_4 ?_
  refine s_iload1 1 rfl dX2_writeField_7 ?_
  refine s_chk (fun q1 => ?_)
  refine s_aal (aR_24 0 x1) q1 dX2_writeField_8 ?_
  refine s_gi gI_RX2_89 dX2_writeField_9 ?_
  refine s_case (fun q2 => ?_) (fun q2 => ?_)
  · skip
    refine s_tabP dX2_writeField_12 0 q2 56 (by decide) (by decide) ?_
    refine s_aload0 0 rfl dX2_writeField_56 ?_
    refine s_gr (gR_RX2_34 0) dX2_writeField_57 ?_
    refine s_gr (gR_RX2_62 0) dX2_writeField_60 ?_
    refine s_iload1 1 rfl dX2_writeField_63 ?_
    refine s_iload2 2 rfl dX2_writeField_64 ?_
    refine s_ias aT_33 q1 dX2_writeField_65 ?_
    refine s_goto (tgt := 149) dX2_writeField_66 (by decide) ?_
    exact s_return rfl rfl dX2_writeField_149
  refine s_case (fun q3 => ?_) (fun q3 => ?_)
  · skip
    refine s_tabP dX2_writeField_12 2 q3 69 (by decide) (by decide) ?_
    refine s_aload0 0 rfl dX2_writeField_69 ?_
    refine s_gr (gR_RX2_34 0) dX2_writeField_70 ?_
    refine s_gr (gR_RX2_62 0) dX2_writeField_73 ?_
    refine s_iload1 1 rfl dX2_writeField_76 ?_
    refine s_dup2 rfl rfl dX2_writeField_77 ?_
    refine s_ial aT_33 q1 dX2_writeField_78 ?_
    refine s_iload2 2 rfl dX2_writeField_79 ?_
    refine s_km1 dX2_writeField_80 ?_
    refine s_ixor dX2_writeField_81 ?_
    refine s_iand dX2_writeField_82 ?_
    refine s_ias aT_33 q1 dX2_writeField_83 ?_
    refine s_goto (tgt := 149) dX2_writeField_84 (by decide) ?_
    exact s_return rfl rfl dX2_writeField_149
  refine s_case (fun q4 => ?_) (fun q4 => ?_)
  · skip
    refine s_tabP dX2_writeField_12 4 q4 87 (by decide) (by decide) ?_
    refine s_iload2 2 rfl dX2_writeField_87 ?_
    refine s_if_eq (tgt := 149) dX2_writeField_88 (by decide) (fun q5 => ?_) (fun q5 => ?_)
    · skip
      exact s_return rfl rfl dX2_writeField_149
    · skip
      refine s_aload0 0 rfl dX2_writeField_91 ?_
      refine s_gr (gR_RX2_34 0) dX2_writeField_92 ?_
      refine s_gr (gR_RX2_62 0) dX2_writeField_95 ?_
      refine s_iload1 1 rfl dX2_writeField_98 ?_
      refine s_iload2 2 rfl dX2_writeField_99 ?_
      refine s_ias aT_33 q1 dX2_writeField_100 ?_
      refine s_aload0 0 rfl dX2_writeField_101 ?_
      refine s_gr (gR_RX2_34 0) dX2_writeField_102 ?_
      refine s_gr (gR_RX2_96 0) dX2_writeField_105 ?_
      refine s_iload1 1 rfl dX2_writeField_108 ?_
      refine s_aload0 0 rfl dX2_writeField_109 ?_
      refine s_gr (gR_RX2_30 0) dX2_writeField_110 ?_
      refine s_gr (gR_RX2_54 0) dX2_writeField_113 ?_
      refine s_iload1 1 rfl dX2_writeField_116 ?_
      refine s_aal (aR_24 0 x1) q1 dX2_writeField_117 ?_
      refine s_let (fun h6 => ?_)
      refine s_gi gI_RX2_184 dX2_writeField_118 ?_
      refine s_ias aT_35 q1 dX2_writeField_121 ?_
      refine s_goto (tgt := 149) dX2_writeField_122 (by decide) ?_
      exact s_return rfl rfl dX2_writeField_149
  refine s_case (fun q7 => ?_) (fun q7 => ?_)
  · skip
    refine s_tabP dX2_writeField_12 5 q7 125 (by decide) (by decide) ?_
    refine s_aload0 0 rfl dX2_writeField_125 ?_
    refine s_gr (gR_RX2_34 0) dX2_writeField_126 ?_
    refine s_gr (gR_RX2_70 0) dX2_writeField_129 ?_
    refine s_iload1 1 rfl dX2_writeField_132 ?_
    refine s_iload2 2 rfl dX2_writeField_133 ?_
    refine s_ias aT_34 q1 dX2_writeField_134 ?_
    refine s_goto (tgt := 149) dX2_writeField_135 (by decide) ?_
    exact s_return rfl rfl dX2_writeField_149
  refine s_case (fun q8 => ?_) (fun q8 => ?_)
  · skip
    refine s_tabP dX2_writeField_12 6 q8 138 (by decide) (by decide) ?_
    refine s_iload2 2 rfl dX2_writeField_138 ?_
    refine s_if_eq (tgt := 149) dX2_writeField_139 (by decide) (fun q9 => ?_) (fun q9 => ?_)
    · skip
      exact s_return rfl rfl dX2_writeField_149
    · skip
      refine s_aload0 0 rfl dX2_writeField_142 ?_
      refine s_viV [] (fun l b hb hl => cf_X2_loadHeld G l  h b hb hl) me_X2_loadHeld vi_RX2_187 rfl rfl rfl rfl rfl dX2_writeField_143 (fun r10 => ?_)
      refine s_goto (tgt := 149) dX2_writeField_146 (by decide) ?_
      exact s_return rfl rfl dX2_writeField_149
  refine s_tabD dX2_writeField_12 [0, 2, 4, 5, 6] (by refine List.forall_mem_cons.mpr ⟨q2, ?_⟩; refine List.forall_mem_cons.mpr ⟨q3, ?_⟩; refine List.forall_mem_cons.mpr ⟨q4, ?_⟩; refine List.forall_mem_cons.mpr ⟨q7, ?_⟩; refine List.forall_mem_cons.mpr ⟨q8, ?_⟩; exact fun _ z => absurd z List.not_mem_nil) (by decide) (by decide) 149 (by decide) ?_
  · skip
    exact s_return rfl rfl dX2_writeField_149
set_option maxRecDepth 20000 in
theorem cf_X2_writeField (G : mG) (l : Launch) (x1 : Int32) (x2 : Int32)  (h : mH) (b : mH) (hb : f_X2_writeField x1 x2 h = some b) (hl : ∀ v ∈ ([.inr (.inr (2, 0)), .inl x1, .inl x2] : List mV), mLi v) : mMet G l yX2_writeField cX2_writeField 3 none (mRoom 1 21) [.inr (.inr (2, 0)), .inl x1, .inl x2] h (eV b) :=
  mMet.of (y := yX2_writeField) (as := [.inr (.inr (2, 0)), .inl x1, .inl x2]) (by decide +kernel) (Nat.le_of_ble_eq_true rfl) (fun X => sf_X2_writeField G X x1 x2  h) hl b hb
-- DriverBook$Chip.writeRegister(II)V
def f_X2_writeRegister_15 (k : Int32 → Int32 → Int32 → Int32 → mH → Option (mH))  : Nat → Int32 → Int32 → Int32 → Int32 → mH → Option (mH)
  | 0, _, _, _, _, _ => none
  | n + 1, v1, v2, v3, v4, h =>
    if mIn v1 8 = true then
    if v4 < (h.1 29 0 v1.toNatClampNeg) then
      if mIn v4 16 = true then
      (f_X11_isIn v3 (h.1 28 v1.toNatClampNeg v4.toNatClampNeg) h).bind fun r6 =>
      if r6.1 = 0 then
        if mIn (h.1 28 v1.toNatClampNeg v4.toNatClampNeg) 24 = true then
        (f_X6_bitsIn ((h.1 28 v1.toNatClampNeg v4.toNatClampNeg).toNatClampNeg) v2 r6.2).bind fun r9 =>
        (f_X2_writeField (h.1 28 v1.toNatClampNeg v4.toNatClampNeg) r9.1 r9.2).bind fun r10 =>
        f_X2_writeRegister_15 k  n v1 v2 v3 (v4 + 1) r10
        else none
      else
        if mIn (h.1 28 v1.toNatClampNeg v4.toNatClampNeg) 24 = true then
        (f_X6_bitsIn ((h.1 28 v1.toNatClampNeg v4.toNatClampNeg).toNatClampNeg) v2 (uJ r6.2 37 0 (h.1 28 v1.toNatClampNeg v4.toNatClampNeg).toNatClampNeg (r6.2.2 8 0 10))).bind fun r12 =>
        (f_X2_writeField (h.1 28 v1.toNatClampNeg v4.toNatClampNeg) r12.1 r12.2).bind fun r13 =>
        f_X2_writeRegister_15 k  n v1 v2 v3 (v4 + 1) r13
        else none
      else none
    else
      k v1 v2 v3 v4 h
    else none
def f_X2_writeRegister (x1 : Int32) (x2 : Int32) (h : mH) : Option (mH) :=
  (f_X2_hitsOf x1 x2 h).bind fun r1 =>
  (f_X2_lookAtLaws r1.1 r1.2).bind fun r2 =>
  f_X2_writeRegister_15 (fun u14 u15 u16 u17 h18 =>
    (f_X2_tick  h18).bind fun r19 =>
    some r19)  mFu x1 x2 r1.1 0 r2
set_option maxRecDepth 20000 in
theorem sf_X2_writeRegister_15 (G : mG) (X : mX)   (k : Int32 → Int32 → Int32 → Int32 → mH → Option (mH)) (hk : ∀ (v1 : Int32) (v2 : Int32) (v3 : Int32) (v4 : Int32) (h : mH), Sim G X cX2_writeRegister 6 RX2 none (mRoom 2 47) eV (k v1 v2 v3 v4 h) 89 [(0, .inr (.inr (2, 0))), (1, .inl v1), (2, .inl v2), (3, .inl v3), (4, .inl v4)] [] h) (n : Nat) : ∀ (v1 : Int32) (v2 : Int32) (v3 : Int32) (v4 : Int32) (h : mH), Sim G X cX2_writeRegister 6 RX2 none (mRoom 2 47) eV (f_X2_writeRegister_15 k  n v1 v2 v3 v4 h) 15 [(0, .inr (.inr (2, 0))), (1, .inl v1), (2, .inl v2), (3, .inl v3), (4, .inl v4)] [] h := by
  induction n with
  | zero =>
    intro v1 v2 v3 v4 h
    exact s_none
  | succ n ih =>
    intro v1 v2 v3 v4 h
    unfold f_X2_writeRegister_15
    refine s_iload 4 rfl dX2_writeRegister_15 ?_
    refine s_aload0 0 rfl dX2_writeRegister_17 ?_
    refine s_gr (gR_RX2_16 0) dX2_writeRegister_18 ?_
    refine s_iload1 1 rfl dX2_writeRegister_21 ?_
    refine s_chk (fun q3 => ?_)
    refine s_ial aT_29 q3 dX2_writeRegister_22 ?_
    refine s_ic_ge (tgt := 89) dX2_writeRegister_23 (by decide) (fun q4 => ?_) (fun q4 => ?_)
    · skip
      exact s_loc [0, 1, 2, 3, 4] rfl (hk v1 v2 v3 v4 h)
    · skip
      refine s_aload0 0 rfl dX2_writeRegister_26 ?_
      refine s_gr (gR_RX2_11 0) dX2_writeRegister_27 ?_
      refine s_iload1 1 rfl dX2_writeRegister_30 ?_
      refine s_aal (aR_27 0 v1) q3 dX2_writeRegister_31 ?_
      refine s_iload 4 rfl dX2_writeRegister_32 ?_
      refine s_chk (fun q5 => ?_)
      refine s_ial aT_28 q5 dX2_writeRegister_34 ?_
      refine s_istorew [(5, .inl (h.1 28 v1.toNatClampNeg v4.toNatClampNeg)), (0, .inr (.inr (2, 0))), (1, .inl v1), (2, .inl v2), (3, .inl v3), (4, .inl v4)] rfl rfl dX2_writeRegister_35 ?_
      refine s_iload3 4 rfl dX2_writeRegister_37 ?_
      refine s_iload 0 rfl dX2_writeRegister_38 ?_
      refine s_siI [.inl v3, .inl (h.1 28 v1.toNatClampNeg v4.toNatClampNeg)] (fun l b hb hl => cf_X11_isIn G l v3 (h.1 28 v1.toNatClampNeg v4.toNatClampNeg) h b hb hl) me_X11_isIn si_RX2_138 rfl rfl rfl rfl rfl dX2_writeRegister_40 (fun r6 => ?_)
      refine s_if_eq (tgt := 63) dX2_writeRegister_43 (by decide) (fun q7 => ?_) (fun q7 => ?_)
      · skip
        refine s_aload0 1 rfl dX2_writeRegister_63 ?_
        refine s_iload 0 rfl dX2_writeRegister_64 ?_
        refine s_aload0 1 rfl dX2_writeRegister_66 ?_
        refine s_gr (gR_RX2_30 0) dX2_writeRegister_67 ?_
        refine s_gr (gR_RX2_54 0) dX2_writeRegister_70 ?_
        refine s_iload 0 rfl dX2_writeRegister_73 ?_
        refine s_chk (fun q8 => ?_)
        refine s_aal (aR_24 0 (h.1 28 v1.toNatClampNeg v4.toNatClampNeg)) q8 dX2_writeRegister_75 ?_
        refine s_iload2 3 rfl dX2_writeRegister_76 ?_
        refine s_viI [.inl v2] (fun l b hb hl => cf_X6_bitsIn G l ((h.1 28 v1.toNatClampNeg v4.toNatClampNeg).toNatClampNeg) v2 r6.2 b hb hl) me_X6_bitsIn vi_RX2_145 rfl rfl rfl rfl rfl dX2_writeRegister_77 (fun r9 => ?_)
        refine s_viV [.inl (h.1 28 v1.toNatClampNeg v4.toNatClampNeg), .inl r9.1] (fun l b hb hl => cf_X2_writeField G l (h.1 28 v1.toNatClampNeg v4.toNatClampNeg) r9.1 r9.2 b hb hl) me_X2_writeField vi_RX2_149 rfl rfl rfl rfl rfl dX2_writeRegister_80 (fun r10 => ?_)
        refine s_iincw 1 (by decide) 5 [(4, .inl (v4 + 1)), (5, .inl (h.1 28 v1.toNatClampNeg v4.toNatClampNeg)), (0, .inr (.inr (2, 0))), (1, .inl v1), (2, .inl v2), (3, .inl v3)] rfl rfl rfl dX2_writeRegister_83 ?_
        refine s_goto (tgt := 15) dX2_writeRegister_86 (by decide) ?_
        exact s_loc [2, 3, 4, 5, 0] rfl (ih v1 v2 v3 (v4 + 1) r10)
      · skip
        refine s_aload0 1 rfl dX2_writeRegister_46 ?_
        refine s_gr (gR_RX2_34 0) dX2_writeRegister_47 ?_
        refine s_gr (gR_RX2_142 0) dX2_writeRegister_50 ?_
        refine s_iload 0 rfl dX2_writeRegister_53 ?_
        refine s_aload0 1 rfl dX2_writeRegister_55 ?_
        refine s_gr (gR_RX2_34 0) dX2_writeRegister_56 ?_
        refine s_gj gJ_RX2_92 dX2_writeRegister_59 ?_
        refine s_chk (fun q11 => ?_)
        refine s_las aT_37 q11 dX2_writeRegister_62 ?_
        refine s_aload0 1 rfl dX2_writeRegister_63 ?_
        refine s_iload 0 rfl dX2_writeRegister_64 ?_
        refine s_aload0 1 rfl dX2_writeRegister_66 ?_
        refine s_gr (gR_RX2_30 0) dX2_writeRegister_67 ?_
        refine s_gr (gR_RX2_54 0) dX2_writeRegister_70 ?_
        refine s_iload 0 rfl dX2_writeRegister_73 ?_
        refine s_aal (aR_24 0 (h.1 28 v1.toNatClampNeg v4.toNatClampNeg)) q11 dX2_writeRegister_75 ?_
        refine s_iload2 3 rfl dX2_writeRegister_76 ?_
        refine s_viI [.inl v2] (fun l b hb hl => cf_X6_bitsIn G l ((h.1 28 v1.toNatClampNeg v4.toNatClampNeg).toNatClampNeg) v2 (uJ r6.2 37 0 (h.1 28 v1.toNatClampNeg v4.toNatClampNeg).toNatClampNeg (r6.2.2 8 0 10)) b hb hl) me_X6_bitsIn vi_RX2_145 rfl rfl rfl rfl rfl dX2_writeRegister_77 (fun r12 => ?_)
        refine s_viV [.inl (h.1 28 v1.toNatClampNeg v4.toNatClampNeg), .inl r12.1] (fun l b hb hl => cf_X2_writeField G l (h.1 28 v1.toNatClampNeg v4.toNatClampNeg) r12.1 r12.2 b hb hl) me_X2_writeField vi_RX2_149 rfl rfl rfl rfl rfl dX2_writeRegister_80 (fun r13 => ?_)
        refine s_iincw 1 (by decide) 5 [(4, .inl (v4 + 1)), (5, .inl (h.1 28 v1.toNatClampNeg v4.toNatClampNeg)), (0, .inr (.inr (2, 0))), (1, .inl v1), (2, .inl v2), (3, .inl v3)] rfl rfl rfl dX2_writeRegister_83 ?_
        refine s_goto (tgt := 15) dX2_writeRegister_86 (by decide) ?_
        exact s_loc [2, 3, 4, 5, 0] rfl (ih v1 v2 v3 (v4 + 1) r13)
set_option maxRecDepth 20000 in
theorem sf_X2_writeRegister (G : mG) (X : mX) (x1 : Int32) (x2 : Int32)  (h : mH) : Sim G X cX2_writeRegister 6 RX2 none (mRoom 2 47) eV (f_X2_writeRegister x1 x2 h) 0 [(0, .inr (.inr (2, 0))), (1, .inl x1), (2, .inl x2)] [] h := by
  unfold f_X2_writeRegister
  refine s_aload0 0 rfl dX2_writeRegister_0 ?_
  refine s_iload1 1 rfl dX2_writeRegister_1 ?_
  refine s_iload2 2 rfl dX2_writeRegister_2 ?_
  refine s_viI [.inl x1, .inl x2] (fun l b hb hl => cf_X2_hitsOf G l x1 x2 h b hb hl) me_X2_hitsOf vi_RX2_131 rfl rfl rfl rfl rfl dX2_writeRegister_3 (fun r1 => ?_)
  refine s_istore3 [(3, .inl r1.1), (0, .inr (.inr (2, 0))), (1, .inl x1), (2, .inl x2)] rfl rfl dX2_writeRegister_6 ?_
  refine s_aload0 1 rfl dX2_writeRegister_7 ?_
  refine s_iload3 0 rfl dX2_writeRegister_8 ?_
  refine s_viV [.inl r1.1] (fun l b hb hl => cf_X2_lookAtLaws G l r1.1 r1.2 b hb hl) me_X2_lookAtLaws vi_RX2_135 rfl rfl rfl rfl rfl dX2_writeRegister_9 (fun r2 => ?_)
  refine s_k0 dX2_writeRegister_12 ?_
  refine s_istorew [(4, .inl 0), (3, .inl r1.1), (0, .inr (.inr (2, 0))), (1, .inl x1), (2, .inl x2)] rfl rfl dX2_writeRegister_13 ?_
  refine s_loc [2, 3, 4, 1, 0] rfl ?_
  refine sf_X2_writeRegister_15 G X  _ (fun u14 u15 u16 u17 h18 => ?_) mFu x1 x2 r1.1 0 r2
  · skip
    refine s_aload0 0 rfl dX2_writeRegister_89 ?_
    refine s_viV [] (fun l b hb hl => cf_X2_tick G l  h18 b hb hl) me_X2_tick vi_RX2_128 rfl rfl rfl rfl rfl dX2_writeRegister_90 (fun r19 => ?_)
    exact s_return rfl rfl dX2_writeRegister_93
set_option maxRecDepth 20000 in
theorem cf_X2_writeRegister (G : mG) (l : Launch) (x1 : Int32) (x2 : Int32)  (h : mH) (b : mH) (hb : f_X2_writeRegister x1 x2 h = some b) (hl : ∀ v ∈ ([.inr (.inr (2, 0)), .inl x1, .inl x2] : List mV), mLi v) : mMet G l yX2_writeRegister cX2_writeRegister 6 none (mRoom 2 47) [.inr (.inr (2, 0)), .inl x1, .inl x2] h (eV b) :=
  mMet.of (y := yX2_writeRegister) (as := [.inr (.inr (2, 0)), .inl x1, .inl x2]) (by decide +kernel) (Nat.le_of_ble_eq_true rfl) (fun X => sf_X2_writeRegister G X x1 x2  h) hl b hb
-- DriverBook$Code.part(II)I
def f_X3_part (i0 : Nat) (x1 : Int32) (x2 : Int32) (h : mH) : Option (Int32 × mH) :=
  if mIn ((x1 * 6) + x2) 288 = true then
  some (h.1 32 i0 ((x1 * 6) + x2).toNatClampNeg, h)
  else none
set_option maxRecDepth 20000 in
theorem sf_X3_part (G : mG) (X : mX) (i0 : Nat) (x1 : Int32) (x2 : Int32)  (h : mH) : Sim G X cX3_part 3 RX3 (some .int) (mRoom 0 0) eI (f_X3_part i0 x1 x2 h) 0 [(0, .inr (.inr (3, i0))), (1, .inl x1), (2, .inl x2)] [] h := by
  unfold f_X3_part
  refine s_aload0 0 rfl dX3_part_0 ?_
  refine s_gr (gR_RX3_11 i0) dX3_part_1 ?_
  refine s_iload1 1 rfl dX3_part_4 ?_
  refine s_bip 6 kb_6 dX3_part_5 ?_
  refine s_imul dX3_part_7 ?_
  refine s_iload2 2 rfl dX3_part_8 ?_
  refine s_iadd dX3_part_9 ?_
  refine s_chk (fun q1 => ?_)
  refine s_ial aT_32 q1 dX3_part_10 ?_
  exact s_ireturn rfl rfl dX3_part_11
set_option maxRecDepth 20000 in
theorem cf_X3_part (G : mG) (l : Launch) (i0 : Nat) (x1 : Int32) (x2 : Int32)  (h : mH) (b : Int32 × mH) (hb : f_X3_part i0 x1 x2 h = some b) (hl : ∀ v ∈ ([.inr (.inr (3, i0)), .inl x1, .inl x2] : List mV), mLi v) : mMet G l yX3_part cX3_part 3 (some .int) (mRoom 0 0) [.inr (.inr (3, i0)), .inl x1, .inl x2] h (eI b) :=
  mMet.of (y := yX3_part) (as := [.inr (.inr (3, i0)), .inl x1, .inl x2]) (by decide +kernel) (Nat.le_of_ble_eq_true rfl) (fun X => sf_X3_part G X i0 x1 x2  h) hl b hb
-- DriverBook$Code.isLike(LDriverBook$Code;)Z
def f_X3_isLike_15 (k : Int32 → mH → Option (Int32 × mH)) (j0 : Nat) (j1 : Nat) : Nat → Int32 → mH → Option (Int32 × mH)
  | 0, _, _ => none
  | n + 1, v2, h =>
    if v2 < ((h.1 3 j0 1) * 6) then
      if mIn v2 288 = true then
      if (h.1 32 j0 v2.toNatClampNeg) = (h.1 32 j1 v2.toNatClampNeg) then
        f_X3_isLike_15 k j0 j1 n (v2 + 1) h
      else
        some (0, h)
      else none
    else
      k v2 h
def f_X3_isLike (i0 : Nat) (i1 : Nat) (h : mH) : Option (Int32 × mH) :=
  if (h.1 3 i0 1) = (h.1 3 i1 1) then
    f_X3_isLike_15 (fun u5 h6 =>
      some (1, h6)) i0 i1 mFu 0 h
  else
    some (0, h)
set_option maxRecDepth 20000 in
theorem sf_X3_isLike_15 (G : mG) (X : mX) (j0 : Nat) (j1 : Nat)  (k : Int32 → mH → Option (Int32 × mH)) (hk : ∀ (v2 : Int32) (h : mH), Sim G X cX3_isLike 3 RX3 (some .boolean) (mRoom 0 0) eI (k v2 h) 49 [(0, .inr (.inr (3, j0))), (1, .inr (.inr (3, j1))), (2, .inl v2)] [] h) (n : Nat) : ∀ (v2 : Int32) (h : mH), Sim G X cX3_isLike 3 RX3 (some .boolean) (mRoom 0 0) eI (f_X3_isLike_15 k j0 j1 n v2 h) 15 [(0, .inr (.inr (3, j0))), (1, .inr (.inr (3, j1))), (2, .inl v2)] [] h := by
  induction n with
  | zero =>
    intro v2 h
    exact s_none
  | succ n ih =>
    intro v2 h
    unfold f_X3_isLike_15
    refine s_iload2 2 rfl dX3_isLike_15 ?_
    refine s_aload0 0 rfl dX3_isLike_16 ?_
    refine s_gi gI_RX3_15 dX3_isLike_17 ?_
    refine s_bip 6 kb_6 dX3_isLike_20 ?_
    refine s_imul dX3_isLike_22 ?_
    refine s_ic_ge (tgt := 49) dX3_isLike_23 (by decide) (fun q2 => ?_) (fun q2 => ?_)
    · skip
      exact s_loc [0, 1, 2] rfl (hk v2 h)
    · skip
      refine s_aload0 0 rfl dX3_isLike_26 ?_
      refine s_gr (gR_RX3_11 j0) dX3_isLike_27 ?_
      refine s_iload2 2 rfl dX3_isLike_30 ?_
      refine s_chk (fun q3 => ?_)
      refine s_ial aT_32 q3 dX3_isLike_31 ?_
      refine s_aload1 1 rfl dX3_isLike_32 ?_
      refine s_gr (gR_RX3_11 j1) dX3_isLike_33 ?_
      refine s_iload2 2 rfl dX3_isLike_36 ?_
      refine s_ial aT_32 q3 dX3_isLike_37 ?_
      refine s_ic_eq (tgt := 43) dX3_isLike_38 (by decide) (fun q4 => ?_) (fun q4 => ?_)
      · skip
        refine s_iincw 1 (by decide) 2 [(2, .inl (v2 + 1)), (0, .inr (.inr (3, j0))), (1, .inr (.inr (3, j1)))] rfl rfl rfl dX3_isLike_43 ?_
        refine s_goto (tgt := 15) dX3_isLike_46 (by decide) ?_
        exact s_loc [1, 2, 0] rfl (ih (v2 + 1) h)
      · skip
        refine s_k0 dX3_isLike_41 ?_
        exact s_zreturn rfl rfl (Or.inl rfl) dX3_isLike_42
set_option maxRecDepth 20000 in
theorem sf_X3_isLike (G : mG) (X : mX) (i0 : Nat) (i1 : Nat)  (h : mH) : Sim G X cX3_isLike 3 RX3 (some .boolean) (mRoom 0 0) eI (f_X3_isLike i0 i1 h) 0 [(0, .inr (.inr (3, i0))), (1, .inr (.inr (3, i1)))] [] h := by
  unfold f_X3_isLike
  refine s_aload0 0 rfl dX3_isLike_0 ?_
  refine s_gi gI_RX3_15 dX3_isLike_1 ?_
  refine s_aload1 1 rfl dX3_isLike_4 ?_
  refine s_gi gI_RX3_15 dX3_isLike_5 ?_
  refine s_ic_eq (tgt := 13) dX3_isLike_8 (by decide) (fun q1 => ?_) (fun q1 => ?_)
  · skip
    refine s_k0 dX3_isLike_13 ?_
    refine s_istore2 [(2, .inl 0), (0, .inr (.inr (3, i0))), (1, .inr (.inr (3, i1)))] rfl rfl dX3_isLike_14 ?_
    refine s_loc [1, 2, 0] rfl ?_
    refine sf_X3_isLike_15 G X i0 i1 _ (fun u5 h6 => ?_) mFu 0 h
    · skip
      refine s_k1 dX3_isLike_49 ?_
      exact s_zreturn rfl rfl (Or.inr rfl) dX3_isLike_50
  · skip
    refine s_k0 dX3_isLike_11 ?_
    exact s_zreturn rfl rfl (Or.inl rfl) dX3_isLike_12
set_option maxRecDepth 20000 in
theorem cf_X3_isLike (G : mG) (l : Launch) (i0 : Nat) (i1 : Nat)  (h : mH) (b : Int32 × mH) (hb : f_X3_isLike i0 i1 h = some b) (hl : ∀ v ∈ ([.inr (.inr (3, i0)), .inr (.inr (3, i1))] : List mV), mLi v) : mMet G l yX3_isLike cX3_isLike 3 (some .boolean) (mRoom 0 0) [.inr (.inr (3, i0)), .inr (.inr (3, i1))] h (eI b) :=
  mMet.of (y := yX3_isLike) (as := [.inr (.inr (3, i0)), .inr (.inr (3, i1))]) (by decide +kernel) (Nat.le_of_ble_eq_true rfl) (fun X => sf_X3_isLike G X i0 i1  h) hl b hb
-- DriverBook$Course.start()V
def f_X4_start (i0 : Nat) (h : mH) : Option (mH) :=
  mLet (uI h 4 i0 0 0) fun h1 =>
  mLet (uI h1 4 i0 1 0) fun h2 =>
  mLet (uI h2 4 i0 2 0) fun h3 =>
  some (uI h3 4 i0 3 0)
set_option maxRecDepth 20000 in
theorem sf_X4_start (G : mG) (X : mX) (i0 : Nat)  (h : mH) : Sim G X cX4_start 1 RX4 none (mRoom 0 0) eV (f_X4_start i0 h) 0 [(0, .inr (.inr (4, i0)))] [] h := by
  unfold f_X4_start
  refine s_aload0 0 rfl dX4_start_0 ?_
  refine s_k0 dX4_start_1 ?_
  refine s_pi pI_RX4_7 dX4_start_2 ?_
  refine s_aload0 0 rfl dX4_start_5 ?_
  refine s_k0 dX4_start_6 ?_
  refine s_let (fun h1 => ?_)
  refine s_pi pI_RX4_13 dX4_start_7 ?_
  refine s_aload0 0 rfl dX4_start_10 ?_
  refine s_k0 dX4_start_11 ?_
  refine s_let (fun h2 => ?_)
  refine s_pi pI_RX4_16 dX4_start_12 ?_
  refine s_aload0 0 rfl dX4_start_15 ?_
  refine s_k0 dX4_start_16 ?_
  refine s_let (fun h3 => ?_)
  refine s_pz pI_RX4_19 (Or.inl rfl) dX4_start_17 ?_
  exact s_return rfl rfl dX4_start_20
set_option maxRecDepth 20000 in
theorem cf_X4_start (G : mG) (l : Launch) (i0 : Nat)  (h : mH) (b : mH) (hb : f_X4_start i0 h = some b) (hl : ∀ v ∈ ([.inr (.inr (4, i0))] : List mV), mLi v) : mMet G l yX4_start cX4_start 1 none (mRoom 0 0) [.inr (.inr (4, i0))] h (eV b) :=
  mMet.of (y := yX4_start) (as := [.inr (.inr (4, i0))]) (by decide +kernel) (Nat.le_of_ble_eq_true rfl) (fun X => sf_X4_start G X i0  h) hl b hb
-- DriverBook$Course.goesOn(LDriverBook$Code;)Z
def f_X4_goesOn (i0 : Nat) (i1 : Nat) (h : mH) : Option (Int32 × mH) :=
  if (h.1 4 i0 0) < (h.1 3 i1 1) then
    if (h.1 4 i0 3) = 0 then
      some (1, h)
    else
      some (0, h)
  else
    some (0, h)
set_option maxRecDepth 20000 in
theorem sf_X4_goesOn (G : mG) (X : mX) (i0 : Nat) (i1 : Nat)  (h : mH) : Sim G X cX4_goesOn 2 RX4 (some .boolean) (mRoom 0 0) eI (f_X4_goesOn i0 i1 h) 0 [(0, .inr (.inr (4, i0))), (1, .inr (.inr (3, i1)))] [] h := by
  unfold f_X4_goesOn
  refine s_aload0 0 rfl dX4_goesOn_0 ?_
  refine s_gi gI_RX4_7 dX4_goesOn_1 ?_
  refine s_aload1 1 rfl dX4_goesOn_4 ?_
  refine s_gi gI_RX4_23 dX4_goesOn_5 ?_
  refine s_ic_ge (tgt := 22) dX4_goesOn_8 (by decide) (fun q1 => ?_) (fun q1 => ?_)
  · skip
    refine s_k0 dX4_goesOn_22 ?_
    exact s_zreturn rfl rfl (Or.inl rfl) dX4_goesOn_23
  · skip
    refine s_aload0 0 rfl dX4_goesOn_11 ?_
    refine s_gi gI_RX4_19 dX4_goesOn_12 ?_
    refine s_if_ne (tgt := 22) dX4_goesOn_15 (by decide) (fun q2 => ?_) (fun q2 => ?_)
    · skip
      refine s_k0 dX4_goesOn_22 ?_
      exact s_zreturn rfl rfl (Or.inl rfl) dX4_goesOn_23
    · skip
      refine s_k1 dX4_goesOn_18 ?_
      refine s_goto (tgt := 23) dX4_goesOn_19 (by decide) ?_
      exact s_zreturn rfl rfl (Or.inr rfl) dX4_goesOn_23
set_option maxRecDepth 20000 in
theorem cf_X4_goesOn (G : mG) (l : Launch) (i0 : Nat) (i1 : Nat)  (h : mH) (b : Int32 × mH) (hb : f_X4_goesOn i0 i1 h = some b) (hl : ∀ v ∈ ([.inr (.inr (4, i0)), .inr (.inr (3, i1))] : List mV), mLi v) : mMet G l yX4_goesOn cX4_goesOn 2 (some .boolean) (mRoom 0 0) [.inr (.inr (4, i0)), .inr (.inr (3, i1))] h (eI b) :=
  mMet.of (y := yX4_goesOn) (as := [.inr (.inr (4, i0)), .inr (.inr (3, i1))]) (by decide +kernel) (Nat.le_of_ble_eq_true rfl) (fun X => sf_X4_goesOn G X i0 i1  h) hl b hb
