-- DriverBook$Walker.isRight(I)Z
def f_X10_isRight (x1 : Int32) (h : mH) : Option (Int32 × mH) :=
  if mIn x1 24 = true then
  if (h.1 6 x1.toNatClampNeg 3) = 0 then
    if (h.1 43 0 x1.toNatClampNeg) < 0 then
      if (h.1 44 0 x1.toNatClampNeg) < 0 then
        if (h.1 33 0 x1.toNatClampNeg) = (h.1 33 1 x1.toNatClampNeg) then
          some (1, h)
        else
          some (0, h)
      else
        if (h.1 33 0 x1.toNatClampNeg) = (h.1 43 0 x1.toNatClampNeg) then
          some (1, h)
        else
          if (h.1 33 0 x1.toNatClampNeg) = (h.1 44 0 x1.toNatClampNeg) then
            some (1, h)
          else
            some (0, h)
    else
      if (h.1 33 0 x1.toNatClampNeg) = (h.1 43 0 x1.toNatClampNeg) then
        some (1, h)
      else
        if (h.1 33 0 x1.toNatClampNeg) = (h.1 44 0 x1.toNatClampNeg) then
          some (1, h)
        else
          some (0, h)
  else
    if (h.1 43 0 x1.toNatClampNeg) < 0 then
      if (h.1 44 0 x1.toNatClampNeg) < 0 then
        if (h.1 34 0 x1.toNatClampNeg) = (h.1 34 1 x1.toNatClampNeg) then
          some (1, h)
        else
          some (0, h)
      else
        if (h.1 34 0 x1.toNatClampNeg) = (h.1 43 0 x1.toNatClampNeg) then
          some (1, h)
        else
          if (h.1 34 0 x1.toNatClampNeg) = (h.1 44 0 x1.toNatClampNeg) then
            some (1, h)
          else
            some (0, h)
    else
      if (h.1 34 0 x1.toNatClampNeg) = (h.1 43 0 x1.toNatClampNeg) then
        some (1, h)
      else
        if (h.1 34 0 x1.toNatClampNeg) = (h.1 44 0 x1.toNatClampNeg) then
          some (1, h)
        else
          some (0, h)
  else none
set_option maxRecDepth 20000 in
theorem sf_X10_isRight (G : mG) (X : mX) (x1 : Int32)  (h : mH) : Sim G X cX10_isRight 4 RX10 (some .boolean) (mRoom 0 0) eI (f_X10_isRight x1 h) 0 [(0, .inr (.inr (10, 0))), (1, .inl x1)] [] h := by
  unfold f_X10_isRight
  refine s_aload0 0 rfl dX10_isRight_0 ?_
  refine s_gr (gR_RX10_32 0) dX10_isRight_1 ?_
  refine s_gr (gR_RX10_73 0) dX10_isRight_4 ?_
  refine s_iload1 1 rfl dX10_isRight_7 ?_
  refine s_chk (fun q1 => ?_)
  refine s_aal (aR_24 0 x1) q1 dX10_isRight_8 ?_
  refine s_gi gI_RX10_120 dX10_isRight_9 ?_
  refine s_if_ne (tgt := 19) dX10_isRight_12 (by decide) (fun q2 => ?_) (fun q2 => ?_)
  · skip
    refine s_k0 dX10_isRight_19 ?_
    refine s_istore2 [(2, .inl 0), (0, .inr (.inr (10, 0))), (1, .inl x1)] rfl rfl dX10_isRight_20 ?_
    refine s_iload2 0 rfl dX10_isRight_21 ?_
    refine s_if_eq_P (tgt := 37) (by decide) dX10_isRight_22 (by decide) ?_
    refine s_aload0 1 rfl dX10_isRight_37 ?_
    refine s_gr (gR_RX10_36 0) dX10_isRight_38 ?_
    refine s_gr (gR_RX10_126 0) dX10_isRight_41 ?_
    refine s_iload1 2 rfl dX10_isRight_44 ?_
    refine s_ial aT_34 q1 dX10_isRight_45 ?_
    refine s_istore3 [(3, .inl (h.1 34 0 x1.toNatClampNeg)), (2, .inl 0), (0, .inr (.inr (10, 0))), (1, .inl x1)] rfl rfl dX10_isRight_46 ?_
    refine s_aload0 2 rfl dX10_isRight_47 ?_
    refine s_gr (gR_RX10_18 0) dX10_isRight_48 ?_
    refine s_iload1 3 rfl dX10_isRight_51 ?_
    refine s_ial aT_43 q1 dX10_isRight_52 ?_
    refine s_if_ge (tgt := 100) dX10_isRight_53 (by decide) (fun q3 => ?_) (fun q3 => ?_)
    · skip
      refine s_iload3 0 rfl dX10_isRight_100 ?_
      refine s_aload0 2 rfl dX10_isRight_101 ?_
      refine s_gr (gR_RX10_18 0) dX10_isRight_102 ?_
      refine s_iload1 3 rfl dX10_isRight_105 ?_
      refine s_ial aT_43 q1 dX10_isRight_106 ?_
      refine s_ic_eq (tgt := 120) dX10_isRight_107 (by decide) (fun q4 => ?_) (fun q4 => ?_)
      · skip
        refine s_k1 dX10_isRight_120 ?_
        refine s_goto (tgt := 125) dX10_isRight_121 (by decide) ?_
        exact s_zreturn rfl rfl (Or.inr rfl) dX10_isRight_125
      · skip
        refine s_iload3 0 rfl dX10_isRight_110 ?_
        refine s_aload0 2 rfl dX10_isRight_111 ?_
        refine s_gr (gR_RX10_22 0) dX10_isRight_112 ?_
        refine s_iload1 3 rfl dX10_isRight_115 ?_
        refine s_ial aT_44 q1 dX10_isRight_116 ?_
        refine s_ic_ne (tgt := 124) dX10_isRight_117 (by decide) (fun q5 => ?_) (fun q5 => ?_)
        · skip
          refine s_k0 dX10_isRight_124 ?_
          exact s_zreturn rfl rfl (Or.inl rfl) dX10_isRight_125
        · skip
          refine s_k1 dX10_isRight_120 ?_
          refine s_goto (tgt := 125) dX10_isRight_121 (by decide) ?_
          exact s_zreturn rfl rfl (Or.inr rfl) dX10_isRight_125
    · skip
      refine s_aload0 2 rfl dX10_isRight_56 ?_
      refine s_gr (gR_RX10_22 0) dX10_isRight_57 ?_
      refine s_iload1 3 rfl dX10_isRight_60 ?_
      refine s_ial aT_44 q1 dX10_isRight_61 ?_
      refine s_if_ge (tgt := 100) dX10_isRight_62 (by decide) (fun q6 => ?_) (fun q6 => ?_)
      · skip
        refine s_iload3 0 rfl dX10_isRight_100 ?_
        refine s_aload0 2 rfl dX10_isRight_101 ?_
        refine s_gr (gR_RX10_18 0) dX10_isRight_102 ?_
        refine s_iload1 3 rfl dX10_isRight_105 ?_
        refine s_ial aT_43 q1 dX10_isRight_106 ?_
        refine s_ic_eq (tgt := 120) dX10_isRight_107 (by decide) (fun q7 => ?_) (fun q7 => ?_)
        · skip
          refine s_k1 dX10_isRight_120 ?_
          refine s_goto (tgt := 125) dX10_isRight_121 (by decide) ?_
          exact s_zreturn rfl rfl (Or.inr rfl) dX10_isRight_125
        · skip
          refine s_iload3 0 rfl dX10_isRight_110 ?_
          refine s_aload0 2 rfl dX10_isRight_111 ?_
          refine s_gr (gR_RX10_22 0) dX10_isRight_112 ?_
          refine s_iload1 3 rfl dX10_isRight_115 ?_
          refine s_ial aT_44 q1 dX10_isRight_116 ?_
          refine s_ic_ne (tgt := 124) dX10_isRight_117 (by decide) (fun q8 => ?_) (fun q8 => ?_)
          · skip
            refine s_k0 dX10_isRight_124 ?_
            exact s_zreturn rfl rfl (Or.inl rfl) dX10_isRight_125
          · skip
            refine s_k1 dX10_isRight_120 ?_
            refine s_goto (tgt := 125) dX10_isRight_121 (by decide) ?_
            exact s_zreturn rfl rfl (Or.inr rfl) dX10_isRight_125
      · skip
        refine s_iload3 0 rfl dX10_isRight_65 ?_
        refine s_iload2 1 rfl dX10_isRight_66 ?_
        refine s_if_eq_P (tgt := 82) (by decide) dX10_isRight_67 (by decide) ?_
        refine s_aload0 2 rfl dX10_isRight_82 ?_
        refine s_gr (gR_RX10_12 0) dX10_isRight_83 ?_
        refine s_gr (gR_RX10_126 1) dX10_isRight_86 ?_
        refine s_iload1 3 rfl dX10_isRight_89 ?_
        refine s_ial aT_34 q1 dX10_isRight_90 ?_
        refine s_ic_ne (tgt := 98) dX10_isRight_91 (by decide) (fun q9 => ?_) (fun q9 => ?_)
        · skip
          refine s_k0 dX10_isRight_98 ?_
          exact s_zreturn rfl rfl (Or.inl rfl) dX10_isRight_99
        · skip
          refine s_k1 dX10_isRight_94 ?_
          refine s_goto (tgt := 99) dX10_isRight_95 (by decide) ?_
          exact s_zreturn rfl rfl (Or.inr rfl) dX10_isRight_99
  · skip
    refine s_k1 dX10_isRight_15 ?_
    refine s_goto (tgt := 20) dX10_isRight_16 (by decide) ?_
    refine s_istore2 [(2, .inl 1), (0, .inr (.inr (10, 0))), (1, .inl x1)] rfl rfl dX10_isRight_20 ?_
    refine s_iload2 0 rfl dX10_isRight_21 ?_
    refine s_if_eq_N (tgt := 37) (by decide) dX10_isRight_22 (by decide) ?_
    refine s_aload0 1 rfl dX10_isRight_25 ?_
    refine s_gr (gR_RX10_36 0) dX10_isRight_26 ?_
    refine s_gr (gR_RX10_123 0) dX10_isRight_29 ?_
    refine s_iload1 2 rfl dX10_isRight_32 ?_
    refine s_ial aT_33 q1 dX10_isRight_33 ?_
    refine s_goto (tgt := 46) dX10_isRight_34 (by decide) ?_
    refine s_istore3 [(3, .inl (h.1 33 0 x1.toNatClampNeg)), (2, .inl 1), (0, .inr (.inr (10, 0))), (1, .inl x1)] rfl rfl dX10_isRight_46 ?_
    refine s_aload0 2 rfl dX10_isRight_47 ?_
    refine s_gr (gR_RX10_18 0) dX10_isRight_48 ?_
    refine s_iload1 3 rfl dX10_isRight_51 ?_
    refine s_ial aT_43 q1 dX10_isRight_52 ?_
    refine s_if_ge (tgt := 100) dX10_isRight_53 (by decide) (fun q10 => ?_) (fun q10 => ?_)
    · skip
      refine s_iload3 0 rfl dX10_isRight_100 ?_
      refine s_aload0 2 rfl dX10_isRight_101 ?_
      refine s_gr (gR_RX10_18 0) dX10_isRight_102 ?_
      refine s_iload1 3 rfl dX10_isRight_105 ?_
      refine s_ial aT_43 q1 dX10_isRight_106 ?_
      refine s_ic_eq (tgt := 120) dX10_isRight_107 (by decide) (fun q11 => ?_) (fun q11 => ?_)
      · skip
        refine s_k1 dX10_isRight_120 ?_
        refine s_goto (tgt := 125) dX10_isRight_121 (by decide) ?_
        exact s_zreturn rfl rfl (Or.inr rfl) dX10_isRight_125
      · skip
        refine s_iload3 0 rfl dX10_isRight_110 ?_
        refine s_aload0 2 rfl dX10_isRight_111 ?_
        refine s_gr (gR_RX10_22 0) dX10_isRight_112 ?_
        refine s_iload1 3 rfl dX10_isRight_115 ?_
        refine s_ial aT_44 q1 dX10_isRight_116 ?_
        refine s_ic_ne (tgt := 124) dX10_isRight_117 (by decide) (fun q12 => ?_) (fun q12 => ?_)
        · skip
          refine s_k0 dX10_isRight_124 ?_
          exact s_zreturn rfl rfl (Or.inl rfl) dX10_isRight_125
        · skip
          refine s_k1 dX10_isRight_120 ?_
          refine s_goto (tgt := 125) dX10_isRight_121 (by decide) ?_
          exact s_zreturn rfl rfl (Or.inr rfl) dX10_isRight_125
    · skip
      refine s_aload0 2 rfl dX10_isRight_56 ?_
      refine s_gr (gR_RX10_22 0) dX10_isRight_57 ?_
      refine s_iload1 3 rfl dX10_isRight_60 ?_
      refine s_ial aT_44 q1 dX10_isRight_61 ?_
      refine s_if_ge (tgt := 100) dX10_isRight_62 (by decide) (fun q13 => ?_) (fun q13 => ?_)
      · skip
        refine s_iload3 0 rfl dX10_isRight_100 ?_
        refine s_aload0 2 rfl dX10_isRight_101 ?_
        refine s_gr (gR_RX10_18 0) dX10_isRight_102 ?_
        refine s_iload1 3 rfl dX10_isRight_105 ?_
        refine s_ial aT_43 q1 dX10_isRight_106 ?_
        refine s_ic_eq (tgt := 120) dX10_isRight_107 (by decide) (fun q14 => ?_) (fun q14 => ?_)
        · skip
          refine s_k1 dX10_isRight_120 ?_
          refine s_goto (tgt := 125) dX10_isRight_121 (by decide) ?_
          exact s_zreturn rfl rfl (Or.inr rfl) dX10_isRight_125
        · skip
          refine s_iload3 0 rfl dX10_isRight_110 ?_
          refine s_aload0 2 rfl dX10_isRight_111 ?_
          refine s_gr (gR_RX10_22 0) dX10_isRight_112 ?_
          refine s_iload1 3 rfl dX10_isRight_115 ?_
          refine s_ial aT_44 q1 dX10_isRight_116 ?_
          refine s_ic_ne (tgt := 124) dX10_isRight_117 (by decide) (fun q15 => ?_) (fun q15 => ?_)
          · skip
            refine s_k0 dX10_isRight_124 ?_
            exact s_zreturn rfl rfl (Or.inl rfl) dX10_isRight_125
          · skip
            refine s_k1 dX10_isRight_120 ?_
            refine s_goto (tgt := 125) dX10_isRight_121 (by decide) ?_
            exact s_zreturn rfl rfl (Or.inr rfl) dX10_isRight_125
      · skip
        refine s_iload3 0 rfl dX10_isRight_65 ?_
        refine s_iload2 1 rfl dX10_isRight_66 ?_
        refine s_if_eq_N (tgt := 82) (by decide) dX10_isRight_67 (by decide) ?_
        refine s_aload0 2 rfl dX10_isRight_70 ?_
        refine s_gr (gR_RX10_12 0) dX10_isRight_71 ?_
        refine s_gr (gR_RX10_123 1) dX10_isRight_74 ?_
        refine s_iload1 3 rfl dX10_isRight_77 ?_
        refine s_ial aT_33 q1 dX10_isRight_78 ?_
        refine s_goto (tgt := 91) dX10_isRight_79 (by decide) ?_
        refine s_ic_ne (tgt := 98) dX10_isRight_91 (by decide) (fun q16 => ?_) (fun q16 => ?_)
        · skip
          refine s_k0 dX10_isRight_98 ?_
          exact s_zreturn rfl rfl (Or.inl rfl) dX10_isRight_99
        · skip
          refine s_k1 dX10_isRight_94 ?_
          refine s_goto (tgt := 99) dX10_isRight_95 (by decide) ?_
          exact s_zreturn rfl rfl (Or.inr rfl) dX10_isRight_99
set_option maxRecDepth 20000 in
theorem cf_X10_isRight (G : mG) (l : Launch) (x1 : Int32)  (h : mH) (b : Int32 × mH) (hb : f_X10_isRight x1 h = some b) (hl : ∀ v ∈ ([.inr (.inr (10, 0)), .inl x1] : List mV), mLi v) : mMet G l yX10_isRight cX10_isRight 4 (some .boolean) (mRoom 0 0) [.inr (.inr (10, 0)), .inl x1] h (eI b) :=
  mMet.of (y := yX10_isRight) (as := [.inr (.inr (10, 0)), .inl x1]) (by decide +kernel) (Nat.le_of_ble_eq_true rfl) (fun X => sf_X10_isRight G X x1  h) hl b hb
-- DriverBook$Walker.wrongField()I
def f_X10_wrongField_2 (k : Int32 → mH → Option (Int32 × mH))  : Nat → Int32 → mH → Option (Int32 × mH)
  | 0, _, _ => none
  | n + 1, v1, h =>
    if v1 < (h.1 1 0 4) then
      if mIn v1 24 = true then
      (f_X6_isKept v1.toNatClampNeg h).bind fun r3 =>
      if r3.1 = 0 then
        f_X10_wrongField_2 k  n (v1 + 1) r3.2
      else
        (f_X10_isRight v1 r3.2).bind fun r5 =>
        if r5.1 = 0 then
          some (v1, r5.2)
        else
          f_X10_wrongField_2 k  n (v1 + 1) r5.2
      else none
    else
      k v1 h
def f_X10_wrongField  (h : mH) : Option (Int32 × mH) :=
  f_X10_wrongField_2 (fun u7 h8 =>
    some ((-2), h8))  mFu 0 h
set_option maxRecDepth 20000 in
theorem sf_X10_wrongField_2 (G : mG) (X : mX)   (k : Int32 → mH → Option (Int32 × mH)) (hk : ∀ (v1 : Int32) (h : mH), Sim G X cX10_wrongField 2 RX10 (some .int) (mRoom 1 23) eI (k v1 h) 44 [(0, .inr (.inr (10, 0))), (1, .inl v1)] [] h) (n : Nat) : ∀ (v1 : Int32) (h : mH), Sim G X cX10_wrongField 2 RX10 (some .int) (mRoom 1 23) eI (f_X10_wrongField_2 k  n v1 h) 2 [(0, .inr (.inr (10, 0))), (1, .inl v1)] [] h := by
  induction n with
  | zero =>
    intro v1 h
    exact s_none
  | succ n ih =>
    intro v1 h
    unfold f_X10_wrongField_2
    refine s_iload1 1 rfl dX10_wrongField_2 ?_
    refine s_aload0 0 rfl dX10_wrongField_3 ?_
    refine s_gr (gR_RX10_32 0) dX10_wrongField_4 ?_
    refine s_gi gI_RX10_101 dX10_wrongField_7 ?_
    refine s_ic_ge (tgt := 44) dX10_wrongField_10 (by decide) (fun q1 => ?_) (fun q1 => ?_)
    · skip
      exact s_loc [0, 1] rfl (hk v1 h)
    · skip
      refine s_aload0 0 rfl dX10_wrongField_13 ?_
      refine s_gr (gR_RX10_32 0) dX10_wrongField_14 ?_
      refine s_gr (gR_RX10_73 0) dX10_wrongField_17 ?_
      refine s_iload1 1 rfl dX10_wrongField_20 ?_
      refine s_chk (fun q2 => ?_)
      refine s_aal (aR_24 0 v1) q2 dX10_wrongField_21 ?_
      refine s_viI [] (fun l b hb hl => cf_X6_isKept G l v1.toNatClampNeg h b hb hl) me_X6_isKept vi_RX10_113 rfl rfl rfl rfl rfl dX10_wrongField_22 (fun r3 => ?_)
      refine s_if_eq (tgt := 38) dX10_wrongField_25 (by decide) (fun q4 => ?_) (fun q4 => ?_)
      · skip
        refine s_iincw 1 (by decide) 1 [(1, .inl (v1 + 1)), (0, .inr (.inr (10, 0)))] rfl rfl rfl dX10_wrongField_38 ?_
        refine s_goto (tgt := 2) dX10_wrongField_41 (by decide) ?_
        exact s_loc [1, 0] rfl (ih (v1 + 1) r3.2)
      · skip
        refine s_aload0 0 rfl dX10_wrongField_28 ?_
        refine s_iload1 1 rfl dX10_wrongField_29 ?_
        refine s_viI [.inl v1] (fun l b hb hl => cf_X10_isRight G l v1 r3.2 b hb hl) me_X10_isRight vi_RX10_117 rfl rfl rfl rfl rfl dX10_wrongField_30 (fun r5 => ?_)
        refine s_if_ne (tgt := 38) dX10_wrongField_33 (by decide) (fun q6 => ?_) (fun q6 => ?_)
        · skip
          refine s_iincw 1 (by decide) 1 [(1, .inl (v1 + 1)), (0, .inr (.inr (10, 0)))] rfl rfl rfl dX10_wrongField_38 ?_
          refine s_goto (tgt := 2) dX10_wrongField_41 (by decide) ?_
          exact s_loc [1, 0] rfl (ih (v1 + 1) r5.2)
        · skip
          refine s_iload1 1 rfl dX10_wrongField_36 ?_
          exact s_ireturn rfl rfl dX10_wrongField_37
set_option maxRecDepth 20000 in
theorem sf_X10_wrongField (G : mG) (X : mX)   (h : mH) : Sim G X cX10_wrongField 2 RX10 (some .int) (mRoom 1 23) eI (f_X10_wrongField  h) 0 [(0, .inr (.inr (10, 0)))] [] h := by
  unfold f_X10_wrongField
  refine s_k0 dX10_wrongField_0 ?_
  refine s_istore1 [(1, .inl 0), (0, .inr (.inr (10, 0)))] rfl rfl dX10_wrongField_1 ?_
  refine s_loc [1, 0] rfl ?_
  refine sf_X10_wrongField_2 G X  _ (fun u7 h8 => ?_) mFu 0 h
  · skip
    refine s_bip (-2) kb_m2 dX10_wrongField_44 ?_
    exact s_ireturn rfl rfl dX10_wrongField_46
set_option maxRecDepth 20000 in
theorem cf_X10_wrongField (G : mG) (l : Launch)   (h : mH) (b : Int32 × mH) (hb : f_X10_wrongField  h = some b) (hl : ∀ v ∈ ([.inr (.inr (10, 0))] : List mV), mLi v) : mMet G l yX10_wrongField cX10_wrongField 2 (some .int) (mRoom 1 23) [.inr (.inr (10, 0))] h (eI b) :=
  mMet.of (y := yX10_wrongField) (as := [.inr (.inr (10, 0))]) (by decide +kernel) (Nat.le_of_ble_eq_true rfl) (fun X => sf_X10_wrongField G X   h) hl b hb
-- DriverBook$Walker.brokenRule(ZI)I
def f_X10_brokenRule (x1 : Int32) (x2 : Int32) (h : mH) : Option (Int32 × mH) :=
  if x1 = 0 then
    some (1, h)
  else
    if (lg_cmp (h.2 8 0 13) (h.2 8 1 13)) ≤ 0 then
      (f_X10_wrongField  h).bind fun r3 =>
      if r3.1 = (-2) then
        if (r3.2.1 8 0 12) = (x2 + 1) then
          some (0, r3.2)
        else
          some (4, r3.2)
      else
        some (3, r3.2)
    else
      some (2, h)
set_option maxRecDepth 20000 in
theorem sf_X10_brokenRule (G : mG) (X : mX) (x1 : Int32) (x2 : Int32)  (h : mH) : Sim G X cX10_brokenRule 3 RX10 (some .int) (mRoom 2 44) eI (f_X10_brokenRule x1 x2 h) 0 [(0, .inr (.inr (10, 0))), (1, .inl x1), (2, .inl x2)] [] h := by
  unfold f_X10_brokenRule
  refine s_iload1 1 rfl dX10_brokenRule_0 ?_
  refine s_if_ne (tgt := 6) dX10_brokenRule_1 (by decide) (fun q1 => ?_) (fun q1 => ?_)
  · skip
    refine s_aload0 0 rfl dX10_brokenRule_6 ?_
    refine s_gr (gR_RX10_36 0) dX10_brokenRule_7 ?_
    refine s_gj gJ_RX10_110 dX10_brokenRule_10 ?_
    refine s_aload0 0 rfl dX10_brokenRule_13 ?_
    refine s_gr (gR_RX10_12 0) dX10_brokenRule_14 ?_
    refine s_gj gJ_RX10_110 dX10_brokenRule_17 ?_
    refine s_lcmp dX10_brokenRule_20 ?_
    refine s_if_le (tgt := 26) dX10_brokenRule_21 (by decide) (fun q2 => ?_) (fun q2 => ?_)
    · skip
      refine s_aload0 0 rfl dX10_brokenRule_26 ?_
      refine s_viI [] (fun l b hb hl => cf_X10_wrongField G l  h b hb hl) me_X10_wrongField vi_RX10_97 rfl rfl rfl rfl rfl dX10_brokenRule_27 (fun r3 => ?_)
      refine s_bip (-2) kb_m2 dX10_brokenRule_30 ?_
      refine s_ic_eq (tgt := 37) dX10_brokenRule_32 (by decide) (fun q4 => ?_) (fun q4 => ?_)
      · skip
        refine s_aload0 0 rfl dX10_brokenRule_37 ?_
        refine s_gr (gR_RX10_36 0) dX10_brokenRule_38 ?_
        refine s_gi gI_RX10_64 dX10_brokenRule_41 ?_
        refine s_iload2 2 rfl dX10_brokenRule_44 ?_
        refine s_k1 dX10_brokenRule_45 ?_
        refine s_iadd dX10_brokenRule_46 ?_
        refine s_ic_ne (tgt := 54) dX10_brokenRule_47 (by decide) (fun q5 => ?_) (fun q5 => ?_)
        · skip
          refine s_k4 dX10_brokenRule_54 ?_
          exact s_ireturn rfl rfl dX10_brokenRule_55
        · skip
          refine s_k0 dX10_brokenRule_50 ?_
          refine s_goto (tgt := 55) dX10_brokenRule_51 (by decide) ?_
          exact s_ireturn rfl rfl dX10_brokenRule_55
      · skip
        refine s_k3 dX10_brokenRule_35 ?_
        exact s_ireturn rfl rfl dX10_brokenRule_36
    · skip
      refine s_k2 dX10_brokenRule_24 ?_
      exact s_ireturn rfl rfl dX10_brokenRule_25
  · skip
    refine s_k1 dX10_brokenRule_4 ?_
    exact s_ireturn rfl rfl dX10_brokenRule_5
set_option maxRecDepth 20000 in
theorem cf_X10_brokenRule (G : mG) (l : Launch) (x1 : Int32) (x2 : Int32)  (h : mH) (b : Int32 × mH) (hb : f_X10_brokenRule x1 x2 h = some b) (hl : ∀ v ∈ ([.inr (.inr (10, 0)), .inl x1, .inl x2] : List mV), mLi v) : mMet G l yX10_brokenRule cX10_brokenRule 3 (some .int) (mRoom 2 44) [.inr (.inr (10, 0)), .inl x1, .inl x2] h (eI b) :=
  mMet.of (y := yX10_brokenRule) (as := [.inr (.inr (10, 0)), .inl x1, .inl x2]) (by decide +kernel) (Nat.le_of_ble_eq_true rfl) (fun X => sf_X10_brokenRule G X x1 x2  h) hl b hb
-- DriverBook$Walker.firstUnwell(II)I
def f_X10_firstUnwell_93 (k : Int32 → Int32 → Int32 → Int32 → Int32 → mH → Option (Int32 × mH))  : Nat → Int32 → Int32 → Int32 → Int32 → Int32 → mH → Option (Int32 × mH)
  | 0, _, _, _, _, _, _ => none
  | n + 1, v1, v2, v3, v4, v5, h =>
    if v5 ≤ v3 then
      (f_X10_restoreStart  h).bind fun r10 =>
      (f_X8_tellEvent 0 v2 1 ((r10.2 8 1 10) + v5.toInt64) r10).bind fun r11 =>
      (f_X5_runAct v1 r11).bind fun r12 =>
      (f_X10_brokenRule r12.1 v4 r12.2).bind fun r13 =>
      if r13.1 = 0 then
        f_X10_firstUnwell_93 k  n v1 v2 v3 v4 (v5 + 1) r13.2
      else
        if r13.1 = 3 then
          (f_X10_wrongField  (uI r13.2 10 0 6 r13.1)).bind fun r17 =>
          some (v5, uI r17.2 10 0 7 r17.1)
        else
          mLet (uI r13.2 10 0 6 r13.1) fun h16 =>
          some (v5, uI h16 10 0 7 (-2))
    else
      k v1 v2 v3 v4 v5 h
def f_X10_firstUnwell (x1 : Int32) (x2 : Int32) (h : mH) : Option (Int32 × mH) :=
  (f_X5_runAct x1 h).bind fun r1 =>
  if r1.1 = 0 then
    some ((-5), r1.2)
  else
    if (r1.2.1 8 1 9) < 16 then
      (f_X11_nearestInt ((r1.2.2 8 0 10) - (r1.2.2 8 1 10)) r1.2).bind fun r4 =>
      if mIn x1 6 = true then
      if mIn x2 24 = true then
      if mIn (r4.2.1 6 x2.toNatClampNeg 9) 6 = true then
      (f_X10_noteSets x1.toNatClampNeg ((r4.2.1 6 x2.toNatClampNeg 9).toNatClampNeg) r4.2).bind fun r8 =>
      f_X10_firstUnwell_93 (fun u18 u19 u20 u21 u22 h23 =>
        some (0, h23))  mFu x1 x2 r4.1 (r4.2.1 8 0 12) 1 r8
      else none
      else none
      else none
    else
      some ((-3), r1.2)
set_option maxRecDepth 20000 in
theorem sf_X10_firstUnwell_93 (G : mG) (X : mX)   (k : Int32 → Int32 → Int32 → Int32 → Int32 → mH → Option (Int32 × mH)) (hk : ∀ (v1 : Int32) (v2 : Int32) (v3 : Int32) (v4 : Int32) (v5 : Int32) (h : mH), Sim G X cX10_firstUnwell 8 RX10 (some .int) (mRoom 6 144) eI (k v1 v2 v3 v4 v5 h) 182 [(0, .inr (.inr (10, 0))), (1, .inl v1), (2, .inl v2), (3, .inl v3), (4, .inl v4), (5, .inl v5)] [] h) (n : Nat) : ∀ (v1 : Int32) (v2 : Int32) (v3 : Int32) (v4 : Int32) (v5 : Int32) (h : mH), Sim G X cX10_firstUnwell 8 RX10 (some .int) (mRoom 6 144) eI (f_X10_firstUnwell_93 k  n v1 v2 v3 v4 v5 h) 93 [(0, .inr (.inr (10, 0))), (1, .inl v1), (2, .inl v2), (3, .inl v3), (4, .inl v4), (5, .inl v5)] [] h := by
  induction n with
  | zero =>
    intro v1 v2 v3 v4 v5 h
    exact s_none
  | succ n ih =>
    intro v1 v2 v3 v4 v5 h
    unfold f_X10_firstUnwell_93
    refine s_iload 5 rfl dX10_firstUnwell_93 ?_
    refine s_iload3 3 rfl dX10_firstUnwell_95 ?_
    refine s_ic_gt (tgt := 182) dX10_firstUnwell_96 (by decide) (fun q9 => ?_) (fun q9 => ?_)
    · skip
      exact s_loc [0, 1, 2, 3, 4, 5] rfl (hk v1 v2 v3 v4 v5 h)
    · skip
      refine s_aload0 0 rfl dX10_firstUnwell_99 ?_
      refine s_viV [] (fun l b hb hl => cf_X10_restoreStart G l  h b hb hl) me_X10_restoreStart vi_RX10_86 rfl rfl rfl rfl rfl dX10_firstUnwell_100 (fun r10 => ?_)
      refine s_aload0 0 rfl dX10_firstUnwell_103 ?_
      refine s_gr (gR_RX10_36 0) dX10_firstUnwell_104 ?_
      refine s_iload2 2 rfl dX10_firstUnwell_107 ?_
      refine s_k1 dX10_firstUnwell_108 ?_
      refine s_aload0 0 rfl dX10_firstUnwell_109 ?_
      refine s_gr (gR_RX10_12 0) dX10_firstUnwell_110 ?_
      refine s_gj gJ_RX10_56 dX10_firstUnwell_113 ?_
      refine s_iload 5 rfl dX10_firstUnwell_116 ?_
      refine s_i2l dX10_firstUnwell_118 ?_
      refine s_ladd dX10_firstUnwell_119 ?_
      refine s_viV [.inl v2, .inl 1, .inr (.inl ((r10.2 8 1 10) + v5.toInt64))] (fun l b hb hl => cf_X8_tellEvent G l 0 v2 1 ((r10.2 8 1 10) + v5.toInt64) r10 b hb hl) me_X8_tellEvent vi_RX10_89 rfl rfl rfl rfl rfl dX10_firstUnwell_120 (fun r11 => ?_)
      refine s_aload0 0 rfl dX10_firstUnwell_123 ?_
      refine s_gr (gR_RX10_39 0) dX10_firstUnwell_124 ?_
      refine s_iload1 1 rfl dX10_firstUnwell_127 ?_
      refine s_viI [.inl v1] (fun l b hb hl => cf_X5_runAct G l v1 r11 b hb hl) me_X5_runAct vi_RX10_47 rfl rfl rfl rfl rfl dX10_firstUnwell_128 (fun r12 => ?_)
      refine s_istorew [(6, .inl r12.1), (0, .inr (.inr (10, 0))), (1, .inl v1), (2, .inl v2), (3, .inl v3), (4, .inl v4), (5, .inl v5)] rfl rfl dX10_firstUnwell_131 ?_
      refine s_aload0 1 rfl dX10_firstUnwell_133 ?_
      refine s_iload 0 rfl dX10_firstUnwell_134 ?_
      refine s_iload 5 rfl dX10_firstUnwell_136 ?_
      refine s_viI [.inl r12.1, .inl v4] (fun l b hb hl => cf_X10_brokenRule G l r12.1 v4 r12.2 b hb hl) me_X10_brokenRule vi_RX10_93 rfl rfl rfl rfl rfl dX10_firstUnwell_138 (fun r13 => ?_)
      refine s_istorew [(7, .inl r13.1), (6, .inl r12.1), (0, .inr (.inr (10, 0))), (1, .inl v1), (2, .inl v2), (3, .inl v3), (4, .inl v4), (5, .inl v5)] rfl rfl dX10_firstUnwell_141 ?_
      refine s_iload 0 rfl dX10_firstUnwell_143 ?_
      refine s_if_eq (tgt := 176) dX10_firstUnwell_145 (by decide) (fun q14 => ?_) (fun q14 => ?_)
      · skip
        refine s_iincw 1 (by decide) 7 [(5, .inl (v5 + 1)), (7, .inl r13.1), (6, .inl r12.1), (0, .inr (.inr (10, 0))), (1, .inl v1), (2, .inl v2), (3, .inl v3), (4, .inl v4)] rfl rfl rfl dX10_firstUnwell_176 ?_
        refine s_goto (tgt := 93) dX10_firstUnwell_179 (by decide) ?_
        exact s_loc [3, 4, 5, 6, 7, 0] rfl (ih v1 v2 v3 v4 (v5 + 1) r13.2)
      · skip
        refine s_aload0 2 rfl dX10_firstUnwell_148 ?_
        refine s_iload 0 rfl dX10_firstUnwell_149 ?_
        refine s_pi pI_RX10_25 dX10_firstUnwell_151 ?_
        refine s_aload0 2 rfl dX10_firstUnwell_154 ?_
        refine s_iload 0 rfl dX10_firstUnwell_155 ?_
        refine s_k3 dX10_firstUnwell_157 ?_
        refine s_ic_ne (tgt := 168) dX10_firstUnwell_158 (by decide) (fun q15 => ?_) (fun q15 => ?_)
        · skip
          refine s_bip (-2) kb_m2 dX10_firstUnwell_168 ?_
          refine s_let (fun h16 => ?_)
          refine s_pi pI_RX10_29 dX10_firstUnwell_170 ?_
          refine s_iload 7 rfl dX10_firstUnwell_173 ?_
          exact s_ireturn rfl rfl dX10_firstUnwell_175
        · skip
          refine s_aload0 2 rfl dX10_firstUnwell_161 ?_
          refine s_viI [] (fun l b hb hl => cf_X10_wrongField G l  (uI r13.2 10 0 6 r13.1) b hb hl) me_X10_wrongField vi_RX10_97 rfl rfl rfl rfl rfl dX10_firstUnwell_162 (fun r17 => ?_)
          refine s_goto (tgt := 170) dX10_firstUnwell_165 (by decide) ?_
          refine s_pi pI_RX10_29 dX10_firstUnwell_170 ?_
          refine s_iload 7 rfl dX10_firstUnwell_173 ?_
          exact s_ireturn rfl rfl dX10_firstUnwell_175
set_option maxRecDepth 20000 in
theorem sf_X10_firstUnwell (G : mG) (X : mX) (x1 : Int32) (x2 : Int32)  (h : mH) : Sim G X cX10_firstUnwell 8 RX10 (some .int) (mRoom 6 144) eI (f_X10_firstUnwell x1 x2 h) 0 [(0, .inr (.inr (10, 0))), (1, .inl x1), (2, .inl x2)] [] h := by
  unfold f_X10_firstUnwell
  refine s_aload0 0 rfl dX10_firstUnwell_0 ?_
  refine s_gr (gR_RX10_39 0) dX10_firstUnwell_1 ?_
  refine s_iload1 1 rfl dX10_firstUnwell_4 ?_
  refine s_viI [.inl x1] (fun l b hb hl => cf_X5_runAct G l x1 h b hb hl) me_X5_runAct vi_RX10_47 rfl rfl rfl rfl rfl dX10_firstUnwell_5 (fun r1 => ?_)
  refine s_if_ne (tgt := 14) dX10_firstUnwell_8 (by decide) (fun q2 => ?_) (fun q2 => ?_)
  · skip
    refine s_aload0 0 rfl dX10_firstUnwell_14 ?_
    refine s_gr (gR_RX10_12 0) dX10_firstUnwell_15 ?_
    refine s_gi gI_RX10_53 dX10_firstUnwell_18 ?_
    refine s_bip 16 kb_16 dX10_firstUnwell_21 ?_
    refine s_ic_lt (tgt := 29) dX10_firstUnwell_23 (by decide) (fun q3 => ?_) (fun q3 => ?_)
    · skip
      refine s_aload0 0 rfl dX10_firstUnwell_29 ?_
      refine s_gr (gR_RX10_36 0) dX10_firstUnwell_30 ?_
      refine s_gj gJ_RX10_56 dX10_firstUnwell_33 ?_
      refine s_aload0 0 rfl dX10_firstUnwell_36 ?_
      refine s_gr (gR_RX10_12 0) dX10_firstUnwell_37 ?_
      refine s_gj gJ_RX10_56 dX10_firstUnwell_40 ?_
      refine s_lsub dX10_firstUnwell_43 ?_
      refine s_siI [.inr (.inl ((r1.2.2 8 0 10) - (r1.2.2 8 1 10)))] (fun l b hb hl => cf_X11_nearestInt G l ((r1.2.2 8 0 10) - (r1.2.2 8 1 10)) r1.2 b hb hl) me_X11_nearestInt si_RX10_60 rfl rfl rfl rfl rfl dX10_firstUnwell_44 (fun r4 => ?_)
      refine s_istore3 [(3, .inl r4.1), (0, .inr (.inr (10, 0))), (1, .inl x1), (2, .inl x2)] rfl rfl dX10_firstUnwell_47 ?_
      refine s_aload0 1 rfl dX10_firstUnwell_48 ?_
      refine s_gr (gR_RX10_36 0) dX10_firstUnwell_49 ?_
      refine s_gi gI_RX10_64 dX10_firstUnwell_52 ?_
      refine s_istorew [(4, .inl (r4.2.1 8 0 12)), (3, .inl r4.1), (0, .inr (.inr (10, 0))), (1, .inl x1), (2, .inl x2)] rfl rfl dX10_firstUnwell_55 ?_
      refine s_aload0 2 rfl dX10_firstUnwell_57 ?_
      refine s_aload0 2 rfl dX10_firstUnwell_58 ?_
      refine s_gr (gR_RX10_32 0) dX10_firstUnwell_59 ?_
      refine s_gr (gR_RX10_67 0) dX10_firstUnwell_62 ?_
      refine s_iload1 3 rfl dX10_firstUnwell_65 ?_
      refine s_chk (fun q5 => ?_)
      refine s_aal (aR_26 0 x1) q5 dX10_firstUnwell_66 ?_
      refine s_aload0 2 rfl dX10_firstUnwell_67 ?_
      refine s_gr (gR_RX10_32 0) dX10_firstUnwell_68 ?_
      refine s_gr (gR_RX10_67 0) dX10_firstUnwell_71 ?_
      refine s_aload0 2 rfl dX10_firstUnwell_74 ?_
      refine s_gr (gR_RX10_32 0) dX10_firstUnwell_75 ?_
      refine s_gr (gR_RX10_73 0) dX10_firstUnwell_78 ?_
      refine s_iload2 4 rfl dX10_firstUnwell_81 ?_
      refine s_chk (fun q6 => ?_)
      refine s_aal (aR_24 0 x2) q6 dX10_firstUnwell_82 ?_
      refine s_gi gI_RX10_77 dX10_firstUnwell_83 ?_
      refine s_chk (fun q7 => ?_)
      refine s_aal (aR_26 0 (r4.2.1 6 x2.toNatClampNeg 9)) q7 dX10_firstUnwell_86 ?_
      refine s_viV [.inr (.inr (0, x1.toNatClampNeg)), .inr (.inr (0, (r4.2.1 6 x2.toNatClampNeg 9).toNatClampNeg))] (fun l b hb hl => cf_X10_noteSets G l x1.toNatClampNeg ((r4.2.1 6 x2.toNatClampNeg 9).toNatClampNeg) r4.2 b hb hl) me_X10_noteSets vi_RX10_82 rfl rfl rfl rfl rfl dX10_firstUnwell_87 (fun r8 => ?_)
      refine s_k1 dX10_firstUnwell_90 ?_
      refine s_istorew [(5, .inl 1), (4, .inl (r4.2.1 8 0 12)), (3, .inl r4.1), (0, .inr (.inr (10, 0))), (1, .inl x1), (2, .inl x2)] rfl rfl dX10_firstUnwell_91 ?_
      refine s_loc [3, 4, 5, 2, 1, 0] rfl ?_
      refine sf_X10_firstUnwell_93 G X  _ (fun u18 u19 u20 u21 u22 h23 => ?_) mFu x1 x2 r4.1 (r4.2.1 8 0 12) 1 r8
      · skip
        refine s_k0 dX10_firstUnwell_182 ?_
        exact s_ireturn rfl rfl dX10_firstUnwell_183
    · skip
      refine s_bip (-3) kb_m3 dX10_firstUnwell_26 ?_
      exact s_ireturn rfl rfl dX10_firstUnwell_28
  · skip
    refine s_bip (-5) kb_m5 dX10_firstUnwell_11 ?_
    exact s_ireturn rfl rfl dX10_firstUnwell_13
set_option maxRecDepth 20000 in
theorem cf_X10_firstUnwell (G : mG) (l : Launch) (x1 : Int32) (x2 : Int32)  (h : mH) (b : Int32 × mH) (hb : f_X10_firstUnwell x1 x2 h = some b) (hl : ∀ v ∈ ([.inr (.inr (10, 0)), .inl x1, .inl x2] : List mV), mLi v) : mMet G l yX10_firstUnwell cX10_firstUnwell 8 (some .int) (mRoom 6 144) [.inr (.inr (10, 0)), .inl x1, .inl x2] h (eI b) :=
  mMet.of (y := yX10_firstUnwell) (as := [.inr (.inr (10, 0)), .inl x1, .inl x2]) (by decide +kernel) (Nat.le_of_ble_eq_true rfl) (fun X => sf_X10_firstUnwell G X x1 x2  h) hl b hb
-- DriverBook.begin(I)I
def f_X11_begin (x1 : Int32) (h : mH) : Option (Int32 × mH) :=
  if x1 < 1 then
    some ((-1), h)
  else
    if x1 ≤ 8 then
      (f_X1_startAnew x1 h).bind fun r3 =>
      (f_X10_forget  r3).bind fun r4 =>
      (f_X2_powerUp  (uI r4 11 0 6 0)).bind fun r5 =>
      some (x1, r5)
    else
      some ((-1), h)
set_option maxRecDepth 20000 in
theorem sf_X11_begin (G : mG) (X : mX) (x1 : Int32)  (h : mH) : Sim G X cX11_begin 2 RX11 (some .int) (mRoom 3 66) eI (f_X11_begin x1 h) 0 [(0, .inr (.inr (11, 0))), (1, .inl x1)] [] h := by
  unfold f_X11_begin
  refine s_iload1 1 rfl dX11_begin_0 ?_
  refine s_k1 dX11_begin_1 ?_
  refine s_ic_lt (tgt := 11) dX11_begin_2 (by decide) (fun q1 => ?_) (fun q1 => ?_)
  · skip
    refine s_km1 dX11_begin_11 ?_
    exact s_ireturn rfl rfl dX11_begin_12
  · skip
    refine s_iload1 1 rfl dX11_begin_5 ?_
    refine s_bip 8 kb_8 dX11_begin_6 ?_
    refine s_ic_le (tgt := 13) dX11_begin_8 (by decide) (fun q2 => ?_) (fun q2 => ?_)
    · skip
      refine s_aload0 0 rfl dX11_begin_13 ?_
      refine s_gr (gR_RX11_10 0) dX11_begin_14 ?_
      refine s_iload1 1 rfl dX11_begin_17 ?_
      refine s_viV [.inl x1] (fun l b hb hl => cf_X1_startAnew G l x1 h b hb hl) me_X1_startAnew vi_RX11_61 rfl rfl rfl rfl rfl dX11_begin_18 (fun r3 => ?_)
      refine s_aload0 0 rfl dX11_begin_21 ?_
      refine s_gr (gR_RX11_46 0) dX11_begin_22 ?_
      refine s_viV [] (fun l b hb hl => cf_X10_forget G l  r3 b hb hl) me_X10_forget vi_RX11_65 rfl rfl rfl rfl rfl dX11_begin_25 (fun r4 => ?_)
      refine s_aload0 0 rfl dX11_begin_28 ?_
      refine s_k0 dX11_begin_29 ?_
      refine s_pi pI_RX11_57 dX11_begin_30 ?_
      refine s_aload0 0 rfl dX11_begin_33 ?_
      refine s_gr (gR_RX11_28 0) dX11_begin_34 ?_
      refine s_viV [] (fun l b hb hl => cf_X2_powerUp G l  (uI r4 11 0 6 0) b hb hl) me_X2_powerUp vi_RX11_68 rfl rfl rfl rfl rfl dX11_begin_37 (fun r5 => ?_)
      refine s_iload1 1 rfl dX11_begin_40 ?_
      exact s_ireturn rfl rfl dX11_begin_41
    · skip
      refine s_km1 dX11_begin_11 ?_
      exact s_ireturn rfl rfl dX11_begin_12
set_option maxRecDepth 20000 in
theorem cf_X11_begin (G : mG) (l : Launch) (x1 : Int32)  (h : mH) (b : Int32 × mH) (hb : f_X11_begin x1 h = some b) (hl : ∀ v ∈ ([.inr (.inr (11, 0)), .inl x1] : List mV), mLi v) : mMet G l yX11_begin cX11_begin 2 (some .int) (mRoom 3 66) [.inr (.inr (11, 0)), .inl x1] h (eI b) :=
  mMet.of (y := yX11_begin) (as := [.inr (.inr (11, 0)), .inl x1]) (by decide +kernel) (Nat.le_of_ble_eq_true rfl) (fun X => sf_X11_begin G X x1  h) hl b hb
-- DriverBook.fits(II)Z
def f_X11_fits (x0 : Int32) (x1 : Int32) (h : mH) : Option (Int32 × mH) :=
  if x0 < 0 then
    some (0, h)
  else
    if x0 < (1 <<< (x1 &&& 31)) then
      some (1, h)
    else
      some (0, h)
set_option maxRecDepth 20000 in
theorem sf_X11_fits (G : mG) (X : mX) (x0 : Int32) (x1 : Int32)  (h : mH) : Sim G X cX11_fits 2 RX11 (some .boolean) (mRoom 0 0) eI (f_X11_fits x0 x1 h) 0 [(0, .inl x0), (1, .inl x1)] [] h := by
  unfold f_X11_fits
  refine s_iload0 0 rfl dX11_fits_0 ?_
  refine s_if_lt (tgt := 15) dX11_fits_1 (by decide) (fun q1 => ?_) (fun q1 => ?_)
  · skip
    refine s_k0 dX11_fits_15 ?_
    exact s_zreturn rfl rfl (Or.inl rfl) dX11_fits_16
  · skip
    refine s_iload0 0 rfl dX11_fits_4 ?_
    refine s_k1 dX11_fits_5 ?_
    refine s_iload1 1 rfl dX11_fits_6 ?_
    refine s_ishl dX11_fits_7 ?_
    refine s_ic_ge (tgt := 15) dX11_fits_8 (by decide) (fun q2 => ?_) (fun q2 => ?_)
    · skip
      refine s_k0 dX11_fits_15 ?_
      exact s_zreturn rfl rfl (Or.inl rfl) dX11_fits_16
    · skip
      refine s_k1 dX11_fits_11 ?_
      refine s_goto (tgt := 16) dX11_fits_12 (by decide) ?_
      exact s_zreturn rfl rfl (Or.inr rfl) dX11_fits_16
set_option maxRecDepth 20000 in
theorem cf_X11_fits (G : mG) (l : Launch) (x0 : Int32) (x1 : Int32)  (h : mH) (b : Int32 × mH) (hb : f_X11_fits x0 x1 h = some b) (hl : ∀ v ∈ ([.inl x0, .inl x1] : List mV), mLi v) : mMet G l yX11_fits cX11_fits 2 (some .boolean) (mRoom 0 0) [.inl x0, .inl x1] h (eI b) :=
  mMet.of (y := yX11_fits) (as := [.inl x0, .inl x1]) (by decide +kernel) (Nat.le_of_ble_eq_true rfl) (fun X => sf_X11_fits G X x0 x1  h) hl b hb
-- DriverBook.field(IIIII)I
def f_X11_field_j79 (w1 : Int32) (w2 : Int32) (w3 : Int32) (w4 : Int32) (w5 : Int32) (h : mH) : Option (Int32 × mH) :=
  (f_X1_bitsOfAll w1 h).bind fun r12 =>
  if (r12.1 &&& (((1 <<< (w3 &&& 31)) - 1) <<< (w2 &&& 31))) = 0 then
    if (r12.2.1 1 0 4) < 24 then
      (f_X1_tellField w1 w2 w3 w4 w5 r12.2).bind fun r15 =>
      (f_X2_powerUp  r15.2).bind fun r16 =>
      some (r15.1, r16)
    else
      some ((-3), r12.2)
  else
    some ((-2), r12.2)
def f_X11_field (x1 : Int32) (x2 : Int32) (x3 : Int32) (x4 : Int32) (x5 : Int32) (h : mH) : Option (Int32 × mH) :=
  (f_X1_hasRegister x1 h).bind fun r1 =>
  if r1.1 = 0 then
    some ((-1), r1.2)
  else
    if x4 < 0 then
      some ((-1), r1.2)
    else
      if x4 ≤ 6 then
        if x2 < 0 then
          some ((-1), r1.2)
        else
          if x3 < 1 then
            some ((-1), r1.2)
          else
            if x3 ≤ 8 then
              if x2 ≤ (16 - x3) then
                (f_X11_fits x5 x3 r1.2).bind fun r9 =>
                if r9.1 = 0 then
                  some ((-1), r9.2)
                else
                  if x5 = 0 then
                    f_X11_field_j79 x1 x2 x3 x4 x5 r9.2
                  else
                    if x4 = 4 then
                      some ((-1), r9.2)
                    else
                      if x4 = 6 then
                        some ((-1), r9.2)
                      else
                        f_X11_field_j79 x1 x2 x3 x4 x5 r9.2
              else
                some ((-1), r1.2)
            else
              some ((-1), r1.2)
      else
        some ((-1), r1.2)
set_option maxRecDepth 20000 in
theorem sf_X11_field_j79 (G : mG) (X : mX) (w1 : Int32) (w2 : Int32) (w3 : Int32) (w4 : Int32) (w5 : Int32) (h : mH) : Sim G X cX11_field 8 RX11 (some .int) (mRoom 3 66) eI (f_X11_field_j79 w1 w2 w3 w4 w5 h) 79 [(0, .inr (.inr (11, 0))), (1, .inl w1), (2, .inl w2), (3, .inl w3), (4, .inl w4), (5, .inl w5)] [] h := by
  unfold f_X11_field_j79
  refine s_k1 dX11_field_79 ?_
  refine s_iload3 3 rfl dX11_field_80 ?_
  refine s_ishl dX11_field_81 ?_
  refine s_k1 dX11_field_82 ?_
  refine s_isub dX11_field_83 ?_
  refine s_iload2 2 rfl dX11_field_84 ?_
  refine s_ishl dX11_field_85 ?_
  refine s_istorew [(6, .inl (((1 <<< (w3 &&& 31)) - 1) <<< (w2 &&& 31))), (0, .inr (.inr (11, 0))), (1, .inl w1), (2, .inl w2), (3, .inl w3), (4, .inl w4), (5, .inl w5)] rfl rfl dX11_field_86 ?_
  refine s_aload0 1 rfl dX11_field_88 ?_
  refine s_gr (gR_RX11_10 0) dX11_field_89 ?_
  refine s_iload1 2 rfl dX11_field_92 ?_
  refine s_viI [.inl w1] (fun l b hb hl => cf_X1_bitsOfAll G l w1 h b hb hl) me_X1_bitsOfAll vi_RX11_81 rfl rfl rfl rfl rfl dX11_field_93 (fun r12 => ?_)
  refine s_iload 0 rfl dX11_field_96 ?_
  refine s_iand dX11_field_98 ?_
  refine s_if_eq (tgt := 105) dX11_field_99 (by decide) (fun q13 => ?_) (fun q13 => ?_)
  · skip
    refine s_aload0 1 rfl dX11_field_105 ?_
    refine s_gr (gR_RX11_10 0) dX11_field_106 ?_
    refine s_gi gI_RX11_85 dX11_field_109 ?_
    refine s_bip 24 kb_24 dX11_field_112 ?_
    refine s_ic_lt (tgt := 120) dX11_field_114 (by decide) (fun q14 => ?_) (fun q14 => ?_)
    · skip
      refine s_aload0 1 rfl dX11_field_120 ?_
      refine s_gr (gR_RX11_10 0) dX11_field_121 ?_
      refine s_iload1 2 rfl dX11_field_124 ?_
      refine s_iload2 3 rfl dX11_field_125 ?_
      refine s_iload3 4 rfl dX11_field_126 ?_
      refine s_iload 5 rfl dX11_field_127 ?_
      refine s_iload 6 rfl dX11_field_129 ?_
      refine s_viI [.inl w1, .inl w2, .inl w3, .inl w4, .inl w5] (fun l b hb hl => cf_X1_tellField G l w1 w2 w3 w4 w5 r12.2 b hb hl) me_X1_tellField vi_RX11_88 rfl rfl rfl rfl rfl dX11_field_131 (fun r15 => ?_)
      refine s_istorew [(7, .inl r15.1), (6, .inl (((1 <<< (w3 &&& 31)) - 1) <<< (w2 &&& 31))), (0, .inr (.inr (11, 0))), (1, .inl w1), (2, .inl w2), (3, .inl w3), (4, .inl w4), (5, .inl w5)] rfl rfl dX11_field_134 ?_
      refine s_aload0 2 rfl dX11_field_136 ?_
      refine s_gr (gR_RX11_28 0) dX11_field_137 ?_
      refine s_viV [] (fun l b hb hl => cf_X2_powerUp G l  r15.2 b hb hl) me_X2_powerUp vi_RX11_68 rfl rfl rfl rfl rfl dX11_field_140 (fun r16 => ?_)
      refine s_iload 0 rfl dX11_field_143 ?_
      exact s_ireturn rfl rfl dX11_field_145
    · skip
      refine s_bip (-3) kb_m3 dX11_field_117 ?_
      exact s_ireturn rfl rfl dX11_field_119
  · skip
    refine s_bip (-2) kb_m2 dX11_field_102 ?_
    exact s_ireturn rfl rfl dX11_field_104
set_option maxRecDepth 20000 in
theorem sf_X11_field (G : mG) (X : mX) (x1 : Int32) (x2 : Int32) (x3 : Int32) (x4 : Int32) (x5 : Int32)  (h : mH) : Sim G X cX11_field 8 RX11 (some .int) (mRoom 3 66) eI (f_X11_field x1 x2 x3 x4 x5 h) 0 [(0, .inr (.inr (11, 0))), (1, .inl x1), (2, .inl x2), (3, .inl x3), (4, .inl x4), (5, .inl x5)] [] h := by
  unfold f_X11_field
  refine s_aload0 0 rfl dX11_field_0 ?_
  refine s_gr (gR_RX11_10 0) dX11_field_1 ?_
  refine s_iload1 1 rfl dX11_field_4 ?_
  refine s_viI [.inl x1] (fun l b hb hl => cf_X1_hasRegister G l x1 h b hb hl) me_X1_hasRegister vi_RX11_71 rfl rfl rfl rfl rfl dX11_field_5 (fun r1 => ?_)
  refine s_if_eq (tgt := 23) dX11_field_8 (by decide) (fun q2 => ?_) (fun q2 => ?_)
  · skip
    refine s_km1 dX11_field_23 ?_
    exact s_ireturn rfl rfl dX11_field_24
  · skip
    refine s_iload 4 rfl dX11_field_11 ?_
    refine s_if_lt (tgt := 23) dX11_field_13 (by decide) (fun q3 => ?_) (fun q3 => ?_)
    · skip
      refine s_km1 dX11_field_23 ?_
      exact s_ireturn rfl rfl dX11_field_24
    · skip
      refine s_iload 4 rfl dX11_field_16 ?_
      refine s_bip 6 kb_6 dX11_field_18 ?_
      refine s_ic_le (tgt := 25) dX11_field_20 (by decide) (fun q4 => ?_) (fun q4 => ?_)
      · skip
        refine s_iload2 2 rfl dX11_field_25 ?_
        refine s_if_lt (tgt := 48) dX11_field_26 (by decide) (fun q5 => ?_) (fun q5 => ?_)
        · skip
          refine s_km1 dX11_field_48 ?_
          exact s_ireturn rfl rfl dX11_field_49
        · skip
          refine s_iload3 3 rfl dX11_field_29 ?_
          refine s_k1 dX11_field_30 ?_
          refine s_ic_lt (tgt := 48) dX11_field_31 (by decide) (fun q6 => ?_) (fun q6 => ?_)
          · skip
            refine s_km1 dX11_field_48 ?_
            exact s_ireturn rfl rfl dX11_field_49
          · skip
            refine s_iload3 3 rfl dX11_field_34 ?_
            refine s_bip 8 kb_8 dX11_field_35 ?_
            refine s_ic_gt (tgt := 48) dX11_field_37 (by decide) (fun q7 => ?_) (fun q7 => ?_)
            · skip
              refine s_km1 dX11_field_48 ?_
              exact s_ireturn rfl rfl dX11_field_49
            · skip
              refine s_iload2 2 rfl dX11_field_40 ?_
              refine s_bip 16 kb_16 dX11_field_41 ?_
              refine s_iload3 3 rfl dX11_field_43 ?_
              refine s_isub dX11_field_44 ?_
              refine s_ic_le (tgt := 50) dX11_field_45 (by decide) (fun q8 => ?_) (fun q8 => ?_)
              · skip
                refine s_iload 5 rfl dX11_field_50 ?_
                refine s_iload3 3 rfl dX11_field_52 ?_
                refine s_siI [.inl x5, .inl x3] (fun l b hb hl => cf_X11_fits G l x5 x3 r1.2 b hb hl) me_X11_fits si_RX11_77 rfl rfl rfl rfl rfl dX11_field_53 (fun r9 => ?_)
                refine s_if_eq (tgt := 77) dX11_field_56 (by decide) (fun q10 => ?_) (fun q10 => ?_)
                · skip
                  refine s_km1 dX11_field_77 ?_
                  exact s_ireturn rfl rfl dX11_field_78
                · skip
                  refine s_iload 5 rfl dX11_field_59 ?_
                  refine s_if_eq (tgt := 79) dX11_field_61 (by decide) (fun q11 => ?_) (fun q11 => ?_)
                  · skip
                    exact s_loc [0, 1, 2, 3, 4, 5] rfl (sf_X11_field_j79 G X x1 x2 x3 x4 x5 r9.2)
                  · skip
                    refine s_iload 4 rfl dX11_field_64 ?_
                    refine s_k4 dX11_field_66 ?_
                    refine s_ic_eq (tgt := 77) dX11_field_67 (by decide) (fun q17 => ?_) (fun q17 => ?_)
                    · skip
                      refine s_km1 dX11_field_77 ?_
                      exact s_ireturn rfl rfl dX11_field_78
                    · skip
                      refine s_iload 4 rfl dX11_field_70 ?_
                      refine s_bip 6 kb_6 dX11_field_72 ?_
                      refine s_ic_ne (tgt := 79) dX11_field_74 (by decide) (fun q18 => ?_) (fun q18 => ?_)
                      · skip
                        exact s_loc [0, 1, 2, 3, 4, 5] rfl (sf_X11_field_j79 G X x1 x2 x3 x4 x5 r9.2)
                      · skip
                        refine s_km1 dX11_field_77 ?_
                        exact s_ireturn rfl rfl dX11_field_78
              · skip
                refine s_km1 dX11_field_48 ?_
                exact s_ireturn rfl rfl dX11_field_49
      · skip
        refine s_km1 dX11_field_23 ?_
        exact s_ireturn rfl rfl dX11_field_24
set_option maxRecDepth 20000 in
theorem cf_X11_field (G : mG) (l : Launch) (x1 : Int32) (x2 : Int32) (x3 : Int32) (x4 : Int32) (x5 : Int32)  (h : mH) (b : Int32 × mH) (hb : f_X11_field x1 x2 x3 x4 x5 h = some b) (hl : ∀ v ∈ ([.inr (.inr (11, 0)), .inl x1, .inl x2, .inl x3, .inl x4, .inl x5] : List mV), mLi v) : mMet G l yX11_field cX11_field 8 (some .int) (mRoom 3 66) [.inr (.inr (11, 0)), .inl x1, .inl x2, .inl x3, .inl x4, .inl x5] h (eI b) :=
  mMet.of (y := yX11_field) (as := [.inr (.inr (11, 0)), .inl x1, .inl x2, .inl x3, .inl x4, .inl x5]) (by decide +kernel) (Nat.le_of_ble_eq_true rfl) (fun X => sf_X11_field G X x1 x2 x3 x4 x5  h) hl b hb
-- DriverBook.period(II)I
def f_X11_period (x1 : Int32) (x2 : Int32) (h : mH) : Option (Int32 × mH) :=
  (f_X1_hasField x1 h).bind fun r1 =>
  if r1.1 = 0 then
    some ((-1), r1.2)
  else
    if x2 < 1 then
      some ((-1), r1.2)
    else
      if x2 ≤ 9 then
        if mIn x1 24 = true then
        if (r1.2.1 6 x1.toNatClampNeg 3) = 4 then
          (f_X1_changePeriod x1 x2 r1.2).bind fun r7 =>
          (f_X2_powerUp  r7.2).bind fun r8 =>
          some (r7.1, r8)
        else
          some ((-4), r1.2)
        else none
      else
        some ((-1), r1.2)
set_option maxRecDepth 20000 in
theorem sf_X11_period (G : mG) (X : mX) (x1 : Int32) (x2 : Int32)  (h : mH) : Sim G X cX11_period 4 RX11 (some .int) (mRoom 3 66) eI (f_X11_period x1 x2 h) 0 [(0, .inr (.inr (11, 0))), (1, .inl x1), (2, .inl x2)] [] h := by
  unfold f_X11_period
  refine s_aload0 0 rfl dX11_period_0 ?_
  refine s_gr (gR_RX11_10 0) dX11_period_1 ?_
  refine s_iload1 1 rfl dX11_period_4 ?_
  refine s_viI [.inl x1] (fun l b hb hl => cf_X1_hasField G l x1 h b hb hl) me_X1_hasField vi_RX11_92 rfl rfl rfl rfl rfl dX11_period_5 (fun r1 => ?_)
  refine s_if_eq (tgt := 22) dX11_period_8 (by decide) (fun q2 => ?_) (fun q2 => ?_)
  · skip
    refine s_km1 dX11_period_22 ?_
    exact s_ireturn rfl rfl dX11_period_23
  · skip
    refine s_iload2 2 rfl dX11_period_11 ?_
    refine s_k1 dX11_period_12 ?_
    refine s_ic_lt (tgt := 22) dX11_period_13 (by decide) (fun q3 => ?_) (fun q3 => ?_)
    · skip
      refine s_km1 dX11_period_22 ?_
      exact s_ireturn rfl rfl dX11_period_23
    · skip
      refine s_iload2 2 rfl dX11_period_16 ?_
      refine s_bip 9 kb_9 dX11_period_17 ?_
      refine s_ic_le (tgt := 24) dX11_period_19 (by decide) (fun q4 => ?_) (fun q4 => ?_)
      · skip
        refine s_aload0 0 rfl dX11_period_24 ?_
        refine s_gr (gR_RX11_10 0) dX11_period_25 ?_
        refine s_gr (gR_RX11_95 0) dX11_period_28 ?_
        refine s_iload1 1 rfl dX11_period_31 ?_
        refine s_chk (fun q5 => ?_)
        refine s_aal (aR_24 0 x1) q5 dX11_period_32 ?_
        refine s_gi gI_RX11_99 dX11_period_33 ?_
        refine s_k4 dX11_period_36 ?_
        refine s_ic_eq (tgt := 43) dX11_period_37 (by decide) (fun q6 => ?_) (fun q6 => ?_)
        · skip
          refine s_aload0 0 rfl dX11_period_43 ?_
          refine s_gr (gR_RX11_10 0) dX11_period_44 ?_
          refine s_iload1 1 rfl dX11_period_47 ?_
          refine s_iload2 2 rfl dX11_period_48 ?_
          refine s_viI [.inl x1, .inl x2] (fun l b hb hl => cf_X1_changePeriod G l x1 x2 r1.2 b hb hl) me_X1_changePeriod vi_RX11_102 rfl rfl rfl rfl rfl dX11_period_49 (fun r7 => ?_)
          refine s_istore3 [(3, .inl r7.1), (0, .inr (.inr (11, 0))), (1, .inl x1), (2, .inl x2)] rfl rfl dX11_period_52 ?_
          refine s_aload0 1 rfl dX11_period_53 ?_
          refine s_gr (gR_RX11_28 0) dX11_period_54 ?_
          refine s_viV [] (fun l b hb hl => cf_X2_powerUp G l  r7.2 b hb hl) me_X2_powerUp vi_RX11_68 rfl rfl rfl rfl rfl dX11_period_57 (fun r8 => ?_)
          refine s_iload3 0 rfl dX11_period_60 ?_
          exact s_ireturn rfl rfl dX11_period_61
        · skip
          refine s_bip (-4) kb_m4 dX11_period_40 ?_
          exact s_ireturn rfl rfl dX11_period_42
      · skip
        refine s_km1 dX11_period_22 ?_
        exact s_ireturn rfl rfl dX11_period_23
set_option maxRecDepth 20000 in
theorem cf_X11_period (G : mG) (l : Launch) (x1 : Int32) (x2 : Int32)  (h : mH) (b : Int32 × mH) (hb : f_X11_period x1 x2 h = some b) (hl : ∀ v ∈ ([.inr (.inr (11, 0)), .inl x1, .inl x2] : List mV), mLi v) : mMet G l yX11_period cX11_period 4 (some .int) (mRoom 3 66) [.inr (.inr (11, 0)), .inl x1, .inl x2] h (eI b) :=
  mMet.of (y := yX11_period) (as := [.inr (.inr (11, 0)), .inl x1, .inl x2]) (by decide +kernel) (Nat.le_of_ble_eq_true rfl) (fun X => sf_X11_period G X x1 x2  h) hl b hb
-- DriverBook.done(II)I
def f_X11_done_j29 (w1 : Int32) (w2 : Int32) (h : mH) : Option (Int32 × mH) :=
  if mIn w1 24 = true then
  if (h.1 6 w1.toNatClampNeg 3) = 4 then
    if w2 = (-1) then
      (f_X1_changeDone w1 w2 h).bind fun r7 =>
      (f_X2_powerUp  r7.2).bind fun r8 =>
      some (r7.1, r8)
    else
      if mIn w2 24 = true then
      if (h.1 6 w2.toNatClampNeg 3) = 1 then
        (f_X1_changeDone w1 w2 h).bind fun r11 =>
        (f_X2_powerUp  r11.2).bind fun r12 =>
        some (r11.1, r12)
      else
        if (h.1 6 w2.toNatClampNeg 3) = 2 then
          (f_X1_changeDone w1 w2 h).bind fun r14 =>
          (f_X2_powerUp  r14.2).bind fun r15 =>
          some (r14.1, r15)
        else
          some ((-4), h)
      else none
  else
    some ((-4), h)
  else none
def f_X11_done (x1 : Int32) (x2 : Int32) (h : mH) : Option (Int32 × mH) :=
  (f_X1_hasField x1 h).bind fun r1 =>
  if r1.1 = 0 then
    some ((-1), r1.2)
  else
    if x2 = (-1) then
      f_X11_done_j29 x1 x2 r1.2
    else
      (f_X1_hasField x2 r1.2).bind fun r16 =>
      if r16.1 = 0 then
        some ((-1), r16.2)
      else
        f_X11_done_j29 x1 x2 r16.2
set_option maxRecDepth 20000 in
theorem sf_X11_done_j29 (G : mG) (X : mX) (w1 : Int32) (w2 : Int32) (h : mH) : Sim G X cX11_done 4 RX11 (some .int) (mRoom 3 66) eI (f_X11_done_j29 w1 w2 h) 29 [(0, .inr (.inr (11, 0))), (1, .inl w1), (2, .inl w2)] [] h := by
  unfold f_X11_done_j29
  refine s_aload0 0 rfl dX11_done_29 ?_
  refine s_gr (gR_RX11_10 0) dX11_done_30 ?_
  refine s_gr (gR_RX11_95 0) dX11_done_33 ?_
  refine s_iload1 1 rfl dX11_done_36 ?_
  refine s_chk (fun q4 => ?_)
  refine s_aal (aR_24 0 w1) q4 dX11_done_37 ?_
  refine s_gi gI_RX11_99 dX11_done_38 ?_
  refine s_k4 dX11_done_41 ?_
  refine s_ic_eq (tgt := 48) dX11_done_42 (by decide) (fun q5 => ?_) (fun q5 => ?_)
  · skip
    refine s_iload2 2 rfl dX11_done_48 ?_
    refine s_km1 dX11_done_49 ?_
    refine s_ic_eq (tgt := 88) dX11_done_50 (by decide) (fun q6 => ?_) (fun q6 => ?_)
    · skip
      refine s_aload0 0 rfl dX11_done_88 ?_
      refine s_gr (gR_RX11_10 0) dX11_done_89 ?_
      refine s_iload1 1 rfl dX11_done_92 ?_
      refine s_iload2 2 rfl dX11_done_93 ?_
      refine s_viI [.inl w1, .inl w2] (fun l b hb hl => cf_X1_changeDone G l w1 w2 h b hb hl) me_X1_changeDone vi_RX11_106 rfl rfl rfl rfl rfl dX11_done_94 (fun r7 => ?_)
      refine s_istore3 [(3, .inl r7.1), (0, .inr (.inr (11, 0))), (1, .inl w1), (2, .inl w2)] rfl rfl dX11_done_97 ?_
      refine s_aload0 1 rfl dX11_done_98 ?_
      refine s_gr (gR_RX11_28 0) dX11_done_99 ?_
      refine s_viV [] (fun l b hb hl => cf_X2_powerUp G l  r7.2 b hb hl) me_X2_powerUp vi_RX11_68 rfl rfl rfl rfl rfl dX11_done_102 (fun r8 => ?_)
      refine s_iload3 0 rfl dX11_done_105 ?_
      exact s_ireturn rfl rfl dX11_done_106
    · skip
      refine s_aload0 0 rfl dX11_done_53 ?_
      refine s_gr (gR_RX11_10 0) dX11_done_54 ?_
      refine s_gr (gR_RX11_95 0) dX11_done_57 ?_
      refine s_iload2 2 rfl dX11_done_60 ?_
      refine s_chk (fun q9 => ?_)
      refine s_aal (aR_24 0 w2) q9 dX11_done_61 ?_
      refine s_gi gI_RX11_99 dX11_done_62 ?_
      refine s_k1 dX11_done_65 ?_
      refine s_ic_eq (tgt := 88) dX11_done_66 (by decide) (fun q10 => ?_) (fun q10 => ?_)
      · skip
        refine s_aload0 0 rfl dX11_done_88 ?_
        refine s_gr (gR_RX11_10 0) dX11_done_89 ?_
        refine s_iload1 1 rfl dX11_done_92 ?_
        refine s_iload2 2 rfl dX11_done_93 ?_
        refine s_viI [.inl w1, .inl w2] (fun l b hb hl => cf_X1_changeDone G l w1 w2 h b hb hl) me_X1_changeDone vi_RX11_106 rfl rfl rfl rfl rfl dX11_done_94 (fun r11 => ?_)
        refine s_istore3 [(3, .inl r11.1), (0, .inr (.inr (11, 0))), (1, .inl w1), (2, .inl w2)] rfl rfl dX11_done_97 ?_
        refine s_aload0 1 rfl dX11_done_98 ?_
        refine s_gr (gR_RX11_28 0) dX11_done_99 ?_
        refine s_viV [] (fun l b hb hl => cf_X2_powerUp G l  r11.2 b hb hl) me_X2_powerUp vi_RX11_68 rfl rfl rfl rfl rfl dX11_done_102 (fun r12 => ?_)
        refine s_iload3 0 rfl dX11_done_105 ?_
        exact s_ireturn rfl rfl dX11_done_106
      · skip
        refine s_aload0 0 rfl dX11_done_69 ?_
        refine s_gr (gR_RX11_10 0) dX11_done_70 ?_
        refine s_gr (gR_RX11_95 0) dX11_done_73 ?_
        refine s_iload2 2 rfl dX11_done_76 ?_
        refine s_aal (aR_24 0 w2) q9 dX11_done_77 ?_
        refine s_gi gI_RX11_99 dX11_done_78 ?_
        refine s_k2 dX11_done_81 ?_
        refine s_ic_eq (tgt := 88) dX11_done_82 (by decide) (fun q13 => ?_) (fun q13 => ?_)
        · skip
          refine s_aload0 0 rfl dX11_done_88 ?_
          refine s_gr (gR_RX11_10 0) dX11_done_89 ?_
          refine s_iload1 1 rfl dX11_done_92 ?_
          refine s_iload2 2 rfl dX11_done_93 ?_
          refine s_viI [.inl w1, .inl w2] (fun l b hb hl => cf_X1_changeDone G l w1 w2 h b hb hl) me_X1_changeDone vi_RX11_106 rfl rfl rfl rfl rfl dX11_done_94 (fun r14 => ?_)
          refine s_istore3 [(3, .inl r14.1), (0, .inr (.inr (11, 0))), (1, .inl w1), (2, .inl w2)] rfl rfl dX11_done_97 ?_
          refine s_aload0 1 rfl dX11_done_98 ?_
          refine s_gr (gR_RX11_28 0) dX11_done_99 ?_
          refine s_viV [] (fun l b hb hl => cf_X2_powerUp G l  r14.2 b hb hl) me_X2_powerUp vi_RX11_68 rfl rfl rfl rfl rfl dX11_done_102 (fun r15 => ?_)
          refine s_iload3 0 rfl dX11_done_105 ?_
          exact s_ireturn rfl rfl dX11_done_106
        · skip
          refine s_bip (-4) kb_m4 dX11_done_85 ?_
          exact s_ireturn rfl rfl dX11_done_87
  · skip
    refine s_bip (-4) kb_m4 dX11_done_45 ?_
    exact s_ireturn rfl rfl dX11_done_47
set_option maxRecDepth 20000 in
theorem sf_X11_done (G : mG) (X : mX) (x1 : Int32) (x2 : Int32)  (h : mH) : Sim G X cX11_done 4 RX11 (some .int) (mRoom 3 66) eI (f_X11_done x1 x2 h) 0 [(0, .inr (.inr (11, 0))), (1, .inl x1), (2, .inl x2)] [] h := by
  unfold f_X11_done
  refine s_aload0 0 rfl dX11_done_0 ?_
  refine s_gr (gR_RX11_10 0) dX11_done_1 ?_
  refine s_iload1 1 rfl dX11_done_4 ?_
  refine s_viI [.inl x1] (fun l b hb hl => cf_X1_hasField G l x1 h b hb hl) me_X1_hasField vi_RX11_92 rfl rfl rfl rfl rfl dX11_done_5 (fun r1 => ?_)
  refine s_if_eq (tgt := 27) dX11_done_8 (by decide) (fun q2 => ?_) (fun q2 => ?_)
  · skip
    refine s_km1 dX11_done_27 ?_
    exact s_ireturn rfl rfl dX11_done_28
  · skip
    refine s_iload2 2 rfl dX11_done_11 ?_
    refine s_km1 dX11_done_12 ?_
    refine s_ic_eq (tgt := 29) dX11_done_13 (by decide) (fun q3 => ?_) (fun q3 => ?_)
    · skip
      exact s_loc [0, 1, 2] rfl (sf_X11_done_j29 G X x1 x2 r1.2)
    · skip
      refine s_aload0 0 rfl dX11_done_16 ?_
      refine s_gr (gR_RX11_10 0) dX11_done_17 ?_
      refine s_iload2 2 rfl dX11_done_20 ?_
      refine s_viI [.inl x2] (fun l b hb hl => cf_X1_hasField G l x2 r1.2 b hb hl) me_X1_hasField vi_RX11_92 rfl rfl rfl rfl rfl dX11_done_21 (fun r16 => ?_)
      refine s_if_ne (tgt := 29) dX11_done_24 (by decide) (fun q17 => ?_) (fun q17 => ?_)
      · skip
        exact s_loc [0, 1, 2] rfl (sf_X11_done_j29 G X x1 x2 r16.2)
      · skip
        refine s_km1 dX11_done_27 ?_
        exact s_ireturn rfl rfl dX11_done_28
set_option maxRecDepth 20000 in
theorem cf_X11_done (G : mG) (l : Launch) (x1 : Int32) (x2 : Int32)  (h : mH) (b : Int32 × mH) (hb : f_X11_done x1 x2 h = some b) (hl : ∀ v ∈ ([.inr (.inr (11, 0)), .inl x1, .inl x2] : List mV), mLi v) : mMet G l yX11_done cX11_done 4 (some .int) (mRoom 3 66) [.inr (.inr (11, 0)), .inl x1, .inl x2] h (eI b) :=
  mMet.of (y := yX11_done) (as := [.inr (.inr (11, 0)), .inl x1, .inl x2]) (by decide +kernel) (Nat.le_of_ble_eq_true rfl) (fun X => sf_X11_done G X x1 x2  h) hl b hb
-- DriverBook.law(IIII)I
def f_X11_law (x1 : Int32) (x2 : Int32) (x3 : Int32) (x4 : Int32) (h : mH) : Option (Int32 × mH) :=
  if x1 < 0 then
    some ((-1), h)
  else
    if x1 ≤ 2 then
      (f_X1_hasField x2 h).bind fun r3 =>
      if r3.1 = 0 then
        some ((-1), r3.2)
      else
        (f_X1_hasField x3 r3.2).bind fun r5 =>
        if r5.1 = 0 then
          some ((-1), r5.2)
        else
          if x4 < 0 then
            some ((-1), r5.2)
          else
            if x4 ≤ 255 then
              if (r5.2.1 1 0 5) < 12 then
                (f_X1_tellLaw x1 x2 x3 x4 r5.2).bind fun r10 =>
                some (r10.1, r10.2)
              else
                some ((-3), r5.2)
            else
              some ((-1), r5.2)
    else
      some ((-1), h)
set_option maxRecDepth 20000 in
theorem sf_X11_law (G : mG) (X : mX) (x1 : Int32) (x2 : Int32) (x3 : Int32) (x4 : Int32)  (h : mH) : Sim G X cX11_law 5 RX11 (some .int) (mRoom 1 25) eI (f_X11_law x1 x2 x3 x4 h) 0 [(0, .inr (.inr (11, 0))), (1, .inl x1), (2, .inl x2), (3, .inl x3), (4, .inl x4)] [] h := by
  unfold f_X11_law
  refine s_iload1 1 rfl dX11_law_0 ?_
  refine s_if_lt (tgt := 31) dX11_law_1 (by decide) (fun q1 => ?_) (fun q1 => ?_)
  · skip
    refine s_km1 dX11_law_31 ?_
    exact s_ireturn rfl rfl dX11_law_32
  · skip
    refine s_iload1 1 rfl dX11_law_4 ?_
    refine s_k2 dX11_law_5 ?_
    refine s_ic_gt (tgt := 31) dX11_law_6 (by decide) (fun q2 => ?_) (fun q2 => ?_)
    · skip
      refine s_km1 dX11_law_31 ?_
      exact s_ireturn rfl rfl dX11_law_32
    · skip
      refine s_aload0 0 rfl dX11_law_9 ?_
      refine s_gr (gR_RX11_10 0) dX11_law_10 ?_
      refine s_iload2 2 rfl dX11_law_13 ?_
      refine s_viI [.inl x2] (fun l b hb hl => cf_X1_hasField G l x2 h b hb hl) me_X1_hasField vi_RX11_92 rfl rfl rfl rfl rfl dX11_law_14 (fun r3 => ?_)
      refine s_if_eq (tgt := 31) dX11_law_17 (by decide) (fun q4 => ?_) (fun q4 => ?_)
      · skip
        refine s_km1 dX11_law_31 ?_
        exact s_ireturn rfl rfl dX11_law_32
      · skip
        refine s_aload0 0 rfl dX11_law_20 ?_
        refine s_gr (gR_RX11_10 0) dX11_law_21 ?_
        refine s_iload3 3 rfl dX11_law_24 ?_
        refine s_viI [.inl x3] (fun l b hb hl => cf_X1_hasField G l x3 r3.2 b hb hl) me_X1_hasField vi_RX11_92 rfl rfl rfl rfl rfl dX11_law_25 (fun r5 => ?_)
        refine s_if_ne (tgt := 33) dX11_law_28 (by decide) (fun q6 => ?_) (fun q6 => ?_)
        · skip
          refine s_iload 4 rfl dX11_law_33 ?_
          refine s_if_lt (tgt := 46) dX11_law_35 (by decide) (fun q7 => ?_) (fun q7 => ?_)
          · skip
            refine s_km1 dX11_law_46 ?_
            exact s_ireturn rfl rfl dX11_law_47
          · skip
            refine s_iload 4 rfl dX11_law_38 ?_
            refine s_sip 255 ks_255 dX11_law_40 ?_
            refine s_ic_le (tgt := 48) dX11_law_43 (by decide) (fun q8 => ?_) (fun q8 => ?_)
            · skip
              refine s_aload0 0 rfl dX11_law_48 ?_
              refine s_gr (gR_RX11_10 0) dX11_law_49 ?_
              refine s_gi gI_RX11_111 dX11_law_52 ?_
              refine s_bip 12 kb_12 dX11_law_55 ?_
              refine s_ic_lt (tgt := 63) dX11_law_57 (by decide) (fun q9 => ?_) (fun q9 => ?_)
              · skip
                refine s_aload0 0 rfl dX11_law_63 ?_
                refine s_gr (gR_RX11_10 0) dX11_law_64 ?_
                refine s_iload1 1 rfl dX11_law_67 ?_
                refine s_iload2 2 rfl dX11_law_68 ?_
                refine s_iload3 3 rfl dX11_law_69 ?_
                refine s_iload 4 rfl dX11_law_70 ?_
                refine s_viI [.inl x1, .inl x2, .inl x3, .inl x4] (fun l b hb hl => cf_X1_tellLaw G l x1 x2 x3 x4 r5.2 b hb hl) me_X1_tellLaw vi_RX11_114 rfl rfl rfl rfl rfl dX11_law_72 (fun r10 => ?_)
                exact s_ireturn rfl rfl dX11_law_75
              · skip
                refine s_bip (-3) kb_m3 dX11_law_60 ?_
                exact s_ireturn rfl rfl dX11_law_62
            · skip
              refine s_km1 dX11_law_46 ?_
              exact s_ireturn rfl rfl dX11_law_47
        · skip
          refine s_km1 dX11_law_31 ?_
          exact s_ireturn rfl rfl dX11_law_32
set_option maxRecDepth 20000 in
theorem cf_X11_law (G : mG) (l : Launch) (x1 : Int32) (x2 : Int32) (x3 : Int32) (x4 : Int32)  (h : mH) (b : Int32 × mH) (hb : f_X11_law x1 x2 x3 x4 h = some b) (hl : ∀ v ∈ ([.inr (.inr (11, 0)), .inl x1, .inl x2, .inl x3, .inl x4] : List mV), mLi v) : mMet G l yX11_law cX11_law 5 (some .int) (mRoom 1 25) [.inr (.inr (11, 0)), .inl x1, .inl x2, .inl x3, .inl x4] h (eI b) :=
  mMet.of (y := yX11_law) (as := [.inr (.inr (11, 0)), .inl x1, .inl x2, .inl x3, .inl x4]) (by decide +kernel) (Nat.le_of_ble_eq_true rfl) (fun X => sf_X11_law G X x1 x2 x3 x4  h) hl b hb
-- DriverBook.act()I
def f_X11_act  (h : mH) : Option (Int32 × mH) :=
  if (h.1 1 0 6) < 6 then
    (f_X1_tellAct  h).bind fun r2 =>
    some (r2.1, r2.2)
  else
    some ((-3), h)
set_option maxRecDepth 20000 in
theorem sf_X11_act (G : mG) (X : mX)   (h : mH) : Sim G X cX11_act 1 RX11 (some .int) (mRoom 1 20) eI (f_X11_act  h) 0 [(0, .inr (.inr (11, 0)))] [] h := by
  unfold f_X11_act
  refine s_aload0 0 rfl dX11_act_0 ?_
  refine s_gr (gR_RX11_10 0) dX11_act_1 ?_
  refine s_gi gI_RX11_118 dX11_act_4 ?_
  refine s_bip 6 kb_6 dX11_act_7 ?_
  refine s_ic_lt (tgt := 15) dX11_act_9 (by decide) (fun q1 => ?_) (fun q1 => ?_)
  · skip
    refine s_aload0 0 rfl dX11_act_15 ?_
    refine s_gr (gR_RX11_10 0) dX11_act_16 ?_
    refine s_viI [] (fun l b hb hl => cf_X1_tellAct G l  h b hb hl) me_X1_tellAct vi_RX11_121 rfl rfl rfl rfl rfl dX11_act_19 (fun r2 => ?_)
    exact s_ireturn rfl rfl dX11_act_22
  · skip
    refine s_bip (-3) kb_m3 dX11_act_12 ?_
    exact s_ireturn rfl rfl dX11_act_14
set_option maxRecDepth 20000 in
theorem cf_X11_act (G : mG) (l : Launch)   (h : mH) (b : Int32 × mH) (hb : f_X11_act  h = some b) (hl : ∀ v ∈ ([.inr (.inr (11, 0))] : List mV), mLi v) : mMet G l yX11_act cX11_act 1 (some .int) (mRoom 1 20) [.inr (.inr (11, 0))] h (eI b) :=
  mMet.of (y := yX11_act) (as := [.inr (.inr (11, 0))]) (by decide +kernel) (Nat.le_of_ble_eq_true rfl) (fun X => sf_X11_act G X   h) hl b hb
-- DriverBook.isStepNumber(III)Z
def f_X11_isStepNumber (x1 : Int32) (x2 : Int32) (x3 : Int32) (h : mH) : Option (Int32 × mH) :=
  if x1 = 2 then
    if x3 = 0 then
      some (1, h)
    else
      some (0, h)
  else
  if x1 = 3 then
    if x3 < 1 then
      some (0, h)
    else
      if x3 ≤ 9 then
        some (1, h)
      else
        some (0, h)
  else
    if mIn x2 24 = true then
    (f_X11_fits x3 (h.1 6 x2.toNatClampNeg 2) h).bind fun r7 =>
    if (r7.1 = 0 ∨ r7.1 = 1) then
    some (r7.1, r7.2)
    else none
    else none
set_option maxRecDepth 20000 in
theorem sf_X11_isStepNumber (G : mG) (X : mX) (x1 : Int32) (x2 : Int32) (x3 : Int32)  (h : mH) : Sim G X cX11_isStepNumber 4 RX11 (some .boolean) (mRoom 1 21) eI (f_X11_isStepNumber x1 x2 x3 h) 0 [(0, .inr (.inr (11, 0))), (1, .inl x1), (2, .inl x2), (3, .inl x3)] [] h := by
  unfold f_X11_isStepNumber
  refine s_iload1 1 rfl dX11_isStepNumber_0 ?_
  refine s_case (fun q1 => ?_) (fun q1 => ?_)
  · skip
    refine s_lokP dX11_isStepNumber_1 2 q1 (by decide) 28 (by decide) ?_
    refine s_iload3 3 rfl dX11_isStepNumber_28 ?_
    refine s_if_ne (tgt := 36) dX11_isStepNumber_29 (by decide) (fun q2 => ?_) (fun q2 => ?_)
    · skip
      refine s_k0 dX11_isStepNumber_36 ?_
      exact s_zreturn rfl rfl (Or.inl rfl) dX11_isStepNumber_37
    · skip
      refine s_k1 dX11_isStepNumber_32 ?_
      refine s_goto (tgt := 37) dX11_isStepNumber_33 (by decide) ?_
      exact s_zreturn rfl rfl (Or.inr rfl) dX11_isStepNumber_37
  refine s_case (fun q3 => ?_) (fun q3 => ?_)
  · skip
    refine s_lokP dX11_isStepNumber_1 3 q3 (by decide) 38 (by decide) ?_
    refine s_iload3 3 rfl dX11_isStepNumber_38 ?_
    refine s_k1 dX11_isStepNumber_39 ?_
    refine s_ic_lt (tgt := 53) dX11_isStepNumber_40 (by decide) (fun q4 => ?_) (fun q4 => ?_)
    · skip
      refine s_k0 dX11_isStepNumber_53 ?_
      exact s_zreturn rfl rfl (Or.inl rfl) dX11_isStepNumber_54
    · skip
      refine s_iload3 3 rfl dX11_isStepNumber_43 ?_
      refine s_bip 9 kb_9 dX11_isStepNumber_44 ?_
      refine s_ic_gt (tgt := 53) dX11_isStepNumber_46 (by decide) (fun q5 => ?_) (fun q5 => ?_)
      · skip
        refine s_k0 dX11_isStepNumber_53 ?_
        exact s_zreturn rfl rfl (Or.inl rfl) dX11_isStepNumber_54
      · skip
        refine s_k1 dX11_isStepNumber_49 ?_
        refine s_goto (tgt := 54) dX11_isStepNumber_50 (by decide) ?_
        exact s_zreturn rfl rfl (Or.inr rfl) dX11_isStepNumber_54
  refine s_lokD dX11_isStepNumber_1 [2, 3] (by refine List.forall_mem_cons.mpr ⟨q1, ?_⟩; refine List.forall_mem_cons.mpr ⟨q3, ?_⟩; exact fun _ z => absurd z List.not_mem_nil) (by decide) (by decide) 55 (by decide) ?_
  · skip
    refine s_iload3 3 rfl dX11_isStepNumber_55 ?_
    refine s_aload0 0 rfl dX11_isStepNumber_56 ?_
    refine s_gr (gR_RX11_10 0) dX11_isStepNumber_57 ?_
    refine s_gr (gR_RX11_95 0) dX11_isStepNumber_60 ?_
    refine s_iload2 2 rfl dX11_isStepNumber_63 ?_
    refine s_chk (fun q6 => ?_)
    refine s_aal (aR_24 0 x2) q6 dX11_isStepNumber_64 ?_
    refine s_gi gI_RX11_175 dX11_isStepNumber_65 ?_
    refine s_siI [.inl x3, .inl (h.1 6 x2.toNatClampNeg 2)] (fun l b hb hl => cf_X11_fits G l x3 (h.1 6 x2.toNatClampNeg 2) h b hb hl) me_X11_fits si_RX11_77 rfl rfl rfl rfl rfl dX11_isStepNumber_68 (fun r7 => ?_)
    refine s_chk (fun q8 => ?_)
    exact s_zreturn rfl rfl q8 dX11_isStepNumber_71
set_option maxRecDepth 20000 in
theorem cf_X11_isStepNumber (G : mG) (l : Launch) (x1 : Int32) (x2 : Int32) (x3 : Int32)  (h : mH) (b : Int32 × mH) (hb : f_X11_isStepNumber x1 x2 x3 h = some b) (hl : ∀ v ∈ ([.inr (.inr (11, 0)), .inl x1, .inl x2, .inl x3] : List mV), mLi v) : mMet G l yX11_isStepNumber cX11_isStepNumber 4 (some .boolean) (mRoom 1 21) [.inr (.inr (11, 0)), .inl x1, .inl x2, .inl x3] h (eI b) :=
  mMet.of (y := yX11_isStepNumber) (as := [.inr (.inr (11, 0)), .inl x1, .inl x2, .inl x3]) (by decide +kernel) (Nat.le_of_ble_eq_true rfl) (fun X => sf_X11_isStepNumber G X x1 x2 x3  h) hl b hb
-- DriverBook.allowsStep(II)Z
def f_X11_allowsStep (x0 : Int32) (x1 : Int32) (h : mH) : Option (Int32 × mH) :=
  if x1 = 0 then
    if x0 = 1 then
      some (0, h)
    else
      if x0 = 3 then
        some (0, h)
      else
        some (1, h)
  else
    if x1 = 1 then
      if x0 = 3 then
        some (0, h)
      else
        some (1, h)
    else
      some (1, h)
set_option maxRecDepth 20000 in
theorem sf_X11_allowsStep (G : mG) (X : mX) (x0 : Int32) (x1 : Int32)  (h : mH) : Sim G X cX11_allowsStep 2 RX11 (some .boolean) (mRoom 0 0) eI (f_X11_allowsStep x0 x1 h) 0 [(0, .inl x0), (1, .inl x1)] [] h := by
  unfold f_X11_allowsStep
  refine s_iload1 1 rfl dX11_allowsStep_0 ?_
  refine s_if_ne (tgt := 20) dX11_allowsStep_1 (by decide) (fun q1 => ?_) (fun q1 => ?_)
  · skip
    refine s_iload1 1 rfl dX11_allowsStep_20 ?_
    refine s_k1 dX11_allowsStep_21 ?_
    refine s_ic_ne (tgt := 30) dX11_allowsStep_22 (by decide) (fun q2 => ?_) (fun q2 => ?_)
    · skip
      refine s_k1 dX11_allowsStep_30 ?_
      refine s_goto (tgt := 35) dX11_allowsStep_31 (by decide) ?_
      exact s_zreturn rfl rfl (Or.inr rfl) dX11_allowsStep_35
    · skip
      refine s_iload0 0 rfl dX11_allowsStep_25 ?_
      refine s_k3 dX11_allowsStep_26 ?_
      refine s_ic_eq (tgt := 34) dX11_allowsStep_27 (by decide) (fun q3 => ?_) (fun q3 => ?_)
      · skip
        refine s_k0 dX11_allowsStep_34 ?_
        exact s_zreturn rfl rfl (Or.inl rfl) dX11_allowsStep_35
      · skip
        refine s_k1 dX11_allowsStep_30 ?_
        refine s_goto (tgt := 35) dX11_allowsStep_31 (by decide) ?_
        exact s_zreturn rfl rfl (Or.inr rfl) dX11_allowsStep_35
  · skip
    refine s_iload0 0 rfl dX11_allowsStep_4 ?_
    refine s_k1 dX11_allowsStep_5 ?_
    refine s_ic_eq (tgt := 18) dX11_allowsStep_6 (by decide) (fun q4 => ?_) (fun q4 => ?_)
    · skip
      refine s_k0 dX11_allowsStep_18 ?_
      exact s_zreturn rfl rfl (Or.inl rfl) dX11_allowsStep_19
    · skip
      refine s_iload0 0 rfl dX11_allowsStep_9 ?_
      refine s_k3 dX11_allowsStep_10 ?_
      refine s_ic_eq (tgt := 18) dX11_allowsStep_11 (by decide) (fun q5 => ?_) (fun q5 => ?_)
      · skip
        refine s_k0 dX11_allowsStep_18 ?_
        exact s_zreturn rfl rfl (Or.inl rfl) dX11_allowsStep_19
      · skip
        refine s_k1 dX11_allowsStep_14 ?_
        refine s_goto (tgt := 19) dX11_allowsStep_15 (by decide) ?_
        exact s_zreturn rfl rfl (Or.inr rfl) dX11_allowsStep_19
set_option maxRecDepth 20000 in
theorem cf_X11_allowsStep (G : mG) (l : Launch) (x0 : Int32) (x1 : Int32)  (h : mH) (b : Int32 × mH) (hb : f_X11_allowsStep x0 x1 h = some b) (hl : ∀ v ∈ ([.inl x0, .inl x1] : List mV), mLi v) : mMet G l yX11_allowsStep cX11_allowsStep 2 (some .boolean) (mRoom 0 0) [.inl x0, .inl x1] h (eI b) :=
  mMet.of (y := yX11_allowsStep) (as := [.inl x0, .inl x1]) (by decide +kernel) (Nat.le_of_ble_eq_true rfl) (fun X => sf_X11_allowsStep G X x0 x1  h) hl b hb
-- DriverBook.step(IIIII)I
def f_X11_step_j48 (w1 : Int32) (w2 : Int32) (w3 : Int32) (w4 : Int32) (w5 : Int32) (h : mH) : Option (Int32 × mH) :=
  (f_X11_isStepNumber w2 w3 w4 h).bind fun r8 =>
  if r8.1 = 0 then
    some ((-1), r8.2)
  else
    if w5 < 0 then
      some ((-1), r8.2)
    else
      if w2 = 1 then
        if w5 ≤ 20 then
          if w2 = 3 then
            if mIn w1 6 = true then
            if (r8.2.1 0 w1.toNatClampNeg 5) < 12 then
              (f_X1_tellStep w1 w2 w3 w4 w5 r8.2).bind fun r27 =>
              some (r27.1, r27.2)
            else
              some ((-3), r8.2)
            else none
          else
            if mIn w3 24 = true then
            (f_X11_allowsStep (r8.2.1 6 w3.toNatClampNeg 3) w2 r8.2).bind fun r29 =>
            if r29.1 = 0 then
              some ((-4), r29.2)
            else
              if mIn w1 6 = true then
              if (r29.2.1 0 w1.toNatClampNeg 5) < 12 then
                (f_X1_tellStep w1 w2 w3 w4 w5 r29.2).bind fun r33 =>
                some (r33.1, r33.2)
              else
                some ((-3), r29.2)
              else none
            else none
        else
          some ((-1), r8.2)
      else
        if w5 ≤ 0 then
          if w2 = 3 then
            if mIn w1 6 = true then
            if (r8.2.1 0 w1.toNatClampNeg 5) < 12 then
              (f_X1_tellStep w1 w2 w3 w4 w5 r8.2).bind fun r16 =>
              some (r16.1, r16.2)
            else
              some ((-3), r8.2)
            else none
          else
            if mIn w3 24 = true then
            (f_X11_allowsStep (r8.2.1 6 w3.toNatClampNeg 3) w2 r8.2).bind fun r18 =>
            if r18.1 = 0 then
              some ((-4), r18.2)
            else
              if mIn w1 6 = true then
              if (r18.2.1 0 w1.toNatClampNeg 5) < 12 then
                (f_X1_tellStep w1 w2 w3 w4 w5 r18.2).bind fun r22 =>
                some (r22.1, r22.2)
              else
                some ((-3), r18.2)
              else none
            else none
        else
          some ((-1), r8.2)
def f_X11_step (x1 : Int32) (x2 : Int32) (x3 : Int32) (x4 : Int32) (x5 : Int32) (h : mH) : Option (Int32 × mH) :=
  (f_X1_hasAct x1 h).bind fun r1 =>
  if r1.1 = 0 then
    some ((-1), r1.2)
  else
    if x2 < 0 then
      some ((-1), r1.2)
    else
      if x2 ≤ 3 then
        if x2 = 3 then
          if x3 = (-1) then
            f_X11_step_j48 x1 x2 x3 x4 x5 r1.2
          else
            some ((-1), r1.2)
        else
          (f_X1_hasField x3 r1.2).bind fun r6 =>
          if r6.1 = 0 then
            some ((-1), r6.2)
          else
            f_X11_step_j48 x1 x2 x3 x4 x5 r6.2
      else
        some ((-1), r1.2)
set_option maxRecDepth 20000 in
theorem sf_X11_step_j48 (G : mG) (X : mX) (w1 : Int32) (w2 : Int32) (w3 : Int32) (w4 : Int32) (w5 : Int32) (h : mH) : Sim G X cX11_step 6 RX11 (some .int) (mRoom 2 49) eI (f_X11_step_j48 w1 w2 w3 w4 w5 h) 48 [(0, .inr (.inr (11, 0))), (1, .inl w1), (2, .inl w2), (3, .inl w3), (4, .inl w4), (5, .inl w5)] [] h := by
  unfold f_X11_step_j48
  refine s_aload0 0 rfl dX11_step_48 ?_
  refine s_iload2 2 rfl dX11_step_49 ?_
  refine s_iload3 3 rfl dX11_step_50 ?_
  refine s_iload 4 rfl dX11_step_51 ?_
  refine s_viI [.inl w2, .inl w3, .inl w4] (fun l b hb hl => cf_X11_isStepNumber G l w2 w3 w4 h b hb hl) me_X11_isStepNumber vi_RX11_130 rfl rfl rfl rfl rfl dX11_step_53 (fun r8 => ?_)
  refine s_if_ne (tgt := 61) dX11_step_56 (by decide) (fun q9 => ?_) (fun q9 => ?_)
  · skip
    refine s_iload 5 rfl dX11_step_61 ?_
    refine s_if_lt (tgt := 82) dX11_step_63 (by decide) (fun q10 => ?_) (fun q10 => ?_)
    · skip
      refine s_km1 dX11_step_82 ?_
      exact s_ireturn rfl rfl dX11_step_83
    · skip
      refine s_iload 5 rfl dX11_step_66 ?_
      refine s_iload2 2 rfl dX11_step_68 ?_
      refine s_k1 dX11_step_69 ?_
      refine s_ic_ne (tgt := 78) dX11_step_70 (by decide) (fun q11 => ?_) (fun q11 => ?_)
      · skip
        refine s_k0 dX11_step_78 ?_
        refine s_ic_le (tgt := 84) dX11_step_79 (by decide) (fun q12 => ?_) (fun q12 => ?_)
        · skip
          refine s_iload2 2 rfl dX11_step_84 ?_
          refine s_k3 dX11_step_85 ?_
          refine s_ic_eq (tgt := 111) dX11_step_86 (by decide) (fun q13 => ?_) (fun q13 => ?_)
          · skip
            refine s_aload0 0 rfl dX11_step_111 ?_
            refine s_gr (gR_RX11_10 0) dX11_step_112 ?_
            refine s_gr (gR_RX11_137 0) dX11_step_115 ?_
            refine s_iload1 1 rfl dX11_step_118 ?_
            refine s_chk (fun q14 => ?_)
            refine s_aal (aR_26 0 w1) q14 dX11_step_119 ?_
            refine s_gi gI_RX11_141 dX11_step_120 ?_
            refine s_bip 12 kb_12 dX11_step_123 ?_
            refine s_ic_lt (tgt := 131) dX11_step_125 (by decide) (fun q15 => ?_) (fun q15 => ?_)
            · skip
              refine s_aload0 0 rfl dX11_step_131 ?_
              refine s_gr (gR_RX11_10 0) dX11_step_132 ?_
              refine s_iload1 1 rfl dX11_step_135 ?_
              refine s_iload2 2 rfl dX11_step_136 ?_
              refine s_iload3 3 rfl dX11_step_137 ?_
              refine s_iload 4 rfl dX11_step_138 ?_
              refine s_iload 5 rfl dX11_step_140 ?_
              refine s_viI [.inl w1, .inl w2, .inl w3, .inl w4, .inl w5] (fun l b hb hl => cf_X1_tellStep G l w1 w2 w3 w4 w5 r8.2 b hb hl) me_X1_tellStep vi_RX11_144 rfl rfl rfl rfl rfl dX11_step_142 (fun r16 => ?_)
              exact s_ireturn rfl rfl dX11_step_145
            · skip
              refine s_bip (-3) kb_m3 dX11_step_128 ?_
              exact s_ireturn rfl rfl dX11_step_130
          · skip
            refine s_aload0 0 rfl dX11_step_89 ?_
            refine s_gr (gR_RX11_10 0) dX11_step_90 ?_
            refine s_gr (gR_RX11_95 0) dX11_step_93 ?_
            refine s_iload3 3 rfl dX11_step_96 ?_
            refine s_chk (fun q17 => ?_)
            refine s_aal (aR_24 0 w3) q17 dX11_step_97 ?_
            refine s_gi gI_RX11_99 dX11_step_98 ?_
            refine s_iload2 2 rfl dX11_step_101 ?_
            refine s_siI [.inl (r8.2.1 6 w3.toNatClampNeg 3), .inl w2] (fun l b hb hl => cf_X11_allowsStep G l (r8.2.1 6 w3.toNatClampNeg 3) w2 r8.2 b hb hl) me_X11_allowsStep si_RX11_134 rfl rfl rfl rfl rfl dX11_step_102 (fun r18 => ?_)
            refine s_if_ne (tgt := 111) dX11_step_105 (by decide) (fun q19 => ?_) (fun q19 => ?_)
            · skip
              refine s_aload0 0 rfl dX11_step_111 ?_
              refine s_gr (gR_RX11_10 0) dX11_step_112 ?_
              refine s_gr (gR_RX11_137 0) dX11_step_115 ?_
              refine s_iload1 1 rfl dX11_step_118 ?_
              refine s_chk (fun q20 => ?_)
              refine s_aal (aR_26 0 w1) q20 dX11_step_119 ?_
              refine s_gi gI_RX11_141 dX11_step_120 ?_
              refine s_bip 12 kb_12 dX11_step_123 ?_
              refine s_ic_lt (tgt := 131) dX11_step_125 (by decide) (fun q21 => ?_) (fun q21 => ?_)
              · skip
                refine s_aload0 0 rfl dX11_step_131 ?_
                refine s_gr (gR_RX11_10 0) dX11_step_132 ?_
                refine s_iload1 1 rfl dX11_step_135 ?_
                refine s_iload2 2 rfl dX11_step_136 ?_
                refine s_iload3 3 rfl dX11_step_137 ?_
                refine s_iload 4 rfl dX11_step_138 ?_
                refine s_iload 5 rfl dX11_step_140 ?_
                refine s_viI [.inl w1, .inl w2, .inl w3, .inl w4, .inl w5] (fun l b hb hl => cf_X1_tellStep G l w1 w2 w3 w4 w5 r18.2 b hb hl) me_X1_tellStep vi_RX11_144 rfl rfl rfl rfl rfl dX11_step_142 (fun r22 => ?_)
                exact s_ireturn rfl rfl dX11_step_145
              · skip
                refine s_bip (-3) kb_m3 dX11_step_128 ?_
                exact s_ireturn rfl rfl dX11_step_130
            · skip
              refine s_bip (-4) kb_m4 dX11_step_108 ?_
              exact s_ireturn rfl rfl dX11_step_110
        · skip
          refine s_km1 dX11_step_82 ?_
          exact s_ireturn rfl rfl dX11_step_83
      · skip
        refine s_bip 20 kb_20 dX11_step_73 ?_
        refine s_goto (tgt := 79) dX11_step_75 (by decide) ?_
        refine s_ic_le (tgt := 84) dX11_step_79 (by decide) (fun q23 => ?_) (fun q23 => ?_)
        · skip
          refine s_iload2 2 rfl dX11_step_84 ?_
          refine s_k3 dX11_step_85 ?_
          refine s_ic_eq (tgt := 111) dX11_step_86 (by decide) (fun q24 => ?_) (fun q24 => ?_)
          · skip
            refine s_aload0 0 rfl dX11_step_111 ?_
            refine s_gr (gR_RX11_10 0) dX11_step_112 ?_
            refine s_gr (gR_RX11_137 0) dX11_step_115 ?_
            refine s_iload1 1 rfl dX11_step_118 ?_
            refine s_chk (fun q25 => ?_)
            refine s_aal (aR_26 0 w1) q25 dX11_step_119 ?_
            refine s_gi gI_RX11_141 dX11_step_120 ?_
            refine s_bip 12 kb_12 dX11_step_123 ?_
            refine s_ic_lt (tgt := 131) dX11_step_125 (by decide) (fun q26 => ?_) (fun q26 => ?_)
            · skip
              refine s_aload0 0 rfl dX11_step_131 ?_
              refine s_gr (gR_RX11_10 0) dX11_step_132 ?_
              refine s_iload1 1 rfl dX11_step_135 ?_
              refine s_iload2 2 rfl dX11_step_136 ?_
              refine s_iload3 3 rfl dX11_step_137 ?_
              refine s_iload 4 rfl dX11_step_138 ?_
              refine s_iload 5 rfl dX11_step_140 ?_
              refine s_viI [.inl w1, .inl w2, .inl w3, .inl w4, .inl w5] (fun l b hb hl => cf_X1_tellStep G l w1 w2 w3 w4 w5 r8.2 b hb hl) me_X1_tellStep vi_RX11_144 rfl rfl rfl rfl rfl dX11_step_142 (fun r27 => ?_)
              exact s_ireturn rfl rfl dX11_step_145
            · skip
              refine s_bip (-3) kb_m3 dX11_step_128 ?_
              exact s_ireturn rfl rfl dX11_step_130
          · skip
            refine s_aload0 0 rfl dX11_step_89 ?_
            refine s_gr (gR_RX11_10 0) dX11_step_90 ?_
            refine s_gr (gR_RX11_95 0) dX11_step_93 ?_
            refine s_iload3 3 rfl dX11_step_96 ?_
            refine s_chk (fun q28 => ?_)
            refine s_aal (aR_24 0 w3) q28 dX11_step_97 ?_
            refine s_gi gI_RX11_99 dX11_step_98 ?_
            refine s_iload2 2 rfl dX11_step_101 ?_
            refine s_siI [.inl (r8.2.1 6 w3.toNatClampNeg 3), .inl w2] (fun l b hb hl => cf_X11_allowsStep G l (r8.2.1 6 w3.toNatClampNeg 3) w2 r8.2 b hb hl) me_X11_allowsStep si_RX11_134 rfl rfl rfl rfl rfl dX11_step_102 (fun r29 => ?_)
            refine s_if_ne (tgt := 111) dX11_step_105 (by decide) (fun q30 => ?_) (fun q30 => ?_)
            · skip
              refine s_aload0 0 rfl dX11_step_111 ?_
              refine s_gr (gR_RX11_10 0) dX11_step_112 ?_
              refine s_gr (gR_RX11_137 0) dX11_step_115 ?_
              refine s_iload1 1 rfl dX11_step_118 ?_
              refine s_chk (fun q31 => ?_)
              refine s_aal (aR_26 0 w1) q31 dX11_step_119 ?_
              refine s_gi gI_RX11_141 dX11_step_120 ?_
              refine s_bip 12 kb_12 dX11_step_123 ?_
              refine s_ic_lt (tgt := 131) dX11_step_125 (by decide) (fun q32 => ?_) (fun q32 => ?_)
              · skip
                refine s_aload0 0 rfl dX11_step_131 ?_
                refine s_gr (gR_RX11_10 0) dX11_step_132 ?_
                refine s_iload1 1 rfl dX11_step_135 ?_
                refine s_iload2 2 rfl dX11_step_136 ?_
                refine s_iload3 3 rfl dX11_step_137 ?_
                refine s_iload 4 rfl dX11_step_138 ?_
                refine s_iload 5 rfl dX11_step_140 ?_
                refine s_viI [.inl w1, .inl w2, .inl w3, .inl w4, .inl w5] (fun l b hb hl => cf_X1_tellStep G l w1 w2 w3 w4 w5 r29.2 b hb hl) me_X1_tellStep vi_RX11_144 rfl rfl rfl rfl rfl dX11_step_142 (fun r33 => ?_)
                exact s_ireturn rfl rfl dX11_step_145
              · skip
                refine s_bip (-3) kb_m3 dX11_step_128 ?_
                exact s_ireturn rfl rfl dX11_step_130
            · skip
              refine s_bip (-4) kb_m4 dX11_step_108 ?_
              exact s_ireturn rfl rfl dX11_step_110
        · skip
          refine s_km1 dX11_step_82 ?_
          exact s_ireturn rfl rfl dX11_step_83
  · skip
    refine s_km1 dX11_step_59 ?_
    exact s_ireturn rfl rfl dX11_step_60
set_option maxRecDepth 20000 in
theorem sf_X11_step (G : mG) (X : mX) (x1 : Int32) (x2 : Int32) (x3 : Int32) (x4 : Int32) (x5 : Int32)  (h : mH) : Sim G X cX11_step 6 RX11 (some .int) (mRoom 2 49) eI (f_X11_step x1 x2 x3 x4 x5 h) 0 [(0, .inr (.inr (11, 0))), (1, .inl x1), (2, .inl x2), (3, .inl x3), (4, .inl x4), (5, .inl x5)] [] h := by
  unfold f_X11_step
  refine s_aload0 0 rfl dX11_step_0 ?_
  refine s_gr (gR_RX11_10 0) dX11_step_1 ?_
  refine s_iload1 1 rfl dX11_step_4 ?_
  refine s_viI [.inl x1] (fun l b hb hl => cf_X1_hasAct G l x1 h b hb hl) me_X1_hasAct vi_RX11_125 rfl rfl rfl rfl rfl dX11_step_5 (fun r1 => ?_)
  refine s_if_eq (tgt := 20) dX11_step_8 (by decide) (fun q2 => ?_) (fun q2 => ?_)
  · skip
    refine s_km1 dX11_step_20 ?_
    exact s_ireturn rfl rfl dX11_step_21
  · skip
    refine s_iload2 2 rfl dX11_step_11 ?_
    refine s_if_lt (tgt := 20) dX11_step_12 (by decide) (fun q3 => ?_) (fun q3 => ?_)
    · skip
      refine s_km1 dX11_step_20 ?_
      exact s_ireturn rfl rfl dX11_step_21
    · skip
      refine s_iload2 2 rfl dX11_step_15 ?_
      refine s_k3 dX11_step_16 ?_
      refine s_ic_le (tgt := 22) dX11_step_17 (by decide) (fun q4 => ?_) (fun q4 => ?_)
      · skip
        refine s_iload2 2 rfl dX11_step_22 ?_
        refine s_k3 dX11_step_23 ?_
        refine s_ic_ne (tgt := 35) dX11_step_24 (by decide) (fun q5 => ?_) (fun q5 => ?_)
        · skip
          refine s_aload0 0 rfl dX11_step_35 ?_
          refine s_gr (gR_RX11_10 0) dX11_step_36 ?_
          refine s_iload3 3 rfl dX11_step_39 ?_
          refine s_viI [.inl x3] (fun l b hb hl => cf_X1_hasField G l x3 r1.2 b hb hl) me_X1_hasField vi_RX11_92 rfl rfl rfl rfl rfl dX11_step_40 (fun r6 => ?_)
          refine s_if_ne (tgt := 48) dX11_step_43 (by decide) (fun q7 => ?_) (fun q7 => ?_)
          · skip
            exact s_loc [0, 1, 2, 3, 4, 5] rfl (sf_X11_step_j48 G X x1 x2 x3 x4 x5 r6.2)
          · skip
            refine s_km1 dX11_step_46 ?_
            exact s_ireturn rfl rfl dX11_step_47
        · skip
          refine s_iload3 3 rfl dX11_step_27 ?_
          refine s_km1 dX11_step_28 ?_
          refine s_ic_eq (tgt := 48) dX11_step_29 (by decide) (fun q34 => ?_) (fun q34 => ?_)
          · skip
            exact s_loc [0, 1, 2, 3, 4, 5] rfl (sf_X11_step_j48 G X x1 x2 x3 x4 x5 r1.2)
          · skip
            refine s_goto (tgt := 46) dX11_step_32 (by decide) ?_
            refine s_km1 dX11_step_46 ?_
            exact s_ireturn rfl rfl dX11_step_47
      · skip
        refine s_km1 dX11_step_20 ?_
        exact s_ireturn rfl rfl dX11_step_21
set_option maxRecDepth 20000 in
theorem cf_X11_step (G : mG) (l : Launch) (x1 : Int32) (x2 : Int32) (x3 : Int32) (x4 : Int32) (x5 : Int32)  (h : mH) (b : Int32 × mH) (hb : f_X11_step x1 x2 x3 x4 x5 h = some b) (hl : ∀ v ∈ ([.inr (.inr (11, 0)), .inl x1, .inl x2, .inl x3, .inl x4, .inl x5] : List mV), mLi v) : mMet G l yX11_step cX11_step 6 (some .int) (mRoom 2 49) [.inr (.inr (11, 0)), .inl x1, .inl x2, .inl x3, .inl x4, .inl x5] h (eI b) :=
  mMet.of (y := yX11_step) (as := [.inr (.inr (11, 0)), .inl x1, .inl x2, .inl x3, .inl x4, .inl x5]) (by decide +kernel) (Nat.le_of_ble_eq_true rfl) (fun X => sf_X11_step G X x1 x2 x3 x4 x5  h) hl b hb
