-- DriverBookModel.period(II)I
def f_X12_period (x1 : Int32) (x2 : Int32) (h : mH) : Option (Int32 × mH) :=
  (f_X12_isField x1 h).bind fun r1 =>
  if r1.1 = 0 then
    some ((-1), r1.2)
  else
    (f_X12_in x2 1 9 r1.2).bind fun r3 =>
    if r3.1 = 0 then
      some ((-1), r3.2)
    else
      if mIn x1 24 = true then
      if (r3.2.1 49 0 x1.toNatClampNeg) = 4 then
        (f_X12_changed  (uI r3.2 51 0 x1.toNatClampNeg x2)).bind fun r7 =>
        some (r3.2.1 51 0 x1.toNatClampNeg, r7)
      else
        some ((-4), r3.2)
      else none
set_option maxRecDepth 20000 in
theorem sf_X12_period (G : mG) (X : mX) (x1 : Int32) (x2 : Int32)  (h : mH) : Sim G X cX12_period 4 RX12 (some .int) (mRoom 2 43) eI (f_X12_period x1 x2 h) 0 [(0, .inr (.inr (12, 0))), (1, .inl x1), (2, .inl x2)] [] h := by
  unfold f_X12_period
  refine s_aload0 0 rfl dX12_period_0 ?_
  refine s_iload1 1 rfl dX12_period_1 ?_
  refine s_viI [.inl x1] (fun l b hb hl => cf_X12_isField G l x1 h b hb hl) me_X12_isField vi_RX12_238 rfl rfl rfl rfl rfl dX12_period_2 (fun r1 => ?_)
  refine s_if_eq (tgt := 18) dX12_period_5 (by decide) (fun q2 => ?_) (fun q2 => ?_)
  · skip
    refine s_km1 dX12_period_18 ?_
    exact s_ireturn rfl rfl dX12_period_19
  · skip
    refine s_iload2 2 rfl dX12_period_8 ?_
    refine s_k1 dX12_period_9 ?_
    refine s_bip 9 kb_9 dX12_period_10 ?_
    refine s_siI [.inl x2, .inl 1, .inl 9] (fun l b hb hl => cf_X12_in G l x2 1 9 r1.2 b hb hl) me_X12_in si_RX12_184 rfl rfl rfl rfl rfl dX12_period_12 (fun r3 => ?_)
    refine s_if_ne (tgt := 20) dX12_period_15 (by decide) (fun q4 => ?_) (fun q4 => ?_)
    · skip
      refine s_aload0 0 rfl dX12_period_20 ?_
      refine s_gr (gR_RX12_23 0) dX12_period_21 ?_
      refine s_iload1 1 rfl dX12_period_24 ?_
      refine s_chk (fun q5 => ?_)
      refine s_ial aT_49 q5 dX12_period_25 ?_
      refine s_k4 dX12_period_26 ?_
      refine s_ic_eq (tgt := 33) dX12_period_27 (by decide) (fun q6 => ?_) (fun q6 => ?_)
      · skip
        refine s_aload0 0 rfl dX12_period_33 ?_
        refine s_gr (gR_RX12_29 0) dX12_period_34 ?_
        refine s_iload1 1 rfl dX12_period_37 ?_
        refine s_ial aT_51 q5 dX12_period_38 ?_
        refine s_istore3 [(3, .inl (r3.2.1 51 0 x1.toNatClampNeg)), (0, .inr (.inr (12, 0))), (1, .inl x1), (2, .inl x2)] rfl rfl dX12_period_39 ?_
        refine s_aload0 1 rfl dX12_period_40 ?_
        refine s_gr (gR_RX12_29 0) dX12_period_41 ?_
        refine s_iload1 2 rfl dX12_period_44 ?_
        refine s_iload2 3 rfl dX12_period_45 ?_
        refine s_ias aT_51 q5 dX12_period_46 ?_
        refine s_aload0 1 rfl dX12_period_47 ?_
        refine s_viV [] (fun l b hb hl => cf_X12_changed G l  (uI r3.2 51 0 x1.toNatClampNeg x2) b hb hl) me_X12_changed vi_RX12_228 rfl rfl rfl rfl rfl dX12_period_48 (fun r7 => ?_)
        refine s_iload3 0 rfl dX12_period_51 ?_
        exact s_ireturn rfl rfl dX12_period_52
      · skip
        refine s_bip (-4) kb_m4 dX12_period_30 ?_
        exact s_ireturn rfl rfl dX12_period_32
    · skip
      refine s_km1 dX12_period_18 ?_
      exact s_ireturn rfl rfl dX12_period_19
set_option maxRecDepth 20000 in
theorem cf_X12_period (G : mG) (l : Launch) (x1 : Int32) (x2 : Int32)  (h : mH) (b : Int32 × mH) (hb : f_X12_period x1 x2 h = some b) (hl : ∀ v ∈ ([.inr (.inr (12, 0)), .inl x1, .inl x2] : List mV), mLi v) : mMet G l yX12_period cX12_period 4 (some .int) (mRoom 2 43) [.inr (.inr (12, 0)), .inl x1, .inl x2] h (eI b) :=
  mMet.of (y := yX12_period) (as := [.inr (.inr (12, 0)), .inl x1, .inl x2]) (by decide +kernel) (Nat.le_of_ble_eq_true rfl) (fun X => sf_X12_period G X x1 x2  h) hl b hb
-- DriverBookModel.done(II)I
def f_X12_done_j23 (w1 : Int32) (w2 : Int32) (h : mH) : Option (Int32 × mH) :=
  if mIn w1 24 = true then
  if (h.1 49 0 w1.toNatClampNeg) = 4 then
    if w2 = (-1) then
      (f_X12_changed  (uI h 52 0 w1.toNatClampNeg w2)).bind fun r7 =>
      some (h.1 52 0 w1.toNatClampNeg, r7)
    else
      if mIn w2 24 = true then
      if (h.1 49 0 w2.toNatClampNeg) = 1 then
        (f_X12_changed  (uI h 52 0 w1.toNatClampNeg w2)).bind fun r10 =>
        some (h.1 52 0 w1.toNatClampNeg, r10)
      else
        if (h.1 49 0 w2.toNatClampNeg) = 2 then
          (f_X12_changed  (uI h 52 0 w1.toNatClampNeg w2)).bind fun r12 =>
          some (h.1 52 0 w1.toNatClampNeg, r12)
        else
          some ((-4), h)
      else none
  else
    some ((-4), h)
  else none
def f_X12_done (x1 : Int32) (x2 : Int32) (h : mH) : Option (Int32 × mH) :=
  (f_X12_isField x1 h).bind fun r1 =>
  if r1.1 = 0 then
    some ((-1), r1.2)
  else
    if x2 = (-1) then
      f_X12_done_j23 x1 x2 r1.2
    else
      (f_X12_isField x2 r1.2).bind fun r13 =>
      if r13.1 = 0 then
        some ((-1), r13.2)
      else
        f_X12_done_j23 x1 x2 r13.2
set_option maxRecDepth 20000 in
theorem sf_X12_done_j23 (G : mG) (X : mX) (w1 : Int32) (w2 : Int32) (h : mH) : Sim G X cX12_done 4 RX12 (some .int) (mRoom 2 43) eI (f_X12_done_j23 w1 w2 h) 23 [(0, .inr (.inr (12, 0))), (1, .inl w1), (2, .inl w2)] [] h := by
  unfold f_X12_done_j23
  refine s_aload0 0 rfl dX12_done_23 ?_
  refine s_gr (gR_RX12_23 0) dX12_done_24 ?_
  refine s_iload1 1 rfl dX12_done_27 ?_
  refine s_chk (fun q4 => ?_)
  refine s_ial aT_49 q4 dX12_done_28 ?_
  refine s_k4 dX12_done_29 ?_
  refine s_ic_ne (tgt := 58) dX12_done_30 (by decide) (fun q5 => ?_) (fun q5 => ?_)
  · skip
    refine s_bip (-4) kb_m4 dX12_done_58 ?_
    exact s_ireturn rfl rfl dX12_done_60
  · skip
    refine s_iload2 2 rfl dX12_done_33 ?_
    refine s_km1 dX12_done_34 ?_
    refine s_ic_eq (tgt := 61) dX12_done_35 (by decide) (fun q6 => ?_) (fun q6 => ?_)
    · skip
      refine s_aload0 0 rfl dX12_done_61 ?_
      refine s_gr (gR_RX12_32 0) dX12_done_62 ?_
      refine s_iload1 1 rfl dX12_done_65 ?_
      refine s_ial aT_52 q4 dX12_done_66 ?_
      refine s_istore3 [(3, .inl (h.1 52 0 w1.toNatClampNeg)), (0, .inr (.inr (12, 0))), (1, .inl w1), (2, .inl w2)] rfl rfl dX12_done_67 ?_
      refine s_aload0 1 rfl dX12_done_68 ?_
      refine s_gr (gR_RX12_32 0) dX12_done_69 ?_
      refine s_iload1 2 rfl dX12_done_72 ?_
      refine s_iload2 3 rfl dX12_done_73 ?_
      refine s_ias aT_52 q4 dX12_done_74 ?_
      refine s_aload0 1 rfl dX12_done_75 ?_
      refine s_viV [] (fun l b hb hl => cf_X12_changed G l  (uI h 52 0 w1.toNatClampNeg w2) b hb hl) me_X12_changed vi_RX12_228 rfl rfl rfl rfl rfl dX12_done_76 (fun r7 => ?_)
      refine s_iload3 0 rfl dX12_done_79 ?_
      exact s_ireturn rfl rfl dX12_done_80
    · skip
      refine s_aload0 0 rfl dX12_done_38 ?_
      refine s_gr (gR_RX12_23 0) dX12_done_39 ?_
      refine s_iload2 2 rfl dX12_done_42 ?_
      refine s_chk (fun q8 => ?_)
      refine s_ial aT_49 q8 dX12_done_43 ?_
      refine s_k1 dX12_done_44 ?_
      refine s_ic_eq (tgt := 61) dX12_done_45 (by decide) (fun q9 => ?_) (fun q9 => ?_)
      · skip
        refine s_aload0 0 rfl dX12_done_61 ?_
        refine s_gr (gR_RX12_32 0) dX12_done_62 ?_
        refine s_iload1 1 rfl dX12_done_65 ?_
        refine s_ial aT_52 q4 dX12_done_66 ?_
        refine s_istore3 [(3, .inl (h.1 52 0 w1.toNatClampNeg)), (0, .inr (.inr (12, 0))), (1, .inl w1), (2, .inl w2)] rfl rfl dX12_done_67 ?_
        refine s_aload0 1 rfl dX12_done_68 ?_
        refine s_gr (gR_RX12_32 0) dX12_done_69 ?_
        refine s_iload1 2 rfl dX12_done_72 ?_
        refine s_iload2 3 rfl dX12_done_73 ?_
        refine s_ias aT_52 q4 dX12_done_74 ?_
        refine s_aload0 1 rfl dX12_done_75 ?_
        refine s_viV [] (fun l b hb hl => cf_X12_changed G l  (uI h 52 0 w1.toNatClampNeg w2) b hb hl) me_X12_changed vi_RX12_228 rfl rfl rfl rfl rfl dX12_done_76 (fun r10 => ?_)
        refine s_iload3 0 rfl dX12_done_79 ?_
        exact s_ireturn rfl rfl dX12_done_80
      · skip
        refine s_aload0 0 rfl dX12_done_48 ?_
        refine s_gr (gR_RX12_23 0) dX12_done_49 ?_
        refine s_iload2 2 rfl dX12_done_52 ?_
        refine s_ial aT_49 q8 dX12_done_53 ?_
        refine s_k2 dX12_done_54 ?_
        refine s_ic_eq (tgt := 61) dX12_done_55 (by decide) (fun q11 => ?_) (fun q11 => ?_)
        · skip
          refine s_aload0 0 rfl dX12_done_61 ?_
          refine s_gr (gR_RX12_32 0) dX12_done_62 ?_
          refine s_iload1 1 rfl dX12_done_65 ?_
          refine s_ial aT_52 q4 dX12_done_66 ?_
          refine s_istore3 [(3, .inl (h.1 52 0 w1.toNatClampNeg)), (0, .inr (.inr (12, 0))), (1, .inl w1), (2, .inl w2)] rfl rfl dX12_done_67 ?_
          refine s_aload0 1 rfl dX12_done_68 ?_
          refine s_gr (gR_RX12_32 0) dX12_done_69 ?_
          refine s_iload1 2 rfl dX12_done_72 ?_
          refine s_iload2 3 rfl dX12_done_73 ?_
          refine s_ias aT_52 q4 dX12_done_74 ?_
          refine s_aload0 1 rfl dX12_done_75 ?_
          refine s_viV [] (fun l b hb hl => cf_X12_changed G l  (uI h 52 0 w1.toNatClampNeg w2) b hb hl) me_X12_changed vi_RX12_228 rfl rfl rfl rfl rfl dX12_done_76 (fun r12 => ?_)
          refine s_iload3 0 rfl dX12_done_79 ?_
          exact s_ireturn rfl rfl dX12_done_80
        · skip
          refine s_bip (-4) kb_m4 dX12_done_58 ?_
          exact s_ireturn rfl rfl dX12_done_60
set_option maxRecDepth 20000 in
theorem sf_X12_done (G : mG) (X : mX) (x1 : Int32) (x2 : Int32)  (h : mH) : Sim G X cX12_done 4 RX12 (some .int) (mRoom 2 43) eI (f_X12_done x1 x2 h) 0 [(0, .inr (.inr (12, 0))), (1, .inl x1), (2, .inl x2)] [] h := by
  unfold f_X12_done
  refine s_aload0 0 rfl dX12_done_0 ?_
  refine s_iload1 1 rfl dX12_done_1 ?_
  refine s_viI [.inl x1] (fun l b hb hl => cf_X12_isField G l x1 h b hb hl) me_X12_isField vi_RX12_238 rfl rfl rfl rfl rfl dX12_done_2 (fun r1 => ?_)
  refine s_if_eq (tgt := 21) dX12_done_5 (by decide) (fun q2 => ?_) (fun q2 => ?_)
  · skip
    refine s_km1 dX12_done_21 ?_
    exact s_ireturn rfl rfl dX12_done_22
  · skip
    refine s_iload2 2 rfl dX12_done_8 ?_
    refine s_km1 dX12_done_9 ?_
    refine s_ic_eq (tgt := 23) dX12_done_10 (by decide) (fun q3 => ?_) (fun q3 => ?_)
    · skip
      exact s_loc [0, 1, 2] rfl (sf_X12_done_j23 G X x1 x2 r1.2)
    · skip
      refine s_aload0 0 rfl dX12_done_13 ?_
      refine s_iload2 2 rfl dX12_done_14 ?_
      refine s_viI [.inl x2] (fun l b hb hl => cf_X12_isField G l x2 r1.2 b hb hl) me_X12_isField vi_RX12_238 rfl rfl rfl rfl rfl dX12_done_15 (fun r13 => ?_)
      refine s_if_ne (tgt := 23) dX12_done_18 (by decide) (fun q14 => ?_) (fun q14 => ?_)
      · skip
        exact s_loc [0, 1, 2] rfl (sf_X12_done_j23 G X x1 x2 r13.2)
      · skip
        refine s_km1 dX12_done_21 ?_
        exact s_ireturn rfl rfl dX12_done_22
set_option maxRecDepth 20000 in
theorem cf_X12_done (G : mG) (l : Launch) (x1 : Int32) (x2 : Int32)  (h : mH) (b : Int32 × mH) (hb : f_X12_done x1 x2 h = some b) (hl : ∀ v ∈ ([.inr (.inr (12, 0)), .inl x1, .inl x2] : List mV), mLi v) : mMet G l yX12_done cX12_done 4 (some .int) (mRoom 2 43) [.inr (.inr (12, 0)), .inl x1, .inl x2] h (eI b) :=
  mMet.of (y := yX12_done) (as := [.inr (.inr (12, 0)), .inl x1, .inl x2]) (by decide +kernel) (Nat.le_of_ble_eq_true rfl) (fun X => sf_X12_done G X x1 x2  h) hl b hb
-- DriverBookModel.law(IIII)I
def f_X12_law (x1 : Int32) (x2 : Int32) (x3 : Int32) (x4 : Int32) (h : mH) : Option (Int32 × mH) :=
  (f_X12_in x1 0 2 h).bind fun r1 =>
  if r1.1 = 0 then
    some ((-1), r1.2)
  else
    (f_X12_isField x2 r1.2).bind fun r3 =>
    if r3.1 = 0 then
      some ((-1), r3.2)
    else
      (f_X12_isField x3 r3.2).bind fun r5 =>
      if r5.1 = 0 then
        some ((-1), r5.2)
      else
        (f_X12_in x4 0 255 r5.2).bind fun r7 =>
        if r7.1 = 0 then
          some ((-1), r7.2)
        else
          if (r7.2.1 12 0 11) = 12 then
            some ((-3), r7.2)
          else
            if mIn (r7.2.1 12 0 11) 12 = true then
            mLet (uI r7.2 54 0 (r7.2.1 12 0 11).toNatClampNeg x1) fun h11 =>
            if mIn (h11.1 12 0 11) 12 = true then
            mLet (uI h11 55 0 (h11.1 12 0 11).toNatClampNeg x2) fun h13 =>
            if mIn (h13.1 12 0 11) 12 = true then
            mLet (uI h13 56 0 (h13.1 12 0 11).toNatClampNeg x3) fun h15 =>
            if mIn (h15.1 12 0 11) 12 = true then
            mLet (uI h15 57 0 (h15.1 12 0 11).toNatClampNeg x4) fun h17 =>
            mLet (uI h17 12 0 11 ((h17.1 12 0 11) + 1)) fun h18 =>
            some ((h18.1 12 0 11) - 1, h18)
            else none
            else none
            else none
            else none
set_option maxRecDepth 20000 in
theorem sf_X12_law (G : mG) (X : mX) (x1 : Int32) (x2 : Int32) (x3 : Int32) (x4 : Int32)  (h : mH) : Sim G X cX12_law 5 RX12 (some .int) (mRoom 2 43) eI (f_X12_law x1 x2 x3 x4 h) 0 [(0, .inr (.inr (12, 0))), (1, .inl x1), (2, .inl x2), (3, .inl x3), (4, .inl x4)] [] h := by
  unfold f_X12_law
  refine s_iload1 1 rfl dX12_law_0 ?_
  refine s_k0 dX12_law_1 ?_
  refine s_k2 dX12_law_2 ?_
  refine s_siI [.inl x1, .inl 0, .inl 2] (fun l b hb hl => cf_X12_in G l x1 0 2 h b hb hl) me_X12_in si_RX12_184 rfl rfl rfl rfl rfl dX12_law_3 (fun r1 => ?_)
  refine s_if_eq (tgt := 37) dX12_law_6 (by decide) (fun q2 => ?_) (fun q2 => ?_)
  · skip
    refine s_km1 dX12_law_37 ?_
    exact s_ireturn rfl rfl dX12_law_38
  · skip
    refine s_aload0 0 rfl dX12_law_9 ?_
    refine s_iload2 2 rfl dX12_law_10 ?_
    refine s_viI [.inl x2] (fun l b hb hl => cf_X12_isField G l x2 r1.2 b hb hl) me_X12_isField vi_RX12_238 rfl rfl rfl rfl rfl dX12_law_11 (fun r3 => ?_)
    refine s_if_eq (tgt := 37) dX12_law_14 (by decide) (fun q4 => ?_) (fun q4 => ?_)
    · skip
      refine s_km1 dX12_law_37 ?_
      exact s_ireturn rfl rfl dX12_law_38
    · skip
      refine s_aload0 0 rfl dX12_law_17 ?_
      refine s_iload3 3 rfl dX12_law_18 ?_
      refine s_viI [.inl x3] (fun l b hb hl => cf_X12_isField G l x3 r3.2 b hb hl) me_X12_isField vi_RX12_238 rfl rfl rfl rfl rfl dX12_law_19 (fun r5 => ?_)
      refine s_if_eq (tgt := 37) dX12_law_22 (by decide) (fun q6 => ?_) (fun q6 => ?_)
      · skip
        refine s_km1 dX12_law_37 ?_
        exact s_ireturn rfl rfl dX12_law_38
      · skip
        refine s_iload 4 rfl dX12_law_25 ?_
        refine s_k0 dX12_law_27 ?_
        refine s_sip 255 ks_255 dX12_law_28 ?_
        refine s_siI [.inl x4, .inl 0, .inl 255] (fun l b hb hl => cf_X12_in G l x4 0 255 r5.2 b hb hl) me_X12_in si_RX12_184 rfl rfl rfl rfl rfl dX12_law_31 (fun r7 => ?_)
        refine s_if_ne (tgt := 39) dX12_law_34 (by decide) (fun q8 => ?_) (fun q8 => ?_)
        · skip
          refine s_aload0 0 rfl dX12_law_39 ?_
          refine s_gi gI_RX12_225 dX12_law_40 ?_
          refine s_bip 12 kb_12 dX12_law_43 ?_
          refine s_ic_ne (tgt := 51) dX12_law_45 (by decide) (fun q9 => ?_) (fun q9 => ?_)
          · skip
            refine s_aload0 0 rfl dX12_law_51 ?_
            refine s_gr (gR_RX12_38 0) dX12_law_52 ?_
            refine s_aload0 0 rfl dX12_law_55 ?_
            refine s_gi gI_RX12_225 dX12_law_56 ?_
            refine s_iload1 1 rfl dX12_law_59 ?_
            refine s_chk (fun q10 => ?_)
            refine s_ias aT_54 q10 dX12_law_60 ?_
            refine s_aload0 0 rfl dX12_law_61 ?_
            refine s_gr (gR_RX12_41 0) dX12_law_62 ?_
            refine s_aload0 0 rfl dX12_law_65 ?_
            refine s_let (fun h11 => ?_)
            refine s_gi gI_RX12_225 dX12_law_66 ?_
            refine s_iload2 2 rfl dX12_law_69 ?_
            refine s_chk (fun q12 => ?_)
            refine s_ias aT_55 q12 dX12_law_70 ?_
            refine s_aload0 0 rfl dX12_law_71 ?_
            refine s_gr (gR_RX12_44 0) dX12_law_72 ?_
            refine s_aload0 0 rfl dX12_law_75 ?_
            refine s_let (fun h13 => ?_)
            refine s_gi gI_RX12_225 dX12_law_76 ?_
            refine s_iload3 3 rfl dX12_law_79 ?_
            refine s_chk (fun q14 => ?_)
            refine s_ias aT_56 q14 dX12_law_80 ?_
            refine s_aload0 0 rfl dX12_law_81 ?_
            refine s_gr (gR_RX12_47 0) dX12_law_82 ?_
            refine s_aload0 0 rfl dX12_law_85 ?_
            refine s_let (fun h15 => ?_)
            refine s_gi gI_RX12_225 dX12_law_86 ?_
            refine s_iload 4 rfl dX12_law_89 ?_
            refine s_chk (fun q16 => ?_)
            refine s_ias aT_57 q16 dX12_law_91 ?_
            refine s_aload0 0 rfl dX12_law_92 ?_
            refine s_dup rfl dX12_law_93 ?_
            refine s_let (fun h17 => ?_)
            refine s_gi gI_RX12_225 dX12_law_94 ?_
            refine s_k1 dX12_law_97 ?_
            refine s_iadd dX12_law_98 ?_
            refine s_pi pI_RX12_225 dX12_law_99 ?_
            refine s_aload0 0 rfl dX12_law_102 ?_
            refine s_let (fun h18 => ?_)
            refine s_gi gI_RX12_225 dX12_law_103 ?_
            refine s_k1 dX12_law_106 ?_
            refine s_isub dX12_law_107 ?_
            exact s_ireturn rfl rfl dX12_law_108
          · skip
            refine s_bip (-3) kb_m3 dX12_law_48 ?_
            exact s_ireturn rfl rfl dX12_law_50
        · skip
          refine s_km1 dX12_law_37 ?_
          exact s_ireturn rfl rfl dX12_law_38
set_option maxRecDepth 20000 in
theorem cf_X12_law (G : mG) (l : Launch) (x1 : Int32) (x2 : Int32) (x3 : Int32) (x4 : Int32)  (h : mH) (b : Int32 × mH) (hb : f_X12_law x1 x2 x3 x4 h = some b) (hl : ∀ v ∈ ([.inr (.inr (12, 0)), .inl x1, .inl x2, .inl x3, .inl x4] : List mV), mLi v) : mMet G l yX12_law cX12_law 5 (some .int) (mRoom 2 43) [.inr (.inr (12, 0)), .inl x1, .inl x2, .inl x3, .inl x4] h (eI b) :=
  mMet.of (y := yX12_law) (as := [.inr (.inr (12, 0)), .inl x1, .inl x2, .inl x3, .inl x4]) (by decide +kernel) (Nat.le_of_ble_eq_true rfl) (fun X => sf_X12_law G X x1 x2 x3 x4  h) hl b hb
-- DriverBookModel.act()I
def f_X12_act  (h : mH) : Option (Int32 × mH) :=
  if (h.1 12 0 16) = 6 then
    some ((-3), h)
  else
    if mIn (h.1 12 0 16) 6 = true then
    mLet (uI h 58 0 (h.1 12 0 16).toNatClampNeg 0) fun h3 =>
    mLet (uI h3 12 0 16 ((h3.1 12 0 16) + 1)) fun h4 =>
    some ((h4.1 12 0 16) - 1, h4)
    else none
set_option maxRecDepth 20000 in
theorem sf_X12_act (G : mG) (X : mX)   (h : mH) : Sim G X cX12_act 1 RX12 (some .int) (mRoom 0 0) eI (f_X12_act  h) 0 [(0, .inr (.inr (12, 0)))] [] h := by
  unfold f_X12_act
  refine s_aload0 0 rfl dX12_act_0 ?_
  refine s_gi gI_RX12_188 dX12_act_1 ?_
  refine s_bip 6 kb_6 dX12_act_4 ?_
  refine s_ic_ne (tgt := 12) dX12_act_6 (by decide) (fun q1 => ?_) (fun q1 => ?_)
  · skip
    refine s_aload0 0 rfl dX12_act_12 ?_
    refine s_gr (gR_RX12_50 0) dX12_act_13 ?_
    refine s_aload0 0 rfl dX12_act_16 ?_
    refine s_gi gI_RX12_188 dX12_act_17 ?_
    refine s_k0 dX12_act_20 ?_
    refine s_chk (fun q2 => ?_)
    refine s_ias aT_58 q2 dX12_act_21 ?_
    refine s_aload0 0 rfl dX12_act_22 ?_
    refine s_dup rfl dX12_act_23 ?_
    refine s_let (fun h3 => ?_)
    refine s_gi gI_RX12_188 dX12_act_24 ?_
    refine s_k1 dX12_act_27 ?_
    refine s_iadd dX12_act_28 ?_
    refine s_pi pI_RX12_188 dX12_act_29 ?_
    refine s_aload0 0 rfl dX12_act_32 ?_
    refine s_let (fun h4 => ?_)
    refine s_gi gI_RX12_188 dX12_act_33 ?_
    refine s_k1 dX12_act_36 ?_
    refine s_isub dX12_act_37 ?_
    exact s_ireturn rfl rfl dX12_act_38
  · skip
    refine s_bip (-3) kb_m3 dX12_act_9 ?_
    exact s_ireturn rfl rfl dX12_act_11
set_option maxRecDepth 20000 in
theorem cf_X12_act (G : mG) (l : Launch)   (h : mH) (b : Int32 × mH) (hb : f_X12_act  h = some b) (hl : ∀ v ∈ ([.inr (.inr (12, 0))] : List mV), mLi v) : mMet G l yX12_act cX12_act 1 (some .int) (mRoom 0 0) [.inr (.inr (12, 0))] h (eI b) :=
  mMet.of (y := yX12_act) (as := [.inr (.inr (12, 0))]) (by decide +kernel) (Nat.le_of_ble_eq_true rfl) (fun X => sf_X12_act G X   h) hl b hb
-- DriverBookModel.step(IIIII)I
def f_X12_step_j160 (w1 : Int32) (w2 : Int32) (w3 : Int32) (w4 : Int32) (w5 : Int32) (h : mH) : Option (Int32 × mH) :=
  if mIn w1 6 = true then
  if (h.1 58 0 w1.toNatClampNeg) = 12 then
    some ((-3), h)
  else
    if mIn ((12 * w1) + (h.1 58 0 w1.toNatClampNeg)) 72 = true then
    mLet (uI h 59 0 ((12 * w1) + (h.1 58 0 w1.toNatClampNeg)).toNatClampNeg w2) fun h20 =>
    mLet (uI h20 60 0 ((12 * w1) + (h.1 58 0 w1.toNatClampNeg)).toNatClampNeg w3) fun h21 =>
    mLet (uI h21 61 0 ((12 * w1) + (h.1 58 0 w1.toNatClampNeg)).toNatClampNeg w4) fun h22 =>
    mLet (uI h22 62 0 ((12 * w1) + (h.1 58 0 w1.toNatClampNeg)).toNatClampNeg w5) fun h23 =>
    mLet (uI h23 58 0 w1.toNatClampNeg ((h23.1 58 0 w1.toNatClampNeg) + 1)) fun h24 =>
    some (h24.1 58 0 w1.toNatClampNeg, h24)
    else none
  else none
def f_X12_step_j142 (w1 : Int32) (w2 : Int32) (w3 : Int32) (w4 : Int32) (w5 : Int32) (h : mH) : Option (Int32 × mH) :=
  if w2 = 1 then
    if mIn w3 24 = true then
    if (h.1 49 0 w3.toNatClampNeg) = 3 then
      some ((-4), h)
    else
      f_X12_step_j160 w1 w2 w3 w4 w5 h
    else none
  else
    f_X12_step_j160 w1 w2 w3 w4 w5 h
def f_X12_step_j118 (w1 : Int32) (w2 : Int32) (w3 : Int32) (w4 : Int32) (w5 : Int32) (h : mH) : Option (Int32 × mH) :=
  if w2 = 0 then
    if mIn w3 24 = true then
    if (h.1 49 0 w3.toNatClampNeg) = 1 then
      some ((-4), h)
    else
      if (h.1 49 0 w3.toNatClampNeg) = 3 then
        some ((-4), h)
      else
        f_X12_step_j142 w1 w2 w3 w4 w5 h
    else none
  else
    f_X12_step_j142 w1 w2 w3 w4 w5 h
def f_X12_step_j40 (w1 : Int32) (w2 : Int32) (w3 : Int32) (w4 : Int32) (w5 : Int32) (h : mH) : Option (Int32 × mH) :=
  if w2 = 3 then
    (f_X12_in w4 1 9 h).bind fun r37 =>
    if r37.1 = 0 then
      some ((-1), r37.2)
    else
      if w2 = 1 then
        (f_X12_in w5 0 20 r37.2).bind fun r41 =>
        if r41.1 = 0 then
          some ((-1), r41.2)
        else
          f_X12_step_j118 w1 w2 w3 w4 w5 r41.2
      else
        if w5 = 0 then
          f_X12_step_j118 w1 w2 w3 w4 w5 r37.2
        else
          some ((-1), r37.2)
  else
    if w2 = 2 then
      if w4 = 0 then
        if w2 = 1 then
          (f_X12_in w5 0 20 h).bind fun r35 =>
          if r35.1 = 0 then
            some ((-1), r35.2)
          else
            f_X12_step_j118 w1 w2 w3 w4 w5 r35.2
        else
          if w5 = 0 then
            f_X12_step_j118 w1 w2 w3 w4 w5 h
          else
            some ((-1), h)
      else
        some ((-1), h)
    else
      (f_X12_most w3 h).bind fun r10 =>
      (f_X12_in w4 0 r10.1 r10.2).bind fun r11 =>
      if r11.1 = 0 then
        some ((-1), r11.2)
      else
        if w2 = 1 then
          (f_X12_in w5 0 20 r11.2).bind fun r30 =>
          if r30.1 = 0 then
            some ((-1), r30.2)
          else
            f_X12_step_j118 w1 w2 w3 w4 w5 r30.2
        else
          if w5 = 0 then
            f_X12_step_j118 w1 w2 w3 w4 w5 r11.2
          else
            some ((-1), r11.2)
def f_X12_step (x1 : Int32) (x2 : Int32) (x3 : Int32) (x4 : Int32) (x5 : Int32) (h : mH) : Option (Int32 × mH) :=
  (f_X12_isAct x1 h).bind fun r1 =>
  if r1.1 = 0 then
    some ((-1), r1.2)
  else
    (f_X12_in x2 0 3 r1.2).bind fun r3 =>
    if r3.1 = 0 then
      some ((-1), r3.2)
    else
      if x2 = 3 then
        if x3 = (-1) then
          f_X12_step_j40 x1 x2 x3 x4 x5 r3.2
        else
          some ((-1), r3.2)
      else
        (f_X12_isField x3 r3.2).bind fun r6 =>
        if r6.1 = 0 then
          some ((-1), r6.2)
        else
          f_X12_step_j40 x1 x2 x3 x4 x5 r6.2
set_option maxRecDepth 20000 in
theorem sf_X12_step_j160 (G : mG) (X : mX) (w1 : Int32) (w2 : Int32) (w3 : Int32) (w4 : Int32) (w5 : Int32) (h : mH) : Sim G X cX12_step 8 RX12 (some .int) (mRoom 2 43) eI (f_X12_step_j160 w1 w2 w3 w4 w5 h) 160 [(0, .inr (.inr (12, 0))), (1, .inl w1), (2, .inl w2), (3, .inl w3), (4, .inl w4), (5, .inl w5)] [] h := by
  unfold f_X12_step_j160
  refine s_aload0 0 rfl dX12_step_160 ?_
  refine s_gr (gR_RX12_50 0) dX12_step_161 ?_
  refine s_iload1 1 rfl dX12_step_164 ?_
  refine s_chk (fun q17 => ?_)
  refine s_ial aT_58 q17 dX12_step_165 ?_
  refine s_bip 12 kb_12 dX12_step_166 ?_
  refine s_ic_ne (tgt := 174) dX12_step_168 (by decide) (fun q18 => ?_) (fun q18 => ?_)
  · skip
    refine s_bip 12 kb_12 dX12_step_174 ?_
    refine s_iload1 1 rfl dX12_step_176 ?_
    refine s_imul dX12_step_177 ?_
    refine s_aload0 0 rfl dX12_step_178 ?_
    refine s_gr (gR_RX12_50 0) dX12_step_179 ?_
    refine s_iload1 1 rfl dX12_step_182 ?_
    refine s_ial aT_58 q17 dX12_step_183 ?_
    refine s_iadd dX12_step_184 ?_
    refine s_istorew [(7, .inl ((12 * w1) + (h.1 58 0 w1.toNatClampNeg))), (0, .inr (.inr (12, 0))), (1, .inl w1), (2, .inl w2), (3, .inl w3), (4, .inl w4), (5, .inl w5)] rfl rfl dX12_step_185 ?_
    refine s_aload0 1 rfl dX12_step_187 ?_
    refine s_gr (gR_RX12_53 0) dX12_step_188 ?_
    refine s_iload 0 rfl dX12_step_191 ?_
    refine s_iload2 3 rfl dX12_step_193 ?_
    refine s_chk (fun q19 => ?_)
    refine s_ias aT_59 q19 dX12_step_194 ?_
    refine s_aload0 1 rfl dX12_step_195 ?_
    refine s_gr (gR_RX12_56 0) dX12_step_196 ?_
    refine s_iload 0 rfl dX12_step_199 ?_
    refine s_iload3 4 rfl dX12_step_201 ?_
    refine s_let (fun h20 => ?_)
    refine s_ias aT_60 q19 dX12_step_202 ?_
    refine s_aload0 1 rfl dX12_step_203 ?_
    refine s_gr (gR_RX12_59 0) dX12_step_204 ?_
    refine s_iload 0 rfl dX12_step_207 ?_
    refine s_iload 5 rfl dX12_step_209 ?_
    refine s_let (fun h21 => ?_)
    refine s_ias aT_61 q19 dX12_step_211 ?_
    refine s_aload0 1 rfl dX12_step_212 ?_
    refine s_gr (gR_RX12_62 0) dX12_step_213 ?_
    refine s_iload 0 rfl dX12_step_216 ?_
    refine s_iload 6 rfl dX12_step_218 ?_
    refine s_let (fun h22 => ?_)
    refine s_ias aT_62 q19 dX12_step_220 ?_
    refine s_aload0 1 rfl dX12_step_221 ?_
    refine s_gr (gR_RX12_50 0) dX12_step_222 ?_
    refine s_iload1 2 rfl dX12_step_225 ?_
    refine s_dup2 rfl rfl dX12_step_226 ?_
    refine s_let (fun h23 => ?_)
    refine s_ial aT_58 q17 dX12_step_227 ?_
    refine s_k1 dX12_step_228 ?_
    refine s_iadd dX12_step_229 ?_
    refine s_ias aT_58 q17 dX12_step_230 ?_
    refine s_aload0 1 rfl dX12_step_231 ?_
    refine s_gr (gR_RX12_50 0) dX12_step_232 ?_
    refine s_iload1 2 rfl dX12_step_235 ?_
    refine s_let (fun h24 => ?_)
    refine s_ial aT_58 q17 dX12_step_236 ?_
    exact s_ireturn rfl rfl dX12_step_237
  · skip
    refine s_bip (-3) kb_m3 dX12_step_171 ?_
    exact s_ireturn rfl rfl dX12_step_173
set_option maxRecDepth 20000 in
theorem sf_X12_step_j142 (G : mG) (X : mX) (w1 : Int32) (w2 : Int32) (w3 : Int32) (w4 : Int32) (w5 : Int32) (h : mH) : Sim G X cX12_step 8 RX12 (some .int) (mRoom 2 43) eI (f_X12_step_j142 w1 w2 w3 w4 w5 h) 142 [(0, .inr (.inr (12, 0))), (1, .inl w1), (2, .inl w2), (3, .inl w3), (4, .inl w4), (5, .inl w5)] [] h := by
  unfold f_X12_step_j142
  refine s_iload2 2 rfl dX12_step_142 ?_
  refine s_k1 dX12_step_143 ?_
  refine s_ic_ne (tgt := 160) dX12_step_144 (by decide) (fun q16 => ?_) (fun q16 => ?_)
  · skip
    exact s_loc [0, 1, 2, 3, 4, 5] rfl (sf_X12_step_j160 G X w1 w2 w3 w4 w5 h)
  · skip
    refine s_aload0 0 rfl dX12_step_147 ?_
    refine s_gr (gR_RX12_23 0) dX12_step_148 ?_
    refine s_iload3 3 rfl dX12_step_151 ?_
    refine s_chk (fun q25 => ?_)
    refine s_ial aT_49 q25 dX12_step_152 ?_
    refine s_k3 dX12_step_153 ?_
    refine s_ic_ne (tgt := 160) dX12_step_154 (by decide) (fun q26 => ?_) (fun q26 => ?_)
    · skip
      exact s_loc [0, 1, 2, 3, 4, 5] rfl (sf_X12_step_j160 G X w1 w2 w3 w4 w5 h)
    · skip
      refine s_bip (-4) kb_m4 dX12_step_157 ?_
      exact s_ireturn rfl rfl dX12_step_159
set_option maxRecDepth 20000 in
theorem sf_X12_step_j118 (G : mG) (X : mX) (w1 : Int32) (w2 : Int32) (w3 : Int32) (w4 : Int32) (w5 : Int32) (h : mH) : Sim G X cX12_step 8 RX12 (some .int) (mRoom 2 43) eI (f_X12_step_j118 w1 w2 w3 w4 w5 h) 118 [(0, .inr (.inr (12, 0))), (1, .inl w1), (2, .inl w2), (3, .inl w3), (4, .inl w4), (5, .inl w5)] [] h := by
  unfold f_X12_step_j118
  refine s_iload2 2 rfl dX12_step_118 ?_
  refine s_if_ne (tgt := 142) dX12_step_119 (by decide) (fun q15 => ?_) (fun q15 => ?_)
  · skip
    exact s_loc [0, 1, 2, 3, 4, 5] rfl (sf_X12_step_j142 G X w1 w2 w3 w4 w5 h)
  · skip
    refine s_aload0 0 rfl dX12_step_122 ?_
    refine s_gr (gR_RX12_23 0) dX12_step_123 ?_
    refine s_iload3 3 rfl dX12_step_126 ?_
    refine s_chk (fun q27 => ?_)
    refine s_ial aT_49 q27 dX12_step_127 ?_
    refine s_k1 dX12_step_128 ?_
    refine s_ic_eq (tgt := 157) dX12_step_129 (by decide) (fun q28 => ?_) (fun q28 => ?_)
    · skip
      refine s_bip (-4) kb_m4 dX12_step_157 ?_
      exact s_ireturn rfl rfl dX12_step_159
    · skip
      refine s_aload0 0 rfl dX12_step_132 ?_
      refine s_gr (gR_RX12_23 0) dX12_step_133 ?_
      refine s_iload3 3 rfl dX12_step_136 ?_
      refine s_ial aT_49 q27 dX12_step_137 ?_
      refine s_k3 dX12_step_138 ?_
      refine s_ic_eq (tgt := 157) dX12_step_139 (by decide) (fun q29 => ?_) (fun q29 => ?_)
      · skip
        refine s_bip (-4) kb_m4 dX12_step_157 ?_
        exact s_ireturn rfl rfl dX12_step_159
      · skip
        exact s_loc [0, 1, 2, 3, 4, 5] rfl (sf_X12_step_j142 G X w1 w2 w3 w4 w5 h)
set_option maxRecDepth 20000 in
theorem sf_X12_step_j40 (G : mG) (X : mX) (w1 : Int32) (w2 : Int32) (w3 : Int32) (w4 : Int32) (w5 : Int32) (h : mH) : Sim G X cX12_step 8 RX12 (some .int) (mRoom 2 43) eI (f_X12_step_j40 w1 w2 w3 w4 w5 h) 40 [(0, .inr (.inr (12, 0))), (1, .inl w1), (2, .inl w2), (3, .inl w3), (4, .inl w4), (5, .inl w5)] [] h := by
  unfold f_X12_step_j40
  refine s_iload2 2 rfl dX12_step_40 ?_
  refine s_k3 dX12_step_41 ?_
  refine s_ic_ne (tgt := 56) dX12_step_42 (by decide) (fun q8 => ?_) (fun q8 => ?_)
  · skip
    refine s_iload2 2 rfl dX12_step_56 ?_
    refine s_k2 dX12_step_57 ?_
    refine s_ic_ne (tgt := 74) dX12_step_58 (by decide) (fun q9 => ?_) (fun q9 => ?_)
    · skip
      refine s_iload 4 rfl dX12_step_74 ?_
      refine s_k0 dX12_step_76 ?_
      refine s_aload0 0 rfl dX12_step_77 ?_
      refine s_iload3 3 rfl dX12_step_78 ?_
      refine s_viI [.inl w3] (fun l b hb hl => cf_X12_most G l w3 h b hb hl) me_X12_most vi_RX12_191 rfl rfl rfl rfl rfl dX12_step_79 (fun r10 => ?_)
      refine s_siI [.inl w4, .inl 0, .inl r10.1] (fun l b hb hl => cf_X12_in G l w4 0 r10.1 r10.2 b hb hl) me_X12_in si_RX12_184 rfl rfl rfl rfl rfl dX12_step_82 (fun r11 => ?_)
      refine s_istorew [(6, .inl r11.1), (0, .inr (.inr (12, 0))), (1, .inl w1), (2, .inl w2), (3, .inl w3), (4, .inl w4), (5, .inl w5)] rfl rfl dX12_step_85 ?_
      refine s_iload 0 rfl dX12_step_87 ?_
      refine s_if_eq (tgt := 116) dX12_step_89 (by decide) (fun q12 => ?_) (fun q12 => ?_)
      · skip
        refine s_km1 dX12_step_116 ?_
        exact s_ireturn rfl rfl dX12_step_117
      · skip
        refine s_iload2 3 rfl dX12_step_92 ?_
        refine s_k1 dX12_step_93 ?_
        refine s_ic_ne (tgt := 111) dX12_step_94 (by decide) (fun q13 => ?_) (fun q13 => ?_)
        · skip
          refine s_iload 6 rfl dX12_step_111 ?_
          refine s_if_eq (tgt := 118) dX12_step_113 (by decide) (fun q14 => ?_) (fun q14 => ?_)
          · skip
            exact s_loc [1, 2, 3, 4, 5, 6] rfl (sf_X12_step_j118 G X w1 w2 w3 w4 w5 r11.2)
          · skip
            refine s_km1 dX12_step_116 ?_
            exact s_ireturn rfl rfl dX12_step_117
        · skip
          refine s_iload 6 rfl dX12_step_97 ?_
          refine s_k0 dX12_step_99 ?_
          refine s_bip 20 kb_20 dX12_step_100 ?_
          refine s_siI [.inl w5, .inl 0, .inl 20] (fun l b hb hl => cf_X12_in G l w5 0 20 r11.2 b hb hl) me_X12_in si_RX12_184 rfl rfl rfl rfl rfl dX12_step_102 (fun r30 => ?_)
          refine s_if_ne (tgt := 118) dX12_step_105 (by decide) (fun q31 => ?_) (fun q31 => ?_)
          · skip
            exact s_loc [1, 2, 3, 4, 5, 6] rfl (sf_X12_step_j118 G X w1 w2 w3 w4 w5 r30.2)
          · skip
            refine s_goto (tgt := 116) dX12_step_108 (by decide) ?_
            refine s_km1 dX12_step_116 ?_
            exact s_ireturn rfl rfl dX12_step_117
    · skip
      refine s_iload 4 rfl dX12_step_61 ?_
      refine s_if_ne (tgt := 70) dX12_step_63 (by decide) (fun q32 => ?_) (fun q32 => ?_)
      · skip
        refine s_k0 dX12_step_70 ?_
        refine s_goto (tgt := 85) dX12_step_71 (by decide) ?_
        refine s_istorew [(6, .inl 0), (0, .inr (.inr (12, 0))), (1, .inl w1), (2, .inl w2), (3, .inl w3), (4, .inl w4), (5, .inl w5)] rfl rfl dX12_step_85 ?_
        refine s_iload 0 rfl dX12_step_87 ?_
        refine s_if_eq_P (tgt := 116) (by decide) dX12_step_89 (by decide) ?_
        refine s_km1 dX12_step_116 ?_
        exact s_ireturn rfl rfl dX12_step_117
      · skip
        refine s_k1 dX12_step_66 ?_
        refine s_goto (tgt := 85) dX12_step_67 (by decide) ?_
        refine s_istorew [(6, .inl 1), (0, .inr (.inr (12, 0))), (1, .inl w1), (2, .inl w2), (3, .inl w3), (4, .inl w4), (5, .inl w5)] rfl rfl dX12_step_85 ?_
        refine s_iload 0 rfl dX12_step_87 ?_
        refine s_if_eq_N (tgt := 116) (by decide) dX12_step_89 (by decide) ?_
        refine s_iload2 3 rfl dX12_step_92 ?_
        refine s_k1 dX12_step_93 ?_
        refine s_ic_ne (tgt := 111) dX12_step_94 (by decide) (fun q33 => ?_) (fun q33 => ?_)
        · skip
          refine s_iload 6 rfl dX12_step_111 ?_
          refine s_if_eq (tgt := 118) dX12_step_113 (by decide) (fun q34 => ?_) (fun q34 => ?_)
          · skip
            exact s_loc [1, 2, 3, 4, 5, 6] rfl (sf_X12_step_j118 G X w1 w2 w3 w4 w5 h)
          · skip
            refine s_km1 dX12_step_116 ?_
            exact s_ireturn rfl rfl dX12_step_117
        · skip
          refine s_iload 6 rfl dX12_step_97 ?_
          refine s_k0 dX12_step_99 ?_
          refine s_bip 20 kb_20 dX12_step_100 ?_
          refine s_siI [.inl w5, .inl 0, .inl 20] (fun l b hb hl => cf_X12_in G l w5 0 20 h b hb hl) me_X12_in si_RX12_184 rfl rfl rfl rfl rfl dX12_step_102 (fun r35 => ?_)
          refine s_if_ne (tgt := 118) dX12_step_105 (by decide) (fun q36 => ?_) (fun q36 => ?_)
          · skip
            exact s_loc [1, 2, 3, 4, 5, 6] rfl (sf_X12_step_j118 G X w1 w2 w3 w4 w5 r35.2)
          · skip
            refine s_goto (tgt := 116) dX12_step_108 (by decide) ?_
            refine s_km1 dX12_step_116 ?_
            exact s_ireturn rfl rfl dX12_step_117
  · skip
    refine s_iload 4 rfl dX12_step_45 ?_
    refine s_k1 dX12_step_47 ?_
    refine s_bip 9 kb_9 dX12_step_48 ?_
    refine s_siI [.inl w4, .inl 1, .inl 9] (fun l b hb hl => cf_X12_in G l w4 1 9 h b hb hl) me_X12_in si_RX12_184 rfl rfl rfl rfl rfl dX12_step_50 (fun r37 => ?_)
    refine s_goto (tgt := 85) dX12_step_53 (by decide) ?_
    refine s_istorew [(6, .inl r37.1), (0, .inr (.inr (12, 0))), (1, .inl w1), (2, .inl w2), (3, .inl w3), (4, .inl w4), (5, .inl w5)] rfl rfl dX12_step_85 ?_
    refine s_iload 0 rfl dX12_step_87 ?_
    refine s_if_eq (tgt := 116) dX12_step_89 (by decide) (fun q38 => ?_) (fun q38 => ?_)
    · skip
      refine s_km1 dX12_step_116 ?_
      exact s_ireturn rfl rfl dX12_step_117
    · skip
      refine s_iload2 3 rfl dX12_step_92 ?_
      refine s_k1 dX12_step_93 ?_
      refine s_ic_ne (tgt := 111) dX12_step_94 (by decide) (fun q39 => ?_) (fun q39 => ?_)
      · skip
        refine s_iload 6 rfl dX12_step_111 ?_
        refine s_if_eq (tgt := 118) dX12_step_113 (by decide) (fun q40 => ?_) (fun q40 => ?_)
        · skip
          exact s_loc [1, 2, 3, 4, 5, 6] rfl (sf_X12_step_j118 G X w1 w2 w3 w4 w5 r37.2)
        · skip
          refine s_km1 dX12_step_116 ?_
          exact s_ireturn rfl rfl dX12_step_117
      · skip
        refine s_iload 6 rfl dX12_step_97 ?_
        refine s_k0 dX12_step_99 ?_
        refine s_bip 20 kb_20 dX12_step_100 ?_
        refine s_siI [.inl w5, .inl 0, .inl 20] (fun l b hb hl => cf_X12_in G l w5 0 20 r37.2 b hb hl) me_X12_in si_RX12_184 rfl rfl rfl rfl rfl dX12_step_102 (fun r41 => ?_)
        refine s_if_ne (tgt := 118) dX12_step_105 (by decide) (fun q42 => ?_) (fun q42 => ?_)
        · skip
          exact s_loc [1, 2, 3, 4, 5, 6] rfl (sf_X12_step_j118 G X w1 w2 w3 w4 w5 r41.2)
        · skip
          refine s_goto (tgt := 116) dX12_step_108 (by decide) ?_
          refine s_km1 dX12_step_116 ?_
          exact s_ireturn rfl rfl dX12_step_117
set_option maxRecDepth 20000 in
theorem sf_X12_step (G : mG) (X : mX) (x1 : Int32) (x2 : Int32) (x3 : Int32) (x4 : Int32) (x5 : Int32)  (h : mH) : Sim G X cX12_step 8 RX12 (some .int) (mRoom 2 43) eI (f_X12_step x1 x2 x3 x4 x5 h) 0 [(0, .inr (.inr (12, 0))), (1, .inl x1), (2, .inl x2), (3, .inl x3), (4, .inl x4), (5, .inl x5)] [] h := by
  unfold f_X12_step
  refine s_aload0 0 rfl dX12_step_0 ?_
  refine s_iload1 1 rfl dX12_step_1 ?_
  refine s_viI [.inl x1] (fun l b hb hl => cf_X12_isAct G l x1 h b hb hl) me_X12_isAct vi_RX12_241 rfl rfl rfl rfl rfl dX12_step_2 (fun r1 => ?_)
  refine s_if_eq (tgt := 38) dX12_step_5 (by decide) (fun q2 => ?_) (fun q2 => ?_)
  · skip
    refine s_km1 dX12_step_38 ?_
    exact s_ireturn rfl rfl dX12_step_39
  · skip
    refine s_iload2 2 rfl dX12_step_8 ?_
    refine s_k0 dX12_step_9 ?_
    refine s_k3 dX12_step_10 ?_
    refine s_siI [.inl x2, .inl 0, .inl 3] (fun l b hb hl => cf_X12_in G l x2 0 3 r1.2 b hb hl) me_X12_in si_RX12_184 rfl rfl rfl rfl rfl dX12_step_11 (fun r3 => ?_)
    refine s_if_eq (tgt := 38) dX12_step_14 (by decide) (fun q4 => ?_) (fun q4 => ?_)
    · skip
      refine s_km1 dX12_step_38 ?_
      exact s_ireturn rfl rfl dX12_step_39
    · skip
      refine s_iload2 2 rfl dX12_step_17 ?_
      refine s_k3 dX12_step_18 ?_
      refine s_ic_ne (tgt := 30) dX12_step_19 (by decide) (fun q5 => ?_) (fun q5 => ?_)
      · skip
        refine s_aload0 0 rfl dX12_step_30 ?_
        refine s_iload3 3 rfl dX12_step_31 ?_
        refine s_viI [.inl x3] (fun l b hb hl => cf_X12_isField G l x3 r3.2 b hb hl) me_X12_isField vi_RX12_238 rfl rfl rfl rfl rfl dX12_step_32 (fun r6 => ?_)
        refine s_if_ne (tgt := 40) dX12_step_35 (by decide) (fun q7 => ?_) (fun q7 => ?_)
        · skip
          exact s_loc [0, 1, 2, 3, 4, 5] rfl (sf_X12_step_j40 G X x1 x2 x3 x4 x5 r6.2)
        · skip
          refine s_km1 dX12_step_38 ?_
          exact s_ireturn rfl rfl dX12_step_39
      · skip
        refine s_iload3 3 rfl dX12_step_22 ?_
        refine s_km1 dX12_step_23 ?_
        refine s_ic_eq (tgt := 40) dX12_step_24 (by decide) (fun q43 => ?_) (fun q43 => ?_)
        · skip
          exact s_loc [0, 1, 2, 3, 4, 5] rfl (sf_X12_step_j40 G X x1 x2 x3 x4 x5 r3.2)
        · skip
          refine s_goto (tgt := 38) dX12_step_27 (by decide) ?_
          refine s_km1 dX12_step_38 ?_
          exact s_ireturn rfl rfl dX12_step_39
set_option maxRecDepth 20000 in
theorem cf_X12_step (G : mG) (l : Launch) (x1 : Int32) (x2 : Int32) (x3 : Int32) (x4 : Int32) (x5 : Int32)  (h : mH) (b : Int32 × mH) (hb : f_X12_step x1 x2 x3 x4 x5 h = some b) (hl : ∀ v ∈ ([.inr (.inr (12, 0)), .inl x1, .inl x2, .inl x3, .inl x4, .inl x5] : List mV), mLi v) : mMet G l yX12_step cX12_step 8 (some .int) (mRoom 2 43) [.inr (.inr (12, 0)), .inl x1, .inl x2, .inl x3, .inl x4, .inl x5] h (eI b) :=
  mMet.of (y := yX12_step) (as := [.inr (.inr (12, 0)), .inl x1, .inl x2, .inl x3, .inl x4, .inl x5]) (by decide +kernel) (Nat.le_of_ble_eq_true rfl) (fun X => sf_X12_step G X x1 x2 x3 x4 x5  h) hl b hb
-- DriverBookModel.bare(I)I
def f_X12_bare (x1 : Int32) (h : mH) : Option (Int32 × mH) :=
  (f_X12_isAct x1 h).bind fun r1 =>
  if r1.1 = 0 then
    some ((-1), r1.2)
  else
    if mIn x1 6 = true then
    some (r1.2.1 58 0 x1.toNatClampNeg, uI r1.2 58 0 x1.toNatClampNeg 0)
    else none
set_option maxRecDepth 20000 in
theorem sf_X12_bare (G : mG) (X : mX) (x1 : Int32)  (h : mH) : Sim G X cX12_bare 3 RX12 (some .int) (mRoom 2 43) eI (f_X12_bare x1 h) 0 [(0, .inr (.inr (12, 0))), (1, .inl x1)] [] h := by
  unfold f_X12_bare
  refine s_aload0 0 rfl dX12_bare_0 ?_
  refine s_iload1 1 rfl dX12_bare_1 ?_
  refine s_viI [.inl x1] (fun l b hb hl => cf_X12_isAct G l x1 h b hb hl) me_X12_isAct vi_RX12_241 rfl rfl rfl rfl rfl dX12_bare_2 (fun r1 => ?_)
  refine s_if_ne (tgt := 10) dX12_bare_5 (by decide) (fun q2 => ?_) (fun q2 => ?_)
  · skip
    refine s_aload0 0 rfl dX12_bare_10 ?_
    refine s_gr (gR_RX12_50 0) dX12_bare_11 ?_
    refine s_iload1 1 rfl dX12_bare_14 ?_
    refine s_chk (fun q3 => ?_)
    refine s_ial aT_58 q3 dX12_bare_15 ?_
    refine s_istore2 [(2, .inl (r1.2.1 58 0 x1.toNatClampNeg)), (0, .inr (.inr (12, 0))), (1, .inl x1)] rfl rfl dX12_bare_16 ?_
    refine s_aload0 1 rfl dX12_bare_17 ?_
    refine s_gr (gR_RX12_50 0) dX12_bare_18 ?_
    refine s_iload1 2 rfl dX12_bare_21 ?_
    refine s_k0 dX12_bare_22 ?_
    refine s_ias aT_58 q3 dX12_bare_23 ?_
    refine s_iload2 0 rfl dX12_bare_24 ?_
    exact s_ireturn rfl rfl dX12_bare_25
  · skip
    refine s_km1 dX12_bare_8 ?_
    exact s_ireturn rfl rfl dX12_bare_9
set_option maxRecDepth 20000 in
theorem cf_X12_bare (G : mG) (l : Launch) (x1 : Int32)  (h : mH) (b : Int32 × mH) (hb : f_X12_bare x1 h = some b) (hl : ∀ v ∈ ([.inr (.inr (12, 0)), .inl x1] : List mV), mLi v) : mMet G l yX12_bare cX12_bare 3 (some .int) (mRoom 2 43) [.inr (.inr (12, 0)), .inl x1] h (eI b) :=
  mMet.of (y := yX12_bare) (as := [.inr (.inr (12, 0)), .inl x1]) (by decide +kernel) (Nat.le_of_ble_eq_true rfl) (fun X => sf_X12_bare G X x1  h) hl b hb
-- DriverBookModel.handler(II)I
def f_X12_handler (x1 : Int32) (x2 : Int32) (h : mH) : Option (Int32 × mH) :=
  (f_X12_isField x1 h).bind fun r1 =>
  if r1.1 = 0 then
    some ((-1), r1.2)
  else
    if x2 = (-1) then
      if mIn x1 24 = true then
      if (r1.2.1 49 0 x1.toNatClampNeg) = 2 then
        some (r1.2.1 53 0 x1.toNatClampNeg, uI r1.2 53 0 x1.toNatClampNeg x2)
      else
        some ((-4), r1.2)
      else none
    else
      (f_X12_isAct x2 r1.2).bind fun r6 =>
      if r6.1 = 0 then
        some ((-1), r6.2)
      else
        if mIn x1 24 = true then
        if (r6.2.1 49 0 x1.toNatClampNeg) = 2 then
          some (r6.2.1 53 0 x1.toNatClampNeg, uI r6.2 53 0 x1.toNatClampNeg x2)
        else
          some ((-4), r6.2)
        else none
set_option maxRecDepth 20000 in
theorem sf_X12_handler (G : mG) (X : mX) (x1 : Int32) (x2 : Int32)  (h : mH) : Sim G X cX12_handler 4 RX12 (some .int) (mRoom 2 43) eI (f_X12_handler x1 x2 h) 0 [(0, .inr (.inr (12, 0))), (1, .inl x1), (2, .inl x2)] [] h := by
  unfold f_X12_handler
  refine s_aload0 0 rfl dX12_handler_0 ?_
  refine s_iload1 1 rfl dX12_handler_1 ?_
  refine s_viI [.inl x1] (fun l b hb hl => cf_X12_isField G l x1 h b hb hl) me_X12_isField vi_RX12_238 rfl rfl rfl rfl rfl dX12_handler_2 (fun r1 => ?_)
  refine s_if_eq (tgt := 21) dX12_handler_5 (by decide) (fun q2 => ?_) (fun q2 => ?_)
  · skip
    refine s_km1 dX12_handler_21 ?_
    exact s_ireturn rfl rfl dX12_handler_22
  · skip
    refine s_iload2 2 rfl dX12_handler_8 ?_
    refine s_km1 dX12_handler_9 ?_
    refine s_ic_eq (tgt := 23) dX12_handler_10 (by decide) (fun q3 => ?_) (fun q3 => ?_)
    · skip
      refine s_aload0 0 rfl dX12_handler_23 ?_
      refine s_gr (gR_RX12_23 0) dX12_handler_24 ?_
      refine s_iload1 1 rfl dX12_handler_27 ?_
      refine s_chk (fun q4 => ?_)
      refine s_ial aT_49 q4 dX12_handler_28 ?_
      refine s_k2 dX12_handler_29 ?_
      refine s_ic_eq (tgt := 36) dX12_handler_30 (by decide) (fun q5 => ?_) (fun q5 => ?_)
      · skip
        refine s_aload0 0 rfl dX12_handler_36 ?_
        refine s_gr (gR_RX12_35 0) dX12_handler_37 ?_
        refine s_iload1 1 rfl dX12_handler_40 ?_
        refine s_ial aT_53 q4 dX12_handler_41 ?_
        refine s_istore3 [(3, .inl (r1.2.1 53 0 x1.toNatClampNeg)), (0, .inr (.inr (12, 0))), (1, .inl x1), (2, .inl x2)] rfl rfl dX12_handler_42 ?_
        refine s_aload0 1 rfl dX12_handler_43 ?_
        refine s_gr (gR_RX12_35 0) dX12_handler_44 ?_
        refine s_iload1 2 rfl dX12_handler_47 ?_
        refine s_iload2 3 rfl dX12_handler_48 ?_
        refine s_ias aT_53 q4 dX12_handler_49 ?_
        refine s_iload3 0 rfl dX12_handler_50 ?_
        exact s_ireturn rfl rfl dX12_handler_51
      · skip
        refine s_bip (-4) kb_m4 dX12_handler_33 ?_
        exact s_ireturn rfl rfl dX12_handler_35
    · skip
      refine s_aload0 0 rfl dX12_handler_13 ?_
      refine s_iload2 2 rfl dX12_handler_14 ?_
      refine s_viI [.inl x2] (fun l b hb hl => cf_X12_isAct G l x2 r1.2 b hb hl) me_X12_isAct vi_RX12_241 rfl rfl rfl rfl rfl dX12_handler_15 (fun r6 => ?_)
      refine s_if_ne (tgt := 23) dX12_handler_18 (by decide) (fun q7 => ?_) (fun q7 => ?_)
      · skip
        refine s_aload0 0 rfl dX12_handler_23 ?_
        refine s_gr (gR_RX12_23 0) dX12_handler_24 ?_
        refine s_iload1 1 rfl dX12_handler_27 ?_
        refine s_chk (fun q8 => ?_)
        refine s_ial aT_49 q8 dX12_handler_28 ?_
        refine s_k2 dX12_handler_29 ?_
        refine s_ic_eq (tgt := 36) dX12_handler_30 (by decide) (fun q9 => ?_) (fun q9 => ?_)
        · skip
          refine s_aload0 0 rfl dX12_handler_36 ?_
          refine s_gr (gR_RX12_35 0) dX12_handler_37 ?_
          refine s_iload1 1 rfl dX12_handler_40 ?_
          refine s_ial aT_53 q8 dX12_handler_41 ?_
          refine s_istore3 [(3, .inl (r6.2.1 53 0 x1.toNatClampNeg)), (0, .inr (.inr (12, 0))), (1, .inl x1), (2, .inl x2)] rfl rfl dX12_handler_42 ?_
          refine s_aload0 1 rfl dX12_handler_43 ?_
          refine s_gr (gR_RX12_35 0) dX12_handler_44 ?_
          refine s_iload1 2 rfl dX12_handler_47 ?_
          refine s_iload2 3 rfl dX12_handler_48 ?_
          refine s_ias aT_53 q8 dX12_handler_49 ?_
          refine s_iload3 0 rfl dX12_handler_50 ?_
          exact s_ireturn rfl rfl dX12_handler_51
        · skip
          refine s_bip (-4) kb_m4 dX12_handler_33 ?_
          exact s_ireturn rfl rfl dX12_handler_35
      · skip
        refine s_km1 dX12_handler_21 ?_
        exact s_ireturn rfl rfl dX12_handler_22
set_option maxRecDepth 20000 in
theorem cf_X12_handler (G : mG) (l : Launch) (x1 : Int32) (x2 : Int32)  (h : mH) (b : Int32 × mH) (hb : f_X12_handler x1 x2 h = some b) (hl : ∀ v ∈ ([.inr (.inr (12, 0)), .inl x1, .inl x2] : List mV), mLi v) : mMet G l yX12_handler cX12_handler 4 (some .int) (mRoom 2 43) [.inr (.inr (12, 0)), .inl x1, .inl x2] h (eI b) :=
  mMet.of (y := yX12_handler) (as := [.inr (.inr (12, 0)), .inl x1, .inl x2]) (by decide +kernel) (Nat.le_of_ble_eq_true rfl) (fun X => sf_X12_handler G X x1 x2  h) hl b hb
-- DriverBookModel.locks(I)I
def f_X12_locks (x1 : Int32) (h : mH) : Option (Int32 × mH) :=
  (f_X12_in x1 0 1 h).bind fun r1 =>
  if r1.1 = 0 then
    some ((-1), r1.2)
  else
    some (r1.2.1 12 0 22, uI r1.2 12 0 22 x1)
set_option maxRecDepth 20000 in
theorem sf_X12_locks (G : mG) (X : mX) (x1 : Int32)  (h : mH) : Sim G X cX12_locks 3 RX12 (some .int) (mRoom 1 22) eI (f_X12_locks x1 h) 0 [(0, .inr (.inr (12, 0))), (1, .inl x1)] [] h := by
  unfold f_X12_locks
  refine s_iload1 1 rfl dX12_locks_0 ?_
  refine s_k0 dX12_locks_1 ?_
  refine s_k1 dX12_locks_2 ?_
  refine s_siI [.inl x1, .inl 0, .inl 1] (fun l b hb hl => cf_X12_in G l x1 0 1 h b hb hl) me_X12_in si_RX12_184 rfl rfl rfl rfl rfl dX12_locks_3 (fun r1 => ?_)
  refine s_if_ne (tgt := 11) dX12_locks_6 (by decide) (fun q2 => ?_) (fun q2 => ?_)
  · skip
    refine s_aload0 0 rfl dX12_locks_11 ?_
    refine s_gi gI_RX12_65 dX12_locks_12 ?_
    refine s_istore2 [(2, .inl (r1.2.1 12 0 22)), (0, .inr (.inr (12, 0))), (1, .inl x1)] rfl rfl dX12_locks_15 ?_
    refine s_aload0 1 rfl dX12_locks_16 ?_
    refine s_iload1 2 rfl dX12_locks_17 ?_
    refine s_pi pI_RX12_65 dX12_locks_18 ?_
    refine s_iload2 0 rfl dX12_locks_21 ?_
    exact s_ireturn rfl rfl dX12_locks_22
  · skip
    refine s_km1 dX12_locks_9 ?_
    exact s_ireturn rfl rfl dX12_locks_10
set_option maxRecDepth 20000 in
theorem cf_X12_locks (G : mG) (l : Launch) (x1 : Int32)  (h : mH) (b : Int32 × mH) (hb : f_X12_locks x1 h = some b) (hl : ∀ v ∈ ([.inr (.inr (12, 0)), .inl x1] : List mV), mLi v) : mMet G l yX12_locks cX12_locks 3 (some .int) (mRoom 1 22) [.inr (.inr (12, 0)), .inl x1] h (eI b) :=
  mMet.of (y := yX12_locks) (as := [.inr (.inr (12, 0)), .inl x1]) (by decide +kernel) (Nat.le_of_ble_eq_true rfl) (fun X => sf_X12_locks G X x1  h) hl b hb
-- DriverBookModel.ticks()V
def f_X12_ticks_12 (k : Int32 → mH → Option (mH))  : Nat → Int32 → mH → Option (mH)
  | 0, _, _ => none
  | n + 1, v1, h =>
    if v1 < (h.1 12 0 2) then
      if mIn v1 24 = true then
      if (h.1 49 0 v1.toNatClampNeg) = 4 then
        if (h.1 65 0 v1.toNatClampNeg) ≤ 0 then
          f_X12_ticks_12 k  n (v1 + 1) h
        else
          mLet (uI h 65 0 v1.toNatClampNeg ((h.1 65 0 v1.toNatClampNeg) - 1)) fun h5 =>
          if (h5.1 65 0 v1.toNatClampNeg) = 0 then
            mLet (uI h5 63 0 v1.toNatClampNeg 0) fun h7 =>
            if (h7.1 52 0 v1.toNatClampNeg) = (-1) then
              f_X12_ticks_12 k  n (v1 + 1) h7
            else
              (f_X12_most (h7.1 52 0 v1.toNatClampNeg) h7).bind fun r9 =>
              if mIn (h7.1 52 0 v1.toNatClampNeg) 24 = true then
              f_X12_ticks_12 k  n (v1 + 1) (uI r9.2 63 0 (h7.1 52 0 v1.toNatClampNeg).toNatClampNeg r9.1)
              else none
          else
            f_X12_ticks_12 k  n (v1 + 1) h5
      else
        f_X12_ticks_12 k  n (v1 + 1) h
      else none
    else
      k v1 h
def f_X12_ticks_106 (k : Int32 → Int32 → mH → Option (mH))  : Nat → Int32 → Int32 → mH → Option (mH)
  | 0, _, _, _ => none
  | n + 1, v1, v2, h =>
    if v2 < (h.1 12 0 30) then
      if mIn v2 17 = true then
      if (h.1 71 0 v2.toNatClampNeg) = (h.1 12 0 23) then
        if mIn (h.1 69 0 v2.toNatClampNeg) 24 = true then
        if (h.1 49 0 (h.1 69 0 v2.toNatClampNeg).toNatClampNeg) = 1 then
          f_X12_ticks_106 k  n v1 (v2 + 1) (uI h 63 0 (h.1 69 0 v2.toNatClampNeg).toNatClampNeg (h.1 70 0 v2.toNatClampNeg))
        else
          f_X12_ticks_106 k  n v1 (v2 + 1) (uI h 63 0 (h.1 69 0 v2.toNatClampNeg).toNatClampNeg ((h.1 63 0 (h.1 69 0 v2.toNatClampNeg).toNatClampNeg) ||| (h.1 70 0 v2.toNatClampNeg)))
        else none
      else
        if mIn v1 17 = true then
        mLet (uI h 69 0 v1.toNatClampNeg (h.1 69 0 v2.toNatClampNeg)) fun h17 =>
        mLet (uI h17 70 0 v1.toNatClampNeg (h17.1 70 0 v2.toNatClampNeg)) fun h18 =>
        f_X12_ticks_106 k  n (v1 + 1) (v2 + 1) (uI h18 71 0 v1.toNatClampNeg (h18.1 71 0 v2.toNatClampNeg))
        else none
      else none
    else
      k v1 v2 h
def f_X12_ticks  (h : mH) : Option (mH) :=
  f_X12_ticks_12 (fun u11 h12 =>
    f_X12_ticks_106 (fun u21 u22 h23 =>
      some (uI h23 12 0 30 u21))  mFu 0 0 h12)  mFu 0 (uI h 12 0 23 ((h.1 12 0 23) + 1))
set_option maxRecDepth 20000 in
theorem sf_X12_ticks_12 (G : mG) (X : mX)   (k : Int32 → mH → Option (mH)) (hk : ∀ (v1 : Int32) (h : mH), Sim G X cX12_ticks 4 RX12 none (mRoom 1 21) eV (k v1 h) 102 [(0, .inr (.inr (12, 0))), (1, .inl v1)] [] h) (n : Nat) : ∀ (v1 : Int32) (h : mH), Sim G X cX12_ticks 4 RX12 none (mRoom 1 21) eV (f_X12_ticks_12 k  n v1 h) 12 [(0, .inr (.inr (12, 0))), (1, .inl v1)] [] h := by
  induction n with
  | zero =>
    intro v1 h
    exact s_none
  | succ n ih =>
    intro v1 h
    unfold f_X12_ticks_12
    refine s_iload1 1 rfl dX12_ticks_12 ?_
    refine s_aload0 0 rfl dX12_ticks_13 ?_
    refine s_gi gI_RX12_181 dX12_ticks_14 ?_
    refine s_ic_ge (tgt := 102) dX12_ticks_17 (by decide) (fun q1 => ?_) (fun q1 => ?_)
    · skip
      exact s_loc [0, 1] rfl (hk v1 h)
    · skip
      refine s_aload0 0 rfl dX12_ticks_20 ?_
      refine s_gr (gR_RX12_23 0) dX12_ticks_21 ?_
      refine s_iload1 1 rfl dX12_ticks_24 ?_
      refine s_chk (fun q2 => ?_)
      refine s_ial aT_49 q2 dX12_ticks_25 ?_
      refine s_k4 dX12_ticks_26 ?_
      refine s_ic_ne (tgt := 96) dX12_ticks_27 (by decide) (fun q3 => ?_) (fun q3 => ?_)
      · skip
        refine s_iincw 1 (by decide) 1 [(1, .inl (v1 + 1)), (0, .inr (.inr (12, 0)))] rfl rfl rfl dX12_ticks_96 ?_
        refine s_goto (tgt := 12) dX12_ticks_99 (by decide) ?_
        exact s_loc [1, 0] rfl (ih (v1 + 1) h)
      · skip
        refine s_aload0 0 rfl dX12_ticks_30 ?_
        refine s_gr (gR_RX12_74 0) dX12_ticks_31 ?_
        refine s_iload1 1 rfl dX12_ticks_34 ?_
        refine s_ial aT_65 q2 dX12_ticks_35 ?_
        refine s_if_le (tgt := 96) dX12_ticks_36 (by decide) (fun q4 => ?_) (fun q4 => ?_)
        · skip
          refine s_iincw 1 (by decide) 1 [(1, .inl (v1 + 1)), (0, .inr (.inr (12, 0)))] rfl rfl rfl dX12_ticks_96 ?_
          refine s_goto (tgt := 12) dX12_ticks_99 (by decide) ?_
          exact s_loc [1, 0] rfl (ih (v1 + 1) h)
        · skip
          refine s_aload0 0 rfl dX12_ticks_39 ?_
          refine s_gr (gR_RX12_74 0) dX12_ticks_40 ?_
          refine s_iload1 1 rfl dX12_ticks_43 ?_
          refine s_dup2 rfl rfl dX12_ticks_44 ?_
          refine s_ial aT_65 q2 dX12_ticks_45 ?_
          refine s_k1 dX12_ticks_46 ?_
          refine s_isub dX12_ticks_47 ?_
          refine s_ias aT_65 q2 dX12_ticks_48 ?_
          refine s_aload0 0 rfl dX12_ticks_49 ?_
          refine s_gr (gR_RX12_74 0) dX12_ticks_50 ?_
          refine s_iload1 1 rfl dX12_ticks_53 ?_
          refine s_let (fun h5 => ?_)
          refine s_ial aT_65 q2 dX12_ticks_54 ?_
          refine s_if_ne (tgt := 96) dX12_ticks_55 (by decide) (fun q6 => ?_) (fun q6 => ?_)
          · skip
            refine s_iincw 1 (by decide) 1 [(1, .inl (v1 + 1)), (0, .inr (.inr (12, 0)))] rfl rfl rfl dX12_ticks_96 ?_
            refine s_goto (tgt := 12) dX12_ticks_99 (by decide) ?_
            exact s_loc [1, 0] rfl (ih (v1 + 1) h5)
          · skip
            refine s_aload0 0 rfl dX12_ticks_58 ?_
            refine s_gr (gR_RX12_68 0) dX12_ticks_59 ?_
            refine s_iload1 1 rfl dX12_ticks_62 ?_
            refine s_k0 dX12_ticks_63 ?_
            refine s_ias aT_63 q2 dX12_ticks_64 ?_
            refine s_aload0 0 rfl dX12_ticks_65 ?_
            refine s_gr (gR_RX12_32 0) dX12_ticks_66 ?_
            refine s_iload1 1 rfl dX12_ticks_69 ?_
            refine s_let (fun h7 => ?_)
            refine s_ial aT_52 q2 dX12_ticks_70 ?_
            refine s_km1 dX12_ticks_71 ?_
            refine s_ic_eq (tgt := 96) dX12_ticks_72 (by decide) (fun q8 => ?_) (fun q8 => ?_)
            · skip
              refine s_iincw 1 (by decide) 1 [(1, .inl (v1 + 1)), (0, .inr (.inr (12, 0)))] rfl rfl rfl dX12_ticks_96 ?_
              refine s_goto (tgt := 12) dX12_ticks_99 (by decide) ?_
              exact s_loc [1, 0] rfl (ih (v1 + 1) h7)
            · skip
              refine s_aload0 0 rfl dX12_ticks_75 ?_
              refine s_gr (gR_RX12_68 0) dX12_ticks_76 ?_
              refine s_aload0 0 rfl dX12_ticks_79 ?_
              refine s_gr (gR_RX12_32 0) dX12_ticks_80 ?_
              refine s_iload1 1 rfl dX12_ticks_83 ?_
              refine s_ial aT_52 q2 dX12_ticks_84 ?_
              refine s_aload0 0 rfl dX12_ticks_85 ?_
              refine s_aload0 0 rfl dX12_ticks_86 ?_
              refine s_gr (gR_RX12_32 0) dX12_ticks_87 ?_
              refine s_iload1 1 rfl dX12_ticks_90 ?_
              refine s_ial aT_52 q2 dX12_ticks_91 ?_
              refine s_viI [.inl (h7.1 52 0 v1.toNatClampNeg)] (fun l b hb hl => cf_X12_most G l (h7.1 52 0 v1.toNatClampNeg) h7 b hb hl) me_X12_most vi_RX12_191 rfl rfl rfl rfl rfl dX12_ticks_92 (fun r9 => ?_)
              refine s_chk (fun q10 => ?_)
              refine s_ias aT_63 q10 dX12_ticks_95 ?_
              refine s_iincw 1 (by decide) 1 [(1, .inl (v1 + 1)), (0, .inr (.inr (12, 0)))] rfl rfl rfl dX12_ticks_96 ?_
              refine s_goto (tgt := 12) dX12_ticks_99 (by decide) ?_
              exact s_loc [1, 0] rfl (ih (v1 + 1) (uI r9.2 63 0 (h7.1 52 0 v1.toNatClampNeg).toNatClampNeg r9.1))
set_option maxRecDepth 20000 in
theorem sf_X12_ticks_106 (G : mG) (X : mX)   (k : Int32 → Int32 → mH → Option (mH)) (hk : ∀ (v1 : Int32) (v2 : Int32) (h : mH), Sim G X cX12_ticks 4 RX12 none (mRoom 1 21) eV (k v1 v2 h) 215 [(0, .inr (.inr (12, 0))), (1, .inl v1), (2, .inl v2)] [] h) (n : Nat) : ∀ (v1 : Int32) (v2 : Int32) (h : mH), Sim G X cX12_ticks 4 RX12 none (mRoom 1 21) eV (f_X12_ticks_106 k  n v1 v2 h) 106 [(0, .inr (.inr (12, 0))), (1, .inl v1), (2, .inl v2)] [] h := by
  induction n with
  | zero =>
    intro v1 v2 h
    exact s_none
  | succ n ih =>
    intro v1 v2 h
    unfold f_X12_ticks_106
    refine s_iload2 2 rfl dX12_ticks_106 ?_
    refine s_aload0 0 rfl dX12_ticks_107 ?_
    refine s_gi gI_RX12_201 dX12_ticks_108 ?_
    refine s_ic_ge (tgt := 215) dX12_ticks_111 (by decide) (fun q13 => ?_) (fun q13 => ?_)
    · skip
      exact s_loc [0, 1, 2] rfl (hk v1 v2 h)
    · skip
      refine s_aload0 0 rfl dX12_ticks_114 ?_
      refine s_gr (gR_RX12_86 0) dX12_ticks_115 ?_
      refine s_iload2 2 rfl dX12_ticks_118 ?_
      refine s_chk (fun q14 => ?_)
      refine s_ial aT_69 q14 dX12_ticks_119 ?_
      refine s_istore3 [(3, .inl (h.1 69 0 v2.toNatClampNeg)), (0, .inr (.inr (12, 0))), (1, .inl v1), (2, .inl v2)] rfl rfl dX12_ticks_120 ?_
      refine s_aload0 1 rfl dX12_ticks_121 ?_
      refine s_gr (gR_RX12_92 0) dX12_ticks_122 ?_
      refine s_iload2 3 rfl dX12_ticks_125 ?_
      refine s_ial aT_71 q14 dX12_ticks_126 ?_
      refine s_aload0 1 rfl dX12_ticks_127 ?_
      refine s_gi gI_RX12_198 dX12_ticks_128 ?_
      refine s_ic_ne (tgt := 175) dX12_ticks_131 (by decide) (fun q15 => ?_) (fun q15 => ?_)
      · skip
        refine s_aload0 1 rfl dX12_ticks_175 ?_
        refine s_gr (gR_RX12_86 0) dX12_ticks_176 ?_
        refine s_iload1 2 rfl dX12_ticks_179 ?_
        refine s_iload3 0 rfl dX12_ticks_180 ?_
        refine s_chk (fun q16 => ?_)
        refine s_ias aT_69 q16 dX12_ticks_181 ?_
        refine s_aload0 1 rfl dX12_ticks_182 ?_
        refine s_gr (gR_RX12_89 0) dX12_ticks_183 ?_
        refine s_iload1 2 rfl dX12_ticks_186 ?_
        refine s_aload0 1 rfl dX12_ticks_187 ?_
        refine s_gr (gR_RX12_89 0) dX12_ticks_188 ?_
        refine s_iload2 3 rfl dX12_ticks_191 ?_
        refine s_let (fun h17 => ?_)
        refine s_ial aT_70 q14 dX12_ticks_192 ?_
        refine s_ias aT_70 q16 dX12_ticks_193 ?_
        refine s_aload0 1 rfl dX12_ticks_194 ?_
        refine s_gr (gR_RX12_92 0) dX12_ticks_195 ?_
        refine s_iload1 2 rfl dX12_ticks_198 ?_
        refine s_aload0 1 rfl dX12_ticks_199 ?_
        refine s_gr (gR_RX12_92 0) dX12_ticks_200 ?_
        refine s_iload2 3 rfl dX12_ticks_203 ?_
        refine s_let (fun h18 => ?_)
        refine s_ial aT_71 q14 dX12_ticks_204 ?_
        refine s_ias aT_71 q16 dX12_ticks_205 ?_
        refine s_iincw 1 (by decide) 2 [(1, .inl (v1 + 1)), (3, .inl (h.1 69 0 v2.toNatClampNeg)), (0, .inr (.inr (12, 0))), (2, .inl v2)] rfl rfl rfl dX12_ticks_206 ?_
        refine s_iincw 1 (by decide) 3 [(2, .inl (v2 + 1)), (1, .inl (v1 + 1)), (3, .inl (h.1 69 0 v2.toNatClampNeg)), (0, .inr (.inr (12, 0)))] rfl rfl rfl dX12_ticks_209 ?_
        refine s_goto (tgt := 106) dX12_ticks_212 (by decide) ?_
        exact s_loc [3, 1, 0] rfl (ih (v1 + 1) (v2 + 1) (uI h18 71 0 v1.toNatClampNeg (h18.1 71 0 v2.toNatClampNeg)))
      · skip
        refine s_aload0 1 rfl dX12_ticks_134 ?_
        refine s_gr (gR_RX12_68 0) dX12_ticks_135 ?_
        refine s_iload3 0 rfl dX12_ticks_138 ?_
        refine s_aload0 1 rfl dX12_ticks_139 ?_
        refine s_gr (gR_RX12_23 0) dX12_ticks_140 ?_
        refine s_iload3 0 rfl dX12_ticks_143 ?_
        refine s_chk (fun q19 => ?_)
        refine s_ial aT_49 q19 dX12_ticks_144 ?_
        refine s_k1 dX12_ticks_145 ?_
        refine s_ic_ne (tgt := 158) dX12_ticks_146 (by decide) (fun q20 => ?_) (fun q20 => ?_)
        · skip
          refine s_aload0 1 rfl dX12_ticks_158 ?_
          refine s_gr (gR_RX12_68 0) dX12_ticks_159 ?_
          refine s_iload3 0 rfl dX12_ticks_162 ?_
          refine s_ial aT_63 q19 dX12_ticks_163 ?_
          refine s_aload0 1 rfl dX12_ticks_164 ?_
          refine s_gr (gR_RX12_89 0) dX12_ticks_165 ?_
          refine s_iload2 3 rfl dX12_ticks_168 ?_
          refine s_ial aT_70 q14 dX12_ticks_169 ?_
          refine s_ior dX12_ticks_170 ?_
          refine s_ias aT_63 q19 dX12_ticks_171 ?_
          refine s_goto (tgt := 209) dX12_ticks_172 (by decide) ?_
          refine s_iincw 1 (by decide) 3 [(2, .inl (v2 + 1)), (3, .inl (h.1 69 0 v2.toNatClampNeg)), (0, .inr (.inr (12, 0))), (1, .inl v1)] rfl rfl rfl dX12_ticks_209 ?_
          refine s_goto (tgt := 106) dX12_ticks_212 (by decide) ?_
          exact s_loc [2, 3, 0] rfl (ih v1 (v2 + 1) (uI h 63 0 (h.1 69 0 v2.toNatClampNeg).toNatClampNeg ((h.1 63 0 (h.1 69 0 v2.toNatClampNeg).toNatClampNeg) ||| (h.1 70 0 v2.toNatClampNeg))))
        · skip
          refine s_aload0 1 rfl dX12_ticks_149 ?_
          refine s_gr (gR_RX12_89 0) dX12_ticks_150 ?_
          refine s_iload2 3 rfl dX12_ticks_153 ?_
          refine s_ial aT_70 q14 dX12_ticks_154 ?_
          refine s_goto (tgt := 171) dX12_ticks_155 (by decide) ?_
          refine s_ias aT_63 q19 dX12_ticks_171 ?_
          refine s_goto (tgt := 209) dX12_ticks_172 (by decide) ?_
          refine s_iincw 1 (by decide) 3 [(2, .inl (v2 + 1)), (3, .inl (h.1 69 0 v2.toNatClampNeg)), (0, .inr (.inr (12, 0))), (1, .inl v1)] rfl rfl rfl dX12_ticks_209 ?_
          refine s_goto (tgt := 106) dX12_ticks_212 (by decide) ?_
          exact s_loc [2, 3, 0] rfl (ih v1 (v2 + 1) (uI h 63 0 (h.1 69 0 v2.toNatClampNeg).toNatClampNeg (h.1 70 0 v2.toNatClampNeg)))
set_option maxRecDepth 20000 in
theorem sf_X12_ticks (G : mG) (X : mX)   (h : mH) : Sim G X cX12_ticks 4 RX12 none (mRoom 1 21) eV (f_X12_ticks  h) 0 [(0, .inr (.inr (12, 0)))] [] h := by
  unfold f_X12_ticks
  refine s_aload0 0 rfl dX12_ticks_0 ?_
  refine s_dup rfl dX12_ticks_1 ?_
  refine s_gi gI_RX12_198 dX12_ticks_2 ?_
  refine s_k1 dX12_ticks_5 ?_
  refine s_iadd dX12_ticks_6 ?_
  refine s_pi pI_RX12_198 dX12_ticks_7 ?_
  refine s_k0 dX12_ticks_10 ?_
  refine s_istore1 [(1, .inl 0), (0, .inr (.inr (12, 0)))] rfl rfl dX12_ticks_11 ?_
  refine s_loc [1, 0] rfl ?_
  refine sf_X12_ticks_12 G X  _ (fun u11 h12 => ?_) mFu 0 (uI h 12 0 23 ((h.1 12 0 23) + 1))
  · skip
    refine s_k0 dX12_ticks_102 ?_
    refine s_istore1 [(1, .inl 0), (0, .inr (.inr (12, 0)))] rfl rfl dX12_ticks_103 ?_
    refine s_k0 dX12_ticks_104 ?_
    refine s_istore2 [(2, .inl 0), (1, .inl 0), (0, .inr (.inr (12, 0)))] rfl rfl dX12_ticks_105 ?_
    refine s_loc [2, 1, 0] rfl ?_
    refine sf_X12_ticks_106 G X  _ (fun u21 u22 h23 => ?_) mFu 0 0 h12
    · skip
      refine s_aload0 0 rfl dX12_ticks_215 ?_
      refine s_iload1 1 rfl dX12_ticks_216 ?_
      refine s_pi pI_RX12_201 dX12_ticks_217 ?_
      exact s_return rfl rfl dX12_ticks_220
set_option maxRecDepth 20000 in
theorem cf_X12_ticks (G : mG) (l : Launch)   (h : mH) (b : mH) (hb : f_X12_ticks  h = some b) (hl : ∀ v ∈ ([.inr (.inr (12, 0))] : List mV), mLi v) : mMet G l yX12_ticks cX12_ticks 4 none (mRoom 1 21) [.inr (.inr (12, 0))] h (eV b) :=
  mMet.of (y := yX12_ticks) (as := [.inr (.inr (12, 0))]) (by decide +kernel) (Nat.le_of_ble_eq_true rfl) (fun X => sf_X12_ticks G X   h) hl b hb
-- DriverBookModel.reads(IZ)I
def f_X12_reads_5 (k : Int32 → Int32 → Int32 → Int32 → mH → Option (Int32 × mH))  : Nat → Int32 → Int32 → Int32 → Int32 → mH → Option (Int32 × mH)
  | 0, _, _, _, _, _ => none
  | n + 1, v1, v2, v3, v4, h =>
    if v4 < (h.1 12 0 2) then
      if mIn v4 24 = true then
      if (h.1 46 0 v4.toNatClampNeg) = v1 then
        if (h.1 49 0 v4.toNatClampNeg) = 6 then
          f_X12_reads_5 k  n v1 v2 v3 (v4 + 1) h
        else
          if (h.1 49 0 v4.toNatClampNeg) = 3 then
            if v2 = 0 then
              mLet (uI h 66 0 v4.toNatClampNeg ((h.1 66 0 v4.toNatClampNeg) ||| 0)) fun h7 =>
              f_X12_reads_5 k  n v1 v2 (v3 ||| ((h.1 63 0 v4.toNatClampNeg) <<< ((h.1 47 0 v4.toNatClampNeg) &&& 31))) (v4 + 1) (uI h7 63 0 v4.toNatClampNeg 0)
            else
              mLet (uI h 66 0 v4.toNatClampNeg ((h.1 66 0 v4.toNatClampNeg) ||| (h.1 63 0 v4.toNatClampNeg))) fun h8 =>
              f_X12_reads_5 k  n v1 v2 (v3 ||| ((h.1 63 0 v4.toNatClampNeg) <<< ((h.1 47 0 v4.toNatClampNeg) &&& 31))) (v4 + 1) (uI h8 63 0 v4.toNatClampNeg 0)
          else
            f_X12_reads_5 k  n v1 v2 (v3 ||| ((h.1 63 0 v4.toNatClampNeg) <<< ((h.1 47 0 v4.toNatClampNeg) &&& 31))) (v4 + 1) h
      else
        f_X12_reads_5 k  n v1 v2 v3 (v4 + 1) h
      else none
    else
      k v1 v2 v3 v4 h
def f_X12_reads (x1 : Int32) (x2 : Int32) (h : mH) : Option (Int32 × mH) :=
  f_X12_reads_5 (fun u9 u10 u11 u12 h13 =>
    (f_X12_ticks  h13).bind fun r14 =>
    some (u11, r14))  mFu x1 x2 0 0 h
set_option maxRecDepth 20000 in
theorem sf_X12_reads_5 (G : mG) (X : mX)   (k : Int32 → Int32 → Int32 → Int32 → mH → Option (Int32 × mH)) (hk : ∀ (v1 : Int32) (v2 : Int32) (v3 : Int32) (v4 : Int32) (h : mH), Sim G X cX12_reads 5 RX12 (some .int) (mRoom 2 44) eI (k v1 v2 v3 v4 h) 105 [(0, .inr (.inr (12, 0))), (1, .inl v1), (2, .inl v2), (3, .inl v3), (4, .inl v4)] [] h) (n : Nat) : ∀ (v1 : Int32) (v2 : Int32) (v3 : Int32) (v4 : Int32) (h : mH), Sim G X cX12_reads 5 RX12 (some .int) (mRoom 2 44) eI (f_X12_reads_5 k  n v1 v2 v3 v4 h) 5 [(0, .inr (.inr (12, 0))), (1, .inl v1), (2, .inl v2), (3, .inl v3), (4, .inl v4)] [] h := by
  induction n with
  | zero =>
    intro v1 v2 v3 v4 h
    exact s_none
  | succ n ih =>
    intro v1 v2 v3 v4 h
    unfold f_X12_reads_5
    refine s_iload 4 rfl dX12_reads_5 ?_
    refine s_aload0 0 rfl dX12_reads_7 ?_
    refine s_gi gI_RX12_181 dX12_reads_8 ?_
    refine s_ic_ge (tgt := 105) dX12_reads_11 (by decide) (fun q1 => ?_) (fun q1 => ?_)
    · skip
      exact s_loc [0, 1, 2, 3, 4] rfl (hk v1 v2 v3 v4 h)
    · skip
      refine s_aload0 0 rfl dX12_reads_14 ?_
      refine s_gr (gR_RX12_13 0) dX12_reads_15 ?_
      refine s_iload 4 rfl dX12_reads_18 ?_
      refine s_chk (fun q2 => ?_)
      refine s_ial aT_46 q2 dX12_reads_20 ?_
      refine s_iload1 1 rfl dX12_reads_21 ?_
      refine s_ic_ne (tgt := 99) dX12_reads_22 (by decide) (fun q3 => ?_) (fun q3 => ?_)
      · skip
        refine s_iincw 1 (by decide) 4 [(4, .inl (v4 + 1)), (0, .inr (.inr (12, 0))), (1, .inl v1), (2, .inl v2), (3, .inl v3)] rfl rfl rfl dX12_reads_99 ?_
        refine s_goto (tgt := 5) dX12_reads_102 (by decide) ?_
        exact s_loc [1, 2, 3, 4, 0] rfl (ih v1 v2 v3 (v4 + 1) h)
      · skip
        refine s_aload0 0 rfl dX12_reads_25 ?_
        refine s_gr (gR_RX12_23 0) dX12_reads_26 ?_
        refine s_iload 4 rfl dX12_reads_29 ?_
        refine s_ial aT_49 q2 dX12_reads_31 ?_
        refine s_bip 6 kb_6 dX12_reads_32 ?_
        refine s_ic_eq (tgt := 99) dX12_reads_34 (by decide) (fun q4 => ?_) (fun q4 => ?_)
        · skip
          refine s_iincw 1 (by decide) 4 [(4, .inl (v4 + 1)), (0, .inr (.inr (12, 0))), (1, .inl v1), (2, .inl v2), (3, .inl v3)] rfl rfl rfl dX12_reads_99 ?_
          refine s_goto (tgt := 5) dX12_reads_102 (by decide) ?_
          exact s_loc [1, 2, 3, 4, 0] rfl (ih v1 v2 v3 (v4 + 1) h)
        · skip
          refine s_iload3 3 rfl dX12_reads_37 ?_
          refine s_aload0 0 rfl dX12_reads_38 ?_
          refine s_gr (gR_RX12_68 0) dX12_reads_39 ?_
          refine s_iload 4 rfl dX12_reads_42 ?_
          refine s_ial aT_63 q2 dX12_reads_44 ?_
          refine s_aload0 0 rfl dX12_reads_45 ?_
          refine s_gr (gR_RX12_17 0) dX12_reads_46 ?_
          refine s_iload 4 rfl dX12_reads_49 ?_
          refine s_ial aT_47 q2 dX12_reads_51 ?_
          refine s_ishl dX12_reads_52 ?_
          refine s_ior dX12_reads_53 ?_
          refine s_istore3 [(3, .inl (v3 ||| ((h.1 63 0 v4.toNatClampNeg) <<< ((h.1 47 0 v4.toNatClampNeg) &&& 31)))), (0, .inr (.inr (12, 0))), (1, .inl v1), (2, .inl v2), (4, .inl v4)] rfl rfl dX12_reads_54 ?_
          refine s_aload0 1 rfl dX12_reads_55 ?_
          refine s_gr (gR_RX12_23 0) dX12_reads_56 ?_
          refine s_iload 4 rfl dX12_reads_59 ?_
          refine s_ial aT_49 q2 dX12_reads_61 ?_
          refine s_k3 dX12_reads_62 ?_
          refine s_ic_ne (tgt := 99) dX12_reads_63 (by decide) (fun q5 => ?_) (fun q5 => ?_)
          · skip
            refine s_iincw 1 (by decide) 4 [(4, .inl (v4 + 1)), (3, .inl (v3 ||| ((h.1 63 0 v4.toNatClampNeg) <<< ((h.1 47 0 v4.toNatClampNeg) &&& 31)))), (0, .inr (.inr (12, 0))), (1, .inl v1), (2, .inl v2)] rfl rfl rfl dX12_reads_99 ?_
            refine s_goto (tgt := 5) dX12_reads_102 (by decide) ?_
            exact s_loc [2, 3, 4, 1, 0] rfl (ih v1 v2 (v3 ||| ((h.1 63 0 v4.toNatClampNeg) <<< ((h.1 47 0 v4.toNatClampNeg) &&& 31))) (v4 + 1) h)
          · skip
            refine s_aload0 1 rfl dX12_reads_66 ?_
            refine s_gr (gR_RX12_77 0) dX12_reads_67 ?_
            refine s_iload 4 rfl dX12_reads_70 ?_
            refine s_dup2 rfl rfl dX12_reads_72 ?_
            refine s_ial aT_66 q2 dX12_reads_73 ?_
            refine s_iload2 3 rfl dX12_reads_74 ?_
            refine s_if_eq (tgt := 88) dX12_reads_75 (by decide) (fun q6 => ?_) (fun q6 => ?_)
            · skip
              refine s_k0 dX12_reads_88 ?_
              refine s_ior dX12_reads_89 ?_
              refine s_ias aT_66 q2 dX12_reads_90 ?_
              refine s_aload0 1 rfl dX12_reads_91 ?_
              refine s_gr (gR_RX12_68 0) dX12_reads_92 ?_
              refine s_iload 4 rfl dX12_reads_95 ?_
              refine s_k0 dX12_reads_97 ?_
              refine s_let (fun h7 => ?_)
              refine s_ias aT_63 q2 dX12_reads_98 ?_
              refine s_iincw 1 (by decide) 4 [(4, .inl (v4 + 1)), (3, .inl (v3 ||| ((h.1 63 0 v4.toNatClampNeg) <<< ((h.1 47 0 v4.toNatClampNeg) &&& 31)))), (0, .inr (.inr (12, 0))), (1, .inl v1), (2, .inl v2)] rfl rfl rfl dX12_reads_99 ?_
              refine s_goto (tgt := 5) dX12_reads_102 (by decide) ?_
              exact s_loc [2, 3, 4, 1, 0] rfl (ih v1 v2 (v3 ||| ((h.1 63 0 v4.toNatClampNeg) <<< ((h.1 47 0 v4.toNatClampNeg) &&& 31))) (v4 + 1) (uI h7 63 0 v4.toNatClampNeg 0))
            · skip
              refine s_aload0 1 rfl dX12_reads_78 ?_
              refine s_gr (gR_RX12_68 0) dX12_reads_79 ?_
              refine s_iload 4 rfl dX12_reads_82 ?_
              refine s_ial aT_63 q2 dX12_reads_84 ?_
              refine s_goto (tgt := 89) dX12_reads_85 (by decide) ?_
              refine s_ior dX12_reads_89 ?_
              refine s_ias aT_66 q2 dX12_reads_90 ?_
              refine s_aload0 1 rfl dX12_reads_91 ?_
              refine s_gr (gR_RX12_68 0) dX12_reads_92 ?_
              refine s_iload 4 rfl dX12_reads_95 ?_
              refine s_k0 dX12_reads_97 ?_
              refine s_let (fun h8 => ?_)
              refine s_ias aT_63 q2 dX12_reads_98 ?_
              refine s_iincw 1 (by decide) 4 [(4, .inl (v4 + 1)), (3, .inl (v3 ||| ((h.1 63 0 v4.toNatClampNeg) <<< ((h.1 47 0 v4.toNatClampNeg) &&& 31)))), (0, .inr (.inr (12, 0))), (1, .inl v1), (2, .inl v2)] rfl rfl rfl dX12_reads_99 ?_
              refine s_goto (tgt := 5) dX12_reads_102 (by decide) ?_
              exact s_loc [2, 3, 4, 1, 0] rfl (ih v1 v2 (v3 ||| ((h.1 63 0 v4.toNatClampNeg) <<< ((h.1 47 0 v4.toNatClampNeg) &&& 31))) (v4 + 1) (uI h8 63 0 v4.toNatClampNeg 0))
set_option maxRecDepth 20000 in
theorem sf_X12_reads (G : mG) (X : mX) (x1 : Int32) (x2 : Int32)  (h : mH) : Sim G X cX12_reads 5 RX12 (some .int) (mRoom 2 44) eI (f_X12_reads x1 x2 h) 0 [(0, .inr (.inr (12, 0))), (1, .inl x1), (2, .inl x2)] [] h := by
  unfold f_X12_reads
  refine s_k0 dX12_reads_0 ?_
  refine s_istore3 [(3, .inl 0), (0, .inr (.inr (12, 0))), (1, .inl x1), (2, .inl x2)] rfl rfl dX12_reads_1 ?_
  refine s_k0 dX12_reads_2 ?_
  refine s_istorew [(4, .inl 0), (3, .inl 0), (0, .inr (.inr (12, 0))), (1, .inl x1), (2, .inl x2)] rfl rfl dX12_reads_3 ?_
  refine s_loc [2, 3, 4, 1, 0] rfl ?_
  refine sf_X12_reads_5 G X  _ (fun u9 u10 u11 u12 h13 => ?_) mFu x1 x2 0 0 h
  · skip
    refine s_aload0 0 rfl dX12_reads_105 ?_
    refine s_viV [] (fun l b hb hl => cf_X12_ticks G l  h13 b hb hl) me_X12_ticks vi_RX12_244 rfl rfl rfl rfl rfl dX12_reads_106 (fun r14 => ?_)
    refine s_iload3 3 rfl dX12_reads_109 ?_
    exact s_ireturn rfl rfl dX12_reads_110
set_option maxRecDepth 20000 in
theorem cf_X12_reads (G : mG) (l : Launch) (x1 : Int32) (x2 : Int32)  (h : mH) (b : Int32 × mH) (hb : f_X12_reads x1 x2 h = some b) (hl : ∀ v ∈ ([.inr (.inr (12, 0)), .inl x1, .inl x2] : List mV), mLi v) : mMet G l yX12_reads cX12_reads 5 (some .int) (mRoom 2 44) [.inr (.inr (12, 0)), .inl x1, .inl x2] h (eI b) :=
  mMet.of (y := yX12_reads) (as := [.inr (.inr (12, 0)), .inl x1, .inl x2]) (by decide +kernel) (Nat.le_of_ble_eq_true rfl) (fun X => sf_X12_reads G X x1 x2  h) hl b hb
