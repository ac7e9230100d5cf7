-- DriverBookModel.image(I)I
def f_X12_image (x1 : Int32) (h : mH) : Option (Int32 × mH) :=
  (f_X12_isTape x1 h).bind fun r1 =>
  if r1.1 = 0 then
    some ((-1), r1.2)
  else
    if mIn x1 6 = true then
    mLet (uI r1.2 89 0 x1.toNatClampNeg 5) fun h4 =>
    (f_X12_stores x1 (uI h4 90 0 x1.toNatClampNeg 0)).bind fun r5 =>
    some (r5.1 12 0 23, r5)
    else none
set_option maxRecDepth 20000 in
theorem sf_X12_image (G : mG) (X : mX) (x1 : Int32)  (h : mH) : Sim G X cX12_image 2 RX12 (some .int) (mRoom 2 42) eI (f_X12_image x1 h) 0 [(0, .inr (.inr (12, 0))), (1, .inl x1)] [] h := by
  unfold f_X12_image
  refine s_iload1 1 rfl dX12_image_0 ?_
  refine s_siI [.inl x1] (fun l b hb hl => cf_X12_isTape G l x1 h b hb hl) me_X12_isTape si_RX12_343 rfl rfl rfl rfl rfl dX12_image_1 (fun r1 => ?_)
  refine s_if_ne (tgt := 9) dX12_image_4 (by decide) (fun q2 => ?_) (fun q2 => ?_)
  · skip
    refine s_aload0 0 rfl dX12_image_9 ?_
    refine s_gr (gR_RX12_152 0) dX12_image_10 ?_
    refine s_iload1 1 rfl dX12_image_13 ?_
    refine s_k5 dX12_image_14 ?_
    refine s_chk (fun q3 => ?_)
    refine s_ias aT_89 q3 dX12_image_15 ?_
    refine s_aload0 0 rfl dX12_image_16 ?_
    refine s_gr (gR_RX12_155 0) dX12_image_17 ?_
    refine s_iload1 1 rfl dX12_image_20 ?_
    refine s_k0 dX12_image_21 ?_
    refine s_let (fun h4 => ?_)
    refine s_ias aT_90 q3 dX12_image_22 ?_
    refine s_aload0 0 rfl dX12_image_23 ?_
    refine s_iload1 1 rfl dX12_image_24 ?_
    refine s_viV [.inl x1] (fun l b hb hl => cf_X12_stores G l x1 (uI h4 90 0 x1.toNatClampNeg 0) b hb hl) me_X12_stores vi_RX12_333 rfl rfl rfl rfl rfl dX12_image_25 (fun r5 => ?_)
    refine s_aload0 0 rfl dX12_image_28 ?_
    refine s_gi gI_RX12_198 dX12_image_29 ?_
    exact s_ireturn rfl rfl dX12_image_32
  · skip
    refine s_km1 dX12_image_7 ?_
    exact s_ireturn rfl rfl dX12_image_8
set_option maxRecDepth 20000 in
theorem cf_X12_image (G : mG) (l : Launch) (x1 : Int32)  (h : mH) (b : Int32 × mH) (hb : f_X12_image x1 h = some b) (hl : ∀ v ∈ ([.inr (.inr (12, 0)), .inl x1] : List mV), mLi v) : mMet G l yX12_image cX12_image 2 (some .int) (mRoom 2 42) [.inr (.inr (12, 0)), .inl x1] h (eI b) :=
  mMet.of (y := yX12_image) (as := [.inr (.inr (12, 0)), .inl x1]) (by decide +kernel) (Nat.le_of_ble_eq_true rfl) (fun X => sf_X12_image G X x1  h) hl b hb
-- DriverBookModel.lacks(I)I
def f_X12_lacks (x1 : Int32) (h : mH) : Option (Int32 × mH) :=
  (f_X12_isTape x1 h).bind fun r1 =>
  if r1.1 = 0 then
    some ((-1), r1.2)
  else
    if mIn x1 6 = true then
    if (r1.2.1 89 0 x1.toNatClampNeg) = 0 then
      (f_X12_refuse (-11) r1.2).bind fun r7 =>
      some (r7.1, r7.2)
    else
      if (r1.2.1 89 0 x1.toNatClampNeg) = 5 then
        some (0, r1.2)
      else
        (f_X12_refuse (-12) r1.2).bind fun r6 =>
        some (r6.1, r6.2)
    else none
set_option maxRecDepth 20000 in
theorem sf_X12_lacks (G : mG) (X : mX) (x1 : Int32)  (h : mH) : Sim G X cX12_lacks 2 RX12 (some .int) (mRoom 2 42) eI (f_X12_lacks x1 h) 0 [(0, .inr (.inr (12, 0))), (1, .inl x1)] [] h := by
  unfold f_X12_lacks
  refine s_iload1 1 rfl dX12_lacks_0 ?_
  refine s_siI [.inl x1] (fun l b hb hl => cf_X12_isTape G l x1 h b hb hl) me_X12_isTape si_RX12_343 rfl rfl rfl rfl rfl dX12_lacks_1 (fun r1 => ?_)
  refine s_if_ne (tgt := 11) dX12_lacks_4 (by decide) (fun q2 => ?_) (fun q2 => ?_)
  · skip
    refine s_aload0 0 rfl dX12_lacks_11 ?_
    refine s_gr (gR_RX12_152 0) dX12_lacks_12 ?_
    refine s_iload1 1 rfl dX12_lacks_15 ?_
    refine s_chk (fun q3 => ?_)
    refine s_ial aT_89 q3 dX12_lacks_16 ?_
    refine s_if_ne (tgt := 29) dX12_lacks_17 (by decide) (fun q4 => ?_) (fun q4 => ?_)
    · skip
      refine s_aload0 0 rfl dX12_lacks_29 ?_
      refine s_gr (gR_RX12_152 0) dX12_lacks_30 ?_
      refine s_iload1 1 rfl dX12_lacks_33 ?_
      refine s_ial aT_89 q3 dX12_lacks_34 ?_
      refine s_k5 dX12_lacks_35 ?_
      refine s_ic_eq (tgt := 48) dX12_lacks_36 (by decide) (fun q5 => ?_) (fun q5 => ?_)
      · skip
        refine s_k0 dX12_lacks_48 ?_
        exact s_ireturn rfl rfl dX12_lacks_49
      · skip
        refine s_aload0 0 rfl dX12_lacks_39 ?_
        refine s_bip (-12) kb_m12 dX12_lacks_40 ?_
        refine s_viI [.inl (-12)] (fun l b hb hl => cf_X12_refuse G l (-12) r1.2 b hb hl) me_X12_refuse vi_RX12_346 rfl rfl rfl rfl rfl dX12_lacks_42 (fun r6 => ?_)
        refine s_goto (tgt := 49) dX12_lacks_45 (by decide) ?_
        exact s_ireturn rfl rfl dX12_lacks_49
    · skip
      refine s_aload0 0 rfl dX12_lacks_20 ?_
      refine s_bip (-11) kb_m11 dX12_lacks_21 ?_
      refine s_viI [.inl (-11)] (fun l b hb hl => cf_X12_refuse G l (-11) r1.2 b hb hl) me_X12_refuse vi_RX12_346 rfl rfl rfl rfl rfl dX12_lacks_23 (fun r7 => ?_)
      refine s_goto (tgt := 49) dX12_lacks_26 (by decide) ?_
      exact s_ireturn rfl rfl dX12_lacks_49
  · skip
    refine s_km1 dX12_lacks_7 ?_
    refine s_goto (tgt := 49) dX12_lacks_8 (by decide) ?_
    exact s_ireturn rfl rfl dX12_lacks_49
set_option maxRecDepth 20000 in
theorem cf_X12_lacks (G : mG) (l : Launch) (x1 : Int32)  (h : mH) (b : Int32 × mH) (hb : f_X12_lacks x1 h = some b) (hl : ∀ v ∈ ([.inr (.inr (12, 0)), .inl x1] : List mV), mLi v) : mMet G l yX12_lacks cX12_lacks 2 (some .int) (mRoom 2 42) [.inr (.inr (12, 0)), .inl x1] h (eI b) :=
  mMet.of (y := yX12_lacks) (as := [.inr (.inr (12, 0)), .inl x1]) (by decide +kernel) (Nat.le_of_ble_eq_true rfl) (fun X => sf_X12_lacks G X x1  h) hl b hb
-- DriverBookModel.back(I)I
def f_X12_back (x1 : Int32) (h : mH) : Option (Int32 × mH) :=
  (f_X12_lacks x1 h).bind fun r1 =>
  if r1.1 = 0 then
    if mIn x1 8 = true then
    if (r1.2.1 88 0 x1.toNatClampNeg) = (r1.2.1 12 0 55) then
      (f_X12_brings x1 r1.2).bind fun r5 =>
      some (r5.1 12 0 23, r5)
    else
      some ((-7), r1.2)
    else none
  else
    some (r1.1, r1.2)
set_option maxRecDepth 20000 in
theorem sf_X12_back (G : mG) (X : mX) (x1 : Int32)  (h : mH) : Sim G X cX12_back 3 RX12 (some .int) (mRoom 3 63) eI (f_X12_back x1 h) 0 [(0, .inr (.inr (12, 0))), (1, .inl x1)] [] h := by
  unfold f_X12_back
  refine s_aload0 0 rfl dX12_back_0 ?_
  refine s_iload1 1 rfl dX12_back_1 ?_
  refine s_viI [.inl x1] (fun l b hb hl => cf_X12_lacks G l x1 h b hb hl) me_X12_lacks vi_RX12_349 rfl rfl rfl rfl rfl dX12_back_2 (fun r1 => ?_)
  refine s_istore2 [(2, .inl r1.1), (0, .inr (.inr (12, 0))), (1, .inl x1)] rfl rfl dX12_back_5 ?_
  refine s_iload2 0 rfl dX12_back_6 ?_
  refine s_if_eq (tgt := 12) dX12_back_7 (by decide) (fun q2 => ?_) (fun q2 => ?_)
  · skip
    refine s_aload0 1 rfl dX12_back_12 ?_
    refine s_gr (gR_RX12_143 0) dX12_back_13 ?_
    refine s_iload1 2 rfl dX12_back_16 ?_
    refine s_chk (fun q3 => ?_)
    refine s_ial aT_88 q3 dX12_back_17 ?_
    refine s_aload0 1 rfl dX12_back_18 ?_
    refine s_gi gI_RX12_219 dX12_back_19 ?_
    refine s_ic_eq (tgt := 28) dX12_back_22 (by decide) (fun q4 => ?_) (fun q4 => ?_)
    · skip
      refine s_aload0 1 rfl dX12_back_28 ?_
      refine s_iload1 2 rfl dX12_back_29 ?_
      refine s_viV [.inl x1] (fun l b hb hl => cf_X12_brings G l x1 r1.2 b hb hl) me_X12_brings vi_RX12_336 rfl rfl rfl rfl rfl dX12_back_30 (fun r5 => ?_)
      refine s_aload0 1 rfl dX12_back_33 ?_
      refine s_gi gI_RX12_198 dX12_back_34 ?_
      exact s_ireturn rfl rfl dX12_back_37
    · skip
      refine s_bip (-7) kb_m7 dX12_back_25 ?_
      exact s_ireturn rfl rfl dX12_back_27
  · skip
    refine s_iload2 0 rfl dX12_back_10 ?_
    exact s_ireturn rfl rfl dX12_back_11
set_option maxRecDepth 20000 in
theorem cf_X12_back (G : mG) (l : Launch) (x1 : Int32)  (h : mH) (b : Int32 × mH) (hb : f_X12_back x1 h = some b) (hl : ∀ v ∈ ([.inr (.inr (12, 0)), .inl x1] : List mV), mLi v) : mMet G l yX12_back cX12_back 3 (some .int) (mRoom 3 63) [.inr (.inr (12, 0)), .inl x1] h (eI b) :=
  mMet.of (y := yX12_back) (as := [.inr (.inr (12, 0)), .inl x1]) (by decide +kernel) (Nat.le_of_ble_eq_true rfl) (fun X => sf_X12_back G X x1  h) hl b hb
-- DriverBookModel.toss(I)I
def f_X12_toss (x1 : Int32) (h : mH) : Option (Int32 × mH) :=
  (f_X12_lacks x1 h).bind fun r1 =>
  if r1.1 = 0 then
    if mIn x1 8 = true then
    if (r1.2.1 83 0 x1.toNatClampNeg) = 0 then
      (f_X12_refuse (-15) r1.2).bind fun r5 =>
      some (r5.1, r5.2)
    else
      some (r1.2.1 83 0 x1.toNatClampNeg, r1.2)
    else none
  else
    some (r1.1, r1.2)
set_option maxRecDepth 20000 in
theorem sf_X12_toss (G : mG) (X : mX) (x1 : Int32)  (h : mH) : Sim G X cX12_toss 3 RX12 (some .int) (mRoom 3 63) eI (f_X12_toss x1 h) 0 [(0, .inr (.inr (12, 0))), (1, .inl x1)] [] h := by
  unfold f_X12_toss
  refine s_aload0 0 rfl dX12_toss_0 ?_
  refine s_iload1 1 rfl dX12_toss_1 ?_
  refine s_viI [.inl x1] (fun l b hb hl => cf_X12_lacks G l x1 h b hb hl) me_X12_lacks vi_RX12_349 rfl rfl rfl rfl rfl dX12_toss_2 (fun r1 => ?_)
  refine s_istore2 [(2, .inl r1.1), (0, .inr (.inr (12, 0))), (1, .inl x1)] rfl rfl dX12_toss_5 ?_
  refine s_iload2 0 rfl dX12_toss_6 ?_
  refine s_if_eq (tgt := 12) dX12_toss_7 (by decide) (fun q2 => ?_) (fun q2 => ?_)
  · skip
    refine s_aload0 1 rfl dX12_toss_12 ?_
    refine s_gr (gR_RX12_128 0) dX12_toss_13 ?_
    refine s_iload1 2 rfl dX12_toss_16 ?_
    refine s_chk (fun q3 => ?_)
    refine s_ial aT_83 q3 dX12_toss_17 ?_
    refine s_if_ne (tgt := 30) dX12_toss_18 (by decide) (fun q4 => ?_) (fun q4 => ?_)
    · skip
      refine s_aload0 1 rfl dX12_toss_30 ?_
      refine s_gr (gR_RX12_128 0) dX12_toss_31 ?_
      refine s_iload1 2 rfl dX12_toss_34 ?_
      refine s_ial aT_83 q3 dX12_toss_35 ?_
      exact s_ireturn rfl rfl dX12_toss_36
    · skip
      refine s_aload0 1 rfl dX12_toss_21 ?_
      refine s_bip (-15) kb_m15 dX12_toss_22 ?_
      refine s_viI [.inl (-15)] (fun l b hb hl => cf_X12_refuse G l (-15) r1.2 b hb hl) me_X12_refuse vi_RX12_346 rfl rfl rfl rfl rfl dX12_toss_24 (fun r5 => ?_)
      refine s_goto (tgt := 36) dX12_toss_27 (by decide) ?_
      exact s_ireturn rfl rfl dX12_toss_36
  · skip
    refine s_iload2 0 rfl dX12_toss_10 ?_
    exact s_ireturn rfl rfl dX12_toss_11
set_option maxRecDepth 20000 in
theorem cf_X12_toss (G : mG) (l : Launch) (x1 : Int32)  (h : mH) (b : Int32 × mH) (hb : f_X12_toss x1 h = some b) (hl : ∀ v ∈ ([.inr (.inr (12, 0)), .inl x1] : List mV), mLi v) : mMet G l yX12_toss cX12_toss 3 (some .int) (mRoom 3 63) [.inr (.inr (12, 0)), .inl x1] h (eI b) :=
  mMet.of (y := yX12_toss) (as := [.inr (.inr (12, 0)), .inl x1]) (by decide +kernel) (Nat.le_of_ble_eq_true rfl) (fun X => sf_X12_toss G X x1  h) hl b hb
-- DriverBookModel.play(III)I
def f_X12_play_55 (k : Int32 → Int32 → Int32 → Int32 → mH → Option (Int32 × mH))  : Nat → Int32 → Int32 → Int32 → Int32 → mH → Option (Int32 × mH)
  | 0, _, _, _, _, _ => none
  | n + 1, v1, v2, v3, v4, h =>
    if v4 < v3 then
      if mIn v1 6 = true then
      (f_X12_in (v2 + v4) 0 ((h.1 90 0 v1.toNatClampNeg) - 1) h).bind fun r10 =>
      if r10.1 = 0 then
        (f_X12_refuse (-13) r10.2).bind fun r17 =>
        some (r17.1, r17.2)
      else
        if mIn ((64 * v1) + (v2 + v4)) 384 = true then
        (f_X12_isAct ((r10.2.2 91 0 ((64 * v1) + (v2 + v4)).toNatClampNeg).toInt32) r10.2).bind fun r13 =>
        if r13.1 = 0 then
          some (v4, r13.2)
        else
          (f_X12_runs_2 0 ((r10.2.2 91 0 ((64 * v1) + (v2 + v4)).toNatClampNeg).toInt32) r13.2).bind fun r15 =>
          if r15.1 = 0 then
            f_X12_play_55 k  n v1 v2 v3 (v4 + 1) r15.2
          else
            some (v4, r15.2)
        else none
      else none
    else
      k v1 v2 v3 v4 h
def f_X12_play (x1 : Int32) (x2 : Int32) (x3 : Int32) (h : mH) : Option (Int32 × mH) :=
  (f_X12_isTape x1 h).bind fun r1 =>
  if r1.1 = 0 then
    some ((-1), r1.2)
  else
    (f_X12_in x3 0 64 r1.2).bind fun r3 =>
    if r3.1 = 0 then
      some ((-1), r3.2)
    else
      if mIn x1 6 = true then
      if (r3.2.1 89 0 x1.toNatClampNeg) = 0 then
        (f_X12_refuse (-11) r3.2).bind fun r24 =>
        some (r24.1, r24.2)
      else
        if (r3.2.1 89 0 x1.toNatClampNeg) = 3 then
          f_X12_play_55 (fun u18 u19 u20 u21 h22 =>
            some (u20, h22))  mFu x1 x2 x3 0 r3.2
        else
          (f_X12_refuse (-12) r3.2).bind fun r23 =>
          some (r23.1, r23.2)
      else none
set_option maxRecDepth 20000 in
theorem sf_X12_play_55 (G : mG) (X : mX)   (k : Int32 → Int32 → Int32 → Int32 → mH → Option (Int32 × mH)) (hk : ∀ (v1 : Int32) (v2 : Int32) (v3 : Int32) (v4 : Int32) (h : mH), Sim G X cX12_play 7 RX12 (some .int) (mRoom 10 238) eI (k v1 v2 v3 v4 h) 134 [(0, .inr (.inr (12, 0))), (1, .inl v1), (2, .inl v2), (3, .inl v3), (4, .inl v4)] [] h) (n : Nat) : ∀ (v1 : Int32) (v2 : Int32) (v3 : Int32) (v4 : Int32) (h : mH), Sim G X cX12_play 7 RX12 (some .int) (mRoom 10 238) eI (f_X12_play_55 k  n v1 v2 v3 v4 h) 55 [(0, .inr (.inr (12, 0))), (1, .inl v1), (2, .inl v2), (3, .inl v3), (4, .inl v4)] [] h := by
  induction n with
  | zero =>
    intro v1 v2 v3 v4 h
    exact s_none
  | succ n ih =>
    intro v1 v2 v3 v4 h
    unfold f_X12_play_55
    refine s_iload 4 rfl dX12_play_55 ?_
    refine s_iload3 3 rfl dX12_play_57 ?_
    refine s_ic_ge (tgt := 134) dX12_play_58 (by decide) (fun q8 => ?_) (fun q8 => ?_)
    · skip
      exact s_loc [0, 1, 2, 3, 4] rfl (hk v1 v2 v3 v4 h)
    · skip
      refine s_iload2 2 rfl dX12_play_61 ?_
      refine s_iload 4 rfl dX12_play_62 ?_
      refine s_iadd dX12_play_64 ?_
      refine s_istorew [(5, .inl (v2 + v4)), (0, .inr (.inr (12, 0))), (1, .inl v1), (2, .inl v2), (3, .inl v3), (4, .inl v4)] rfl rfl dX12_play_65 ?_
      refine s_iload 0 rfl dX12_play_67 ?_
      refine s_k0 dX12_play_69 ?_
      refine s_aload0 1 rfl dX12_play_70 ?_
      refine s_gr (gR_RX12_155 0) dX12_play_71 ?_
      refine s_iload1 2 rfl dX12_play_74 ?_
      refine s_chk (fun q9 => ?_)
      refine s_ial aT_90 q9 dX12_play_75 ?_
      refine s_k1 dX12_play_76 ?_
      refine s_isub dX12_play_77 ?_
      refine s_siI [.inl (v2 + v4), .inl 0, .inl ((h.1 90 0 v1.toNatClampNeg) - 1)] (fun l b hb hl => cf_X12_in G l (v2 + v4) 0 ((h.1 90 0 v1.toNatClampNeg) - 1) h b hb hl) me_X12_in si_RX12_184 rfl rfl rfl rfl rfl dX12_play_78 (fun r10 => ?_)
      refine s_if_ne (tgt := 91) dX12_play_81 (by decide) (fun q11 => ?_) (fun q11 => ?_)
      · skip
        refine s_aload0 1 rfl dX12_play_91 ?_
        refine s_gr (gR_RX12_158 0) dX12_play_92 ?_
        refine s_bip 64 kb_64 dX12_play_95 ?_
        refine s_iload1 2 rfl dX12_play_97 ?_
        refine s_imul dX12_play_98 ?_
        refine s_iload 0 rfl dX12_play_99 ?_
        refine s_iadd dX12_play_101 ?_
        refine s_chk (fun q12 => ?_)
        refine s_lal aT_91 q12 dX12_play_102 ?_
        refine s_l2i dX12_play_103 ?_
        refine s_istorew [(6, .inl ((r10.2.2 91 0 ((64 * v1) + (v2 + v4)).toNatClampNeg).toInt32)), (5, .inl (v2 + v4)), (0, .inr (.inr (12, 0))), (1, .inl v1), (2, .inl v2), (3, .inl v3), (4, .inl v4)] rfl rfl dX12_play_104 ?_
        refine s_aload0 2 rfl dX12_play_106 ?_
        refine s_iload 0 rfl dX12_play_107 ?_
        refine s_viI [.inl ((r10.2.2 91 0 ((64 * v1) + (v2 + v4)).toNatClampNeg).toInt32)] (fun l b hb hl => cf_X12_isAct G l ((r10.2.2 91 0 ((64 * v1) + (v2 + v4)).toNatClampNeg).toInt32) r10.2 b hb hl) me_X12_isAct vi_RX12_241 rfl rfl rfl rfl rfl dX12_play_109 (fun r13 => ?_)
        refine s_if_eq (tgt := 125) dX12_play_112 (by decide) (fun q14 => ?_) (fun q14 => ?_)
        · skip
          refine s_iload 6 rfl dX12_play_125 ?_
          exact s_ireturn rfl rfl dX12_play_127
        · skip
          refine s_aload0 2 rfl dX12_play_115 ?_
          refine s_k0 dX12_play_116 ?_
          refine s_iload 0 rfl dX12_play_117 ?_
          refine s_viI [.inl 0, .inl ((r10.2.2 91 0 ((64 * v1) + (v2 + v4)).toNatClampNeg).toInt32)] (fun l b hb hl => cf_X12_runs_2 G l 0 ((r10.2.2 91 0 ((64 * v1) + (v2 + v4)).toNatClampNeg).toInt32) r13.2 b hb hl) me_X12_runs vi_RX12_300 rfl rfl rfl rfl rfl dX12_play_119 (fun r15 => ?_)
          refine s_if_eq (tgt := 128) dX12_play_122 (by decide) (fun q16 => ?_) (fun q16 => ?_)
          · skip
            refine s_iincw 1 (by decide) 6 [(4, .inl (v4 + 1)), (6, .inl ((r10.2.2 91 0 ((64 * v1) + (v2 + v4)).toNatClampNeg).toInt32)), (5, .inl (v2 + v4)), (0, .inr (.inr (12, 0))), (1, .inl v1), (2, .inl v2), (3, .inl v3)] rfl rfl rfl dX12_play_128 ?_
            refine s_goto (tgt := 55) dX12_play_131 (by decide) ?_
            exact s_loc [3, 4, 5, 6, 0] rfl (ih v1 v2 v3 (v4 + 1) r15.2)
          · skip
            refine s_iload 6 rfl dX12_play_125 ?_
            exact s_ireturn rfl rfl dX12_play_127
      · skip
        refine s_aload0 1 rfl dX12_play_84 ?_
        refine s_bip (-13) kb_m13 dX12_play_85 ?_
        refine s_viI [.inl (-13)] (fun l b hb hl => cf_X12_refuse G l (-13) r10.2 b hb hl) me_X12_refuse vi_RX12_346 rfl rfl rfl rfl rfl dX12_play_87 (fun r17 => ?_)
        exact s_ireturn rfl rfl dX12_play_90
set_option maxRecDepth 20000 in
theorem sf_X12_play (G : mG) (X : mX) (x1 : Int32) (x2 : Int32) (x3 : Int32)  (h : mH) : Sim G X cX12_play 7 RX12 (some .int) (mRoom 10 238) eI (f_X12_play x1 x2 x3 h) 0 [(0, .inr (.inr (12, 0))), (1, .inl x1), (2, .inl x2), (3, .inl x3)] [] h := by
  unfold f_X12_play
  refine s_iload1 1 rfl dX12_play_0 ?_
  refine s_siI [.inl x1] (fun l b hb hl => cf_X12_isTape G l x1 h b hb hl) me_X12_isTape si_RX12_343 rfl rfl rfl rfl rfl dX12_play_1 (fun r1 => ?_)
  refine s_if_eq (tgt := 17) dX12_play_4 (by decide) (fun q2 => ?_) (fun q2 => ?_)
  · skip
    refine s_km1 dX12_play_17 ?_
    exact s_ireturn rfl rfl dX12_play_18
  · skip
    refine s_iload3 3 rfl dX12_play_7 ?_
    refine s_k0 dX12_play_8 ?_
    refine s_bip 64 kb_64 dX12_play_9 ?_
    refine s_siI [.inl x3, .inl 0, .inl 64] (fun l b hb hl => cf_X12_in G l x3 0 64 r1.2 b hb hl) me_X12_in si_RX12_184 rfl rfl rfl rfl rfl dX12_play_11 (fun r3 => ?_)
    refine s_if_ne (tgt := 19) dX12_play_14 (by decide) (fun q4 => ?_) (fun q4 => ?_)
    · skip
      refine s_aload0 0 rfl dX12_play_19 ?_
      refine s_gr (gR_RX12_152 0) dX12_play_20 ?_
      refine s_iload1 1 rfl dX12_play_23 ?_
      refine s_chk (fun q5 => ?_)
      refine s_ial aT_89 q5 dX12_play_24 ?_
      refine s_if_ne (tgt := 35) dX12_play_25 (by decide) (fun q6 => ?_) (fun q6 => ?_)
      · skip
        refine s_aload0 0 rfl dX12_play_35 ?_
        refine s_gr (gR_RX12_152 0) dX12_play_36 ?_
        refine s_iload1 1 rfl dX12_play_39 ?_
        refine s_ial aT_89 q5 dX12_play_40 ?_
        refine s_k3 dX12_play_41 ?_
        refine s_ic_eq (tgt := 52) dX12_play_42 (by decide) (fun q7 => ?_) (fun q7 => ?_)
        · skip
          refine s_k0 dX12_play_52 ?_
          refine s_istorew [(4, .inl 0), (0, .inr (.inr (12, 0))), (1, .inl x1), (2, .inl x2), (3, .inl x3)] rfl rfl dX12_play_53 ?_
          refine s_loc [1, 2, 3, 4, 0] rfl ?_
          refine sf_X12_play_55 G X  _ (fun u18 u19 u20 u21 h22 => ?_) mFu x1 x2 x3 0 r3.2
          · skip
            refine s_iload3 3 rfl dX12_play_134 ?_
            exact s_ireturn rfl rfl dX12_play_135
        · skip
          refine s_aload0 0 rfl dX12_play_45 ?_
          refine s_bip (-12) kb_m12 dX12_play_46 ?_
          refine s_viI [.inl (-12)] (fun l b hb hl => cf_X12_refuse G l (-12) r3.2 b hb hl) me_X12_refuse vi_RX12_346 rfl rfl rfl rfl rfl dX12_play_48 (fun r23 => ?_)
          exact s_ireturn rfl rfl dX12_play_51
      · skip
        refine s_aload0 0 rfl dX12_play_28 ?_
        refine s_bip (-11) kb_m11 dX12_play_29 ?_
        refine s_viI [.inl (-11)] (fun l b hb hl => cf_X12_refuse G l (-11) r3.2 b hb hl) me_X12_refuse vi_RX12_346 rfl rfl rfl rfl rfl dX12_play_31 (fun r24 => ?_)
        exact s_ireturn rfl rfl dX12_play_34
    · skip
      refine s_km1 dX12_play_17 ?_
      exact s_ireturn rfl rfl dX12_play_18
set_option maxRecDepth 20000 in
theorem cf_X12_play (G : mG) (l : Launch) (x1 : Int32) (x2 : Int32) (x3 : Int32)  (h : mH) (b : Int32 × mH) (hb : f_X12_play x1 x2 x3 h = some b) (hl : ∀ v ∈ ([.inr (.inr (12, 0)), .inl x1, .inl x2, .inl x3] : List mV), mLi v) : mMet G l yX12_play cX12_play 7 (some .int) (mRoom 10 238) [.inr (.inr (12, 0)), .inl x1, .inl x2, .inl x3] h (eI b) :=
  mMet.of (y := yX12_play) (as := [.inr (.inr (12, 0)), .inl x1, .inl x2, .inl x3]) (by decide +kernel) (Nat.le_of_ble_eq_true rfl) (fun X => sf_X12_play G X x1 x2 x3  h) hl b hb
-- DriverBookModel.clear(I)I
def f_X12_clear (x1 : Int32) (h : mH) : Option (Int32 × mH) :=
  (f_X12_isTape x1 h).bind fun r1 =>
  if r1.1 = 0 then
    some ((-1), r1.2)
  else
    if mIn x1 6 = true then
    some (r1.2.1 89 0 x1.toNatClampNeg, uI r1.2 89 0 x1.toNatClampNeg 0)
    else none
set_option maxRecDepth 20000 in
theorem sf_X12_clear (G : mG) (X : mX) (x1 : Int32)  (h : mH) : Sim G X cX12_clear 3 RX12 (some .int) (mRoom 2 42) eI (f_X12_clear x1 h) 0 [(0, .inr (.inr (12, 0))), (1, .inl x1)] [] h := by
  unfold f_X12_clear
  refine s_iload1 1 rfl dX12_clear_0 ?_
  refine s_siI [.inl x1] (fun l b hb hl => cf_X12_isTape G l x1 h b hb hl) me_X12_isTape si_RX12_343 rfl rfl rfl rfl rfl dX12_clear_1 (fun r1 => ?_)
  refine s_if_ne (tgt := 9) dX12_clear_4 (by decide) (fun q2 => ?_) (fun q2 => ?_)
  · skip
    refine s_aload0 0 rfl dX12_clear_9 ?_
    refine s_gr (gR_RX12_152 0) dX12_clear_10 ?_
    refine s_iload1 1 rfl dX12_clear_13 ?_
    refine s_chk (fun q3 => ?_)
    refine s_ial aT_89 q3 dX12_clear_14 ?_
    refine s_istore2 [(2, .inl (r1.2.1 89 0 x1.toNatClampNeg)), (0, .inr (.inr (12, 0))), (1, .inl x1)] rfl rfl dX12_clear_15 ?_
    refine s_aload0 1 rfl dX12_clear_16 ?_
    refine s_gr (gR_RX12_152 0) dX12_clear_17 ?_
    refine s_iload1 2 rfl dX12_clear_20 ?_
    refine s_k0 dX12_clear_21 ?_
    refine s_ias aT_89 q3 dX12_clear_22 ?_
    refine s_iload2 0 rfl dX12_clear_23 ?_
    exact s_ireturn rfl rfl dX12_clear_24
  · skip
    refine s_km1 dX12_clear_7 ?_
    exact s_ireturn rfl rfl dX12_clear_8
set_option maxRecDepth 20000 in
theorem cf_X12_clear (G : mG) (l : Launch) (x1 : Int32)  (h : mH) (b : Int32 × mH) (hb : f_X12_clear x1 h = some b) (hl : ∀ v ∈ ([.inr (.inr (12, 0)), .inl x1] : List mV), mLi v) : mMet G l yX12_clear cX12_clear 3 (some .int) (mRoom 2 42) [.inr (.inr (12, 0)), .inl x1] h (eI b) :=
  mMet.of (y := yX12_clear) (as := [.inr (.inr (12, 0)), .inl x1]) (by decide +kernel) (Nat.le_of_ble_eq_true rfl) (fun X => sf_X12_clear G X x1  h) hl b hb
-- DriverBookModel.narrowed(IJ)J
def f_X12_narrowed (x0 : Int32) (x1 : Int64) (h : mH) : Option (Int64 × mH) :=
  if x0 = 1 then
    some (x1.toInt32.toInt8.toInt32.toInt64, h)
  else
    if x0 = 2 then
      some (x1.toInt32.toInt16.toInt32.toInt64, h)
    else
      if x0 = 3 then
        some (x1.toInt32.toInt64, h)
      else
        some (x1, h)
set_option maxRecDepth 20000 in
theorem sf_X12_narrowed (G : mG) (X : mX) (x0 : Int32) (x1 : Int64)  (h : mH) : Sim G X cX12_narrowed 3 RX12 (some .long) (mRoom 0 0) eJ (f_X12_narrowed x0 x1 h) 0 [(0, .inl x0), (1, .inr (.inl x1))] [] h := by
  unfold f_X12_narrowed
  refine s_iload0 0 rfl dX12_narrowed_0 ?_
  refine s_k1 dX12_narrowed_1 ?_
  refine s_ic_ne (tgt := 12) dX12_narrowed_2 (by decide) (fun q1 => ?_) (fun q1 => ?_)
  · skip
    refine s_iload0 0 rfl dX12_narrowed_12 ?_
    refine s_k2 dX12_narrowed_13 ?_
    refine s_ic_ne (tgt := 24) dX12_narrowed_14 (by decide) (fun q2 => ?_) (fun q2 => ?_)
    · skip
      refine s_iload0 0 rfl dX12_narrowed_24 ?_
      refine s_k3 dX12_narrowed_25 ?_
      refine s_ic_ne (tgt := 35) dX12_narrowed_26 (by decide) (fun q3 => ?_) (fun q3 => ?_)
      · skip
        refine s_lload1 1 rfl dX12_narrowed_35 ?_
        exact s_lreturn rfl rfl dX12_narrowed_36
      · skip
        refine s_lload1 1 rfl dX12_narrowed_29 ?_
        refine s_l2i dX12_narrowed_30 ?_
        refine s_i2l dX12_narrowed_31 ?_
        refine s_goto (tgt := 36) dX12_narrowed_32 (by decide) ?_
        exact s_lreturn rfl rfl dX12_narrowed_36
    · skip
      refine s_lload1 1 rfl dX12_narrowed_17 ?_
      refine s_l2i dX12_narrowed_18 ?_
      refine s_i2s dX12_narrowed_19 ?_
      refine s_i2l dX12_narrowed_20 ?_
      refine s_goto (tgt := 36) dX12_narrowed_21 (by decide) ?_
      exact s_lreturn rfl rfl dX12_narrowed_36
  · skip
    refine s_lload1 1 rfl dX12_narrowed_5 ?_
    refine s_l2i dX12_narrowed_6 ?_
    refine s_i2b dX12_narrowed_7 ?_
    refine s_i2l dX12_narrowed_8 ?_
    refine s_goto (tgt := 36) dX12_narrowed_9 (by decide) ?_
    exact s_lreturn rfl rfl dX12_narrowed_36
set_option maxRecDepth 20000 in
theorem cf_X12_narrowed (G : mG) (l : Launch) (x0 : Int32) (x1 : Int64)  (h : mH) (b : Int64 × mH) (hb : f_X12_narrowed x0 x1 h = some b) (hl : ∀ v ∈ ([.inl x0, .inr (.inl x1)] : List mV), mLi v) : mMet G l yX12_narrowed cX12_narrowed 3 (some .long) (mRoom 0 0) [.inl x0, .inr (.inl x1)] h (eJ b) :=
  mMet.of (y := yX12_narrowed) (as := [.inl x0, .inr (.inl x1)]) (by decide +kernel) (Nat.le_of_ble_eq_true rfl) (fun X => sf_X12_narrowed G X x0 x1  h) hl b hb
-- DriverBookModel.put(IIJ)I
def f_X12_put (x1 : Int32) (x2 : Int32) (x3 : Int64) (h : mH) : Option (Int32 × mH) :=
  (f_X12_isTape x1 h).bind fun r1 =>
  if r1.1 = 0 then
    some ((-1), r1.2)
  else
    if mIn x1 6 = true then
    if (r1.2.1 89 0 x1.toNatClampNeg) = 0 then
      (f_X12_refuse (-11) r1.2).bind fun r12 =>
      some (r12.1, r12.2)
    else
      if (r1.2.1 89 0 x1.toNatClampNeg) = 5 then
        (f_X12_refuse (-12) r1.2).bind fun r11 =>
        some (r11.1, r11.2)
      else
        (f_X12_in x2 0 ((r1.2.1 90 0 x1.toNatClampNeg) - 1) r1.2).bind fun r6 =>
        if r6.1 = 0 then
          (f_X12_refuse (-13) r6.2).bind fun r10 =>
          some (r10.1, r10.2)
        else
          (f_X12_narrowed (r6.2.1 89 0 x1.toNatClampNeg) x3 r6.2).bind fun r8 =>
          if mIn ((64 * x1) + x2) 384 = true then
          some (1, uJ r8.2 91 0 ((64 * x1) + x2).toNatClampNeg r8.1)
          else none
    else none
set_option maxRecDepth 20000 in
theorem sf_X12_put (G : mG) (X : mX) (x1 : Int32) (x2 : Int32) (x3 : Int64)  (h : mH) : Sim G X cX12_put 5 RX12 (some .int) (mRoom 2 42) eI (f_X12_put x1 x2 x3 h) 0 [(0, .inr (.inr (12, 0))), (1, .inl x1), (2, .inl x2), (3, .inr (.inl x3))] [] h := by
  unfold f_X12_put
  refine s_iload1 1 rfl dX12_put_0 ?_
  refine s_siI [.inl x1] (fun l b hb hl => cf_X12_isTape G l x1 h b hb hl) me_X12_isTape si_RX12_343 rfl rfl rfl rfl rfl dX12_put_1 (fun r1 => ?_)
  refine s_if_ne (tgt := 9) dX12_put_4 (by decide) (fun q2 => ?_) (fun q2 => ?_)
  · skip
    refine s_aload0 0 rfl dX12_put_9 ?_
    refine s_gr (gR_RX12_152 0) dX12_put_10 ?_
    refine s_iload1 1 rfl dX12_put_13 ?_
    refine s_chk (fun q3 => ?_)
    refine s_ial aT_89 q3 dX12_put_14 ?_
    refine s_if_ne (tgt := 25) dX12_put_15 (by decide) (fun q4 => ?_) (fun q4 => ?_)
    · skip
      refine s_aload0 0 rfl dX12_put_25 ?_
      refine s_gr (gR_RX12_152 0) dX12_put_26 ?_
      refine s_iload1 1 rfl dX12_put_29 ?_
      refine s_ial aT_89 q3 dX12_put_30 ?_
      refine s_k5 dX12_put_31 ?_
      refine s_ic_ne (tgt := 42) dX12_put_32 (by decide) (fun q5 => ?_) (fun q5 => ?_)
      · skip
        refine s_iload2 2 rfl dX12_put_42 ?_
        refine s_k0 dX12_put_43 ?_
        refine s_aload0 0 rfl dX12_put_44 ?_
        refine s_gr (gR_RX12_155 0) dX12_put_45 ?_
        refine s_iload1 1 rfl dX12_put_48 ?_
        refine s_ial aT_90 q3 dX12_put_49 ?_
        refine s_k1 dX12_put_50 ?_
        refine s_isub dX12_put_51 ?_
        refine s_siI [.inl x2, .inl 0, .inl ((r1.2.1 90 0 x1.toNatClampNeg) - 1)] (fun l b hb hl => cf_X12_in G l x2 0 ((r1.2.1 90 0 x1.toNatClampNeg) - 1) r1.2 b hb hl) me_X12_in si_RX12_184 rfl rfl rfl rfl rfl dX12_put_52 (fun r6 => ?_)
        refine s_if_ne (tgt := 65) dX12_put_55 (by decide) (fun q7 => ?_) (fun q7 => ?_)
        · skip
          refine s_aload0 0 rfl dX12_put_65 ?_
          refine s_gr (gR_RX12_158 0) dX12_put_66 ?_
          refine s_bip 64 kb_64 dX12_put_69 ?_
          refine s_iload1 1 rfl dX12_put_71 ?_
          refine s_imul dX12_put_72 ?_
          refine s_iload2 2 rfl dX12_put_73 ?_
          refine s_iadd dX12_put_74 ?_
          refine s_aload0 0 rfl dX12_put_75 ?_
          refine s_gr (gR_RX12_152 0) dX12_put_76 ?_
          refine s_iload1 1 rfl dX12_put_79 ?_
          refine s_ial aT_89 q3 dX12_put_80 ?_
          refine s_lload3 3 rfl dX12_put_81 ?_
          refine s_siJ [.inl (r6.2.1 89 0 x1.toNatClampNeg), .inr (.inl x3)] (fun l b hb hl => cf_X12_narrowed G l (r6.2.1 89 0 x1.toNatClampNeg) x3 r6.2 b hb hl) me_X12_narrowed si_RX12_352 rfl rfl rfl rfl rfl dX12_put_82 (fun r8 => ?_)
          refine s_chk (fun q9 => ?_)
          refine s_las aT_91 q9 dX12_put_85 ?_
          refine s_k1 dX12_put_86 ?_
          exact s_ireturn rfl rfl dX12_put_87
        · skip
          refine s_aload0 0 rfl dX12_put_58 ?_
          refine s_bip (-13) kb_m13 dX12_put_59 ?_
          refine s_viI [.inl (-13)] (fun l b hb hl => cf_X12_refuse G l (-13) r6.2 b hb hl) me_X12_refuse vi_RX12_346 rfl rfl rfl rfl rfl dX12_put_61 (fun r10 => ?_)
          exact s_ireturn rfl rfl dX12_put_64
      · skip
        refine s_aload0 0 rfl dX12_put_35 ?_
        refine s_bip (-12) kb_m12 dX12_put_36 ?_
        refine s_viI [.inl (-12)] (fun l b hb hl => cf_X12_refuse G l (-12) r1.2 b hb hl) me_X12_refuse vi_RX12_346 rfl rfl rfl rfl rfl dX12_put_38 (fun r11 => ?_)
        exact s_ireturn rfl rfl dX12_put_41
    · skip
      refine s_aload0 0 rfl dX12_put_18 ?_
      refine s_bip (-11) kb_m11 dX12_put_19 ?_
      refine s_viI [.inl (-11)] (fun l b hb hl => cf_X12_refuse G l (-11) r1.2 b hb hl) me_X12_refuse vi_RX12_346 rfl rfl rfl rfl rfl dX12_put_21 (fun r12 => ?_)
      exact s_ireturn rfl rfl dX12_put_24
  · skip
    refine s_km1 dX12_put_7 ?_
    exact s_ireturn rfl rfl dX12_put_8
set_option maxRecDepth 20000 in
theorem cf_X12_put (G : mG) (l : Launch) (x1 : Int32) (x2 : Int32) (x3 : Int64)  (h : mH) (b : Int32 × mH) (hb : f_X12_put x1 x2 x3 h = some b) (hl : ∀ v ∈ ([.inr (.inr (12, 0)), .inl x1, .inl x2, .inr (.inl x3)] : List mV), mLi v) : mMet G l yX12_put cX12_put 5 (some .int) (mRoom 2 42) [.inr (.inr (12, 0)), .inl x1, .inl x2, .inr (.inl x3)] h (eI b) :=
  mMet.of (y := yX12_put) (as := [.inr (.inr (12, 0)), .inl x1, .inl x2, .inr (.inl x3)]) (by decide +kernel) (Nat.le_of_ble_eq_true rfl) (fun X => sf_X12_put G X x1 x2 x3  h) hl b hb
-- DriverBookModel.at(II)J
def f_X12_at (x1 : Int32) (x2 : Int32) (h : mH) : Option (Int64 × mH) :=
  (f_X12_isTape x1 h).bind fun r1 =>
  if r1.1 = 0 then
    mLet (uI r1.2 12 0 0 1) fun h20 =>
    if (h20.1 12 0 0) = 0 then
      if mIn ((64 * x1) + x2) 384 = true then
      some (h20.2 91 0 ((64 * x1) + x2).toNatClampNeg, h20)
      else none
    else
      some (0, h20)
  else
    if mIn x1 6 = true then
    if (r1.2.1 89 0 x1.toNatClampNeg) = 0 then
      mLet (uI r1.2 12 0 0 2) fun h5 =>
      if (h5.1 12 0 0) = 0 then
        if mIn ((64 * x1) + x2) 384 = true then
        some (h5.2 91 0 ((64 * x1) + x2).toNatClampNeg, h5)
        else none
      else
        some (0, h5)
    else
      if (r1.2.1 89 0 x1.toNatClampNeg) = 5 then
        mLet (uI r1.2 12 0 0 2) fun h9 =>
        if (h9.1 12 0 0) = 0 then
          if mIn ((64 * x1) + x2) 384 = true then
          some (h9.2 91 0 ((64 * x1) + x2).toNatClampNeg, h9)
          else none
        else
          some (0, h9)
      else
        (f_X12_in x2 0 ((r1.2.1 90 0 x1.toNatClampNeg) - 1) r1.2).bind fun r12 =>
        if r12.1 = 0 then
          mLet (uI r12.2 12 0 0 2) fun h17 =>
          if (h17.1 12 0 0) = 0 then
            if mIn ((64 * x1) + x2) 384 = true then
            some (h17.2 91 0 ((64 * x1) + x2).toNatClampNeg, h17)
            else none
          else
            some (0, h17)
        else
          mLet (uI r12.2 12 0 0 0) fun h14 =>
          if (h14.1 12 0 0) = 0 then
            if mIn ((64 * x1) + x2) 384 = true then
            some (h14.2 91 0 ((64 * x1) + x2).toNatClampNeg, h14)
            else none
          else
            some (0, h14)
    else none
set_option maxRecDepth 20000 in
theorem sf_X12_at (G : mG) (X : mX) (x1 : Int32) (x2 : Int32)  (h : mH) : Sim G X cX12_at 3 RX12 (some .long) (mRoom 2 42) eJ (f_X12_at x1 x2 h) 0 [(0, .inr (.inr (12, 0))), (1, .inl x1), (2, .inl x2)] [] h := by
  unfold f_X12_at
  refine s_aload0 0 rfl dX12_at_0 ?_
  refine s_iload1 1 rfl dX12_at_1 ?_
  refine s_siI [.inl x1] (fun l b hb hl => cf_X12_isTape G l x1 h b hb hl) me_X12_isTape si_RX12_343 rfl rfl rfl rfl rfl dX12_at_2 (fun r1 => ?_)
  refine s_if_ne (tgt := 12) dX12_at_5 (by decide) (fun q2 => ?_) (fun q2 => ?_)
  · skip
    refine s_aload0 0 rfl dX12_at_12 ?_
    refine s_gr (gR_RX12_152 0) dX12_at_13 ?_
    refine s_iload1 1 rfl dX12_at_16 ?_
    refine s_chk (fun q3 => ?_)
    refine s_ial aT_89 q3 dX12_at_17 ?_
    refine s_if_eq (tgt := 47) dX12_at_18 (by decide) (fun q4 => ?_) (fun q4 => ?_)
    · skip
      refine s_k2 dX12_at_47 ?_
      refine s_goto (tgt := 52) dX12_at_48 (by decide) ?_
      refine s_pi pI_RX12_178 dX12_at_52 ?_
      refine s_aload0 0 rfl dX12_at_55 ?_
      refine s_let (fun h5 => ?_)
      refine s_gi gI_RX12_178 dX12_at_56 ?_
      refine s_if_ne (tgt := 76) dX12_at_59 (by decide) (fun q6 => ?_) (fun q6 => ?_)
      · skip
        refine s_lk0 dX12_at_76 ?_
        exact s_lreturn rfl rfl dX12_at_77
      · skip
        refine s_aload0 0 rfl dX12_at_62 ?_
        refine s_gr (gR_RX12_158 0) dX12_at_63 ?_
        refine s_bip 64 kb_64 dX12_at_66 ?_
        refine s_iload1 1 rfl dX12_at_68 ?_
        refine s_imul dX12_at_69 ?_
        refine s_iload2 2 rfl dX12_at_70 ?_
        refine s_iadd dX12_at_71 ?_
        refine s_chk (fun q7 => ?_)
        refine s_lal aT_91 q7 dX12_at_72 ?_
        refine s_goto (tgt := 77) dX12_at_73 (by decide) ?_
        exact s_lreturn rfl rfl dX12_at_77
    · skip
      refine s_aload0 0 rfl dX12_at_21 ?_
      refine s_gr (gR_RX12_152 0) dX12_at_22 ?_
      refine s_iload1 1 rfl dX12_at_25 ?_
      refine s_ial aT_89 q3 dX12_at_26 ?_
      refine s_k5 dX12_at_27 ?_
      refine s_ic_eq (tgt := 47) dX12_at_28 (by decide) (fun q8 => ?_) (fun q8 => ?_)
      · skip
        refine s_k2 dX12_at_47 ?_
        refine s_goto (tgt := 52) dX12_at_48 (by decide) ?_
        refine s_pi pI_RX12_178 dX12_at_52 ?_
        refine s_aload0 0 rfl dX12_at_55 ?_
        refine s_let (fun h9 => ?_)
        refine s_gi gI_RX12_178 dX12_at_56 ?_
        refine s_if_ne (tgt := 76) dX12_at_59 (by decide) (fun q10 => ?_) (fun q10 => ?_)
        · skip
          refine s_lk0 dX12_at_76 ?_
          exact s_lreturn rfl rfl dX12_at_77
        · skip
          refine s_aload0 0 rfl dX12_at_62 ?_
          refine s_gr (gR_RX12_158 0) dX12_at_63 ?_
          refine s_bip 64 kb_64 dX12_at_66 ?_
          refine s_iload1 1 rfl dX12_at_68 ?_
          refine s_imul dX12_at_69 ?_
          refine s_iload2 2 rfl dX12_at_70 ?_
          refine s_iadd dX12_at_71 ?_
          refine s_chk (fun q11 => ?_)
          refine s_lal aT_91 q11 dX12_at_72 ?_
          refine s_goto (tgt := 77) dX12_at_73 (by decide) ?_
          exact s_lreturn rfl rfl dX12_at_77
      · skip
        refine s_iload2 2 rfl dX12_at_31 ?_
        refine s_k0 dX12_at_32 ?_
        refine s_aload0 0 rfl dX12_at_33 ?_
        refine s_gr (gR_RX12_155 0) dX12_at_34 ?_
        refine s_iload1 1 rfl dX12_at_37 ?_
        refine s_ial aT_90 q3 dX12_at_38 ?_
        refine s_k1 dX12_at_39 ?_
        refine s_isub dX12_at_40 ?_
        refine s_siI [.inl x2, .inl 0, .inl ((r1.2.1 90 0 x1.toNatClampNeg) - 1)] (fun l b hb hl => cf_X12_in G l x2 0 ((r1.2.1 90 0 x1.toNatClampNeg) - 1) r1.2 b hb hl) me_X12_in si_RX12_184 rfl rfl rfl rfl rfl dX12_at_41 (fun r12 => ?_)
        refine s_if_ne (tgt := 51) dX12_at_44 (by decide) (fun q13 => ?_) (fun q13 => ?_)
        · skip
          refine s_k0 dX12_at_51 ?_
          refine s_pi pI_RX12_178 dX12_at_52 ?_
          refine s_aload0 0 rfl dX12_at_55 ?_
          refine s_let (fun h14 => ?_)
          refine s_gi gI_RX12_178 dX12_at_56 ?_
          refine s_if_ne (tgt := 76) dX12_at_59 (by decide) (fun q15 => ?_) (fun q15 => ?_)
          · skip
            refine s_lk0 dX12_at_76 ?_
            exact s_lreturn rfl rfl dX12_at_77
          · skip
            refine s_aload0 0 rfl dX12_at_62 ?_
            refine s_gr (gR_RX12_158 0) dX12_at_63 ?_
            refine s_bip 64 kb_64 dX12_at_66 ?_
            refine s_iload1 1 rfl dX12_at_68 ?_
            refine s_imul dX12_at_69 ?_
            refine s_iload2 2 rfl dX12_at_70 ?_
            refine s_iadd dX12_at_71 ?_
            refine s_chk (fun q16 => ?_)
            refine s_lal aT_91 q16 dX12_at_72 ?_
            refine s_goto (tgt := 77) dX12_at_73 (by decide) ?_
            exact s_lreturn rfl rfl dX12_at_77
        · skip
          refine s_k2 dX12_at_47 ?_
          refine s_goto (tgt := 52) dX12_at_48 (by decide) ?_
          refine s_pi pI_RX12_178 dX12_at_52 ?_
          refine s_aload0 0 rfl dX12_at_55 ?_
          refine s_let (fun h17 => ?_)
          refine s_gi gI_RX12_178 dX12_at_56 ?_
          refine s_if_ne (tgt := 76) dX12_at_59 (by decide) (fun q18 => ?_) (fun q18 => ?_)
          · skip
            refine s_lk0 dX12_at_76 ?_
            exact s_lreturn rfl rfl dX12_at_77
          · skip
            refine s_aload0 0 rfl dX12_at_62 ?_
            refine s_gr (gR_RX12_158 0) dX12_at_63 ?_
            refine s_bip 64 kb_64 dX12_at_66 ?_
            refine s_iload1 1 rfl dX12_at_68 ?_
            refine s_imul dX12_at_69 ?_
            refine s_iload2 2 rfl dX12_at_70 ?_
            refine s_iadd dX12_at_71 ?_
            refine s_chk (fun q19 => ?_)
            refine s_lal aT_91 q19 dX12_at_72 ?_
            refine s_goto (tgt := 77) dX12_at_73 (by decide) ?_
            exact s_lreturn rfl rfl dX12_at_77
  · skip
    refine s_k1 dX12_at_8 ?_
    refine s_goto (tgt := 52) dX12_at_9 (by decide) ?_
    refine s_pi pI_RX12_178 dX12_at_52 ?_
    refine s_aload0 0 rfl dX12_at_55 ?_
    refine s_let (fun h20 => ?_)
    refine s_gi gI_RX12_178 dX12_at_56 ?_
    refine s_if_ne (tgt := 76) dX12_at_59 (by decide) (fun q21 => ?_) (fun q21 => ?_)
    · skip
      refine s_lk0 dX12_at_76 ?_
      exact s_lreturn rfl rfl dX12_at_77
    · skip
      refine s_aload0 0 rfl dX12_at_62 ?_
      refine s_gr (gR_RX12_158 0) dX12_at_63 ?_
      refine s_bip 64 kb_64 dX12_at_66 ?_
      refine s_iload1 1 rfl dX12_at_68 ?_
      refine s_imul dX12_at_69 ?_
      refine s_iload2 2 rfl dX12_at_70 ?_
      refine s_iadd dX12_at_71 ?_
      refine s_chk (fun q22 => ?_)
      refine s_lal aT_91 q22 dX12_at_72 ?_
      refine s_goto (tgt := 77) dX12_at_73 (by decide) ?_
      exact s_lreturn rfl rfl dX12_at_77
set_option maxRecDepth 20000 in
theorem cf_X12_at (G : mG) (l : Launch) (x1 : Int32) (x2 : Int32)  (h : mH) (b : Int64 × mH) (hb : f_X12_at x1 x2 h = some b) (hl : ∀ v ∈ ([.inr (.inr (12, 0)), .inl x1, .inl x2] : List mV), mLi v) : mMet G l yX12_at cX12_at 3 (some .long) (mRoom 2 42) [.inr (.inr (12, 0)), .inl x1, .inl x2] h (eJ b) :=
  mMet.of (y := yX12_at) (as := [.inr (.inr (12, 0)), .inl x1, .inl x2]) (by decide +kernel) (Nat.le_of_ble_eq_true rfl) (fun X => sf_X12_at G X x1 x2  h) hl b hb
-- DriverBookModel.copy(IIIII)I
def f_X12_copy_124 (k : Int32 → Int32 → Int32 → Int32 → Int32 → Int32 → mH → Option (Int32 × mH))  : Nat → Int32 → Int32 → Int32 → Int32 → Int32 → Int32 → mH → Option (Int32 × mH)
  | 0, _, _, _, _, _, _, _ => none
  | n + 1, v1, v2, v3, v4, v5, v6, h =>
    if v6 < v5 then
      if mIn (((64 * v1) + v2) + v6) 384 = true then
      if mIn v6 64 = true then
      f_X12_copy_124 k  n v1 v2 v3 v4 v5 (v6 + 1) (uJ h 96 0 v6.toNatClampNeg (h.2 91 0 (((64 * v1) + v2) + v6).toNatClampNeg))
      else none
      else none
    else
      k v1 v2 v3 v4 v5 v6 h
def f_X12_copy_161 (k : Int32 → Int32 → Int32 → Int32 → mH → Option (Int32 × mH))  : Nat → Int32 → Int32 → Int32 → Int32 → mH → Option (Int32 × mH)
  | 0, _, _, _, _, _ => none
  | n + 1, v3, v4, v5, v6, h =>
    if v6 < v5 then
      if mIn v6 64 = true then
      if mIn (((64 * v3) + v4) + v6) 384 = true then
      f_X12_copy_161 k  n v3 v4 v5 (v6 + 1) (uJ h 91 0 (((64 * v3) + v4) + v6).toNatClampNeg (h.2 96 0 v6.toNatClampNeg))
      else none
      else none
    else
      k v3 v4 v5 v6 h
def f_X12_copy (x1 : Int32) (x2 : Int32) (x3 : Int32) (x4 : Int32) (x5 : Int32) (h : mH) : Option (Int32 × mH) :=
  (f_X12_isTape x1 h).bind fun r1 =>
  if r1.1 = 0 then
    some ((-1), r1.2)
  else
    (f_X12_isTape x3 r1.2).bind fun r3 =>
    if r3.1 = 0 then
      some ((-1), r3.2)
    else
      if mIn x1 6 = true then
      if (r3.2.1 89 0 x1.toNatClampNeg) = 0 then
        (f_X12_refuse (-11) r3.2).bind fun r7 =>
        some (r7.1, r7.2)
      else
        if mIn x3 6 = true then
        if (r3.2.1 89 0 x3.toNatClampNeg) = 0 then
          (f_X12_refuse (-11) r3.2).bind fun r42 =>
          some (r42.1, r42.2)
        else
          if (r3.2.1 89 0 x1.toNatClampNeg) = 5 then
            (f_X12_refuse (-12) r3.2).bind fun r11 =>
            some (r11.1, r11.2)
          else
            if (r3.2.1 89 0 x1.toNatClampNeg) = (r3.2.1 89 0 x3.toNatClampNeg) then
              if x5 < 0 then
                (f_X12_refuse (-13) r3.2).bind fun r14 =>
                some (r14.1, r14.2)
              else
                if x2 < 0 then
                  (f_X12_refuse (-13) r3.2).bind fun r16 =>
                  some (r16.1, r16.2)
                else
                  if x4 < 0 then
                    (f_X12_refuse (-13) r3.2).bind fun r18 =>
                    some (r18.1, r18.2)
                  else
                    if x5 ≤ ((r3.2.1 90 0 x1.toNatClampNeg) - x2) then
                      if x5 ≤ ((r3.2.1 90 0 x3.toNatClampNeg) - x4) then
                        f_X12_copy_124 (fun u25 u26 u27 u28 u29 u30 h31 =>
                          f_X12_copy_161 (fun u35 u36 u37 u38 h39 =>
                            some (u37, h39))  mFu u27 u28 u29 0 h31)  mFu x1 x2 x3 x4 x5 0 r3.2
                      else
                        (f_X12_refuse (-13) r3.2).bind fun r40 =>
                        some (r40.1, r40.2)
                    else
                      (f_X12_refuse (-13) r3.2).bind fun r20 =>
                      some (r20.1, r20.2)
            else
              (f_X12_refuse (-12) r3.2).bind fun r41 =>
              some (r41.1, r41.2)
        else none
      else none
set_option maxRecDepth 20000 in
theorem sf_X12_copy_124 (G : mG) (X : mX)   (k : Int32 → Int32 → Int32 → Int32 → Int32 → Int32 → mH → Option (Int32 × mH)) (hk : ∀ (v1 : Int32) (v2 : Int32) (v3 : Int32) (v4 : Int32) (v5 : Int32) (v6 : Int32) (h : mH), Sim G X cX12_copy 7 RX12 (some .int) (mRoom 2 42) eI (k v1 v2 v3 v4 v5 v6 h) 158 [(0, .inr (.inr (12, 0))), (1, .inl v1), (2, .inl v2), (3, .inl v3), (4, .inl v4), (5, .inl v5), (6, .inl v6)] [] h) (n : Nat) : ∀ (v1 : Int32) (v2 : Int32) (v3 : Int32) (v4 : Int32) (v5 : Int32) (v6 : Int32) (h : mH), Sim G X cX12_copy 7 RX12 (some .int) (mRoom 2 42) eI (f_X12_copy_124 k  n v1 v2 v3 v4 v5 v6 h) 124 [(0, .inr (.inr (12, 0))), (1, .inl v1), (2, .inl v2), (3, .inl v3), (4, .inl v4), (5, .inl v5), (6, .inl v6)] [] h := by
  induction n with
  | zero =>
    intro v1 v2 v3 v4 v5 v6 h
    exact s_none
  | succ n ih =>
    intro v1 v2 v3 v4 v5 v6 h
    unfold f_X12_copy_124
    refine s_iload 6 rfl dX12_copy_124 ?_
    refine s_iload 5 rfl dX12_copy_126 ?_
    refine s_ic_ge (tgt := 158) dX12_copy_128 (by decide) (fun q22 => ?_) (fun q22 => ?_)
    · skip
      exact s_loc [0, 1, 2, 3, 4, 5, 6] rfl (hk v1 v2 v3 v4 v5 v6 h)
    · skip
      refine s_aload0 0 rfl dX12_copy_131 ?_
      refine s_gr (gR_RX12_175 0) dX12_copy_132 ?_
      refine s_iload 6 rfl dX12_copy_135 ?_
      refine s_aload0 0 rfl dX12_copy_137 ?_
      refine s_gr (gR_RX12_158 0) dX12_copy_138 ?_
      refine s_bip 64 kb_64 dX12_copy_141 ?_
      refine s_iload1 1 rfl dX12_copy_143 ?_
      refine s_imul dX12_copy_144 ?_
      refine s_iload2 2 rfl dX12_copy_145 ?_
      refine s_iadd dX12_copy_146 ?_
      refine s_iload 6 rfl dX12_copy_147 ?_
      refine s_iadd dX12_copy_149 ?_
      refine s_chk (fun q23 => ?_)
      refine s_lal aT_91 q23 dX12_copy_150 ?_
      refine s_chk (fun q24 => ?_)
      refine s_las aT_96 q24 dX12_copy_151 ?_
      refine s_iincw 1 (by decide) 6 [(6, .inl (v6 + 1)), (0, .inr (.inr (12, 0))), (1, .inl v1), (2, .inl v2), (3, .inl v3), (4, .inl v4), (5, .inl v5)] rfl rfl rfl dX12_copy_152 ?_
      refine s_goto (tgt := 124) dX12_copy_155 (by decide) ?_
      exact s_loc [1, 2, 3, 4, 5, 6, 0] rfl (ih v1 v2 v3 v4 v5 (v6 + 1) (uJ h 96 0 v6.toNatClampNeg (h.2 91 0 (((64 * v1) + v2) + v6).toNatClampNeg)))
set_option maxRecDepth 20000 in
theorem sf_X12_copy_161 (G : mG) (X : mX)   (k : Int32 → Int32 → Int32 → Int32 → mH → Option (Int32 × mH)) (hk : ∀ (v3 : Int32) (v4 : Int32) (v5 : Int32) (v6 : Int32) (h : mH), Sim G X cX12_copy 7 RX12 (some .int) (mRoom 2 42) eI (k v3 v4 v5 v6 h) 196 [(0, .inr (.inr (12, 0))), (3, .inl v3), (4, .inl v4), (5, .inl v5), (6, .inl v6)] [] h) (n : Nat) : ∀ (v3 : Int32) (v4 : Int32) (v5 : Int32) (v6 : Int32) (h : mH), Sim G X cX12_copy 7 RX12 (some .int) (mRoom 2 42) eI (f_X12_copy_161 k  n v3 v4 v5 v6 h) 161 [(0, .inr (.inr (12, 0))), (3, .inl v3), (4, .inl v4), (5, .inl v5), (6, .inl v6)] [] h := by
  induction n with
  | zero =>
    intro v3 v4 v5 v6 h
    exact s_none
  | succ n ih =>
    intro v3 v4 v5 v6 h
    unfold f_X12_copy_161
    refine s_iload 4 rfl dX12_copy_161 ?_
    refine s_iload 3 rfl dX12_copy_163 ?_
    refine s_ic_ge (tgt := 196) dX12_copy_165 (by decide) (fun q32 => ?_) (fun q32 => ?_)
    · skip
      exact s_loc [0, 1, 2, 3, 4] rfl (hk v3 v4 v5 v6 h)
    · skip
      refine s_aload0 0 rfl dX12_copy_168 ?_
      refine s_gr (gR_RX12_158 0) dX12_copy_169 ?_
      refine s_bip 64 kb_64 dX12_copy_172 ?_
      refine s_iload3 1 rfl dX12_copy_174 ?_
      refine s_imul dX12_copy_175 ?_
      refine s_iload 2 rfl dX12_copy_176 ?_
      refine s_iadd dX12_copy_178 ?_
      refine s_iload 4 rfl dX12_copy_179 ?_
      refine s_iadd dX12_copy_181 ?_
      refine s_aload0 0 rfl dX12_copy_182 ?_
      refine s_gr (gR_RX12_175 0) dX12_copy_183 ?_
      refine s_iload 4 rfl dX12_copy_186 ?_
      refine s_chk (fun q33 => ?_)
      refine s_lal aT_96 q33 dX12_copy_188 ?_
      refine s_chk (fun q34 => ?_)
      refine s_las aT_91 q34 dX12_copy_189 ?_
      refine s_iincw 1 (by decide) 4 [(6, .inl (v6 + 1)), (0, .inr (.inr (12, 0))), (3, .inl v3), (4, .inl v4), (5, .inl v5)] rfl rfl rfl dX12_copy_190 ?_
      refine s_goto (tgt := 161) dX12_copy_193 (by decide) ?_
      exact s_loc [1, 2, 3, 4, 0] rfl (ih v3 v4 v5 (v6 + 1) (uJ h 91 0 (((64 * v3) + v4) + v6).toNatClampNeg (h.2 96 0 v6.toNatClampNeg)))
set_option maxRecDepth 20000 in
theorem sf_X12_copy (G : mG) (X : mX) (x1 : Int32) (x2 : Int32) (x3 : Int32) (x4 : Int32) (x5 : Int32)  (h : mH) : Sim G X cX12_copy 7 RX12 (some .int) (mRoom 2 42) eI (f_X12_copy x1 x2 x3 x4 x5 h) 0 [(0, .inr (.inr (12, 0))), (1, .inl x1), (2, .inl x2), (3, .inl x3), (4, .inl x4), (5, .inl x5)] [] h := by
  unfold f_X12_copy
  refine s_iload1 1 rfl dX12_copy_0 ?_
  refine s_siI [.inl x1] (fun l b hb hl => cf_X12_isTape G l x1 h b hb hl) me_X12_isTape si_RX12_343 rfl rfl rfl rfl rfl dX12_copy_1 (fun r1 => ?_)
  refine s_if_eq (tgt := 14) dX12_copy_4 (by decide) (fun q2 => ?_) (fun q2 => ?_)
  · skip
    refine s_km1 dX12_copy_14 ?_
    exact s_ireturn rfl rfl dX12_copy_15
  · skip
    refine s_iload3 3 rfl dX12_copy_7 ?_
    refine s_siI [.inl x3] (fun l b hb hl => cf_X12_isTape G l x3 r1.2 b hb hl) me_X12_isTape si_RX12_343 rfl rfl rfl rfl rfl dX12_copy_8 (fun r3 => ?_)
    refine s_if_ne (tgt := 16) dX12_copy_11 (by decide) (fun q4 => ?_) (fun q4 => ?_)
    · skip
      refine s_aload0 0 rfl dX12_copy_16 ?_
      refine s_gr (gR_RX12_152 0) dX12_copy_17 ?_
      refine s_iload1 1 rfl dX12_copy_20 ?_
      refine s_chk (fun q5 => ?_)
      refine s_ial aT_89 q5 dX12_copy_21 ?_
      refine s_if_eq (tgt := 34) dX12_copy_22 (by decide) (fun q6 => ?_) (fun q6 => ?_)
      · skip
        refine s_aload0 0 rfl dX12_copy_34 ?_
        refine s_bip (-11) kb_m11 dX12_copy_35 ?_
        refine s_viI [.inl (-11)] (fun l b hb hl => cf_X12_refuse G l (-11) r3.2 b hb hl) me_X12_refuse vi_RX12_346 rfl rfl rfl rfl rfl dX12_copy_37 (fun r7 => ?_)
        exact s_ireturn rfl rfl dX12_copy_40
      · skip
        refine s_aload0 0 rfl dX12_copy_25 ?_
        refine s_gr (gR_RX12_152 0) dX12_copy_26 ?_
        refine s_iload3 3 rfl dX12_copy_29 ?_
        refine s_chk (fun q8 => ?_)
        refine s_ial aT_89 q8 dX12_copy_30 ?_
        refine s_if_ne (tgt := 41) dX12_copy_31 (by decide) (fun q9 => ?_) (fun q9 => ?_)
        · skip
          refine s_aload0 0 rfl dX12_copy_41 ?_
          refine s_gr (gR_RX12_152 0) dX12_copy_42 ?_
          refine s_iload1 1 rfl dX12_copy_45 ?_
          refine s_ial aT_89 q5 dX12_copy_46 ?_
          refine s_k5 dX12_copy_47 ?_
          refine s_ic_eq (tgt := 66) dX12_copy_48 (by decide) (fun q10 => ?_) (fun q10 => ?_)
          · skip
            refine s_aload0 0 rfl dX12_copy_66 ?_
            refine s_bip (-12) kb_m12 dX12_copy_67 ?_
            refine s_viI [.inl (-12)] (fun l b hb hl => cf_X12_refuse G l (-12) r3.2 b hb hl) me_X12_refuse vi_RX12_346 rfl rfl rfl rfl rfl dX12_copy_69 (fun r11 => ?_)
            exact s_ireturn rfl rfl dX12_copy_72
          · skip
            refine s_aload0 0 rfl dX12_copy_51 ?_
            refine s_gr (gR_RX12_152 0) dX12_copy_52 ?_
            refine s_iload1 1 rfl dX12_copy_55 ?_
            refine s_ial aT_89 q5 dX12_copy_56 ?_
            refine s_aload0 0 rfl dX12_copy_57 ?_
            refine s_gr (gR_RX12_152 0) dX12_copy_58 ?_
            refine s_iload3 3 rfl dX12_copy_61 ?_
            refine s_ial aT_89 q8 dX12_copy_62 ?_
            refine s_ic_eq (tgt := 73) dX12_copy_63 (by decide) (fun q12 => ?_) (fun q12 => ?_)
            · skip
              refine s_iload 5 rfl dX12_copy_73 ?_
              refine s_if_lt (tgt := 114) dX12_copy_75 (by decide) (fun q13 => ?_) (fun q13 => ?_)
              · skip
                refine s_aload0 0 rfl dX12_copy_114 ?_
                refine s_bip (-13) kb_m13 dX12_copy_115 ?_
                refine s_viI [.inl (-13)] (fun l b hb hl => cf_X12_refuse G l (-13) r3.2 b hb hl) me_X12_refuse vi_RX12_346 rfl rfl rfl rfl rfl dX12_copy_117 (fun r14 => ?_)
                exact s_ireturn rfl rfl dX12_copy_120
              · skip
                refine s_iload2 2 rfl dX12_copy_78 ?_
                refine s_if_lt (tgt := 114) dX12_copy_79 (by decide) (fun q15 => ?_) (fun q15 => ?_)
                · skip
                  refine s_aload0 0 rfl dX12_copy_114 ?_
                  refine s_bip (-13) kb_m13 dX12_copy_115 ?_
                  refine s_viI [.inl (-13)] (fun l b hb hl => cf_X12_refuse G l (-13) r3.2 b hb hl) me_X12_refuse vi_RX12_346 rfl rfl rfl rfl rfl dX12_copy_117 (fun r16 => ?_)
                  exact s_ireturn rfl rfl dX12_copy_120
                · skip
                  refine s_iload 4 rfl dX12_copy_82 ?_
                  refine s_if_lt (tgt := 114) dX12_copy_84 (by decide) (fun q17 => ?_) (fun q17 => ?_)
                  · skip
                    refine s_aload0 0 rfl dX12_copy_114 ?_
                    refine s_bip (-13) kb_m13 dX12_copy_115 ?_
                    refine s_viI [.inl (-13)] (fun l b hb hl => cf_X12_refuse G l (-13) r3.2 b hb hl) me_X12_refuse vi_RX12_346 rfl rfl rfl rfl rfl dX12_copy_117 (fun r18 => ?_)
                    exact s_ireturn rfl rfl dX12_copy_120
                  · skip
                    refine s_iload 5 rfl dX12_copy_87 ?_
                    refine s_aload0 0 rfl dX12_copy_89 ?_
                    refine s_gr (gR_RX12_155 0) dX12_copy_90 ?_
                    refine s_iload1 1 rfl dX12_copy_93 ?_
                    refine s_ial aT_90 q5 dX12_copy_94 ?_
                    refine s_iload2 2 rfl dX12_copy_95 ?_
                    refine s_isub dX12_copy_96 ?_
                    refine s_ic_gt (tgt := 114) dX12_copy_97 (by decide) (fun q19 => ?_) (fun q19 => ?_)
                    · skip
                      refine s_aload0 0 rfl dX12_copy_114 ?_
                      refine s_bip (-13) kb_m13 dX12_copy_115 ?_
                      refine s_viI [.inl (-13)] (fun l b hb hl => cf_X12_refuse G l (-13) r3.2 b hb hl) me_X12_refuse vi_RX12_346 rfl rfl rfl rfl rfl dX12_copy_117 (fun r20 => ?_)
                      exact s_ireturn rfl rfl dX12_copy_120
                    · skip
                      refine s_iload 5 rfl dX12_copy_100 ?_
                      refine s_aload0 0 rfl dX12_copy_102 ?_
                      refine s_gr (gR_RX12_155 0) dX12_copy_103 ?_
                      refine s_iload3 3 rfl dX12_copy_106 ?_
                      refine s_ial aT_90 q8 dX12_copy_107 ?_
                      refine s_iload 4 rfl dX12_copy_108 ?_
                      refine s_isub dX12_copy_110 ?_
                      refine s_ic_le (tgt := 121) dX12_copy_111 (by decide) (fun q21 => ?_) (fun q21 => ?_)
                      · skip
                        refine s_k0 dX12_copy_121 ?_
                        refine s_istorew [(6, .inl 0), (0, .inr (.inr (12, 0))), (1, .inl x1), (2, .inl x2), (3, .inl x3), (4, .inl x4), (5, .inl x5)] rfl rfl dX12_copy_122 ?_
                        refine s_loc [1, 2, 3, 4, 5, 6, 0] rfl ?_
                        refine sf_X12_copy_124 G X  _ (fun u25 u26 u27 u28 u29 u30 h31 => ?_) mFu x1 x2 x3 x4 x5 0 r3.2
                        · skip
                          refine s_k0 dX12_copy_158 ?_
                          refine s_istorew [(6, .inl 0), (0, .inr (.inr (12, 0))), (1, .inl u25), (2, .inl u26), (3, .inl u27), (4, .inl u28), (5, .inl u29)] rfl rfl dX12_copy_159 ?_
                          refine s_loc [1, 4, 5, 6, 0] rfl ?_
                          refine sf_X12_copy_161 G X  _ (fun u35 u36 u37 u38 h39 => ?_) mFu u27 u28 u29 0 h31
                          · skip
                            refine s_iload 3 rfl dX12_copy_196 ?_
                            exact s_ireturn rfl rfl dX12_copy_198
                      · skip
                        refine s_aload0 0 rfl dX12_copy_114 ?_
                        refine s_bip (-13) kb_m13 dX12_copy_115 ?_
                        refine s_viI [.inl (-13)] (fun l b hb hl => cf_X12_refuse G l (-13) r3.2 b hb hl) me_X12_refuse vi_RX12_346 rfl rfl rfl rfl rfl dX12_copy_117 (fun r40 => ?_)
                        exact s_ireturn rfl rfl dX12_copy_120
            · skip
              refine s_aload0 0 rfl dX12_copy_66 ?_
              refine s_bip (-12) kb_m12 dX12_copy_67 ?_
              refine s_viI [.inl (-12)] (fun l b hb hl => cf_X12_refuse G l (-12) r3.2 b hb hl) me_X12_refuse vi_RX12_346 rfl rfl rfl rfl rfl dX12_copy_69 (fun r41 => ?_)
              exact s_ireturn rfl rfl dX12_copy_72
        · skip
          refine s_aload0 0 rfl dX12_copy_34 ?_
          refine s_bip (-11) kb_m11 dX12_copy_35 ?_
          refine s_viI [.inl (-11)] (fun l b hb hl => cf_X12_refuse G l (-11) r3.2 b hb hl) me_X12_refuse vi_RX12_346 rfl rfl rfl rfl rfl dX12_copy_37 (fun r42 => ?_)
          exact s_ireturn rfl rfl dX12_copy_40
    · skip
      refine s_km1 dX12_copy_14 ?_
      exact s_ireturn rfl rfl dX12_copy_15
set_option maxRecDepth 20000 in
theorem cf_X12_copy (G : mG) (l : Launch) (x1 : Int32) (x2 : Int32) (x3 : Int32) (x4 : Int32) (x5 : Int32)  (h : mH) (b : Int32 × mH) (hb : f_X12_copy x1 x2 x3 x4 x5 h = some b) (hl : ∀ v ∈ ([.inr (.inr (12, 0)), .inl x1, .inl x2, .inl x3, .inl x4, .inl x5] : List mV), mLi v) : mMet G l yX12_copy cX12_copy 7 (some .int) (mRoom 2 42) [.inr (.inr (12, 0)), .inl x1, .inl x2, .inl x3, .inl x4, .inl x5] h (eI b) :=
  mMet.of (y := yX12_copy) (as := [.inr (.inr (12, 0)), .inl x1, .inl x2, .inl x3, .inl x4, .inl x5]) (by decide +kernel) (Nat.le_of_ble_eq_true rfl) (fun X => sf_X12_copy G X x1 x2 x3 x4 x5  h) hl b hb
-- DriverBookModel.count(I)I
def f_X12_count (x1 : Int32) (h : mH) : Option (Int32 × mH) :=
  if x1 = 0 then
    some (h.1 12 0 1, h)
  else
  if x1 = 1 then
    some (h.1 12 0 2, h)
  else
  if x1 = 2 then
    some (h.1 12 0 11, h)
  else
  if x1 = 3 then
    some (h.1 12 0 16, h)
  else
  if x1 = 4 then
    some (h.1 12 0 23, h)
  else
  if x1 = 5 then
    some (h.1 12 0 37, h)
  else
  if x1 = 6 then
    some (h.1 12 0 30, h)
  else
  if x1 = 7 then
    some (h.1 12 0 22, h)
  else
  if x1 = 8 then
    some (h.1 12 0 62, h)
  else
    some ((-1), h)
set_option maxRecDepth 20000 in
theorem sf_X12_count (G : mG) (X : mX) (x1 : Int32)  (h : mH) : Sim G X cX12_count 2 RX12 (some .int) (mRoom 0 0) eI (f_X12_count x1 h) 0 [(0, .inr (.inr (12, 0))), (1, .inl x1)] [] h := by
  unfold f_X12_count
  refine s_iload1 1 rfl dX12_count_0 ?_
  refine s_case (fun q1 => ?_) (fun q1 => ?_)
  · skip
    refine s_tabP dX12_count_1 0 q1 52 (by decide) (by decide) ?_
    refine s_aload0 0 rfl dX12_count_52 ?_
    refine s_gi gI_RX12_7 dX12_count_53 ?_
    exact s_ireturn rfl rfl dX12_count_56
  refine s_case (fun q2 => ?_) (fun q2 => ?_)
  · skip
    refine s_tabP dX12_count_1 1 q2 57 (by decide) (by decide) ?_
    refine s_aload0 0 rfl dX12_count_57 ?_
    refine s_gi gI_RX12_181 dX12_count_58 ?_
    exact s_ireturn rfl rfl dX12_count_61
  refine s_case (fun q3 => ?_) (fun q3 => ?_)
  · skip
    refine s_tabP dX12_count_1 2 q3 62 (by decide) (by decide) ?_
    refine s_aload0 0 rfl dX12_count_62 ?_
    refine s_gi gI_RX12_225 dX12_count_63 ?_
    exact s_ireturn rfl rfl dX12_count_66
  refine s_case (fun q4 => ?_) (fun q4 => ?_)
  · skip
    refine s_tabP dX12_count_1 3 q4 67 (by decide) (by decide) ?_
    refine s_aload0 0 rfl dX12_count_67 ?_
    refine s_gi gI_RX12_188 dX12_count_68 ?_
    exact s_ireturn rfl rfl dX12_count_71
  refine s_case (fun q5 => ?_) (fun q5 => ?_)
  · skip
    refine s_tabP dX12_count_1 4 q5 72 (by decide) (by decide) ?_
    refine s_aload0 0 rfl dX12_count_72 ?_
    refine s_gi gI_RX12_198 dX12_count_73 ?_
    exact s_ireturn rfl rfl dX12_count_76
  refine s_case (fun q6 => ?_) (fun q6 => ?_)
  · skip
    refine s_tabP dX12_count_1 5 q6 77 (by decide) (by decide) ?_
    refine s_aload0 0 rfl dX12_count_77 ?_
    refine s_gi gI_RX12_213 dX12_count_78 ?_
    exact s_ireturn rfl rfl dX12_count_81
  refine s_case (fun q7 => ?_) (fun q7 => ?_)
  · skip
    refine s_tabP dX12_count_1 6 q7 82 (by decide) (by decide) ?_
    refine s_aload0 0 rfl dX12_count_82 ?_
    refine s_gi gI_RX12_201 dX12_count_83 ?_
    exact s_ireturn rfl rfl dX12_count_86
  refine s_case (fun q8 => ?_) (fun q8 => ?_)
  · skip
    refine s_tabP dX12_count_1 7 q8 87 (by decide) (by decide) ?_
    refine s_aload0 0 rfl dX12_count_87 ?_
    refine s_gi gI_RX12_65 dX12_count_88 ?_
    exact s_ireturn rfl rfl dX12_count_91
  refine s_case (fun q9 => ?_) (fun q9 => ?_)
  · skip
    refine s_tabP dX12_count_1 8 q9 92 (by decide) (by decide) ?_
    refine s_aload0 0 rfl dX12_count_92 ?_
    refine s_gi gI_RX12_195 dX12_count_93 ?_
    exact s_ireturn rfl rfl dX12_count_96
  refine s_tabD dX12_count_1 [0, 1, 2, 3, 4, 5, 6, 7, 8] (by refine List.forall_mem_cons.mpr ⟨q1, ?_⟩; refine List.forall_mem_cons.mpr ⟨q2, ?_⟩; refine List.forall_mem_cons.mpr ⟨q3, ?_⟩; refine List.forall_mem_cons.mpr ⟨q4, ?_⟩; refine List.forall_mem_cons.mpr ⟨q5, ?_⟩; refine List.forall_mem_cons.mpr ⟨q6, ?_⟩; refine List.forall_mem_cons.mpr ⟨q7, ?_⟩; refine List.forall_mem_cons.mpr ⟨q8, ?_⟩; refine List.forall_mem_cons.mpr ⟨q9, ?_⟩; exact fun _ z => absurd z List.not_mem_nil) (by decide) (by decide) 97 (by decide) ?_
  · skip
    refine s_km1 dX12_count_97 ?_
    exact s_ireturn rfl rfl dX12_count_98
set_option maxRecDepth 20000 in
theorem cf_X12_count (G : mG) (l : Launch) (x1 : Int32)  (h : mH) (b : Int32 × mH) (hb : f_X12_count x1 h = some b) (hl : ∀ v ∈ ([.inr (.inr (12, 0)), .inl x1] : List mV), mLi v) : mMet G l yX12_count cX12_count 2 (some .int) (mRoom 0 0) [.inr (.inr (12, 0)), .inl x1] h (eI b) :=
  mMet.of (y := yX12_count) (as := [.inr (.inr (12, 0)), .inl x1]) (by decide +kernel) (Nat.le_of_ble_eq_true rfl) (fun X => sf_X12_count G X x1  h) hl b hb
