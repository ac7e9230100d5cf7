-- DriverBookModel.bitsOf(II)I
def f_X12_bitsOf (x1 : Int32) (x2 : Int32) (h : mH) : Option (Int32 × mH) :=
  if mIn x1 24 = true then
  (f_X12_most x1 h).bind fun r2 =>
  some ((x2 >>> ((h.1 47 0 x1.toNatClampNeg) &&& 31)) &&& r2.1, r2.2)
  else none
set_option maxRecDepth 20000 in
theorem sf_X12_bitsOf (G : mG) (X : mX) (x1 : Int32) (x2 : Int32)  (h : mH) : Sim G X cX12_bitsOf 3 RX12 (some .int) (mRoom 1 21) eI (f_X12_bitsOf x1 x2 h) 0 [(0, .inr (.inr (12, 0))), (1, .inl x1), (2, .inl x2)] [] h := by
  unfold f_X12_bitsOf
  refine s_iload2 2 rfl dX12_bitsOf_0 ?_
  refine s_aload0 0 rfl dX12_bitsOf_1 ?_
  refine s_gr (gR_RX12_17 0) dX12_bitsOf_2 ?_
  refine s_iload1 1 rfl dX12_bitsOf_5 ?_
  refine s_chk (fun q1 => ?_)
  refine s_ial aT_47 q1 dX12_bitsOf_6 ?_
  refine s_ishr dX12_bitsOf_7 ?_
  refine s_aload0 0 rfl dX12_bitsOf_8 ?_
  refine s_iload1 1 rfl dX12_bitsOf_9 ?_
  refine s_viI [.inl x1] (fun l b hb hl => cf_X12_most G l x1 h b hb hl) me_X12_most vi_RX12_191 rfl rfl rfl rfl rfl dX12_bitsOf_10 (fun r2 => ?_)
  refine s_iand dX12_bitsOf_13 ?_
  exact s_ireturn rfl rfl dX12_bitsOf_14
set_option maxRecDepth 20000 in
theorem cf_X12_bitsOf (G : mG) (l : Launch) (x1 : Int32) (x2 : Int32)  (h : mH) (b : Int32 × mH) (hb : f_X12_bitsOf x1 x2 h = some b) (hl : ∀ v ∈ ([.inr (.inr (12, 0)), .inl x1, .inl x2] : List mV), mLi v) : mMet G l yX12_bitsOf cX12_bitsOf 3 (some .int) (mRoom 1 21) [.inr (.inr (12, 0)), .inl x1, .inl x2] h (eI b) :=
  mMet.of (y := yX12_bitsOf) (as := [.inr (.inr (12, 0)), .inl x1, .inl x2]) (by decide +kernel) (Nat.le_of_ble_eq_true rfl) (fun X => sf_X12_bitsOf G X x1 x2  h) hl b hb
-- DriverBookModel.hits(III)Z
def f_X12_hits (x1 : Int32) (x2 : Int32) (x3 : Int32) (h : mH) : Option (Int32 × mH) :=
  if mIn x1 24 = true then
  if (h.1 46 0 x1.toNatClampNeg) = x2 then
    (f_X12_bitsOf x1 x3 h).bind fun r3 =>
    if (r3.2.1 49 0 x1.toNatClampNeg) = 0 then
      if r3.1 = (r3.2.1 63 0 x1.toNatClampNeg) then
        some (0, r3.2)
      else
        some (1, r3.2)
    else
    if (r3.2.1 49 0 x1.toNatClampNeg) = 2 then
      if r3.1 = 0 then
        some (0, r3.2)
      else
        some (1, r3.2)
    else
    if (r3.2.1 49 0 x1.toNatClampNeg) = 4 then
      if r3.1 = 0 then
        some (0, r3.2)
      else
        some (1, r3.2)
    else
    if (r3.2.1 49 0 x1.toNatClampNeg) = 5 then
      if r3.1 = (r3.2.1 64 0 x1.toNatClampNeg) then
        some (0, r3.2)
      else
        some (1, r3.2)
    else
    if (r3.2.1 49 0 x1.toNatClampNeg) = 6 then
      if r3.1 = 0 then
        some (0, r3.2)
      else
        some (1, r3.2)
    else
      some (0, r3.2)
  else
    some (0, h)
  else none
set_option maxRecDepth 20000 in
theorem sf_X12_hits (G : mG) (X : mX) (x1 : Int32) (x2 : Int32) (x3 : Int32)  (h : mH) : Sim G X cX12_hits 5 RX12 (some .boolean) (mRoom 2 43) eI (f_X12_hits x1 x2 x3 h) 0 [(0, .inr (.inr (12, 0))), (1, .inl x1), (2, .inl x2), (3, .inl x3)] [] h := by
  unfold f_X12_hits
  refine s_aload0 0 rfl dX12_hits_0 ?_
  refine s_gr (gR_RX12_13 0) dX12_hits_1 ?_
  refine s_iload1 1 rfl dX12_hits_4 ?_
  refine s_chk (fun q1 => ?_)
  refine s_ial aT_46 q1 dX12_hits_5 ?_
  refine s_iload2 2 rfl dX12_hits_6 ?_
  refine s_ic_eq (tgt := 12) dX12_hits_7 (by decide) (fun q2 => ?_) (fun q2 => ?_)
  · skip
    refine s_aload0 0 rfl dX12_hits_12 ?_
    refine s_iload1 1 rfl dX12_hits_13 ?_
    refine s_iload3 3 rfl dX12_hits_14 ?_
    refine s_viI [.inl x1, .inl x3] (fun l b hb hl => cf_X12_bitsOf G l x1 x3 h b hb hl) me_X12_bitsOf vi_RX12_247 rfl rfl rfl rfl rfl dX12_hits_15 (fun r3 => ?_)
    refine s_istorew [(4, .inl r3.1), (0, .inr (.inr (12, 0))), (1, .inl x1), (2, .inl x2), (3, .inl x3)] rfl rfl dX12_hits_18 ?_
    refine s_aload0 1 rfl dX12_hits_20 ?_
    refine s_gr (gR_RX12_23 0) dX12_hits_21 ?_
    refine s_iload1 2 rfl dX12_hits_24 ?_
    refine s_ial aT_49 q1 dX12_hits_25 ?_
    refine s_case (fun q4 => ?_) (fun q4 => ?_)
    · skip
      refine s_tabP dX12_hits_26 0 q4 68 (by decide) (by decide) ?_
      refine s_iload 0 rfl dX12_hits_68 ?_
      refine s_aload0 1 rfl dX12_hits_70 ?_
      refine s_gr (gR_RX12_68 0) dX12_hits_71 ?_
      refine s_iload1 2 rfl dX12_hits_74 ?_
      refine s_ial aT_63 q1 dX12_hits_75 ?_
      refine s_ic_eq (tgt := 83) dX12_hits_76 (by decide) (fun q5 => ?_) (fun q5 => ?_)
      · skip
        refine s_k0 dX12_hits_83 ?_
        exact s_zreturn rfl rfl (Or.inl rfl) dX12_hits_84
      · skip
        refine s_k1 dX12_hits_79 ?_
        refine s_goto (tgt := 84) dX12_hits_80 (by decide) ?_
        exact s_zreturn rfl rfl (Or.inr rfl) dX12_hits_84
    refine s_case (fun q6 => ?_) (fun q6 => ?_)
    · skip
      refine s_tabP dX12_hits_26 2 q6 102 (by decide) (by decide) ?_
      refine s_iload 0 rfl dX12_hits_102 ?_
      refine s_if_eq (tgt := 111) dX12_hits_104 (by decide) (fun q7 => ?_) (fun q7 => ?_)
      · skip
        refine s_k0 dX12_hits_111 ?_
        exact s_zreturn rfl rfl (Or.inl rfl) dX12_hits_112
      · skip
        refine s_k1 dX12_hits_107 ?_
        refine s_goto (tgt := 112) dX12_hits_108 (by decide) ?_
        exact s_zreturn rfl rfl (Or.inr rfl) dX12_hits_112
    refine s_case (fun q8 => ?_) (fun q8 => ?_)
    · skip
      refine s_tabP dX12_hits_26 4 q8 102 (by decide) (by decide) ?_
      refine s_iload 0 rfl dX12_hits_102 ?_
      refine s_if_eq (tgt := 111) dX12_hits_104 (by decide) (fun q9 => ?_) (fun q9 => ?_)
      · skip
        refine s_k0 dX12_hits_111 ?_
        exact s_zreturn rfl rfl (Or.inl rfl) dX12_hits_112
      · skip
        refine s_k1 dX12_hits_107 ?_
        refine s_goto (tgt := 112) dX12_hits_108 (by decide) ?_
        exact s_zreturn rfl rfl (Or.inr rfl) dX12_hits_112
    refine s_case (fun q10 => ?_) (fun q10 => ?_)
    · skip
      refine s_tabP dX12_hits_26 5 q10 85 (by decide) (by decide) ?_
      refine s_iload 0 rfl dX12_hits_85 ?_
      refine s_aload0 1 rfl dX12_hits_87 ?_
      refine s_gr (gR_RX12_71 0) dX12_hits_88 ?_
      refine s_iload1 2 rfl dX12_hits_91 ?_
      refine s_ial aT_64 q1 dX12_hits_92 ?_
      refine s_ic_eq (tgt := 100) dX12_hits_93 (by decide) (fun q11 => ?_) (fun q11 => ?_)
      · skip
        refine s_k0 dX12_hits_100 ?_
        exact s_zreturn rfl rfl (Or.inl rfl) dX12_hits_101
      · skip
        refine s_k1 dX12_hits_96 ?_
        refine s_goto (tgt := 101) dX12_hits_97 (by decide) ?_
        exact s_zreturn rfl rfl (Or.inr rfl) dX12_hits_101
    refine s_case (fun q12 => ?_) (fun q12 => ?_)
    · skip
      refine s_tabP dX12_hits_26 6 q12 102 (by decide) (by decide) ?_
      refine s_iload 0 rfl dX12_hits_102 ?_
      refine s_if_eq (tgt := 111) dX12_hits_104 (by decide) (fun q13 => ?_) (fun q13 => ?_)
      · skip
        refine s_k0 dX12_hits_111 ?_
        exact s_zreturn rfl rfl (Or.inl rfl) dX12_hits_112
      · skip
        refine s_k1 dX12_hits_107 ?_
        refine s_goto (tgt := 112) dX12_hits_108 (by decide) ?_
        exact s_zreturn rfl rfl (Or.inr rfl) dX12_hits_112
    refine s_tabD dX12_hits_26 [0, 2, 4, 5, 6] (by refine List.forall_mem_cons.mpr ⟨q4, ?_⟩; refine List.forall_mem_cons.mpr ⟨q6, ?_⟩; refine List.forall_mem_cons.mpr ⟨q8, ?_⟩; refine List.forall_mem_cons.mpr ⟨q10, ?_⟩; refine List.forall_mem_cons.mpr ⟨q12, ?_⟩; exact fun _ z => absurd z List.not_mem_nil) (by decide) (by decide) 113 (by decide) ?_
    · skip
      refine s_k0 dX12_hits_113 ?_
      exact s_zreturn rfl rfl (Or.inl rfl) dX12_hits_114
  · skip
    refine s_k0 dX12_hits_10 ?_
    exact s_zreturn rfl rfl (Or.inl rfl) dX12_hits_11
set_option maxRecDepth 20000 in
theorem cf_X12_hits (G : mG) (l : Launch) (x1 : Int32) (x2 : Int32) (x3 : Int32)  (h : mH) (b : Int32 × mH) (hb : f_X12_hits x1 x2 x3 h = some b) (hl : ∀ v ∈ ([.inr (.inr (12, 0)), .inl x1, .inl x2, .inl x3] : List mV), mLi v) : mMet G l yX12_hits cX12_hits 5 (some .boolean) (mRoom 2 43) [.inr (.inr (12, 0)), .inl x1, .inl x2, .inl x3] h (eI b) :=
  mMet.of (y := yX12_hits) (as := [.inr (.inr (12, 0)), .inl x1, .inl x2, .inl x3]) (by decide +kernel) (Nat.le_of_ble_eq_true rfl) (fun X => sf_X12_hits G X x1 x2 x3  h) hl b hb
-- DriverBookModel.isBroken(I)Z
def f_X12_isBroken (x1 : Int32) (h : mH) : Option (Int32 × mH) :=
  if mIn x1 12 = true then
  if (h.1 54 0 x1.toNatClampNeg) = 0 then
    if mIn (h.1 56 0 x1.toNatClampNeg) 24 = true then
    if (h.1 63 0 (h.1 56 0 x1.toNatClampNeg).toNatClampNeg) = (h.1 57 0 x1.toNatClampNeg) then
      some (1, h)
    else
      some (0, h)
    else none
  else
  if (h.1 54 0 x1.toNatClampNeg) = 1 then
    if mIn (h.1 56 0 x1.toNatClampNeg) 24 = true then
    if (h.1 63 0 (h.1 56 0 x1.toNatClampNeg).toNatClampNeg) = (h.1 57 0 x1.toNatClampNeg) then
      some (0, h)
    else
      some (1, h)
    else none
  else
    if mIn (h.1 56 0 x1.toNatClampNeg) 24 = true then
    if (h.1 67 0 (h.1 56 0 x1.toNatClampNeg).toNatClampNeg) = (-1) then
      some (0, h)
    else
      if ((h.1 12 0 23) - (h.1 67 0 (h.1 56 0 x1.toNatClampNeg).toNatClampNeg)) < (h.1 57 0 x1.toNatClampNeg) then
        some (1, h)
      else
        some (0, h)
    else none
  else none
set_option maxRecDepth 20000 in
theorem sf_X12_isBroken (G : mG) (X : mX) (x1 : Int32)  (h : mH) : Sim G X cX12_isBroken 3 RX12 (some .boolean) (mRoom 0 0) eI (f_X12_isBroken x1 h) 0 [(0, .inr (.inr (12, 0))), (1, .inl x1)] [] h := by
  unfold f_X12_isBroken
  refine s_aload0 0 rfl dX12_isBroken_0 ?_
  refine s_gr (gR_RX12_44 0) dX12_isBroken_1 ?_
  refine s_iload1 1 rfl dX12_isBroken_4 ?_
  refine s_chk (fun q1 => ?_)
  refine s_ial aT_56 q1 dX12_isBroken_5 ?_
  refine s_istore2 [(2, .inl (h.1 56 0 x1.toNatClampNeg)), (0, .inr (.inr (12, 0))), (1, .inl x1)] rfl rfl dX12_isBroken_6 ?_
  refine s_aload0 1 rfl dX12_isBroken_7 ?_
  refine s_gr (gR_RX12_38 0) dX12_isBroken_8 ?_
  refine s_iload1 2 rfl dX12_isBroken_11 ?_
  refine s_ial aT_54 q1 dX12_isBroken_12 ?_
  refine s_case (fun q2 => ?_) (fun q2 => ?_)
  · skip
    refine s_lokP dX12_isBroken_13 0 q2 (by decide) 40 (by decide) ?_
    refine s_aload0 1 rfl dX12_isBroken_40 ?_
    refine s_gr (gR_RX12_68 0) dX12_isBroken_41 ?_
    refine s_iload2 0 rfl dX12_isBroken_44 ?_
    refine s_chk (fun q3 => ?_)
    refine s_ial aT_63 q3 dX12_isBroken_45 ?_
    refine s_aload0 1 rfl dX12_isBroken_46 ?_
    refine s_gr (gR_RX12_47 0) dX12_isBroken_47 ?_
    refine s_iload1 2 rfl dX12_isBroken_50 ?_
    refine s_ial aT_57 q1 dX12_isBroken_51 ?_
    refine s_ic_ne (tgt := 59) dX12_isBroken_52 (by decide) (fun q4 => ?_) (fun q4 => ?_)
    · skip
      refine s_k0 dX12_isBroken_59 ?_
      exact s_zreturn rfl rfl (Or.inl rfl) dX12_isBroken_60
    · skip
      refine s_k1 dX12_isBroken_55 ?_
      refine s_goto (tgt := 60) dX12_isBroken_56 (by decide) ?_
      exact s_zreturn rfl rfl (Or.inr rfl) dX12_isBroken_60
  refine s_case (fun q5 => ?_) (fun q5 => ?_)
  · skip
    refine s_lokP dX12_isBroken_13 1 q5 (by decide) 61 (by decide) ?_
    refine s_aload0 1 rfl dX12_isBroken_61 ?_
    refine s_gr (gR_RX12_68 0) dX12_isBroken_62 ?_
    refine s_iload2 0 rfl dX12_isBroken_65 ?_
    refine s_chk (fun q6 => ?_)
    refine s_ial aT_63 q6 dX12_isBroken_66 ?_
    refine s_aload0 1 rfl dX12_isBroken_67 ?_
    refine s_gr (gR_RX12_47 0) dX12_isBroken_68 ?_
    refine s_iload1 2 rfl dX12_isBroken_71 ?_
    refine s_ial aT_57 q1 dX12_isBroken_72 ?_
    refine s_ic_eq (tgt := 80) dX12_isBroken_73 (by decide) (fun q7 => ?_) (fun q7 => ?_)
    · skip
      refine s_k0 dX12_isBroken_80 ?_
      exact s_zreturn rfl rfl (Or.inl rfl) dX12_isBroken_81
    · skip
      refine s_k1 dX12_isBroken_76 ?_
      refine s_goto (tgt := 81) dX12_isBroken_77 (by decide) ?_
      exact s_zreturn rfl rfl (Or.inr rfl) dX12_isBroken_81
  refine s_lokD dX12_isBroken_13 [0, 1] (by refine List.forall_mem_cons.mpr ⟨q2, ?_⟩; refine List.forall_mem_cons.mpr ⟨q5, ?_⟩; exact fun _ z => absurd z List.not_mem_nil) (by decide) (by decide) 82 (by decide) ?_
  · skip
    refine s_aload0 1 rfl dX12_isBroken_82 ?_
    refine s_gr (gR_RX12_80 0) dX12_isBroken_83 ?_
    refine s_iload2 0 rfl dX12_isBroken_86 ?_
    refine s_chk (fun q8 => ?_)
    refine s_ial aT_67 q8 dX12_isBroken_87 ?_
    refine s_km1 dX12_isBroken_88 ?_
    refine s_ic_eq (tgt := 116) dX12_isBroken_89 (by decide) (fun q9 => ?_) (fun q9 => ?_)
    · skip
      refine s_k0 dX12_isBroken_116 ?_
      exact s_zreturn rfl rfl (Or.inl rfl) dX12_isBroken_117
    · skip
      refine s_aload0 1 rfl dX12_isBroken_92 ?_
      refine s_gi gI_RX12_198 dX12_isBroken_93 ?_
      refine s_aload0 1 rfl dX12_isBroken_96 ?_
      refine s_gr (gR_RX12_80 0) dX12_isBroken_97 ?_
      refine s_iload2 0 rfl dX12_isBroken_100 ?_
      refine s_ial aT_67 q8 dX12_isBroken_101 ?_
      refine s_isub dX12_isBroken_102 ?_
      refine s_aload0 1 rfl dX12_isBroken_103 ?_
      refine s_gr (gR_RX12_47 0) dX12_isBroken_104 ?_
      refine s_iload1 2 rfl dX12_isBroken_107 ?_
      refine s_ial aT_57 q1 dX12_isBroken_108 ?_
      refine s_ic_ge (tgt := 116) dX12_isBroken_109 (by decide) (fun q10 => ?_) (fun q10 => ?_)
      · skip
        refine s_k0 dX12_isBroken_116 ?_
        exact s_zreturn rfl rfl (Or.inl rfl) dX12_isBroken_117
      · skip
        refine s_k1 dX12_isBroken_112 ?_
        refine s_goto (tgt := 117) dX12_isBroken_113 (by decide) ?_
        exact s_zreturn rfl rfl (Or.inr rfl) dX12_isBroken_117
set_option maxRecDepth 20000 in
theorem cf_X12_isBroken (G : mG) (l : Launch) (x1 : Int32)  (h : mH) (b : Int32 × mH) (hb : f_X12_isBroken x1 h = some b) (hl : ∀ v ∈ ([.inr (.inr (12, 0)), .inl x1] : List mV), mLi v) : mMet G l yX12_isBroken cX12_isBroken 3 (some .boolean) (mRoom 0 0) [.inr (.inr (12, 0)), .inl x1] h (eI b) :=
  mMet.of (y := yX12_isBroken) (as := [.inr (.inr (12, 0)), .inl x1]) (by decide +kernel) (Nat.le_of_ble_eq_true rfl) (fun X => sf_X12_isBroken G X x1  h) hl b hb
-- DriverBookModel.judges(II)V
def f_X12_judges_2 (k : Int32 → Int32 → Int32 → mH → Option (mH))  : Nat → Int32 → Int32 → Int32 → mH → Option (mH)
  | 0, _, _, _, _ => none
  | n + 1, v1, v2, v3, h =>
    if v3 < (h.1 12 0 11) then
      if mIn v3 12 = true then
      (f_X12_hits (h.1 55 0 v3.toNatClampNeg) v1 v2 h).bind fun r3 =>
      if r3.1 = 0 then
        f_X12_judges_2 k  n v1 v2 (v3 + 1) r3.2
      else
        (f_X12_isBroken v3 r3.2).bind fun r5 =>
        if r5.1 = 0 then
          f_X12_judges_2 k  n v1 v2 (v3 + 1) r5.2
        else
          if (r5.2.1 12 0 34) = 0 then
            mLet (uI r5.2 12 0 35 v3) fun h8 =>
            mLet (uI h8 12 0 36 (h8.1 12 0 23)) fun h9 =>
            f_X12_judges_2 k  n v1 v2 (v3 + 1) (uI h9 12 0 34 ((h9.1 12 0 34) + 1))
          else
            f_X12_judges_2 k  n v1 v2 (v3 + 1) (uI r5.2 12 0 34 ((r5.2.1 12 0 34) + 1))
      else none
    else
      k v1 v2 v3 h
def f_X12_judges (x1 : Int32) (x2 : Int32) (h : mH) : Option (mH) :=
  f_X12_judges_2 (fun u10 u11 u12 h13 =>
    some h13)  mFu x1 x2 0 h
set_option maxRecDepth 20000 in
theorem sf_X12_judges_2 (G : mG) (X : mX)   (k : Int32 → Int32 → Int32 → mH → Option (mH)) (hk : ∀ (v1 : Int32) (v2 : Int32) (v3 : Int32) (h : mH), Sim G X cX12_judges 4 RX12 none (mRoom 3 67) eV (k v1 v2 v3 h) 69 [(0, .inr (.inr (12, 0))), (1, .inl v1), (2, .inl v2), (3, .inl v3)] [] h) (n : Nat) : ∀ (v1 : Int32) (v2 : Int32) (v3 : Int32) (h : mH), Sim G X cX12_judges 4 RX12 none (mRoom 3 67) eV (f_X12_judges_2 k  n v1 v2 v3 h) 2 [(0, .inr (.inr (12, 0))), (1, .inl v1), (2, .inl v2), (3, .inl v3)] [] h := by
  induction n with
  | zero =>
    intro v1 v2 v3 h
    exact s_none
  | succ n ih =>
    intro v1 v2 v3 h
    unfold f_X12_judges_2
    refine s_iload3 3 rfl dX12_judges_2 ?_
    refine s_aload0 0 rfl dX12_judges_3 ?_
    refine s_gi gI_RX12_225 dX12_judges_4 ?_
    refine s_ic_ge (tgt := 69) dX12_judges_7 (by decide) (fun q1 => ?_) (fun q1 => ?_)
    · skip
      exact s_loc [0, 1, 2, 3] rfl (hk v1 v2 v3 h)
    · skip
      refine s_aload0 0 rfl dX12_judges_10 ?_
      refine s_aload0 0 rfl dX12_judges_11 ?_
      refine s_gr (gR_RX12_41 0) dX12_judges_12 ?_
      refine s_iload3 3 rfl dX12_judges_15 ?_
      refine s_chk (fun q2 => ?_)
      refine s_ial aT_55 q2 dX12_judges_16 ?_
      refine s_iload1 1 rfl dX12_judges_17 ?_
      refine s_iload2 2 rfl dX12_judges_18 ?_
      refine s_viI [.inl (h.1 55 0 v3.toNatClampNeg), .inl v1, .inl v2] (fun l b hb hl => cf_X12_hits G l (h.1 55 0 v3.toNatClampNeg) v1 v2 h b hb hl) me_X12_hits vi_RX12_251 rfl rfl rfl rfl rfl dX12_judges_19 (fun r3 => ?_)
      refine s_if_eq (tgt := 63) dX12_judges_22 (by decide) (fun q4 => ?_) (fun q4 => ?_)
      · skip
        refine s_iincw 1 (by decide) 3 [(3, .inl (v3 + 1)), (0, .inr (.inr (12, 0))), (1, .inl v1), (2, .inl v2)] rfl rfl rfl dX12_judges_63 ?_
        refine s_goto (tgt := 2) dX12_judges_66 (by decide) ?_
        exact s_loc [1, 2, 3, 0] rfl (ih v1 v2 (v3 + 1) r3.2)
      · skip
        refine s_aload0 0 rfl dX12_judges_25 ?_
        refine s_iload3 3 rfl dX12_judges_26 ?_
        refine s_viI [.inl v3] (fun l b hb hl => cf_X12_isBroken G l v3 r3.2 b hb hl) me_X12_isBroken vi_RX12_254 rfl rfl rfl rfl rfl dX12_judges_27 (fun r5 => ?_)
        refine s_if_eq (tgt := 63) dX12_judges_30 (by decide) (fun q6 => ?_) (fun q6 => ?_)
        · skip
          refine s_iincw 1 (by decide) 3 [(3, .inl (v3 + 1)), (0, .inr (.inr (12, 0))), (1, .inl v1), (2, .inl v2)] rfl rfl rfl dX12_judges_63 ?_
          refine s_goto (tgt := 2) dX12_judges_66 (by decide) ?_
          exact s_loc [1, 2, 3, 0] rfl (ih v1 v2 (v3 + 1) r5.2)
        · skip
          refine s_aload0 0 rfl dX12_judges_33 ?_
          refine s_gi gI_RX12_204 dX12_judges_34 ?_
          refine s_if_ne (tgt := 53) dX12_judges_37 (by decide) (fun q7 => ?_) (fun q7 => ?_)
          · skip
            refine s_aload0 0 rfl dX12_judges_53 ?_
            refine s_dup rfl dX12_judges_54 ?_
            refine s_gi gI_RX12_204 dX12_judges_55 ?_
            refine s_k1 dX12_judges_58 ?_
            refine s_iadd dX12_judges_59 ?_
            refine s_pi pI_RX12_204 dX12_judges_60 ?_
            refine s_iincw 1 (by decide) 3 [(3, .inl (v3 + 1)), (0, .inr (.inr (12, 0))), (1, .inl v1), (2, .inl v2)] rfl rfl rfl dX12_judges_63 ?_
            refine s_goto (tgt := 2) dX12_judges_66 (by decide) ?_
            exact s_loc [1, 2, 3, 0] rfl (ih v1 v2 (v3 + 1) (uI r5.2 12 0 34 ((r5.2.1 12 0 34) + 1)))
          · skip
            refine s_aload0 0 rfl dX12_judges_40 ?_
            refine s_iload3 3 rfl dX12_judges_41 ?_
            refine s_pi pI_RX12_207 dX12_judges_42 ?_
            refine s_aload0 0 rfl dX12_judges_45 ?_
            refine s_aload0 0 rfl dX12_judges_46 ?_
            refine s_let (fun h8 => ?_)
            refine s_gi gI_RX12_198 dX12_judges_47 ?_
            refine s_pi pI_RX12_210 dX12_judges_50 ?_
            refine s_aload0 0 rfl dX12_judges_53 ?_
            refine s_dup rfl dX12_judges_54 ?_
            refine s_let (fun h9 => ?_)
            refine s_gi gI_RX12_204 dX12_judges_55 ?_
            refine s_k1 dX12_judges_58 ?_
            refine s_iadd dX12_judges_59 ?_
            refine s_pi pI_RX12_204 dX12_judges_60 ?_
            refine s_iincw 1 (by decide) 3 [(3, .inl (v3 + 1)), (0, .inr (.inr (12, 0))), (1, .inl v1), (2, .inl v2)] rfl rfl rfl dX12_judges_63 ?_
            refine s_goto (tgt := 2) dX12_judges_66 (by decide) ?_
            exact s_loc [1, 2, 3, 0] rfl (ih v1 v2 (v3 + 1) (uI h9 12 0 34 ((h9.1 12 0 34) + 1)))
set_option maxRecDepth 20000 in
theorem sf_X12_judges (G : mG) (X : mX) (x1 : Int32) (x2 : Int32)  (h : mH) : Sim G X cX12_judges 4 RX12 none (mRoom 3 67) eV (f_X12_judges x1 x2 h) 0 [(0, .inr (.inr (12, 0))), (1, .inl x1), (2, .inl x2)] [] h := by
  unfold f_X12_judges
  refine s_k0 dX12_judges_0 ?_
  refine s_istore3 [(3, .inl 0), (0, .inr (.inr (12, 0))), (1, .inl x1), (2, .inl x2)] rfl rfl dX12_judges_1 ?_
  refine s_loc [1, 2, 3, 0] rfl ?_
  refine sf_X12_judges_2 G X  _ (fun u10 u11 u12 h13 => ?_) mFu x1 x2 0 h
  · skip
    exact s_return rfl rfl dX12_judges_69
set_option maxRecDepth 20000 in
theorem cf_X12_judges (G : mG) (l : Launch) (x1 : Int32) (x2 : Int32)  (h : mH) (b : mH) (hb : f_X12_judges x1 x2 h = some b) (hl : ∀ v ∈ ([.inr (.inr (12, 0)), .inl x1, .inl x2] : List mV), mLi v) : mMet G l yX12_judges cX12_judges 4 none (mRoom 3 67) [.inr (.inr (12, 0)), .inl x1, .inl x2] h (eV b) :=
  mMet.of (y := yX12_judges) (as := [.inr (.inr (12, 0)), .inl x1, .inl x2]) (by decide +kernel) (Nat.le_of_ble_eq_true rfl) (fun X => sf_X12_judges G X x1 x2  h) hl b hb
-- DriverBookModel.takes(II)V
def f_X12_takes_133 (k : Int32 → Int32 → mH → Option (mH))  : Nat → Int32 → Int32 → mH → Option (mH)
  | 0, _, _, _ => none
  | n + 1, v2, v3, h =>
    if v3 < (h.1 12 0 2) then
      if v2 = 0 then
        k v2 v3 h
      else
        if mIn v3 24 = true then
        if (h.1 49 0 v3.toNatClampNeg) = 5 then
          f_X12_takes_133 k  n v2 (v3 + 1) (uI h 63 0 v3.toNatClampNeg (h.1 64 0 v3.toNatClampNeg))
        else
          f_X12_takes_133 k  n v2 (v3 + 1) (uI h 63 0 v3.toNatClampNeg (h.1 63 0 v3.toNatClampNeg))
        else none
    else
      k v2 v3 h
def f_X12_takes (x1 : Int32) (x2 : Int32) (h : mH) : Option (mH) :=
  if mIn x1 24 = true then
  if (h.1 49 0 x1.toNatClampNeg) = 0 then
    some (uI h 63 0 x1.toNatClampNeg x2)
  else
  if (h.1 49 0 x1.toNatClampNeg) = 2 then
    some (uI h 63 0 x1.toNatClampNeg ((h.1 63 0 x1.toNatClampNeg) &&& (x2 ^^^ (-1))))
  else
  if (h.1 49 0 x1.toNatClampNeg) = 4 then
    if x2 = 0 then
      mLet (uI h 63 0 x1.toNatClampNeg (h.1 63 0 x1.toNatClampNeg)) fun h6 =>
      some (uI h6 65 0 x1.toNatClampNeg (h6.1 65 0 x1.toNatClampNeg))
    else
      mLet (uI h 63 0 x1.toNatClampNeg x2) fun h7 =>
      some (uI h7 65 0 x1.toNatClampNeg (h7.1 51 0 x1.toNatClampNeg))
  else
  if (h.1 49 0 x1.toNatClampNeg) = 5 then
    some (uI h 64 0 x1.toNatClampNeg x2)
  else
  if (h.1 49 0 x1.toNatClampNeg) = 6 then
    f_X12_takes_133 (fun u14 u15 h16 =>
      some h16)  mFu x2 0 h
  else
    some h
  else none
set_option maxRecDepth 20000 in
theorem sf_X12_takes_133 (G : mG) (X : mX)   (k : Int32 → Int32 → mH → Option (mH)) (hk : ∀ (v2 : Int32) (v3 : Int32) (h : mH), Sim G X cX12_takes 4 RX12 none (mRoom 0 0) eV (k v2 v3 h) 182 [(0, .inr (.inr (12, 0))), (2, .inl v2), (3, .inl v3)] [] h) (n : Nat) : ∀ (v2 : Int32) (v3 : Int32) (h : mH), Sim G X cX12_takes 4 RX12 none (mRoom 0 0) eV (f_X12_takes_133 k  n v2 v3 h) 133 [(0, .inr (.inr (12, 0))), (2, .inl v2), (3, .inl v3)] [] h := by
  induction n with
  | zero =>
    intro v2 v3 h
    exact s_none
  | succ n ih =>
    intro v2 v3 h
    unfold f_X12_takes_133
    refine s_iload3 2 rfl dX12_takes_133 ?_
    refine s_aload0 0 rfl dX12_takes_134 ?_
    refine s_gi gI_RX12_181 dX12_takes_135 ?_
    refine s_ic_ge (tgt := 182) dX12_takes_138 (by decide) (fun q10 => ?_) (fun q10 => ?_)
    · skip
      exact s_loc [0, 1, 2] rfl (hk v2 v3 h)
    · skip
      refine s_iload2 1 rfl dX12_takes_141 ?_
      refine s_if_eq (tgt := 182) dX12_takes_142 (by decide) (fun q11 => ?_) (fun q11 => ?_)
      · skip
        exact s_loc [0, 1, 2] rfl (hk v2 v3 h)
      · skip
        refine s_aload0 0 rfl dX12_takes_145 ?_
        refine s_gr (gR_RX12_68 0) dX12_takes_146 ?_
        refine s_iload3 2 rfl dX12_takes_149 ?_
        refine s_aload0 0 rfl dX12_takes_150 ?_
        refine s_gr (gR_RX12_23 0) dX12_takes_151 ?_
        refine s_iload3 2 rfl dX12_takes_154 ?_
        refine s_chk (fun q12 => ?_)
        refine s_ial aT_49 q12 dX12_takes_155 ?_
        refine s_k5 dX12_takes_156 ?_
        refine s_ic_ne (tgt := 169) dX12_takes_157 (by decide) (fun q13 => ?_) (fun q13 => ?_)
        · skip
          refine s_aload0 0 rfl dX12_takes_169 ?_
          refine s_gr (gR_RX12_68 0) dX12_takes_170 ?_
          refine s_iload3 2 rfl dX12_takes_173 ?_
          refine s_ial aT_63 q12 dX12_takes_174 ?_
          refine s_ias aT_63 q12 dX12_takes_175 ?_
          refine s_iincw 1 (by decide) 2 [(3, .inl (v3 + 1)), (0, .inr (.inr (12, 0))), (2, .inl v2)] rfl rfl rfl dX12_takes_176 ?_
          refine s_goto (tgt := 133) dX12_takes_179 (by decide) ?_
          exact s_loc [1, 2, 0] rfl (ih v2 (v3 + 1) (uI h 63 0 v3.toNatClampNeg (h.1 63 0 v3.toNatClampNeg)))
        · skip
          refine s_aload0 0 rfl dX12_takes_160 ?_
          refine s_gr (gR_RX12_71 0) dX12_takes_161 ?_
          refine s_iload3 2 rfl dX12_takes_164 ?_
          refine s_ial aT_64 q12 dX12_takes_165 ?_
          refine s_goto (tgt := 175) dX12_takes_166 (by decide) ?_
          refine s_ias aT_63 q12 dX12_takes_175 ?_
          refine s_iincw 1 (by decide) 2 [(3, .inl (v3 + 1)), (0, .inr (.inr (12, 0))), (2, .inl v2)] rfl rfl rfl dX12_takes_176 ?_
          refine s_goto (tgt := 133) dX12_takes_179 (by decide) ?_
          exact s_loc [1, 2, 0] rfl (ih v2 (v3 + 1) (uI h 63 0 v3.toNatClampNeg (h.1 64 0 v3.toNatClampNeg)))
set_option maxRecDepth 20000 in
theorem sf_X12_takes (G : mG) (X : mX) (x1 : Int32) (x2 : Int32)  (h : mH) : Sim G X cX12_takes 4 RX12 none (mRoom 0 0) eV (f_X12_takes x1 x2 h) 0 [(0, .inr (.inr (12, 0))), (1, .inl x1), (2, .inl x2)] [] h := by
  unfold f_X12_takes
  refine s_aload0 0 rfl dX12_takes_0 ?_
  refine s_gr (gR_RX12_23 0) dX12_takes_1 ?_
  refine s_iload1 1 rfl dX12_takes_4 ?_
  refine s_chk (fun q1 => ?_)
  refine s_ial aT_49 q1 dX12_takes_5 ?_
  refine s_case (fun q2 => ?_) (fun q2 => ?_)
  · skip
    refine s_tabP dX12_takes_6 0 q2 48 (by decide) (by decide) ?_
    refine s_aload0 0 rfl dX12_takes_48 ?_
    refine s_gr (gR_RX12_68 0) dX12_takes_49 ?_
    refine s_iload1 1 rfl dX12_takes_52 ?_
    refine s_iload2 2 rfl dX12_takes_53 ?_
    refine s_ias aT_63 q1 dX12_takes_54 ?_
    refine s_goto (tgt := 185) dX12_takes_55 (by decide) ?_
    exact s_return rfl rfl dX12_takes_185
  refine s_case (fun q3 => ?_) (fun q3 => ?_)
  · skip
    refine s_tabP dX12_takes_6 2 q3 58 (by decide) (by decide) ?_
    refine s_aload0 0 rfl dX12_takes_58 ?_
    refine s_gr (gR_RX12_68 0) dX12_takes_59 ?_
    refine s_iload1 1 rfl dX12_takes_62 ?_
    refine s_dup2 rfl rfl dX12_takes_63 ?_
    refine s_ial aT_63 q1 dX12_takes_64 ?_
    refine s_iload2 2 rfl dX12_takes_65 ?_
    refine s_km1 dX12_takes_66 ?_
    refine s_ixor dX12_takes_67 ?_
    refine s_iand dX12_takes_68 ?_
    refine s_ias aT_63 q1 dX12_takes_69 ?_
    refine s_goto (tgt := 185) dX12_takes_70 (by decide) ?_
    exact s_return rfl rfl dX12_takes_185
  refine s_case (fun q4 => ?_) (fun q4 => ?_)
  · skip
    refine s_tabP dX12_takes_6 4 q4 73 (by decide) (by decide) ?_
    refine s_aload0 0 rfl dX12_takes_73 ?_
    refine s_gr (gR_RX12_68 0) dX12_takes_74 ?_
    refine s_iload1 1 rfl dX12_takes_77 ?_
    refine s_iload2 2 rfl dX12_takes_78 ?_
    refine s_if_eq (tgt := 86) dX12_takes_79 (by decide) (fun q5 => ?_) (fun q5 => ?_)
    · skip
      refine s_aload0 0 rfl dX12_takes_86 ?_
      refine s_gr (gR_RX12_68 0) dX12_takes_87 ?_
      refine s_iload1 1 rfl dX12_takes_90 ?_
      refine s_ial aT_63 q1 dX12_takes_91 ?_
      refine s_ias aT_63 q1 dX12_takes_92 ?_
      refine s_aload0 0 rfl dX12_takes_93 ?_
      refine s_gr (gR_RX12_74 0) dX12_takes_94 ?_
      refine s_iload1 1 rfl dX12_takes_97 ?_
      refine s_iload2 2 rfl dX12_takes_98 ?_
      refine s_if_eq_P (tgt := 111) q5 dX12_takes_99 (by decide) ?_
      refine s_aload0 0 rfl dX12_takes_111 ?_
      refine s_gr (gR_RX12_74 0) dX12_takes_112 ?_
      refine s_iload1 1 rfl dX12_takes_115 ?_
      refine s_let (fun h6 => ?_)
      refine s_ial aT_65 q1 dX12_takes_116 ?_
      refine s_ias aT_65 q1 dX12_takes_117 ?_
      refine s_goto (tgt := 185) dX12_takes_118 (by decide) ?_
      exact s_return rfl rfl dX12_takes_185
    · skip
      refine s_iload2 2 rfl dX12_takes_82 ?_
      refine s_goto (tgt := 92) dX12_takes_83 (by decide) ?_
      refine s_ias aT_63 q1 dX12_takes_92 ?_
      refine s_aload0 0 rfl dX12_takes_93 ?_
      refine s_gr (gR_RX12_74 0) dX12_takes_94 ?_
      refine s_iload1 1 rfl dX12_takes_97 ?_
      refine s_iload2 2 rfl dX12_takes_98 ?_
      refine s_if_eq_N (tgt := 111) q5 dX12_takes_99 (by decide) ?_
      refine s_aload0 0 rfl dX12_takes_102 ?_
      refine s_gr (gR_RX12_29 0) dX12_takes_103 ?_
      refine s_iload1 1 rfl dX12_takes_106 ?_
      refine s_let (fun h7 => ?_)
      refine s_ial aT_51 q1 dX12_takes_107 ?_
      refine s_goto (tgt := 117) dX12_takes_108 (by decide) ?_
      refine s_ias aT_65 q1 dX12_takes_117 ?_
      refine s_goto (tgt := 185) dX12_takes_118 (by decide) ?_
      exact s_return rfl rfl dX12_takes_185
  refine s_case (fun q8 => ?_) (fun q8 => ?_)
  · skip
    refine s_tabP dX12_takes_6 5 q8 121 (by decide) (by decide) ?_
    refine s_aload0 0 rfl dX12_takes_121 ?_
    refine s_gr (gR_RX12_71 0) dX12_takes_122 ?_
    refine s_iload1 1 rfl dX12_takes_125 ?_
    refine s_iload2 2 rfl dX12_takes_126 ?_
    refine s_ias aT_64 q1 dX12_takes_127 ?_
    refine s_goto (tgt := 185) dX12_takes_128 (by decide) ?_
    exact s_return rfl rfl dX12_takes_185
  refine s_case (fun q9 => ?_) (fun q9 => ?_)
  · skip
    refine s_tabP dX12_takes_6 6 q9 131 (by decide) (by decide) ?_
    refine s_k0 dX12_takes_131 ?_
    refine s_istore3 [(3, .inl 0), (0, .inr (.inr (12, 0))), (1, .inl x1), (2, .inl x2)] rfl rfl dX12_takes_132 ?_
    refine s_loc [1, 3, 0] rfl ?_
    refine sf_X12_takes_133 G X  _ (fun u14 u15 h16 => ?_) mFu x2 0 h
    · skip
      refine s_goto (tgt := 185) dX12_takes_182 (by decide) ?_
      exact s_return rfl rfl dX12_takes_185
  refine s_tabD dX12_takes_6 [0, 2, 4, 5, 6] (by refine List.forall_mem_cons.mpr ⟨q2, ?_⟩; refine List.forall_mem_cons.mpr ⟨q3, ?_⟩; refine List.forall_mem_cons.mpr ⟨q4, ?_⟩; refine List.forall_mem_cons.mpr ⟨q8, ?_⟩; refine List.forall_mem_cons.mpr ⟨q9, ?_⟩; exact fun _ z => absurd z List.not_mem_nil) (by decide) (by decide) 185 (by decide) ?_
  · skip
    exact s_return rfl rfl dX12_takes_185
set_option maxRecDepth 20000 in
theorem cf_X12_takes (G : mG) (l : Launch) (x1 : Int32) (x2 : Int32)  (h : mH) (b : mH) (hb : f_X12_takes x1 x2 h = some b) (hl : ∀ v ∈ ([.inr (.inr (12, 0)), .inl x1, .inl x2] : List mV), mLi v) : mMet G l yX12_takes cX12_takes 4 none (mRoom 0 0) [.inr (.inr (12, 0)), .inl x1, .inl x2] h (eV b) :=
  mMet.of (y := yX12_takes) (as := [.inr (.inr (12, 0)), .inl x1, .inl x2]) (by decide +kernel) (Nat.le_of_ble_eq_true rfl) (fun X => sf_X12_takes G X x1 x2  h) hl b hb
-- DriverBookModel.writes(II)V
def f_X12_writes_8 (k : Int32 → Int32 → Int32 → mH → Option (mH))  : Nat → Int32 → Int32 → Int32 → mH → Option (mH)
  | 0, _, _, _, _ => none
  | n + 1, v1, v2, v3, h =>
    if v3 < (h.1 12 0 2) then
      (f_X12_hits v3 v1 v2 h).bind fun r3 =>
      if mIn v3 24 = true then
      if (r3.1 = 0 ∨ r3.1 = 1) then
      f_X12_writes_8 k  n v1 v2 (v3 + 1) (uI r3.2 92 0 v3.toNatClampNeg r3.1)
      else none
      else none
    else
      k v1 v2 v3 h
def f_X12_writes_37 (k : Int32 → Int32 → Int32 → mH → Option (mH))  : Nat → Int32 → Int32 → Int32 → mH → Option (mH)
  | 0, _, _, _, _ => none
  | n + 1, v1, v2, v3, h =>
    if v3 < (h.1 12 0 2) then
      if mIn v3 24 = true then
      if (h.1 46 0 v3.toNatClampNeg) = v1 then
        (f_X12_bitsOf v3 v2 h).bind fun r14 =>
        (f_X12_takes v3 r14.1 r14.2).bind fun r15 =>
        if (r15.1 92 0 v3.toNatClampNeg) = 0 then
          f_X12_writes_37 k  n v1 v2 (v3 + 1) (uI r15 67 0 v3.toNatClampNeg (r15.1 67 0 v3.toNatClampNeg))
        else
          f_X12_writes_37 k  n v1 v2 (v3 + 1) (uI r15 67 0 v3.toNatClampNeg (r15.1 12 0 23))
      else
        if (h.1 92 0 v3.toNatClampNeg) = 0 then
          f_X12_writes_37 k  n v1 v2 (v3 + 1) (uI h 67 0 v3.toNatClampNeg (h.1 67 0 v3.toNatClampNeg))
        else
          f_X12_writes_37 k  n v1 v2 (v3 + 1) (uI h 67 0 v3.toNatClampNeg (h.1 12 0 23))
      else none
    else
      k v1 v2 v3 h
def f_X12_writes (x1 : Int32) (x2 : Int32) (h : mH) : Option (mH) :=
  (f_X12_judges x1 x2 h).bind fun r1 =>
  f_X12_writes_8 (fun u6 u7 u8 h9 =>
    f_X12_writes_37 (fun u17 u18 u19 h20 =>
      some h20)  mFu u6 u7 0 h9)  mFu x1 x2 0 r1
set_option maxRecDepth 20000 in
theorem sf_X12_writes_8 (G : mG) (X : mX)   (k : Int32 → Int32 → Int32 → mH → Option (mH)) (hk : ∀ (v1 : Int32) (v2 : Int32) (v3 : Int32) (h : mH), Sim G X cX12_writes 4 RX12 none (mRoom 4 90) eV (k v1 v2 v3 h) 35 [(0, .inr (.inr (12, 0))), (1, .inl v1), (2, .inl v2), (3, .inl v3)] [] h) (n : Nat) : ∀ (v1 : Int32) (v2 : Int32) (v3 : Int32) (h : mH), Sim G X cX12_writes 4 RX12 none (mRoom 4 90) eV (f_X12_writes_8 k  n v1 v2 v3 h) 8 [(0, .inr (.inr (12, 0))), (1, .inl v1), (2, .inl v2), (3, .inl v3)] [] h := by
  induction n with
  | zero =>
    intro v1 v2 v3 h
    exact s_none
  | succ n ih =>
    intro v1 v2 v3 h
    unfold f_X12_writes_8
    refine s_iload3 3 rfl dX12_writes_8 ?_
    refine s_aload0 0 rfl dX12_writes_9 ?_
    refine s_gi gI_RX12_181 dX12_writes_10 ?_
    refine s_ic_ge (tgt := 35) dX12_writes_13 (by decide) (fun q2 => ?_) (fun q2 => ?_)
    · skip
      exact s_loc [0, 1, 2, 3] rfl (hk v1 v2 v3 h)
    · skip
      refine s_aload0 0 rfl dX12_writes_16 ?_
      refine s_gr (gR_RX12_162 0) dX12_writes_17 ?_
      refine s_iload3 3 rfl dX12_writes_20 ?_
      refine s_aload0 0 rfl dX12_writes_21 ?_
      refine s_iload3 3 rfl dX12_writes_22 ?_
      refine s_iload1 1 rfl dX12_writes_23 ?_
      refine s_iload2 2 rfl dX12_writes_24 ?_
      refine s_viI [.inl v3, .inl v1, .inl v2] (fun l b hb hl => cf_X12_hits G l v3 v1 v2 h b hb hl) me_X12_hits vi_RX12_251 rfl rfl rfl rfl rfl dX12_writes_25 (fun r3 => ?_)
      refine s_chk (fun q4 => ?_)
      refine s_chk (fun q5 => ?_)
      refine s_bas aT_92 q4 q5 dX12_writes_28 ?_
      refine s_iincw 1 (by decide) 3 [(3, .inl (v3 + 1)), (0, .inr (.inr (12, 0))), (1, .inl v1), (2, .inl v2)] rfl rfl rfl dX12_writes_29 ?_
      refine s_goto (tgt := 8) dX12_writes_32 (by decide) ?_
      exact s_loc [1, 2, 3, 0] rfl (ih v1 v2 (v3 + 1) (uI r3.2 92 0 v3.toNatClampNeg r3.1))
set_option maxRecDepth 20000 in
theorem sf_X12_writes_37 (G : mG) (X : mX)   (k : Int32 → Int32 → Int32 → mH → Option (mH)) (hk : ∀ (v1 : Int32) (v2 : Int32) (v3 : Int32) (h : mH), Sim G X cX12_writes 4 RX12 none (mRoom 4 90) eV (k v1 v2 v3 h) 100 [(0, .inr (.inr (12, 0))), (1, .inl v1), (2, .inl v2), (3, .inl v3)] [] h) (n : Nat) : ∀ (v1 : Int32) (v2 : Int32) (v3 : Int32) (h : mH), Sim G X cX12_writes 4 RX12 none (mRoom 4 90) eV (f_X12_writes_37 k  n v1 v2 v3 h) 37 [(0, .inr (.inr (12, 0))), (1, .inl v1), (2, .inl v2), (3, .inl v3)] [] h := by
  induction n with
  | zero =>
    intro v1 v2 v3 h
    exact s_none
  | succ n ih =>
    intro v1 v2 v3 h
    unfold f_X12_writes_37
    refine s_iload3 3 rfl dX12_writes_37 ?_
    refine s_aload0 0 rfl dX12_writes_38 ?_
    refine s_gi gI_RX12_181 dX12_writes_39 ?_
    refine s_ic_ge (tgt := 100) dX12_writes_42 (by decide) (fun q10 => ?_) (fun q10 => ?_)
    · skip
      exact s_loc [0, 1, 2, 3] rfl (hk v1 v2 v3 h)
    · skip
      refine s_aload0 0 rfl dX12_writes_45 ?_
      refine s_gr (gR_RX12_13 0) dX12_writes_46 ?_
      refine s_iload3 3 rfl dX12_writes_49 ?_
      refine s_chk (fun q11 => ?_)
      refine s_ial aT_46 q11 dX12_writes_50 ?_
      refine s_iload1 1 rfl dX12_writes_51 ?_
      refine s_ic_ne (tgt := 66) dX12_writes_52 (by decide) (fun q12 => ?_) (fun q12 => ?_)
      · skip
        refine s_aload0 0 rfl dX12_writes_66 ?_
        refine s_gr (gR_RX12_80 0) dX12_writes_67 ?_
        refine s_iload3 3 rfl dX12_writes_70 ?_
        refine s_aload0 0 rfl dX12_writes_71 ?_
        refine s_gr (gR_RX12_162 0) dX12_writes_72 ?_
        refine s_iload3 3 rfl dX12_writes_75 ?_
        refine s_bal aT_92 q11 dX12_writes_76 ?_
        refine s_if_eq (tgt := 87) dX12_writes_77 (by decide) (fun q13 => ?_) (fun q13 => ?_)
        · skip
          refine s_aload0 0 rfl dX12_writes_87 ?_
          refine s_gr (gR_RX12_80 0) dX12_writes_88 ?_
          refine s_iload3 3 rfl dX12_writes_91 ?_
          refine s_ial aT_67 q11 dX12_writes_92 ?_
          refine s_ias aT_67 q11 dX12_writes_93 ?_
          refine s_iincw 1 (by decide) 3 [(3, .inl (v3 + 1)), (0, .inr (.inr (12, 0))), (1, .inl v1), (2, .inl v2)] rfl rfl rfl dX12_writes_94 ?_
          refine s_goto (tgt := 37) dX12_writes_97 (by decide) ?_
          exact s_loc [1, 2, 3, 0] rfl (ih v1 v2 (v3 + 1) (uI h 67 0 v3.toNatClampNeg (h.1 67 0 v3.toNatClampNeg)))
        · skip
          refine s_aload0 0 rfl dX12_writes_80 ?_
          refine s_gi gI_RX12_198 dX12_writes_81 ?_
          refine s_goto (tgt := 93) dX12_writes_84 (by decide) ?_
          refine s_ias aT_67 q11 dX12_writes_93 ?_
          refine s_iincw 1 (by decide) 3 [(3, .inl (v3 + 1)), (0, .inr (.inr (12, 0))), (1, .inl v1), (2, .inl v2)] rfl rfl rfl dX12_writes_94 ?_
          refine s_goto (tgt := 37) dX12_writes_97 (by decide) ?_
          exact s_loc [1, 2, 3, 0] rfl (ih v1 v2 (v3 + 1) (uI h 67 0 v3.toNatClampNeg (h.1 12 0 23)))
      · skip
        refine s_aload0 0 rfl dX12_writes_55 ?_
        refine s_iload3 3 rfl dX12_writes_56 ?_
        refine s_aload0 0 rfl dX12_writes_57 ?_
        refine s_iload3 3 rfl dX12_writes_58 ?_
        refine s_iload2 2 rfl dX12_writes_59 ?_
        refine s_viI [.inl v3, .inl v2] (fun l b hb hl => cf_X12_bitsOf G l v3 v2 h b hb hl) me_X12_bitsOf vi_RX12_247 rfl rfl rfl rfl rfl dX12_writes_60 (fun r14 => ?_)
        refine s_viV [.inl v3, .inl r14.1] (fun l b hb hl => cf_X12_takes G l v3 r14.1 r14.2 b hb hl) me_X12_takes vi_RX12_261 rfl rfl rfl rfl rfl dX12_writes_63 (fun r15 => ?_)
        refine s_aload0 0 rfl dX12_writes_66 ?_
        refine s_gr (gR_RX12_80 0) dX12_writes_67 ?_
        refine s_iload3 3 rfl dX12_writes_70 ?_
        refine s_aload0 0 rfl dX12_writes_71 ?_
        refine s_gr (gR_RX12_162 0) dX12_writes_72 ?_
        refine s_iload3 3 rfl dX12_writes_75 ?_
        refine s_bal aT_92 q11 dX12_writes_76 ?_
        refine s_if_eq (tgt := 87) dX12_writes_77 (by decide) (fun q16 => ?_) (fun q16 => ?_)
        · skip
          refine s_aload0 0 rfl dX12_writes_87 ?_
          refine s_gr (gR_RX12_80 0) dX12_writes_88 ?_
          refine s_iload3 3 rfl dX12_writes_91 ?_
          refine s_ial aT_67 q11 dX12_writes_92 ?_
          refine s_ias aT_67 q11 dX12_writes_93 ?_
          refine s_iincw 1 (by decide) 3 [(3, .inl (v3 + 1)), (0, .inr (.inr (12, 0))), (1, .inl v1), (2, .inl v2)] rfl rfl rfl dX12_writes_94 ?_
          refine s_goto (tgt := 37) dX12_writes_97 (by decide) ?_
          exact s_loc [1, 2, 3, 0] rfl (ih v1 v2 (v3 + 1) (uI r15 67 0 v3.toNatClampNeg (r15.1 67 0 v3.toNatClampNeg)))
        · skip
          refine s_aload0 0 rfl dX12_writes_80 ?_
          refine s_gi gI_RX12_198 dX12_writes_81 ?_
          refine s_goto (tgt := 93) dX12_writes_84 (by decide) ?_
          refine s_ias aT_67 q11 dX12_writes_93 ?_
          refine s_iincw 1 (by decide) 3 [(3, .inl (v3 + 1)), (0, .inr (.inr (12, 0))), (1, .inl v1), (2, .inl v2)] rfl rfl rfl dX12_writes_94 ?_
          refine s_goto (tgt := 37) dX12_writes_97 (by decide) ?_
          exact s_loc [1, 2, 3, 0] rfl (ih v1 v2 (v3 + 1) (uI r15 67 0 v3.toNatClampNeg (r15.1 12 0 23)))
set_option maxRecDepth 20000 in
theorem sf_X12_writes (G : mG) (X : mX) (x1 : Int32) (x2 : Int32)  (h : mH) : Sim G X cX12_writes 4 RX12 none (mRoom 4 90) eV (f_X12_writes x1 x2 h) 0 [(0, .inr (.inr (12, 0))), (1, .inl x1), (2, .inl x2)] [] h := by
  unfold f_X12_writes
  refine s_aload0 0 rfl dX12_writes_0 ?_
  refine s_iload1 1 rfl dX12_writes_1 ?_
  refine s_iload2 2 rfl dX12_writes_2 ?_
  refine s_viV [.inl x1, .inl x2] (fun l b hb hl => cf_X12_judges G l x1 x2 h b hb hl) me_X12_judges vi_RX12_257 rfl rfl rfl rfl rfl dX12_writes_3 (fun r1 => ?_)
  refine s_k0 dX12_writes_6 ?_
  refine s_istore3 [(3, .inl 0), (0, .inr (.inr (12, 0))), (1, .inl x1), (2, .inl x2)] rfl rfl dX12_writes_7 ?_
  refine s_loc [1, 2, 3, 0] rfl ?_
  refine sf_X12_writes_8 G X  _ (fun u6 u7 u8 h9 => ?_) mFu x1 x2 0 r1
  · skip
    refine s_k0 dX12_writes_35 ?_
    refine s_istore3 [(3, .inl 0), (0, .inr (.inr (12, 0))), (1, .inl u6), (2, .inl u7)] rfl rfl dX12_writes_36 ?_
    refine s_loc [1, 2, 3, 0] rfl ?_
    refine sf_X12_writes_37 G X  _ (fun u17 u18 u19 h20 => ?_) mFu u6 u7 0 h9
    · skip
      exact s_return rfl rfl dX12_writes_100
set_option maxRecDepth 20000 in
theorem cf_X12_writes (G : mG) (l : Launch) (x1 : Int32) (x2 : Int32)  (h : mH) (b : mH) (hb : f_X12_writes x1 x2 h = some b) (hl : ∀ v ∈ ([.inr (.inr (12, 0)), .inl x1, .inl x2] : List mV), mLi v) : mMet G l yX12_writes cX12_writes 4 none (mRoom 4 90) [.inr (.inr (12, 0)), .inl x1, .inl x2] h (eV b) :=
  mMet.of (y := yX12_writes) (as := [.inr (.inr (12, 0)), .inl x1, .inl x2]) (by decide +kernel) (Nat.le_of_ble_eq_true rfl) (fun X => sf_X12_writes G X x1 x2  h) hl b hb
-- DriverBookModel.emit(IIIIIII)V
def f_X12_emit (x1 : Int32) (x2 : Int32) (x3 : Int32) (x4 : Int32) (x5 : Int32) (x6 : Int32) (x7 : Int32) (h : mH) : Option (mH) :=
  if mIn x1 2 = true then
  if mIn (6 * ((50 * x1) + (h.1 93 0 x1.toNatClampNeg))) 600 = true then
  mLet (uI h 94 0 (6 * ((50 * x1) + (h.1 93 0 x1.toNatClampNeg))).toNatClampNeg x2) fun h3 =>
  if mIn ((6 * ((50 * x1) + (h.1 93 0 x1.toNatClampNeg))) + 1) 600 = true then
  mLet (uI h3 94 0 ((6 * ((50 * x1) + (h.1 93 0 x1.toNatClampNeg))) + 1).toNatClampNeg x3) fun h5 =>
  if mIn ((6 * ((50 * x1) + (h.1 93 0 x1.toNatClampNeg))) + 2) 600 = true then
  mLet (uI h5 94 0 ((6 * ((50 * x1) + (h.1 93 0 x1.toNatClampNeg))) + 2).toNatClampNeg x4) fun h7 =>
  if mIn ((6 * ((50 * x1) + (h.1 93 0 x1.toNatClampNeg))) + 3) 600 = true then
  mLet (uI h7 94 0 ((6 * ((50 * x1) + (h.1 93 0 x1.toNatClampNeg))) + 3).toNatClampNeg x5) fun h9 =>
  if mIn ((6 * ((50 * x1) + (h.1 93 0 x1.toNatClampNeg))) + 4) 600 = true then
  mLet (uI h9 94 0 ((6 * ((50 * x1) + (h.1 93 0 x1.toNatClampNeg))) + 4).toNatClampNeg x6) fun h11 =>
  if mIn ((6 * ((50 * x1) + (h.1 93 0 x1.toNatClampNeg))) + 5) 600 = true then
  mLet (uI h11 94 0 ((6 * ((50 * x1) + (h.1 93 0 x1.toNatClampNeg))) + 5).toNatClampNeg x7) fun h13 =>
  some (uI h13 93 0 x1.toNatClampNeg ((h13.1 93 0 x1.toNatClampNeg) + 1))
  else none
  else none
  else none
  else none
  else none
  else none
  else none
set_option maxRecDepth 20000 in
theorem sf_X12_emit (G : mG) (X : mX) (x1 : Int32) (x2 : Int32) (x3 : Int32) (x4 : Int32) (x5 : Int32) (x6 : Int32) (x7 : Int32)  (h : mH) : Sim G X cX12_emit 9 RX12 none (mRoom 0 0) eV (f_X12_emit x1 x2 x3 x4 x5 x6 x7 h) 0 [(0, .inr (.inr (12, 0))), (1, .inl x1), (2, .inl x2), (3, .inl x3), (4, .inl x4), (5, .inl x5), (6, .inl x6), (7, .inl x7)] [] h := by
  unfold f_X12_emit
  refine s_bip 6 kb_6 dX12_emit_0 ?_
  refine s_bip 50 kb_50 dX12_emit_2 ?_
  refine s_iload1 1 rfl dX12_emit_4 ?_
  refine s_imul dX12_emit_5 ?_
  refine s_aload0 0 rfl dX12_emit_6 ?_
  refine s_gr (gR_RX12_166 0) dX12_emit_7 ?_
  refine s_iload1 1 rfl dX12_emit_10 ?_
  refine s_chk (fun q1 => ?_)
  refine s_ial aT_93 q1 dX12_emit_11 ?_
  refine s_iadd dX12_emit_12 ?_
  refine s_imul dX12_emit_13 ?_
  refine s_istorew [(8, .inl (6 * ((50 * x1) + (h.1 93 0 x1.toNatClampNeg)))), (0, .inr (.inr (12, 0))), (1, .inl x1), (2, .inl x2), (3, .inl x3), (4, .inl x4), (5, .inl x5), (6, .inl x6), (7, .inl x7)] rfl rfl dX12_emit_14 ?_
  refine s_aload0 1 rfl dX12_emit_16 ?_
  refine s_gr (gR_RX12_169 0) dX12_emit_17 ?_
  refine s_iload 0 rfl dX12_emit_20 ?_
  refine s_iload2 3 rfl dX12_emit_22 ?_
  refine s_chk (fun q2 => ?_)
  refine s_ias aT_94 q2 dX12_emit_23 ?_
  refine s_aload0 1 rfl dX12_emit_24 ?_
  refine s_gr (gR_RX12_169 0) dX12_emit_25 ?_
  refine s_iload 0 rfl dX12_emit_28 ?_
  refine s_k1 dX12_emit_30 ?_
  refine s_iadd dX12_emit_31 ?_
  refine s_iload3 4 rfl dX12_emit_32 ?_
  refine s_let (fun h3 => ?_)
  refine s_chk (fun q4 => ?_)
  refine s_ias aT_94 q4 dX12_emit_33 ?_
  refine s_aload0 1 rfl dX12_emit_34 ?_
  refine s_gr (gR_RX12_169 0) dX12_emit_35 ?_
  refine s_iload 0 rfl dX12_emit_38 ?_
  refine s_k2 dX12_emit_40 ?_
  refine s_iadd dX12_emit_41 ?_
  refine s_iload 5 rfl dX12_emit_42 ?_
  refine s_let (fun h5 => ?_)
  refine s_chk (fun q6 => ?_)
  refine s_ias aT_94 q6 dX12_emit_44 ?_
  refine s_aload0 1 rfl dX12_emit_45 ?_
  refine s_gr (gR_RX12_169 0) dX12_emit_46 ?_
  refine s_iload 0 rfl dX12_emit_49 ?_
  refine s_k3 dX12_emit_51 ?_
  refine s_iadd dX12_emit_52 ?_
  refine s_iload 6 rfl dX12_emit_53 ?_
  refine s_let (fun h7 => ?_)
  refine s_chk (fun q8 => ?_)
  refine s_ias aT_94 q8 dX12_emit_55 ?_
  refine s_aload0 1 rfl dX12_emit_56 ?_
  refine s_gr (gR_RX12_169 0) dX12_emit_57 ?_
  refine s_iload 0 rfl dX12_emit_60 ?_
  refine s_k4 dX12_emit_62 ?_
  refine s_iadd dX12_emit_63 ?_
  refine s_iload 7 rfl dX12_emit_64 ?_
  refine s_let (fun h9 => ?_)
  refine s_chk (fun q10 => ?_)
  refine s_ias aT_94 q10 dX12_emit_66 ?_
  refine s_aload0 1 rfl dX12_emit_67 ?_
  refine s_gr (gR_RX12_169 0) dX12_emit_68 ?_
  refine s_iload 0 rfl dX12_emit_71 ?_
  refine s_k5 dX12_emit_73 ?_
  refine s_iadd dX12_emit_74 ?_
  refine s_iload 8 rfl dX12_emit_75 ?_
  refine s_let (fun h11 => ?_)
  refine s_chk (fun q12 => ?_)
  refine s_ias aT_94 q12 dX12_emit_77 ?_
  refine s_aload0 1 rfl dX12_emit_78 ?_
  refine s_gr (gR_RX12_166 0) dX12_emit_79 ?_
  refine s_iload1 2 rfl dX12_emit_82 ?_
  refine s_dup2 rfl rfl dX12_emit_83 ?_
  refine s_let (fun h13 => ?_)
  refine s_ial aT_93 q1 dX12_emit_84 ?_
  refine s_k1 dX12_emit_85 ?_
  refine s_iadd dX12_emit_86 ?_
  refine s_ias aT_93 q1 dX12_emit_87 ?_
  exact s_return rfl rfl dX12_emit_88
set_option maxRecDepth 20000 in
theorem cf_X12_emit (G : mG) (l : Launch) (x1 : Int32) (x2 : Int32) (x3 : Int32) (x4 : Int32) (x5 : Int32) (x6 : Int32) (x7 : Int32)  (h : mH) (b : mH) (hb : f_X12_emit x1 x2 x3 x4 x5 x6 x7 h = some b) (hl : ∀ v ∈ ([.inr (.inr (12, 0)), .inl x1, .inl x2, .inl x3, .inl x4, .inl x5, .inl x6, .inl x7] : List mV), mLi v) : mMet G l yX12_emit cX12_emit 9 none (mRoom 0 0) [.inr (.inr (12, 0)), .inl x1, .inl x2, .inl x3, .inl x4, .inl x5, .inl x6, .inl x7] h (eV b) :=
  mMet.of (y := yX12_emit) (as := [.inr (.inr (12, 0)), .inl x1, .inl x2, .inl x3, .inl x4, .inl x5, .inl x6, .inl x7]) (by decide +kernel) (Nat.le_of_ble_eq_true rfl) (fun X => sf_X12_emit G X x1 x2 x3 x4 x5 x6 x7  h) hl b hb
-- DriverBookModel.isBound(II)Z
def f_X12_isBound_5 (k : Int32 → Int32 → Int32 → Int32 → mH → Option (Int32 × mH))  : Nat → Int32 → Int32 → Int32 → Int32 → mH → Option (Int32 × mH)
  | 0, _, _, _, _, _ => none
  | n + 1, v1, v2, v3, v4, h =>
    if v4 < (h.1 12 0 11) then
      if v3 = 0 then
        if mIn v4 12 = true then
        if (h.1 55 0 v4.toNatClampNeg) = v1 then
          if (h.1 56 0 v4.toNatClampNeg) = v2 then
            f_X12_isBound_5 k  n v1 v2 1 (v4 + 1) h
          else
            if (h.1 55 0 v4.toNatClampNeg) = v2 then
              if (h.1 56 0 v4.toNatClampNeg) = v1 then
                f_X12_isBound_5 k  n v1 v2 1 (v4 + 1) h
              else
                f_X12_isBound_5 k  n v1 v2 0 (v4 + 1) h
            else
              f_X12_isBound_5 k  n v1 v2 0 (v4 + 1) h
        else
          if (h.1 55 0 v4.toNatClampNeg) = v2 then
            if (h.1 56 0 v4.toNatClampNeg) = v1 then
              f_X12_isBound_5 k  n v1 v2 1 (v4 + 1) h
            else
              f_X12_isBound_5 k  n v1 v2 0 (v4 + 1) h
          else
            f_X12_isBound_5 k  n v1 v2 0 (v4 + 1) h
        else none
      else
        f_X12_isBound_5 k  n v1 v2 1 (v4 + 1) h
    else
      k v1 v2 v3 v4 h
def f_X12_isBound (x1 : Int32) (x2 : Int32) (h : mH) : Option (Int32 × mH) :=
  f_X12_isBound_5 (fun u10 u11 u12 u13 h14 =>
    if (u12 = 0 ∨ u12 = 1) then
    some (u12, h14)
    else none)  mFu x1 x2 0 0 h
set_option maxRecDepth 20000 in
theorem sf_X12_isBound_5 (G : mG) (X : mX)   (k : Int32 → Int32 → Int32 → Int32 → mH → Option (Int32 × mH)) (hk : ∀ (v1 : Int32) (v2 : Int32) (v3 : Int32) (v4 : Int32) (h : mH), Sim G X cX12_isBound 5 RX12 (some .boolean) (mRoom 0 0) eI (k v1 v2 v3 v4 h) 74 [(0, .inr (.inr (12, 0))), (1, .inl v1), (2, .inl v2), (3, .inl v3), (4, .inl v4)] [] h) (n : Nat) : ∀ (v1 : Int32) (v2 : Int32) (v3 : Int32) (v4 : Int32) (h : mH), Sim G X cX12_isBound 5 RX12 (some .boolean) (mRoom 0 0) eI (f_X12_isBound_5 k  n v1 v2 v3 v4 h) 5 [(0, .inr (.inr (12, 0))), (1, .inl v1), (2, .inl v2), (3, .inl v3), (4, .inl v4)] [] h := by
  induction n with
  | zero =>
    intro v1 v2 v3 v4 h
    exact s_none
  | succ n ih =>
    intro v1 v2 v3 v4 h
    unfold f_X12_isBound_5
    refine s_iload 4 rfl dX12_isBound_5 ?_
    refine s_aload0 0 rfl dX12_isBound_7 ?_
    refine s_gi gI_RX12_225 dX12_isBound_8 ?_
    refine s_ic_ge (tgt := 74) dX12_isBound_11 (by decide) (fun q1 => ?_) (fun q1 => ?_)
    · skip
      exact s_loc [0, 1, 2, 3, 4] rfl (hk v1 v2 v3 v4 h)
    · skip
      refine s_iload3 3 rfl dX12_isBound_14 ?_
      refine s_if_ne (tgt := 62) dX12_isBound_15 (by decide) (fun q2 => ?_) (fun q2 => ?_)
      · skip
        refine s_k1 dX12_isBound_62 ?_
        refine s_goto (tgt := 67) dX12_isBound_63 (by decide) ?_
        refine s_istore3 [(3, .inl 1), (0, .inr (.inr (12, 0))), (1, .inl v1), (2, .inl v2), (4, .inl v4)] rfl rfl dX12_isBound_67 ?_
        refine s_iincw 1 (by decide) 4 [(4, .inl (v4 + 1)), (3, .inl 1), (0, .inr (.inr (12, 0))), (1, .inl v1), (2, .inl v2)] rfl rfl rfl dX12_isBound_68 ?_
        refine s_goto (tgt := 5) dX12_isBound_71 (by decide) ?_
        exact s_loc [2, 3, 4, 1, 0] rfl (ih v1 v2 1 (v4 + 1) h)
      · skip
        refine s_aload0 0 rfl dX12_isBound_18 ?_
        refine s_gr (gR_RX12_41 0) dX12_isBound_19 ?_
        refine s_iload 4 rfl dX12_isBound_22 ?_
        refine s_chk (fun q3 => ?_)
        refine s_ial aT_55 q3 dX12_isBound_24 ?_
        refine s_iload1 1 rfl dX12_isBound_25 ?_
        refine s_ic_ne (tgt := 40) dX12_isBound_26 (by decide) (fun q4 => ?_) (fun q4 => ?_)
        · skip
          refine s_aload0 0 rfl dX12_isBound_40 ?_
          refine s_gr (gR_RX12_41 0) dX12_isBound_41 ?_
          refine s_iload 4 rfl dX12_isBound_44 ?_
          refine s_ial aT_55 q3 dX12_isBound_46 ?_
          refine s_iload2 2 rfl dX12_isBound_47 ?_
          refine s_ic_ne (tgt := 66) dX12_isBound_48 (by decide) (fun q5 => ?_) (fun q5 => ?_)
          · skip
            refine s_k0 dX12_isBound_66 ?_
            refine s_istore3 [(3, .inl 0), (0, .inr (.inr (12, 0))), (1, .inl v1), (2, .inl v2), (4, .inl v4)] rfl rfl dX12_isBound_67 ?_
            refine s_iincw 1 (by decide) 4 [(4, .inl (v4 + 1)), (3, .inl 0), (0, .inr (.inr (12, 0))), (1, .inl v1), (2, .inl v2)] rfl rfl rfl dX12_isBound_68 ?_
            refine s_goto (tgt := 5) dX12_isBound_71 (by decide) ?_
            exact s_loc [2, 3, 4, 1, 0] rfl (ih v1 v2 0 (v4 + 1) h)
          · skip
            refine s_aload0 0 rfl dX12_isBound_51 ?_
            refine s_gr (gR_RX12_44 0) dX12_isBound_52 ?_
            refine s_iload 4 rfl dX12_isBound_55 ?_
            refine s_ial aT_56 q3 dX12_isBound_57 ?_
            refine s_iload1 1 rfl dX12_isBound_58 ?_
            refine s_ic_ne (tgt := 66) dX12_isBound_59 (by decide) (fun q6 => ?_) (fun q6 => ?_)
            · skip
              refine s_k0 dX12_isBound_66 ?_
              refine s_istore3 [(3, .inl 0), (0, .inr (.inr (12, 0))), (1, .inl v1), (2, .inl v2), (4, .inl v4)] rfl rfl dX12_isBound_67 ?_
              refine s_iincw 1 (by decide) 4 [(4, .inl (v4 + 1)), (3, .inl 0), (0, .inr (.inr (12, 0))), (1, .inl v1), (2, .inl v2)] rfl rfl rfl dX12_isBound_68 ?_
              refine s_goto (tgt := 5) dX12_isBound_71 (by decide) ?_
              exact s_loc [2, 3, 4, 1, 0] rfl (ih v1 v2 0 (v4 + 1) h)
            · skip
              refine s_k1 dX12_isBound_62 ?_
              refine s_goto (tgt := 67) dX12_isBound_63 (by decide) ?_
              refine s_istore3 [(3, .inl 1), (0, .inr (.inr (12, 0))), (1, .inl v1), (2, .inl v2), (4, .inl v4)] rfl rfl dX12_isBound_67 ?_
              refine s_iincw 1 (by decide) 4 [(4, .inl (v4 + 1)), (3, .inl 1), (0, .inr (.inr (12, 0))), (1, .inl v1), (2, .inl v2)] rfl rfl rfl dX12_isBound_68 ?_
              refine s_goto (tgt := 5) dX12_isBound_71 (by decide) ?_
              exact s_loc [2, 3, 4, 1, 0] rfl (ih v1 v2 1 (v4 + 1) h)
        · skip
          refine s_aload0 0 rfl dX12_isBound_29 ?_
          refine s_gr (gR_RX12_44 0) dX12_isBound_30 ?_
          refine s_iload 4 rfl dX12_isBound_33 ?_
          refine s_ial aT_56 q3 dX12_isBound_35 ?_
          refine s_iload2 2 rfl dX12_isBound_36 ?_
          refine s_ic_eq (tgt := 62) dX12_isBound_37 (by decide) (fun q7 => ?_) (fun q7 => ?_)
          · skip
            refine s_k1 dX12_isBound_62 ?_
            refine s_goto (tgt := 67) dX12_isBound_63 (by decide) ?_
            refine s_istore3 [(3, .inl 1), (0, .inr (.inr (12, 0))), (1, .inl v1), (2, .inl v2), (4, .inl v4)] rfl rfl dX12_isBound_67 ?_
            refine s_iincw 1 (by decide) 4 [(4, .inl (v4 + 1)), (3, .inl 1), (0, .inr (.inr (12, 0))), (1, .inl v1), (2, .inl v2)] rfl rfl rfl dX12_isBound_68 ?_
            refine s_goto (tgt := 5) dX12_isBound_71 (by decide) ?_
            exact s_loc [2, 3, 4, 1, 0] rfl (ih v1 v2 1 (v4 + 1) h)
          · skip
            refine s_aload0 0 rfl dX12_isBound_40 ?_
            refine s_gr (gR_RX12_41 0) dX12_isBound_41 ?_
            refine s_iload 4 rfl dX12_isBound_44 ?_
            refine s_ial aT_55 q3 dX12_isBound_46 ?_
            refine s_iload2 2 rfl dX12_isBound_47 ?_
            refine s_ic_ne (tgt := 66) dX12_isBound_48 (by decide) (fun q8 => ?_) (fun q8 => ?_)
            · skip
              refine s_k0 dX12_isBound_66 ?_
              refine s_istore3 [(3, .inl 0), (0, .inr (.inr (12, 0))), (1, .inl v1), (2, .inl v2), (4, .inl v4)] rfl rfl dX12_isBound_67 ?_
              refine s_iincw 1 (by decide) 4 [(4, .inl (v4 + 1)), (3, .inl 0), (0, .inr (.inr (12, 0))), (1, .inl v1), (2, .inl v2)] rfl rfl rfl dX12_isBound_68 ?_
              refine s_goto (tgt := 5) dX12_isBound_71 (by decide) ?_
              exact s_loc [2, 3, 4, 1, 0] rfl (ih v1 v2 0 (v4 + 1) h)
            · skip
              refine s_aload0 0 rfl dX12_isBound_51 ?_
              refine s_gr (gR_RX12_44 0) dX12_isBound_52 ?_
              refine s_iload 4 rfl dX12_isBound_55 ?_
              refine s_ial aT_56 q3 dX12_isBound_57 ?_
              refine s_iload1 1 rfl dX12_isBound_58 ?_
              refine s_ic_ne (tgt := 66) dX12_isBound_59 (by decide) (fun q9 => ?_) (fun q9 => ?_)
              · skip
                refine s_k0 dX12_isBound_66 ?_
                refine s_istore3 [(3, .inl 0), (0, .inr (.inr (12, 0))), (1, .inl v1), (2, .inl v2), (4, .inl v4)] rfl rfl dX12_isBound_67 ?_
                refine s_iincw 1 (by decide) 4 [(4, .inl (v4 + 1)), (3, .inl 0), (0, .inr (.inr (12, 0))), (1, .inl v1), (2, .inl v2)] rfl rfl rfl dX12_isBound_68 ?_
                refine s_goto (tgt := 5) dX12_isBound_71 (by decide) ?_
                exact s_loc [2, 3, 4, 1, 0] rfl (ih v1 v2 0 (v4 + 1) h)
              · skip
                refine s_k1 dX12_isBound_62 ?_
                refine s_goto (tgt := 67) dX12_isBound_63 (by decide) ?_
                refine s_istore3 [(3, .inl 1), (0, .inr (.inr (12, 0))), (1, .inl v1), (2, .inl v2), (4, .inl v4)] rfl rfl dX12_isBound_67 ?_
                refine s_iincw 1 (by decide) 4 [(4, .inl (v4 + 1)), (3, .inl 1), (0, .inr (.inr (12, 0))), (1, .inl v1), (2, .inl v2)] rfl rfl rfl dX12_isBound_68 ?_
                refine s_goto (tgt := 5) dX12_isBound_71 (by decide) ?_
                exact s_loc [2, 3, 4, 1, 0] rfl (ih v1 v2 1 (v4 + 1) h)
set_option maxRecDepth 20000 in
theorem sf_X12_isBound (G : mG) (X : mX) (x1 : Int32) (x2 : Int32)  (h : mH) : Sim G X cX12_isBound 5 RX12 (some .boolean) (mRoom 0 0) eI (f_X12_isBound x1 x2 h) 0 [(0, .inr (.inr (12, 0))), (1, .inl x1), (2, .inl x2)] [] h := by
  unfold f_X12_isBound
  refine s_k0 dX12_isBound_0 ?_
  refine s_istore3 [(3, .inl 0), (0, .inr (.inr (12, 0))), (1, .inl x1), (2, .inl x2)] rfl rfl dX12_isBound_1 ?_
  refine s_k0 dX12_isBound_2 ?_
  refine s_istorew [(4, .inl 0), (3, .inl 0), (0, .inr (.inr (12, 0))), (1, .inl x1), (2, .inl x2)] rfl rfl dX12_isBound_3 ?_
  refine s_loc [2, 3, 4, 1, 0] rfl ?_
  refine sf_X12_isBound_5 G X  _ (fun u10 u11 u12 u13 h14 => ?_) mFu x1 x2 0 0 h
  · skip
    refine s_iload3 3 rfl dX12_isBound_74 ?_
    refine s_chk (fun q15 => ?_)
    exact s_zreturn rfl rfl q15 dX12_isBound_75
set_option maxRecDepth 20000 in
theorem cf_X12_isBound (G : mG) (l : Launch) (x1 : Int32) (x2 : Int32)  (h : mH) (b : Int32 × mH) (hb : f_X12_isBound x1 x2 h = some b) (hl : ∀ v ∈ ([.inr (.inr (12, 0)), .inl x1, .inl x2] : List mV), mLi v) : mMet G l yX12_isBound cX12_isBound 5 (some .boolean) (mRoom 0 0) [.inr (.inr (12, 0)), .inl x1, .inl x2] h (eI b) :=
  mMet.of (y := yX12_isBound) (as := [.inr (.inr (12, 0)), .inl x1, .inl x2]) (by decide +kernel) (Nat.le_of_ble_eq_true rfl) (fun X => sf_X12_isBound G X x1 x2  h) hl b hb
-- DriverBookModel.isShadowed(I)Z
def f_X12_isShadowed_4 (k : Int32 → Int32 → Int32 → mH → Option (Int32 × mH))  : Nat → Int32 → Int32 → Int32 → mH → Option (Int32 × mH)
  | 0, _, _, _, _ => none
  | n + 1, v1, v2, v3, h =>
    if v3 < (h.1 12 0 2) then
      if v2 = 0 then
        if mIn v3 24 = true then
        if (h.1 46 0 v3.toNatClampNeg) = v1 then
          if (h.1 49 0 v3.toNatClampNeg) = 3 then
            f_X12_isShadowed_4 k  n v1 1 (v3 + 1) h
          else
            if (h.1 49 0 v3.toNatClampNeg) = 5 then
              f_X12_isShadowed_4 k  n v1 1 (v3 + 1) h
            else
              f_X12_isShadowed_4 k  n v1 0 (v3 + 1) h
        else
          f_X12_isShadowed_4 k  n v1 0 (v3 + 1) h
        else none
      else
        f_X12_isShadowed_4 k  n v1 1 (v3 + 1) h
    else
      k v1 v2 v3 h
def f_X12_isShadowed (x1 : Int32) (h : mH) : Option (Int32 × mH) :=
  f_X12_isShadowed_4 (fun u7 u8 u9 h10 =>
    if (u8 = 0 ∨ u8 = 1) then
    some (u8, h10)
    else none)  mFu x1 0 0 h
set_option maxRecDepth 20000 in
theorem sf_X12_isShadowed_4 (G : mG) (X : mX)   (k : Int32 → Int32 → Int32 → mH → Option (Int32 × mH)) (hk : ∀ (v1 : Int32) (v2 : Int32) (v3 : Int32) (h : mH), Sim G X cX12_isShadowed 4 RX12 (some .boolean) (mRoom 0 0) eI (k v1 v2 v3 h) 58 [(0, .inr (.inr (12, 0))), (1, .inl v1), (2, .inl v2), (3, .inl v3)] [] h) (n : Nat) : ∀ (v1 : Int32) (v2 : Int32) (v3 : Int32) (h : mH), Sim G X cX12_isShadowed 4 RX12 (some .boolean) (mRoom 0 0) eI (f_X12_isShadowed_4 k  n v1 v2 v3 h) 4 [(0, .inr (.inr (12, 0))), (1, .inl v1), (2, .inl v2), (3, .inl v3)] [] h := by
  induction n with
  | zero =>
    intro v1 v2 v3 h
    exact s_none
  | succ n ih =>
    intro v1 v2 v3 h
    unfold f_X12_isShadowed_4
    refine s_iload3 3 rfl dX12_isShadowed_4 ?_
    refine s_aload0 0 rfl dX12_isShadowed_5 ?_
    refine s_gi gI_RX12_181 dX12_isShadowed_6 ?_
    refine s_ic_ge (tgt := 58) dX12_isShadowed_9 (by decide) (fun q1 => ?_) (fun q1 => ?_)
    · skip
      exact s_loc [0, 1, 2, 3] rfl (hk v1 v2 v3 h)
    · skip
      refine s_iload2 2 rfl dX12_isShadowed_12 ?_
      refine s_if_ne (tgt := 46) dX12_isShadowed_13 (by decide) (fun q2 => ?_) (fun q2 => ?_)
      · skip
        refine s_k1 dX12_isShadowed_46 ?_
        refine s_goto (tgt := 51) dX12_isShadowed_47 (by decide) ?_
        refine s_istore2 [(2, .inl 1), (0, .inr (.inr (12, 0))), (1, .inl v1), (3, .inl v3)] rfl rfl dX12_isShadowed_51 ?_
        refine s_iincw 1 (by decide) 3 [(3, .inl (v3 + 1)), (2, .inl 1), (0, .inr (.inr (12, 0))), (1, .inl v1)] rfl rfl rfl dX12_isShadowed_52 ?_
        refine s_goto (tgt := 4) dX12_isShadowed_55 (by decide) ?_
        exact s_loc [2, 3, 1, 0] rfl (ih v1 1 (v3 + 1) h)
      · skip
        refine s_aload0 0 rfl dX12_isShadowed_16 ?_
        refine s_gr (gR_RX12_13 0) dX12_isShadowed_17 ?_
        refine s_iload3 3 rfl dX12_isShadowed_20 ?_
        refine s_chk (fun q3 => ?_)
        refine s_ial aT_46 q3 dX12_isShadowed_21 ?_
        refine s_iload1 1 rfl dX12_isShadowed_22 ?_
        refine s_ic_ne (tgt := 50) dX12_isShadowed_23 (by decide) (fun q4 => ?_) (fun q4 => ?_)
        · skip
          refine s_k0 dX12_isShadowed_50 ?_
          refine s_istore2 [(2, .inl 0), (0, .inr (.inr (12, 0))), (1, .inl v1), (3, .inl v3)] rfl rfl dX12_isShadowed_51 ?_
          refine s_iincw 1 (by decide) 3 [(3, .inl (v3 + 1)), (2, .inl 0), (0, .inr (.inr (12, 0))), (1, .inl v1)] rfl rfl rfl dX12_isShadowed_52 ?_
          refine s_goto (tgt := 4) dX12_isShadowed_55 (by decide) ?_
          exact s_loc [2, 3, 1, 0] rfl (ih v1 0 (v3 + 1) h)
        · skip
          refine s_aload0 0 rfl dX12_isShadowed_26 ?_
          refine s_gr (gR_RX12_23 0) dX12_isShadowed_27 ?_
          refine s_iload3 3 rfl dX12_isShadowed_30 ?_
          refine s_ial aT_49 q3 dX12_isShadowed_31 ?_
          refine s_k3 dX12_isShadowed_32 ?_
          refine s_ic_eq (tgt := 46) dX12_isShadowed_33 (by decide) (fun q5 => ?_) (fun q5 => ?_)
          · skip
            refine s_k1 dX12_isShadowed_46 ?_
            refine s_goto (tgt := 51) dX12_isShadowed_47 (by decide) ?_
            refine s_istore2 [(2, .inl 1), (0, .inr (.inr (12, 0))), (1, .inl v1), (3, .inl v3)] rfl rfl dX12_isShadowed_51 ?_
            refine s_iincw 1 (by decide) 3 [(3, .inl (v3 + 1)), (2, .inl 1), (0, .inr (.inr (12, 0))), (1, .inl v1)] rfl rfl rfl dX12_isShadowed_52 ?_
            refine s_goto (tgt := 4) dX12_isShadowed_55 (by decide) ?_
            exact s_loc [2, 3, 1, 0] rfl (ih v1 1 (v3 + 1) h)
          · skip
            refine s_aload0 0 rfl dX12_isShadowed_36 ?_
            refine s_gr (gR_RX12_23 0) dX12_isShadowed_37 ?_
            refine s_iload3 3 rfl dX12_isShadowed_40 ?_
            refine s_ial aT_49 q3 dX12_isShadowed_41 ?_
            refine s_k5 dX12_isShadowed_42 ?_
            refine s_ic_ne (tgt := 50) dX12_isShadowed_43 (by decide) (fun q6 => ?_) (fun q6 => ?_)
            · skip
              refine s_k0 dX12_isShadowed_50 ?_
              refine s_istore2 [(2, .inl 0), (0, .inr (.inr (12, 0))), (1, .inl v1), (3, .inl v3)] rfl rfl dX12_isShadowed_51 ?_
              refine s_iincw 1 (by decide) 3 [(3, .inl (v3 + 1)), (2, .inl 0), (0, .inr (.inr (12, 0))), (1, .inl v1)] rfl rfl rfl dX12_isShadowed_52 ?_
              refine s_goto (tgt := 4) dX12_isShadowed_55 (by decide) ?_
              exact s_loc [2, 3, 1, 0] rfl (ih v1 0 (v3 + 1) h)
            · skip
              refine s_k1 dX12_isShadowed_46 ?_
              refine s_goto (tgt := 51) dX12_isShadowed_47 (by decide) ?_
              refine s_istore2 [(2, .inl 1), (0, .inr (.inr (12, 0))), (1, .inl v1), (3, .inl v3)] rfl rfl dX12_isShadowed_51 ?_
              refine s_iincw 1 (by decide) 3 [(3, .inl (v3 + 1)), (2, .inl 1), (0, .inr (.inr (12, 0))), (1, .inl v1)] rfl rfl rfl dX12_isShadowed_52 ?_
              refine s_goto (tgt := 4) dX12_isShadowed_55 (by decide) ?_
              exact s_loc [2, 3, 1, 0] rfl (ih v1 1 (v3 + 1) h)
set_option maxRecDepth 20000 in
theorem sf_X12_isShadowed (G : mG) (X : mX) (x1 : Int32)  (h : mH) : Sim G X cX12_isShadowed 4 RX12 (some .boolean) (mRoom 0 0) eI (f_X12_isShadowed x1 h) 0 [(0, .inr (.inr (12, 0))), (1, .inl x1)] [] h := by
  unfold f_X12_isShadowed
  refine s_k0 dX12_isShadowed_0 ?_
  refine s_istore2 [(2, .inl 0), (0, .inr (.inr (12, 0))), (1, .inl x1)] rfl rfl dX12_isShadowed_1 ?_
  refine s_k0 dX12_isShadowed_2 ?_
  refine s_istore3 [(3, .inl 0), (2, .inl 0), (0, .inr (.inr (12, 0))), (1, .inl x1)] rfl rfl dX12_isShadowed_3 ?_
  refine s_loc [2, 3, 1, 0] rfl ?_
  refine sf_X12_isShadowed_4 G X  _ (fun u7 u8 u9 h10 => ?_) mFu x1 0 0 h
  · skip
    refine s_iload2 2 rfl dX12_isShadowed_58 ?_
    refine s_chk (fun q11 => ?_)
    exact s_zreturn rfl rfl q11 dX12_isShadowed_59
set_option maxRecDepth 20000 in
theorem cf_X12_isShadowed (G : mG) (l : Launch) (x1 : Int32)  (h : mH) (b : Int32 × mH) (hb : f_X12_isShadowed x1 h = some b) (hl : ∀ v ∈ ([.inr (.inr (12, 0)), .inl x1] : List mV), mLi v) : mMet G l yX12_isShadowed cX12_isShadowed 4 (some .boolean) (mRoom 0 0) [.inr (.inr (12, 0)), .inl x1] h (eI b) :=
  mMet.of (y := yX12_isShadowed) (as := [.inr (.inr (12, 0)), .inl x1]) (by decide +kernel) (Nat.le_of_ble_eq_true rfl) (fun X => sf_X12_isShadowed G X x1  h) hl b hb
-- DriverBookModel.hasHandler()Z
def f_X12_hasHandler_4 (k : Int32 → Int32 → mH → Option (Int32 × mH))  : Nat → Int32 → Int32 → mH → Option (Int32 × mH)
  | 0, _, _, _ => none
  | n + 1, v1, v2, h =>
    if v2 < (h.1 12 0 2) then
      if v1 = 0 then
        if mIn v2 24 = true then
        if (h.1 53 0 v2.toNatClampNeg) = (-1) then
          f_X12_hasHandler_4 k  n 0 (v2 + 1) h
        else
          f_X12_hasHandler_4 k  n 1 (v2 + 1) h
        else none
      else
        f_X12_hasHandler_4 k  n 1 (v2 + 1) h
    else
      k v1 v2 h
def f_X12_hasHandler  (h : mH) : Option (Int32 × mH) :=
  f_X12_hasHandler_4 (fun u5 u6 h7 =>
    if (u5 = 0 ∨ u5 = 1) then
    some (u5, h7)
    else none)  mFu 0 0 h
set_option maxRecDepth 20000 in
theorem sf_X12_hasHandler_4 (G : mG) (X : mX)   (k : Int32 → Int32 → mH → Option (Int32 × mH)) (hk : ∀ (v1 : Int32) (v2 : Int32) (h : mH), Sim G X cX12_hasHandler 3 RX12 (some .boolean) (mRoom 0 0) eI (k v1 v2 h) 38 [(0, .inr (.inr (12, 0))), (1, .inl v1), (2, .inl v2)] [] h) (n : Nat) : ∀ (v1 : Int32) (v2 : Int32) (h : mH), Sim G X cX12_hasHandler 3 RX12 (some .boolean) (mRoom 0 0) eI (f_X12_hasHandler_4 k  n v1 v2 h) 4 [(0, .inr (.inr (12, 0))), (1, .inl v1), (2, .inl v2)] [] h := by
  induction n with
  | zero =>
    intro v1 v2 h
    exact s_none
  | succ n ih =>
    intro v1 v2 h
    unfold f_X12_hasHandler_4
    refine s_iload2 2 rfl dX12_hasHandler_4 ?_
    refine s_aload0 0 rfl dX12_hasHandler_5 ?_
    refine s_gi gI_RX12_181 dX12_hasHandler_6 ?_
    refine s_ic_ge (tgt := 38) dX12_hasHandler_9 (by decide) (fun q1 => ?_) (fun q1 => ?_)
    · skip
      exact s_loc [0, 1, 2] rfl (hk v1 v2 h)
    · skip
      refine s_iload1 1 rfl dX12_hasHandler_12 ?_
      refine s_if_ne (tgt := 26) dX12_hasHandler_13 (by decide) (fun q2 => ?_) (fun q2 => ?_)
      · skip
        refine s_k1 dX12_hasHandler_26 ?_
        refine s_goto (tgt := 31) dX12_hasHandler_27 (by decide) ?_
        refine s_istore1 [(1, .inl 1), (0, .inr (.inr (12, 0))), (2, .inl v2)] rfl rfl dX12_hasHandler_31 ?_
        refine s_iincw 1 (by decide) 2 [(2, .inl (v2 + 1)), (1, .inl 1), (0, .inr (.inr (12, 0)))] rfl rfl rfl dX12_hasHandler_32 ?_
        refine s_goto (tgt := 4) dX12_hasHandler_35 (by decide) ?_
        exact s_loc [2, 1, 0] rfl (ih 1 (v2 + 1) h)
      · skip
        refine s_aload0 0 rfl dX12_hasHandler_16 ?_
        refine s_gr (gR_RX12_35 0) dX12_hasHandler_17 ?_
        refine s_iload2 2 rfl dX12_hasHandler_20 ?_
        refine s_chk (fun q3 => ?_)
        refine s_ial aT_53 q3 dX12_hasHandler_21 ?_
        refine s_km1 dX12_hasHandler_22 ?_
        refine s_ic_eq (tgt := 30) dX12_hasHandler_23 (by decide) (fun q4 => ?_) (fun q4 => ?_)
        · skip
          refine s_k0 dX12_hasHandler_30 ?_
          refine s_istore1 [(1, .inl 0), (0, .inr (.inr (12, 0))), (2, .inl v2)] rfl rfl dX12_hasHandler_31 ?_
          refine s_iincw 1 (by decide) 2 [(2, .inl (v2 + 1)), (1, .inl 0), (0, .inr (.inr (12, 0)))] rfl rfl rfl dX12_hasHandler_32 ?_
          refine s_goto (tgt := 4) dX12_hasHandler_35 (by decide) ?_
          exact s_loc [2, 1, 0] rfl (ih 0 (v2 + 1) h)
        · skip
          refine s_k1 dX12_hasHandler_26 ?_
          refine s_goto (tgt := 31) dX12_hasHandler_27 (by decide) ?_
          refine s_istore1 [(1, .inl 1), (0, .inr (.inr (12, 0))), (2, .inl v2)] rfl rfl dX12_hasHandler_31 ?_
          refine s_iincw 1 (by decide) 2 [(2, .inl (v2 + 1)), (1, .inl 1), (0, .inr (.inr (12, 0)))] rfl rfl rfl dX12_hasHandler_32 ?_
          refine s_goto (tgt := 4) dX12_hasHandler_35 (by decide) ?_
          exact s_loc [2, 1, 0] rfl (ih 1 (v2 + 1) h)
set_option maxRecDepth 20000 in
theorem sf_X12_hasHandler (G : mG) (X : mX)   (h : mH) : Sim G X cX12_hasHandler 3 RX12 (some .boolean) (mRoom 0 0) eI (f_X12_hasHandler  h) 0 [(0, .inr (.inr (12, 0)))] [] h := by
  unfold f_X12_hasHandler
  refine s_k0 dX12_hasHandler_0 ?_
  refine s_istore1 [(1, .inl 0), (0, .inr (.inr (12, 0)))] rfl rfl dX12_hasHandler_1 ?_
  refine s_k0 dX12_hasHandler_2 ?_
  refine s_istore2 [(2, .inl 0), (1, .inl 0), (0, .inr (.inr (12, 0)))] rfl rfl dX12_hasHandler_3 ?_
  refine s_loc [2, 1, 0] rfl ?_
  refine sf_X12_hasHandler_4 G X  _ (fun u5 u6 h7 => ?_) mFu 0 0 h
  · skip
    refine s_iload1 1 rfl dX12_hasHandler_38 ?_
    refine s_chk (fun q8 => ?_)
    exact s_zreturn rfl rfl q8 dX12_hasHandler_39
set_option maxRecDepth 20000 in
theorem cf_X12_hasHandler (G : mG) (l : Launch)   (h : mH) (b : Int32 × mH) (hb : f_X12_hasHandler  h = some b) (hl : ∀ v ∈ ([.inr (.inr (12, 0))] : List mV), mLi v) : mMet G l yX12_hasHandler cX12_hasHandler 3 (some .boolean) (mRoom 0 0) [.inr (.inr (12, 0))] h (eI b) :=
  mMet.of (y := yX12_hasHandler) (as := [.inr (.inr (12, 0))]) (by decide +kernel) (Nat.le_of_ble_eq_true rfl) (fun X => sf_X12_hasHandler G X   h) hl b hb
-- DriverBookModel.joins(II)Z
def f_X12_joins_43 (k : Int32 → Int32 → Int32 → mH → Option (Int32 × mH))  : Nat → Int32 → Int32 → Int32 → mH → Option (Int32 × mH)
  | 0, _, _, _, _ => none
  | n + 1, v2, v3, v4, h =>
    if v4 < v2 then
      if v3 = 0 then
        k v2 v3 v4 h
      else
        if mIn v4 72 = true then
        if mIn v2 72 = true then
        if (h.1 60 0 v4.toNatClampNeg) = (h.1 60 0 v2.toNatClampNeg) then
          f_X12_joins_43 k  n v2 0 (v4 + 1) h
        else
          (f_X12_isBound (h.1 60 0 v4.toNatClampNeg) (h.1 60 0 v2.toNatClampNeg) h).bind fun r8 =>
          if r8.1 = 0 then
            f_X12_joins_43 k  n v2 1 (v4 + 1) r8.2
          else
            f_X12_joins_43 k  n v2 0 (v4 + 1) r8.2
        else none
        else none
    else
      k v2 v3 v4 h
def f_X12_joins_j38 (w1 : Int32) (w2 : Int32) (h : mH) : Option (Int32 × mH) :=
  f_X12_joins_43 (fun u10 u11 u12 h13 =>
    if (u11 = 0 ∨ u11 = 1) then
    some (u11, h13)
    else none)  mFu w2 0 w1 h
def f_X12_joins (x1 : Int32) (x2 : Int32) (h : mH) : Option (Int32 × mH) :=
  if mIn x2 72 = true then
  if (h.1 59 0 x2.toNatClampNeg) = 0 then
    if mIn (h.1 60 0 x2.toNatClampNeg) 24 = true then
    if mIn x1 72 = true then
    if mIn (h.1 60 0 x1.toNatClampNeg) 24 = true then
    if (h.1 46 0 (h.1 60 0 x2.toNatClampNeg).toNatClampNeg) = (h.1 46 0 (h.1 60 0 x1.toNatClampNeg).toNatClampNeg) then
      f_X12_joins_43 (fun u19 u20 u21 h22 =>
        if (u20 = 0 ∨ u20 = 1) then
        some (u20, h22)
        else none)  mFu x2 1 x1 h
    else
      f_X12_joins_j38 x1 x2 h
    else none
    else none
    else none
  else
    f_X12_joins_j38 x1 x2 h
  else none
set_option maxRecDepth 20000 in
theorem sf_X12_joins_43 (G : mG) (X : mX)   (k : Int32 → Int32 → Int32 → mH → Option (Int32 × mH)) (hk : ∀ (v2 : Int32) (v3 : Int32) (v4 : Int32) (h : mH), Sim G X cX12_joins 5 RX12 (some .boolean) (mRoom 1 24) eI (k v2 v3 v4 h) 101 [(0, .inr (.inr (12, 0))), (2, .inl v2), (3, .inl v3), (4, .inl v4)] [] h) (n : Nat) : ∀ (v2 : Int32) (v3 : Int32) (v4 : Int32) (h : mH), Sim G X cX12_joins 5 RX12 (some .boolean) (mRoom 1 24) eI (f_X12_joins_43 k  n v2 v3 v4 h) 43 [(0, .inr (.inr (12, 0))), (2, .inl v2), (3, .inl v3), (4, .inl v4)] [] h := by
  induction n with
  | zero =>
    intro v2 v3 v4 h
    exact s_none
  | succ n ih =>
    intro v2 v3 v4 h
    unfold f_X12_joins_43
    refine s_iload 3 rfl dX12_joins_43 ?_
    refine s_iload2 1 rfl dX12_joins_45 ?_
    refine s_ic_ge (tgt := 101) dX12_joins_46 (by decide) (fun q3 => ?_) (fun q3 => ?_)
    · skip
      exact s_loc [0, 1, 2, 3] rfl (hk v2 v3 v4 h)
    · skip
      refine s_iload3 2 rfl dX12_joins_49 ?_
      refine s_if_eq (tgt := 101) dX12_joins_50 (by decide) (fun q4 => ?_) (fun q4 => ?_)
      · skip
        exact s_loc [0, 1, 2, 3] rfl (hk v2 v3 v4 h)
      · skip
        refine s_aload0 0 rfl dX12_joins_53 ?_
        refine s_gr (gR_RX12_56 0) dX12_joins_54 ?_
        refine s_iload 3 rfl dX12_joins_57 ?_
        refine s_chk (fun q5 => ?_)
        refine s_ial aT_60 q5 dX12_joins_59 ?_
        refine s_aload0 0 rfl dX12_joins_60 ?_
        refine s_gr (gR_RX12_56 0) dX12_joins_61 ?_
        refine s_iload2 1 rfl dX12_joins_64 ?_
        refine s_chk (fun q6 => ?_)
        refine s_ial aT_60 q6 dX12_joins_65 ?_
        refine s_ic_eq (tgt := 93) dX12_joins_66 (by decide) (fun q7 => ?_) (fun q7 => ?_)
        · skip
          refine s_k0 dX12_joins_93 ?_
          refine s_istore3 [(3, .inl 0), (0, .inr (.inr (12, 0))), (2, .inl v2), (4, .inl v4)] rfl rfl dX12_joins_94 ?_
          refine s_iincw 1 (by decide) 3 [(4, .inl (v4 + 1)), (3, .inl 0), (0, .inr (.inr (12, 0))), (2, .inl v2)] rfl rfl rfl dX12_joins_95 ?_
          refine s_goto (tgt := 43) dX12_joins_98 (by decide) ?_
          exact s_loc [2, 3, 1, 0] rfl (ih v2 0 (v4 + 1) h)
        · skip
          refine s_aload0 0 rfl dX12_joins_69 ?_
          refine s_aload0 0 rfl dX12_joins_70 ?_
          refine s_gr (gR_RX12_56 0) dX12_joins_71 ?_
          refine s_iload 3 rfl dX12_joins_74 ?_
          refine s_ial aT_60 q5 dX12_joins_76 ?_
          refine s_aload0 0 rfl dX12_joins_77 ?_
          refine s_gr (gR_RX12_56 0) dX12_joins_78 ?_
          refine s_iload2 1 rfl dX12_joins_81 ?_
          refine s_ial aT_60 q6 dX12_joins_82 ?_
          refine s_viI [.inl (h.1 60 0 v4.toNatClampNeg), .inl (h.1 60 0 v2.toNatClampNeg)] (fun l b hb hl => cf_X12_isBound G l (h.1 60 0 v4.toNatClampNeg) (h.1 60 0 v2.toNatClampNeg) h b hb hl) me_X12_isBound vi_RX12_264 rfl rfl rfl rfl rfl dX12_joins_83 (fun r8 => ?_)
          refine s_if_ne (tgt := 93) dX12_joins_86 (by decide) (fun q9 => ?_) (fun q9 => ?_)
          · skip
            refine s_k0 dX12_joins_93 ?_
            refine s_istore3 [(3, .inl 0), (0, .inr (.inr (12, 0))), (2, .inl v2), (4, .inl v4)] rfl rfl dX12_joins_94 ?_
            refine s_iincw 1 (by decide) 3 [(4, .inl (v4 + 1)), (3, .inl 0), (0, .inr (.inr (12, 0))), (2, .inl v2)] rfl rfl rfl dX12_joins_95 ?_
            refine s_goto (tgt := 43) dX12_joins_98 (by decide) ?_
            exact s_loc [2, 3, 1, 0] rfl (ih v2 0 (v4 + 1) r8.2)
          · skip
            refine s_k1 dX12_joins_89 ?_
            refine s_goto (tgt := 94) dX12_joins_90 (by decide) ?_
            refine s_istore3 [(3, .inl 1), (0, .inr (.inr (12, 0))), (2, .inl v2), (4, .inl v4)] rfl rfl dX12_joins_94 ?_
            refine s_iincw 1 (by decide) 3 [(4, .inl (v4 + 1)), (3, .inl 1), (0, .inr (.inr (12, 0))), (2, .inl v2)] rfl rfl rfl dX12_joins_95 ?_
            refine s_goto (tgt := 43) dX12_joins_98 (by decide) ?_
            exact s_loc [2, 3, 1, 0] rfl (ih v2 1 (v4 + 1) r8.2)
set_option maxRecDepth 20000 in
theorem sf_X12_joins_j38 (G : mG) (X : mX) (w1 : Int32) (w2 : Int32) (h : mH) : Sim G X cX12_joins 5 RX12 (some .boolean) (mRoom 1 24) eI (f_X12_joins_j38 w1 w2 h) 38 [(0, .inr (.inr (12, 0))), (1, .inl w1), (2, .inl w2)] [] h := by
  unfold f_X12_joins_j38
  refine s_k0 dX12_joins_38 ?_
  refine s_istore3 [(3, .inl 0), (0, .inr (.inr (12, 0))), (1, .inl w1), (2, .inl w2)] rfl rfl dX12_joins_39 ?_
  refine s_iload1 2 rfl dX12_joins_40 ?_
  refine s_istorew [(4, .inl w1), (3, .inl 0), (0, .inr (.inr (12, 0))), (1, .inl w1), (2, .inl w2)] rfl rfl dX12_joins_41 ?_
  refine s_loc [2, 4, 1, 0] rfl ?_
  refine sf_X12_joins_43 G X  _ (fun u10 u11 u12 h13 => ?_) mFu w2 0 w1 h
  · skip
    refine s_iload3 2 rfl dX12_joins_101 ?_
    refine s_chk (fun q14 => ?_)
    exact s_zreturn rfl rfl q14 dX12_joins_102
set_option maxRecDepth 20000 in
theorem sf_X12_joins (G : mG) (X : mX) (x1 : Int32) (x2 : Int32)  (h : mH) : Sim G X cX12_joins 5 RX12 (some .boolean) (mRoom 1 24) eI (f_X12_joins x1 x2 h) 0 [(0, .inr (.inr (12, 0))), (1, .inl x1), (2, .inl x2)] [] h := by
  unfold f_X12_joins
  refine s_aload0 0 rfl dX12_joins_0 ?_
  refine s_gr (gR_RX12_53 0) dX12_joins_1 ?_
  refine s_iload2 2 rfl dX12_joins_4 ?_
  refine s_chk (fun q1 => ?_)
  refine s_ial aT_59 q1 dX12_joins_5 ?_
  refine s_if_ne (tgt := 38) dX12_joins_6 (by decide) (fun q2 => ?_) (fun q2 => ?_)
  · skip
    exact s_loc [0, 1, 2] rfl (sf_X12_joins_j38 G X x1 x2 h)
  · skip
    refine s_aload0 0 rfl dX12_joins_9 ?_
    refine s_gr (gR_RX12_13 0) dX12_joins_10 ?_
    refine s_aload0 0 rfl dX12_joins_13 ?_
    refine s_gr (gR_RX12_56 0) dX12_joins_14 ?_
    refine s_iload2 2 rfl dX12_joins_17 ?_
    refine s_ial aT_60 q1 dX12_joins_18 ?_
    refine s_chk (fun q15 => ?_)
    refine s_ial aT_46 q15 dX12_joins_19 ?_
    refine s_aload0 0 rfl dX12_joins_20 ?_
    refine s_gr (gR_RX12_13 0) dX12_joins_21 ?_
    refine s_aload0 0 rfl dX12_joins_24 ?_
    refine s_gr (gR_RX12_56 0) dX12_joins_25 ?_
    refine s_iload1 1 rfl dX12_joins_28 ?_
    refine s_chk (fun q16 => ?_)
    refine s_ial aT_60 q16 dX12_joins_29 ?_
    refine s_chk (fun q17 => ?_)
    refine s_ial aT_46 q17 dX12_joins_30 ?_
    refine s_ic_ne (tgt := 38) dX12_joins_31 (by decide) (fun q18 => ?_) (fun q18 => ?_)
    · skip
      exact s_loc [0, 1, 2] rfl (sf_X12_joins_j38 G X x1 x2 h)
    · skip
      refine s_k1 dX12_joins_34 ?_
      refine s_goto (tgt := 39) dX12_joins_35 (by decide) ?_
      refine s_istore3 [(3, .inl 1), (0, .inr (.inr (12, 0))), (1, .inl x1), (2, .inl x2)] rfl rfl dX12_joins_39 ?_
      refine s_iload1 2 rfl dX12_joins_40 ?_
      refine s_istorew [(4, .inl x1), (3, .inl 1), (0, .inr (.inr (12, 0))), (1, .inl x1), (2, .inl x2)] rfl rfl dX12_joins_41 ?_
      refine s_loc [2, 4, 1, 0] rfl ?_
      refine sf_X12_joins_43 G X  _ (fun u19 u20 u21 h22 => ?_) mFu x2 1 x1 h
      · skip
        refine s_iload3 2 rfl dX12_joins_101 ?_
        refine s_chk (fun q23 => ?_)
        exact s_zreturn rfl rfl q23 dX12_joins_102
set_option maxRecDepth 20000 in
theorem cf_X12_joins (G : mG) (l : Launch) (x1 : Int32) (x2 : Int32)  (h : mH) (b : Int32 × mH) (hb : f_X12_joins x1 x2 h = some b) (hl : ∀ v ∈ ([.inr (.inr (12, 0)), .inl x1, .inl x2] : List mV), mLi v) : mMet G l yX12_joins cX12_joins 5 (some .boolean) (mRoom 1 24) [.inr (.inr (12, 0)), .inl x1, .inl x2] h (eI b) :=
  mMet.of (y := yX12_joins) (as := [.inr (.inr (12, 0)), .inl x1, .inl x2]) (by decide +kernel) (Nat.le_of_ble_eq_true rfl) (fun X => sf_X12_joins G X x1 x2  h) hl b hb
