-- DriverBook$Code.addReadAndWrite(IIZ)V
def f_X3_addReadAndWrite_j19 (j0 : Nat) (w1 : Int32) (w2 : Int32) (w3 : Int32) (h : mH) : Option (mH) :=
  (f_X3_add j0 0 w1 (-2) (-2) (-2) (-2) h).bind fun r2 =>
  (f_X3_add j0 1 w1 1 w2 (r2.1 3 j0 5) (-2) r2).bind fun r3 =>
  if w3 = 0 then
    some r3
  else
    (f_X3_add j0 6 (-2) (-2) (-2) (-2) (-2) r3).bind fun r5 =>
    some r5
def f_X3_addReadAndWrite (i0 : Nat) (x1 : Int32) (x2 : Int32) (x3 : Int32) (h : mH) : Option (mH) :=
  if x3 = 0 then
    f_X3_addReadAndWrite_j19 i0 x1 x2 x3 h
  else
    (f_X3_add i0 5 (-2) (-2) (-2) (-2) (-2) h).bind fun r6 =>
    f_X3_addReadAndWrite_j19 i0 x1 x2 x3 r6
set_option maxRecDepth 20000 in
theorem sf_X3_addReadAndWrite_j19 (G : mG) (X : mX) (j0 : Nat) (w1 : Int32) (w2 : Int32) (w3 : Int32) (h : mH) : Sim G X cX3_addReadAndWrite 4 RX3 none (mRoom 1 27) eV (f_X3_addReadAndWrite_j19 j0 w1 w2 w3 h) 19 [(0, .inr (.inr (3, j0))), (1, .inl w1), (2, .inl w2), (3, .inl w3)] [] h := by
  unfold f_X3_addReadAndWrite_j19
  refine s_aload0 0 rfl dX3_addReadAndWrite_19 ?_
  refine s_k0 dX3_addReadAndWrite_20 ?_
  refine s_iload1 1 rfl dX3_addReadAndWrite_21 ?_
  refine s_bip (-2) kb_m2 dX3_addReadAndWrite_22 ?_
  refine s_bip (-2) kb_m2 dX3_addReadAndWrite_24 ?_
  refine s_bip (-2) kb_m2 dX3_addReadAndWrite_26 ?_
  refine s_bip (-2) kb_m2 dX3_addReadAndWrite_28 ?_
  refine s_viV [.inl 0, .inl w1, .inl (-2), .inl (-2), .inl (-2), .inl (-2)] (fun l b hb hl => cf_X3_add G l j0 0 w1 (-2) (-2) (-2) (-2) h b hb hl) me_X3_add vi_RX3_89 rfl rfl rfl rfl rfl dX3_addReadAndWrite_30 (fun r2 => ?_)
  refine s_aload0 0 rfl dX3_addReadAndWrite_33 ?_
  refine s_k1 dX3_addReadAndWrite_34 ?_
  refine s_iload1 1 rfl dX3_addReadAndWrite_35 ?_
  refine s_k1 dX3_addReadAndWrite_36 ?_
  refine s_iload2 2 rfl dX3_addReadAndWrite_37 ?_
  refine s_aload0 0 rfl dX3_addReadAndWrite_38 ?_
  refine s_gi gI_RX3_28 dX3_addReadAndWrite_39 ?_
  refine s_bip (-2) kb_m2 dX3_addReadAndWrite_42 ?_
  refine s_viV [.inl 1, .inl w1, .inl 1, .inl w2, .inl (r2.1 3 j0 5), .inl (-2)] (fun l b hb hl => cf_X3_add G l j0 1 w1 1 w2 (r2.1 3 j0 5) (-2) r2 b hb hl) me_X3_add vi_RX3_89 rfl rfl rfl rfl rfl dX3_addReadAndWrite_44 (fun r3 => ?_)
  refine s_iload3 3 rfl dX3_addReadAndWrite_47 ?_
  refine s_if_eq (tgt := 67) dX3_addReadAndWrite_48 (by decide) (fun q4 => ?_) (fun q4 => ?_)
  · skip
    exact s_return rfl rfl dX3_addReadAndWrite_67
  · skip
    refine s_aload0 0 rfl dX3_addReadAndWrite_51 ?_
    refine s_bip 6 kb_6 dX3_addReadAndWrite_52 ?_
    refine s_bip (-2) kb_m2 dX3_addReadAndWrite_54 ?_
    refine s_bip (-2) kb_m2 dX3_addReadAndWrite_56 ?_
    refine s_bip (-2) kb_m2 dX3_addReadAndWrite_58 ?_
    refine s_bip (-2) kb_m2 dX3_addReadAndWrite_60 ?_
    refine s_bip (-2) kb_m2 dX3_addReadAndWrite_62 ?_
    refine s_viV [.inl 6, .inl (-2), .inl (-2), .inl (-2), .inl (-2), .inl (-2)] (fun l b hb hl => cf_X3_add G l j0 6 (-2) (-2) (-2) (-2) (-2) r3 b hb hl) me_X3_add vi_RX3_89 rfl rfl rfl rfl rfl dX3_addReadAndWrite_64 (fun r5 => ?_)
    exact s_return rfl rfl dX3_addReadAndWrite_67
set_option maxRecDepth 20000 in
theorem sf_X3_addReadAndWrite (G : mG) (X : mX) (i0 : Nat) (x1 : Int32) (x2 : Int32) (x3 : Int32)  (h : mH) : Sim G X cX3_addReadAndWrite 4 RX3 none (mRoom 1 27) eV (f_X3_addReadAndWrite i0 x1 x2 x3 h) 0 [(0, .inr (.inr (3, i0))), (1, .inl x1), (2, .inl x2), (3, .inl x3)] [] h := by
  unfold f_X3_addReadAndWrite
  refine s_iload3 3 rfl dX3_addReadAndWrite_0 ?_
  refine s_if_eq (tgt := 19) dX3_addReadAndWrite_1 (by decide) (fun q1 => ?_) (fun q1 => ?_)
  · skip
    exact s_loc [0, 1, 2, 3] rfl (sf_X3_addReadAndWrite_j19 G X i0 x1 x2 x3 h)
  · skip
    refine s_aload0 0 rfl dX3_addReadAndWrite_4 ?_
    refine s_k5 dX3_addReadAndWrite_5 ?_
    refine s_bip (-2) kb_m2 dX3_addReadAndWrite_6 ?_
    refine s_bip (-2) kb_m2 dX3_addReadAndWrite_8 ?_
    refine s_bip (-2) kb_m2 dX3_addReadAndWrite_10 ?_
    refine s_bip (-2) kb_m2 dX3_addReadAndWrite_12 ?_
    refine s_bip (-2) kb_m2 dX3_addReadAndWrite_14 ?_
    refine s_viV [.inl 5, .inl (-2), .inl (-2), .inl (-2), .inl (-2), .inl (-2)] (fun l b hb hl => cf_X3_add G l i0 5 (-2) (-2) (-2) (-2) (-2) h b hb hl) me_X3_add vi_RX3_89 rfl rfl rfl rfl rfl dX3_addReadAndWrite_16 (fun r6 => ?_)
    exact s_loc [0, 1, 2, 3] rfl (sf_X3_addReadAndWrite_j19 G X i0 x1 x2 x3 r6)
set_option maxRecDepth 20000 in
theorem cf_X3_addReadAndWrite (G : mG) (l : Launch) (i0 : Nat) (x1 : Int32) (x2 : Int32) (x3 : Int32)  (h : mH) (b : mH) (hb : f_X3_addReadAndWrite i0 x1 x2 x3 h = some b) (hl : ∀ v ∈ ([.inr (.inr (3, i0)), .inl x1, .inl x2, .inl x3] : List mV), mLi v) : mMet G l yX3_addReadAndWrite cX3_addReadAndWrite 4 none (mRoom 1 27) [.inr (.inr (3, i0)), .inl x1, .inl x2, .inl x3] h (eV b) :=
  mMet.of (y := yX3_addReadAndWrite) (as := [.inr (.inr (3, i0)), .inl x1, .inl x2, .inl x3]) (by decide +kernel) (Nat.le_of_ble_eq_true rfl) (fun X => sf_X3_addReadAndWrite G X i0 x1 x2 x3  h) hl b hb
-- DriverBook$Code.endGroup(LDriverBook$Book;)V
def f_X3_endGroup (i0 : Nat) (h : mH) : Option (mH) :=
  if (h.1 3 i0 2) = 0 then
    some h
  else
    mLet (uI h 3 i0 2 0) fun h2 =>
    (f_X1_bitsOfKept (h2.1 3 i0 3) h2).bind fun r3 =>
    if (r3.1 &&& ((r3.2.1 3 i0 4) ^^^ (-1))) = 0 then
      (f_X3_add i0 1 (h2.1 3 i0 3) 0 0 (r3.2.1 3 i0 5) (-2) r3.2).bind fun r14 =>
      some r14
    else
      (f_X1_isShadowed (h2.1 3 i0 3) r3.2).bind fun r5 =>
      if r5.1 = 0 then
        if (r5.2.1 1 0 7) = 1 then
          (f_X1_hasHandlers  r5.2).bind fun r9 =>
          if r9.1 = 0 then
            (f_X3_addReadAndWrite i0 (h2.1 3 i0 3) (r3.1 &&& ((r3.2.1 3 i0 4) ^^^ (-1))) 0 r9.2).bind fun r11 =>
            some r11
          else
            (f_X3_addReadAndWrite i0 (h2.1 3 i0 3) (r3.1 &&& ((r3.2.1 3 i0 4) ^^^ (-1))) 1 r9.2).bind fun r12 =>
            some r12
        else
          (f_X3_addReadAndWrite i0 (h2.1 3 i0 3) (r3.1 &&& ((r3.2.1 3 i0 4) ^^^ (-1))) 0 r5.2).bind fun r8 =>
          some r8
      else
        (f_X3_add i0 1 (h2.1 3 i0 3) 2 (r3.1 &&& ((r3.2.1 3 i0 4) ^^^ (-1))) (r5.2.1 3 i0 5) (-2) r5.2).bind fun r13 =>
        some r13
set_option maxRecDepth 20000 in
theorem sf_X3_endGroup (G : mG) (X : mX) (i0 : Nat)  (h : mH) : Sim G X cX3_endGroup 4 RX3 none (mRoom 2 50) eV (f_X3_endGroup i0 h) 0 [(0, .inr (.inr (3, i0))), (1, .inr (.inr (1, 0)))] [] h := by
  unfold f_X3_endGroup
  refine s_aload0 0 rfl dX3_endGroup_0 ?_
  refine s_gi gI_RX3_19 dX3_endGroup_1 ?_
  refine s_if_ne (tgt := 8) dX3_endGroup_4 (by decide) (fun q1 => ?_) (fun q1 => ?_)
  · skip
    refine s_aload0 0 rfl dX3_endGroup_8 ?_
    refine s_k0 dX3_endGroup_9 ?_
    refine s_pi pI_RX3_19 dX3_endGroup_10 ?_
    refine s_aload0 0 rfl dX3_endGroup_13 ?_
    refine s_let (fun h2 => ?_)
    refine s_gi gI_RX3_22 dX3_endGroup_14 ?_
    refine s_istore2 [(2, .inl (h2.1 3 i0 3)), (0, .inr (.inr (3, i0))), (1, .inr (.inr (1, 0)))] rfl rfl dX3_endGroup_17 ?_
    refine s_aload1 2 rfl dX3_endGroup_18 ?_
    refine s_iload2 0 rfl dX3_endGroup_19 ?_
    refine s_viI [.inl (h2.1 3 i0 3)] (fun l b hb hl => cf_X1_bitsOfKept G l (h2.1 3 i0 3) h2 b hb hl) me_X1_bitsOfKept vi_RX3_85 rfl rfl rfl rfl rfl dX3_endGroup_20 (fun r3 => ?_)
    refine s_aload0 1 rfl dX3_endGroup_23 ?_
    refine s_gi gI_RX3_25 dX3_endGroup_24 ?_
    refine s_km1 dX3_endGroup_27 ?_
    refine s_ixor dX3_endGroup_28 ?_
    refine s_iand dX3_endGroup_29 ?_
    refine s_istore3 [(3, .inl (r3.1 &&& ((r3.2.1 3 i0 4) ^^^ (-1)))), (2, .inl (h2.1 3 i0 3)), (0, .inr (.inr (3, i0))), (1, .inr (.inr (1, 0)))] rfl rfl dX3_endGroup_30 ?_
    refine s_iload3 0 rfl dX3_endGroup_31 ?_
    refine s_if_ne (tgt := 52) dX3_endGroup_32 (by decide) (fun q4 => ?_) (fun q4 => ?_)
    · skip
      refine s_aload1 3 rfl dX3_endGroup_52 ?_
      refine s_iload2 1 rfl dX3_endGroup_53 ?_
      refine s_viI [.inl (h2.1 3 i0 3)] (fun l b hb hl => cf_X1_isShadowed G l (h2.1 3 i0 3) r3.2 b hb hl) me_X1_isShadowed vi_RX3_93 rfl rfl rfl rfl rfl dX3_endGroup_54 (fun r5 => ?_)
      refine s_if_eq (tgt := 77) dX3_endGroup_57 (by decide) (fun q6 => ?_) (fun q6 => ?_)
      · skip
        refine s_aload0 2 rfl dX3_endGroup_77 ?_
        refine s_iload2 1 rfl dX3_endGroup_78 ?_
        refine s_iload3 0 rfl dX3_endGroup_79 ?_
        refine s_aload1 3 rfl dX3_endGroup_80 ?_
        refine s_gi gI_RX3_97 dX3_endGroup_81 ?_
        refine s_k1 dX3_endGroup_84 ?_
        refine s_ic_ne (tgt := 99) dX3_endGroup_85 (by decide) (fun q7 => ?_) (fun q7 => ?_)
        · skip
          refine s_k0 dX3_endGroup_99 ?_
          refine s_viV [.inl (h2.1 3 i0 3), .inl (r3.1 &&& ((r3.2.1 3 i0 4) ^^^ (-1))), .inl 0] (fun l b hb hl => cf_X3_addReadAndWrite G l i0 (h2.1 3 i0 3) (r3.1 &&& ((r3.2.1 3 i0 4) ^^^ (-1))) 0 r5.2 b hb hl) me_X3_addReadAndWrite vi_RX3_104 rfl rfl rfl rfl rfl dX3_endGroup_100 (fun r8 => ?_)
          exact s_return rfl rfl dX3_endGroup_103
        · skip
          refine s_aload1 3 rfl dX3_endGroup_88 ?_
          refine s_viI [] (fun l b hb hl => cf_X1_hasHandlers G l  r5.2 b hb hl) me_X1_hasHandlers vi_RX3_100 rfl rfl rfl rfl rfl dX3_endGroup_89 (fun r9 => ?_)
          refine s_if_eq (tgt := 99) dX3_endGroup_92 (by decide) (fun q10 => ?_) (fun q10 => ?_)
          · skip
            refine s_k0 dX3_endGroup_99 ?_
            refine s_viV [.inl (h2.1 3 i0 3), .inl (r3.1 &&& ((r3.2.1 3 i0 4) ^^^ (-1))), .inl 0] (fun l b hb hl => cf_X3_addReadAndWrite G l i0 (h2.1 3 i0 3) (r3.1 &&& ((r3.2.1 3 i0 4) ^^^ (-1))) 0 r9.2 b hb hl) me_X3_addReadAndWrite vi_RX3_104 rfl rfl rfl rfl rfl dX3_endGroup_100 (fun r11 => ?_)
            exact s_return rfl rfl dX3_endGroup_103
          · skip
            refine s_k1 dX3_endGroup_95 ?_
            refine s_goto (tgt := 100) dX3_endGroup_96 (by decide) ?_
            refine s_viV [.inl (h2.1 3 i0 3), .inl (r3.1 &&& ((r3.2.1 3 i0 4) ^^^ (-1))), .inl 1] (fun l b hb hl => cf_X3_addReadAndWrite G l i0 (h2.1 3 i0 3) (r3.1 &&& ((r3.2.1 3 i0 4) ^^^ (-1))) 1 r9.2 b hb hl) me_X3_addReadAndWrite vi_RX3_104 rfl rfl rfl rfl rfl dX3_endGroup_100 (fun r12 => ?_)
            exact s_return rfl rfl dX3_endGroup_103
      · skip
        refine s_aload0 2 rfl dX3_endGroup_60 ?_
        refine s_k1 dX3_endGroup_61 ?_
        refine s_iload2 1 rfl dX3_endGroup_62 ?_
        refine s_k2 dX3_endGroup_63 ?_
        refine s_iload3 0 rfl dX3_endGroup_64 ?_
        refine s_aload0 2 rfl dX3_endGroup_65 ?_
        refine s_gi gI_RX3_28 dX3_endGroup_66 ?_
        refine s_bip (-2) kb_m2 dX3_endGroup_69 ?_
        refine s_viV [.inl 1, .inl (h2.1 3 i0 3), .inl 2, .inl (r3.1 &&& ((r3.2.1 3 i0 4) ^^^ (-1))), .inl (r5.2.1 3 i0 5), .inl (-2)] (fun l b hb hl => cf_X3_add G l i0 1 (h2.1 3 i0 3) 2 (r3.1 &&& ((r3.2.1 3 i0 4) ^^^ (-1))) (r5.2.1 3 i0 5) (-2) r5.2 b hb hl) me_X3_add vi_RX3_89 rfl rfl rfl rfl rfl dX3_endGroup_71 (fun r13 => ?_)
        refine s_goto (tgt := 103) dX3_endGroup_74 (by decide) ?_
        exact s_return rfl rfl dX3_endGroup_103
    · skip
      refine s_aload0 2 rfl dX3_endGroup_35 ?_
      refine s_k1 dX3_endGroup_36 ?_
      refine s_iload2 1 rfl dX3_endGroup_37 ?_
      refine s_k0 dX3_endGroup_38 ?_
      refine s_k0 dX3_endGroup_39 ?_
      refine s_aload0 2 rfl dX3_endGroup_40 ?_
      refine s_gi gI_RX3_28 dX3_endGroup_41 ?_
      refine s_bip (-2) kb_m2 dX3_endGroup_44 ?_
      refine s_viV [.inl 1, .inl (h2.1 3 i0 3), .inl 0, .inl 0, .inl (r3.2.1 3 i0 5), .inl (-2)] (fun l b hb hl => cf_X3_add G l i0 1 (h2.1 3 i0 3) 0 0 (r3.2.1 3 i0 5) (-2) r3.2 b hb hl) me_X3_add vi_RX3_89 rfl rfl rfl rfl rfl dX3_endGroup_46 (fun r14 => ?_)
      refine s_goto (tgt := 103) dX3_endGroup_49 (by decide) ?_
      exact s_return rfl rfl dX3_endGroup_103
  · skip
    exact s_return rfl rfl dX3_endGroup_7
set_option maxRecDepth 20000 in
theorem cf_X3_endGroup (G : mG) (l : Launch) (i0 : Nat)  (h : mH) (b : mH) (hb : f_X3_endGroup i0 h = some b) (hl : ∀ v ∈ ([.inr (.inr (3, i0)), .inr (.inr (1, 0))] : List mV), mLi v) : mMet G l yX3_endGroup cX3_endGroup 4 none (mRoom 2 50) [.inr (.inr (3, i0)), .inr (.inr (1, 0))] h (eV b) :=
  mMet.of (y := yX3_endGroup) (as := [.inr (.inr (3, i0)), .inr (.inr (1, 0))]) (by decide +kernel) (Nat.le_of_ble_eq_true rfl) (fun X => sf_X3_endGroup G X i0  h) hl b hb
-- DriverBook$Code.join(IILDriverBook$Book;)V
def f_X3_join_j34 (j0 : Nat) (w1 : Int32) (w2 : Int32) (j4 : Nat) (h : mH) : Option (mH) :=
  mLet (uI h 3 j0 2 ((h.1 3 j0 2) ||| (1 <<< (w1 &&& 31)))) fun h3 =>
  mLet (uI h3 3 j0 4 ((h3.1 3 j0 4) ||| (h3.1 6 j4 6))) fun h4 =>
  some (uI h4 3 j0 5 ((h4.1 3 j0 5) ||| (w2 <<< ((h4.1 6 j4 1) &&& 31))))
def f_X3_join (i0 : Nat) (x1 : Int32) (x2 : Int32) (h : mH) : Option (mH) :=
  if mIn x1 24 = true then
  if (h.1 3 i0 2) = 0 then
    mLet (uI h 3 i0 3 (h.1 6 x1.toNatClampNeg 0)) fun h5 =>
    mLet (uI h5 3 i0 4 0) fun h6 =>
    f_X3_join_j34 i0 x1 x2 x1.toNatClampNeg (uI h6 3 i0 5 0)
  else
    f_X3_join_j34 i0 x1 x2 x1.toNatClampNeg h
  else none
set_option maxRecDepth 20000 in
theorem sf_X3_join_j34 (G : mG) (X : mX) (j0 : Nat) (w1 : Int32) (w2 : Int32) (j4 : Nat) (h : mH) : Sim G X cX3_join 5 RX3 none (mRoom 0 0) eV (f_X3_join_j34 j0 w1 w2 j4 h) 34 [(0, .inr (.inr (3, j0))), (1, .inl w1), (2, .inl w2), (4, .inr (.inr (6, j4)))] [] h := by
  unfold f_X3_join_j34
  refine s_aload0 0 rfl dX3_join_34 ?_
  refine s_dup rfl dX3_join_35 ?_
  refine s_gi gI_RX3_19 dX3_join_36 ?_
  refine s_k1 dX3_join_39 ?_
  refine s_iload1 1 rfl dX3_join_40 ?_
  refine s_ishl dX3_join_41 ?_
  refine s_ior dX3_join_42 ?_
  refine s_pi pI_RX3_19 dX3_join_43 ?_
  refine s_aload0 0 rfl dX3_join_46 ?_
  refine s_dup rfl dX3_join_47 ?_
  refine s_let (fun h3 => ?_)
  refine s_gi gI_RX3_25 dX3_join_48 ?_
  refine s_aload 3 rfl dX3_join_51 ?_
  refine s_gi gI_RX3_79 dX3_join_53 ?_
  refine s_ior dX3_join_56 ?_
  refine s_pi pI_RX3_25 dX3_join_57 ?_
  refine s_aload0 0 rfl dX3_join_60 ?_
  refine s_dup rfl dX3_join_61 ?_
  refine s_let (fun h4 => ?_)
  refine s_gi gI_RX3_28 dX3_join_62 ?_
  refine s_iload2 2 rfl dX3_join_65 ?_
  refine s_aload 3 rfl dX3_join_66 ?_
  refine s_gi gI_RX3_82 dX3_join_68 ?_
  refine s_ishl dX3_join_71 ?_
  refine s_ior dX3_join_72 ?_
  refine s_pi pI_RX3_28 dX3_join_73 ?_
  exact s_return rfl rfl dX3_join_76
set_option maxRecDepth 20000 in
theorem sf_X3_join (G : mG) (X : mX) (i0 : Nat) (x1 : Int32) (x2 : Int32)  (h : mH) : Sim G X cX3_join 5 RX3 none (mRoom 0 0) eV (f_X3_join i0 x1 x2 h) 0 [(0, .inr (.inr (3, i0))), (1, .inl x1), (2, .inl x2), (3, .inr (.inr (1, 0)))] [] h := by
  unfold f_X3_join
  refine s_aload3 3 rfl dX3_join_0 ?_
  refine s_gr (gR_RX3_61 0) dX3_join_1 ?_
  refine s_iload1 1 rfl dX3_join_4 ?_
  refine s_chk (fun q1 => ?_)
  refine s_aal (aR_24 0 x1) q1 dX3_join_5 ?_
  refine s_astorew [(4, .inr (.inr (6, x1.toNatClampNeg))), (0, .inr (.inr (3, i0))), (1, .inl x1), (2, .inl x2), (3, .inr (.inr (1, 0)))] rfl rfl dX3_join_6 ?_
  refine s_aload0 1 rfl dX3_join_8 ?_
  refine s_gi gI_RX3_19 dX3_join_9 ?_
  refine s_if_ne (tgt := 34) dX3_join_12 (by decide) (fun q2 => ?_) (fun q2 => ?_)
  · skip
    exact s_loc [1, 2, 3, 0] rfl (sf_X3_join_j34 G X i0 x1 x2 x1.toNatClampNeg h)
  · skip
    refine s_aload0 1 rfl dX3_join_15 ?_
    refine s_aload 0 rfl dX3_join_16 ?_
    refine s_gi gI_RX3_67 dX3_join_18 ?_
    refine s_pi pI_RX3_22 dX3_join_21 ?_
    refine s_aload0 1 rfl dX3_join_24 ?_
    refine s_k0 dX3_join_25 ?_
    refine s_let (fun h5 => ?_)
    refine s_pi pI_RX3_25 dX3_join_26 ?_
    refine s_aload0 1 rfl dX3_join_29 ?_
    refine s_k0 dX3_join_30 ?_
    refine s_let (fun h6 => ?_)
    refine s_pi pI_RX3_28 dX3_join_31 ?_
    exact s_loc [1, 2, 3, 0] rfl (sf_X3_join_j34 G X i0 x1 x2 x1.toNatClampNeg (uI h6 3 i0 5 0))
set_option maxRecDepth 20000 in
theorem cf_X3_join (G : mG) (l : Launch) (i0 : Nat) (x1 : Int32) (x2 : Int32)  (h : mH) (b : mH) (hb : f_X3_join i0 x1 x2 h = some b) (hl : ∀ v ∈ ([.inr (.inr (3, i0)), .inl x1, .inl x2, .inr (.inr (1, 0))] : List mV), mLi v) : mMet G l yX3_join cX3_join 5 none (mRoom 0 0) [.inr (.inr (3, i0)), .inl x1, .inl x2, .inr (.inr (1, 0))] h (eV b) :=
  mMet.of (y := yX3_join) (as := [.inr (.inr (3, i0)), .inl x1, .inl x2, .inr (.inr (1, 0))]) (by decide +kernel) (Nat.le_of_ble_eq_true rfl) (fun X => sf_X3_join G X i0 x1 x2  h) hl b hb
-- DriverBook$Code.addStep(LDriverBook$Act;ILDriverBook$Book;)V
def f_X3_addStep (i0 : Nat) (i1 : Nat) (x2 : Int32) (h : mH) : Option (mH) :=
  if mIn x2 12 = true then
  if (h.1 20 i1 x2.toNatClampNeg) = 3 then
    (f_X3_add i0 3 (h.1 22 i1 x2.toNatClampNeg) (-2) (-2) (-2) (-2) h).bind fun r3 =>
    some r3
  else
    (f_X1_hasField (h.1 21 i1 x2.toNatClampNeg) h).bind fun r4 =>
    if r4.1 = 0 then
      (f_X3_add i0 3 (h.1 22 i1 x2.toNatClampNeg) (-2) (-2) (-2) (-2) r4.2).bind fun r11 =>
      some r11
    else
      if mIn (h.1 21 i1 x2.toNatClampNeg) 24 = true then
      if (r4.2.1 20 i1 x2.toNatClampNeg) = 1 then
        (f_X3_add i0 2 (r4.2.1 6 ((h.1 21 i1 x2.toNatClampNeg).toNatClampNeg) 0) (-2) (r4.2.1 6 ((h.1 21 i1 x2.toNatClampNeg).toNatClampNeg) 6) ((h.1 22 i1 x2.toNatClampNeg) <<< ((r4.2.1 6 ((h.1 21 i1 x2.toNatClampNeg).toNatClampNeg) 1) &&& 31)) (r4.2.1 23 i1 x2.toNatClampNeg) r4.2).bind fun r10 =>
        some r10
      else
        (f_X3_add i0 0 (r4.2.1 6 ((h.1 21 i1 x2.toNatClampNeg).toNatClampNeg) 0) (-2) (-2) (-2) (-2) r4.2).bind fun r8 =>
        (f_X3_add i0 4 (h.1 21 i1 x2.toNatClampNeg) (-2) (-2) (-2) (-2) r8).bind fun r9 =>
        some r9
      else none
  else none
set_option maxRecDepth 20000 in
theorem sf_X3_addStep (G : mG) (X : mX) (i0 : Nat) (i1 : Nat) (x2 : Int32)  (h : mH) : Sim G X cX3_addStep 7 RX3 none (mRoom 1 27) eV (f_X3_addStep i0 i1 x2 h) 0 [(0, .inr (.inr (3, i0))), (1, .inr (.inr (0, i1))), (2, .inl x2), (3, .inr (.inr (1, 0)))] [] h := by
  unfold f_X3_addStep
  refine s_aload1 1 rfl dX3_addStep_0 ?_
  refine s_gr (gR_RX3_50 i1) dX3_addStep_1 ?_
  refine s_iload2 2 rfl dX3_addStep_4 ?_
  refine s_chk (fun q1 => ?_)
  refine s_ial aT_22 q1 dX3_addStep_5 ?_
  refine s_istorew [(4, .inl (h.1 22 i1 x2.toNatClampNeg)), (0, .inr (.inr (3, i0))), (1, .inr (.inr (0, i1))), (2, .inl x2), (3, .inr (.inr (1, 0)))] rfl rfl dX3_addStep_6 ?_
  refine s_aload1 2 rfl dX3_addStep_8 ?_
  refine s_gr (gR_RX3_39 i1) dX3_addStep_9 ?_
  refine s_iload2 3 rfl dX3_addStep_12 ?_
  refine s_ial aT_21 q1 dX3_addStep_13 ?_
  refine s_istorew [(5, .inl (h.1 21 i1 x2.toNatClampNeg)), (4, .inl (h.1 22 i1 x2.toNatClampNeg)), (0, .inr (.inr (3, i0))), (1, .inr (.inr (0, i1))), (2, .inl x2), (3, .inr (.inr (1, 0)))] rfl rfl dX3_addStep_14 ?_
  refine s_aload1 3 rfl dX3_addStep_16 ?_
  refine s_gr (gR_RX3_36 i1) dX3_addStep_17 ?_
  refine s_iload2 4 rfl dX3_addStep_20 ?_
  refine s_ial aT_20 q1 dX3_addStep_21 ?_
  refine s_k3 dX3_addStep_22 ?_
  refine s_ic_eq (tgt := 35) dX3_addStep_23 (by decide) (fun q2 => ?_) (fun q2 => ?_)
  · skip
    refine s_aload0 2 rfl dX3_addStep_35 ?_
    refine s_k3 dX3_addStep_36 ?_
    refine s_iload 1 rfl dX3_addStep_37 ?_
    refine s_bip (-2) kb_m2 dX3_addStep_39 ?_
    refine s_bip (-2) kb_m2 dX3_addStep_41 ?_
    refine s_bip (-2) kb_m2 dX3_addStep_43 ?_
    refine s_bip (-2) kb_m2 dX3_addStep_45 ?_
    refine s_viV [.inl 3, .inl (h.1 22 i1 x2.toNatClampNeg), .inl (-2), .inl (-2), .inl (-2), .inl (-2)] (fun l b hb hl => cf_X3_add G l i0 3 (h.1 22 i1 x2.toNatClampNeg) (-2) (-2) (-2) (-2) h b hb hl) me_X3_add vi_RX3_89 rfl rfl rfl rfl rfl dX3_addStep_47 (fun r3 => ?_)
    exact s_return rfl rfl dX3_addStep_50
  · skip
    refine s_aload3 5 rfl dX3_addStep_26 ?_
    refine s_iload 0 rfl dX3_addStep_27 ?_
    refine s_viI [.inl (h.1 21 i1 x2.toNatClampNeg)] (fun l b hb hl => cf_X1_hasField G l (h.1 21 i1 x2.toNatClampNeg) h b hb hl) me_X1_hasField vi_RX3_108 rfl rfl rfl rfl rfl dX3_addStep_29 (fun r4 => ?_)
    refine s_if_ne (tgt := 51) dX3_addStep_32 (by decide) (fun q5 => ?_) (fun q5 => ?_)
    · skip
      refine s_aload3 5 rfl dX3_addStep_51 ?_
      refine s_gr (gR_RX3_61 0) dX3_addStep_52 ?_
      refine s_iload 0 rfl dX3_addStep_55 ?_
      refine s_chk (fun q6 => ?_)
      refine s_aal (aR_24 0 (h.1 21 i1 x2.toNatClampNeg)) q6 dX3_addStep_57 ?_
      refine s_astorew [(6, .inr (.inr (6, (h.1 21 i1 x2.toNatClampNeg).toNatClampNeg))), (5, .inl (h.1 21 i1 x2.toNatClampNeg)), (4, .inl (h.1 22 i1 x2.toNatClampNeg)), (0, .inr (.inr (3, i0))), (1, .inr (.inr (0, i1))), (2, .inl x2), (3, .inr (.inr (1, 0)))] rfl rfl dX3_addStep_58 ?_
      refine s_aload1 4 rfl dX3_addStep_60 ?_
      refine s_gr (gR_RX3_36 i1) dX3_addStep_61 ?_
      refine s_iload2 5 rfl dX3_addStep_64 ?_
      refine s_ial aT_20 q1 dX3_addStep_65 ?_
      refine s_k1 dX3_addStep_66 ?_
      refine s_ic_ne (tgt := 104) dX3_addStep_67 (by decide) (fun q7 => ?_) (fun q7 => ?_)
      · skip
        refine s_aload0 3 rfl dX3_addStep_104 ?_
        refine s_k0 dX3_addStep_105 ?_
        refine s_aload 0 rfl dX3_addStep_106 ?_
        refine s_gi gI_RX3_67 dX3_addStep_108 ?_
        refine s_bip (-2) kb_m2 dX3_addStep_111 ?_
        refine s_bip (-2) kb_m2 dX3_addStep_113 ?_
        refine s_bip (-2) kb_m2 dX3_addStep_115 ?_
        refine s_bip (-2) kb_m2 dX3_addStep_117 ?_
        refine s_viV [.inl 0, .inl (r4.2.1 6 ((h.1 21 i1 x2.toNatClampNeg).toNatClampNeg) 0), .inl (-2), .inl (-2), .inl (-2), .inl (-2)] (fun l b hb hl => cf_X3_add G l i0 0 (r4.2.1 6 ((h.1 21 i1 x2.toNatClampNeg).toNatClampNeg) 0) (-2) (-2) (-2) (-2) r4.2 b hb hl) me_X3_add vi_RX3_89 rfl rfl rfl rfl rfl dX3_addStep_119 (fun r8 => ?_)
        refine s_aload0 3 rfl dX3_addStep_122 ?_
        refine s_k4 dX3_addStep_123 ?_
        refine s_iload 1 rfl dX3_addStep_124 ?_
        refine s_bip (-2) kb_m2 dX3_addStep_126 ?_
        refine s_bip (-2) kb_m2 dX3_addStep_128 ?_
        refine s_bip (-2) kb_m2 dX3_addStep_130 ?_
        refine s_bip (-2) kb_m2 dX3_addStep_132 ?_
        refine s_viV [.inl 4, .inl (h.1 21 i1 x2.toNatClampNeg), .inl (-2), .inl (-2), .inl (-2), .inl (-2)] (fun l b hb hl => cf_X3_add G l i0 4 (h.1 21 i1 x2.toNatClampNeg) (-2) (-2) (-2) (-2) r8 b hb hl) me_X3_add vi_RX3_89 rfl rfl rfl rfl rfl dX3_addStep_134 (fun r9 => ?_)
        exact s_return rfl rfl dX3_addStep_137
      · skip
        refine s_aload0 3 rfl dX3_addStep_70 ?_
        refine s_k2 dX3_addStep_71 ?_
        refine s_aload 0 rfl dX3_addStep_72 ?_
        refine s_gi gI_RX3_67 dX3_addStep_74 ?_
        refine s_bip (-2) kb_m2 dX3_addStep_77 ?_
        refine s_aload 0 rfl dX3_addStep_79 ?_
        refine s_gi gI_RX3_79 dX3_addStep_81 ?_
        refine s_iload 2 rfl dX3_addStep_84 ?_
        refine s_aload 0 rfl dX3_addStep_86 ?_
        refine s_gi gI_RX3_82 dX3_addStep_88 ?_
        refine s_ishl dX3_addStep_91 ?_
        refine s_aload1 4 rfl dX3_addStep_92 ?_
        refine s_gr (gR_RX3_111 i1) dX3_addStep_93 ?_
        refine s_iload2 5 rfl dX3_addStep_96 ?_
        refine s_ial aT_23 q1 dX3_addStep_97 ?_
        refine s_viV [.inl 2, .inl (r4.2.1 6 ((h.1 21 i1 x2.toNatClampNeg).toNatClampNeg) 0), .inl (-2), .inl (r4.2.1 6 ((h.1 21 i1 x2.toNatClampNeg).toNatClampNeg) 6), .inl ((h.1 22 i1 x2.toNatClampNeg) <<< ((r4.2.1 6 ((h.1 21 i1 x2.toNatClampNeg).toNatClampNeg) 1) &&& 31)), .inl (r4.2.1 23 i1 x2.toNatClampNeg)] (fun l b hb hl => cf_X3_add G l i0 2 (r4.2.1 6 ((h.1 21 i1 x2.toNatClampNeg).toNatClampNeg) 0) (-2) (r4.2.1 6 ((h.1 21 i1 x2.toNatClampNeg).toNatClampNeg) 6) ((h.1 22 i1 x2.toNatClampNeg) <<< ((r4.2.1 6 ((h.1 21 i1 x2.toNatClampNeg).toNatClampNeg) 1) &&& 31)) (r4.2.1 23 i1 x2.toNatClampNeg) r4.2 b hb hl) me_X3_add vi_RX3_89 rfl rfl rfl rfl rfl dX3_addStep_98 (fun r10 => ?_)
        refine s_goto (tgt := 137) dX3_addStep_101 (by decide) ?_
        exact s_return rfl rfl dX3_addStep_137
    · skip
      refine s_aload0 2 rfl dX3_addStep_35 ?_
      refine s_k3 dX3_addStep_36 ?_
      refine s_iload 1 rfl dX3_addStep_37 ?_
      refine s_bip (-2) kb_m2 dX3_addStep_39 ?_
      refine s_bip (-2) kb_m2 dX3_addStep_41 ?_
      refine s_bip (-2) kb_m2 dX3_addStep_43 ?_
      refine s_bip (-2) kb_m2 dX3_addStep_45 ?_
      refine s_viV [.inl 3, .inl (h.1 22 i1 x2.toNatClampNeg), .inl (-2), .inl (-2), .inl (-2), .inl (-2)] (fun l b hb hl => cf_X3_add G l i0 3 (h.1 22 i1 x2.toNatClampNeg) (-2) (-2) (-2) (-2) r4.2 b hb hl) me_X3_add vi_RX3_89 rfl rfl rfl rfl rfl dX3_addStep_47 (fun r11 => ?_)
      exact s_return rfl rfl dX3_addStep_50
set_option maxRecDepth 20000 in
theorem cf_X3_addStep (G : mG) (l : Launch) (i0 : Nat) (i1 : Nat) (x2 : Int32)  (h : mH) (b : mH) (hb : f_X3_addStep i0 i1 x2 h = some b) (hl : ∀ v ∈ ([.inr (.inr (3, i0)), .inr (.inr (0, i1)), .inl x2, .inr (.inr (1, 0))] : List mV), mLi v) : mMet G l yX3_addStep cX3_addStep 7 none (mRoom 1 27) [.inr (.inr (3, i0)), .inr (.inr (0, i1)), .inl x2, .inr (.inr (1, 0))] h (eV b) :=
  mMet.of (y := yX3_addStep) (as := [.inr (.inr (3, i0)), .inr (.inr (0, i1)), .inl x2, .inr (.inr (1, 0))]) (by decide +kernel) (Nat.le_of_ble_eq_true rfl) (fun X => sf_X3_addStep G X i0 i1 x2  h) hl b hb
-- DriverBook$Code.makeFrom(LDriverBook$Act;LDriverBook$Book;)V
def f_X3_makeFrom_12 (k : Int32 → mH → Option (mH)) (j0 : Nat) (j1 : Nat) : Nat → Int32 → mH → Option (mH)
  | 0, _, _ => none
  | n + 1, v3, h =>
    if v3 < (h.1 0 j1 5) then
      if mIn v3 12 = true then
      if (h.1 20 j1 v3.toNatClampNeg) = 0 then
        (f_X3_joinsGroup j0 (h.1 21 j1 v3.toNatClampNeg) h).bind fun r7 =>
        if r7.1 = 0 then
          (f_X3_endGroup j0 r7.2).bind fun r10 =>
          (f_X3_join j0 (r10.1 21 j1 v3.toNatClampNeg) (r10.1 22 j1 v3.toNatClampNeg) r10).bind fun r11 =>
          f_X3_makeFrom_12 k j0 j1 n (v3 + 1) r11
        else
          (f_X3_join j0 (r7.2.1 21 j1 v3.toNatClampNeg) (r7.2.1 22 j1 v3.toNatClampNeg) r7.2).bind fun r9 =>
          f_X3_makeFrom_12 k j0 j1 n (v3 + 1) r9
      else
        (f_X3_endGroup j0 h).bind fun r5 =>
        (f_X3_addStep j0 j1 v3 r5).bind fun r6 =>
        f_X3_makeFrom_12 k j0 j1 n (v3 + 1) r6
      else none
    else
      k v3 h
def f_X3_makeFrom (i0 : Nat) (i1 : Nat) (h : mH) : Option (mH) :=
  mLet (uI h 3 i0 1 0) fun h1 =>
  f_X3_makeFrom_12 (fun u12 h13 =>
    (f_X3_endGroup i0 h13).bind fun r14 =>
    some r14) i0 i1 mFu 0 (uI h1 3 i0 2 0)
set_option maxRecDepth 20000 in
theorem sf_X3_makeFrom_12 (G : mG) (X : mX) (j0 : Nat) (j1 : Nat)  (k : Int32 → mH → Option (mH)) (hk : ∀ (v3 : Int32) (h : mH), Sim G X cX3_makeFrom 4 RX3 none (mRoom 4 88) eV (k v3 h) 86 [(0, .inr (.inr (3, j0))), (1, .inr (.inr (0, j1))), (2, .inr (.inr (1, 0))), (3, .inl v3)] [] h) (n : Nat) : ∀ (v3 : Int32) (h : mH), Sim G X cX3_makeFrom 4 RX3 none (mRoom 4 88) eV (f_X3_makeFrom_12 k j0 j1 n v3 h) 12 [(0, .inr (.inr (3, j0))), (1, .inr (.inr (0, j1))), (2, .inr (.inr (1, 0))), (3, .inl v3)] [] h := by
  induction n with
  | zero =>
    intro v3 h
    exact s_none
  | succ n ih =>
    intro v3 h
    unfold f_X3_makeFrom_12
    refine s_iload3 3 rfl dX3_makeFrom_12 ?_
    refine s_aload1 1 rfl dX3_makeFrom_13 ?_
    refine s_gi gI_RX3_31 dX3_makeFrom_14 ?_
    refine s_ic_ge (tgt := 86) dX3_makeFrom_17 (by decide) (fun q2 => ?_) (fun q2 => ?_)
    · skip
      exact s_loc [0, 1, 2, 3] rfl (hk v3 h)
    · skip
      refine s_aload1 1 rfl dX3_makeFrom_20 ?_
      refine s_gr (gR_RX3_36 j1) dX3_makeFrom_21 ?_
      refine s_iload3 3 rfl dX3_makeFrom_24 ?_
      refine s_chk (fun q3 => ?_)
      refine s_ial aT_20 q3 dX3_makeFrom_25 ?_
      refine s_if_ne (tgt := 68) dX3_makeFrom_26 (by decide) (fun q4 => ?_) (fun q4 => ?_)
      · skip
        refine s_aload0 0 rfl dX3_makeFrom_68 ?_
        refine s_aload2 2 rfl dX3_makeFrom_69 ?_
        refine s_viV [.inr (.inr (1, 0))] (fun l b hb hl => cf_X3_endGroup G l j0 h b hb hl) me_X3_endGroup vi_RX3_46 rfl rfl rfl rfl rfl dX3_makeFrom_70 (fun r5 => ?_)
        refine s_aload0 0 rfl dX3_makeFrom_73 ?_
        refine s_aload1 1 rfl dX3_makeFrom_74 ?_
        refine s_iload3 3 rfl dX3_makeFrom_75 ?_
        refine s_aload2 2 rfl dX3_makeFrom_76 ?_
        refine s_viV [.inr (.inr (0, j1)), .inl v3, .inr (.inr (1, 0))] (fun l b hb hl => cf_X3_addStep G l j0 j1 v3 r5 b hb hl) me_X3_addStep vi_RX3_57 rfl rfl rfl rfl rfl dX3_makeFrom_77 (fun r6 => ?_)
        refine s_iincw 1 (by decide) 3 [(3, .inl (v3 + 1)), (0, .inr (.inr (3, j0))), (1, .inr (.inr (0, j1))), (2, .inr (.inr (1, 0)))] rfl rfl rfl dX3_makeFrom_80 ?_
        refine s_goto (tgt := 12) dX3_makeFrom_83 (by decide) ?_
        exact s_loc [1, 2, 3, 0] rfl (ih (v3 + 1) r6)
      · skip
        refine s_aload0 0 rfl dX3_makeFrom_29 ?_
        refine s_aload1 1 rfl dX3_makeFrom_30 ?_
        refine s_gr (gR_RX3_39 j1) dX3_makeFrom_31 ?_
        refine s_iload3 3 rfl dX3_makeFrom_34 ?_
        refine s_ial aT_21 q3 dX3_makeFrom_35 ?_
        refine s_aload2 2 rfl dX3_makeFrom_36 ?_
        refine s_viI [.inl (h.1 21 j1 v3.toNatClampNeg), .inr (.inr (1, 0))] (fun l b hb hl => cf_X3_joinsGroup G l j0 (h.1 21 j1 v3.toNatClampNeg) h b hb hl) me_X3_joinsGroup vi_RX3_42 rfl rfl rfl rfl rfl dX3_makeFrom_37 (fun r7 => ?_)
        refine s_if_ne (tgt := 48) dX3_makeFrom_40 (by decide) (fun q8 => ?_) (fun q8 => ?_)
        · skip
          refine s_aload0 0 rfl dX3_makeFrom_48 ?_
          refine s_aload1 1 rfl dX3_makeFrom_49 ?_
          refine s_gr (gR_RX3_39 j1) dX3_makeFrom_50 ?_
          refine s_iload3 3 rfl dX3_makeFrom_53 ?_
          refine s_ial aT_21 q3 dX3_makeFrom_54 ?_
          refine s_aload1 1 rfl dX3_makeFrom_55 ?_
          refine s_gr (gR_RX3_50 j1) dX3_makeFrom_56 ?_
          refine s_iload3 3 rfl dX3_makeFrom_59 ?_
          refine s_ial aT_22 q3 dX3_makeFrom_60 ?_
          refine s_aload2 2 rfl dX3_makeFrom_61 ?_
          refine s_viV [.inl (r7.2.1 21 j1 v3.toNatClampNeg), .inl (r7.2.1 22 j1 v3.toNatClampNeg), .inr (.inr (1, 0))] (fun l b hb hl => cf_X3_join G l j0 (r7.2.1 21 j1 v3.toNatClampNeg) (r7.2.1 22 j1 v3.toNatClampNeg) r7.2 b hb hl) me_X3_join vi_RX3_53 rfl rfl rfl rfl rfl dX3_makeFrom_62 (fun r9 => ?_)
          refine s_goto (tgt := 80) dX3_makeFrom_65 (by decide) ?_
          refine s_iincw 1 (by decide) 3 [(3, .inl (v3 + 1)), (0, .inr (.inr (3, j0))), (1, .inr (.inr (0, j1))), (2, .inr (.inr (1, 0)))] rfl rfl rfl dX3_makeFrom_80 ?_
          refine s_goto (tgt := 12) dX3_makeFrom_83 (by decide) ?_
          exact s_loc [1, 2, 3, 0] rfl (ih (v3 + 1) r9)
        · skip
          refine s_aload0 0 rfl dX3_makeFrom_43 ?_
          refine s_aload2 2 rfl dX3_makeFrom_44 ?_
          refine s_viV [.inr (.inr (1, 0))] (fun l b hb hl => cf_X3_endGroup G l j0 r7.2 b hb hl) me_X3_endGroup vi_RX3_46 rfl rfl rfl rfl rfl dX3_makeFrom_45 (fun r10 => ?_)
          refine s_aload0 0 rfl dX3_makeFrom_48 ?_
          refine s_aload1 1 rfl dX3_makeFrom_49 ?_
          refine s_gr (gR_RX3_39 j1) dX3_makeFrom_50 ?_
          refine s_iload3 3 rfl dX3_makeFrom_53 ?_
          refine s_ial aT_21 q3 dX3_makeFrom_54 ?_
          refine s_aload1 1 rfl dX3_makeFrom_55 ?_
          refine s_gr (gR_RX3_50 j1) dX3_makeFrom_56 ?_
          refine s_iload3 3 rfl dX3_makeFrom_59 ?_
          refine s_ial aT_22 q3 dX3_makeFrom_60 ?_
          refine s_aload2 2 rfl dX3_makeFrom_61 ?_
          refine s_viV [.inl (r10.1 21 j1 v3.toNatClampNeg), .inl (r10.1 22 j1 v3.toNatClampNeg), .inr (.inr (1, 0))] (fun l b hb hl => cf_X3_join G l j0 (r10.1 21 j1 v3.toNatClampNeg) (r10.1 22 j1 v3.toNatClampNeg) r10 b hb hl) me_X3_join vi_RX3_53 rfl rfl rfl rfl rfl dX3_makeFrom_62 (fun r11 => ?_)
          refine s_goto (tgt := 80) dX3_makeFrom_65 (by decide) ?_
          refine s_iincw 1 (by decide) 3 [(3, .inl (v3 + 1)), (0, .inr (.inr (3, j0))), (1, .inr (.inr (0, j1))), (2, .inr (.inr (1, 0)))] rfl rfl rfl dX3_makeFrom_80 ?_
          refine s_goto (tgt := 12) dX3_makeFrom_83 (by decide) ?_
          exact s_loc [1, 2, 3, 0] rfl (ih (v3 + 1) r11)
set_option maxRecDepth 20000 in
theorem sf_X3_makeFrom (G : mG) (X : mX) (i0 : Nat) (i1 : Nat)  (h : mH) : Sim G X cX3_makeFrom 4 RX3 none (mRoom 4 88) eV (f_X3_makeFrom i0 i1 h) 0 [(0, .inr (.inr (3, i0))), (1, .inr (.inr (0, i1))), (2, .inr (.inr (1, 0)))] [] h := by
  unfold f_X3_makeFrom
  refine s_aload0 0 rfl dX3_makeFrom_0 ?_
  refine s_k0 dX3_makeFrom_1 ?_
  refine s_pi pI_RX3_15 dX3_makeFrom_2 ?_
  refine s_aload0 0 rfl dX3_makeFrom_5 ?_
  refine s_k0 dX3_makeFrom_6 ?_
  refine s_let (fun h1 => ?_)
  refine s_pi pI_RX3_19 dX3_makeFrom_7 ?_
  refine s_k0 dX3_makeFrom_10 ?_
  refine s_istore3 [(3, .inl 0), (0, .inr (.inr (3, i0))), (1, .inr (.inr (0, i1))), (2, .inr (.inr (1, 0)))] rfl rfl dX3_makeFrom_11 ?_
  refine s_loc [1, 2, 3, 0] rfl ?_
  refine sf_X3_makeFrom_12 G X i0 i1 _ (fun u12 h13 => ?_) mFu 0 (uI h1 3 i0 2 0)
  · skip
    refine s_aload0 0 rfl dX3_makeFrom_86 ?_
    refine s_aload2 2 rfl dX3_makeFrom_87 ?_
    refine s_viV [.inr (.inr (1, 0))] (fun l b hb hl => cf_X3_endGroup G l i0 h13 b hb hl) me_X3_endGroup vi_RX3_46 rfl rfl rfl rfl rfl dX3_makeFrom_88 (fun r14 => ?_)
    exact s_return rfl rfl dX3_makeFrom_91
set_option maxRecDepth 20000 in
theorem cf_X3_makeFrom (G : mG) (l : Launch) (i0 : Nat) (i1 : Nat)  (h : mH) (b : mH) (hb : f_X3_makeFrom i0 i1 h = some b) (hl : ∀ v ∈ ([.inr (.inr (3, i0)), .inr (.inr (0, i1)), .inr (.inr (1, 0))] : List mV), mLi v) : mMet G l yX3_makeFrom cX3_makeFrom 4 none (mRoom 4 88) [.inr (.inr (3, i0)), .inr (.inr (0, i1)), .inr (.inr (1, 0))] h (eV b) :=
  mMet.of (y := yX3_makeFrom) (as := [.inr (.inr (3, i0)), .inr (.inr (0, i1)), .inr (.inr (1, 0))]) (by decide +kernel) (Nat.le_of_ble_eq_true rfl) (fun X => sf_X3_makeFrom G X i0 i1  h) hl b hb
-- DriverBook$Book.makeCode()V
def f_X1_makeCode_10 (k : Int32 → mH → Option (mH))  : Nat → Int32 → mH → Option (mH)
  | 0, _, _ => none
  | n + 1, v1, h =>
    if v1 < (h.1 1 0 6) then
      if mIn v1 6 = true then
      (f_X3_makeFrom v1.toNatClampNeg v1.toNatClampNeg h).bind fun r4 =>
      f_X1_makeCode_10 k  n (v1 + 1) r4
      else none
    else
      k v1 h
def f_X1_makeCode  (h : mH) : Option (mH) :=
  if (h.1 1 0 9) = 0 then
    f_X1_makeCode_10 (fun u5 h6 =>
      some (uI h6 1 0 9 1))  mFu 0 h
  else
    some h
set_option maxRecDepth 20000 in
theorem sf_X1_makeCode_10 (G : mG) (X : mX)   (k : Int32 → mH → Option (mH)) (hk : ∀ (v1 : Int32) (h : mH), Sim G X cX1_makeCode 2 RX1 none (mRoom 5 111) eV (k v1 h) 43 [(0, .inr (.inr (1, 0))), (1, .inl v1)] [] h) (n : Nat) : ∀ (v1 : Int32) (h : mH), Sim G X cX1_makeCode 2 RX1 none (mRoom 5 111) eV (f_X1_makeCode_10 k  n v1 h) 10 [(0, .inr (.inr (1, 0))), (1, .inl v1)] [] h := by
  induction n with
  | zero =>
    intro v1 h
    exact s_none
  | succ n ih =>
    intro v1 h
    unfold f_X1_makeCode_10
    refine s_iload1 1 rfl dX1_makeCode_10 ?_
    refine s_aload0 0 rfl dX1_makeCode_11 ?_
    refine s_gi gI_RX1_39 dX1_makeCode_12 ?_
    refine s_ic_ge (tgt := 43) dX1_makeCode_15 (by decide) (fun q2 => ?_) (fun q2 => ?_)
    · skip
      exact s_loc [0, 1] rfl (hk v1 h)
    · skip
      refine s_aload0 0 rfl dX1_makeCode_18 ?_
      refine s_gr (gR_RX1_25 0) dX1_makeCode_19 ?_
      refine s_iload1 1 rfl dX1_makeCode_22 ?_
      refine s_chk (fun q3 => ?_)
      refine s_aal (aR_26 0 v1) q3 dX1_makeCode_23 ?_
      refine s_gr (gR_RX1_110 v1.toNatClampNeg) dX1_makeCode_24 ?_
      refine s_aload0 0 rfl dX1_makeCode_27 ?_
      refine s_gr (gR_RX1_25 0) dX1_makeCode_28 ?_
      refine s_iload1 1 rfl dX1_makeCode_31 ?_
      refine s_aal (aR_26 0 v1) q3 dX1_makeCode_32 ?_
      refine s_aload0 0 rfl dX1_makeCode_33 ?_
      refine s_viV [.inr (.inr (0, v1.toNatClampNeg)), .inr (.inr (1, 0))] (fun l b hb hl => cf_X3_makeFrom G l v1.toNatClampNeg v1.toNatClampNeg h b hb hl) me_X3_makeFrom vi_RX1_114 rfl rfl rfl rfl rfl dX1_makeCode_34 (fun r4 => ?_)
      refine s_iincw 1 (by decide) 1 [(1, .inl (v1 + 1)), (0, .inr (.inr (1, 0)))] rfl rfl rfl dX1_makeCode_37 ?_
      refine s_goto (tgt := 10) dX1_makeCode_40 (by decide) ?_
      exact s_loc [1, 0] rfl (ih (v1 + 1) r4)
set_option maxRecDepth 20000 in
theorem sf_X1_makeCode (G : mG) (X : mX)   (h : mH) : Sim G X cX1_makeCode 2 RX1 none (mRoom 5 111) eV (f_X1_makeCode  h) 0 [(0, .inr (.inr (1, 0)))] [] h := by
  unfold f_X1_makeCode
  refine s_aload0 0 rfl dX1_makeCode_0 ?_
  refine s_gi gI_RX1_48 dX1_makeCode_1 ?_
  refine s_if_eq (tgt := 8) dX1_makeCode_4 (by decide) (fun q1 => ?_) (fun q1 => ?_)
  · skip
    refine s_k0 dX1_makeCode_8 ?_
    refine s_istore1 [(1, .inl 0), (0, .inr (.inr (1, 0)))] rfl rfl dX1_makeCode_9 ?_
    refine s_loc [1, 0] rfl ?_
    refine sf_X1_makeCode_10 G X  _ (fun u5 h6 => ?_) mFu 0 h
    · skip
      refine s_aload0 0 rfl dX1_makeCode_43 ?_
      refine s_k1 dX1_makeCode_44 ?_
      refine s_pz pI_RX1_48 (Or.inr rfl) dX1_makeCode_45 ?_
      exact s_return rfl rfl dX1_makeCode_48
  · skip
    exact s_return rfl rfl dX1_makeCode_7
set_option maxRecDepth 20000 in
theorem cf_X1_makeCode (G : mG) (l : Launch)   (h : mH) (b : mH) (hb : f_X1_makeCode  h = some b) (hl : ∀ v ∈ ([.inr (.inr (1, 0))] : List mV), mLi v) : mMet G l yX1_makeCode cX1_makeCode 2 none (mRoom 5 111) [.inr (.inr (1, 0))] h (eV b) :=
  mMet.of (y := yX1_makeCode) (as := [.inr (.inr (1, 0))]) (by decide +kernel) (Nat.le_of_ble_eq_true rfl) (fun X => sf_X1_makeCode G X   h) hl b hb
-- java/util/Arrays.fill([II)V
def f_J7_fill_53178_5 (k : Int32 → Int32 → Int32 → mH → Option (mH)) (t0 n0 : Nat) (j0 : Nat) : Nat → Int32 → Int32 → Int32 → mH → Option (mH)
  | 0, _, _, _, _ => none
  | n + 1, v1, v2, v3, h =>
    if v2 < v3 then
      if mIn v2 n0 = true then
      f_J7_fill_53178_5 k t0 n0 j0 n v1 (v2 + 1) v3 (uI h t0 j0 v2.toNatClampNeg v1)
      else none
    else
      k v1 v2 v3 h
def f_J7_fill_53178 (t0 : Nat) (n0 : Nat) (j0 : Nat) (x1 : Int32) (h : mH) : Option (mH) :=
  f_J7_fill_53178_5 (fun u3 u4 u5 h6 =>
    some h6) t0 n0 j0 mFu x1 0 (Int32.ofNat n0) h
set_option maxRecDepth 20000 in
theorem sf_J7_fill_53178_5 (G : mG) (X : mX) (t0 n0 : Nat) (j0 : Nat) (ha : mArrT .int t0 n0) (k : Int32 → Int32 → Int32 → mH → Option (mH)) (hk : ∀ (v1 : Int32) (v2 : Int32) (v3 : Int32) (h : mH), Sim G X cJ7_fill_53178 4 RJ7 none (mRoom 0 0) eV (k v1 v2 v3 h) 20 [(0, .inr (.inr (t0, j0))), (1, .inl v1), (2, .inl v2), (3, .inl v3)] [] h) (n : Nat) : ∀ (v1 : Int32) (v2 : Int32) (v3 : Int32) (h : mH), Sim G X cJ7_fill_53178 4 RJ7 none (mRoom 0 0) eV (f_J7_fill_53178_5 k t0 n0 j0 n v1 v2 v3 h) 5 [(0, .inr (.inr (t0, j0))), (1, .inl v1), (2, .inl v2), (3, .inl v3)] [] h := by
  induction n with
  | zero =>
    intro v1 v2 v3 h
    exact s_none
  | succ n ih =>
    intro v1 v2 v3 h
    unfold f_J7_fill_53178_5
    refine s_iload2 2 rfl dJ7_fill_53178_5 ?_
    refine s_iload3 3 rfl dJ7_fill_53178_6 ?_
    refine s_ic_ge (tgt := 20) dJ7_fill_53178_7 (by decide) (fun q1 => ?_) (fun q1 => ?_)
    · skip
      exact s_loc [0, 1, 2, 3] rfl (hk v1 v2 v3 h)
    · skip
      refine s_aload0 0 rfl dJ7_fill_53178_10 ?_
      refine s_iload2 2 rfl dJ7_fill_53178_11 ?_
      refine s_iload1 1 rfl dJ7_fill_53178_12 ?_
      refine s_chk (fun q2 => ?_)
      refine s_ias ha q2 dJ7_fill_53178_13 ?_
      refine s_iincw 1 (by decide) 2 [(2, .inl (v2 + 1)), (0, .inr (.inr (t0, j0))), (1, .inl v1), (3, .inl v3)] rfl rfl rfl dJ7_fill_53178_14 ?_
      refine s_goto (tgt := 5) dJ7_fill_53178_17 (by decide) ?_
      exact s_loc [1, 2, 0, 3] rfl (ih v1 (v2 + 1) v3 (uI h t0 j0 v2.toNatClampNeg v1))
set_option maxRecDepth 20000 in
theorem sf_J7_fill_53178 (G : mG) (X : mX) (t0 : Nat) (n0 : Nat) (j0 : Nat) (x1 : Int32) (ha : mArrT .int t0 n0) (h : mH) : Sim G X cJ7_fill_53178 4 RJ7 none (mRoom 0 0) eV (f_J7_fill_53178 t0 n0 j0 x1 h) 0 [(0, .inr (.inr (t0, j0))), (1, .inl x1)] [] h := by
  unfold f_J7_fill_53178
  refine s_k0 dJ7_fill_53178_0 ?_
  refine s_istore2 [(2, .inl 0), (0, .inr (.inr (t0, j0))), (1, .inl x1)] rfl rfl dJ7_fill_53178_1 ?_
  refine s_aload0 1 rfl dJ7_fill_53178_2 ?_
  refine s_alen (n := n0) (t0 := 0) ha.1 ha.2 rfl rfl dJ7_fill_53178_3 ?_
  refine s_istore3 [(3, .inl (Int32.ofNat n0)), (2, .inl 0), (0, .inr (.inr (t0, j0))), (1, .inl x1)] rfl rfl dJ7_fill_53178_4 ?_
  refine s_loc [2, 3, 1, 0] rfl ?_
  refine sf_J7_fill_53178_5 G X t0 n0 j0 ha _ (fun u3 u4 u5 h6 => ?_) mFu x1 0 (Int32.ofNat n0) h
  · skip
    exact s_return rfl rfl dJ7_fill_53178_20
set_option maxRecDepth 20000 in
theorem cf_J7_fill_53178 (G : mG) (l : Launch) (t0 : Nat) (n0 : Nat) (j0 : Nat) (x1 : Int32) (ha : mArrT .int t0 n0) (h : mH) (b : mH) (hb : f_J7_fill_53178 t0 n0 j0 x1 h = some b) (hl : ∀ v ∈ ([.inr (.inr (t0, j0)), .inl x1] : List mV), mLi v) : mMet G l yJ7_fill_53178 cJ7_fill_53178 4 none (mRoom 0 0) [.inr (.inr (t0, j0)), .inl x1] h (eV b) :=
  mMet.of (y := yJ7_fill_53178) (as := [.inr (.inr (t0, j0)), .inl x1]) (by decide +kernel) (Nat.le_of_ble_eq_true rfl) (fun X => sf_J7_fill_53178 G X t0 n0 j0 x1 ha h) hl b hb
-- java/util/Arrays.fill([JJ)V
def f_J7_fill_d0a16_6 (k : Int64 → Int32 → Int32 → mH → Option (mH)) (t0 n0 : Nat) (j0 : Nat) : Nat → Int64 → Int32 → Int32 → mH → Option (mH)
  | 0, _, _, _, _ => none
  | n + 1, v1, v3, v4, h =>
    if v3 < v4 then
      if mIn v3 n0 = true then
      f_J7_fill_d0a16_6 k t0 n0 j0 n v1 (v3 + 1) v4 (uJ h t0 j0 v3.toNatClampNeg v1)
      else none
    else
      k v1 v3 v4 h
def f_J7_fill_d0a16 (t0 : Nat) (n0 : Nat) (j0 : Nat) (x1 : Int64) (h : mH) : Option (mH) :=
  f_J7_fill_d0a16_6 (fun u3 u4 u5 h6 =>
    some h6) t0 n0 j0 mFu x1 0 (Int32.ofNat n0) h
set_option maxRecDepth 20000 in
theorem sf_J7_fill_d0a16_6 (G : mG) (X : mX) (t0 n0 : Nat) (j0 : Nat) (ha : mArrT .long t0 n0) (k : Int64 → Int32 → Int32 → mH → Option (mH)) (hk : ∀ (v1 : Int64) (v3 : Int32) (v4 : Int32) (h : mH), Sim G X cJ7_fill_d0a16 5 RJ7 none (mRoom 0 0) eV (k v1 v3 v4 h) 22 [(0, .inr (.inr (t0, j0))), (1, .inr (.inl v1)), (3, .inl v3), (4, .inl v4)] [] h) (n : Nat) : ∀ (v1 : Int64) (v3 : Int32) (v4 : Int32) (h : mH), Sim G X cJ7_fill_d0a16 5 RJ7 none (mRoom 0 0) eV (f_J7_fill_d0a16_6 k t0 n0 j0 n v1 v3 v4 h) 6 [(0, .inr (.inr (t0, j0))), (1, .inr (.inl v1)), (3, .inl v3), (4, .inl v4)] [] h := by
  induction n with
  | zero =>
    intro v1 v3 v4 h
    exact s_none
  | succ n ih =>
    intro v1 v3 v4 h
    unfold f_J7_fill_d0a16_6
    refine s_iload3 2 rfl dJ7_fill_d0a16_6 ?_
    refine s_iload 3 rfl dJ7_fill_d0a16_7 ?_
    refine s_ic_ge (tgt := 22) dJ7_fill_d0a16_9 (by decide) (fun q1 => ?_) (fun q1 => ?_)
    · skip
      exact s_loc [0, 1, 2, 3] rfl (hk v1 v3 v4 h)
    · skip
      refine s_aload0 0 rfl dJ7_fill_d0a16_12 ?_
      refine s_iload3 2 rfl dJ7_fill_d0a16_13 ?_
      refine s_lload1 1 rfl dJ7_fill_d0a16_14 ?_
      refine s_chk (fun q2 => ?_)
      refine s_las ha q2 dJ7_fill_d0a16_15 ?_
      refine s_iincw 1 (by decide) 2 [(3, .inl (v3 + 1)), (0, .inr (.inr (t0, j0))), (1, .inr (.inl v1)), (4, .inl v4)] rfl rfl rfl dJ7_fill_d0a16_16 ?_
      refine s_goto (tgt := 6) dJ7_fill_d0a16_19 (by decide) ?_
      exact s_loc [1, 2, 0, 3] rfl (ih v1 (v3 + 1) v4 (uJ h t0 j0 v3.toNatClampNeg v1))
set_option maxRecDepth 20000 in
theorem sf_J7_fill_d0a16 (G : mG) (X : mX) (t0 : Nat) (n0 : Nat) (j0 : Nat) (x1 : Int64) (ha : mArrT .long t0 n0) (h : mH) : Sim G X cJ7_fill_d0a16 5 RJ7 none (mRoom 0 0) eV (f_J7_fill_d0a16 t0 n0 j0 x1 h) 0 [(0, .inr (.inr (t0, j0))), (1, .inr (.inl x1))] [] h := by
  unfold f_J7_fill_d0a16
  refine s_k0 dJ7_fill_d0a16_0 ?_
  refine s_istore3 [(3, .inl 0), (0, .inr (.inr (t0, j0))), (1, .inr (.inl x1))] rfl rfl dJ7_fill_d0a16_1 ?_
  refine s_aload0 1 rfl dJ7_fill_d0a16_2 ?_
  refine s_alen (n := n0) (t0 := 1) ha.1 ha.2 rfl rfl dJ7_fill_d0a16_3 ?_
  refine s_istorew [(4, .inl (Int32.ofNat n0)), (3, .inl 0), (0, .inr (.inr (t0, j0))), (1, .inr (.inl x1))] rfl rfl dJ7_fill_d0a16_4 ?_
  refine s_loc [2, 3, 1, 0] rfl ?_
  refine sf_J7_fill_d0a16_6 G X t0 n0 j0 ha _ (fun u3 u4 u5 h6 => ?_) mFu x1 0 (Int32.ofNat n0) h
  · skip
    exact s_return rfl rfl dJ7_fill_d0a16_22
set_option maxRecDepth 20000 in
theorem cf_J7_fill_d0a16 (G : mG) (l : Launch) (t0 : Nat) (n0 : Nat) (j0 : Nat) (x1 : Int64) (ha : mArrT .long t0 n0) (h : mH) (b : mH) (hb : f_J7_fill_d0a16 t0 n0 j0 x1 h = some b) (hl : ∀ v ∈ ([.inr (.inr (t0, j0)), .inr (.inl x1)] : List mV), mLi v) : mMet G l yJ7_fill_d0a16 cJ7_fill_d0a16 5 none (mRoom 0 0) [.inr (.inr (t0, j0)), .inr (.inl x1)] h (eV b) :=
  mMet.of (y := yJ7_fill_d0a16) (as := [.inr (.inr (t0, j0)), .inr (.inl x1)]) (by decide +kernel) (Nat.le_of_ble_eq_true rfl) (fun X => sf_J7_fill_d0a16 G X t0 n0 j0 x1 ha h) hl b hb
-- DriverBook$State.blank()V
def f_X8_blank (i0 : Nat) (h : mH) : Option (mH) :=
  (f_J7_fill_53178 33 24 i0 0 h).bind fun r1 =>
  (f_J7_fill_53178 34 24 i0 0 r1).bind fun r2 =>
  (f_J7_fill_53178 35 24 i0 0 r2).bind fun r3 =>
  (f_J7_fill_53178 36 24 i0 0 r3).bind fun r4 =>
  (f_J7_fill_d0a16 37 24 i0 (-1) r4).bind fun r5 =>
  (f_J7_fill_53178 38 8 i0 0 r5).bind fun r6 =>
  mLet (uI r6 8 i0 9 0) fun h7 =>
  mLet (uJ h7 8 i0 10 0) fun h8 =>
  mLet (uI h8 8 i0 11 0) fun h9 =>
  mLet (uI h9 8 i0 12 0) fun h10 =>
  mLet (uJ h10 8 i0 13 0) fun h11 =>
  mLet (uI h11 8 i0 14 (-1)) fun h12 =>
  some (uJ h12 8 i0 15 (-1))
set_option maxRecDepth 20000 in
theorem sf_X8_blank (G : mG) (X : mX) (i0 : Nat)  (h : mH) : Sim G X cX8_blank 1 RX8 none (mRoom 1 24) eV (f_X8_blank i0 h) 0 [(0, .inr (.inr (8, i0)))] [] h := by
  unfold f_X8_blank
  refine s_aload0 0 rfl dX8_blank_0 ?_
  refine s_gr (gR_RX8_9 i0) dX8_blank_1 ?_
  refine s_k0 dX8_blank_4 ?_
  refine s_siV [.inr (.inr (33, i0)), .inl 0] (fun l b hb hl => cf_J7_fill_53178 G l 33 24 i0 0 aT_33 h b hb hl) me_J7_fill_53178 si_RX8_71 rfl rfl rfl rfl rfl dX8_blank_5 (fun r1 => ?_)
  refine s_aload0 0 rfl dX8_blank_8 ?_
  refine s_gr (gR_RX8_15 i0) dX8_blank_9 ?_
  refine s_k0 dX8_blank_12 ?_
  refine s_siV [.inr (.inr (34, i0)), .inl 0] (fun l b hb hl => cf_J7_fill_53178 G l 34 24 i0 0 aT_34 r1 b hb hl) me_J7_fill_53178 si_RX8_71 rfl rfl rfl rfl rfl dX8_blank_13 (fun r2 => ?_)
  refine s_aload0 0 rfl dX8_blank_16 ?_
  refine s_gr (gR_RX8_18 i0) dX8_blank_17 ?_
  refine s_k0 dX8_blank_20 ?_
  refine s_siV [.inr (.inr (35, i0)), .inl 0] (fun l b hb hl => cf_J7_fill_53178 G l 35 24 i0 0 aT_35 r2 b hb hl) me_J7_fill_53178 si_RX8_71 rfl rfl rfl rfl rfl dX8_blank_21 (fun r3 => ?_)
  refine s_aload0 0 rfl dX8_blank_24 ?_
  refine s_gr (gR_RX8_21 i0) dX8_blank_25 ?_
  refine s_k0 dX8_blank_28 ?_
  refine s_siV [.inr (.inr (36, i0)), .inl 0] (fun l b hb hl => cf_J7_fill_53178 G l 36 24 i0 0 aT_36 r3 b hb hl) me_J7_fill_53178 si_RX8_71 rfl rfl rfl rfl rfl dX8_blank_29 (fun r4 => ?_)
  refine s_aload0 0 rfl dX8_blank_32 ?_
  refine s_gr (gR_RX8_24 i0) dX8_blank_33 ?_
  refine s_ldc2 (v := (-1)) kc_RX8_60 dX8_blank_36 ?_
  refine s_siV [.inr (.inr (37, i0)), .inr (.inl (-1))] (fun l b hb hl => cf_J7_fill_d0a16 G l 37 24 i0 (-1) aT_37 r4 b hb hl) me_J7_fill_d0a16 si_RX8_65 rfl rfl rfl rfl rfl dX8_blank_39 (fun r5 => ?_)
  refine s_aload0 0 rfl dX8_blank_42 ?_
  refine s_gr (gR_RX8_28 i0) dX8_blank_43 ?_
  refine s_k0 dX8_blank_46 ?_
  refine s_siV [.inr (.inr (38, i0)), .inl 0] (fun l b hb hl => cf_J7_fill_53178 G l 38 8 i0 0 aT_38 r5 b hb hl) me_J7_fill_53178 si_RX8_71 rfl rfl rfl rfl rfl dX8_blank_47 (fun r6 => ?_)
  refine s_aload0 0 rfl dX8_blank_50 ?_
  refine s_k0 dX8_blank_51 ?_
  refine s_pi pI_RX8_40 dX8_blank_52 ?_
  refine s_aload0 0 rfl dX8_blank_55 ?_
  refine s_lk0 dX8_blank_56 ?_
  refine s_let (fun h7 => ?_)
  refine s_pj pJ_RX8_44 dX8_blank_57 ?_
  refine s_aload0 0 rfl dX8_blank_60 ?_
  refine s_k0 dX8_blank_61 ?_
  refine s_let (fun h8 => ?_)
  refine s_pi pI_RX8_48 dX8_blank_62 ?_
  refine s_aload0 0 rfl dX8_blank_65 ?_
  refine s_k0 dX8_blank_66 ?_
  refine s_let (fun h9 => ?_)
  refine s_pi pI_RX8_51 dX8_blank_67 ?_
  refine s_aload0 0 rfl dX8_blank_70 ?_
  refine s_lk0 dX8_blank_71 ?_
  refine s_let (fun h10 => ?_)
  refine s_pj pJ_RX8_54 dX8_blank_72 ?_
  refine s_aload0 0 rfl dX8_blank_75 ?_
  refine s_km1 dX8_blank_76 ?_
  refine s_let (fun h11 => ?_)
  refine s_pi pI_RX8_57 dX8_blank_77 ?_
  refine s_aload0 0 rfl dX8_blank_80 ?_
  refine s_ldc2 (v := (-1)) kc_RX8_60 dX8_blank_81 ?_
  refine s_let (fun h12 => ?_)
  refine s_pj pJ_RX8_62 dX8_blank_84 ?_
  exact s_return rfl rfl dX8_blank_87
set_option maxRecDepth 20000 in
theorem cf_X8_blank (G : mG) (l : Launch) (i0 : Nat)  (h : mH) (b : mH) (hb : f_X8_blank i0 h = some b) (hl : ∀ v ∈ ([.inr (.inr (8, i0))] : List mV), mLi v) : mMet G l yX8_blank cX8_blank 1 none (mRoom 1 24) [.inr (.inr (8, i0))] h (eV b) :=
  mMet.of (y := yX8_blank) (as := [.inr (.inr (8, i0))]) (by decide +kernel) (Nat.le_of_ble_eq_true rfl) (fun X => sf_X8_blank G X i0  h) hl b hb
-- DriverBook$Chip.sortIn(ILDriverBook$Field;)V
def f_X2_sortIn_j40 (w1 : Int32) (j2 : Nat) (w3 : Int32) (h : mH) : Option (mH) :=
  (f_X6_isKept j2 h).bind fun r3 =>
  if r3.1 = 0 then
    if (r3.2.1 6 j2 3) = 4 then
      if mIn (r3.2.1 2 0 6) 24 = true then
      mLet (uI r3.2 31 0 (r3.2.1 2 0 6).toNatClampNeg w1) fun h7 =>
      some (uI h7 2 0 6 ((h7.1 2 0 6) + 1))
      else none
    else
      some r3.2
  else
    if mIn w3 8 = true then
    mLet (uI r3.2 30 0 w3.toNatClampNeg ((r3.2.1 30 0 w3.toNatClampNeg) ||| (r3.2.1 6 j2 6))) fun h9 =>
    if (h9.1 6 j2 3) = 4 then
      if mIn (h9.1 2 0 6) 24 = true then
      mLet (uI h9 31 0 (h9.1 2 0 6).toNatClampNeg w1) fun h12 =>
      some (uI h12 2 0 6 ((h12.1 2 0 6) + 1))
      else none
    else
      some h9
    else none
def f_X2_sortIn (x1 : Int32) (i2 : Nat) (h : mH) : Option (mH) :=
  if mIn (h.1 6 i2 0) 8 = true then
  if (h.1 29 0 (h.1 6 i2 0).toNatClampNeg) < 16 then
    if mIn (h.1 29 0 (h.1 6 i2 0).toNatClampNeg) 16 = true then
    mLet (uI h 28 ((h.1 6 i2 0).toNatClampNeg) (h.1 29 0 (h.1 6 i2 0).toNatClampNeg).toNatClampNeg x1) fun h14 =>
    f_X2_sortIn_j40 x1 i2 (h.1 6 i2 0) (uI h14 29 0 (h.1 6 i2 0).toNatClampNeg ((h14.1 29 0 (h.1 6 i2 0).toNatClampNeg) + 1))
    else none
  else
    f_X2_sortIn_j40 x1 i2 (h.1 6 i2 0) h
  else none
set_option maxRecDepth 20000 in
theorem sf_X2_sortIn_j40 (G : mG) (X : mX) (w1 : Int32) (j2 : Nat) (w3 : Int32) (h : mH) : Sim G X cX2_sortIn 4 RX2 none (mRoom 1 20) eV (f_X2_sortIn_j40 w1 j2 w3 h) 40 [(0, .inr (.inr (2, 0))), (1, .inl w1), (2, .inr (.inr (6, j2))), (3, .inl w3)] [] h := by
  unfold f_X2_sortIn_j40
  refine s_aload2 2 rfl dX2_sortIn_40 ?_
  refine s_viI [] (fun l b hb hl => cf_X6_isKept G l j2 h b hb hl) me_X6_isKept vi_RX2_73 rfl rfl rfl rfl rfl dX2_sortIn_41 (fun r3 => ?_)
  refine s_if_eq (tgt := 60) dX2_sortIn_44 (by decide) (fun q4 => ?_) (fun q4 => ?_)
  · skip
    refine s_aload2 2 rfl dX2_sortIn_60 ?_
    refine s_gi gI_RX2_89 dX2_sortIn_61 ?_
    refine s_k4 dX2_sortIn_64 ?_
    refine s_ic_ne (tgt := 88) dX2_sortIn_65 (by decide) (fun q5 => ?_) (fun q5 => ?_)
    · skip
      exact s_return rfl rfl dX2_sortIn_88
    · skip
      refine s_aload0 0 rfl dX2_sortIn_68 ?_
      refine s_gr (gR_RX2_23 0) dX2_sortIn_69 ?_
      refine s_aload0 0 rfl dX2_sortIn_72 ?_
      refine s_gi gI_RX2_26 dX2_sortIn_73 ?_
      refine s_iload1 1 rfl dX2_sortIn_76 ?_
      refine s_chk (fun q6 => ?_)
      refine s_ias aT_31 q6 dX2_sortIn_77 ?_
      refine s_aload0 0 rfl dX2_sortIn_78 ?_
      refine s_dup rfl dX2_sortIn_79 ?_
      refine s_let (fun h7 => ?_)
      refine s_gi gI_RX2_26 dX2_sortIn_80 ?_
      refine s_k1 dX2_sortIn_83 ?_
      refine s_iadd dX2_sortIn_84 ?_
      refine s_pi pI_RX2_26 dX2_sortIn_85 ?_
      exact s_return rfl rfl dX2_sortIn_88
  · skip
    refine s_aload0 0 rfl dX2_sortIn_47 ?_
    refine s_gr (gR_RX2_20 0) dX2_sortIn_48 ?_
    refine s_iload3 3 rfl dX2_sortIn_51 ?_
    refine s_dup2 rfl rfl dX2_sortIn_52 ?_
    refine s_chk (fun q8 => ?_)
    refine s_ial aT_30 q8 dX2_sortIn_53 ?_
    refine s_aload2 2 rfl dX2_sortIn_54 ?_
    refine s_gi gI_RX2_86 dX2_sortIn_55 ?_
    refine s_ior dX2_sortIn_58 ?_
    refine s_ias aT_30 q8 dX2_sortIn_59 ?_
    refine s_aload2 2 rfl dX2_sortIn_60 ?_
    refine s_let (fun h9 => ?_)
    refine s_gi gI_RX2_89 dX2_sortIn_61 ?_
    refine s_k4 dX2_sortIn_64 ?_
    refine s_ic_ne (tgt := 88) dX2_sortIn_65 (by decide) (fun q10 => ?_) (fun q10 => ?_)
    · skip
      exact s_return rfl rfl dX2_sortIn_88
    · skip
      refine s_aload0 0 rfl dX2_sortIn_68 ?_
      refine s_gr (gR_RX2_23 0) dX2_sortIn_69 ?_
      refine s_aload0 0 rfl dX2_sortIn_72 ?_
      refine s_gi gI_RX2_26 dX2_sortIn_73 ?_
      refine s_iload1 1 rfl dX2_sortIn_76 ?_
      refine s_chk (fun q11 => ?_)
      refine s_ias aT_31 q11 dX2_sortIn_77 ?_
      refine s_aload0 0 rfl dX2_sortIn_78 ?_
      refine s_dup rfl dX2_sortIn_79 ?_
      refine s_let (fun h12 => ?_)
      refine s_gi gI_RX2_26 dX2_sortIn_80 ?_
      refine s_k1 dX2_sortIn_83 ?_
      refine s_iadd dX2_sortIn_84 ?_
      refine s_pi pI_RX2_26 dX2_sortIn_85 ?_
      exact s_return rfl rfl dX2_sortIn_88
set_option maxRecDepth 20000 in
theorem sf_X2_sortIn (G : mG) (X : mX) (x1 : Int32) (i2 : Nat)  (h : mH) : Sim G X cX2_sortIn 4 RX2 none (mRoom 1 20) eV (f_X2_sortIn x1 i2 h) 0 [(0, .inr (.inr (2, 0))), (1, .inl x1), (2, .inr (.inr (6, i2)))] [] h := by
  unfold f_X2_sortIn
  refine s_aload2 2 rfl dX2_sortIn_0 ?_
  refine s_gi gI_RX2_80 dX2_sortIn_1 ?_
  refine s_istore3 [(3, .inl (h.1 6 i2 0)), (0, .inr (.inr (2, 0))), (1, .inl x1), (2, .inr (.inr (6, i2)))] rfl rfl dX2_sortIn_4 ?_
  refine s_aload0 1 rfl dX2_sortIn_5 ?_
  refine s_gr (gR_RX2_16 0) dX2_sortIn_6 ?_
  refine s_iload3 0 rfl dX2_sortIn_9 ?_
  refine s_chk (fun q1 => ?_)
  refine s_ial aT_29 q1 dX2_sortIn_10 ?_
  refine s_bip 16 kb_16 dX2_sortIn_11 ?_
  refine s_ic_ge (tgt := 40) dX2_sortIn_13 (by decide) (fun q2 => ?_) (fun q2 => ?_)
  · skip
    exact s_loc [1, 2, 3, 0] rfl (sf_X2_sortIn_j40 G X x1 i2 (h.1 6 i2 0) h)
  · skip
    refine s_aload0 1 rfl dX2_sortIn_16 ?_
    refine s_gr (gR_RX2_11 0) dX2_sortIn_17 ?_
    refine s_iload3 0 rfl dX2_sortIn_20 ?_
    refine s_aal (aR_27 0 (h.1 6 i2 0)) q1 dX2_sortIn_21 ?_
    refine s_aload0 1 rfl dX2_sortIn_22 ?_
    refine s_gr (gR_RX2_16 0) dX2_sortIn_23 ?_
    refine s_iload3 0 rfl dX2_sortIn_26 ?_
    refine s_ial aT_29 q1 dX2_sortIn_27 ?_
    refine s_iload1 2 rfl dX2_sortIn_28 ?_
    refine s_chk (fun q13 => ?_)
    refine s_ias aT_28 q13 dX2_sortIn_29 ?_
    refine s_aload0 1 rfl dX2_sortIn_30 ?_
    refine s_gr (gR_RX2_16 0) dX2_sortIn_31 ?_
    refine s_iload3 0 rfl dX2_sortIn_34 ?_
    refine s_dup2 rfl rfl dX2_sortIn_35 ?_
    refine s_let (fun h14 => ?_)
    refine s_ial aT_29 q1 dX2_sortIn_36 ?_
    refine s_k1 dX2_sortIn_37 ?_
    refine s_iadd dX2_sortIn_38 ?_
    refine s_ias aT_29 q1 dX2_sortIn_39 ?_
    exact s_loc [1, 2, 3, 0] rfl (sf_X2_sortIn_j40 G X x1 i2 (h.1 6 i2 0) (uI h14 29 0 (h.1 6 i2 0).toNatClampNeg ((h14.1 29 0 (h.1 6 i2 0).toNatClampNeg) + 1)))
set_option maxRecDepth 20000 in
theorem cf_X2_sortIn (G : mG) (l : Launch) (x1 : Int32) (i2 : Nat)  (h : mH) (b : mH) (hb : f_X2_sortIn x1 i2 h = some b) (hl : ∀ v ∈ ([.inr (.inr (2, 0)), .inl x1, .inr (.inr (6, i2))] : List mV), mLi v) : mMet G l yX2_sortIn cX2_sortIn 4 none (mRoom 1 20) [.inr (.inr (2, 0)), .inl x1, .inr (.inr (6, i2))] h (eV b) :=
  mMet.of (y := yX2_sortIn) (as := [.inr (.inr (2, 0)), .inl x1, .inr (.inr (6, i2))]) (by decide +kernel) (Nat.le_of_ble_eq_true rfl) (fun X => sf_X2_sortIn G X x1 i2  h) hl b hb
-- DriverBook$Chip.powerUp()V
def f_X2_powerUp_30 (k : Int32 → mH → Option (mH))  : Nat → Int32 → mH → Option (mH)
  | 0, _, _ => none
  | n + 1, v1, h =>
    if v1 < (h.1 1 0 4) then
      if mIn v1 24 = true then
      (f_X2_sortIn v1 v1.toNatClampNeg h).bind fun r6 =>
      mLet (uI r6 33 0 v1.toNatClampNeg (r6.1 6 v1.toNatClampNeg 4)) fun h7 =>
      (f_X6_isKept v1.toNatClampNeg (uI h7 34 0 v1.toNatClampNeg (h7.1 6 v1.toNatClampNeg 4))).bind fun r8 =>
      if r8.1 = 0 then
        f_X2_powerUp_30 k  n (v1 + 1) r8.2
      else
        if mIn (r8.2.1 6 v1.toNatClampNeg 0) 8 = true then
        f_X2_powerUp_30 k  n (v1 + 1) (uI r8.2 38 0 (r8.2.1 6 v1.toNatClampNeg 0).toNatClampNeg ((r8.2.1 38 0 (r8.2.1 6 v1.toNatClampNeg 0).toNatClampNeg) ||| ((r8.2.1 6 v1.toNatClampNeg 4) <<< ((r8.2.1 6 v1.toNatClampNeg 1) &&& 31))))
        else none
      else none
    else
      k v1 h
def f_X2_powerUp  (h : mH) : Option (mH) :=
  (f_X8_blank 0 h).bind fun r1 =>
  (f_J7_fill_53178 29 8 0 0 r1).bind fun r2 =>
  (f_J7_fill_53178 30 8 0 0 r2).bind fun r3 =>
  f_X2_powerUp_30 (fun u11 h12 =>
    some h12)  mFu 0 (uI r3 2 0 6 0)
set_option maxRecDepth 20000 in
theorem sf_X2_powerUp_30 (G : mG) (X : mX)   (k : Int32 → mH → Option (mH)) (hk : ∀ (v1 : Int32) (h : mH), Sim G X cX2_powerUp 3 RX2 none (mRoom 2 44) eV (k v1 h) 120 [(0, .inr (.inr (2, 0))), (1, .inl v1)] [] h) (n : Nat) : ∀ (v1 : Int32) (h : mH), Sim G X cX2_powerUp 3 RX2 none (mRoom 2 44) eV (f_X2_powerUp_30 k  n v1 h) 30 [(0, .inr (.inr (2, 0))), (1, .inl v1)] [] h := by
  induction n with
  | zero =>
    intro v1 h
    exact s_none
  | succ n ih =>
    intro v1 h
    unfold f_X2_powerUp_30
    refine s_iload1 1 rfl dX2_powerUp_30 ?_
    refine s_aload0 0 rfl dX2_powerUp_31 ?_
    refine s_gr (gR_RX2_30 0) dX2_powerUp_32 ?_
    refine s_gi gI_RX2_49 dX2_powerUp_35 ?_
    refine s_ic_ge (tgt := 120) dX2_powerUp_38 (by decide) (fun q4 => ?_) (fun q4 => ?_)
    · skip
      exact s_loc [0, 1] rfl (hk v1 h)
    · skip
      refine s_aload0 0 rfl dX2_powerUp_41 ?_
      refine s_gr (gR_RX2_30 0) dX2_powerUp_42 ?_
      refine s_gr (gR_RX2_54 0) dX2_powerUp_45 ?_
      refine s_iload1 1 rfl dX2_powerUp_48 ?_
      refine s_chk (fun q5 => ?_)
      refine s_aal (aR_24 0 v1) q5 dX2_powerUp_49 ?_
      refine s_astore2 [(2, .inr (.inr (6, v1.toNatClampNeg))), (0, .inr (.inr (2, 0))), (1, .inl v1)] rfl rfl dX2_powerUp_50 ?_
      refine s_aload0 1 rfl dX2_powerUp_51 ?_
      refine s_iload1 2 rfl dX2_powerUp_52 ?_
      refine s_aload2 0 rfl dX2_powerUp_53 ?_
      refine s_viV [.inl v1, .inr (.inr (6, v1.toNatClampNeg))] (fun l b hb hl => cf_X2_sortIn G l v1 v1.toNatClampNeg h b hb hl) me_X2_sortIn vi_RX2_58 rfl rfl rfl rfl rfl dX2_powerUp_54 (fun r6 => ?_)
      refine s_aload0 1 rfl dX2_powerUp_57 ?_
      refine s_gr (gR_RX2_34 0) dX2_powerUp_58 ?_
      refine s_gr (gR_RX2_62 0) dX2_powerUp_61 ?_
      refine s_iload1 2 rfl dX2_powerUp_64 ?_
      refine s_aload2 0 rfl dX2_powerUp_65 ?_
      refine s_gi gI_RX2_65 dX2_powerUp_66 ?_
      refine s_ias aT_33 q5 dX2_powerUp_69 ?_
      refine s_aload0 1 rfl dX2_powerUp_70 ?_
      refine s_gr (gR_RX2_34 0) dX2_powerUp_71 ?_
      refine s_gr (gR_RX2_70 0) dX2_powerUp_74 ?_
      refine s_iload1 2 rfl dX2_powerUp_77 ?_
      refine s_aload2 0 rfl dX2_powerUp_78 ?_
      refine s_let (fun h7 => ?_)
      refine s_gi gI_RX2_65 dX2_powerUp_79 ?_
      refine s_ias aT_34 q5 dX2_powerUp_82 ?_
      refine s_aload2 0 rfl dX2_powerUp_83 ?_
      refine s_viI [] (fun l b hb hl => cf_X6_isKept G l v1.toNatClampNeg (uI h7 34 0 v1.toNatClampNeg (h7.1 6 v1.toNatClampNeg 4)) b hb hl) me_X6_isKept vi_RX2_73 rfl rfl rfl rfl rfl dX2_powerUp_84 (fun r8 => ?_)
      refine s_if_eq (tgt := 114) dX2_powerUp_87 (by decide) (fun q9 => ?_) (fun q9 => ?_)
      · skip
        refine s_iincw 1 (by decide) 2 [(1, .inl (v1 + 1)), (2, .inr (.inr (6, v1.toNatClampNeg))), (0, .inr (.inr (2, 0)))] rfl rfl rfl dX2_powerUp_114 ?_
        refine s_goto (tgt := 30) dX2_powerUp_117 (by decide) ?_
        exact s_loc [2, 0] rfl (ih (v1 + 1) r8.2)
      · skip
        refine s_aload0 1 rfl dX2_powerUp_90 ?_
        refine s_gr (gR_RX2_34 0) dX2_powerUp_91 ?_
        refine s_gr (gR_RX2_77 0) dX2_powerUp_94 ?_
        refine s_aload2 0 rfl dX2_powerUp_97 ?_
        refine s_gi gI_RX2_80 dX2_powerUp_98 ?_
        refine s_dup2 rfl rfl dX2_powerUp_101 ?_
        refine s_chk (fun q10 => ?_)
        refine s_ial aT_38 q10 dX2_powerUp_102 ?_
        refine s_aload2 0 rfl dX2_powerUp_103 ?_
        refine s_gi gI_RX2_65 dX2_powerUp_104 ?_
        refine s_aload2 0 rfl dX2_powerUp_107 ?_
        refine s_gi gI_RX2_83 dX2_powerUp_108 ?_
        refine s_ishl dX2_powerUp_111 ?_
        refine s_ior dX2_powerUp_112 ?_
        refine s_ias aT_38 q10 dX2_powerUp_113 ?_
        refine s_iincw 1 (by decide) 2 [(1, .inl (v1 + 1)), (2, .inr (.inr (6, v1.toNatClampNeg))), (0, .inr (.inr (2, 0)))] rfl rfl rfl dX2_powerUp_114 ?_
        refine s_goto (tgt := 30) dX2_powerUp_117 (by decide) ?_
        exact s_loc [2, 0] rfl (ih (v1 + 1) (uI r8.2 38 0 (r8.2.1 6 v1.toNatClampNeg 0).toNatClampNeg ((r8.2.1 38 0 (r8.2.1 6 v1.toNatClampNeg 0).toNatClampNeg) ||| ((r8.2.1 6 v1.toNatClampNeg 4) <<< ((r8.2.1 6 v1.toNatClampNeg 1) &&& 31)))))
set_option maxRecDepth 20000 in
theorem sf_X2_powerUp (G : mG) (X : mX)   (h : mH) : Sim G X cX2_powerUp 3 RX2 none (mRoom 2 44) eV (f_X2_powerUp  h) 0 [(0, .inr (.inr (2, 0)))] [] h := by
  unfold f_X2_powerUp
  refine s_aload0 0 rfl dX2_powerUp_0 ?_
  refine s_gr (gR_RX2_34 0) dX2_powerUp_1 ?_
  refine s_viV [] (fun l b hb hl => cf_X8_blank G l 0 h b hb hl) me_X8_blank vi_RX2_38 rfl rfl rfl rfl rfl dX2_powerUp_4 (fun r1 => ?_)
  refine s_aload0 0 rfl dX2_powerUp_7 ?_
  refine s_gr (gR_RX2_16 0) dX2_powerUp_8 ?_
  refine s_k0 dX2_powerUp_11 ?_
  refine s_siV [.inr (.inr (29, 0)), .inl 0] (fun l b hb hl => cf_J7_fill_53178 G l 29 8 0 0 aT_29 r1 b hb hl) me_J7_fill_53178 si_RX2_43 rfl rfl rfl rfl rfl dX2_powerUp_12 (fun r2 => ?_)
  refine s_aload0 0 rfl dX2_powerUp_15 ?_
  refine s_gr (gR_RX2_20 0) dX2_powerUp_16 ?_
  refine s_k0 dX2_powerUp_19 ?_
  refine s_siV [.inr (.inr (30, 0)), .inl 0] (fun l b hb hl => cf_J7_fill_53178 G l 30 8 0 0 aT_30 r2 b hb hl) me_J7_fill_53178 si_RX2_43 rfl rfl rfl rfl rfl dX2_powerUp_20 (fun r3 => ?_)
  refine s_aload0 0 rfl dX2_powerUp_23 ?_
  refine s_k0 dX2_powerUp_24 ?_
  refine s_pi pI_RX2_26 dX2_powerUp_25 ?_
  refine s_k0 dX2_powerUp_28 ?_
  refine s_istore1 [(1, .inl 0), (0, .inr (.inr (2, 0)))] rfl rfl dX2_powerUp_29 ?_
  refine s_loc [1, 0] rfl ?_
  refine sf_X2_powerUp_30 G X  _ (fun u11 h12 => ?_) mFu 0 (uI r3 2 0 6 0)
  · skip
    exact s_return rfl rfl dX2_powerUp_120
set_option maxRecDepth 20000 in
theorem cf_X2_powerUp (G : mG) (l : Launch)   (h : mH) (b : mH) (hb : f_X2_powerUp  h = some b) (hl : ∀ v ∈ ([.inr (.inr (2, 0))] : List mV), mLi v) : mMet G l yX2_powerUp cX2_powerUp 3 none (mRoom 2 44) [.inr (.inr (2, 0))] h (eV b) :=
  mMet.of (y := yX2_powerUp) (as := [.inr (.inr (2, 0))]) (by decide +kernel) (Nat.le_of_ble_eq_true rfl) (fun X => sf_X2_powerUp G X   h) hl b hb
-- DriverBook$Chip.endPulse(I)V
def f_X2_endPulse (x1 : Int32) (h : mH) : Option (mH) :=
  if mIn x1 24 = true then
  mLet (uI h 33 0 x1.toNatClampNeg 0) fun h2 =>
  if (h2.1 6 x1.toNatClampNeg 8) < 0 then
    some h2
  else
    if mIn (h2.1 6 x1.toNatClampNeg 8) 24 = true then
    some (uI h2 33 0 (h2.1 6 x1.toNatClampNeg 8).toNatClampNeg (h2.1 6 ((h2.1 6 x1.toNatClampNeg 8).toNatClampNeg) 5))
    else none
  else none
set_option maxRecDepth 20000 in
theorem sf_X2_endPulse (G : mG) (X : mX) (x1 : Int32)  (h : mH) : Sim G X cX2_endPulse 3 RX2 none (mRoom 0 0) eV (f_X2_endPulse x1 h) 0 [(0, .inr (.inr (2, 0))), (1, .inl x1)] [] h := by
  unfold f_X2_endPulse
  refine s_aload0 0 rfl dX2_endPulse_0 ?_
  refine s_gr (gR_RX2_34 0) dX2_endPulse_1 ?_
  refine s_gr (gR_RX2_62 0) dX2_endPulse_4 ?_
  refine s_iload1 1 rfl dX2_endPulse_7 ?_
  refine s_k0 dX2_endPulse_8 ?_
  refine s_chk (fun q1 => ?_)
  refine s_ias aT_33 q1 dX2_endPulse_9 ?_
  refine s_aload0 0 rfl dX2_endPulse_10 ?_
  refine s_gr (gR_RX2_30 0) dX2_endPulse_11 ?_
  refine s_gr (gR_RX2_54 0) dX2_endPulse_14 ?_
  refine s_iload1 1 rfl dX2_endPulse_17 ?_
  refine s_aal (aR_24 0 x1) q1 dX2_endPulse_18 ?_
  refine s_let (fun h2 => ?_)
  refine s_gi gI_RX2_109 dX2_endPulse_19 ?_
  refine s_istore2 [(2, .inl (h2.1 6 x1.toNatClampNeg 8)), (0, .inr (.inr (2, 0))), (1, .inl x1)] rfl rfl dX2_endPulse_22 ?_
  refine s_iload2 0 rfl dX2_endPulse_23 ?_
  refine s_if_lt (tgt := 48) dX2_endPulse_24 (by decide) (fun q3 => ?_) (fun q3 => ?_)
  · skip
    exact s_return rfl rfl dX2_endPulse_48
  · skip
    refine s_aload0 1 rfl dX2_endPulse_27 ?_
    refine s_gr (gR_RX2_34 0) dX2_endPulse_28 ?_
    refine s_gr (gR_RX2_62 0) dX2_endPulse_31 ?_
    refine s_iload2 0 rfl dX2_endPulse_34 ?_
    refine s_aload0 1 rfl dX2_endPulse_35 ?_
    refine s_gr (gR_RX2_30 0) dX2_endPulse_36 ?_
    refine s_gr (gR_RX2_54 0) dX2_endPulse_39 ?_
    refine s_iload2 0 rfl dX2_endPulse_42 ?_
    refine s_chk (fun q4 => ?_)
    refine s_aal (aR_24 0 (h2.1 6 x1.toNatClampNeg 8)) q4 dX2_endPulse_43 ?_
    refine s_gi gI_RX2_112 dX2_endPulse_44 ?_
    refine s_ias aT_33 q4 dX2_endPulse_47 ?_
    exact s_return rfl rfl dX2_endPulse_48
set_option maxRecDepth 20000 in
theorem cf_X2_endPulse (G : mG) (l : Launch) (x1 : Int32)  (h : mH) (b : mH) (hb : f_X2_endPulse x1 h = some b) (hl : ∀ v ∈ ([.inr (.inr (2, 0)), .inl x1] : List mV), mLi v) : mMet G l yX2_endPulse cX2_endPulse 3 none (mRoom 0 0) [.inr (.inr (2, 0)), .inl x1] h (eV b) :=
  mMet.of (y := yX2_endPulse) (as := [.inr (.inr (2, 0)), .inl x1]) (by decide +kernel) (Nat.le_of_ble_eq_true rfl) (fun X => sf_X2_endPulse G X x1  h) hl b hb
-- DriverBook$Chip.fireEvents()V
def f_X2_fireEvents_4 (k : Int32 → Int32 → mH → Option (mH))  : Nat → Int32 → Int32 → mH → Option (mH)
  | 0, _, _, _ => none
  | n + 1, v1, v2, h =>
    if v2 < (h.1 8 0 9) then
      if mIn v2 16 = true then
      if (lg_cmp (h.2 41 0 v2.toNatClampNeg) (h.2 8 0 10)) = 0 then
        if mIn (h.1 39 0 v2.toNatClampNeg) 24 = true then
        if (h.1 6 ((h.1 39 0 v2.toNatClampNeg).toNatClampNeg) 3) = 1 then
          f_X2_fireEvents_4 k  n v1 (v2 + 1) (uI h 33 0 (h.1 39 0 v2.toNatClampNeg).toNatClampNeg (h.1 40 0 v2.toNatClampNeg))
        else
          f_X2_fireEvents_4 k  n v1 (v2 + 1) (uI h 33 0 (h.1 39 0 v2.toNatClampNeg).toNatClampNeg ((h.1 33 0 (h.1 39 0 v2.toNatClampNeg).toNatClampNeg) ||| (h.1 40 0 v2.toNatClampNeg)))
        else none
      else
        if mIn v1 16 = true then
        mLet (uI h 39 0 v1.toNatClampNeg (h.1 39 0 v2.toNatClampNeg)) fun h7 =>
        mLet (uI h7 40 0 v1.toNatClampNeg (h7.1 40 0 v2.toNatClampNeg)) fun h8 =>
        f_X2_fireEvents_4 k  n (v1 + 1) (v2 + 1) (uJ h8 41 0 v1.toNatClampNeg (h8.2 41 0 v2.toNatClampNeg))
        else none
      else none
    else
      k v1 v2 h
def f_X2_fireEvents  (h : mH) : Option (mH) :=
  f_X2_fireEvents_4 (fun u9 u10 h11 =>
    some (uI h11 8 0 9 u9))  mFu 0 0 h
set_option maxRecDepth 20000 in
theorem sf_X2_fireEvents_4 (G : mG) (X : mX)   (k : Int32 → Int32 → mH → Option (mH)) (hk : ∀ (v1 : Int32) (v2 : Int32) (h : mH), Sim G X cX2_fireEvents 4 RX2 none (mRoom 0 0) eV (k v1 v2 h) 161 [(0, .inr (.inr (2, 0))), (1, .inl v1), (2, .inl v2)] [] h) (n : Nat) : ∀ (v1 : Int32) (v2 : Int32) (h : mH), Sim G X cX2_fireEvents 4 RX2 none (mRoom 0 0) eV (f_X2_fireEvents_4 k  n v1 v2 h) 4 [(0, .inr (.inr (2, 0))), (1, .inl v1), (2, .inl v2)] [] h := by
  induction n with
  | zero =>
    intro v1 v2 h
    exact s_none
  | succ n ih =>
    intro v1 v2 h
    unfold f_X2_fireEvents_4
    refine s_iload2 2 rfl dX2_fireEvents_4 ?_
    refine s_aload0 0 rfl dX2_fireEvents_5 ?_
    refine s_gr (gR_RX2_34 0) dX2_fireEvents_6 ?_
    refine s_gi gI_RX2_103 dX2_fireEvents_9 ?_
    refine s_ic_ge (tgt := 161) dX2_fireEvents_12 (by decide) (fun q1 => ?_) (fun q1 => ?_)
    · skip
      exact s_loc [0, 1, 2] rfl (hk v1 v2 h)
    · skip
      refine s_aload0 0 rfl dX2_fireEvents_15 ?_
      refine s_gr (gR_RX2_34 0) dX2_fireEvents_16 ?_
      refine s_gr (gR_RX2_115 0) dX2_fireEvents_19 ?_
      refine s_iload2 2 rfl dX2_fireEvents_22 ?_
      refine s_chk (fun q2 => ?_)
      refine s_ial aT_39 q2 dX2_fireEvents_23 ?_
      refine s_istore3 [(3, .inl (h.1 39 0 v2.toNatClampNeg)), (0, .inr (.inr (2, 0))), (1, .inl v1), (2, .inl v2)] rfl rfl dX2_fireEvents_24 ?_
      refine s_aload0 1 rfl dX2_fireEvents_25 ?_
      refine s_gr (gR_RX2_34 0) dX2_fireEvents_26 ?_
      refine s_gr (gR_RX2_118 0) dX2_fireEvents_29 ?_
      refine s_iload2 3 rfl dX2_fireEvents_32 ?_
      refine s_lal aT_41 q2 dX2_fireEvents_33 ?_
      refine s_aload0 1 rfl dX2_fireEvents_34 ?_
      refine s_gr (gR_RX2_34 0) dX2_fireEvents_35 ?_
      refine s_gj gJ_RX2_92 dX2_fireEvents_38 ?_
      refine s_lcmp dX2_fireEvents_41 ?_
      refine s_if_eq (tgt := 97) dX2_fireEvents_42 (by decide) (fun q3 => ?_) (fun q3 => ?_)
      · skip
        refine s_aload0 1 rfl dX2_fireEvents_97 ?_
        refine s_gr (gR_RX2_30 0) dX2_fireEvents_98 ?_
        refine s_gr (gR_RX2_54 0) dX2_fireEvents_101 ?_
        refine s_iload3 0 rfl dX2_fireEvents_104 ?_
        refine s_chk (fun q4 => ?_)
        refine s_aal (aR_24 0 (h.1 39 0 v2.toNatClampNeg)) q4 dX2_fireEvents_105 ?_
        refine s_gi gI_RX2_89 dX2_fireEvents_106 ?_
        refine s_k1 dX2_fireEvents_109 ?_
        refine s_ic_ne (tgt := 134) dX2_fireEvents_110 (by decide) (fun q5 => ?_) (fun q5 => ?_)
        · skip
          refine s_aload0 1 rfl dX2_fireEvents_134 ?_
          refine s_gr (gR_RX2_34 0) dX2_fireEvents_135 ?_
          refine s_gr (gR_RX2_62 0) dX2_fireEvents_138 ?_
          refine s_iload3 0 rfl dX2_fireEvents_141 ?_
          refine s_dup2 rfl rfl dX2_fireEvents_142 ?_
          refine s_ial aT_33 q4 dX2_fireEvents_143 ?_
          refine s_aload0 1 rfl dX2_fireEvents_144 ?_
          refine s_gr (gR_RX2_34 0) dX2_fireEvents_145 ?_
          refine s_gr (gR_RX2_122 0) dX2_fireEvents_148 ?_
          refine s_iload2 3 rfl dX2_fireEvents_151 ?_
          refine s_ial aT_40 q2 dX2_fireEvents_152 ?_
          refine s_ior dX2_fireEvents_153 ?_
          refine s_ias aT_33 q4 dX2_fireEvents_154 ?_
          refine s_iincw 1 (by decide) 3 [(2, .inl (v2 + 1)), (3, .inl (h.1 39 0 v2.toNatClampNeg)), (0, .inr (.inr (2, 0))), (1, .inl v1)] rfl rfl rfl dX2_fireEvents_155 ?_
          refine s_goto (tgt := 4) dX2_fireEvents_158 (by decide) ?_
          exact s_loc [2, 3, 0] rfl (ih v1 (v2 + 1) (uI h 33 0 (h.1 39 0 v2.toNatClampNeg).toNatClampNeg ((h.1 33 0 (h.1 39 0 v2.toNatClampNeg).toNatClampNeg) ||| (h.1 40 0 v2.toNatClampNeg))))
        · skip
          refine s_aload0 1 rfl dX2_fireEvents_113 ?_
          refine s_gr (gR_RX2_34 0) dX2_fireEvents_114 ?_
          refine s_gr (gR_RX2_62 0) dX2_fireEvents_117 ?_
          refine s_iload3 0 rfl dX2_fireEvents_120 ?_
          refine s_aload0 1 rfl dX2_fireEvents_121 ?_
          refine s_gr (gR_RX2_34 0) dX2_fireEvents_122 ?_
          refine s_gr (gR_RX2_122 0) dX2_fireEvents_125 ?_
          refine s_iload2 3 rfl dX2_fireEvents_128 ?_
          refine s_ial aT_40 q2 dX2_fireEvents_129 ?_
          refine s_ias aT_33 q4 dX2_fireEvents_130 ?_
          refine s_goto (tgt := 155) dX2_fireEvents_131 (by decide) ?_
          refine s_iincw 1 (by decide) 3 [(2, .inl (v2 + 1)), (3, .inl (h.1 39 0 v2.toNatClampNeg)), (0, .inr (.inr (2, 0))), (1, .inl v1)] rfl rfl rfl dX2_fireEvents_155 ?_
          refine s_goto (tgt := 4) dX2_fireEvents_158 (by decide) ?_
          exact s_loc [2, 3, 0] rfl (ih v1 (v2 + 1) (uI h 33 0 (h.1 39 0 v2.toNatClampNeg).toNatClampNeg (h.1 40 0 v2.toNatClampNeg)))
      · skip
        refine s_aload0 1 rfl dX2_fireEvents_45 ?_
        refine s_gr (gR_RX2_34 0) dX2_fireEvents_46 ?_
        refine s_gr (gR_RX2_115 0) dX2_fireEvents_49 ?_
        refine s_iload1 2 rfl dX2_fireEvents_52 ?_
        refine s_iload3 0 rfl dX2_fireEvents_53 ?_
        refine s_chk (fun q6 => ?_)
        refine s_ias aT_39 q6 dX2_fireEvents_54 ?_
        refine s_aload0 1 rfl dX2_fireEvents_55 ?_
        refine s_gr (gR_RX2_34 0) dX2_fireEvents_56 ?_
        refine s_gr (gR_RX2_122 0) dX2_fireEvents_59 ?_
        refine s_iload1 2 rfl dX2_fireEvents_62 ?_
        refine s_aload0 1 rfl dX2_fireEvents_63 ?_
        refine s_gr (gR_RX2_34 0) dX2_fireEvents_64 ?_
        refine s_gr (gR_RX2_122 0) dX2_fireEvents_67 ?_
        refine s_iload2 3 rfl dX2_fireEvents_70 ?_
        refine s_let (fun h7 => ?_)
        refine s_ial aT_40 q2 dX2_fireEvents_71 ?_
        refine s_ias aT_40 q6 dX2_fireEvents_72 ?_
        refine s_aload0 1 rfl dX2_fireEvents_73 ?_
        refine s_gr (gR_RX2_34 0) dX2_fireEvents_74 ?_
        refine s_gr (gR_RX2_118 0) dX2_fireEvents_77 ?_
        refine s_iload1 2 rfl dX2_fireEvents_80 ?_
        refine s_aload0 1 rfl dX2_fireEvents_81 ?_
        refine s_gr (gR_RX2_34 0) dX2_fireEvents_82 ?_
        refine s_gr (gR_RX2_118 0) dX2_fireEvents_85 ?_
        refine s_iload2 3 rfl dX2_fireEvents_88 ?_
        refine s_let (fun h8 => ?_)
        refine s_lal aT_41 q2 dX2_fireEvents_89 ?_
        refine s_las aT_41 q6 dX2_fireEvents_90 ?_
        refine s_iincw 1 (by decide) 2 [(1, .inl (v1 + 1)), (3, .inl (h.1 39 0 v2.toNatClampNeg)), (0, .inr (.inr (2, 0))), (2, .inl v2)] rfl rfl rfl dX2_fireEvents_91 ?_
        refine s_goto (tgt := 155) dX2_fireEvents_94 (by decide) ?_
        refine s_iincw 1 (by decide) 3 [(2, .inl (v2 + 1)), (1, .inl (v1 + 1)), (3, .inl (h.1 39 0 v2.toNatClampNeg)), (0, .inr (.inr (2, 0)))] rfl rfl rfl dX2_fireEvents_155 ?_
        refine s_goto (tgt := 4) dX2_fireEvents_158 (by decide) ?_
        exact s_loc [3, 1, 0] rfl (ih (v1 + 1) (v2 + 1) (uJ h8 41 0 v1.toNatClampNeg (h8.2 41 0 v2.toNatClampNeg)))
set_option maxRecDepth 20000 in
theorem sf_X2_fireEvents (G : mG) (X : mX)   (h : mH) : Sim G X cX2_fireEvents 4 RX2 none (mRoom 0 0) eV (f_X2_fireEvents  h) 0 [(0, .inr (.inr (2, 0)))] [] h := by
  unfold f_X2_fireEvents
  refine s_k0 dX2_fireEvents_0 ?_
  refine s_istore1 [(1, .inl 0), (0, .inr (.inr (2, 0)))] rfl rfl dX2_fireEvents_1 ?_
  refine s_k0 dX2_fireEvents_2 ?_
  refine s_istore2 [(2, .inl 0), (1, .inl 0), (0, .inr (.inr (2, 0)))] rfl rfl dX2_fireEvents_3 ?_
  refine s_loc [2, 1, 0] rfl ?_
  refine sf_X2_fireEvents_4 G X  _ (fun u9 u10 h11 => ?_) mFu 0 0 h
  · skip
    refine s_aload0 0 rfl dX2_fireEvents_161 ?_
    refine s_gr (gR_RX2_34 0) dX2_fireEvents_162 ?_
    refine s_iload1 1 rfl dX2_fireEvents_165 ?_
    refine s_pi pI_RX2_103 dX2_fireEvents_166 ?_
    exact s_return rfl rfl dX2_fireEvents_169
set_option maxRecDepth 20000 in
theorem cf_X2_fireEvents (G : mG) (l : Launch)   (h : mH) (b : mH) (hb : f_X2_fireEvents  h = some b) (hl : ∀ v ∈ ([.inr (.inr (2, 0))] : List mV), mLi v) : mMet G l yX2_fireEvents cX2_fireEvents 4 none (mRoom 0 0) [.inr (.inr (2, 0))] h (eV b) :=
  mMet.of (y := yX2_fireEvents) (as := [.inr (.inr (2, 0))]) (by decide +kernel) (Nat.le_of_ble_eq_true rfl) (fun X => sf_X2_fireEvents G X   h) hl b hb
