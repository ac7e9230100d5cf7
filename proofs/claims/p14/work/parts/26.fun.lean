-- DriverBook.play(III)I
def f_X11_play_66 (k : Int32 → Int32 → Int32 → mH → Option (Int32 × mH)) (j4 : Nat) : Nat → Int32 → Int32 → Int32 → mH → Option (Int32 × mH)
  | 0, _, _, _, _ => none
  | n + 1, v2, v3, v5, h =>
    if v5 < v3 then
      (f_X9_hasPlace j4 (v2 + v5) h).bind fun r9 =>
      if r9.1 = 0 then
        (f_X11_hostRefuses (-13) r9.2).bind fun r16 =>
        some (r16.1, r16.2)
      else
        if mIn (v2 + v5) 64 = true then
        (f_X1_hasAct ((r9.2.2 42 j4 (v2 + v5).toNatClampNeg).toInt32) r9.2).bind fun r12 =>
        if r12.1 = 0 then
          some (v5, r12.2)
        else
          (f_X5_runAct ((r9.2.2 42 j4 (v2 + v5).toNatClampNeg).toInt32) r12.2).bind fun r14 =>
          if r14.1 = 0 then
            some (v5, r14.2)
          else
            f_X11_play_66 k j4 n v2 v3 (v5 + 1) r14.2
        else none
    else
      k v2 v3 v5 h
def f_X11_play (x1 : Int32) (x2 : Int32) (x3 : Int32) (h : mH) : Option (Int32 × mH) :=
  (f_X11_isTape x1 h).bind fun r1 =>
  if r1.1 = 0 then
    some ((-1), r1.2)
  else
    if x3 < 0 then
      some ((-1), r1.2)
    else
      if x3 ≤ 64 then
        if mIn x1 6 = true then
        if (r1.2.1 9 x1.toNatClampNeg 0) = 3 then
          (f_X1_makeCode  r1.2).bind fun r7 =>
          f_X11_play_66 (fun u17 u18 u19 h20 =>
            some (u18, h20)) x1.toNatClampNeg mFu x2 x3 0 r7
        else
          if (r1.2.1 9 x1.toNatClampNeg 0) = 0 then
            (f_X11_hostRefuses (-11) r1.2).bind fun r23 =>
            some (r23.1, r23.2)
          else
            (f_X11_hostRefuses (-12) r1.2).bind fun r22 =>
            some (r22.1, r22.2)
        else none
      else
        some ((-1), r1.2)
set_option maxRecDepth 20000 in
theorem sf_X11_play_66 (G : mG) (X : mX) (j4 : Nat)  (k : Int32 → Int32 → Int32 → mH → Option (Int32 × mH)) (hk : ∀ (v2 : Int32) (v3 : Int32) (v5 : Int32) (h : mH), Sim G X cX11_play 7 RX11 (some .int) (mRoom 6 144) eI (k v2 v3 v5 h) 137 [(0, .inr (.inr (11, 0))), (2, .inl v2), (3, .inl v3), (4, .inr (.inr (9, j4))), (5, .inl v5)] [] h) (n : Nat) : ∀ (v2 : Int32) (v3 : Int32) (v5 : Int32) (h : mH), Sim G X cX11_play 7 RX11 (some .int) (mRoom 6 144) eI (f_X11_play_66 k j4 n v2 v3 v5 h) 66 [(0, .inr (.inr (11, 0))), (2, .inl v2), (3, .inl v3), (4, .inr (.inr (9, j4))), (5, .inl v5)] [] h := by
  induction n with
  | zero =>
    intro v2 v3 v5 h
    exact s_none
  | succ n ih =>
    intro v2 v3 v5 h
    unfold f_X11_play_66
    refine s_iload 4 rfl dX11_play_66 ?_
    refine s_iload3 2 rfl dX11_play_68 ?_
    refine s_ic_ge (tgt := 137) dX11_play_69 (by decide) (fun q8 => ?_) (fun q8 => ?_)
    · skip
      exact s_loc [0, 1, 2, 3, 4] rfl (hk v2 v3 v5 h)
    · skip
      refine s_aload 3 rfl dX11_play_72 ?_
      refine s_iload2 1 rfl dX11_play_74 ?_
      refine s_iload 4 rfl dX11_play_75 ?_
      refine s_iadd dX11_play_77 ?_
      refine s_viI [.inl (v2 + v5)] (fun l b hb hl => cf_X9_hasPlace G l j4 (v2 + v5) h b hb hl) me_X9_hasPlace vi_RX11_285 rfl rfl rfl rfl rfl dX11_play_78 (fun r9 => ?_)
      refine s_if_ne (tgt := 91) dX11_play_81 (by decide) (fun q10 => ?_) (fun q10 => ?_)
      · skip
        refine s_aload 3 rfl dX11_play_91 ?_
        refine s_gr (gR_RX11_288 j4) dX11_play_93 ?_
        refine s_iload2 1 rfl dX11_play_96 ?_
        refine s_iload 4 rfl dX11_play_97 ?_
        refine s_iadd dX11_play_99 ?_
        refine s_chk (fun q11 => ?_)
        refine s_lal aT_42 q11 dX11_play_100 ?_
        refine s_l2i dX11_play_101 ?_
        refine s_istorew [(6, .inl ((r9.2.2 42 j4 (v2 + v5).toNatClampNeg).toInt32)), (0, .inr (.inr (11, 0))), (2, .inl v2), (3, .inl v3), (4, .inr (.inr (9, j4))), (5, .inl v5)] rfl rfl dX11_play_102 ?_
        refine s_aload0 1 rfl dX11_play_104 ?_
        refine s_gr (gR_RX11_10 0) dX11_play_105 ?_
        refine s_iload 0 rfl dX11_play_108 ?_
        refine s_viI [.inl ((r9.2.2 42 j4 (v2 + v5).toNatClampNeg).toInt32)] (fun l b hb hl => cf_X1_hasAct G l ((r9.2.2 42 j4 (v2 + v5).toNatClampNeg).toInt32) r9.2 b hb hl) me_X1_hasAct vi_RX11_125 rfl rfl rfl rfl rfl dX11_play_110 (fun r12 => ?_)
        refine s_if_eq (tgt := 128) dX11_play_113 (by decide) (fun q13 => ?_) (fun q13 => ?_)
        · skip
          refine s_iload 5 rfl dX11_play_128 ?_
          exact s_ireturn rfl rfl dX11_play_130
        · skip
          refine s_aload0 1 rfl dX11_play_116 ?_
          refine s_gr (gR_RX11_37 0) dX11_play_117 ?_
          refine s_iload 0 rfl dX11_play_120 ?_
          refine s_viI [.inl ((r9.2.2 42 j4 (v2 + v5).toNatClampNeg).toInt32)] (fun l b hb hl => cf_X5_runAct G l ((r9.2.2 42 j4 (v2 + v5).toNatClampNeg).toInt32) r12.2 b hb hl) me_X5_runAct vi_RX11_189 rfl rfl rfl rfl rfl dX11_play_122 (fun r14 => ?_)
          refine s_if_ne (tgt := 131) dX11_play_125 (by decide) (fun q15 => ?_) (fun q15 => ?_)
          · skip
            refine s_iincw 1 (by decide) 5 [(5, .inl (v5 + 1)), (6, .inl ((r9.2.2 42 j4 (v2 + v5).toNatClampNeg).toInt32)), (0, .inr (.inr (11, 0))), (2, .inl v2), (3, .inl v3), (4, .inr (.inr (9, j4)))] rfl rfl rfl dX11_play_131 ?_
            refine s_goto (tgt := 66) dX11_play_134 (by decide) ?_
            exact s_loc [2, 3, 4, 5, 0] rfl (ih v2 v3 (v5 + 1) r14.2)
          · skip
            refine s_iload 5 rfl dX11_play_128 ?_
            exact s_ireturn rfl rfl dX11_play_130
      · skip
        refine s_aload0 0 rfl dX11_play_84 ?_
        refine s_bip (-13) kb_m13 dX11_play_85 ?_
        refine s_viI [.inl (-13)] (fun l b hb hl => cf_X11_hostRefuses G l (-13) r9.2 b hb hl) me_X11_hostRefuses vi_RX11_256 rfl rfl rfl rfl rfl dX11_play_87 (fun r16 => ?_)
        exact s_ireturn rfl rfl dX11_play_90
set_option maxRecDepth 20000 in
theorem sf_X11_play (G : mG) (X : mX) (x1 : Int32) (x2 : Int32) (x3 : Int32)  (h : mH) : Sim G X cX11_play 7 RX11 (some .int) (mRoom 6 144) eI (f_X11_play x1 x2 x3 h) 0 [(0, .inr (.inr (11, 0))), (1, .inl x1), (2, .inl x2), (3, .inl x3)] [] h := by
  unfold f_X11_play
  refine s_iload1 1 rfl dX11_play_0 ?_
  refine s_siI [.inl x1] (fun l b hb hl => cf_X11_isTape G l x1 h b hb hl) me_X11_isTape si_RX11_253 rfl rfl rfl rfl rfl dX11_play_1 (fun r1 => ?_)
  refine s_if_eq (tgt := 17) dX11_play_4 (by decide) (fun q2 => ?_) (fun q2 => ?_)
  · skip
    refine s_km1 dX11_play_17 ?_
    exact s_ireturn rfl rfl dX11_play_18
  · skip
    refine s_iload3 3 rfl dX11_play_7 ?_
    refine s_if_lt (tgt := 17) dX11_play_8 (by decide) (fun q3 => ?_) (fun q3 => ?_)
    · skip
      refine s_km1 dX11_play_17 ?_
      exact s_ireturn rfl rfl dX11_play_18
    · skip
      refine s_iload3 3 rfl dX11_play_11 ?_
      refine s_bip 64 kb_64 dX11_play_12 ?_
      refine s_ic_le (tgt := 19) dX11_play_14 (by decide) (fun q4 => ?_) (fun q4 => ?_)
      · skip
        refine s_aload0 0 rfl dX11_play_19 ?_
        refine s_gr (gR_RX11_52 0) dX11_play_20 ?_
        refine s_iload1 1 rfl dX11_play_23 ?_
        refine s_chk (fun q5 => ?_)
        refine s_aal (aR_45 0 x1) q5 dX11_play_24 ?_
        refine s_astorew [(4, .inr (.inr (9, x1.toNatClampNeg))), (0, .inr (.inr (11, 0))), (1, .inl x1), (2, .inl x2), (3, .inl x3)] rfl rfl dX11_play_25 ?_
        refine s_aload 0 rfl dX11_play_27 ?_
        refine s_gi gI_RX11_269 dX11_play_29 ?_
        refine s_k3 dX11_play_32 ?_
        refine s_ic_eq (tgt := 56) dX11_play_33 (by decide) (fun q6 => ?_) (fun q6 => ?_)
        · skip
          refine s_aload0 1 rfl dX11_play_56 ?_
          refine s_gr (gR_RX11_10 0) dX11_play_57 ?_
          refine s_viV [] (fun l b hb hl => cf_X1_makeCode G l  r1.2 b hb hl) me_X1_makeCode vi_RX11_156 rfl rfl rfl rfl rfl dX11_play_60 (fun r7 => ?_)
          refine s_k0 dX11_play_63 ?_
          refine s_istorew [(5, .inl 0), (4, .inr (.inr (9, x1.toNatClampNeg))), (0, .inr (.inr (11, 0))), (1, .inl x1), (2, .inl x2), (3, .inl x3)] rfl rfl dX11_play_64 ?_
          refine s_loc [2, 4, 5, 1, 0] rfl ?_
          refine sf_X11_play_66 G X x1.toNatClampNeg _ (fun u17 u18 u19 h20 => ?_) mFu x2 x3 0 r7
          · skip
            refine s_iload3 2 rfl dX11_play_137 ?_
            exact s_ireturn rfl rfl dX11_play_138
        · skip
          refine s_aload0 1 rfl dX11_play_36 ?_
          refine s_aload 0 rfl dX11_play_37 ?_
          refine s_gi gI_RX11_269 dX11_play_39 ?_
          refine s_if_ne (tgt := 50) dX11_play_42 (by decide) (fun q21 => ?_) (fun q21 => ?_)
          · skip
            refine s_bip (-12) kb_m12 dX11_play_50 ?_
            refine s_viI [.inl (-12)] (fun l b hb hl => cf_X11_hostRefuses G l (-12) r1.2 b hb hl) me_X11_hostRefuses vi_RX11_256 rfl rfl rfl rfl rfl dX11_play_52 (fun r22 => ?_)
            exact s_ireturn rfl rfl dX11_play_55
          · skip
            refine s_bip (-11) kb_m11 dX11_play_45 ?_
            refine s_goto (tgt := 52) dX11_play_47 (by decide) ?_
            refine s_viI [.inl (-11)] (fun l b hb hl => cf_X11_hostRefuses G l (-11) r1.2 b hb hl) me_X11_hostRefuses vi_RX11_256 rfl rfl rfl rfl rfl dX11_play_52 (fun r23 => ?_)
            exact s_ireturn rfl rfl dX11_play_55
      · skip
        refine s_km1 dX11_play_17 ?_
        exact s_ireturn rfl rfl dX11_play_18
set_option maxRecDepth 20000 in
theorem cf_X11_play (G : mG) (l : Launch) (x1 : Int32) (x2 : Int32) (x3 : Int32)  (h : mH) (b : Int32 × mH) (hb : f_X11_play x1 x2 x3 h = some b) (hl : ∀ v ∈ ([.inr (.inr (11, 0)), .inl x1, .inl x2, .inl x3] : List mV), mLi v) : mMet G l yX11_play cX11_play 7 (some .int) (mRoom 6 144) [.inr (.inr (11, 0)), .inl x1, .inl x2, .inl x3] h (eI b) :=
  mMet.of (y := yX11_play) (as := [.inr (.inr (11, 0)), .inl x1, .inl x2, .inl x3]) (by decide +kernel) (Nat.le_of_ble_eq_true rfl) (fun X => sf_X11_play G X x1 x2 x3  h) hl b hb
-- DriverBook.clear(I)I
def f_X11_clear (x1 : Int32) (h : mH) : Option (Int32 × mH) :=
  (f_X11_isTape x1 h).bind fun r1 =>
  if r1.1 = 0 then
    some ((-1), r1.2)
  else
    if mIn x1 6 = true then
    some (r1.2.1 9 x1.toNatClampNeg 0, uI r1.2 9 x1.toNatClampNeg 0 0)
    else none
set_option maxRecDepth 20000 in
theorem sf_X11_clear (G : mG) (X : mX) (x1 : Int32)  (h : mH) : Sim G X cX11_clear 3 RX11 (some .int) (mRoom 1 20) eI (f_X11_clear x1 h) 0 [(0, .inr (.inr (11, 0))), (1, .inl x1)] [] h := by
  unfold f_X11_clear
  refine s_iload1 1 rfl dX11_clear_0 ?_
  refine s_siI [.inl x1] (fun l b hb hl => cf_X11_isTape G l x1 h b hb hl) me_X11_isTape si_RX11_253 rfl rfl rfl rfl rfl dX11_clear_1 (fun r1 => ?_)
  refine s_if_ne (tgt := 9) dX11_clear_4 (by decide) (fun q2 => ?_) (fun q2 => ?_)
  · skip
    refine s_aload0 0 rfl dX11_clear_9 ?_
    refine s_gr (gR_RX11_52 0) dX11_clear_10 ?_
    refine s_iload1 1 rfl dX11_clear_13 ?_
    refine s_chk (fun q3 => ?_)
    refine s_aal (aR_45 0 x1) q3 dX11_clear_14 ?_
    refine s_gi gI_RX11_269 dX11_clear_15 ?_
    refine s_istore2 [(2, .inl (r1.2.1 9 x1.toNatClampNeg 0)), (0, .inr (.inr (11, 0))), (1, .inl x1)] rfl rfl dX11_clear_18 ?_
    refine s_aload0 1 rfl dX11_clear_19 ?_
    refine s_gr (gR_RX11_52 0) dX11_clear_20 ?_
    refine s_iload1 2 rfl dX11_clear_23 ?_
    refine s_aal (aR_45 0 x1) q3 dX11_clear_24 ?_
    refine s_k0 dX11_clear_25 ?_
    refine s_pi pI_RX11_269 dX11_clear_26 ?_
    refine s_iload2 0 rfl dX11_clear_29 ?_
    exact s_ireturn rfl rfl dX11_clear_30
  · skip
    refine s_km1 dX11_clear_7 ?_
    exact s_ireturn rfl rfl dX11_clear_8
set_option maxRecDepth 20000 in
theorem cf_X11_clear (G : mG) (l : Launch) (x1 : Int32)  (h : mH) (b : Int32 × mH) (hb : f_X11_clear x1 h = some b) (hl : ∀ v ∈ ([.inr (.inr (11, 0)), .inl x1] : List mV), mLi v) : mMet G l yX11_clear cX11_clear 3 (some .int) (mRoom 1 20) [.inr (.inr (11, 0)), .inl x1] h (eI b) :=
  mMet.of (y := yX11_clear) (as := [.inr (.inr (11, 0)), .inl x1]) (by decide +kernel) (Nat.le_of_ble_eq_true rfl) (fun X => sf_X11_clear G X x1  h) hl b hb
-- DriverBook.put(IIJ)I
def f_X11_put (x1 : Int32) (x2 : Int32) (x3 : Int64) (h : mH) : Option (Int32 × mH) :=
  (f_X11_isTape x1 h).bind fun r1 =>
  if r1.1 = 0 then
    some ((-1), r1.2)
  else
    if mIn x1 6 = true then
    (f_X9_holdsRow x1.toNatClampNeg r1.2).bind fun r4 =>
    if r4.1 = 0 then
      if (r4.2.1 9 x1.toNatClampNeg 0) = 0 then
        (f_X11_hostRefuses (-11) r4.2).bind fun r13 =>
        some (r13.1, r13.2)
      else
        (f_X11_hostRefuses (-12) r4.2).bind fun r12 =>
        some (r12.1, r12.2)
    else
      (f_X9_hasPlace x1.toNatClampNeg x2 r4.2).bind fun r6 =>
      if r6.1 = 0 then
        (f_X11_hostRefuses (-13) r6.2).bind fun r10 =>
        some (r10.1, r10.2)
      else
        (f_X9_narrowed x1.toNatClampNeg x3 r6.2).bind fun r8 =>
        if mIn x2 64 = true then
        some (1, uJ r8.2 42 x1.toNatClampNeg x2.toNatClampNeg r8.1)
        else none
    else none
set_option maxRecDepth 20000 in
theorem sf_X11_put (G : mG) (X : mX) (x1 : Int32) (x2 : Int32) (x3 : Int64)  (h : mH) : Sim G X cX11_put 6 RX11 (some .int) (mRoom 1 22) eI (f_X11_put x1 x2 x3 h) 0 [(0, .inr (.inr (11, 0))), (1, .inl x1), (2, .inl x2), (3, .inr (.inl x3))] [] h := by
  unfold f_X11_put
  refine s_iload1 1 rfl dX11_put_0 ?_
  refine s_siI [.inl x1] (fun l b hb hl => cf_X11_isTape G l x1 h b hb hl) me_X11_isTape si_RX11_253 rfl rfl rfl rfl rfl dX11_put_1 (fun r1 => ?_)
  refine s_if_ne (tgt := 9) dX11_put_4 (by decide) (fun q2 => ?_) (fun q2 => ?_)
  · skip
    refine s_aload0 0 rfl dX11_put_9 ?_
    refine s_gr (gR_RX11_52 0) dX11_put_10 ?_
    refine s_iload1 1 rfl dX11_put_13 ?_
    refine s_chk (fun q3 => ?_)
    refine s_aal (aR_45 0 x1) q3 dX11_put_14 ?_
    refine s_astorew [(5, .inr (.inr (9, x1.toNatClampNeg))), (0, .inr (.inr (11, 0))), (1, .inl x1), (2, .inl x2), (3, .inr (.inl x3))] rfl rfl dX11_put_15 ?_
    refine s_aload 0 rfl dX11_put_17 ?_
    refine s_viI [] (fun l b hb hl => cf_X9_holdsRow G l x1.toNatClampNeg r1.2 b hb hl) me_X9_holdsRow vi_RX11_292 rfl rfl rfl rfl rfl dX11_put_19 (fun r4 => ?_)
    refine s_if_ne (tgt := 45) dX11_put_22 (by decide) (fun q5 => ?_) (fun q5 => ?_)
    · skip
      refine s_aload 0 rfl dX11_put_45 ?_
      refine s_iload2 3 rfl dX11_put_47 ?_
      refine s_viI [.inl x2] (fun l b hb hl => cf_X9_hasPlace G l x1.toNatClampNeg x2 r4.2 b hb hl) me_X9_hasPlace vi_RX11_285 rfl rfl rfl rfl rfl dX11_put_48 (fun r6 => ?_)
      refine s_if_ne (tgt := 61) dX11_put_51 (by decide) (fun q7 => ?_) (fun q7 => ?_)
      · skip
        refine s_aload 0 rfl dX11_put_61 ?_
        refine s_gr (gR_RX11_288 x1.toNatClampNeg) dX11_put_63 ?_
        refine s_iload2 3 rfl dX11_put_66 ?_
        refine s_aload 0 rfl dX11_put_67 ?_
        refine s_lload3 4 rfl dX11_put_69 ?_
        refine s_viJ [.inr (.inl x3)] (fun l b hb hl => cf_X9_narrowed G l x1.toNatClampNeg x3 r6.2 b hb hl) me_X9_narrowed vi_RX11_296 rfl rfl rfl rfl rfl dX11_put_70 (fun r8 => ?_)
        refine s_chk (fun q9 => ?_)
        refine s_las aT_42 q9 dX11_put_73 ?_
        refine s_k1 dX11_put_74 ?_
        exact s_ireturn rfl rfl dX11_put_75
      · skip
        refine s_aload0 1 rfl dX11_put_54 ?_
        refine s_bip (-13) kb_m13 dX11_put_55 ?_
        refine s_viI [.inl (-13)] (fun l b hb hl => cf_X11_hostRefuses G l (-13) r6.2 b hb hl) me_X11_hostRefuses vi_RX11_256 rfl rfl rfl rfl rfl dX11_put_57 (fun r10 => ?_)
        exact s_ireturn rfl rfl dX11_put_60
    · skip
      refine s_aload0 1 rfl dX11_put_25 ?_
      refine s_aload 0 rfl dX11_put_26 ?_
      refine s_gi gI_RX11_269 dX11_put_28 ?_
      refine s_if_ne (tgt := 39) dX11_put_31 (by decide) (fun q11 => ?_) (fun q11 => ?_)
      · skip
        refine s_bip (-12) kb_m12 dX11_put_39 ?_
        refine s_viI [.inl (-12)] (fun l b hb hl => cf_X11_hostRefuses G l (-12) r4.2 b hb hl) me_X11_hostRefuses vi_RX11_256 rfl rfl rfl rfl rfl dX11_put_41 (fun r12 => ?_)
        exact s_ireturn rfl rfl dX11_put_44
      · skip
        refine s_bip (-11) kb_m11 dX11_put_34 ?_
        refine s_goto (tgt := 41) dX11_put_36 (by decide) ?_
        refine s_viI [.inl (-11)] (fun l b hb hl => cf_X11_hostRefuses G l (-11) r4.2 b hb hl) me_X11_hostRefuses vi_RX11_256 rfl rfl rfl rfl rfl dX11_put_41 (fun r13 => ?_)
        exact s_ireturn rfl rfl dX11_put_44
  · skip
    refine s_km1 dX11_put_7 ?_
    exact s_ireturn rfl rfl dX11_put_8
set_option maxRecDepth 20000 in
theorem cf_X11_put (G : mG) (l : Launch) (x1 : Int32) (x2 : Int32) (x3 : Int64)  (h : mH) (b : Int32 × mH) (hb : f_X11_put x1 x2 x3 h = some b) (hl : ∀ v ∈ ([.inr (.inr (11, 0)), .inl x1, .inl x2, .inr (.inl x3)] : List mV), mLi v) : mMet G l yX11_put cX11_put 6 (some .int) (mRoom 1 22) [.inr (.inr (11, 0)), .inl x1, .inl x2, .inr (.inl x3)] h (eI b) :=
  mMet.of (y := yX11_put) (as := [.inr (.inr (11, 0)), .inl x1, .inl x2, .inr (.inl x3)]) (by decide +kernel) (Nat.le_of_ble_eq_true rfl) (fun X => sf_X11_put G X x1 x2 x3  h) hl b hb
-- DriverBook.copy(IIIII)I
def f_X11_copy (x1 : Int32) (x2 : Int32) (x3 : Int32) (x4 : Int32) (x5 : Int32) (h : mH) : Option (Int32 × mH) :=
  (f_X11_isTape x1 h).bind fun r1 =>
  if r1.1 = 0 then
    some ((-1), r1.2)
  else
    (f_X11_isTape x3 r1.2).bind fun r3 =>
    if r3.1 = 0 then
      some ((-1), r3.2)
    else
      if mIn x1 6 = true then
      if mIn x3 6 = true then
      if (r3.2.1 9 x1.toNatClampNeg 0) = 0 then
        (f_X11_hostRefuses (-11) r3.2).bind fun r8 =>
        some (r8.1, r8.2)
      else
        if (r3.2.1 9 x3.toNatClampNeg 0) = 0 then
          (f_X11_hostRefuses (-11) r3.2).bind fun r22 =>
          some (r22.1, r22.2)
        else
          (f_X9_holdsRow x1.toNatClampNeg r3.2).bind fun r10 =>
          if r10.1 = 0 then
            (f_X11_hostRefuses (-12) r10.2).bind fun r12 =>
            some (r12.1, r12.2)
          else
            if (r10.2.1 9 x1.toNatClampNeg 0) = (r10.2.1 9 x3.toNatClampNeg 0) then
              (f_X9_hasPlaces x1.toNatClampNeg x2 x5 r10.2).bind fun r14 =>
              if r14.1 = 0 then
                (f_X11_hostRefuses (-13) r14.2).bind fun r16 =>
                some (r16.1, r16.2)
              else
                (f_X9_hasPlaces x3.toNatClampNeg x4 x5 r14.2).bind fun r17 =>
                if r17.1 = 0 then
                  (f_X11_hostRefuses (-13) r17.2).bind fun r20 =>
                  some (r20.1, r20.2)
                else
                  if mCp x2 x4 x5 64 64 = true then
                  some (x5, cpJ r17.2 42 x1.toNatClampNeg 42 x3.toNatClampNeg x2.toNatClampNeg x4.toNatClampNeg x5.toNatClampNeg)
                  else none
            else
              (f_X11_hostRefuses (-12) r10.2).bind fun r21 =>
              some (r21.1, r21.2)
      else none
      else none
set_option maxRecDepth 20000 in
theorem sf_X11_copy (G : mG) (X : mX) (x1 : Int32) (x2 : Int32) (x3 : Int32) (x4 : Int32) (x5 : Int32)  (h : mH) : Sim G X cX11_copy 8 RX11 (some .int) (mRoom 1 64) eI (f_X11_copy x1 x2 x3 x4 x5 h) 0 [(0, .inr (.inr (11, 0))), (1, .inl x1), (2, .inl x2), (3, .inl x3), (4, .inl x4), (5, .inl x5)] [] h := by
  unfold f_X11_copy
  refine s_iload1 1 rfl dX11_copy_0 ?_
  refine s_siI [.inl x1] (fun l b hb hl => cf_X11_isTape G l x1 h b hb hl) me_X11_isTape si_RX11_253 rfl rfl rfl rfl rfl dX11_copy_1 (fun r1 => ?_)
  refine s_if_eq (tgt := 14) dX11_copy_4 (by decide) (fun q2 => ?_) (fun q2 => ?_)
  · skip
    refine s_km1 dX11_copy_14 ?_
    exact s_ireturn rfl rfl dX11_copy_15
  · skip
    refine s_iload3 3 rfl dX11_copy_7 ?_
    refine s_siI [.inl x3] (fun l b hb hl => cf_X11_isTape G l x3 r1.2 b hb hl) me_X11_isTape si_RX11_253 rfl rfl rfl rfl rfl dX11_copy_8 (fun r3 => ?_)
    refine s_if_ne (tgt := 16) dX11_copy_11 (by decide) (fun q4 => ?_) (fun q4 => ?_)
    · skip
      refine s_aload0 0 rfl dX11_copy_16 ?_
      refine s_gr (gR_RX11_52 0) dX11_copy_17 ?_
      refine s_iload1 1 rfl dX11_copy_20 ?_
      refine s_chk (fun q5 => ?_)
      refine s_aal (aR_45 0 x1) q5 dX11_copy_21 ?_
      refine s_astorew [(6, .inr (.inr (9, x1.toNatClampNeg))), (0, .inr (.inr (11, 0))), (1, .inl x1), (2, .inl x2), (3, .inl x3), (4, .inl x4), (5, .inl x5)] rfl rfl dX11_copy_22 ?_
      refine s_aload0 1 rfl dX11_copy_24 ?_
      refine s_gr (gR_RX11_52 0) dX11_copy_25 ?_
      refine s_iload3 4 rfl dX11_copy_28 ?_
      refine s_chk (fun q6 => ?_)
      refine s_aal (aR_45 0 x3) q6 dX11_copy_29 ?_
      refine s_astorew [(7, .inr (.inr (9, x3.toNatClampNeg))), (6, .inr (.inr (9, x1.toNatClampNeg))), (0, .inr (.inr (11, 0))), (1, .inl x1), (2, .inl x2), (3, .inl x3), (4, .inl x4), (5, .inl x5)] rfl rfl dX11_copy_30 ?_
      refine s_aload 1 rfl dX11_copy_32 ?_
      refine s_gi gI_RX11_269 dX11_copy_34 ?_
      refine s_if_eq (tgt := 48) dX11_copy_37 (by decide) (fun q7 => ?_) (fun q7 => ?_)
      · skip
        refine s_aload0 2 rfl dX11_copy_48 ?_
        refine s_bip (-11) kb_m11 dX11_copy_49 ?_
        refine s_viI [.inl (-11)] (fun l b hb hl => cf_X11_hostRefuses G l (-11) r3.2 b hb hl) me_X11_hostRefuses vi_RX11_256 rfl rfl rfl rfl rfl dX11_copy_51 (fun r8 => ?_)
        exact s_ireturn rfl rfl dX11_copy_54
      · skip
        refine s_aload 0 rfl dX11_copy_40 ?_
        refine s_gi gI_RX11_269 dX11_copy_42 ?_
        refine s_if_ne (tgt := 55) dX11_copy_45 (by decide) (fun q9 => ?_) (fun q9 => ?_)
        · skip
          refine s_aload 1 rfl dX11_copy_55 ?_
          refine s_viI [] (fun l b hb hl => cf_X9_holdsRow G l x1.toNatClampNeg r3.2 b hb hl) me_X9_holdsRow vi_RX11_292 rfl rfl rfl rfl rfl dX11_copy_57 (fun r10 => ?_)
          refine s_if_eq (tgt := 76) dX11_copy_60 (by decide) (fun q11 => ?_) (fun q11 => ?_)
          · skip
            refine s_aload0 2 rfl dX11_copy_76 ?_
            refine s_bip (-12) kb_m12 dX11_copy_77 ?_
            refine s_viI [.inl (-12)] (fun l b hb hl => cf_X11_hostRefuses G l (-12) r10.2 b hb hl) me_X11_hostRefuses vi_RX11_256 rfl rfl rfl rfl rfl dX11_copy_79 (fun r12 => ?_)
            exact s_ireturn rfl rfl dX11_copy_82
          · skip
            refine s_aload 1 rfl dX11_copy_63 ?_
            refine s_gi gI_RX11_269 dX11_copy_65 ?_
            refine s_aload 0 rfl dX11_copy_68 ?_
            refine s_gi gI_RX11_269 dX11_copy_70 ?_
            refine s_ic_eq (tgt := 83) dX11_copy_73 (by decide) (fun q13 => ?_) (fun q13 => ?_)
            · skip
              refine s_aload 1 rfl dX11_copy_83 ?_
              refine s_iload2 4 rfl dX11_copy_85 ?_
              refine s_iload 7 rfl dX11_copy_86 ?_
              refine s_viI [.inl x2, .inl x5] (fun l b hb hl => cf_X9_hasPlaces G l x1.toNatClampNeg x2 x5 r10.2 b hb hl) me_X9_hasPlaces vi_RX11_310 rfl rfl rfl rfl rfl dX11_copy_88 (fun r14 => ?_)
              refine s_if_eq (tgt := 106) dX11_copy_91 (by decide) (fun q15 => ?_) (fun q15 => ?_)
              · skip
                refine s_aload0 2 rfl dX11_copy_106 ?_
                refine s_bip (-13) kb_m13 dX11_copy_107 ?_
                refine s_viI [.inl (-13)] (fun l b hb hl => cf_X11_hostRefuses G l (-13) r14.2 b hb hl) me_X11_hostRefuses vi_RX11_256 rfl rfl rfl rfl rfl dX11_copy_109 (fun r16 => ?_)
                exact s_ireturn rfl rfl dX11_copy_112
              · skip
                refine s_aload 0 rfl dX11_copy_94 ?_
                refine s_iload 6 rfl dX11_copy_96 ?_
                refine s_iload 7 rfl dX11_copy_98 ?_
                refine s_viI [.inl x4, .inl x5] (fun l b hb hl => cf_X9_hasPlaces G l x3.toNatClampNeg x4 x5 r14.2 b hb hl) me_X9_hasPlaces vi_RX11_310 rfl rfl rfl rfl rfl dX11_copy_100 (fun r17 => ?_)
                refine s_if_ne (tgt := 113) dX11_copy_103 (by decide) (fun q18 => ?_) (fun q18 => ?_)
                · skip
                  refine s_aload 1 rfl dX11_copy_113 ?_
                  refine s_gr (gR_RX11_288 x1.toNatClampNeg) dX11_copy_115 ?_
                  refine s_iload2 4 rfl dX11_copy_118 ?_
                  refine s_aload 0 rfl dX11_copy_119 ?_
                  refine s_gr (gR_RX11_288 x3.toNatClampNeg) dX11_copy_121 ?_
                  refine s_iload 6 rfl dX11_copy_124 ?_
                  refine s_iload 7 rfl dX11_copy_126 ?_
                  refine s_chk (fun q19 => ?_)
                  refine s_cpJ aT_42 aT_42 q19 km_RX11_313 rfl rfl dX11_copy_128 ?_
                  refine s_iload 7 rfl dX11_copy_131 ?_
                  exact s_ireturn rfl rfl dX11_copy_133
                · skip
                  refine s_aload0 2 rfl dX11_copy_106 ?_
                  refine s_bip (-13) kb_m13 dX11_copy_107 ?_
                  refine s_viI [.inl (-13)] (fun l b hb hl => cf_X11_hostRefuses G l (-13) r17.2 b hb hl) me_X11_hostRefuses vi_RX11_256 rfl rfl rfl rfl rfl dX11_copy_109 (fun r20 => ?_)
                  exact s_ireturn rfl rfl dX11_copy_112
            · skip
              refine s_aload0 2 rfl dX11_copy_76 ?_
              refine s_bip (-12) kb_m12 dX11_copy_77 ?_
              refine s_viI [.inl (-12)] (fun l b hb hl => cf_X11_hostRefuses G l (-12) r10.2 b hb hl) me_X11_hostRefuses vi_RX11_256 rfl rfl rfl rfl rfl dX11_copy_79 (fun r21 => ?_)
              exact s_ireturn rfl rfl dX11_copy_82
        · skip
          refine s_aload0 2 rfl dX11_copy_48 ?_
          refine s_bip (-11) kb_m11 dX11_copy_49 ?_
          refine s_viI [.inl (-11)] (fun l b hb hl => cf_X11_hostRefuses G l (-11) r3.2 b hb hl) me_X11_hostRefuses vi_RX11_256 rfl rfl rfl rfl rfl dX11_copy_51 (fun r22 => ?_)
          exact s_ireturn rfl rfl dX11_copy_54
    · skip
      refine s_km1 dX11_copy_14 ?_
      exact s_ireturn rfl rfl dX11_copy_15
set_option maxRecDepth 20000 in
theorem cf_X11_copy (G : mG) (l : Launch) (x1 : Int32) (x2 : Int32) (x3 : Int32) (x4 : Int32) (x5 : Int32)  (h : mH) (b : Int32 × mH) (hb : f_X11_copy x1 x2 x3 x4 x5 h = some b) (hl : ∀ v ∈ ([.inr (.inr (11, 0)), .inl x1, .inl x2, .inl x3, .inl x4, .inl x5] : List mV), mLi v) : mMet G l yX11_copy cX11_copy 8 (some .int) (mRoom 1 64) [.inr (.inr (11, 0)), .inl x1, .inl x2, .inl x3, .inl x4, .inl x5] h (eI b) :=
  mMet.of (y := yX11_copy) (as := [.inr (.inr (11, 0)), .inl x1, .inl x2, .inl x3, .inl x4, .inl x5]) (by decide +kernel) (Nat.le_of_ble_eq_true rfl) (fun X => sf_X11_copy G X x1 x2 x3 x4 x5  h) hl b hb
-- DriverBook.count(I)I
def f_X11_count (x1 : Int32) (h : mH) : Option (Int32 × mH) :=
  if x1 = 0 then
    some (h.1 1 0 3, h)
  else
  if x1 = 1 then
    some (h.1 1 0 4, h)
  else
  if x1 = 2 then
    some (h.1 1 0 5, h)
  else
  if x1 = 3 then
    some (h.1 1 0 6, h)
  else
  if x1 = 4 then
    (f_X11_nearestInt (h.2 8 0 10) h).bind fun r6 =>
    some (r6.1, r6.2)
  else
  if x1 = 5 then
    some (h.1 8 0 12, h)
  else
  if x1 = 6 then
    some (h.1 8 0 9, h)
  else
  if x1 = 7 then
    some (h.1 1 0 7, h)
  else
  if x1 = 8 then
    some (h.1 11 0 6, h)
  else
    some ((-1), h)
set_option maxRecDepth 20000 in
theorem sf_X11_count (G : mG) (X : mX) (x1 : Int32)  (h : mH) : Sim G X cX11_count 2 RX11 (some .int) (mRoom 2 85) eI (f_X11_count x1 h) 0 [(0, .inr (.inr (11, 0))), (1, .inl x1)] [] h := by
  unfold f_X11_count
  refine s_iload1 1 rfl dX11_count_0 ?_
  refine s_case (fun q1 => ?_) (fun q1 => ?_)
  · skip
    refine s_tabP dX11_count_1 0 q1 52 (by decide) (by decide) ?_
    refine s_aload0 0 rfl dX11_count_52 ?_
    refine s_gr (gR_RX11_10 0) dX11_count_53 ?_
    refine s_gi gI_RX11_319 dX11_count_56 ?_
    exact s_ireturn rfl rfl dX11_count_59
  refine s_case (fun q2 => ?_) (fun q2 => ?_)
  · skip
    refine s_tabP dX11_count_1 1 q2 60 (by decide) (by decide) ?_
    refine s_aload0 0 rfl dX11_count_60 ?_
    refine s_gr (gR_RX11_10 0) dX11_count_61 ?_
    refine s_gi gI_RX11_85 dX11_count_64 ?_
    exact s_ireturn rfl rfl dX11_count_67
  refine s_case (fun q3 => ?_) (fun q3 => ?_)
  · skip
    refine s_tabP dX11_count_1 2 q3 68 (by decide) (by decide) ?_
    refine s_aload0 0 rfl dX11_count_68 ?_
    refine s_gr (gR_RX11_10 0) dX11_count_69 ?_
    refine s_gi gI_RX11_111 dX11_count_72 ?_
    exact s_ireturn rfl rfl dX11_count_75
  refine s_case (fun q4 => ?_) (fun q4 => ?_)
  · skip
    refine s_tabP dX11_count_1 3 q4 76 (by decide) (by decide) ?_
    refine s_aload0 0 rfl dX11_count_76 ?_
    refine s_gr (gR_RX11_10 0) dX11_count_77 ?_
    refine s_gi gI_RX11_118 dX11_count_80 ?_
    exact s_ireturn rfl rfl dX11_count_83
  refine s_case (fun q5 => ?_) (fun q5 => ?_)
  · skip
    refine s_tabP dX11_count_1 4 q5 84 (by decide) (by decide) ?_
    refine s_aload0 0 rfl dX11_count_84 ?_
    refine s_gr (gR_RX11_19 0) dX11_count_85 ?_
    refine s_gj gJ_RX11_178 dX11_count_88 ?_
    refine s_siI [.inr (.inl (h.2 8 0 10))] (fun l b hb hl => cf_X11_nearestInt G l (h.2 8 0 10) h b hb hl) me_X11_nearestInt si_RX11_192 rfl rfl rfl rfl rfl dX11_count_91 (fun r6 => ?_)
    exact s_ireturn rfl rfl dX11_count_94
  refine s_case (fun q7 => ?_) (fun q7 => ?_)
  · skip
    refine s_tabP dX11_count_1 5 q7 95 (by decide) (by decide) ?_
    refine s_aload0 0 rfl dX11_count_95 ?_
    refine s_gr (gR_RX11_19 0) dX11_count_96 ?_
    refine s_gi gI_RX11_322 dX11_count_99 ?_
    exact s_ireturn rfl rfl dX11_count_102
  refine s_case (fun q8 => ?_) (fun q8 => ?_)
  · skip
    refine s_tabP dX11_count_1 6 q8 103 (by decide) (by decide) ?_
    refine s_aload0 0 rfl dX11_count_103 ?_
    refine s_gr (gR_RX11_19 0) dX11_count_104 ?_
    refine s_gi gI_RX11_182 dX11_count_107 ?_
    exact s_ireturn rfl rfl dX11_count_110
  refine s_case (fun q9 => ?_) (fun q9 => ?_)
  · skip
    refine s_tabP dX11_count_1 7 q9 111 (by decide) (by decide) ?_
    refine s_aload0 0 rfl dX11_count_111 ?_
    refine s_gr (gR_RX11_10 0) dX11_count_112 ?_
    refine s_gi gI_RX11_325 dX11_count_115 ?_
    exact s_ireturn rfl rfl dX11_count_118
  refine s_case (fun q10 => ?_) (fun q10 => ?_)
  · skip
    refine s_tabP dX11_count_1 8 q10 119 (by decide) (by decide) ?_
    refine s_aload0 0 rfl dX11_count_119 ?_
    refine s_gi gI_RX11_57 dX11_count_120 ?_
    exact s_ireturn rfl rfl dX11_count_123
  refine s_tabD dX11_count_1 [0, 1, 2, 3, 4, 5, 6, 7, 8] (by refine List.forall_mem_cons.mpr ⟨q1, ?_⟩; refine List.forall_mem_cons.mpr ⟨q2, ?_⟩; refine List.forall_mem_cons.mpr ⟨q3, ?_⟩; refine List.forall_mem_cons.mpr ⟨q4, ?_⟩; refine List.forall_mem_cons.mpr ⟨q5, ?_⟩; refine List.forall_mem_cons.mpr ⟨q7, ?_⟩; refine List.forall_mem_cons.mpr ⟨q8, ?_⟩; refine List.forall_mem_cons.mpr ⟨q9, ?_⟩; refine List.forall_mem_cons.mpr ⟨q10, ?_⟩; exact fun _ z => absurd z List.not_mem_nil) (by decide) (by decide) 124 (by decide) ?_
  · skip
    refine s_km1 dX11_count_124 ?_
    exact s_ireturn rfl rfl dX11_count_125
set_option maxRecDepth 20000 in
theorem cf_X11_count (G : mG) (l : Launch) (x1 : Int32)  (h : mH) (b : Int32 × mH) (hb : f_X11_count x1 h = some b) (hl : ∀ v ∈ ([.inr (.inr (11, 0)), .inl x1] : List mV), mLi v) : mMet G l yX11_count cX11_count 2 (some .int) (mRoom 2 85) [.inr (.inr (11, 0)), .inl x1] h (eI b) :=
  mMet.of (y := yX11_count) (as := [.inr (.inr (11, 0)), .inl x1]) (by decide +kernel) (Nat.le_of_ble_eq_true rfl) (fun X => sf_X11_count G X x1  h) hl b hb
-- DriverBookModel.in(III)Z
def f_X12_in (x0 : Int32) (x1 : Int32) (x2 : Int32) (h : mH) : Option (Int32 × mH) :=
  if x0 < x1 then
    some (0, h)
  else
    if x0 ≤ x2 then
      some (1, h)
    else
      some (0, h)
set_option maxRecDepth 20000 in
theorem sf_X12_in (G : mG) (X : mX) (x0 : Int32) (x1 : Int32) (x2 : Int32)  (h : mH) : Sim G X cX12_in 3 RX12 (some .boolean) (mRoom 0 0) eI (f_X12_in x0 x1 x2 h) 0 [(0, .inl x0), (1, .inl x1), (2, .inl x2)] [] h := by
  unfold f_X12_in
  refine s_iload0 0 rfl dX12_in_0 ?_
  refine s_iload1 1 rfl dX12_in_1 ?_
  refine s_ic_lt (tgt := 14) dX12_in_2 (by decide) (fun q1 => ?_) (fun q1 => ?_)
  · skip
    refine s_k0 dX12_in_14 ?_
    exact s_zreturn rfl rfl (Or.inl rfl) dX12_in_15
  · skip
    refine s_iload0 0 rfl dX12_in_5 ?_
    refine s_iload2 2 rfl dX12_in_6 ?_
    refine s_ic_gt (tgt := 14) dX12_in_7 (by decide) (fun q2 => ?_) (fun q2 => ?_)
    · skip
      refine s_k0 dX12_in_14 ?_
      exact s_zreturn rfl rfl (Or.inl rfl) dX12_in_15
    · skip
      refine s_k1 dX12_in_10 ?_
      refine s_goto (tgt := 15) dX12_in_11 (by decide) ?_
      exact s_zreturn rfl rfl (Or.inr rfl) dX12_in_15
set_option maxRecDepth 20000 in
theorem cf_X12_in (G : mG) (l : Launch) (x0 : Int32) (x1 : Int32) (x2 : Int32)  (h : mH) (b : Int32 × mH) (hb : f_X12_in x0 x1 x2 h = some b) (hl : ∀ v ∈ ([.inl x0, .inl x1, .inl x2] : List mV), mLi v) : mMet G l yX12_in cX12_in 3 (some .boolean) (mRoom 0 0) [.inl x0, .inl x1, .inl x2] h (eI b) :=
  mMet.of (y := yX12_in) (as := [.inl x0, .inl x1, .inl x2]) (by decide +kernel) (Nat.le_of_ble_eq_true rfl) (fun X => sf_X12_in G X x0 x1 x2  h) hl b hb
-- DriverBookModel.isField(I)Z
def f_X12_isField (x1 : Int32) (h : mH) : Option (Int32 × mH) :=
  (f_X12_in x1 0 ((h.1 12 0 2) - 1) h).bind fun r1 =>
  if (r1.1 = 0 ∨ r1.1 = 1) then
  some (r1.1, r1.2)
  else none
set_option maxRecDepth 20000 in
theorem sf_X12_isField (G : mG) (X : mX) (x1 : Int32)  (h : mH) : Sim G X cX12_isField 2 RX12 (some .boolean) (mRoom 1 22) eI (f_X12_isField x1 h) 0 [(0, .inr (.inr (12, 0))), (1, .inl x1)] [] h := by
  unfold f_X12_isField
  refine s_iload1 1 rfl dX12_isField_0 ?_
  refine s_k0 dX12_isField_1 ?_
  refine s_aload0 0 rfl dX12_isField_2 ?_
  refine s_gi gI_RX12_181 dX12_isField_3 ?_
  refine s_k1 dX12_isField_6 ?_
  refine s_isub dX12_isField_7 ?_
  refine s_siI [.inl x1, .inl 0, .inl ((h.1 12 0 2) - 1)] (fun l b hb hl => cf_X12_in G l x1 0 ((h.1 12 0 2) - 1) h b hb hl) me_X12_in si_RX12_184 rfl rfl rfl rfl rfl dX12_isField_8 (fun r1 => ?_)
  refine s_chk (fun q2 => ?_)
  exact s_zreturn rfl rfl q2 dX12_isField_11
set_option maxRecDepth 20000 in
theorem cf_X12_isField (G : mG) (l : Launch) (x1 : Int32)  (h : mH) (b : Int32 × mH) (hb : f_X12_isField x1 h = some b) (hl : ∀ v ∈ ([.inr (.inr (12, 0)), .inl x1] : List mV), mLi v) : mMet G l yX12_isField cX12_isField 2 (some .boolean) (mRoom 1 22) [.inr (.inr (12, 0)), .inl x1] h (eI b) :=
  mMet.of (y := yX12_isField) (as := [.inr (.inr (12, 0)), .inl x1]) (by decide +kernel) (Nat.le_of_ble_eq_true rfl) (fun X => sf_X12_isField G X x1  h) hl b hb
-- DriverBookModel.isAct(I)Z
def f_X12_isAct (x1 : Int32) (h : mH) : Option (Int32 × mH) :=
  (f_X12_in x1 0 ((h.1 12 0 16) - 1) h).bind fun r1 =>
  if (r1.1 = 0 ∨ r1.1 = 1) then
  some (r1.1, r1.2)
  else none
set_option maxRecDepth 20000 in
theorem sf_X12_isAct (G : mG) (X : mX) (x1 : Int32)  (h : mH) : Sim G X cX12_isAct 2 RX12 (some .boolean) (mRoom 1 22) eI (f_X12_isAct x1 h) 0 [(0, .inr (.inr (12, 0))), (1, .inl x1)] [] h := by
  unfold f_X12_isAct
  refine s_iload1 1 rfl dX12_isAct_0 ?_
  refine s_k0 dX12_isAct_1 ?_
  refine s_aload0 0 rfl dX12_isAct_2 ?_
  refine s_gi gI_RX12_188 dX12_isAct_3 ?_
  refine s_k1 dX12_isAct_6 ?_
  refine s_isub dX12_isAct_7 ?_
  refine s_siI [.inl x1, .inl 0, .inl ((h.1 12 0 16) - 1)] (fun l b hb hl => cf_X12_in G l x1 0 ((h.1 12 0 16) - 1) h b hb hl) me_X12_in si_RX12_184 rfl rfl rfl rfl rfl dX12_isAct_8 (fun r1 => ?_)
  refine s_chk (fun q2 => ?_)
  exact s_zreturn rfl rfl q2 dX12_isAct_11
set_option maxRecDepth 20000 in
theorem cf_X12_isAct (G : mG) (l : Launch) (x1 : Int32)  (h : mH) (b : Int32 × mH) (hb : f_X12_isAct x1 h = some b) (hl : ∀ v ∈ ([.inr (.inr (12, 0)), .inl x1] : List mV), mLi v) : mMet G l yX12_isAct cX12_isAct 2 (some .boolean) (mRoom 1 22) [.inr (.inr (12, 0)), .inl x1] h (eI b) :=
  mMet.of (y := yX12_isAct) (as := [.inr (.inr (12, 0)), .inl x1]) (by decide +kernel) (Nat.le_of_ble_eq_true rfl) (fun X => sf_X12_isAct G X x1  h) hl b hb
-- DriverBookModel.isRegister(I)Z
def f_X12_isRegister (x1 : Int32) (h : mH) : Option (Int32 × mH) :=
  (f_X12_in x1 0 ((h.1 12 0 1) - 1) h).bind fun r1 =>
  if (r1.1 = 0 ∨ r1.1 = 1) then
  some (r1.1, r1.2)
  else none
set_option maxRecDepth 20000 in
theorem sf_X12_isRegister (G : mG) (X : mX) (x1 : Int32)  (h : mH) : Sim G X cX12_isRegister 2 RX12 (some .boolean) (mRoom 1 22) eI (f_X12_isRegister x1 h) 0 [(0, .inr (.inr (12, 0))), (1, .inl x1)] [] h := by
  unfold f_X12_isRegister
  refine s_iload1 1 rfl dX12_isRegister_0 ?_
  refine s_k0 dX12_isRegister_1 ?_
  refine s_aload0 0 rfl dX12_isRegister_2 ?_
  refine s_gi gI_RX12_7 dX12_isRegister_3 ?_
  refine s_k1 dX12_isRegister_6 ?_
  refine s_isub dX12_isRegister_7 ?_
  refine s_siI [.inl x1, .inl 0, .inl ((h.1 12 0 1) - 1)] (fun l b hb hl => cf_X12_in G l x1 0 ((h.1 12 0 1) - 1) h b hb hl) me_X12_in si_RX12_184 rfl rfl rfl rfl rfl dX12_isRegister_8 (fun r1 => ?_)
  refine s_chk (fun q2 => ?_)
  exact s_zreturn rfl rfl q2 dX12_isRegister_11
set_option maxRecDepth 20000 in
theorem cf_X12_isRegister (G : mG) (l : Launch) (x1 : Int32)  (h : mH) (b : Int32 × mH) (hb : f_X12_isRegister x1 h = some b) (hl : ∀ v ∈ ([.inr (.inr (12, 0)), .inl x1] : List mV), mLi v) : mMet G l yX12_isRegister cX12_isRegister 2 (some .boolean) (mRoom 1 22) [.inr (.inr (12, 0)), .inl x1] h (eI b) :=
  mMet.of (y := yX12_isRegister) (as := [.inr (.inr (12, 0)), .inl x1]) (by decide +kernel) (Nat.le_of_ble_eq_true rfl) (fun X => sf_X12_isRegister G X x1  h) hl b hb
-- DriverBookModel.most(I)I
def f_X12_most (x1 : Int32) (h : mH) : Option (Int32 × mH) :=
  if mIn x1 24 = true then
  some ((1 <<< ((h.1 48 0 x1.toNatClampNeg) &&& 31)) - 1, h)
  else none
set_option maxRecDepth 20000 in
theorem sf_X12_most (G : mG) (X : mX) (x1 : Int32)  (h : mH) : Sim G X cX12_most 2 RX12 (some .int) (mRoom 0 0) eI (f_X12_most x1 h) 0 [(0, .inr (.inr (12, 0))), (1, .inl x1)] [] h := by
  unfold f_X12_most
  refine s_k1 dX12_most_0 ?_
  refine s_aload0 0 rfl dX12_most_1 ?_
  refine s_gr (gR_RX12_20 0) dX12_most_2 ?_
  refine s_iload1 1 rfl dX12_most_5 ?_
  refine s_chk (fun q1 => ?_)
  refine s_ial aT_48 q1 dX12_most_6 ?_
  refine s_ishl dX12_most_7 ?_
  refine s_k1 dX12_most_8 ?_
  refine s_isub dX12_most_9 ?_
  exact s_ireturn rfl rfl dX12_most_10
set_option maxRecDepth 20000 in
theorem cf_X12_most (G : mG) (l : Launch) (x1 : Int32)  (h : mH) (b : Int32 × mH) (hb : f_X12_most x1 h = some b) (hl : ∀ v ∈ ([.inr (.inr (12, 0)), .inl x1] : List mV), mLi v) : mMet G l yX12_most cX12_most 2 (some .int) (mRoom 0 0) [.inr (.inr (12, 0)), .inl x1] h (eI b) :=
  mMet.of (y := yX12_most) (as := [.inr (.inr (12, 0)), .inl x1]) (by decide +kernel) (Nat.le_of_ble_eq_true rfl) (fun X => sf_X12_most G X x1  h) hl b hb
-- DriverBookModel.mask(I)I
def f_X12_mask (x1 : Int32) (h : mH) : Option (Int32 × mH) :=
  (f_X12_most x1 h).bind fun r1 =>
  if mIn x1 24 = true then
  some (r1.1 <<< ((r1.2.1 47 0 x1.toNatClampNeg) &&& 31), r1.2)
  else none
set_option maxRecDepth 20000 in
theorem sf_X12_mask (G : mG) (X : mX) (x1 : Int32)  (h : mH) : Sim G X cX12_mask 2 RX12 (some .int) (mRoom 1 21) eI (f_X12_mask x1 h) 0 [(0, .inr (.inr (12, 0))), (1, .inl x1)] [] h := by
  unfold f_X12_mask
  refine s_aload0 0 rfl dX12_mask_0 ?_
  refine s_iload1 1 rfl dX12_mask_1 ?_
  refine s_viI [.inl x1] (fun l b hb hl => cf_X12_most G l x1 h b hb hl) me_X12_most vi_RX12_191 rfl rfl rfl rfl rfl dX12_mask_2 (fun r1 => ?_)
  refine s_aload0 0 rfl dX12_mask_5 ?_
  refine s_gr (gR_RX12_17 0) dX12_mask_6 ?_
  refine s_iload1 1 rfl dX12_mask_9 ?_
  refine s_chk (fun q2 => ?_)
  refine s_ial aT_47 q2 dX12_mask_10 ?_
  refine s_ishl dX12_mask_11 ?_
  exact s_ireturn rfl rfl dX12_mask_12
set_option maxRecDepth 20000 in
theorem cf_X12_mask (G : mG) (l : Launch) (x1 : Int32)  (h : mH) (b : Int32 × mH) (hb : f_X12_mask x1 h = some b) (hl : ∀ v ∈ ([.inr (.inr (12, 0)), .inl x1] : List mV), mLi v) : mMet G l yX12_mask cX12_mask 2 (some .int) (mRoom 1 21) [.inr (.inr (12, 0)), .inl x1] h (eI b) :=
  mMet.of (y := yX12_mask) (as := [.inr (.inr (12, 0)), .inl x1]) (by decide +kernel) (Nat.le_of_ble_eq_true rfl) (fun X => sf_X12_mask G X x1  h) hl b hb
-- DriverBookModel.refuse(I)I
def f_X12_refuse (x1 : Int32) (h : mH) : Option (Int32 × mH) :=
  some (x1, uI h 12 0 62 ((h.1 12 0 62) + 1))
set_option maxRecDepth 20000 in
theorem sf_X12_refuse (G : mG) (X : mX) (x1 : Int32)  (h : mH) : Sim G X cX12_refuse 2 RX12 (some .int) (mRoom 0 0) eI (f_X12_refuse x1 h) 0 [(0, .inr (.inr (12, 0))), (1, .inl x1)] [] h := by
  unfold f_X12_refuse
  refine s_aload0 0 rfl dX12_refuse_0 ?_
  refine s_dup rfl dX12_refuse_1 ?_
  refine s_gi gI_RX12_195 dX12_refuse_2 ?_
  refine s_k1 dX12_refuse_5 ?_
  refine s_iadd dX12_refuse_6 ?_
  refine s_pi pI_RX12_195 dX12_refuse_7 ?_
  refine s_iload1 1 rfl dX12_refuse_10 ?_
  exact s_ireturn rfl rfl dX12_refuse_11
set_option maxRecDepth 20000 in
theorem cf_X12_refuse (G : mG) (l : Launch) (x1 : Int32)  (h : mH) (b : Int32 × mH) (hb : f_X12_refuse x1 h = some b) (hl : ∀ v ∈ ([.inr (.inr (12, 0)), .inl x1] : List mV), mLi v) : mMet G l yX12_refuse cX12_refuse 2 (some .int) (mRoom 0 0) [.inr (.inr (12, 0)), .inl x1] h (eI b) :=
  mMet.of (y := yX12_refuse) (as := [.inr (.inr (12, 0)), .inl x1]) (by decide +kernel) (Nat.le_of_ble_eq_true rfl) (fun X => sf_X12_refuse G X x1  h) hl b hb
-- DriverBookModel.powers()V
def f_X12_powers_37 (k : Int32 → mH → Option (mH))  : Nat → Int32 → mH → Option (mH)
  | 0, _, _ => none
  | n + 1, v1, h =>
    if v1 < 8 then
      if mIn v1 8 = true then
      f_X12_powers_37 k  n (v1 + 1) (uI h 68 0 v1.toNatClampNeg 0)
      else none
    else
      k v1 h
def f_X12_powers_58 (k : Int32 → mH → Option (mH))  : Nat → Int32 → mH → Option (mH)
  | 0, _, _ => none
  | n + 1, v1, h =>
    if v1 < (h.1 12 0 2) then
      if mIn v1 24 = true then
      mLet (uI h 63 0 v1.toNatClampNeg (h.1 50 0 v1.toNatClampNeg)) fun h13 =>
      mLet (uI h13 64 0 v1.toNatClampNeg (h13.1 50 0 v1.toNatClampNeg)) fun h14 =>
      mLet (uI h14 65 0 v1.toNatClampNeg 0) fun h15 =>
      mLet (uI h15 66 0 v1.toNatClampNeg 0) fun h16 =>
      mLet (uI h16 67 0 v1.toNatClampNeg (-1)) fun h17 =>
      if mIn (h17.1 46 0 v1.toNatClampNeg) 8 = true then
      if (h17.1 49 0 v1.toNatClampNeg) = 0 then
        f_X12_powers_58 k  n (v1 + 1) (uI h17 68 0 (h17.1 46 0 v1.toNatClampNeg).toNatClampNeg ((h17.1 68 0 (h17.1 46 0 v1.toNatClampNeg).toNatClampNeg) ||| ((h17.1 50 0 v1.toNatClampNeg) <<< ((h17.1 47 0 v1.toNatClampNeg) &&& 31))))
      else
        if (h17.1 49 0 v1.toNatClampNeg) = 5 then
          f_X12_powers_58 k  n (v1 + 1) (uI h17 68 0 (h17.1 46 0 v1.toNatClampNeg).toNatClampNeg ((h17.1 68 0 (h17.1 46 0 v1.toNatClampNeg).toNatClampNeg) ||| ((h17.1 50 0 v1.toNatClampNeg) <<< ((h17.1 47 0 v1.toNatClampNeg) &&& 31))))
        else
          f_X12_powers_58 k  n (v1 + 1) (uI h17 68 0 (h17.1 46 0 v1.toNatClampNeg).toNatClampNeg ((h17.1 68 0 (h17.1 46 0 v1.toNatClampNeg).toNatClampNeg) ||| 0))
      else none
      else none
    else
      k v1 h
def f_X12_powers  (h : mH) : Option (mH) :=
  mLet (uI h 12 0 23 0) fun h1 =>
  mLet (uI h1 12 0 30 0) fun h2 =>
  mLet (uI h2 12 0 34 0) fun h3 =>
  mLet (uI h3 12 0 35 (-1)) fun h4 =>
  mLet (uI h4 12 0 36 (-1)) fun h5 =>
  mLet (uI h5 12 0 37 0) fun h6 =>
  f_X12_powers_37 (fun u9 h10 =>
    f_X12_powers_58 (fun u21 h22 =>
      some h22)  mFu 0 h10)  mFu 0 (uI h6 12 0 38 0)
set_option maxRecDepth 20000 in
theorem sf_X12_powers_37 (G : mG) (X : mX)   (k : Int32 → mH → Option (mH)) (hk : ∀ (v1 : Int32) (h : mH), Sim G X cX12_powers 2 RX12 none (mRoom 0 0) eV (k v1 h) 56 [(0, .inr (.inr (12, 0))), (1, .inl v1)] [] h) (n : Nat) : ∀ (v1 : Int32) (h : mH), Sim G X cX12_powers 2 RX12 none (mRoom 0 0) eV (f_X12_powers_37 k  n v1 h) 37 [(0, .inr (.inr (12, 0))), (1, .inl v1)] [] h := by
  induction n with
  | zero =>
    intro v1 h
    exact s_none
  | succ n ih =>
    intro v1 h
    unfold f_X12_powers_37
    refine s_iload1 1 rfl dX12_powers_37 ?_
    refine s_bip 8 kb_8 dX12_powers_38 ?_
    refine s_ic_ge (tgt := 56) dX12_powers_40 (by decide) (fun q7 => ?_) (fun q7 => ?_)
    · skip
      exact s_loc [0, 1] rfl (hk v1 h)
    · skip
      refine s_aload0 0 rfl dX12_powers_43 ?_
      refine s_gr (gR_RX12_83 0) dX12_powers_44 ?_
      refine s_iload1 1 rfl dX12_powers_47 ?_
      refine s_k0 dX12_powers_48 ?_
      refine s_chk (fun q8 => ?_)
      refine s_ias aT_68 q8 dX12_powers_49 ?_
      refine s_iincw 1 (by decide) 1 [(1, .inl (v1 + 1)), (0, .inr (.inr (12, 0)))] rfl rfl rfl dX12_powers_50 ?_
      refine s_goto (tgt := 37) dX12_powers_53 (by decide) ?_
      exact s_loc [1, 0] rfl (ih (v1 + 1) (uI h 68 0 v1.toNatClampNeg 0))
set_option maxRecDepth 20000 in
theorem sf_X12_powers_58 (G : mG) (X : mX)   (k : Int32 → mH → Option (mH)) (hk : ∀ (v1 : Int32) (h : mH), Sim G X cX12_powers 2 RX12 none (mRoom 0 0) eV (k v1 h) 167 [(0, .inr (.inr (12, 0))), (1, .inl v1)] [] h) (n : Nat) : ∀ (v1 : Int32) (h : mH), Sim G X cX12_powers 2 RX12 none (mRoom 0 0) eV (f_X12_powers_58 k  n v1 h) 58 [(0, .inr (.inr (12, 0))), (1, .inl v1)] [] h := by
  induction n with
  | zero =>
    intro v1 h
    exact s_none
  | succ n ih =>
    intro v1 h
    unfold f_X12_powers_58
    refine s_iload1 1 rfl dX12_powers_58 ?_
    refine s_aload0 0 rfl dX12_powers_59 ?_
    refine s_gi gI_RX12_181 dX12_powers_60 ?_
    refine s_ic_ge (tgt := 167) dX12_powers_63 (by decide) (fun q11 => ?_) (fun q11 => ?_)
    · skip
      exact s_loc [0, 1] rfl (hk v1 h)
    · skip
      refine s_aload0 0 rfl dX12_powers_66 ?_
      refine s_gr (gR_RX12_68 0) dX12_powers_67 ?_
      refine s_iload1 1 rfl dX12_powers_70 ?_
      refine s_aload0 0 rfl dX12_powers_71 ?_
      refine s_gr (gR_RX12_26 0) dX12_powers_72 ?_
      refine s_iload1 1 rfl dX12_powers_75 ?_
      refine s_chk (fun q12 => ?_)
      refine s_ial aT_50 q12 dX12_powers_76 ?_
      refine s_ias aT_63 q12 dX12_powers_77 ?_
      refine s_aload0 0 rfl dX12_powers_78 ?_
      refine s_gr (gR_RX12_71 0) dX12_powers_79 ?_
      refine s_iload1 1 rfl dX12_powers_82 ?_
      refine s_aload0 0 rfl dX12_powers_83 ?_
      refine s_gr (gR_RX12_26 0) dX12_powers_84 ?_
      refine s_iload1 1 rfl dX12_powers_87 ?_
      refine s_let (fun h13 => ?_)
      refine s_ial aT_50 q12 dX12_powers_88 ?_
      refine s_ias aT_64 q12 dX12_powers_89 ?_
      refine s_aload0 0 rfl dX12_powers_90 ?_
      refine s_gr (gR_RX12_74 0) dX12_powers_91 ?_
      refine s_iload1 1 rfl dX12_powers_94 ?_
      refine s_k0 dX12_powers_95 ?_
      refine s_let (fun h14 => ?_)
      refine s_ias aT_65 q12 dX12_powers_96 ?_
      refine s_aload0 0 rfl dX12_powers_97 ?_
      refine s_gr (gR_RX12_77 0) dX12_powers_98 ?_
      refine s_iload1 1 rfl dX12_powers_101 ?_
      refine s_k0 dX12_powers_102 ?_
      refine s_let (fun h15 => ?_)
      refine s_ias aT_66 q12 dX12_powers_103 ?_
      refine s_aload0 0 rfl dX12_powers_104 ?_
      refine s_gr (gR_RX12_80 0) dX12_powers_105 ?_
      refine s_iload1 1 rfl dX12_powers_108 ?_
      refine s_km1 dX12_powers_109 ?_
      refine s_let (fun h16 => ?_)
      refine s_ias aT_67 q12 dX12_powers_110 ?_
      refine s_aload0 0 rfl dX12_powers_111 ?_
      refine s_gr (gR_RX12_83 0) dX12_powers_112 ?_
      refine s_aload0 0 rfl dX12_powers_115 ?_
      refine s_gr (gR_RX12_13 0) dX12_powers_116 ?_
      refine s_iload1 1 rfl dX12_powers_119 ?_
      refine s_let (fun h17 => ?_)
      refine s_ial aT_46 q12 dX12_powers_120 ?_
      refine s_dup2 rfl rfl dX12_powers_121 ?_
      refine s_chk (fun q18 => ?_)
      refine s_ial aT_68 q18 dX12_powers_122 ?_
      refine s_aload0 0 rfl dX12_powers_123 ?_
      refine s_gr (gR_RX12_23 0) dX12_powers_124 ?_
      refine s_iload1 1 rfl dX12_powers_127 ?_
      refine s_ial aT_49 q12 dX12_powers_128 ?_
      refine s_if_eq (tgt := 142) dX12_powers_129 (by decide) (fun q19 => ?_) (fun q19 => ?_)
      · skip
        refine s_aload0 0 rfl dX12_powers_142 ?_
        refine s_gr (gR_RX12_26 0) dX12_powers_143 ?_
        refine s_iload1 1 rfl dX12_powers_146 ?_
        refine s_ial aT_50 q12 dX12_powers_147 ?_
        refine s_aload0 0 rfl dX12_powers_148 ?_
        refine s_gr (gR_RX12_17 0) dX12_powers_149 ?_
        refine s_iload1 1 rfl dX12_powers_152 ?_
        refine s_ial aT_47 q12 dX12_powers_153 ?_
        refine s_ishl dX12_powers_154 ?_
        refine s_goto (tgt := 159) dX12_powers_155 (by decide) ?_
        refine s_ior dX12_powers_159 ?_
        refine s_ias aT_68 q18 dX12_powers_160 ?_
        refine s_iincw 1 (by decide) 1 [(1, .inl (v1 + 1)), (0, .inr (.inr (12, 0)))] rfl rfl rfl dX12_powers_161 ?_
        refine s_goto (tgt := 58) dX12_powers_164 (by decide) ?_
        exact s_loc [1, 0] rfl (ih (v1 + 1) (uI h17 68 0 (h17.1 46 0 v1.toNatClampNeg).toNatClampNeg ((h17.1 68 0 (h17.1 46 0 v1.toNatClampNeg).toNatClampNeg) ||| ((h17.1 50 0 v1.toNatClampNeg) <<< ((h17.1 47 0 v1.toNatClampNeg) &&& 31)))))
      · skip
        refine s_aload0 0 rfl dX12_powers_132 ?_
        refine s_gr (gR_RX12_23 0) dX12_powers_133 ?_
        refine s_iload1 1 rfl dX12_powers_136 ?_
        refine s_ial aT_49 q12 dX12_powers_137 ?_
        refine s_k5 dX12_powers_138 ?_
        refine s_ic_ne (tgt := 158) dX12_powers_139 (by decide) (fun q20 => ?_) (fun q20 => ?_)
        · skip
          refine s_k0 dX12_powers_158 ?_
          refine s_ior dX12_powers_159 ?_
          refine s_ias aT_68 q18 dX12_powers_160 ?_
          refine s_iincw 1 (by decide) 1 [(1, .inl (v1 + 1)), (0, .inr (.inr (12, 0)))] rfl rfl rfl dX12_powers_161 ?_
          refine s_goto (tgt := 58) dX12_powers_164 (by decide) ?_
          exact s_loc [1, 0] rfl (ih (v1 + 1) (uI h17 68 0 (h17.1 46 0 v1.toNatClampNeg).toNatClampNeg ((h17.1 68 0 (h17.1 46 0 v1.toNatClampNeg).toNatClampNeg) ||| 0)))
        · skip
          refine s_aload0 0 rfl dX12_powers_142 ?_
          refine s_gr (gR_RX12_26 0) dX12_powers_143 ?_
          refine s_iload1 1 rfl dX12_powers_146 ?_
          refine s_ial aT_50 q12 dX12_powers_147 ?_
          refine s_aload0 0 rfl dX12_powers_148 ?_
          refine s_gr (gR_RX12_17 0) dX12_powers_149 ?_
          refine s_iload1 1 rfl dX12_powers_152 ?_
          refine s_ial aT_47 q12 dX12_powers_153 ?_
          refine s_ishl dX12_powers_154 ?_
          refine s_goto (tgt := 159) dX12_powers_155 (by decide) ?_
          refine s_ior dX12_powers_159 ?_
          refine s_ias aT_68 q18 dX12_powers_160 ?_
          refine s_iincw 1 (by decide) 1 [(1, .inl (v1 + 1)), (0, .inr (.inr (12, 0)))] rfl rfl rfl dX12_powers_161 ?_
          refine s_goto (tgt := 58) dX12_powers_164 (by decide) ?_
          exact s_loc [1, 0] rfl (ih (v1 + 1) (uI h17 68 0 (h17.1 46 0 v1.toNatClampNeg).toNatClampNeg ((h17.1 68 0 (h17.1 46 0 v1.toNatClampNeg).toNatClampNeg) ||| ((h17.1 50 0 v1.toNatClampNeg) <<< ((h17.1 47 0 v1.toNatClampNeg) &&& 31)))))
set_option maxRecDepth 20000 in
theorem sf_X12_powers (G : mG) (X : mX)   (h : mH) : Sim G X cX12_powers 2 RX12 none (mRoom 0 0) eV (f_X12_powers  h) 0 [(0, .inr (.inr (12, 0)))] [] h := by
  unfold f_X12_powers
  refine s_aload0 0 rfl dX12_powers_0 ?_
  refine s_k0 dX12_powers_1 ?_
  refine s_pi pI_RX12_198 dX12_powers_2 ?_
  refine s_aload0 0 rfl dX12_powers_5 ?_
  refine s_k0 dX12_powers_6 ?_
  refine s_let (fun h1 => ?_)
  refine s_pi pI_RX12_201 dX12_powers_7 ?_
  refine s_aload0 0 rfl dX12_powers_10 ?_
  refine s_k0 dX12_powers_11 ?_
  refine s_let (fun h2 => ?_)
  refine s_pi pI_RX12_204 dX12_powers_12 ?_
  refine s_aload0 0 rfl dX12_powers_15 ?_
  refine s_km1 dX12_powers_16 ?_
  refine s_let (fun h3 => ?_)
  refine s_pi pI_RX12_207 dX12_powers_17 ?_
  refine s_aload0 0 rfl dX12_powers_20 ?_
  refine s_km1 dX12_powers_21 ?_
  refine s_let (fun h4 => ?_)
  refine s_pi pI_RX12_210 dX12_powers_22 ?_
  refine s_aload0 0 rfl dX12_powers_25 ?_
  refine s_k0 dX12_powers_26 ?_
  refine s_let (fun h5 => ?_)
  refine s_pi pI_RX12_213 dX12_powers_27 ?_
  refine s_aload0 0 rfl dX12_powers_30 ?_
  refine s_k0 dX12_powers_31 ?_
  refine s_let (fun h6 => ?_)
  refine s_pi pI_RX12_216 dX12_powers_32 ?_
  refine s_k0 dX12_powers_35 ?_
  refine s_istore1 [(1, .inl 0), (0, .inr (.inr (12, 0)))] rfl rfl dX12_powers_36 ?_
  refine s_loc [1, 0] rfl ?_
  refine sf_X12_powers_37 G X  _ (fun u9 h10 => ?_) mFu 0 (uI h6 12 0 38 0)
  · skip
    refine s_k0 dX12_powers_56 ?_
    refine s_istore1 [(1, .inl 0), (0, .inr (.inr (12, 0)))] rfl rfl dX12_powers_57 ?_
    refine s_loc [1, 0] rfl ?_
    refine sf_X12_powers_58 G X  _ (fun u21 h22 => ?_) mFu 0 h10
    · skip
      exact s_return rfl rfl dX12_powers_167
set_option maxRecDepth 20000 in
theorem cf_X12_powers (G : mG) (l : Launch)   (h : mH) (b : mH) (hb : f_X12_powers  h = some b) (hl : ∀ v ∈ ([.inr (.inr (12, 0))] : List mV), mLi v) : mMet G l yX12_powers cX12_powers 2 none (mRoom 0 0) [.inr (.inr (12, 0))] h (eV b) :=
  mMet.of (y := yX12_powers) (as := [.inr (.inr (12, 0))]) (by decide +kernel) (Nat.le_of_ble_eq_true rfl) (fun X => sf_X12_powers G X   h) hl b hb
-- DriverBookModel.changed()V
def f_X12_changed  (h : mH) : Option (mH) :=
  (f_X12_powers  (uI h 12 0 55 ((h.1 12 0 55) + 1))).bind fun r1 =>
  some r1
set_option maxRecDepth 20000 in
theorem sf_X12_changed (G : mG) (X : mX)   (h : mH) : Sim G X cX12_changed 1 RX12 none (mRoom 1 21) eV (f_X12_changed  h) 0 [(0, .inr (.inr (12, 0)))] [] h := by
  unfold f_X12_changed
  refine s_aload0 0 rfl dX12_changed_0 ?_
  refine s_dup rfl dX12_changed_1 ?_
  refine s_gi gI_RX12_219 dX12_changed_2 ?_
  refine s_k1 dX12_changed_5 ?_
  refine s_iadd dX12_changed_6 ?_
  refine s_pi pI_RX12_219 dX12_changed_7 ?_
  refine s_aload0 0 rfl dX12_changed_10 ?_
  refine s_viV [] (fun l b hb hl => cf_X12_powers G l  (uI h 12 0 55 ((h.1 12 0 55) + 1)) b hb hl) me_X12_powers vi_RX12_222 rfl rfl rfl rfl rfl dX12_changed_11 (fun r1 => ?_)
  exact s_return rfl rfl dX12_changed_14
set_option maxRecDepth 20000 in
theorem cf_X12_changed (G : mG) (l : Launch)   (h : mH) (b : mH) (hb : f_X12_changed  h = some b) (hl : ∀ v ∈ ([.inr (.inr (12, 0))] : List mV), mLi v) : mMet G l yX12_changed cX12_changed 1 none (mRoom 1 21) [.inr (.inr (12, 0))] h (eV b) :=
  mMet.of (y := yX12_changed) (as := [.inr (.inr (12, 0))]) (by decide +kernel) (Nat.le_of_ble_eq_true rfl) (fun X => sf_X12_changed G X   h) hl b hb
-- DriverBookModel.begin(I)I
def f_X12_begin (x1 : Int32) (h : mH) : Option (Int32 × mH) :=
  (f_X12_in x1 1 8 h).bind fun r1 =>
  if r1.1 = 0 then
    some ((-1), r1.2)
  else
    mLet (uI r1.2 12 0 1 x1) fun h3 =>
    mLet (uI h3 12 0 2 0) fun h4 =>
    mLet (uI h4 12 0 11 0) fun h5 =>
    mLet (uI h5 12 0 16 0) fun h6 =>
    mLet (uI h6 12 0 22 1) fun h7 =>
    mLet (uI h7 12 0 62 0) fun h8 =>
    (f_X12_changed  (uI h8 12 0 57 (-1))).bind fun r9 =>
    some (x1, r9)
set_option maxRecDepth 20000 in
theorem sf_X12_begin (G : mG) (X : mX) (x1 : Int32)  (h : mH) : Sim G X cX12_begin 2 RX12 (some .int) (mRoom 2 41) eI (f_X12_begin x1 h) 0 [(0, .inr (.inr (12, 0))), (1, .inl x1)] [] h := by
  unfold f_X12_begin
  refine s_iload1 1 rfl dX12_begin_0 ?_
  refine s_k1 dX12_begin_1 ?_
  refine s_bip 8 kb_8 dX12_begin_2 ?_
  refine s_siI [.inl x1, .inl 1, .inl 8] (fun l b hb hl => cf_X12_in G l x1 1 8 h b hb hl) me_X12_in si_RX12_184 rfl rfl rfl rfl rfl dX12_begin_4 (fun r1 => ?_)
  refine s_if_ne (tgt := 12) dX12_begin_7 (by decide) (fun q2 => ?_) (fun q2 => ?_)
  · skip
    refine s_aload0 0 rfl dX12_begin_12 ?_
    refine s_iload1 1 rfl dX12_begin_13 ?_
    refine s_pi pI_RX12_7 dX12_begin_14 ?_
    refine s_aload0 0 rfl dX12_begin_17 ?_
    refine s_k0 dX12_begin_18 ?_
    refine s_let (fun h3 => ?_)
    refine s_pi pI_RX12_181 dX12_begin_19 ?_
    refine s_aload0 0 rfl dX12_begin_22 ?_
    refine s_k0 dX12_begin_23 ?_
    refine s_let (fun h4 => ?_)
    refine s_pi pI_RX12_225 dX12_begin_24 ?_
    refine s_aload0 0 rfl dX12_begin_27 ?_
    refine s_k0 dX12_begin_28 ?_
    refine s_let (fun h5 => ?_)
    refine s_pi pI_RX12_188 dX12_begin_29 ?_
    refine s_aload0 0 rfl dX12_begin_32 ?_
    refine s_k1 dX12_begin_33 ?_
    refine s_let (fun h6 => ?_)
    refine s_pi pI_RX12_65 dX12_begin_34 ?_
    refine s_aload0 0 rfl dX12_begin_37 ?_
    refine s_k0 dX12_begin_38 ?_
    refine s_let (fun h7 => ?_)
    refine s_pi pI_RX12_195 dX12_begin_39 ?_
    refine s_aload0 0 rfl dX12_begin_42 ?_
    refine s_km1 dX12_begin_43 ?_
    refine s_let (fun h8 => ?_)
    refine s_pi pI_RX12_146 dX12_begin_44 ?_
    refine s_aload0 0 rfl dX12_begin_47 ?_
    refine s_viV [] (fun l b hb hl => cf_X12_changed G l  (uI h8 12 0 57 (-1)) b hb hl) me_X12_changed vi_RX12_228 rfl rfl rfl rfl rfl dX12_begin_48 (fun r9 => ?_)
    refine s_iload1 1 rfl dX12_begin_51 ?_
    exact s_ireturn rfl rfl dX12_begin_52
  · skip
    refine s_km1 dX12_begin_10 ?_
    exact s_ireturn rfl rfl dX12_begin_11
set_option maxRecDepth 20000 in
theorem cf_X12_begin (G : mG) (l : Launch) (x1 : Int32)  (h : mH) (b : Int32 × mH) (hb : f_X12_begin x1 h = some b) (hl : ∀ v ∈ ([.inr (.inr (12, 0)), .inl x1] : List mV), mLi v) : mMet G l yX12_begin cX12_begin 2 (some .int) (mRoom 2 41) [.inr (.inr (12, 0)), .inl x1] h (eI b) :=
  mMet.of (y := yX12_begin) (as := [.inr (.inr (12, 0)), .inl x1]) (by decide +kernel) (Nat.le_of_ble_eq_true rfl) (fun X => sf_X12_begin G X x1  h) hl b hb
-- DriverBookModel.field(IIIII)I
def f_X12_field_j45 (w1 : Int32) (w2 : Int32) (w3 : Int32) (w4 : Int32) (w5 : Int32) (h : mH) : Option (Int32 × mH) :=
  some ((-1), h)
def f_X12_field_90 (k : Int32 → Int32 → Int32 → Int32 → Int32 → Int32 → mH → Option (Int32 × mH))  : Nat → Int32 → Int32 → Int32 → Int32 → Int32 → Int32 → mH → Option (Int32 × mH)
  | 0, _, _, _, _, _, _, _ => none
  | n + 1, v1, v2, v3, v4, v5, v7, h =>
    if v7 < (h.1 12 0 2) then
      if mIn v7 24 = true then
      if (h.1 46 0 v7.toNatClampNeg) = v1 then
        (f_X12_mask v7 h).bind fun r16 =>
        if (r16.1 &&& (((1 <<< (v3 &&& 31)) - 1) <<< (v2 &&& 31))) = 0 then
          f_X12_field_90 k  n v1 v2 v3 v4 v5 (v7 + 1) r16.2
        else
          some ((-2), r16.2)
      else
        f_X12_field_90 k  n v1 v2 v3 v4 v5 (v7 + 1) h
      else none
    else
      k v1 v2 v3 v4 v5 v7 h
def f_X12_field_j87 (w1 : Int32) (w2 : Int32) (w3 : Int32) (w4 : Int32) (w5 : Int32) (h : mH) : Option (Int32 × mH) :=
  f_X12_field_90 (fun u18 u19 u20 u21 u22 u23 h24 =>
    if (h24.1 12 0 2) = 24 then
      some ((-3), h24)
    else
      if mIn (h24.1 12 0 2) 24 = true then
      mLet (uI h24 46 0 (h24.1 12 0 2).toNatClampNeg u18) fun h27 =>
      if mIn (h27.1 12 0 2) 24 = true then
      mLet (uI h27 47 0 (h27.1 12 0 2).toNatClampNeg u19) fun h29 =>
      if mIn (h29.1 12 0 2) 24 = true then
      mLet (uI h29 48 0 (h29.1 12 0 2).toNatClampNeg u20) fun h31 =>
      if mIn (h31.1 12 0 2) 24 = true then
      mLet (uI h31 49 0 (h31.1 12 0 2).toNatClampNeg u21) fun h33 =>
      if mIn (h33.1 12 0 2) 24 = true then
      mLet (uI h33 50 0 (h33.1 12 0 2).toNatClampNeg u22) fun h35 =>
      if mIn (h35.1 12 0 2) 24 = true then
      mLet (uI h35 51 0 (h35.1 12 0 2).toNatClampNeg 3) fun h37 =>
      if mIn (h37.1 12 0 2) 24 = true then
      mLet (uI h37 52 0 (h37.1 12 0 2).toNatClampNeg (-1)) fun h39 =>
      if mIn (h39.1 12 0 2) 24 = true then
      mLet (uI h39 53 0 (h39.1 12 0 2).toNatClampNeg (-1)) fun h41 =>
      (f_X12_changed  (uI h41 12 0 2 ((h41.1 12 0 2) + 1))).bind fun r42 =>
      some ((r42.1 12 0 2) - 1, r42)
      else none
      else none
      else none
      else none
      else none
      else none
      else none
      else none)  mFu w1 w2 w3 w4 w5 0 h
def f_X12_field_j80 (w1 : Int32) (w2 : Int32) (w3 : Int32) (w4 : Int32) (w5 : Int32) (h : mH) : Option (Int32 × mH) :=
  if w5 = 0 then
    f_X12_field_j87 w1 w2 w3 w4 w5 h
  else
    some ((-1), h)
def f_X12_field (x1 : Int32) (x2 : Int32) (x3 : Int32) (x4 : Int32) (x5 : Int32) (h : mH) : Option (Int32 × mH) :=
  (f_X12_isRegister x1 h).bind fun r1 =>
  if r1.1 = 0 then
    f_X12_field_j45 x1 x2 x3 x4 x5 r1.2
  else
    (f_X12_in x4 0 6 r1.2).bind fun r3 =>
    if r3.1 = 0 then
      f_X12_field_j45 x1 x2 x3 x4 x5 r3.2
    else
      if x2 < 0 then
        f_X12_field_j45 x1 x2 x3 x4 x5 r3.2
      else
        (f_X12_in x3 1 8 r3.2).bind fun r6 =>
        if r6.1 = 0 then
          f_X12_field_j45 x1 x2 x3 x4 x5 r6.2
        else
          if x2 ≤ (16 - x3) then
            (f_X12_in x5 0 ((1 <<< (x3 &&& 31)) - 1) r6.2).bind fun r9 =>
            if r9.1 = 0 then
              some ((-1), r9.2)
            else
              if x4 = 4 then
                f_X12_field_j80 x1 x2 x3 x4 x5 r9.2
              else
                if x4 = 6 then
                  f_X12_field_j80 x1 x2 x3 x4 x5 r9.2
                else
                  f_X12_field_j87 x1 x2 x3 x4 x5 r9.2
          else
            f_X12_field_j45 x1 x2 x3 x4 x5 r6.2
set_option maxRecDepth 20000 in
theorem sf_X12_field_j45 (G : mG) (X : mX) (w1 : Int32) (w2 : Int32) (w3 : Int32) (w4 : Int32) (w5 : Int32) (h : mH) : Sim G X cX12_field 8 RX12 (some .int) (mRoom 2 43) eI (f_X12_field_j45 w1 w2 w3 w4 w5 h) 45 [(0, .inr (.inr (12, 0))), (1, .inl w1), (2, .inl w2), (3, .inl w3), (4, .inl w4), (5, .inl w5)] [] h := by
  unfold f_X12_field_j45
  refine s_k0 dX12_field_45 ?_
  refine s_istorew [(6, .inl 0), (0, .inr (.inr (12, 0))), (1, .inl w1), (2, .inl w2), (3, .inl w3), (4, .inl w4), (5, .inl w5)] rfl rfl dX12_field_46 ?_
  refine s_iload 0 rfl dX12_field_48 ?_
  refine s_if_eq_P (tgt := 85) (by decide) dX12_field_50 (by decide) ?_
  refine s_km1 dX12_field_85 ?_
  exact s_ireturn rfl rfl dX12_field_86
set_option maxRecDepth 20000 in
theorem sf_X12_field_90 (G : mG) (X : mX)   (k : Int32 → Int32 → Int32 → Int32 → Int32 → Int32 → mH → Option (Int32 × mH)) (hk : ∀ (v1 : Int32) (v2 : Int32) (v3 : Int32) (v4 : Int32) (v5 : Int32) (v7 : Int32) (h : mH), Sim G X cX12_field 8 RX12 (some .int) (mRoom 2 43) eI (k v1 v2 v3 v4 v5 v7 h) 136 [(0, .inr (.inr (12, 0))), (1, .inl v1), (2, .inl v2), (3, .inl v3), (4, .inl v4), (5, .inl v5), (7, .inl v7)] [] h) (n : Nat) : ∀ (v1 : Int32) (v2 : Int32) (v3 : Int32) (v4 : Int32) (v5 : Int32) (v7 : Int32) (h : mH), Sim G X cX12_field 8 RX12 (some .int) (mRoom 2 43) eI (f_X12_field_90 k  n v1 v2 v3 v4 v5 v7 h) 90 [(0, .inr (.inr (12, 0))), (1, .inl v1), (2, .inl v2), (3, .inl v3), (4, .inl v4), (5, .inl v5), (7, .inl v7)] [] h := by
  induction n with
  | zero =>
    intro v1 v2 v3 v4 v5 v7 h
    exact s_none
  | succ n ih =>
    intro v1 v2 v3 v4 v5 v7 h
    unfold f_X12_field_90
    refine s_iload 6 rfl dX12_field_90 ?_
    refine s_aload0 0 rfl dX12_field_92 ?_
    refine s_gi gI_RX12_181 dX12_field_93 ?_
    refine s_ic_ge (tgt := 136) dX12_field_96 (by decide) (fun q13 => ?_) (fun q13 => ?_)
    · skip
      exact s_loc [0, 1, 2, 3, 4, 5, 6] rfl (hk v1 v2 v3 v4 v5 v7 h)
    · skip
      refine s_aload0 0 rfl dX12_field_99 ?_
      refine s_gr (gR_RX12_13 0) dX12_field_100 ?_
      refine s_iload 6 rfl dX12_field_103 ?_
      refine s_chk (fun q14 => ?_)
      refine s_ial aT_46 q14 dX12_field_105 ?_
      refine s_iload1 1 rfl dX12_field_106 ?_
      refine s_ic_ne (tgt := 130) dX12_field_107 (by decide) (fun q15 => ?_) (fun q15 => ?_)
      · skip
        refine s_iincw 1 (by decide) 6 [(7, .inl (v7 + 1)), (0, .inr (.inr (12, 0))), (1, .inl v1), (2, .inl v2), (3, .inl v3), (4, .inl v4), (5, .inl v5)] rfl rfl rfl dX12_field_130 ?_
        refine s_goto (tgt := 90) dX12_field_133 (by decide) ?_
        exact s_loc [1, 2, 3, 4, 5, 6, 0] rfl (ih v1 v2 v3 v4 v5 (v7 + 1) h)
      · skip
        refine s_aload0 0 rfl dX12_field_110 ?_
        refine s_iload 6 rfl dX12_field_111 ?_
        refine s_viI [.inl v7] (fun l b hb hl => cf_X12_mask G l v7 h b hb hl) me_X12_mask vi_RX12_235 rfl rfl rfl rfl rfl dX12_field_113 (fun r16 => ?_)
        refine s_k1 dX12_field_116 ?_
        refine s_iload3 3 rfl dX12_field_117 ?_
        refine s_ishl dX12_field_118 ?_
        refine s_k1 dX12_field_119 ?_
        refine s_isub dX12_field_120 ?_
        refine s_iload2 2 rfl dX12_field_121 ?_
        refine s_ishl dX12_field_122 ?_
        refine s_iand dX12_field_123 ?_
        refine s_if_eq (tgt := 130) dX12_field_124 (by decide) (fun q17 => ?_) (fun q17 => ?_)
        · skip
          refine s_iincw 1 (by decide) 6 [(7, .inl (v7 + 1)), (0, .inr (.inr (12, 0))), (1, .inl v1), (2, .inl v2), (3, .inl v3), (4, .inl v4), (5, .inl v5)] rfl rfl rfl dX12_field_130 ?_
          refine s_goto (tgt := 90) dX12_field_133 (by decide) ?_
          exact s_loc [1, 2, 3, 4, 5, 6, 0] rfl (ih v1 v2 v3 v4 v5 (v7 + 1) r16.2)
        · skip
          refine s_bip (-2) kb_m2 dX12_field_127 ?_
          exact s_ireturn rfl rfl dX12_field_129
set_option maxRecDepth 20000 in
theorem sf_X12_field_j87 (G : mG) (X : mX) (w1 : Int32) (w2 : Int32) (w3 : Int32) (w4 : Int32) (w5 : Int32) (h : mH) : Sim G X cX12_field 8 RX12 (some .int) (mRoom 2 43) eI (f_X12_field_j87 w1 w2 w3 w4 w5 h) 87 [(0, .inr (.inr (12, 0))), (1, .inl w1), (2, .inl w2), (3, .inl w3), (4, .inl w4), (5, .inl w5)] [] h := by
  unfold f_X12_field_j87
  refine s_k0 dX12_field_87 ?_
  refine s_istorew [(7, .inl 0), (0, .inr (.inr (12, 0))), (1, .inl w1), (2, .inl w2), (3, .inl w3), (4, .inl w4), (5, .inl w5)] rfl rfl dX12_field_88 ?_
  refine s_loc [1, 2, 3, 4, 5, 6, 0] rfl ?_
  refine sf_X12_field_90 G X  _ (fun u18 u19 u20 u21 u22 u23 h24 => ?_) mFu w1 w2 w3 w4 w5 0 h
  · skip
    refine s_aload0 0 rfl dX12_field_136 ?_
    refine s_gi gI_RX12_181 dX12_field_137 ?_
    refine s_bip 24 kb_24 dX12_field_140 ?_
    refine s_ic_ne (tgt := 148) dX12_field_142 (by decide) (fun q25 => ?_) (fun q25 => ?_)
    · skip
      refine s_aload0 0 rfl dX12_field_148 ?_
      refine s_gr (gR_RX12_13 0) dX12_field_149 ?_
      refine s_aload0 0 rfl dX12_field_152 ?_
      refine s_gi gI_RX12_181 dX12_field_153 ?_
      refine s_iload1 1 rfl dX12_field_156 ?_
      refine s_chk (fun q26 => ?_)
      refine s_ias aT_46 q26 dX12_field_157 ?_
      refine s_aload0 0 rfl dX12_field_158 ?_
      refine s_gr (gR_RX12_17 0) dX12_field_159 ?_
      refine s_aload0 0 rfl dX12_field_162 ?_
      refine s_let (fun h27 => ?_)
      refine s_gi gI_RX12_181 dX12_field_163 ?_
      refine s_iload2 2 rfl dX12_field_166 ?_
      refine s_chk (fun q28 => ?_)
      refine s_ias aT_47 q28 dX12_field_167 ?_
      refine s_aload0 0 rfl dX12_field_168 ?_
      refine s_gr (gR_RX12_20 0) dX12_field_169 ?_
      refine s_aload0 0 rfl dX12_field_172 ?_
      refine s_let (fun h29 => ?_)
      refine s_gi gI_RX12_181 dX12_field_173 ?_
      refine s_iload3 3 rfl dX12_field_176 ?_
      refine s_chk (fun q30 => ?_)
      refine s_ias aT_48 q30 dX12_field_177 ?_
      refine s_aload0 0 rfl dX12_field_178 ?_
      refine s_gr (gR_RX12_23 0) dX12_field_179 ?_
      refine s_aload0 0 rfl dX12_field_182 ?_
      refine s_let (fun h31 => ?_)
      refine s_gi gI_RX12_181 dX12_field_183 ?_
      refine s_iload 4 rfl dX12_field_186 ?_
      refine s_chk (fun q32 => ?_)
      refine s_ias aT_49 q32 dX12_field_188 ?_
      refine s_aload0 0 rfl dX12_field_189 ?_
      refine s_gr (gR_RX12_26 0) dX12_field_190 ?_
      refine s_aload0 0 rfl dX12_field_193 ?_
      refine s_let (fun h33 => ?_)
      refine s_gi gI_RX12_181 dX12_field_194 ?_
      refine s_iload 5 rfl dX12_field_197 ?_
      refine s_chk (fun q34 => ?_)
      refine s_ias aT_50 q34 dX12_field_199 ?_
      refine s_aload0 0 rfl dX12_field_200 ?_
      refine s_gr (gR_RX12_29 0) dX12_field_201 ?_
      refine s_aload0 0 rfl dX12_field_204 ?_
      refine s_let (fun h35 => ?_)
      refine s_gi gI_RX12_181 dX12_field_205 ?_
      refine s_k3 dX12_field_208 ?_
      refine s_chk (fun q36 => ?_)
      refine s_ias aT_51 q36 dX12_field_209 ?_
      refine s_aload0 0 rfl dX12_field_210 ?_
      refine s_gr (gR_RX12_32 0) dX12_field_211 ?_
      refine s_aload0 0 rfl dX12_field_214 ?_
      refine s_let (fun h37 => ?_)
      refine s_gi gI_RX12_181 dX12_field_215 ?_
      refine s_km1 dX12_field_218 ?_
      refine s_chk (fun q38 => ?_)
      refine s_ias aT_52 q38 dX12_field_219 ?_
      refine s_aload0 0 rfl dX12_field_220 ?_
      refine s_gr (gR_RX12_35 0) dX12_field_221 ?_
      refine s_aload0 0 rfl dX12_field_224 ?_
      refine s_let (fun h39 => ?_)
      refine s_gi gI_RX12_181 dX12_field_225 ?_
      refine s_km1 dX12_field_228 ?_
      refine s_chk (fun q40 => ?_)
      refine s_ias aT_53 q40 dX12_field_229 ?_
      refine s_aload0 0 rfl dX12_field_230 ?_
      refine s_dup rfl dX12_field_231 ?_
      refine s_let (fun h41 => ?_)
      refine s_gi gI_RX12_181 dX12_field_232 ?_
      refine s_k1 dX12_field_235 ?_
      refine s_iadd dX12_field_236 ?_
      refine s_pi pI_RX12_181 dX12_field_237 ?_
      refine s_aload0 0 rfl dX12_field_240 ?_
      refine s_viV [] (fun l b hb hl => cf_X12_changed G l  (uI h41 12 0 2 ((h41.1 12 0 2) + 1)) b hb hl) me_X12_changed vi_RX12_228 rfl rfl rfl rfl rfl dX12_field_241 (fun r42 => ?_)
      refine s_aload0 0 rfl dX12_field_244 ?_
      refine s_gi gI_RX12_181 dX12_field_245 ?_
      refine s_k1 dX12_field_248 ?_
      refine s_isub dX12_field_249 ?_
      exact s_ireturn rfl rfl dX12_field_250
    · skip
      refine s_bip (-3) kb_m3 dX12_field_145 ?_
      exact s_ireturn rfl rfl dX12_field_147
set_option maxRecDepth 20000 in
theorem sf_X12_field_j80 (G : mG) (X : mX) (w1 : Int32) (w2 : Int32) (w3 : Int32) (w4 : Int32) (w5 : Int32) (h : mH) : Sim G X cX12_field 8 RX12 (some .int) (mRoom 2 43) eI (f_X12_field_j80 w1 w2 w3 w4 w5 h) 80 [(0, .inr (.inr (12, 0))), (1, .inl w1), (2, .inl w2), (3, .inl w3), (4, .inl w4), (5, .inl w5)] [] h := by
  unfold f_X12_field_j80
  refine s_iload 5 rfl dX12_field_80 ?_
  refine s_if_eq (tgt := 87) dX12_field_82 (by decide) (fun q12 => ?_) (fun q12 => ?_)
  · skip
    exact s_loc [0, 1, 2, 3, 4, 5] rfl (sf_X12_field_j87 G X w1 w2 w3 w4 w5 h)
  · skip
    refine s_km1 dX12_field_85 ?_
    exact s_ireturn rfl rfl dX12_field_86
set_option maxRecDepth 20000 in
theorem sf_X12_field (G : mG) (X : mX) (x1 : Int32) (x2 : Int32) (x3 : Int32) (x4 : Int32) (x5 : Int32)  (h : mH) : Sim G X cX12_field 8 RX12 (some .int) (mRoom 2 43) eI (f_X12_field x1 x2 x3 x4 x5 h) 0 [(0, .inr (.inr (12, 0))), (1, .inl x1), (2, .inl x2), (3, .inl x3), (4, .inl x4), (5, .inl x5)] [] h := by
  unfold f_X12_field
  refine s_aload0 0 rfl dX12_field_0 ?_
  refine s_iload1 1 rfl dX12_field_1 ?_
  refine s_viI [.inl x1] (fun l b hb hl => cf_X12_isRegister G l x1 h b hb hl) me_X12_isRegister vi_RX12_231 rfl rfl rfl rfl rfl dX12_field_2 (fun r1 => ?_)
  refine s_if_eq (tgt := 45) dX12_field_5 (by decide) (fun q2 => ?_) (fun q2 => ?_)
  · skip
    exact s_loc [0, 1, 2, 3, 4, 5] rfl (sf_X12_field_j45 G X x1 x2 x3 x4 x5 r1.2)
  · skip
    refine s_iload 4 rfl dX12_field_8 ?_
    refine s_k0 dX12_field_10 ?_
    refine s_bip 6 kb_6 dX12_field_11 ?_
    refine s_siI [.inl x4, .inl 0, .inl 6] (fun l b hb hl => cf_X12_in G l x4 0 6 r1.2 b hb hl) me_X12_in si_RX12_184 rfl rfl rfl rfl rfl dX12_field_13 (fun r3 => ?_)
    refine s_if_eq (tgt := 45) dX12_field_16 (by decide) (fun q4 => ?_) (fun q4 => ?_)
    · skip
      exact s_loc [0, 1, 2, 3, 4, 5] rfl (sf_X12_field_j45 G X x1 x2 x3 x4 x5 r3.2)
    · skip
      refine s_iload2 2 rfl dX12_field_19 ?_
      refine s_if_lt (tgt := 45) dX12_field_20 (by decide) (fun q5 => ?_) (fun q5 => ?_)
      · skip
        exact s_loc [0, 1, 2, 3, 4, 5] rfl (sf_X12_field_j45 G X x1 x2 x3 x4 x5 r3.2)
      · skip
        refine s_iload3 3 rfl dX12_field_23 ?_
        refine s_k1 dX12_field_24 ?_
        refine s_bip 8 kb_8 dX12_field_25 ?_
        refine s_siI [.inl x3, .inl 1, .inl 8] (fun l b hb hl => cf_X12_in G l x3 1 8 r3.2 b hb hl) me_X12_in si_RX12_184 rfl rfl rfl rfl rfl dX12_field_27 (fun r6 => ?_)
        refine s_if_eq (tgt := 45) dX12_field_30 (by decide) (fun q7 => ?_) (fun q7 => ?_)
        · skip
          exact s_loc [0, 1, 2, 3, 4, 5] rfl (sf_X12_field_j45 G X x1 x2 x3 x4 x5 r6.2)
        · skip
          refine s_iload2 2 rfl dX12_field_33 ?_
          refine s_bip 16 kb_16 dX12_field_34 ?_
          refine s_iload3 3 rfl dX12_field_36 ?_
          refine s_isub dX12_field_37 ?_
          refine s_ic_gt (tgt := 45) dX12_field_38 (by decide) (fun q8 => ?_) (fun q8 => ?_)
          · skip
            exact s_loc [0, 1, 2, 3, 4, 5] rfl (sf_X12_field_j45 G X x1 x2 x3 x4 x5 r6.2)
          · skip
            refine s_k1 dX12_field_41 ?_
            refine s_goto (tgt := 46) dX12_field_42 (by decide) ?_
            refine s_istorew [(6, .inl 1), (0, .inr (.inr (12, 0))), (1, .inl x1), (2, .inl x2), (3, .inl x3), (4, .inl x4), (5, .inl x5)] rfl rfl dX12_field_46 ?_
            refine s_iload 0 rfl dX12_field_48 ?_
            refine s_if_eq_N (tgt := 85) (by decide) dX12_field_50 (by decide) ?_
            refine s_iload 6 rfl dX12_field_53 ?_
            refine s_k0 dX12_field_55 ?_
            refine s_k1 dX12_field_56 ?_
            refine s_iload3 4 rfl dX12_field_57 ?_
            refine s_ishl dX12_field_58 ?_
            refine s_k1 dX12_field_59 ?_
            refine s_isub dX12_field_60 ?_
            refine s_siI [.inl x5, .inl 0, .inl ((1 <<< (x3 &&& 31)) - 1)] (fun l b hb hl => cf_X12_in G l x5 0 ((1 <<< (x3 &&& 31)) - 1) r6.2 b hb hl) me_X12_in si_RX12_184 rfl rfl rfl rfl rfl dX12_field_61 (fun r9 => ?_)
            refine s_if_eq (tgt := 85) dX12_field_64 (by decide) (fun q10 => ?_) (fun q10 => ?_)
            · skip
              refine s_km1 dX12_field_85 ?_
              exact s_ireturn rfl rfl dX12_field_86
            · skip
              refine s_iload 5 rfl dX12_field_67 ?_
              refine s_k4 dX12_field_69 ?_
              refine s_ic_eq (tgt := 80) dX12_field_70 (by decide) (fun q11 => ?_) (fun q11 => ?_)
              · skip
                exact s_loc [1, 2, 3, 4, 5, 6] rfl (sf_X12_field_j80 G X x1 x2 x3 x4 x5 r9.2)
              · skip
                refine s_iload 5 rfl dX12_field_73 ?_
                refine s_bip 6 kb_6 dX12_field_75 ?_
                refine s_ic_ne (tgt := 87) dX12_field_77 (by decide) (fun q43 => ?_) (fun q43 => ?_)
                · skip
                  exact s_loc [1, 2, 3, 4, 5, 6] rfl (sf_X12_field_j87 G X x1 x2 x3 x4 x5 r9.2)
                · skip
                  exact s_loc [1, 2, 3, 4, 5, 6] rfl (sf_X12_field_j80 G X x1 x2 x3 x4 x5 r9.2)
set_option maxRecDepth 20000 in
theorem cf_X12_field (G : mG) (l : Launch) (x1 : Int32) (x2 : Int32) (x3 : Int32) (x4 : Int32) (x5 : Int32)  (h : mH) (b : Int32 × mH) (hb : f_X12_field x1 x2 x3 x4 x5 h = some b) (hl : ∀ v ∈ ([.inr (.inr (12, 0)), .inl x1, .inl x2, .inl x3, .inl x4, .inl x5] : List mV), mLi v) : mMet G l yX12_field cX12_field 8 (some .int) (mRoom 2 43) [.inr (.inr (12, 0)), .inl x1, .inl x2, .inl x3, .inl x4, .inl x5] h (eI b) :=
  mMet.of (y := yX12_field) (as := [.inr (.inr (12, 0)), .inl x1, .inl x2, .inl x3, .inl x4, .inl x5]) (by decide +kernel) (Nat.le_of_ble_eq_true rfl) (fun X => sf_X12_field G X x1 x2 x3 x4 x5  h) hl b hb
